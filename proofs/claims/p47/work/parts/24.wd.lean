/-! WALKS: Mover_giveToCore, Mover_gives, Mover_giveTo, Mover_moveAll, Packet_isYetToPut, Mover_firstToPut, Mover_putPiece, Mover_putAll -/
theorem dX2_giveToCore_0 : decode cX2_giveToCore 0 = .ok (.aload_n 1, 1) := by decide +kernel
theorem dX2_giveToCore_1 : decode cX2_giveToCore 1 = .ok (.getfield 94, 3) := by decide +kernel
theorem dX2_giveToCore_4 : decode cX2_giveToCore 4 = .ok (.iconst 0, 1) := by decide +kernel
theorem dX2_giveToCore_5 : decode cX2_giveToCore 5 = .ok (.iaload, 1) := by decide +kernel
theorem dX2_giveToCore_6 : decode cX2_giveToCore 6 = .ok (.istore_n 3, 1) := by decide +kernel
theorem dX2_giveToCore_7 : decode cX2_giveToCore 7 = .ok (.iload_n 3, 1) := by decide +kernel
theorem dX2_giveToCore_8 : decode cX2_giveToCore 8 = .ok (.ifCond .ne 13, 3) := by decide +kernel
theorem dX2_giveToCore_11 : decode cX2_giveToCore 11 = .ok (.aload_n 1, 1) := by decide +kernel
theorem dX2_giveToCore_12 : decode cX2_giveToCore 12 = .ok (.iconst 4, 1) := by decide +kernel
theorem dX2_giveToCore_13 : decode cX2_giveToCore 13 = .ok (.putfield 109, 3) := by decide +kernel
theorem dX2_giveToCore_16 : decode cX2_giveToCore 16 = .ok (.aload_n 2, 1) := by decide +kernel
theorem dX2_giveToCore_17 : decode cX2_giveToCore 17 = .ok (.iconst (-1), 1) := by decide +kernel
theorem dX2_giveToCore_18 : decode cX2_giveToCore 18 = .ok (.putfield 148, 3) := by decide +kernel
theorem dX2_giveToCore_21 : decode cX2_giveToCore 21 = .ok (.aload_n 1, 1) := by decide +kernel
theorem dX2_giveToCore_22 : decode cX2_giveToCore 22 = .ok (.aload_n 2, 1) := by decide +kernel
theorem dX2_giveToCore_23 : decode cX2_giveToCore 23 = .ok (.iload_n 3, 1) := by decide +kernel
theorem dX2_giveToCore_24 : decode cX2_giveToCore 24 = .ok (.invokevirtual 151, 3) := by decide +kernel
theorem dX2_giveToCore_27 : decode cX2_giveToCore 27 = .ok (.aload_n 0, 1) := by decide +kernel
theorem dX2_giveToCore_28 : decode cX2_giveToCore 28 = .ok (.getfield 39, 3) := by decide +kernel
theorem dX2_giveToCore_31 : decode cX2_giveToCore 31 = .ok (.invokevirtual 154, 3) := by decide +kernel
theorem dX2_giveToCore_34 : decode cX2_giveToCore 34 = .ok (.aload_n 2, 1) := by decide +kernel
theorem dX2_giveToCore_35 : decode cX2_giveToCore 35 = .ok (.dup, 1) := by decide +kernel
theorem dX2_giveToCore_36 : decode cX2_giveToCore 36 = .ok (.getfield 162, 3) := by decide +kernel
theorem dX2_giveToCore_39 : decode cX2_giveToCore 39 = .ok (.iconst 1, 1) := by decide +kernel
theorem dX2_giveToCore_40 : decode cX2_giveToCore 40 = .ok (.iadd, 1) := by decide +kernel
theorem dX2_giveToCore_41 : decode cX2_giveToCore 41 = .ok (.putfield 162, 3) := by decide +kernel
theorem dX2_giveToCore_44 : decode cX2_giveToCore 44 = .ok (.aload_n 2, 1) := by decide +kernel
theorem dX2_giveToCore_45 : decode cX2_giveToCore 45 = .ok (.iload_n 3, 1) := by decide +kernel
theorem dX2_giveToCore_46 : decode cX2_giveToCore 46 = .ok (.invokevirtual 151, 3) := by decide +kernel
theorem dX2_giveToCore_49 : decode cX2_giveToCore 49 = .ok (.ifCond .eq 8, 3) := by decide +kernel
theorem dX2_giveToCore_52 : decode cX2_giveToCore 52 = .ok (.aload_n 0, 1) := by decide +kernel
theorem dX2_giveToCore_53 : decode cX2_giveToCore 53 = .ok (.aload_n 2, 1) := by decide +kernel
theorem dX2_giveToCore_54 : decode cX2_giveToCore 54 = .ok (.invokevirtual 165, 3) := by decide +kernel
theorem dX2_giveToCore_57 : decode cX2_giveToCore 57 = .ok (.return_, 1) := by decide +kernel
theorem dX2_gives_0 : decode cX2_gives 0 = .ok (.aload_n 3, 1) := by decide +kernel
theorem dX2_gives_1 : decode cX2_gives 1 = .ok (.aload_n 0, 1) := by decide +kernel
theorem dX2_gives_2 : decode cX2_gives 2 = .ok (.getfield 39, 3) := by decide +kernel
theorem dX2_gives_5 : decode cX2_gives 5 = .ok (.invokevirtual 79, 3) := by decide +kernel
theorem dX2_gives_8 : decode cX2_gives 8 = .ok (.ifCond .ne 5, 3) := by decide +kernel
theorem dX2_gives_11 : decode cX2_gives 11 = .ok (.iconst 0, 1) := by decide +kernel
theorem dX2_gives_12 : decode cX2_gives 12 = .ok (.ireturn, 1) := by decide +kernel
theorem dX2_gives_13 : decode cX2_gives 13 = .ok (.aload_n 0, 1) := by decide +kernel
theorem dX2_gives_14 : decode cX2_gives 14 = .ok (.getfield 27, 3) := by decide +kernel
theorem dX2_gives_17 : decode cX2_gives 17 = .ok (.aload_n 3, 1) := by decide +kernel
theorem dX2_gives_18 : decode cX2_gives 18 = .ok (.getfield 85, 3) := by decide +kernel
theorem dX2_gives_21 : decode cX2_gives 21 = .ok (.iconst 0, 1) := by decide +kernel
theorem dX2_gives_22 : decode cX2_gives 22 = .ok (.iaload, 1) := by decide +kernel
theorem dX2_gives_23 : decode cX2_gives 23 = .ok (.invokevirtual 88, 3) := by decide +kernel
theorem dX2_gives_26 : decode cX2_gives 26 = .ok (.astore 4, 2) := by decide +kernel
theorem dX2_gives_28 : decode cX2_gives 28 = .ok (.aload 4, 2) := by decide +kernel
theorem dX2_gives_30 : decode cX2_gives 30 = .ok (.ifnonnull 5, 3) := by decide +kernel
theorem dX2_gives_33 : decode cX2_gives 33 = .ok (.iconst 0, 1) := by decide +kernel
theorem dX2_gives_34 : decode cX2_gives 34 = .ok (.ireturn, 1) := by decide +kernel
theorem dX2_gives_35 : decode cX2_gives 35 = .ok (.aload_n 3, 1) := by decide +kernel
theorem dX2_gives_36 : decode cX2_gives 36 = .ok (.getfield 94, 3) := by decide +kernel
theorem dX2_gives_39 : decode cX2_gives 39 = .ok (.iconst 0, 1) := by decide +kernel
theorem dX2_gives_40 : decode cX2_gives 40 = .ok (.iaload, 1) := by decide +kernel
theorem dX2_gives_41 : decode cX2_gives 41 = .ok (.ifCond .ne 7, 3) := by decide +kernel
theorem dX2_gives_44 : decode cX2_gives 44 = .ok (.iconst 1, 1) := by decide +kernel
theorem dX2_gives_45 : decode cX2_gives 45 = .ok (.goto 4, 3) := by decide +kernel
theorem dX2_gives_48 : decode cX2_gives 48 = .ok (.iconst 0, 1) := by decide +kernel
theorem dX2_gives_49 : decode cX2_gives 49 = .ok (.istore 5, 2) := by decide +kernel
theorem dX2_gives_51 : decode cX2_gives 51 = .ok (.iload 5, 2) := by decide +kernel
theorem dX2_gives_53 : decode cX2_gives 53 = .ok (.ifCond .eq 24, 3) := by decide +kernel
theorem dX2_gives_56 : decode cX2_gives 56 = .ok (.aload_n 0, 1) := by decide +kernel
theorem dX2_gives_57 : decode cX2_gives 57 = .ok (.getfield 18, 3) := by decide +kernel
theorem dX2_gives_60 : decode cX2_gives 60 = .ok (.iload_n 1, 1) := by decide +kernel
theorem dX2_gives_61 : decode cX2_gives 61 = .ok (.aload 4, 2) := by decide +kernel
theorem dX2_gives_63 : decode cX2_gives 63 = .ok (.getfield 97, 3) := by decide +kernel
theorem dX2_gives_66 : decode cX2_gives 66 = .ok (.aload 4, 2) := by decide +kernel
theorem dX2_gives_68 : decode cX2_gives 68 = .ok (.invokevirtual 102, 3) := by decide +kernel
theorem dX2_gives_71 : decode cX2_gives 71 = .ok (.invokevirtual 105, 3) := by decide +kernel
theorem dX2_gives_74 : decode cX2_gives 74 = .ok (.goto 7, 3) := by decide +kernel
theorem dX2_gives_77 : decode cX2_gives 77 = .ok (.aload_n 3, 1) := by decide +kernel
theorem dX2_gives_78 : decode cX2_gives 78 = .ok (.getfield 109, 3) := by decide +kernel
theorem dX2_gives_81 : decode cX2_gives 81 = .ok (.istore 6, 2) := by decide +kernel
theorem dX2_gives_83 : decode cX2_gives 83 = .ok (.iload 6, 2) := by decide +kernel
theorem dX2_gives_85 : decode cX2_gives 85 = .ok (.iload_n 2, 1) := by decide +kernel
theorem dX2_gives_86 : decode cX2_gives 86 = .ok (.if_icmp .eq 5, 3) := by decide +kernel
theorem dX2_gives_89 : decode cX2_gives 89 = .ok (.iconst 0, 1) := by decide +kernel
theorem dX2_gives_90 : decode cX2_gives 90 = .ok (.ireturn, 1) := by decide +kernel
theorem dX2_gives_91 : decode cX2_gives 91 = .ok (.iload_n 2, 1) := by decide +kernel
theorem dX2_gives_92 : decode cX2_gives 92 = .ok (.iconst 4, 1) := by decide +kernel
theorem dX2_gives_93 : decode cX2_gives 93 = .ok (.if_icmp .ne 12, 3) := by decide +kernel
theorem dX2_gives_96 : decode cX2_gives 96 = .ok (.aload_n 0, 1) := by decide +kernel
theorem dX2_gives_97 : decode cX2_gives 97 = .ok (.aload_n 3, 1) := by decide +kernel
theorem dX2_gives_98 : decode cX2_gives 98 = .ok (.aload 4, 2) := by decide +kernel
theorem dX2_gives_100 : decode cX2_gives 100 = .ok (.invokevirtual 112, 3) := by decide +kernel
theorem dX2_gives_103 : decode cX2_gives 103 = .ok (.iconst 1, 1) := by decide +kernel
theorem dX2_gives_104 : decode cX2_gives 104 = .ok (.ireturn, 1) := by decide +kernel
theorem dX2_gives_105 : decode cX2_gives 105 = .ok (.iload 5, 2) := by decide +kernel
theorem dX2_gives_107 : decode cX2_gives 107 = .ok (.ifCond .eq 27, 3) := by decide +kernel
theorem dX2_gives_110 : decode cX2_gives 110 = .ok (.aload_n 0, 1) := by decide +kernel
theorem dX2_gives_111 : decode cX2_gives 111 = .ok (.getfield 15, 3) := by decide +kernel
theorem dX2_gives_114 : decode cX2_gives 114 = .ok (.getfield 116, 3) := by decide +kernel
theorem dX2_gives_117 : decode cX2_gives 117 = .ok (.iload_n 1, 1) := by decide +kernel
theorem dX2_gives_118 : decode cX2_gives 118 = .ok (.iconst 4, 1) := by decide +kernel
theorem dX2_gives_119 : decode cX2_gives 119 = .ok (.imul, 1) := by decide +kernel
theorem dX2_gives_120 : decode cX2_gives 120 = .ok (.iload_n 2, 1) := by decide +kernel
theorem dX2_gives_121 : decode cX2_gives 121 = .ok (.iadd, 1) := by decide +kernel
theorem dX2_gives_122 : decode cX2_gives 122 = .ok (.baload, 1) := by decide +kernel
theorem dX2_gives_123 : decode cX2_gives 123 = .ok (.ifCond .eq 11, 3) := by decide +kernel
theorem dX2_gives_126 : decode cX2_gives 126 = .ok (.aload_n 0, 1) := by decide +kernel
theorem dX2_gives_127 : decode cX2_gives 127 = .ok (.aload 4, 2) := by decide +kernel
theorem dX2_gives_129 : decode cX2_gives 129 = .ok (.invokevirtual 120, 3) := by decide +kernel
theorem dX2_gives_132 : decode cX2_gives 132 = .ok (.iconst 0, 1) := by decide +kernel
theorem dX2_gives_133 : decode cX2_gives 133 = .ok (.ireturn, 1) := by decide +kernel
theorem dX2_gives_134 : decode cX2_gives 134 = .ok (.aload_n 0, 1) := by decide +kernel
theorem dX2_gives_135 : decode cX2_gives 135 = .ok (.aload_n 0, 1) := by decide +kernel
theorem dX2_gives_136 : decode cX2_gives 136 = .ok (.getfield 15, 3) := by decide +kernel
theorem dX2_gives_139 : decode cX2_gives 139 = .ok (.getfield 124, 3) := by decide +kernel
theorem dX2_gives_142 : decode cX2_gives 142 = .ok (.iload_n 1, 1) := by decide +kernel
theorem dX2_gives_143 : decode cX2_gives 143 = .ok (.iconst 4, 1) := by decide +kernel
theorem dX2_gives_144 : decode cX2_gives 144 = .ok (.imul, 1) := by decide +kernel
theorem dX2_gives_145 : decode cX2_gives 145 = .ok (.iload_n 2, 1) := by decide +kernel
theorem dX2_gives_146 : decode cX2_gives 146 = .ok (.iadd, 1) := by decide +kernel
theorem dX2_gives_147 : decode cX2_gives 147 = .ok (.iaload, 1) := by decide +kernel
theorem dX2_gives_148 : decode cX2_gives 148 = .ok (.iload_n 2, 1) := by decide +kernel
theorem dX2_gives_149 : decode cX2_gives 149 = .ok (.aload_n 3, 1) := by decide +kernel
theorem dX2_gives_150 : decode cX2_gives 150 = .ok (.aload 4, 2) := by decide +kernel
theorem dX2_gives_152 : decode cX2_gives 152 = .ok (.invokevirtual 127, 3) := by decide +kernel
theorem dX2_gives_155 : decode cX2_gives 155 = .ok (.ireturn, 1) := by decide +kernel
theorem dX2_giveTo_0 : decode cX2_giveTo 0 = .ok (.aload_n 0, 1) := by decide +kernel
theorem dX2_giveTo_1 : decode cX2_giveTo 1 = .ok (.getfield 26, 3) := by decide +kernel
theorem dX2_giveTo_4 : decode cX2_giveTo 4 = .ok (.iload_n 1, 1) := by decide +kernel
theorem dX2_giveTo_5 : decode cX2_giveTo 5 = .ok (.aaload, 1) := by decide +kernel
theorem dX2_giveTo_6 : decode cX2_giveTo 6 = .ok (.astore_n 3, 1) := by decide +kernel
theorem dX2_giveTo_7 : decode cX2_giveTo 7 = .ok (.iconst 1, 1) := by decide +kernel
theorem dX2_giveTo_8 : decode cX2_giveTo 8 = .ok (.istore 4, 2) := by decide +kernel
theorem dX2_giveTo_10 : decode cX2_giveTo 10 = .ok (.iload 4, 2) := by decide +kernel
theorem dX2_giveTo_12 : decode cX2_giveTo 12 = .ok (.ifCond .lt 90, 3) := by decide +kernel
theorem dX2_giveTo_15 : decode cX2_giveTo 15 = .ok (.aload_n 3, 1) := by decide +kernel
theorem dX2_giveTo_16 : decode cX2_giveTo 16 = .ok (.getfield 67, 3) := by decide +kernel
theorem dX2_giveTo_19 : decode cX2_giveTo 19 = .ok (.iload 4, 2) := by decide +kernel
theorem dX2_giveTo_21 : decode cX2_giveTo 21 = .ok (.iconst 5, 1) := by decide +kernel
theorem dX2_giveTo_22 : decode cX2_giveTo 22 = .ok (.imul, 1) := by decide +kernel
theorem dX2_giveTo_23 : decode cX2_giveTo 23 = .ok (.iload_n 2, 1) := by decide +kernel
theorem dX2_giveTo_24 : decode cX2_giveTo 24 = .ok (.iadd, 1) := by decide +kernel
theorem dX2_giveTo_25 : decode cX2_giveTo 25 = .ok (.iaload, 1) := by decide +kernel
theorem dX2_giveTo_26 : decode cX2_giveTo 26 = .ok (.istore 5, 2) := by decide +kernel
theorem dX2_giveTo_28 : decode cX2_giveTo 28 = .ok (.iconst 0, 1) := by decide +kernel
theorem dX2_giveTo_29 : decode cX2_giveTo 29 = .ok (.istore 6, 2) := by decide +kernel
theorem dX2_giveTo_31 : decode cX2_giveTo 31 = .ok (.iload 6, 2) := by decide +kernel
theorem dX2_giveTo_33 : decode cX2_giveTo 33 = .ok (.iconst 5, 1) := by decide +kernel
theorem dX2_giveTo_34 : decode cX2_giveTo 34 = .ok (.if_icmp .ge 62, 3) := by decide +kernel
theorem dX2_giveTo_37 : decode cX2_giveTo 37 = .ok (.iload 5, 2) := by decide +kernel
theorem dX2_giveTo_39 : decode cX2_giveTo 39 = .ok (.iload 6, 2) := by decide +kernel
theorem dX2_giveTo_41 : decode cX2_giveTo 41 = .ok (.iadd, 1) := by decide +kernel
theorem dX2_giveTo_42 : decode cX2_giveTo 42 = .ok (.iconst 5, 1) := by decide +kernel
theorem dX2_giveTo_43 : decode cX2_giveTo 43 = .ok (.irem, 1) := by decide +kernel
theorem dX2_giveTo_44 : decode cX2_giveTo 44 = .ok (.istore 7, 2) := by decide +kernel
theorem dX2_giveTo_46 : decode cX2_giveTo 46 = .ok (.aload_n 0, 1) := by decide +kernel
theorem dX2_giveTo_47 : decode cX2_giveTo 47 = .ok (.iload_n 1, 1) := by decide +kernel
theorem dX2_giveTo_48 : decode cX2_giveTo 48 = .ok (.iload_n 2, 1) := by decide +kernel
theorem dX2_giveTo_49 : decode cX2_giveTo 49 = .ok (.aload_n 3, 1) := by decide +kernel
theorem dX2_giveTo_50 : decode cX2_giveTo 50 = .ok (.getfield 71, 3) := by decide +kernel
theorem dX2_giveTo_53 : decode cX2_giveTo 53 = .ok (.iload 4, 2) := by decide +kernel
theorem dX2_giveTo_55 : decode cX2_giveTo 55 = .ok (.iconst 5, 1) := by decide +kernel
theorem dX2_giveTo_56 : decode cX2_giveTo 56 = .ok (.imul, 1) := by decide +kernel
theorem dX2_giveTo_57 : decode cX2_giveTo 57 = .ok (.iload 7, 2) := by decide +kernel
theorem dX2_giveTo_59 : decode cX2_giveTo 59 = .ok (.iadd, 1) := by decide +kernel
theorem dX2_giveTo_60 : decode cX2_giveTo 60 = .ok (.aaload, 1) := by decide +kernel
theorem dX2_giveTo_61 : decode cX2_giveTo 61 = .ok (.invokevirtual 75, 3) := by decide +kernel
theorem dX2_giveTo_64 : decode cX2_giveTo 64 = .ok (.ifCond .eq 26, 3) := by decide +kernel
theorem dX2_giveTo_67 : decode cX2_giveTo 67 = .ok (.aload_n 3, 1) := by decide +kernel
theorem dX2_giveTo_68 : decode cX2_giveTo 68 = .ok (.getfield 67, 3) := by decide +kernel
theorem dX2_giveTo_71 : decode cX2_giveTo 71 = .ok (.iload 4, 2) := by decide +kernel
theorem dX2_giveTo_73 : decode cX2_giveTo 73 = .ok (.iconst 5, 1) := by decide +kernel
theorem dX2_giveTo_74 : decode cX2_giveTo 74 = .ok (.imul, 1) := by decide +kernel
theorem dX2_giveTo_75 : decode cX2_giveTo 75 = .ok (.iload_n 2, 1) := by decide +kernel
theorem dX2_giveTo_76 : decode cX2_giveTo 76 = .ok (.iadd, 1) := by decide +kernel
theorem dX2_giveTo_77 : decode cX2_giveTo 77 = .ok (.iload 7, 2) := by decide +kernel
theorem dX2_giveTo_79 : decode cX2_giveTo 79 = .ok (.iconst 1, 1) := by decide +kernel
theorem dX2_giveTo_80 : decode cX2_giveTo 80 = .ok (.iadd, 1) := by decide +kernel
theorem dX2_giveTo_81 : decode cX2_giveTo 81 = .ok (.iconst 5, 1) := by decide +kernel
theorem dX2_giveTo_82 : decode cX2_giveTo 82 = .ok (.irem, 1) := by decide +kernel
theorem dX2_giveTo_83 : decode cX2_giveTo 83 = .ok (.iastore, 1) := by decide +kernel
theorem dX2_giveTo_84 : decode cX2_giveTo 84 = .ok (.aload_n 0, 1) := by decide +kernel
theorem dX2_giveTo_85 : decode cX2_giveTo 85 = .ok (.iconst 1, 1) := by decide +kernel
theorem dX2_giveTo_86 : decode cX2_giveTo 86 = .ok (.putfield 42, 3) := by decide +kernel
theorem dX2_giveTo_89 : decode cX2_giveTo 89 = .ok (.return_, 1) := by decide +kernel
theorem dX2_giveTo_90 : decode cX2_giveTo 90 = .ok (.iinc 6 1, 3) := by decide +kernel
theorem dX2_giveTo_93 : decode cX2_giveTo 93 = .ok (.goto (-62), 3) := by decide +kernel
theorem dX2_giveTo_96 : decode cX2_giveTo 96 = .ok (.iinc 4 (-1), 3) := by decide +kernel
theorem dX2_giveTo_99 : decode cX2_giveTo 99 = .ok (.goto (-89), 3) := by decide +kernel
theorem dX2_giveTo_102 : decode cX2_giveTo 102 = .ok (.return_, 1) := by decide +kernel
theorem dX2_moveAll_0 : decode cX2_moveAll 0 = .ok (.iconst 0, 1) := by decide +kernel
theorem dX2_moveAll_1 : decode cX2_moveAll 1 = .ok (.istore_n 1, 1) := by decide +kernel
theorem dX2_moveAll_2 : decode cX2_moveAll 2 = .ok (.iload_n 1, 1) := by decide +kernel
theorem dX2_moveAll_3 : decode cX2_moveAll 3 = .ok (.aload_n 0, 1) := by decide +kernel
theorem dX2_moveAll_4 : decode cX2_moveAll 4 = .ok (.getfield 15, 3) := by decide +kernel
theorem dX2_moveAll_7 : decode cX2_moveAll 7 = .ok (.getfield 46, 3) := by decide +kernel
theorem dX2_moveAll_10 : decode cX2_moveAll 10 = .ok (.if_icmp .ge 52, 3) := by decide +kernel
theorem dX2_moveAll_13 : decode cX2_moveAll 13 = .ok (.aload_n 0, 1) := by decide +kernel
theorem dX2_moveAll_14 : decode cX2_moveAll 14 = .ok (.getfield 26, 3) := by decide +kernel
theorem dX2_moveAll_17 : decode cX2_moveAll 17 = .ok (.iload_n 1, 1) := by decide +kernel
theorem dX2_moveAll_18 : decode cX2_moveAll 18 = .ok (.aaload, 1) := by decide +kernel
theorem dX2_moveAll_19 : decode cX2_moveAll 19 = .ok (.getfield 56, 3) := by decide +kernel
theorem dX2_moveAll_22 : decode cX2_moveAll 22 = .ok (.ifCond .eq 34, 3) := by decide +kernel
theorem dX2_moveAll_25 : decode cX2_moveAll 25 = .ok (.aload_n 0, 1) := by decide +kernel
theorem dX2_moveAll_26 : decode cX2_moveAll 26 = .ok (.getfield 26, 3) := by decide +kernel
theorem dX2_moveAll_29 : decode cX2_moveAll 29 = .ok (.iload_n 1, 1) := by decide +kernel
theorem dX2_moveAll_30 : decode cX2_moveAll 30 = .ok (.aaload, 1) := by decide +kernel
theorem dX2_moveAll_31 : decode cX2_moveAll 31 = .ok (.invokevirtual 59, 3) := by decide +kernel
theorem dX2_moveAll_34 : decode cX2_moveAll 34 = .ok (.ifCond .le 22, 3) := by decide +kernel
theorem dX2_moveAll_37 : decode cX2_moveAll 37 = .ok (.iconst 0, 1) := by decide +kernel
theorem dX2_moveAll_38 : decode cX2_moveAll 38 = .ok (.istore_n 2, 1) := by decide +kernel
theorem dX2_moveAll_39 : decode cX2_moveAll 39 = .ok (.iload_n 2, 1) := by decide +kernel
theorem dX2_moveAll_40 : decode cX2_moveAll 40 = .ok (.iconst 5, 1) := by decide +kernel
theorem dX2_moveAll_41 : decode cX2_moveAll 41 = .ok (.if_icmp .ge 15, 3) := by decide +kernel
theorem dX2_moveAll_44 : decode cX2_moveAll 44 = .ok (.aload_n 0, 1) := by decide +kernel
theorem dX2_moveAll_45 : decode cX2_moveAll 45 = .ok (.iload_n 1, 1) := by decide +kernel
theorem dX2_moveAll_46 : decode cX2_moveAll 46 = .ok (.iload_n 2, 1) := by decide +kernel
theorem dX2_moveAll_47 : decode cX2_moveAll 47 = .ok (.invokevirtual 63, 3) := by decide +kernel
theorem dX2_moveAll_50 : decode cX2_moveAll 50 = .ok (.iinc 2 1, 3) := by decide +kernel
theorem dX2_moveAll_53 : decode cX2_moveAll 53 = .ok (.goto (-14), 3) := by decide +kernel
theorem dX2_moveAll_56 : decode cX2_moveAll 56 = .ok (.iinc 1 1, 3) := by decide +kernel
theorem dX2_moveAll_59 : decode cX2_moveAll 59 = .ok (.goto (-57), 3) := by decide +kernel
theorem dX2_moveAll_62 : decode cX2_moveAll 62 = .ok (.return_, 1) := by decide +kernel
theorem dX4_isYetToPut_0 : decode cX4_isYetToPut 0 = .ok (.aload_n 0, 1) := by decide +kernel
theorem dX4_isYetToPut_1 : decode cX4_isYetToPut 1 = .ok (.getfield 20, 3) := by decide +kernel
theorem dX4_isYetToPut_4 : decode cX4_isYetToPut 4 = .ok (.aload_n 0, 1) := by decide +kernel
theorem dX4_isYetToPut_5 : decode cX4_isYetToPut 5 = .ok (.getfield 17, 3) := by decide +kernel
theorem dX4_isYetToPut_8 : decode cX4_isYetToPut 8 = .ok (.if_icmp .ge 16, 3) := by decide +kernel
theorem dX4_isYetToPut_11 : decode cX4_isYetToPut 11 = .ok (.aload_n 0, 1) := by decide +kernel
theorem dX4_isYetToPut_12 : decode cX4_isYetToPut 12 = .ok (.getfield 23, 3) := by decide +kernel
theorem dX4_isYetToPut_15 : decode cX4_isYetToPut 15 = .ok (.bipush 108, 2) := by decide +kernel
theorem dX4_isYetToPut_17 : decode cX4_isYetToPut 17 = .ok (.if_icmp .eq 7, 3) := by decide +kernel
theorem dX4_isYetToPut_20 : decode cX4_isYetToPut 20 = .ok (.iconst 1, 1) := by decide +kernel
theorem dX4_isYetToPut_21 : decode cX4_isYetToPut 21 = .ok (.goto 4, 3) := by decide +kernel
theorem dX4_isYetToPut_24 : decode cX4_isYetToPut 24 = .ok (.iconst 0, 1) := by decide +kernel
theorem dX4_isYetToPut_25 : decode cX4_isYetToPut 25 = .ok (.ireturn, 1) := by decide +kernel
theorem dX2_firstToPut_0 : decode cX2_firstToPut 0 = .ok (.aload_n 1, 1) := by decide +kernel
theorem dX2_firstToPut_1 : decode cX2_firstToPut 1 = .ok (.getfield 216, 3) := by decide +kernel
theorem dX2_firstToPut_4 : decode cX2_firstToPut 4 = .ok (.iload_n 3, 1) := by decide +kernel
theorem dX2_firstToPut_5 : decode cX2_firstToPut 5 = .ok (.iaload, 1) := by decide +kernel
theorem dX2_firstToPut_6 : decode cX2_firstToPut 6 = .ok (.istore 4, 2) := by decide +kernel
theorem dX2_firstToPut_8 : decode cX2_firstToPut 8 = .ok (.iload 4, 2) := by decide +kernel
theorem dX2_firstToPut_10 : decode cX2_firstToPut 10 = .ok (.aload_n 0, 1) := by decide +kernel
theorem dX2_firstToPut_11 : decode cX2_firstToPut 11 = .ok (.getfield 27, 3) := by decide +kernel
theorem dX2_firstToPut_14 : decode cX2_firstToPut 14 = .ok (.getfield 218, 3) := by decide +kernel
theorem dX2_firstToPut_17 : decode cX2_firstToPut 17 = .ok (.if_icmp .ge 50, 3) := by decide +kernel
theorem dX2_firstToPut_20 : decode cX2_firstToPut 20 = .ok (.aload_n 0, 1) := by decide +kernel
theorem dX2_firstToPut_21 : decode cX2_firstToPut 21 = .ok (.getfield 27, 3) := by decide +kernel
theorem dX2_firstToPut_24 : decode cX2_firstToPut 24 = .ok (.getfield 221, 3) := by decide +kernel
theorem dX2_firstToPut_27 : decode cX2_firstToPut 27 = .ok (.iload 4, 2) := by decide +kernel
theorem dX2_firstToPut_29 : decode cX2_firstToPut 29 = .ok (.aaload, 1) := by decide +kernel
theorem dX2_firstToPut_30 : decode cX2_firstToPut 30 = .ok (.astore 5, 2) := by decide +kernel
theorem dX2_firstToPut_32 : decode cX2_firstToPut 32 = .ok (.aload 5, 2) := by decide +kernel
theorem dX2_firstToPut_34 : decode cX2_firstToPut 34 = .ok (.getfield 192, 3) := by decide +kernel
theorem dX2_firstToPut_37 : decode cX2_firstToPut 37 = .ok (.iload_n 2, 1) := by decide +kernel
theorem dX2_firstToPut_38 : decode cX2_firstToPut 38 = .ok (.if_icmp .ne 23, 3) := by decide +kernel
theorem dX2_firstToPut_41 : decode cX2_firstToPut 41 = .ok (.aload 5, 2) := by decide +kernel
theorem dX2_firstToPut_43 : decode cX2_firstToPut 43 = .ok (.invokevirtual 102, 3) := by decide +kernel
theorem dX2_firstToPut_46 : decode cX2_firstToPut 46 = .ok (.iload_n 3, 1) := by decide +kernel
theorem dX2_firstToPut_47 : decode cX2_firstToPut 47 = .ok (.if_icmp .ne 14, 3) := by decide +kernel
theorem dX2_firstToPut_50 : decode cX2_firstToPut 50 = .ok (.aload 5, 2) := by decide +kernel
theorem dX2_firstToPut_52 : decode cX2_firstToPut 52 = .ok (.invokevirtual 225, 3) := by decide +kernel
theorem dX2_firstToPut_55 : decode cX2_firstToPut 55 = .ok (.ifCond .eq 6, 3) := by decide +kernel
theorem dX2_firstToPut_58 : decode cX2_firstToPut 58 = .ok (.goto 9, 3) := by decide +kernel
theorem dX2_firstToPut_61 : decode cX2_firstToPut 61 = .ok (.iinc 4 1, 3) := by decide +kernel
theorem dX2_firstToPut_64 : decode cX2_firstToPut 64 = .ok (.goto (-56), 3) := by decide +kernel
theorem dX2_firstToPut_67 : decode cX2_firstToPut 67 = .ok (.aload_n 1, 1) := by decide +kernel
theorem dX2_firstToPut_68 : decode cX2_firstToPut 68 = .ok (.getfield 216, 3) := by decide +kernel
theorem dX2_firstToPut_71 : decode cX2_firstToPut 71 = .ok (.iload_n 3, 1) := by decide +kernel
theorem dX2_firstToPut_72 : decode cX2_firstToPut 72 = .ok (.iload 4, 2) := by decide +kernel
theorem dX2_firstToPut_74 : decode cX2_firstToPut 74 = .ok (.iastore, 1) := by decide +kernel
theorem dX2_firstToPut_75 : decode cX2_firstToPut 75 = .ok (.aload_n 0, 1) := by decide +kernel
theorem dX2_firstToPut_76 : decode cX2_firstToPut 76 = .ok (.getfield 27, 3) := by decide +kernel
theorem dX2_firstToPut_79 : decode cX2_firstToPut 79 = .ok (.iload 4, 2) := by decide +kernel
theorem dX2_firstToPut_81 : decode cX2_firstToPut 81 = .ok (.invokevirtual 88, 3) := by decide +kernel
theorem dX2_firstToPut_84 : decode cX2_firstToPut 84 = .ok (.areturn, 1) := by decide +kernel
theorem dX2_putPiece_0 : decode cX2_putPiece 0 = .ok (.aload_n 0, 1) := by decide +kernel
theorem dX2_putPiece_1 : decode cX2_putPiece 1 = .ok (.getfield 26, 3) := by decide +kernel
theorem dX2_putPiece_4 : decode cX2_putPiece 4 = .ok (.iload_n 1, 1) := by decide +kernel
theorem dX2_putPiece_5 : decode cX2_putPiece 5 = .ok (.aaload, 1) := by decide +kernel
theorem dX2_putPiece_6 : decode cX2_putPiece 6 = .ok (.astore_n 3, 1) := by decide +kernel
theorem dX2_putPiece_7 : decode cX2_putPiece 7 = .ok (.aload_n 0, 1) := by decide +kernel
theorem dX2_putPiece_8 : decode cX2_putPiece 8 = .ok (.aload_n 3, 1) := by decide +kernel
theorem dX2_putPiece_9 : decode cX2_putPiece 9 = .ok (.iload_n 1, 1) := by decide +kernel
theorem dX2_putPiece_10 : decode cX2_putPiece 10 = .ok (.iload_n 2, 1) := by decide +kernel
theorem dX2_putPiece_11 : decode cX2_putPiece 11 = .ok (.invokevirtual 209, 3) := by decide +kernel
theorem dX2_putPiece_14 : decode cX2_putPiece 14 = .ok (.astore 4, 2) := by decide +kernel
theorem dX2_putPiece_16 : decode cX2_putPiece 16 = .ok (.aload 4, 2) := by decide +kernel
theorem dX2_putPiece_18 : decode cX2_putPiece 18 = .ok (.ifnonnull 4, 3) := by decide +kernel
theorem dX2_putPiece_21 : decode cX2_putPiece 21 = .ok (.return_, 1) := by decide +kernel
theorem dX2_putPiece_22 : decode cX2_putPiece 22 = .ok (.aload_n 3, 1) := by decide +kernel
theorem dX2_putPiece_23 : decode cX2_putPiece 23 = .ok (.getfield 56, 3) := by decide +kernel
theorem dX2_putPiece_26 : decode cX2_putPiece 26 = .ok (.ifCond .ne 9, 3) := by decide +kernel
theorem dX2_putPiece_29 : decode cX2_putPiece 29 = .ok (.aload_n 3, 1) := by decide +kernel
theorem dX2_putPiece_30 : decode cX2_putPiece 30 = .ok (.iconst 1, 1) := by decide +kernel
theorem dX2_putPiece_31 : decode cX2_putPiece 31 = .ok (.putfield 51, 3) := by decide +kernel
theorem dX2_putPiece_34 : decode cX2_putPiece 34 = .ok (.return_, 1) := by decide +kernel
theorem dX2_putPiece_35 : decode cX2_putPiece 35 = .ok (.aload_n 3, 1) := by decide +kernel
theorem dX2_putPiece_36 : decode cX2_putPiece 36 = .ok (.getfield 71, 3) := by decide +kernel
theorem dX2_putPiece_39 : decode cX2_putPiece 39 = .ok (.iload_n 2, 1) := by decide +kernel
theorem dX2_putPiece_40 : decode cX2_putPiece 40 = .ok (.iconst 5, 1) := by decide +kernel
theorem dX2_putPiece_41 : decode cX2_putPiece 41 = .ok (.imul, 1) := by decide +kernel
theorem dX2_putPiece_42 : decode cX2_putPiece 42 = .ok (.iconst 4, 1) := by decide +kernel
theorem dX2_putPiece_43 : decode cX2_putPiece 43 = .ok (.iadd, 1) := by decide +kernel
theorem dX2_putPiece_44 : decode cX2_putPiece 44 = .ok (.aaload, 1) := by decide +kernel
theorem dX2_putPiece_45 : decode cX2_putPiece 45 = .ok (.astore 5, 2) := by decide +kernel
theorem dX2_putPiece_47 : decode cX2_putPiece 47 = .ok (.aload 5, 2) := by decide +kernel
theorem dX2_putPiece_49 : decode cX2_putPiece 49 = .ok (.invokevirtual 138, 3) := by decide +kernel
theorem dX2_putPiece_52 : decode cX2_putPiece 52 = .ok (.ifCond .ne 4, 3) := by decide +kernel
theorem dX2_putPiece_55 : decode cX2_putPiece 55 = .ok (.return_, 1) := by decide +kernel
theorem dX2_putPiece_56 : decode cX2_putPiece 56 = .ok (.aload 4, 2) := by decide +kernel
theorem dX2_putPiece_58 : decode cX2_putPiece 58 = .ok (.getfield 213, 3) := by decide +kernel
theorem dX2_putPiece_61 : decode cX2_putPiece 61 = .ok (.ifCond .ne 16, 3) := by decide +kernel
theorem dX2_putPiece_64 : decode cX2_putPiece 64 = .ok (.aload 4, 2) := by decide +kernel
theorem dX2_putPiece_66 : decode cX2_putPiece 66 = .ok (.bipush 119, 2) := by decide +kernel
theorem dX2_putPiece_68 : decode cX2_putPiece 68 = .ok (.putfield 168, 3) := by decide +kernel
theorem dX2_putPiece_71 : decode cX2_putPiece 71 = .ok (.aload 4, 2) := by decide +kernel
theorem dX2_putPiece_73 : decode cX2_putPiece 73 = .ok (.iload_n 1, 1) := by decide +kernel
theorem dX2_putPiece_74 : decode cX2_putPiece 74 = .ok (.putfield 148, 3) := by decide +kernel
theorem dX2_putPiece_77 : decode cX2_putPiece 77 = .ok (.aload 5, 2) := by decide +kernel
theorem dX2_putPiece_79 : decode cX2_putPiece 79 = .ok (.aload 4, 2) := by decide +kernel
theorem dX2_putPiece_81 : decode cX2_putPiece 81 = .ok (.getfield 145, 3) := by decide +kernel
theorem dX2_putPiece_84 : decode cX2_putPiece 84 = .ok (.aload 4, 2) := by decide +kernel
theorem dX2_putPiece_86 : decode cX2_putPiece 86 = .ok (.getfield 213, 3) := by decide +kernel
theorem dX2_putPiece_89 : decode cX2_putPiece 89 = .ok (.aload_n 0, 1) := by decide +kernel
theorem dX2_putPiece_90 : decode cX2_putPiece 90 = .ok (.getfield 39, 3) := by decide +kernel
theorem dX2_putPiece_93 : decode cX2_putPiece 93 = .ok (.invokevirtual 158, 3) := by decide +kernel
theorem dX2_putPiece_96 : decode cX2_putPiece 96 = .ok (.aload 4, 2) := by decide +kernel
theorem dX2_putPiece_98 : decode cX2_putPiece 98 = .ok (.dup, 1) := by decide +kernel
theorem dX2_putPiece_99 : decode cX2_putPiece 99 = .ok (.getfield 213, 3) := by decide +kernel
theorem dX2_putPiece_102 : decode cX2_putPiece 102 = .ok (.iconst 1, 1) := by decide +kernel
theorem dX2_putPiece_103 : decode cX2_putPiece 103 = .ok (.iadd, 1) := by decide +kernel
theorem dX2_putPiece_104 : decode cX2_putPiece 104 = .ok (.putfield 213, 3) := by decide +kernel
theorem dX2_putPiece_107 : decode cX2_putPiece 107 = .ok (.aload_n 0, 1) := by decide +kernel
theorem dX2_putPiece_108 : decode cX2_putPiece 108 = .ok (.iconst 1, 1) := by decide +kernel
theorem dX2_putPiece_109 : decode cX2_putPiece 109 = .ok (.putfield 42, 3) := by decide +kernel
theorem dX2_putPiece_112 : decode cX2_putPiece 112 = .ok (.return_, 1) := by decide +kernel
theorem dX2_putAll_0 : decode cX2_putAll 0 = .ok (.iconst 0, 1) := by decide +kernel
theorem dX2_putAll_1 : decode cX2_putAll 1 = .ok (.istore_n 1, 1) := by decide +kernel
theorem dX2_putAll_2 : decode cX2_putAll 2 = .ok (.iload_n 1, 1) := by decide +kernel
theorem dX2_putAll_3 : decode cX2_putAll 3 = .ok (.aload_n 0, 1) := by decide +kernel
theorem dX2_putAll_4 : decode cX2_putAll 4 = .ok (.getfield 15, 3) := by decide +kernel
theorem dX2_putAll_7 : decode cX2_putAll 7 = .ok (.getfield 46, 3) := by decide +kernel
theorem dX2_putAll_10 : decode cX2_putAll 10 = .ok (.if_icmp .ge 21, 3) := by decide +kernel
theorem dX2_putAll_13 : decode cX2_putAll 13 = .ok (.aload_n 0, 1) := by decide +kernel
theorem dX2_putAll_14 : decode cX2_putAll 14 = .ok (.iload_n 1, 1) := by decide +kernel
theorem dX2_putAll_15 : decode cX2_putAll 15 = .ok (.iconst 1, 1) := by decide +kernel
theorem dX2_putAll_16 : decode cX2_putAll 16 = .ok (.invokevirtual 206, 3) := by decide +kernel
theorem dX2_putAll_19 : decode cX2_putAll 19 = .ok (.aload_n 0, 1) := by decide +kernel
theorem dX2_putAll_20 : decode cX2_putAll 20 = .ok (.iload_n 1, 1) := by decide +kernel
theorem dX2_putAll_21 : decode cX2_putAll 21 = .ok (.iconst 0, 1) := by decide +kernel
theorem dX2_putAll_22 : decode cX2_putAll 22 = .ok (.invokevirtual 206, 3) := by decide +kernel
theorem dX2_putAll_25 : decode cX2_putAll 25 = .ok (.iinc 1 1, 3) := by decide +kernel
theorem dX2_putAll_28 : decode cX2_putAll 28 = .ok (.goto (-26), 3) := by decide +kernel
theorem dX2_putAll_31 : decode cX2_putAll 31 = .ok (.return_, 1) := by decide +kernel
def f_Mover_giveToCore_b21 (μ : me_M) (v1 : Nat) (v2 : Nat) (v3 : Int32) : Option (me_M × Unit) :=
  me_bd (f_Packet_isTail μ v2 v3) (fun r1 =>
  me_b2 (f_Row_giveFirst μ v1 r1 (μ 30 0 6)) (fun μ3 r2 =>
  me_lt (me_up μ3 8 v2 8 ((μ3 8 v2 8) + (1 : Int32))) (fun μ4 =>
  me_bd (f_Packet_isTail μ4 v2 v3) (fun r5 =>
  if r5 = 0 then
  (some (μ4, ()))
  else
  (me_b2 (f_Mover_deliver μ4 v2) (fun μ8 r7 =>
  some (μ8, ())))))))
set_option maxHeartbeats 4000000 in
set_option maxRecDepth 100000 in
theorem z_Mover_giveToCore_b21 {X : me_X} {B : me_B} {sz : Nat} (C : me_C X B RX2 cX2_giveToCore 4 none) {μ : me_M} {v1 : Nat} {v2 : Nat} {v3 : Int32}   {r : me_M × Unit} (N : me_En X B sz (B, r.1, .ok (none)) 2 50 0 0) (hNx : me_Nx X) (hB : me_St B)   (hf : f_Mover_giveToCore_b21 μ v1 v2 v3 = some r) : me_Z X B 0 0 μ 21 [(0, me_r 30 0), (1, me_r 17 v1), (2, me_r 8 v2), (3, me_i v3)] [] := by
  unfold f_Mover_giveToCore_b21 at hf
  refine me_aload_n C 1 (Or.inr (Or.inl ⟨_, rfl⟩)) dX2_giveToCore_21 rfl rfl ?_
  refine me_aload_n C 2 (Or.inr (Or.inl ⟨_, rfl⟩)) dX2_giveToCore_22 rfl rfl ?_
  refine me_iload_n C 3 dX2_giveToCore_23 rfl rfl ?_
  obtain ⟨r1, h_r1, hf⟩ := me_bs hf
  refine me_callV C N  (As := [me_i v3]) (st := [me_r 17 v1]) 0 0 (c_Packet_isTail hB h_r1) mv_Packet_isTail ml_Mover_151 rfl rfl dX2_giveToCore_24 rfl rfl ⟨by decide, by decide⟩ ⟨by decide, by decide, by decide, by decide⟩ (Nat.le_of_ble_eq_true rfl) ?_
  refine me_aload_n C 0 (Or.inr (Or.inl ⟨_, rfl⟩)) dX2_giveToCore_27 rfl rfl ?_
  refine me_geti C 6 fg_Mover_39 dX2_giveToCore_28 rfl ?_
  obtain ⟨μ3, r2, h_r2, hf⟩ := me_bs2 hf
  refine me_callV0 C N  (As := [me_i r1, me_i (μ 30 0 6)]) (st := []) 0 0 (c_Row_giveFirst hB h_r2) mv_Row_giveFirst ml_Mover_154 rfl rfl dX2_giveToCore_31 rfl rfl ⟨by decide, by decide⟩ ⟨by decide, by decide, by decide, by decide⟩ (Nat.le_of_ble_eq_true rfl) ?_
  refine me_aload_n C 2 (Or.inr (Or.inl ⟨_, rfl⟩)) dX2_giveToCore_34 rfl rfl ?_
  refine me_dup C rfl dX2_giveToCore_35 ?_
  refine me_geti C 8 fg_Mover_162 dX2_giveToCore_36 rfl ?_
  refine me_iconst C (v := 1) dX2_giveToCore_39 (by decide) ?_
  refine me_iadd C dX2_giveToCore_40 ?_
  obtain ⟨μ4, e_μ4, hf⟩ := me_lts hf
  refine me_puti C 8 fw_Mover_162 dX2_giveToCore_41 rfl (me_nri _) e_μ4 ?_
  refine me_aload_n C 2 (Or.inr (Or.inl ⟨_, rfl⟩)) dX2_giveToCore_44 rfl rfl ?_
  refine me_iload_n C 3 dX2_giveToCore_45 rfl rfl ?_
  obtain ⟨r5, h_r5, hf⟩ := me_bs hf
  refine me_callV C N  (As := [me_i v3]) (st := []) 0 0 (c_Packet_isTail hB h_r5) mv_Packet_isTail ml_Mover_151 rfl rfl dX2_giveToCore_46 rfl rfl ⟨by decide, by decide⟩ ⟨by decide, by decide, by decide, by decide⟩ (Nat.le_of_ble_eq_true rfl) ?_
  refine me_if_eq C (tgt := 57) dX2_giveToCore_49 (by decide) (fun c6 => ?_) (fun c6 => ?_)
  · replace hf := me_ip c6 hf
    exact me_vret C N dX2_giveToCore_57 (by cases hf; rfl) (by decide) (by decide)
  · replace hf := me_in c6 hf
    refine me_aload_n C 0 (Or.inr (Or.inl ⟨_, rfl⟩)) dX2_giveToCore_52 rfl rfl ?_
    refine me_aload_n C 2 (Or.inr (Or.inl ⟨_, rfl⟩)) dX2_giveToCore_53 rfl rfl ?_
    obtain ⟨μ8, r7, h_r7, hf⟩ := me_bs2 hf
    refine me_callV0 C N  (As := [me_r 8 v2]) (st := []) 0 0 (c_Mover_deliver hB h_r7) mv_Mover_deliver ml_Mover_165 rfl rfl dX2_giveToCore_54 rfl rfl ⟨by decide, by decide⟩ ⟨by decide, by decide, by decide, by decide⟩ (Nat.le_of_ble_eq_true rfl) ?_
    exact me_vret C N dX2_giveToCore_57 (by cases hf; rfl) (by decide) (by decide)
def f_Mover_giveToCore (μ : me_M) (v1 : Nat) (v2 : Nat) : Option (me_M × Unit) :=
  me_lt ((μ 19 v1 0)) (fun x1 =>
  if x1 = 0 then
  (me_lt (me_up μ 17 v1 6 (4 : Int32)) (fun μ3 =>
  me_lt (me_up μ3 8 v2 9 (-1 : Int32)) (fun μ4 =>
  f_Mover_giveToCore_b21 μ4 v1 v2 x1)))
  else
  (f_Mover_giveToCore_b21 μ v1 v2 x1))
set_option maxHeartbeats 4000000 in
set_option maxRecDepth 100000 in
theorem z_Mover_giveToCore {X : me_X} {B : me_B} {sz : Nat} (C : me_C X B RX2 cX2_giveToCore 4 none) {μ : me_M} {v1 : Nat} {v2 : Nat}   {r : me_M × Unit} (N : me_En X B sz (B, r.1, .ok (none)) 2 50 0 0) (hNx : me_Nx X) (hB : me_St B)   (hf : f_Mover_giveToCore μ v1 v2 = some r) : me_Z X B 0 0 μ 0 [(0, me_r 30 0), (1, me_r 17 v1), (2, me_r 8 v2)] [] := by
  unfold f_Mover_giveToCore at hf
  refine me_aload_n C 1 (Or.inr (Or.inl ⟨_, rfl⟩)) dX2_giveToCore_0 rfl rfl ?_
  refine me_getr C hB 1 (k' := 19) (i' := v1) fg_Mover_94 dX2_giveToCore_1 rfl rfl ?_
  refine me_iconst C (v := 0) dX2_giveToCore_4 (by decide) ?_
  refine me_iald C rfl (fun _ => rfl) (by decide +kernel) dX2_giveToCore_5 ?_
  obtain ⟨x1, e_x1, hf⟩ := me_lts hf
  refine me_nm e_x1 ?_
  refine me_istore_n C 3 dX2_giveToCore_6 rfl (by decide) (L' := [(3, me_i x1), (0, me_r 30 0), (1, me_r 17 v1), (2, me_r 8 v2)]) rfl ?_
  refine me_iload_n C 3 dX2_giveToCore_7 rfl rfl ?_
  refine me_if_ne C (tgt := 21) dX2_giveToCore_8 (by decide) (fun c2 => ?_) (fun c2 => ?_)
  · replace hf := me_in c2 hf
    refine me_dropI [(0, me_r 30 0), (1, me_r 17 v1), (2, me_r 8 v2), (3, me_i x1)] [1, 2, 3, 0] rfl ?_
    exact z_Mover_giveToCore_b21 C N hNx hB hf
  · replace hf := me_ip c2 hf
    refine me_aload_n C 1 (Or.inr (Or.inl ⟨_, rfl⟩)) dX2_giveToCore_11 rfl rfl ?_
    refine me_iconst C (v := 4) dX2_giveToCore_12 (by decide) ?_
    obtain ⟨μ3, e_μ3, hf⟩ := me_lts hf
    refine me_puti C 6 fw_Mover_109 dX2_giveToCore_13 rfl (me_nri _) e_μ3 ?_
    refine me_aload_n C 2 (Or.inr (Or.inl ⟨_, rfl⟩)) dX2_giveToCore_16 rfl rfl ?_
    refine me_iconst C (v := -1) dX2_giveToCore_17 (by decide) ?_
    obtain ⟨μ4, e_μ4, hf⟩ := me_lts hf
    refine me_puti C 9 fw_Mover_148 dX2_giveToCore_18 rfl (me_nri _) e_μ4 ?_
    refine me_dropI [(0, me_r 30 0), (1, me_r 17 v1), (2, me_r 8 v2), (3, me_i x1)] [1, 2, 3, 0] rfl ?_
    exact z_Mover_giveToCore_b21 C N hNx hB hf
theorem c_Mover_giveToCore {B : me_B} (hB : me_St B) {μ : me_M} {v1 : Nat} {v2 : Nat} {μ' : me_M} {r : Unit}  (hf : f_Mover_giveToCore μ v1 v2 = some (μ', r)) : ∀ l E z, l.stackTraces = false → me_Met l yX2_giveToCore cX2_giveToCore 4 none 2 50 0 0 E B μ z [me_r 30 0, me_r 17 v1, me_r 8 v2] (B, μ', .ok (none)) :=
  fun _ _ _ hl => me_ofZ hl (by decide +kernel) (Nat.le_of_ble_eq_true rfl) (fun _ C N hNx => z_Mover_giveToCore C N hNx hB  hf)

def f_Mover_gives_b134 (μ : me_M) (v1 : Int32) (v2 : Int32) (v3 : Nat) (v4 : Nat) : Option (me_M × Int32) :=
  me_gd (me_inb ((v1 * (4 : Int32)) + v2) 64) (
  me_b2 (f_Mover_givesAhead μ (μ 2 0 (me_ix ((v1 * (4 : Int32)) + v2))) v2 v3 v4) (fun μ3 r2 =>
  me_gd (me_nr .boolean r2) (
  some (μ3, r2))))
set_option maxHeartbeats 4000000 in
set_option maxRecDepth 100000 in
theorem z_Mover_gives_b134 {X : me_X} {B : me_B} {sz : Nat} (C : me_C X B RX2 cX2_gives 7 (some .boolean)) {μ : me_M} {v1 : Int32} {v2 : Int32} {v3 : Nat} {v4 : Nat}   {r : me_M × Int32} (N : me_En X B sz (B, r.1, .ok (some (me_i r.2))) 4 97 0 0) (hNx : me_Nx X) (hB : me_St B)   (hf : f_Mover_gives_b134 μ v1 v2 v3 v4 = some r) : me_Z X B 0 0 μ 134 [(0, me_r 30 0), (1, me_i v1), (2, me_i v2), (3, me_r 17 v3), (4, me_r 8 v4)] [] := by
  unfold f_Mover_gives_b134 at hf
  refine me_aload_n C 0 (Or.inr (Or.inl ⟨_, rfl⟩)) dX2_gives_134 rfl rfl ?_
  refine me_aload_n C 0 (Or.inr (Or.inl ⟨_, rfl⟩)) dX2_gives_135 rfl rfl ?_
  refine me_getr C hB 0 (k' := 1) (i' := 0) fg_Mover_15 dX2_gives_136 rfl rfl ?_
  refine me_getr C hB 0 (k' := 2) (i' := 0) fg_Mover_124 dX2_gives_139 rfl rfl ?_
  refine me_iload_n C 1 dX2_gives_142 rfl rfl ?_
  refine me_iconst C (v := 4) dX2_gives_143 (by decide) ?_
  refine me_imul C dX2_gives_144 ?_
  refine me_iload_n C 2 dX2_gives_145 rfl rfl ?_
  refine me_iadd C dX2_gives_146 ?_
  obtain ⟨g1, hf⟩ := me_gs hf
  refine me_iald C rfl (fun _ => rfl) g1 dX2_gives_147 ?_
  refine me_iload_n C 2 dX2_gives_148 rfl rfl ?_
  refine me_aload_n C 3 (Or.inr (Or.inl ⟨_, rfl⟩)) dX2_gives_149 rfl rfl ?_
  refine me_aload C (Or.inr (Or.inl ⟨_, rfl⟩)) dX2_gives_150 rfl ?_
  obtain ⟨μ3, r2, h_r2, hf⟩ := me_bs2 hf
  refine me_callV C N  (As := [me_i (μ 2 0 (me_ix ((v1 * (4 : Int32)) + v2))), me_i v2, me_r 17 v3, me_r 8 v4]) (st := []) 0 0 (c_Mover_givesAhead hB h_r2) mv_Mover_givesAhead ml_Mover_127 rfl rfl dX2_gives_152 rfl rfl ⟨by decide, by decide⟩ ⟨by decide, by decide, by decide, by decide⟩ (Nat.le_of_ble_eq_true rfl) ?_
  obtain ⟨g4, hf⟩ := me_gs hf
  exact me_iret C N dX2_gives_155 g4 (by cases hf; rfl) (by decide) (by decide)
def f_Mover_gives_b81 (μ : me_M) (v1 : Int32) (v2 : Int32) (v3 : Nat) (v4 : Nat) (v5 : Int32) (s0 : Int32) : Option (me_M × Int32) :=
  if s0 = v2 then
  (if v2 = (4 : Int32) then
  (me_b2 (f_Mover_giveToCore μ v3 v4) (fun μ9 r8 =>
  some (μ9, (1 : Int32))))
  else
  (if v5 = 0 then
  (f_Mover_gives_b134 μ v1 v2 v3 v4)
  else
  (me_gd (me_inb ((v1 * (4 : Int32)) + v2) 64) (
  if (μ 3 0 (me_ix ((v1 * (4 : Int32)) + v2))) = 0 then
  (f_Mover_gives_b134 μ v1 v2 v3 v4)
  else
  (me_b2 (f_Mover_lose μ v4) (fun μ7 r6 =>
  some (μ7, (0 : Int32))))))))
  else
  (some (μ, (0 : Int32)))
set_option maxHeartbeats 4000000 in
set_option maxRecDepth 100000 in
theorem z_Mover_gives_b81 {X : me_X} {B : me_B} {sz : Nat} (C : me_C X B RX2 cX2_gives 7 (some .boolean)) {μ : me_M} {v1 : Int32} {v2 : Int32} {v3 : Nat} {v4 : Nat} {v5 : Int32} {s0 : Int32}   {r : me_M × Int32} (N : me_En X B sz (B, r.1, .ok (some (me_i r.2))) 4 97 0 0) (hNx : me_Nx X) (hB : me_St B)   (hf : f_Mover_gives_b81 μ v1 v2 v3 v4 v5 s0 = some r) : me_Z X B 0 0 μ 81 [(0, me_r 30 0), (1, me_i v1), (2, me_i v2), (3, me_r 17 v3), (4, me_r 8 v4), (5, me_i v5)] [me_i s0] := by
  unfold f_Mover_gives_b81 at hf
  refine me_istore C dX2_gives_81 (by decide) (L' := [(6, me_i s0), (0, me_r 30 0), (1, me_i v1), (2, me_i v2), (3, me_r 17 v3), (4, me_r 8 v4), (5, me_i v5)]) rfl ?_
  refine me_iload C dX2_gives_83 rfl ?_
  refine me_iload_n C 2 dX2_gives_85 rfl rfl ?_
  refine me_icmp_eq C (tgt := 91) dX2_gives_86 (by decide) (fun c1 => ?_) (fun c1 => ?_)
  · replace hf := me_ip c1 hf
    refine me_iload_n C 2 dX2_gives_91 rfl rfl ?_
    refine me_iconst C (v := 4) dX2_gives_92 (by decide) ?_
    refine me_icmp_ne C (tgt := 105) dX2_gives_93 (by decide) (fun c2 => ?_) (fun c2 => ?_)
    · replace hf := me_in c2 hf
      refine me_iload C dX2_gives_105 rfl ?_
      refine me_if_eq C (tgt := 134) dX2_gives_107 (by decide) (fun c3 => ?_) (fun c3 => ?_)
      · replace hf := me_ip c3 hf
        refine me_dropI [(0, me_r 30 0), (1, me_i v1), (2, me_i v2), (3, me_r 17 v3), (4, me_r 8 v4)] [1, 2, 3, 4, 5] rfl ?_
        exact z_Mover_gives_b134 C N hNx hB hf
      · replace hf := me_in c3 hf
        refine me_aload_n C 0 (Or.inr (Or.inl ⟨_, rfl⟩)) dX2_gives_110 rfl rfl ?_
        refine me_getr C hB 0 (k' := 1) (i' := 0) fg_Mover_15 dX2_gives_111 rfl rfl ?_
        refine me_getr C hB 1 (k' := 3) (i' := 0) fg_Mover_116 dX2_gives_114 rfl rfl ?_
        refine me_iload_n C 1 dX2_gives_117 rfl rfl ?_
        refine me_iconst C (v := 4) dX2_gives_118 (by decide) ?_
        refine me_imul C dX2_gives_119 ?_
        refine me_iload_n C 2 dX2_gives_120 rfl rfl ?_
        refine me_iadd C dX2_gives_121 ?_
        obtain ⟨g4, hf⟩ := me_gs hf
        refine me_zald C rfl (fun _ => rfl) g4 dX2_gives_122 ?_
        refine me_if_eq C (tgt := 134) dX2_gives_123 (by decide) (fun c5 => ?_) (fun c5 => ?_)
        · replace hf := me_ip c5 hf
          refine me_dropI [(0, me_r 30 0), (1, me_i v1), (2, me_i v2), (3, me_r 17 v3), (4, me_r 8 v4)] [1, 2, 3, 4, 5] rfl ?_
          exact z_Mover_gives_b134 C N hNx hB hf
        · replace hf := me_in c5 hf
          refine me_aload_n C 0 (Or.inr (Or.inl ⟨_, rfl⟩)) dX2_gives_126 rfl rfl ?_
          refine me_aload C (Or.inr (Or.inl ⟨_, rfl⟩)) dX2_gives_127 rfl ?_
          obtain ⟨μ7, r6, h_r6, hf⟩ := me_bs2 hf
          refine me_callV0 C N  (As := [me_r 8 v4]) (st := []) 0 0 (c_Mover_lose hB h_r6) mv_Mover_lose ml_Mover_120 rfl rfl dX2_gives_129 rfl rfl ⟨by decide, by decide⟩ ⟨by decide, by decide, by decide, by decide⟩ (Nat.le_of_ble_eq_true rfl) ?_
          refine me_iconst C (v := 0) dX2_gives_132 (by decide) ?_
          exact me_iret C N dX2_gives_133 (by decide +kernel) (by cases hf; rfl) (by decide) (by decide)
    · replace hf := me_ip c2 hf
      refine me_aload_n C 0 (Or.inr (Or.inl ⟨_, rfl⟩)) dX2_gives_96 rfl rfl ?_
      refine me_aload_n C 3 (Or.inr (Or.inl ⟨_, rfl⟩)) dX2_gives_97 rfl rfl ?_
      refine me_aload C (Or.inr (Or.inl ⟨_, rfl⟩)) dX2_gives_98 rfl ?_
      obtain ⟨μ9, r8, h_r8, hf⟩ := me_bs2 hf
      refine me_callV0 C N  (As := [me_r 17 v3, me_r 8 v4]) (st := []) 0 0 (c_Mover_giveToCore hB h_r8) mv_Mover_giveToCore ml_Mover_112 rfl rfl dX2_gives_100 rfl rfl ⟨by decide, by decide⟩ ⟨by decide, by decide, by decide, by decide⟩ (Nat.le_of_ble_eq_true rfl) ?_
      refine me_iconst C (v := 1) dX2_gives_103 (by decide) ?_
      exact me_iret C N dX2_gives_104 (by decide +kernel) (by cases hf; rfl) (by decide) (by decide)
  · replace hf := me_in c1 hf
    refine me_iconst C (v := 0) dX2_gives_89 (by decide) ?_
    exact me_iret C N dX2_gives_90 (by decide +kernel) (by cases hf; rfl) (by decide) (by decide)
def f_Mover_gives_b49 (μ : me_M) (v1 : Int32) (v2 : Int32) (v3 : Nat) (v4 : Nat) (s0 : Int32) : Option (me_M × Int32) :=
  if s0 = 0 then
  (f_Mover_gives_b81 μ v1 v2 v3 v4 s0 (μ 17 v3 6))
  else
  (me_bd (f_Packet_channel μ v4) (fun r2 =>
  me_bd (f_Ways_heading μ v1 (μ 8 v4 4) r2) (fun r3 =>
  f_Mover_gives_b81 μ v1 v2 v3 v4 s0 r3)))
set_option maxHeartbeats 4000000 in
set_option maxRecDepth 100000 in
theorem z_Mover_gives_b49 {X : me_X} {B : me_B} {sz : Nat} (C : me_C X B RX2 cX2_gives 7 (some .boolean)) {μ : me_M} {v1 : Int32} {v2 : Int32} {v3 : Nat} {v4 : Nat} {s0 : Int32}   {r : me_M × Int32} (N : me_En X B sz (B, r.1, .ok (some (me_i r.2))) 4 97 0 0) (hNx : me_Nx X) (hB : me_St B)   (hf : f_Mover_gives_b49 μ v1 v2 v3 v4 s0 = some r) : me_Z X B 0 0 μ 49 [(0, me_r 30 0), (1, me_i v1), (2, me_i v2), (3, me_r 17 v3), (4, me_r 8 v4)] [me_i s0] := by
  unfold f_Mover_gives_b49 at hf
  refine me_istore C dX2_gives_49 (by decide) (L' := [(5, me_i s0), (0, me_r 30 0), (1, me_i v1), (2, me_i v2), (3, me_r 17 v3), (4, me_r 8 v4)]) rfl ?_
  refine me_iload C dX2_gives_51 rfl ?_
  refine me_if_eq C (tgt := 77) dX2_gives_53 (by decide) (fun c1 => ?_) (fun c1 => ?_)
  · replace hf := me_ip c1 hf
    refine me_aload_n C 3 (Or.inr (Or.inl ⟨_, rfl⟩)) dX2_gives_77 rfl rfl ?_
    refine me_geti C 6 fg_Mover_109 dX2_gives_78 rfl ?_
    refine me_dropI [(0, me_r 30 0), (1, me_i v1), (2, me_i v2), (3, me_r 17 v3), (4, me_r 8 v4), (5, me_i s0)] [1, 2, 3, 4, 5, 0] rfl ?_
    exact z_Mover_gives_b81 C N hNx hB hf
  · replace hf := me_in c1 hf
    refine me_aload_n C 0 (Or.inr (Or.inl ⟨_, rfl⟩)) dX2_gives_56 rfl rfl ?_
    refine me_getr C hB 1 (k' := 27) (i' := 0) fg_Mover_18 dX2_gives_57 rfl rfl ?_
    refine me_iload_n C 1 dX2_gives_60 rfl rfl ?_
    refine me_aload C (Or.inr (Or.inl ⟨_, rfl⟩)) dX2_gives_61 rfl ?_
    refine me_geti C 4 fg_Mover_97 dX2_gives_63 rfl ?_
    refine me_aload C (Or.inr (Or.inl ⟨_, rfl⟩)) dX2_gives_66 rfl ?_
    obtain ⟨r2, h_r2, hf⟩ := me_bs hf
    refine me_callV C N  (As := []) (st := [me_i (μ 8 v4 4), me_i v1, me_r 27 0]) 0 0 (c_Packet_channel hB h_r2) mv_Packet_channel ml_Mover_102 rfl rfl dX2_gives_68 rfl rfl ⟨by decide, by decide⟩ ⟨by decide, by decide, by decide, by decide⟩ (Nat.le_of_ble_eq_true rfl) ?_
    obtain ⟨r3, h_r3, hf⟩ := me_bs hf
    refine me_callV C N  (As := [me_i v1, me_i (μ 8 v4 4), me_i r2]) (st := []) 0 0 (c_Ways_heading hB h_r3) mv_Ways_heading ml_Mover_105 rfl rfl dX2_gives_71 rfl rfl ⟨by decide, by decide⟩ ⟨by decide, by decide, by decide, by decide⟩ (Nat.le_of_ble_eq_true rfl) ?_
    refine me_goto C (tgt := 81) dX2_gives_74 (by decide) ?_
    refine me_dropI [(0, me_r 30 0), (1, me_i v1), (2, me_i v2), (3, me_r 17 v3), (4, me_r 8 v4), (5, me_i s0)] [1, 2, 3, 4, 5, 0] rfl ?_
    exact z_Mover_gives_b81 C N hNx hB hf
def f_Mover_gives (μ : me_M) (v1 : Int32) (v2 : Int32) (v3 : Nat) : Option (me_M × Int32) :=
  me_bd (f_Row_canBeLookedAt μ v3 (μ 30 0 6)) (fun r1 =>
  if r1 = 0 then
  (some (μ, (0 : Int32)))
  else
  (me_bd (f_Post_find μ (μ 18 v3 0)) (fun r3 =>
  me_oq r3
  (some (μ, (0 : Int32)))
  (fun r3i => if (μ 19 v3 0) = 0 then
  (f_Mover_gives_b49 μ v1 v2 v3 r3i (1 : Int32))
  else
  (f_Mover_gives_b49 μ v1 v2 v3 r3i (0 : Int32))))))
set_option maxHeartbeats 4000000 in
set_option maxRecDepth 100000 in
theorem z_Mover_gives {X : me_X} {B : me_B} {sz : Nat} (C : me_C X B RX2 cX2_gives 7 (some .boolean)) {μ : me_M} {v1 : Int32} {v2 : Int32} {v3 : Nat}   {r : me_M × Int32} (N : me_En X B sz (B, r.1, .ok (some (me_i r.2))) 4 97 0 0) (hNx : me_Nx X) (hB : me_St B)   (hf : f_Mover_gives μ v1 v2 v3 = some r) : me_Z X B 0 0 μ 0 [(0, me_r 30 0), (1, me_i v1), (2, me_i v2), (3, me_r 17 v3)] [] := by
  unfold f_Mover_gives at hf
  refine me_aload_n C 3 (Or.inr (Or.inl ⟨_, rfl⟩)) dX2_gives_0 rfl rfl ?_
  refine me_aload_n C 0 (Or.inr (Or.inl ⟨_, rfl⟩)) dX2_gives_1 rfl rfl ?_
  refine me_geti C 6 fg_Mover_39 dX2_gives_2 rfl ?_
  obtain ⟨r1, h_r1, hf⟩ := me_bs hf
  refine me_callV C N  (As := [me_i (μ 30 0 6)]) (st := []) 0 0 (c_Row_canBeLookedAt hB h_r1) mv_Row_canBeLookedAt ml_Mover_79 rfl rfl dX2_gives_5 rfl rfl ⟨by decide, by decide⟩ ⟨by decide, by decide, by decide, by decide⟩ (Nat.le_of_ble_eq_true rfl) ?_
  refine me_if_ne C (tgt := 13) dX2_gives_8 (by decide) (fun c2 => ?_) (fun c2 => ?_)
  · replace hf := me_in c2 hf
    refine me_aload_n C 0 (Or.inr (Or.inl ⟨_, rfl⟩)) dX2_gives_13 rfl rfl ?_
    refine me_getr C hB 3 (k' := 6) (i' := 0) fg_Mover_27 dX2_gives_14 rfl rfl ?_
    refine me_aload_n C 3 (Or.inr (Or.inl ⟨_, rfl⟩)) dX2_gives_17 rfl rfl ?_
    refine me_getr C hB 0 (k' := 18) (i' := v3) fg_Mover_85 dX2_gives_18 rfl rfl ?_
    refine me_iconst C (v := 0) dX2_gives_21 (by decide) ?_
    refine me_iald C rfl (fun _ => rfl) (by decide +kernel) dX2_gives_22 ?_
    obtain ⟨r3, h_r3, hf⟩ := me_bs hf
    refine me_callV C N  (As := [me_i (μ 18 v3 0)]) (st := []) 0 0 (c_Post_find hB h_r3) mv_Post_find ml_Mover_88 rfl rfl dX2_gives_23 rfl rfl ⟨by decide, by decide⟩ ⟨by decide, by decide, by decide, by decide⟩ (Nat.le_of_ble_eq_true rfl) ?_
    rcases r3 with _ | r3i
    · replace hf := me_oqn hf
      refine me_astore C (Or.inl rfl) dX2_gives_26 (by decide) (L' := [(4, me_n), (0, me_r 30 0), (1, me_i v1), (2, me_i v2), (3, me_r 17 v3)]) rfl ?_
      refine me_aload C (Or.inl rfl) dX2_gives_28 rfl ?_
      refine me_ifnonnull_n C dX2_gives_30 ?_
      refine me_iconst C (v := 0) dX2_gives_33 (by decide) ?_
      exact me_iret C N dX2_gives_34 (by decide +kernel) (by cases hf; rfl) (by decide) (by decide)
    · replace hf := me_oqs hf
      refine me_astore C (Or.inr (Or.inl ⟨_, rfl⟩)) dX2_gives_26 (by decide) (L' := [(4, me_r 8 r3i), (0, me_r 30 0), (1, me_i v1), (2, me_i v2), (3, me_r 17 v3)]) rfl ?_
      refine me_aload C (Or.inr (Or.inl ⟨_, rfl⟩)) dX2_gives_28 rfl ?_
      refine me_ifnonnull_r C (tgt := 35) dX2_gives_30 (by decide) ?_
      refine me_aload_n C 3 (Or.inr (Or.inl ⟨_, rfl⟩)) dX2_gives_35 rfl rfl ?_
      refine me_getr C hB 1 (k' := 19) (i' := v3) fg_Mover_94 dX2_gives_36 rfl rfl ?_
      refine me_iconst C (v := 0) dX2_gives_39 (by decide) ?_
      refine me_iald C rfl (fun _ => rfl) (by decide +kernel) dX2_gives_40 ?_
      refine me_if_ne C (tgt := 48) dX2_gives_41 (by decide) (fun c4 => ?_) (fun c4 => ?_)
      · replace hf := me_in c4 hf
        refine me_iconst C (v := 0) dX2_gives_48 (by decide) ?_
        refine me_dropI [(0, me_r 30 0), (1, me_i v1), (2, me_i v2), (3, me_r 17 v3), (4, me_r 8 r3i)] [1, 2, 3, 4, 0] rfl ?_
        exact z_Mover_gives_b49 C N hNx hB hf
      · replace hf := me_ip c4 hf
        refine me_iconst C (v := 1) dX2_gives_44 (by decide) ?_
        refine me_goto C (tgt := 49) dX2_gives_45 (by decide) ?_
        refine me_dropI [(0, me_r 30 0), (1, me_i v1), (2, me_i v2), (3, me_r 17 v3), (4, me_r 8 r3i)] [1, 2, 3, 4, 0] rfl ?_
        exact z_Mover_gives_b49 C N hNx hB hf
  · replace hf := me_ip c2 hf
    refine me_iconst C (v := 0) dX2_gives_11 (by decide) ?_
    exact me_iret C N dX2_gives_12 (by decide +kernel) (by cases hf; rfl) (by decide) (by decide)
theorem c_Mover_gives {B : me_B} (hB : me_St B) {μ : me_M} {v1 : Int32} {v2 : Int32} {v3 : Nat} {μ' : me_M} {r : Int32}  (hf : f_Mover_gives μ v1 v2 v3 = some (μ', r)) : ∀ l E z, l.stackTraces = false → me_Met l yX2_gives cX2_gives 7 (some .boolean) 4 97 0 0 E B μ z [me_r 30 0, me_i v1, me_i v2, me_r 17 v3] (B, μ', .ok (some (me_i r))) :=
  fun _ _ _ hl => me_ofZ hl (by decide +kernel) (Nat.le_of_ble_eq_true rfl) (fun _ C N hNx => z_Mover_gives C N hNx hB  hf)

def f_Mover_giveTo_b31 (K10 : me_M → Int32 → Int32 → Nat → Int32 → Option (me_M × Unit)) (K31 : me_M → Int32 → Int32 → Nat → Int32 → Int32 → Int32 → Option (me_M × Unit)) (μ : me_M) (v1 : Int32) (v2 : Int32) (v3 : Nat) (v4 : Int32) (v5 : Int32) (v6 : Int32) : Option (me_M × Unit) :=
  if (5 : Int32) ≤ v6 then
  (me_lt (me_inc v4 (-1)) (fun x2 =>
  K10 μ v1 v2 v3 x2))
  else
  (me_lt ((me_rem (v5 + v6) (5 : Int32))) (fun x3 =>
  me_gd (me_inb ((v4 * (5 : Int32)) + x3) 10) (
  me_b2 (f_Mover_gives μ v1 v2 (10 * v3 + (me_ix ((v4 * (5 : Int32)) + x3)))) (fun μ6 r5 =>
  if r5 = 0 then
  (me_lt (me_inc v6 (1)) (fun x8 =>
  K31 μ6 v1 v2 v3 v4 v5 x8))
  else
  (me_gd (me_inb ((v4 * (5 : Int32)) + v2) 10) (
  me_lt (me_up μ6 15 v3 (me_ix ((v4 * (5 : Int32)) + v2)) (me_rem (x3 + (1 : Int32)) (5 : Int32))) (fun μ10 =>
  me_lt (me_up μ10 30 0 7 (1 : Int32)) (fun μ11 =>
  some (μ11, ())))))))))
set_option maxHeartbeats 4000000 in
set_option maxRecDepth 100000 in
theorem z_Mover_giveTo_b31 {X : me_X} {B : me_B} {sz : Nat} (C : me_C X B RX2 cX2_giveTo 8 none) {μ : me_M} {v1 : Int32} {v2 : Int32} {v3 : Nat} {v4 : Int32} {v5 : Int32} {v6 : Int32}  {K10 : me_M → Int32 → Int32 → Nat → Int32 → Option (me_M × Unit)} {K31 : me_M → Int32 → Int32 → Nat → Int32 → Int32 → Int32 → Option (me_M × Unit)} {r : me_M × Unit} (N : me_En X B sz (B, r.1, .ok (none)) 5 123 0 0) (hNx : me_Nx X) (hB : me_St B) (hK10 : ∀ (μ : me_M) (v1 : Int32) (v2 : Int32) (v3 : Nat) (v4 : Int32), K10 μ v1 v2 v3 v4 = some r → me_Z X B 0 0 μ 10 [(0, me_r 30 0), (1, me_i v1), (2, me_i v2), (3, me_r 13 v3), (4, me_i v4)] []) (hK31 : ∀ (μ : me_M) (v1 : Int32) (v2 : Int32) (v3 : Nat) (v4 : Int32) (v5 : Int32) (v6 : Int32), K31 μ v1 v2 v3 v4 v5 v6 = some r → me_Z X B 0 0 μ 31 [(0, me_r 30 0), (1, me_i v1), (2, me_i v2), (3, me_r 13 v3), (4, me_i v4), (5, me_i v5), (6, me_i v6)] [])  (hf : f_Mover_giveTo_b31 K10 K31 μ v1 v2 v3 v4 v5 v6 = some r) : me_Z X B 0 0 μ 31 [(0, me_r 30 0), (1, me_i v1), (2, me_i v2), (3, me_r 13 v3), (4, me_i v4), (5, me_i v5), (6, me_i v6)] [] := by
  unfold f_Mover_giveTo_b31 at hf
  refine me_iload C dX2_giveTo_31 rfl ?_
  refine me_iconst C (v := 5) dX2_giveTo_33 (by decide) ?_
  refine me_icmp_ge C (tgt := 96) dX2_giveTo_34 (by decide) (fun c1 => ?_) (fun c1 => ?_)
  · replace hf := me_ip c1 hf
    obtain ⟨x2, e_x2, hf⟩ := me_lts hf
    refine me_iinc C (v := x2) (L' := [(4, me_i x2), (0, me_r 30 0), (1, me_i v1), (2, me_i v2), (3, me_r 13 v3), (5, me_i v5), (6, me_i v6)]) dX2_giveTo_96 rfl e_x2.symm (by decide) rfl ?_
    refine me_goto C (tgt := 10) dX2_giveTo_99 (by decide) ?_
    refine me_dropI [(0, me_r 30 0), (1, me_i v1), (2, me_i v2), (3, me_r 13 v3), (4, me_i x2)] [1, 2, 3, 4, 0] rfl ?_
    exact hK10 μ v1 v2 v3 x2 hf
  · replace hf := me_in c1 hf
    refine me_iload C dX2_giveTo_37 rfl ?_
    refine me_iload C dX2_giveTo_39 rfl ?_
    refine me_iadd C dX2_giveTo_41 ?_
    refine me_iconst C (v := 5) dX2_giveTo_42 (by decide) ?_
    refine me_irem C dX2_giveTo_43 (by decide) ?_
    obtain ⟨x3, e_x3, hf⟩ := me_lts hf
    refine me_nm e_x3 ?_
    refine me_istore C dX2_giveTo_44 (by decide) (L' := [(7, me_i x3), (0, me_r 30 0), (1, me_i v1), (2, me_i v2), (3, me_r 13 v3), (4, me_i v4), (5, me_i v5), (6, me_i v6)]) rfl ?_
    refine me_aload_n C 0 (Or.inr (Or.inl ⟨_, rfl⟩)) dX2_giveTo_46 rfl rfl ?_
    refine me_iload_n C 1 dX2_giveTo_47 rfl rfl ?_
    refine me_iload_n C 2 dX2_giveTo_48 rfl rfl ?_
    refine me_aload_n C 3 (Or.inr (Or.inl ⟨_, rfl⟩)) dX2_giveTo_49 rfl rfl ?_
    refine me_getr C hB 0 (k' := 14) (i' := v3) fg_Mover_71 dX2_giveTo_50 rfl rfl ?_
    refine me_iload C dX2_giveTo_53 rfl ?_
    refine me_iconst C (v := 5) dX2_giveTo_55 (by decide) ?_
    refine me_imul C dX2_giveTo_56 ?_
    refine me_iload C dX2_giveTo_57 rfl ?_
    refine me_iadd C dX2_giveTo_59 ?_
    obtain ⟨g4, hf⟩ := me_gs hf
    refine me_aald C hB (k' := 17) (i' := 10 * v3 + (me_ix ((v4 * (5 : Int32)) + x3))) rfl (fun _ => rfl) rfl g4 dX2_giveTo_60 rfl ?_
    obtain ⟨μ6, r5, h_r5, hf⟩ := me_bs2 hf
    refine me_callV C N  (As := [me_i v1, me_i v2, me_r 17 (10 * v3 + (me_ix ((v4 * (5 : Int32)) + x3)))]) (st := []) 0 0 (c_Mover_gives hB h_r5) mv_Mover_gives ml_Mover_75 rfl rfl dX2_giveTo_61 rfl rfl ⟨by decide, by decide⟩ ⟨by decide, by decide, by decide, by decide⟩ (Nat.le_of_ble_eq_true rfl) ?_
    refine me_if_eq C (tgt := 90) dX2_giveTo_64 (by decide) (fun c7 => ?_) (fun c7 => ?_)
    · replace hf := me_ip c7 hf
      obtain ⟨x8, e_x8, hf⟩ := me_lts hf
      refine me_iinc C (v := x8) (L' := [(6, me_i x8), (7, me_i x3), (0, me_r 30 0), (1, me_i v1), (2, me_i v2), (3, me_r 13 v3), (4, me_i v4), (5, me_i v5)]) dX2_giveTo_90 rfl e_x8.symm (by decide) rfl ?_
      refine me_goto C (tgt := 31) dX2_giveTo_93 (by decide) ?_
      refine me_dropI [(0, me_r 30 0), (1, me_i v1), (2, me_i v2), (3, me_r 13 v3), (4, me_i v4), (5, me_i v5), (6, me_i x8)] [2, 3, 4, 5, 6, 7, 0] rfl ?_
      exact hK31 μ6 v1 v2 v3 v4 v5 x8 hf
    · replace hf := me_in c7 hf
      refine me_aload_n C 3 (Or.inr (Or.inl ⟨_, rfl⟩)) dX2_giveTo_67 rfl rfl ?_
      refine me_getr C hB 1 (k' := 15) (i' := v3) fg_Mover_67 dX2_giveTo_68 rfl rfl ?_
      refine me_iload C dX2_giveTo_71 rfl ?_
      refine me_iconst C (v := 5) dX2_giveTo_73 (by decide) ?_
      refine me_imul C dX2_giveTo_74 ?_
      refine me_iload_n C 2 dX2_giveTo_75 rfl rfl ?_
      refine me_iadd C dX2_giveTo_76 ?_
      refine me_iload C dX2_giveTo_77 rfl ?_
      refine me_iconst C (v := 1) dX2_giveTo_79 (by decide) ?_
      refine me_iadd C dX2_giveTo_80 ?_
      refine me_iconst C (v := 5) dX2_giveTo_81 (by decide) ?_
      refine me_irem C dX2_giveTo_82 (by decide) ?_
      obtain ⟨g9, hf⟩ := me_gs hf
      obtain ⟨μ10, e_μ10, hf⟩ := me_lts hf
      refine me_iast C rfl (fun _ => rfl) g9 dX2_giveTo_83 e_μ10 ?_
      refine me_aload_n C 0 (Or.inr (Or.inl ⟨_, rfl⟩)) dX2_giveTo_84 rfl rfl ?_
      refine me_iconst C (v := 1) dX2_giveTo_85 (by decide) ?_
      obtain ⟨μ11, e_μ11, hf⟩ := me_lts hf
      refine me_puti C 7 fw_Mover_42 dX2_giveTo_86 rfl (by decide +kernel) e_μ11 ?_
      exact me_vret C N dX2_giveTo_89 (by cases hf; rfl) (by decide) (by decide)
def f_Mover_giveTo_h31 (K10 : me_M → Int32 → Int32 → Nat → Int32 → Option (me_M × Unit)) : Nat → me_M → Int32 → Int32 → Nat → Int32 → Int32 → Int32 → Option (me_M × Unit)
  | 0, _, _, _, _, _, _, _ => none
  | n + 1, μ, v1, v2, v3, v4, v5, v6 => f_Mover_giveTo_b31 K10 (f_Mover_giveTo_h31 K10 n) μ v1 v2 v3 v4 v5 v6
set_option maxHeartbeats 4000000 in
set_option maxRecDepth 100000 in
theorem z_Mover_giveTo_h31 {X : me_X} {B : me_B} {sz : Nat} (C : me_C X B RX2 cX2_giveTo 8 none) {K10 : me_M → Int32 → Int32 → Nat → Int32 → Option (me_M × Unit)} {r : me_M × Unit} (N : me_En X B sz (B, r.1, .ok (none)) 5 123 0 0) (hNx : me_Nx X) (hB : me_St B) (hK10 : ∀ (μ : me_M) (v1 : Int32) (v2 : Int32) (v3 : Nat) (v4 : Int32), K10 μ v1 v2 v3 v4 = some r → me_Z X B 0 0 μ 10 [(0, me_r 30 0), (1, me_i v1), (2, me_i v2), (3, me_r 13 v3), (4, me_i v4)] []) : ∀ (n : Nat) (μ : me_M) (v1 : Int32) (v2 : Int32) (v3 : Nat) (v4 : Int32) (v5 : Int32) (v6 : Int32), f_Mover_giveTo_h31 K10 n μ v1 v2 v3 v4 v5 v6 = some r → me_Z X B 0 0 μ 31 [(0, me_r 30 0), (1, me_i v1), (2, me_i v2), (3, me_r 13 v3), (4, me_i v4), (5, me_i v5), (6, me_i v6)] [] := by
  intro n
  induction n with
  | zero => intro μ v1 v2 v3 v4 v5 v6  h; exact absurd (show (none : Option (me_M × Unit)) = some r from h) (fun q => by cases q)
  | succ n ih => intro μ v1 v2 v3 v4 v5 v6  h; exact z_Mover_giveTo_b31 C N hNx hB hK10 (K31 := f_Mover_giveTo_h31 K10 n) ih  h
def f_Mover_giveTo_b10 (K10 : me_M → Int32 → Int32 → Nat → Int32 → Option (me_M × Unit)) (μ : me_M) (v1 : Int32) (v2 : Int32) (v3 : Nat) (v4 : Int32) : Option (me_M × Unit) :=
  if v4 < 0 then
  (some (μ, ()))
  else
  (me_gd (me_inb ((v4 * (5 : Int32)) + v2) 10) (
  me_lt ((μ 15 v3 (me_ix ((v4 * (5 : Int32)) + v2)))) (fun x3 =>
  f_Mover_giveTo_h31 K10 me_FU μ v1 v2 v3 v4 x3 (0 : Int32))))
set_option maxHeartbeats 4000000 in
set_option maxRecDepth 100000 in
theorem z_Mover_giveTo_b10 {X : me_X} {B : me_B} {sz : Nat} (C : me_C X B RX2 cX2_giveTo 8 none) {μ : me_M} {v1 : Int32} {v2 : Int32} {v3 : Nat} {v4 : Int32}  {K10 : me_M → Int32 → Int32 → Nat → Int32 → Option (me_M × Unit)} {r : me_M × Unit} (N : me_En X B sz (B, r.1, .ok (none)) 5 123 0 0) (hNx : me_Nx X) (hB : me_St B) (hK10 : ∀ (μ : me_M) (v1 : Int32) (v2 : Int32) (v3 : Nat) (v4 : Int32), K10 μ v1 v2 v3 v4 = some r → me_Z X B 0 0 μ 10 [(0, me_r 30 0), (1, me_i v1), (2, me_i v2), (3, me_r 13 v3), (4, me_i v4)] [])  (hf : f_Mover_giveTo_b10 K10 μ v1 v2 v3 v4 = some r) : me_Z X B 0 0 μ 10 [(0, me_r 30 0), (1, me_i v1), (2, me_i v2), (3, me_r 13 v3), (4, me_i v4)] [] := by
  unfold f_Mover_giveTo_b10 at hf
  refine me_iload C dX2_giveTo_10 rfl ?_
  refine me_if_lt C (tgt := 102) dX2_giveTo_12 (by decide) (fun c1 => ?_) (fun c1 => ?_)
  · replace hf := me_ip c1 hf
    exact me_vret C N dX2_giveTo_102 (by cases hf; rfl) (by decide) (by decide)
  · replace hf := me_in c1 hf
    refine me_aload_n C 3 (Or.inr (Or.inl ⟨_, rfl⟩)) dX2_giveTo_15 rfl rfl ?_
    refine me_getr C hB 1 (k' := 15) (i' := v3) fg_Mover_67 dX2_giveTo_16 rfl rfl ?_
    refine me_iload C dX2_giveTo_19 rfl ?_
    refine me_iconst C (v := 5) dX2_giveTo_21 (by decide) ?_
    refine me_imul C dX2_giveTo_22 ?_
    refine me_iload_n C 2 dX2_giveTo_23 rfl rfl ?_
    refine me_iadd C dX2_giveTo_24 ?_
    obtain ⟨g2, hf⟩ := me_gs hf
    refine me_iald C rfl (fun _ => rfl) g2 dX2_giveTo_25 ?_
    obtain ⟨x3, e_x3, hf⟩ := me_lts hf
    refine me_nm e_x3 ?_
    refine me_istore C dX2_giveTo_26 (by decide) (L' := [(5, me_i x3), (0, me_r 30 0), (1, me_i v1), (2, me_i v2), (3, me_r 13 v3), (4, me_i v4)]) rfl ?_
    refine me_iconst C (v := 0) dX2_giveTo_28 (by decide) ?_
    refine me_istore C dX2_giveTo_29 (by decide) (L' := [(6, me_i (0 : Int32)), (5, me_i x3), (0, me_r 30 0), (1, me_i v1), (2, me_i v2), (3, me_r 13 v3), (4, me_i v4)]) rfl ?_
    refine me_dropI [(0, me_r 30 0), (1, me_i v1), (2, me_i v2), (3, me_r 13 v3), (4, me_i v4), (5, me_i x3), (6, me_i (0 : Int32))] [2, 3, 4, 5, 6, 1, 0] rfl ?_
    exact z_Mover_giveTo_h31 C N hNx hB hK10 me_FU μ v1 v2 v3 v4 x3 (0 : Int32) hf
def f_Mover_giveTo_h10  : Nat → me_M → Int32 → Int32 → Nat → Int32 → Option (me_M × Unit)
  | 0, _, _, _, _, _ => none
  | n + 1, μ, v1, v2, v3, v4 => f_Mover_giveTo_b10 (f_Mover_giveTo_h10 n) μ v1 v2 v3 v4
set_option maxHeartbeats 4000000 in
set_option maxRecDepth 100000 in
theorem z_Mover_giveTo_h10 {X : me_X} {B : me_B} {sz : Nat} (C : me_C X B RX2 cX2_giveTo 8 none)  {r : me_M × Unit} (N : me_En X B sz (B, r.1, .ok (none)) 5 123 0 0) (hNx : me_Nx X) (hB : me_St B)  : ∀ (n : Nat) (μ : me_M) (v1 : Int32) (v2 : Int32) (v3 : Nat) (v4 : Int32), f_Mover_giveTo_h10 n μ v1 v2 v3 v4 = some r → me_Z X B 0 0 μ 10 [(0, me_r 30 0), (1, me_i v1), (2, me_i v2), (3, me_r 13 v3), (4, me_i v4)] [] := by
  intro n
  induction n with
  | zero => intro μ v1 v2 v3 v4  h; exact absurd (show (none : Option (me_M × Unit)) = some r from h) (fun q => by cases q)
  | succ n ih => intro μ v1 v2 v3 v4  h; exact z_Mover_giveTo_b10 C N hNx hB  (K10 := f_Mover_giveTo_h10 n) ih  h
def f_Mover_giveTo (μ : me_M) (v1 : Int32) (v2 : Int32) : Option (me_M × Unit) :=
  me_gd (me_inb v1 16) (
  f_Mover_giveTo_h10 me_FU μ v1 v2 (me_ix v1) (1 : Int32))
set_option maxHeartbeats 4000000 in
set_option maxRecDepth 100000 in
theorem z_Mover_giveTo {X : me_X} {B : me_B} {sz : Nat} (C : me_C X B RX2 cX2_giveTo 8 none) {μ : me_M} {v1 : Int32} {v2 : Int32}   {r : me_M × Unit} (N : me_En X B sz (B, r.1, .ok (none)) 5 123 0 0) (hNx : me_Nx X) (hB : me_St B)   (hf : f_Mover_giveTo μ v1 v2 = some r) : me_Z X B 0 0 μ 0 [(0, me_r 30 0), (1, me_i v1), (2, me_i v2)] [] := by
  unfold f_Mover_giveTo at hf
  refine me_aload_n C 0 (Or.inr (Or.inl ⟨_, rfl⟩)) dX2_giveTo_0 rfl rfl ?_
  refine me_getr C hB 2 (k' := 12) (i' := 0) fg_Mover_26 dX2_giveTo_1 rfl rfl ?_
  refine me_iload_n C 1 dX2_giveTo_4 rfl rfl ?_
  obtain ⟨g1, hf⟩ := me_gs hf
  refine me_aald C hB (k' := 13) (i' := (me_ix v1)) rfl (fun _ => rfl) rfl g1 dX2_giveTo_5 rfl ?_
  refine me_astore_n C 3 (Or.inr (Or.inl ⟨_, rfl⟩)) dX2_giveTo_6 rfl (by decide) (L' := [(3, me_r 13 (me_ix v1)), (0, me_r 30 0), (1, me_i v1), (2, me_i v2)]) rfl ?_
  refine me_iconst C (v := 1) dX2_giveTo_7 (by decide) ?_
  refine me_istore C dX2_giveTo_8 (by decide) (L' := [(4, me_i (1 : Int32)), (3, me_r 13 (me_ix v1)), (0, me_r 30 0), (1, me_i v1), (2, me_i v2)]) rfl ?_
  refine me_dropI [(0, me_r 30 0), (1, me_i v1), (2, me_i v2), (3, me_r 13 (me_ix v1)), (4, me_i (1 : Int32))] [2, 3, 4, 1, 0] rfl ?_
  exact z_Mover_giveTo_h10 C N hNx hB me_FU μ v1 v2 (me_ix v1) (1 : Int32) hf
theorem c_Mover_giveTo {B : me_B} (hB : me_St B) {μ : me_M} {v1 : Int32} {v2 : Int32} {μ' : me_M} {r : Unit}  (hf : f_Mover_giveTo μ v1 v2 = some (μ', r)) : ∀ l E z, l.stackTraces = false → me_Met l yX2_giveTo cX2_giveTo 8 none 5 123 0 0 E B μ z [me_r 30 0, me_i v1, me_i v2] (B, μ', .ok (none)) :=
  fun _ _ _ hl => me_ofZ hl (by decide +kernel) (Nat.le_of_ble_eq_true rfl) (fun _ C N hNx => z_Mover_giveTo C N hNx hB  hf)

def f_Mover_moveAll_b39 (K2 : me_M → Int32 → Option (me_M × Unit)) (K39 : me_M → Int32 → Int32 → Option (me_M × Unit)) (μ : me_M) (v1 : Int32) (v2 : Int32) : Option (me_M × Unit) :=
  if (5 : Int32) ≤ v2 then
  (me_lt (me_inc v1 (1)) (fun x2 =>
  K2 μ x2))
  else
  (me_b2 (f_Mover_giveTo μ v1 v2) (fun μ4 r3 =>
  me_lt (me_inc v2 (1)) (fun x5 =>
  K39 μ4 v1 x5)))
set_option maxHeartbeats 4000000 in
set_option maxRecDepth 100000 in
theorem z_Mover_moveAll_b39 {X : me_X} {B : me_B} {sz : Nat} (C : me_C X B RX2 cX2_moveAll 3 none) {μ : me_M} {v1 : Int32} {v2 : Int32}  {K2 : me_M → Int32 → Option (me_M × Unit)} {K39 : me_M → Int32 → Int32 → Option (me_M × Unit)} {r : me_M × Unit} (N : me_En X B sz (B, r.1, .ok (none)) 6 150 0 0) (hNx : me_Nx X) (hB : me_St B) (hK2 : ∀ (μ : me_M) (v1 : Int32), K2 μ v1 = some r → me_Z X B 0 0 μ 2 [(0, me_r 30 0), (1, me_i v1)] []) (hK39 : ∀ (μ : me_M) (v1 : Int32) (v2 : Int32), K39 μ v1 v2 = some r → me_Z X B 0 0 μ 39 [(0, me_r 30 0), (1, me_i v1), (2, me_i v2)] [])  (hf : f_Mover_moveAll_b39 K2 K39 μ v1 v2 = some r) : me_Z X B 0 0 μ 39 [(0, me_r 30 0), (1, me_i v1), (2, me_i v2)] [] := by
  unfold f_Mover_moveAll_b39 at hf
  refine me_iload_n C 2 dX2_moveAll_39 rfl rfl ?_
  refine me_iconst C (v := 5) dX2_moveAll_40 (by decide) ?_
  refine me_icmp_ge C (tgt := 56) dX2_moveAll_41 (by decide) (fun c1 => ?_) (fun c1 => ?_)
  · replace hf := me_ip c1 hf
    obtain ⟨x2, e_x2, hf⟩ := me_lts hf
    refine me_iinc C (v := x2) (L' := [(1, me_i x2), (0, me_r 30 0), (2, me_i v2)]) dX2_moveAll_56 rfl e_x2.symm (by decide) rfl ?_
    refine me_goto C (tgt := 2) dX2_moveAll_59 (by decide) ?_
    refine me_dropI [(0, me_r 30 0), (1, me_i x2)] [1, 0] rfl ?_
    exact hK2 μ x2 hf
  · replace hf := me_in c1 hf
    refine me_aload_n C 0 (Or.inr (Or.inl ⟨_, rfl⟩)) dX2_moveAll_44 rfl rfl ?_
    refine me_iload_n C 1 dX2_moveAll_45 rfl rfl ?_
    refine me_iload_n C 2 dX2_moveAll_46 rfl rfl ?_
    obtain ⟨μ4, r3, h_r3, hf⟩ := me_bs2 hf
    refine me_callV0 C N  (As := [me_i v1, me_i v2]) (st := []) 0 0 (c_Mover_giveTo hB h_r3) mv_Mover_giveTo ml_Mover_63 rfl rfl dX2_moveAll_47 rfl rfl ⟨by decide, by decide⟩ ⟨by decide, by decide, by decide, by decide⟩ (Nat.le_of_ble_eq_true rfl) ?_
    obtain ⟨x5, e_x5, hf⟩ := me_lts hf
    refine me_iinc C (v := x5) (L' := [(2, me_i x5), (0, me_r 30 0), (1, me_i v1)]) dX2_moveAll_50 rfl e_x5.symm (by decide) rfl ?_
    refine me_goto C (tgt := 39) dX2_moveAll_53 (by decide) ?_
    refine me_dropI [(0, me_r 30 0), (1, me_i v1), (2, me_i x5)] [1, 2, 0] rfl ?_
    exact hK39 μ4 v1 x5 hf
def f_Mover_moveAll_h39 (K2 : me_M → Int32 → Option (me_M × Unit)) : Nat → me_M → Int32 → Int32 → Option (me_M × Unit)
  | 0, _, _, _ => none
  | n + 1, μ, v1, v2 => f_Mover_moveAll_b39 K2 (f_Mover_moveAll_h39 K2 n) μ v1 v2
set_option maxHeartbeats 4000000 in
set_option maxRecDepth 100000 in
theorem z_Mover_moveAll_h39 {X : me_X} {B : me_B} {sz : Nat} (C : me_C X B RX2 cX2_moveAll 3 none) {K2 : me_M → Int32 → Option (me_M × Unit)} {r : me_M × Unit} (N : me_En X B sz (B, r.1, .ok (none)) 6 150 0 0) (hNx : me_Nx X) (hB : me_St B) (hK2 : ∀ (μ : me_M) (v1 : Int32), K2 μ v1 = some r → me_Z X B 0 0 μ 2 [(0, me_r 30 0), (1, me_i v1)] []) : ∀ (n : Nat) (μ : me_M) (v1 : Int32) (v2 : Int32), f_Mover_moveAll_h39 K2 n μ v1 v2 = some r → me_Z X B 0 0 μ 39 [(0, me_r 30 0), (1, me_i v1), (2, me_i v2)] [] := by
  intro n
  induction n with
  | zero => intro μ v1 v2  h; exact absurd (show (none : Option (me_M × Unit)) = some r from h) (fun q => by cases q)
  | succ n ih => intro μ v1 v2  h; exact z_Mover_moveAll_b39 C N hNx hB hK2 (K39 := f_Mover_moveAll_h39 K2 n) ih  h
def f_Mover_moveAll_b2 (K2 : me_M → Int32 → Option (me_M × Unit)) (μ : me_M) (v1 : Int32) : Option (me_M × Unit) :=
  if (μ 1 0 4) ≤ v1 then
  (some (μ, ()))
  else
  (me_gd (me_inb v1 16) (
  if (μ 13 (me_ix v1) 3) = 0 then
  (me_lt (me_inc v1 (1)) (fun x4 =>
  K2 μ x4))
  else
  (me_gd (me_inb v1 16) (
  me_bd (f_Router_countPieces μ (me_ix v1)) (fun r6 =>
  if r6 ≤ 0 then
  (me_lt (me_inc v1 (1)) (fun x8 =>
  K2 μ x8))
  else
  (f_Mover_moveAll_h39 K2 me_FU μ v1 (0 : Int32)))))))
set_option maxHeartbeats 4000000 in
set_option maxRecDepth 100000 in
theorem z_Mover_moveAll_b2 {X : me_X} {B : me_B} {sz : Nat} (C : me_C X B RX2 cX2_moveAll 3 none) {μ : me_M} {v1 : Int32}  {K2 : me_M → Int32 → Option (me_M × Unit)} {r : me_M × Unit} (N : me_En X B sz (B, r.1, .ok (none)) 6 150 0 0) (hNx : me_Nx X) (hB : me_St B) (hK2 : ∀ (μ : me_M) (v1 : Int32), K2 μ v1 = some r → me_Z X B 0 0 μ 2 [(0, me_r 30 0), (1, me_i v1)] [])  (hf : f_Mover_moveAll_b2 K2 μ v1 = some r) : me_Z X B 0 0 μ 2 [(0, me_r 30 0), (1, me_i v1)] [] := by
  unfold f_Mover_moveAll_b2 at hf
  refine me_iload_n C 1 dX2_moveAll_2 rfl rfl ?_
  refine me_aload_n C 0 (Or.inr (Or.inl ⟨_, rfl⟩)) dX2_moveAll_3 rfl rfl ?_
  refine me_getr C hB 0 (k' := 1) (i' := 0) fg_Mover_15 dX2_moveAll_4 rfl rfl ?_
  refine me_geti C 4 fg_Mover_46 dX2_moveAll_7 rfl ?_
  refine me_icmp_ge C (tgt := 62) dX2_moveAll_10 (by decide) (fun c1 => ?_) (fun c1 => ?_)
  · replace hf := me_ip c1 hf
    exact me_vret C N dX2_moveAll_62 (by cases hf; rfl) (by decide) (by decide)
  · replace hf := me_in c1 hf
    refine me_aload_n C 0 (Or.inr (Or.inl ⟨_, rfl⟩)) dX2_moveAll_13 rfl rfl ?_
    refine me_getr C hB 2 (k' := 12) (i' := 0) fg_Mover_26 dX2_moveAll_14 rfl rfl ?_
    refine me_iload_n C 1 dX2_moveAll_17 rfl rfl ?_
    obtain ⟨g2, hf⟩ := me_gs hf
    refine me_aald C hB (k' := 13) (i' := (me_ix v1)) rfl (fun _ => rfl) rfl g2 dX2_moveAll_18 rfl ?_
    refine me_geti C 3 fg_Mover_56 dX2_moveAll_19 rfl ?_
    refine me_if_eq C (tgt := 56) dX2_moveAll_22 (by decide) (fun c3 => ?_) (fun c3 => ?_)
    · replace hf := me_ip c3 hf
      obtain ⟨x4, e_x4, hf⟩ := me_lts hf
      refine me_iinc C (v := x4) (L' := [(1, me_i x4), (0, me_r 30 0)]) dX2_moveAll_56 rfl e_x4.symm (by decide) rfl ?_
      refine me_goto C (tgt := 2) dX2_moveAll_59 (by decide) ?_
      refine me_dropI [(0, me_r 30 0), (1, me_i x4)] [1, 0] rfl ?_
      exact hK2 μ x4 hf
    · replace hf := me_in c3 hf
      refine me_aload_n C 0 (Or.inr (Or.inl ⟨_, rfl⟩)) dX2_moveAll_25 rfl rfl ?_
      refine me_getr C hB 2 (k' := 12) (i' := 0) fg_Mover_26 dX2_moveAll_26 rfl rfl ?_
      refine me_iload_n C 1 dX2_moveAll_29 rfl rfl ?_
      obtain ⟨g5, hf⟩ := me_gs hf
      refine me_aald C hB (k' := 13) (i' := (me_ix v1)) rfl (fun _ => rfl) rfl g5 dX2_moveAll_30 rfl ?_
      obtain ⟨r6, h_r6, hf⟩ := me_bs hf
      refine me_callV C N  (As := []) (st := []) 0 0 (c_Router_countPieces hB h_r6) mv_Router_countPieces ml_Mover_59 rfl rfl dX2_moveAll_31 rfl rfl ⟨by decide, by decide⟩ ⟨by decide, by decide, by decide, by decide⟩ (Nat.le_of_ble_eq_true rfl) ?_
      refine me_if_le C (tgt := 56) dX2_moveAll_34 (by decide) (fun c7 => ?_) (fun c7 => ?_)
      · replace hf := me_ip c7 hf
        obtain ⟨x8, e_x8, hf⟩ := me_lts hf
        refine me_iinc C (v := x8) (L' := [(1, me_i x8), (0, me_r 30 0)]) dX2_moveAll_56 rfl e_x8.symm (by decide) rfl ?_
        refine me_goto C (tgt := 2) dX2_moveAll_59 (by decide) ?_
        refine me_dropI [(0, me_r 30 0), (1, me_i x8)] [1, 0] rfl ?_
        exact hK2 μ x8 hf
      · replace hf := me_in c7 hf
        refine me_iconst C (v := 0) dX2_moveAll_37 (by decide) ?_
        refine me_istore_n C 2 dX2_moveAll_38 rfl (by decide) (L' := [(2, me_i (0 : Int32)), (0, me_r 30 0), (1, me_i v1)]) rfl ?_
        refine me_dropI [(0, me_r 30 0), (1, me_i v1), (2, me_i (0 : Int32))] [1, 2, 0] rfl ?_
        exact z_Mover_moveAll_h39 C N hNx hB hK2 me_FU μ v1 (0 : Int32) hf
def f_Mover_moveAll_h2  : Nat → me_M → Int32 → Option (me_M × Unit)
  | 0, _, _ => none
  | n + 1, μ, v1 => f_Mover_moveAll_b2 (f_Mover_moveAll_h2 n) μ v1
set_option maxHeartbeats 4000000 in
set_option maxRecDepth 100000 in
theorem z_Mover_moveAll_h2 {X : me_X} {B : me_B} {sz : Nat} (C : me_C X B RX2 cX2_moveAll 3 none)  {r : me_M × Unit} (N : me_En X B sz (B, r.1, .ok (none)) 6 150 0 0) (hNx : me_Nx X) (hB : me_St B)  : ∀ (n : Nat) (μ : me_M) (v1 : Int32), f_Mover_moveAll_h2 n μ v1 = some r → me_Z X B 0 0 μ 2 [(0, me_r 30 0), (1, me_i v1)] [] := by
  intro n
  induction n with
  | zero => intro μ v1  h; exact absurd (show (none : Option (me_M × Unit)) = some r from h) (fun q => by cases q)
  | succ n ih => intro μ v1  h; exact z_Mover_moveAll_b2 C N hNx hB  (K2 := f_Mover_moveAll_h2 n) ih  h
def f_Mover_moveAll (μ : me_M) : Option (me_M × Unit) :=
  f_Mover_moveAll_h2 me_FU μ (0 : Int32)
set_option maxHeartbeats 4000000 in
set_option maxRecDepth 100000 in
theorem z_Mover_moveAll {X : me_X} {B : me_B} {sz : Nat} (C : me_C X B RX2 cX2_moveAll 3 none) {μ : me_M}    {r : me_M × Unit} (N : me_En X B sz (B, r.1, .ok (none)) 6 150 0 0) (hNx : me_Nx X) (hB : me_St B)   (hf : f_Mover_moveAll μ = some r) : me_Z X B 0 0 μ 0 [(0, me_r 30 0)] [] := by
  unfold f_Mover_moveAll at hf
  refine me_iconst C (v := 0) dX2_moveAll_0 (by decide) ?_
  refine me_istore_n C 1 dX2_moveAll_1 rfl (by decide) (L' := [(1, me_i (0 : Int32)), (0, me_r 30 0)]) rfl ?_
  refine me_dropI [(0, me_r 30 0), (1, me_i (0 : Int32))] [1, 0] rfl ?_
  exact z_Mover_moveAll_h2 C N hNx hB me_FU μ (0 : Int32) hf
theorem c_Mover_moveAll {B : me_B} (hB : me_St B) {μ : me_M}  {μ' : me_M} {r : Unit}  (hf : f_Mover_moveAll μ = some (μ', r)) : ∀ l E z, l.stackTraces = false → me_Met l yX2_moveAll cX2_moveAll 3 none 6 150 0 0 E B μ z [me_r 30 0] (B, μ', .ok (none)) :=
  fun _ _ _ hl => me_ofZ hl (by decide +kernel) (Nat.le_of_ble_eq_true rfl) (fun _ C N hNx => z_Mover_moveAll C N hNx hB  hf)

def f_Packet_isYetToPut (μ : me_M) (v0 : Nat) : Option Int32 :=
  if (μ 8 v0 6) ≤ (μ 8 v0 7) then
  (some (0 : Int32))
  else
  (if (μ 8 v0 2) = (108 : Int32) then
  (some (0 : Int32))
  else
  (some (1 : Int32)))
set_option maxHeartbeats 4000000 in
set_option maxRecDepth 100000 in
theorem z_Packet_isYetToPut {X : me_X} {B : me_B} {sz : Nat} (C : me_C X B RX4 cX4_isYetToPut 1 (some .boolean)) {μ : me_M} {v0 : Nat}   {r : Int32} (N : me_En X B sz (B, μ, .ok (some (me_i r))) 0 0 0 0) (hNx : me_Nx X) (hB : me_St B)   (hf : f_Packet_isYetToPut μ v0 = some r) : me_Z X B 0 0 μ 0 [(0, me_r 8 v0)] [] := by
  unfold f_Packet_isYetToPut at hf
  refine me_aload_n C 0 (Or.inr (Or.inl ⟨_, rfl⟩)) dX4_isYetToPut_0 rfl rfl ?_
  refine me_geti C 7 fg_Packet_20 dX4_isYetToPut_1 rfl ?_
  refine me_aload_n C 0 (Or.inr (Or.inl ⟨_, rfl⟩)) dX4_isYetToPut_4 rfl rfl ?_
  refine me_geti C 6 fg_Packet_17 dX4_isYetToPut_5 rfl ?_
  refine me_icmp_ge C (tgt := 24) dX4_isYetToPut_8 (by decide) (fun c1 => ?_) (fun c1 => ?_)
  · replace hf := me_ip c1 hf
    refine me_iconst C (v := 0) dX4_isYetToPut_24 (by decide) ?_
    exact me_iret C N dX4_isYetToPut_25 (by decide +kernel) (by cases hf; rfl) (by decide) (by decide)
  · replace hf := me_in c1 hf
    refine me_aload_n C 0 (Or.inr (Or.inl ⟨_, rfl⟩)) dX4_isYetToPut_11 rfl rfl ?_
    refine me_geti C 2 fg_Packet_23 dX4_isYetToPut_12 rfl ?_
    refine me_bipush C (v := 108) dX4_isYetToPut_15 (by decide) ?_
    refine me_icmp_eq C (tgt := 24) dX4_isYetToPut_17 (by decide) (fun c2 => ?_) (fun c2 => ?_)
    · replace hf := me_ip c2 hf
      refine me_iconst C (v := 0) dX4_isYetToPut_24 (by decide) ?_
      exact me_iret C N dX4_isYetToPut_25 (by decide +kernel) (by cases hf; rfl) (by decide) (by decide)
    · replace hf := me_in c2 hf
      refine me_iconst C (v := 1) dX4_isYetToPut_20 (by decide) ?_
      refine me_goto C (tgt := 25) dX4_isYetToPut_21 (by decide) ?_
      exact me_iret C N dX4_isYetToPut_25 (by decide +kernel) (by cases hf; rfl) (by decide) (by decide)
theorem c_Packet_isYetToPut {B : me_B} (hB : me_St B) {μ : me_M} {v0 : Nat} {r : Int32}  (hf : f_Packet_isYetToPut μ v0 = some r) : ∀ l E z, l.stackTraces = false → me_Met l yX4_isYetToPut cX4_isYetToPut 1 (some .boolean) 0 0 0 0 E B μ z [me_r 8 v0] (B, μ, .ok (some (me_i r))) :=
  fun _ _ _ hl => me_ofZ hl (by decide +kernel) (Nat.le_of_ble_eq_true rfl) (fun _ C N hNx => z_Packet_isYetToPut C N hNx hB  hf)

def f_Mover_firstToPut_b67 (μ : me_M) (v1 : Nat) (v3 : Int32) (v4 : Int32) : Option (me_M × (Option Nat)) :=
  me_gd (me_inb v3 2) (
  me_lt (me_up μ 16 v1 (me_ix v3) v4) (fun μ2 =>
  me_bd (f_Post_find μ2 v4) (fun r3 =>
  me_oq r3
  (some (μ2, none))
  (fun r3i => some (μ2, (some r3i))))))
set_option maxHeartbeats 4000000 in
set_option maxRecDepth 100000 in
theorem z_Mover_firstToPut_b67 {X : me_X} {B : me_B} {sz : Nat} (C : me_C X B RX2 cX2_firstToPut 6 (some (.object "Meshyard$Packet"))) {μ : me_M} {v1 : Nat} {v3 : Int32} {v4 : Int32}   {r : me_M × (Option Nat)} (N : me_En X B sz (B, r.1, .ok (some (me_q 8 r.2))) 1 21 0 0) (hNx : me_Nx X) (hB : me_St B)   (hf : f_Mover_firstToPut_b67 μ v1 v3 v4 = some r) : me_Z X B 0 0 μ 67 [(0, me_r 30 0), (1, me_r 13 v1), (3, me_i v3), (4, me_i v4)] [] := by
  unfold f_Mover_firstToPut_b67 at hf
  refine me_aload_n C 1 (Or.inr (Or.inl ⟨_, rfl⟩)) dX2_firstToPut_67 rfl rfl ?_
  refine me_getr C hB 2 (k' := 16) (i' := v1) fg_Mover_216 dX2_firstToPut_68 rfl rfl ?_
  refine me_iload_n C 3 dX2_firstToPut_71 rfl rfl ?_
  refine me_iload C dX2_firstToPut_72 rfl ?_
  obtain ⟨g1, hf⟩ := me_gs hf
  obtain ⟨μ2, e_μ2, hf⟩ := me_lts hf
  refine me_iast C rfl (fun _ => rfl) g1 dX2_firstToPut_74 e_μ2 ?_
  refine me_aload_n C 0 (Or.inr (Or.inl ⟨_, rfl⟩)) dX2_firstToPut_75 rfl rfl ?_
  refine me_getr C hB 3 (k' := 6) (i' := 0) fg_Mover_27 dX2_firstToPut_76 rfl rfl ?_
  refine me_iload C dX2_firstToPut_79 rfl ?_
  obtain ⟨r3, h_r3, hf⟩ := me_bs hf
  refine me_callV C N  (As := [me_i v4]) (st := []) 0 0 (c_Post_find hB h_r3) mv_Post_find ml_Mover_88 rfl rfl dX2_firstToPut_81 rfl rfl ⟨by decide, by decide⟩ ⟨by decide, by decide, by decide, by decide⟩ (Nat.le_of_ble_eq_true rfl) ?_
  rcases r3 with _ | r3i
  · replace hf := me_oqn hf
    exact me_aret C N (Or.inl rfl) dX2_firstToPut_84 (by cases hf; rfl) (by decide) (by decide)
  · replace hf := me_oqs hf
    exact me_aret C N (Or.inr ⟨_, rfl⟩) dX2_firstToPut_84 (by cases hf; rfl) (by decide) (by decide)
def f_Mover_firstToPut_b8 (K8 : me_M → Nat → Int32 → Int32 → Int32 → Option (me_M × (Option Nat))) (μ : me_M) (v1 : Nat) (v2 : Int32) (v3 : Int32) (v4 : Int32) : Option (me_M × (Option Nat)) :=
  if (μ 6 0 1) ≤ v4 then
  (f_Mover_firstToPut_b67 μ v1 v3 v4)
  else
  (me_gd (me_inb v4 200) (
  if (μ 8 (me_ix v4) 3) = v2 then
  (me_bd (f_Packet_channel μ (me_ix v4)) (fun r5 =>
  if r5 = v3 then
  (me_bd (f_Packet_isYetToPut μ (me_ix v4)) (fun r8 =>
  if r8 = 0 then
  (me_lt (me_inc v4 (1)) (fun x10 =>
  K8 μ v1 v2 v3 x10))
  else
  (f_Mover_firstToPut_b67 μ v1 v3 v4)))
  else
  (me_lt (me_inc v4 (1)) (fun x7 =>
  K8 μ v1 v2 v3 x7))))
  else
  (me_lt (me_inc v4 (1)) (fun x4 =>
  K8 μ v1 v2 v3 x4))))
set_option maxHeartbeats 4000000 in
set_option maxRecDepth 100000 in
theorem z_Mover_firstToPut_b8 {X : me_X} {B : me_B} {sz : Nat} (C : me_C X B RX2 cX2_firstToPut 6 (some (.object "Meshyard$Packet"))) {μ : me_M} {v1 : Nat} {v2 : Int32} {v3 : Int32} {v4 : Int32}  {K8 : me_M → Nat → Int32 → Int32 → Int32 → Option (me_M × (Option Nat))} {r : me_M × (Option Nat)} (N : me_En X B sz (B, r.1, .ok (some (me_q 8 r.2))) 1 21 0 0) (hNx : me_Nx X) (hB : me_St B) (hK8 : ∀ (μ : me_M) (v1 : Nat) (v2 : Int32) (v3 : Int32) (v4 : Int32), K8 μ v1 v2 v3 v4 = some r → me_Z X B 0 0 μ 8 [(0, me_r 30 0), (1, me_r 13 v1), (2, me_i v2), (3, me_i v3), (4, me_i v4)] [])  (hf : f_Mover_firstToPut_b8 K8 μ v1 v2 v3 v4 = some r) : me_Z X B 0 0 μ 8 [(0, me_r 30 0), (1, me_r 13 v1), (2, me_i v2), (3, me_i v3), (4, me_i v4)] [] := by
  unfold f_Mover_firstToPut_b8 at hf
  refine me_iload C dX2_firstToPut_8 rfl ?_
  refine me_aload_n C 0 (Or.inr (Or.inl ⟨_, rfl⟩)) dX2_firstToPut_10 rfl rfl ?_
  refine me_getr C hB 3 (k' := 6) (i' := 0) fg_Mover_27 dX2_firstToPut_11 rfl rfl ?_
  refine me_geti C 1 fg_Mover_218 dX2_firstToPut_14 rfl ?_
  refine me_icmp_ge C (tgt := 67) dX2_firstToPut_17 (by decide) (fun c1 => ?_) (fun c1 => ?_)
  · replace hf := me_ip c1 hf
    refine me_dropI [(0, me_r 30 0), (1, me_r 13 v1), (3, me_i v3), (4, me_i v4)] [0, 1, 3, 4] rfl ?_
    exact z_Mover_firstToPut_b67 C N hNx hB hf
  · replace hf := me_in c1 hf
    refine me_aload_n C 0 (Or.inr (Or.inl ⟨_, rfl⟩)) dX2_firstToPut_20 rfl rfl ?_
    refine me_getr C hB 3 (k' := 6) (i' := 0) fg_Mover_27 dX2_firstToPut_21 rfl rfl ?_
    refine me_getr C hB 0 (k' := 7) (i' := 0) fg_Mover_221 dX2_firstToPut_24 rfl rfl ?_
    refine me_iload C dX2_firstToPut_27 rfl ?_
    obtain ⟨g2, hf⟩ := me_gs hf
    refine me_aald C hB (k' := 8) (i' := (me_ix v4)) rfl (fun _ => rfl) rfl g2 dX2_firstToPut_29 rfl ?_
    refine me_astore C (Or.inr (Or.inl ⟨_, rfl⟩)) dX2_firstToPut_30 (by decide) (L' := [(5, me_r 8 (me_ix v4)), (0, me_r 30 0), (1, me_r 13 v1), (2, me_i v2), (3, me_i v3), (4, me_i v4)]) rfl ?_
    refine me_aload C (Or.inr (Or.inl ⟨_, rfl⟩)) dX2_firstToPut_32 rfl ?_
    refine me_geti C 3 fg_Mover_192 dX2_firstToPut_34 rfl ?_
    refine me_iload_n C 2 dX2_firstToPut_37 rfl rfl ?_
    refine me_icmp_ne C (tgt := 61) dX2_firstToPut_38 (by decide) (fun c3 => ?_) (fun c3 => ?_)
    · replace hf := me_in c3 hf
      obtain ⟨x4, e_x4, hf⟩ := me_lts hf
      refine me_iinc C (v := x4) (L' := [(4, me_i x4), (5, me_r 8 (me_ix v4)), (0, me_r 30 0), (1, me_r 13 v1), (2, me_i v2), (3, me_i v3)]) dX2_firstToPut_61 rfl e_x4.symm (by decide) rfl ?_
      refine me_goto C (tgt := 8) dX2_firstToPut_64 (by decide) ?_
      refine me_dropI [(0, me_r 30 0), (1, me_r 13 v1), (2, me_i v2), (3, me_i v3), (4, me_i x4)] [2, 3, 4, 5, 0] rfl ?_
      exact hK8 μ v1 v2 v3 x4 hf
    · replace hf := me_ip c3 hf
      refine me_aload C (Or.inr (Or.inl ⟨_, rfl⟩)) dX2_firstToPut_41 rfl ?_
      obtain ⟨r5, h_r5, hf⟩ := me_bs hf
      refine me_callV C N  (As := []) (st := []) 0 0 (c_Packet_channel hB h_r5) mv_Packet_channel ml_Mover_102 rfl rfl dX2_firstToPut_43 rfl rfl ⟨by decide, by decide⟩ ⟨by decide, by decide, by decide, by decide⟩ (Nat.le_of_ble_eq_true rfl) ?_
      refine me_iload_n C 3 dX2_firstToPut_46 rfl rfl ?_
      refine me_icmp_ne C (tgt := 61) dX2_firstToPut_47 (by decide) (fun c6 => ?_) (fun c6 => ?_)
      · replace hf := me_in c6 hf
        obtain ⟨x7, e_x7, hf⟩ := me_lts hf
        refine me_iinc C (v := x7) (L' := [(4, me_i x7), (5, me_r 8 (me_ix v4)), (0, me_r 30 0), (1, me_r 13 v1), (2, me_i v2), (3, me_i v3)]) dX2_firstToPut_61 rfl e_x7.symm (by decide) rfl ?_
        refine me_goto C (tgt := 8) dX2_firstToPut_64 (by decide) ?_
        refine me_dropI [(0, me_r 30 0), (1, me_r 13 v1), (2, me_i v2), (3, me_i v3), (4, me_i x7)] [2, 3, 4, 5, 0] rfl ?_
        exact hK8 μ v1 v2 v3 x7 hf
      · replace hf := me_ip c6 hf
        refine me_aload C (Or.inr (Or.inl ⟨_, rfl⟩)) dX2_firstToPut_50 rfl ?_
        obtain ⟨r8, h_r8, hf⟩ := me_bs hf
        refine me_callV C N  (As := []) (st := []) 0 0 (c_Packet_isYetToPut hB h_r8) mv_Packet_isYetToPut ml_Mover_225 rfl rfl dX2_firstToPut_52 rfl rfl ⟨by decide, by decide⟩ ⟨by decide, by decide, by decide, by decide⟩ (Nat.le_of_ble_eq_true rfl) ?_
        refine me_if_eq C (tgt := 61) dX2_firstToPut_55 (by decide) (fun c9 => ?_) (fun c9 => ?_)
        · replace hf := me_ip c9 hf
          obtain ⟨x10, e_x10, hf⟩ := me_lts hf
          refine me_iinc C (v := x10) (L' := [(4, me_i x10), (5, me_r 8 (me_ix v4)), (0, me_r 30 0), (1, me_r 13 v1), (2, me_i v2), (3, me_i v3)]) dX2_firstToPut_61 rfl e_x10.symm (by decide) rfl ?_
          refine me_goto C (tgt := 8) dX2_firstToPut_64 (by decide) ?_
          refine me_dropI [(0, me_r 30 0), (1, me_r 13 v1), (2, me_i v2), (3, me_i v3), (4, me_i x10)] [2, 3, 4, 5, 0] rfl ?_
          exact hK8 μ v1 v2 v3 x10 hf
        · replace hf := me_in c9 hf
          refine me_goto C (tgt := 67) dX2_firstToPut_58 (by decide) ?_
          refine me_dropI [(0, me_r 30 0), (1, me_r 13 v1), (3, me_i v3), (4, me_i v4)] [1, 2, 4, 5] rfl ?_
          exact z_Mover_firstToPut_b67 C N hNx hB hf
def f_Mover_firstToPut_h8  : Nat → me_M → Nat → Int32 → Int32 → Int32 → Option (me_M × (Option Nat))
  | 0, _, _, _, _, _ => none
  | n + 1, μ, v1, v2, v3, v4 => f_Mover_firstToPut_b8 (f_Mover_firstToPut_h8 n) μ v1 v2 v3 v4
set_option maxHeartbeats 4000000 in
set_option maxRecDepth 100000 in
theorem z_Mover_firstToPut_h8 {X : me_X} {B : me_B} {sz : Nat} (C : me_C X B RX2 cX2_firstToPut 6 (some (.object "Meshyard$Packet")))  {r : me_M × (Option Nat)} (N : me_En X B sz (B, r.1, .ok (some (me_q 8 r.2))) 1 21 0 0) (hNx : me_Nx X) (hB : me_St B)  : ∀ (n : Nat) (μ : me_M) (v1 : Nat) (v2 : Int32) (v3 : Int32) (v4 : Int32), f_Mover_firstToPut_h8 n μ v1 v2 v3 v4 = some r → me_Z X B 0 0 μ 8 [(0, me_r 30 0), (1, me_r 13 v1), (2, me_i v2), (3, me_i v3), (4, me_i v4)] [] := by
  intro n
  induction n with
  | zero => intro μ v1 v2 v3 v4  h; exact absurd (show (none : Option (me_M × (Option Nat))) = some r from h) (fun q => by cases q)
  | succ n ih => intro μ v1 v2 v3 v4  h; exact z_Mover_firstToPut_b8 C N hNx hB  (K8 := f_Mover_firstToPut_h8 n) ih  h
def f_Mover_firstToPut (μ : me_M) (v1 : Nat) (v2 : Int32) (v3 : Int32) : Option (me_M × (Option Nat)) :=
  me_gd (me_inb v3 2) (
  me_lt ((μ 16 v1 (me_ix v3))) (fun x2 =>
  f_Mover_firstToPut_h8 me_FU μ v1 v2 v3 x2))
set_option maxHeartbeats 4000000 in
set_option maxRecDepth 100000 in
theorem z_Mover_firstToPut {X : me_X} {B : me_B} {sz : Nat} (C : me_C X B RX2 cX2_firstToPut 6 (some (.object "Meshyard$Packet"))) {μ : me_M} {v1 : Nat} {v2 : Int32} {v3 : Int32}   {r : me_M × (Option Nat)} (N : me_En X B sz (B, r.1, .ok (some (me_q 8 r.2))) 1 21 0 0) (hNx : me_Nx X) (hB : me_St B)   (hf : f_Mover_firstToPut μ v1 v2 v3 = some r) : me_Z X B 0 0 μ 0 [(0, me_r 30 0), (1, me_r 13 v1), (2, me_i v2), (3, me_i v3)] [] := by
  unfold f_Mover_firstToPut at hf
  refine me_aload_n C 1 (Or.inr (Or.inl ⟨_, rfl⟩)) dX2_firstToPut_0 rfl rfl ?_
  refine me_getr C hB 2 (k' := 16) (i' := v1) fg_Mover_216 dX2_firstToPut_1 rfl rfl ?_
  refine me_iload_n C 3 dX2_firstToPut_4 rfl rfl ?_
  obtain ⟨g1, hf⟩ := me_gs hf
  refine me_iald C rfl (fun _ => rfl) g1 dX2_firstToPut_5 ?_
  obtain ⟨x2, e_x2, hf⟩ := me_lts hf
  refine me_nm e_x2 ?_
  refine me_istore C dX2_firstToPut_6 (by decide) (L' := [(4, me_i x2), (0, me_r 30 0), (1, me_r 13 v1), (2, me_i v2), (3, me_i v3)]) rfl ?_
  refine me_dropI [(0, me_r 30 0), (1, me_r 13 v1), (2, me_i v2), (3, me_i v3), (4, me_i x2)] [1, 2, 3, 4, 0] rfl ?_
  exact z_Mover_firstToPut_h8 C N hNx hB me_FU μ v1 v2 v3 x2 hf
theorem c_Mover_firstToPut {B : me_B} (hB : me_St B) {μ : me_M} {v1 : Nat} {v2 : Int32} {v3 : Int32} {μ' : me_M} {r : Option Nat}  (hf : f_Mover_firstToPut μ v1 v2 v3 = some (μ', r)) : ∀ l E z, l.stackTraces = false → me_Met l yX2_firstToPut cX2_firstToPut 6 (some (.object "Meshyard$Packet")) 1 21 0 0 E B μ z [me_r 30 0, me_r 13 v1, me_i v2, me_i v3] (B, μ', .ok (some (me_q 8 r))) :=
  fun _ _ _ hl => me_ofZ hl (by decide +kernel) (Nat.le_of_ble_eq_true rfl) (fun _ C N hNx => z_Mover_firstToPut C N hNx hB  hf)

def f_Mover_putPiece_b77 (μ : me_M) (v4 : Nat) (v5 : Nat) : Option (me_M × Unit) :=
  me_b2 (f_Row_addPiece μ v5 (μ 8 v4 0) (μ 8 v4 7) (μ 30 0 6)) (fun μ2 r1 =>
  me_lt (me_up μ2 8 v4 7 ((μ2 8 v4 7) + (1 : Int32))) (fun μ3 =>
  me_lt (me_up μ3 30 0 7 (1 : Int32)) (fun μ4 =>
  some (μ4, ()))))
set_option maxHeartbeats 4000000 in
set_option maxRecDepth 100000 in
theorem z_Mover_putPiece_b77 {X : me_X} {B : me_B} {sz : Nat} (C : me_C X B RX2 cX2_putPiece 6 none) {μ : me_M} {v4 : Nat} {v5 : Nat}   {r : me_M × Unit} (N : me_En X B sz (B, r.1, .ok (none)) 2 46 0 0) (hNx : me_Nx X) (hB : me_St B)   (hf : f_Mover_putPiece_b77 μ v4 v5 = some r) : me_Z X B 0 0 μ 77 [(0, me_r 30 0), (4, me_r 8 v4), (5, me_r 17 v5)] [] := by
  unfold f_Mover_putPiece_b77 at hf
  refine me_aload C (Or.inr (Or.inl ⟨_, rfl⟩)) dX2_putPiece_77 rfl ?_
  refine me_aload C (Or.inr (Or.inl ⟨_, rfl⟩)) dX2_putPiece_79 rfl ?_
  refine me_geti C 0 fg_Mover_145 dX2_putPiece_81 rfl ?_
  refine me_aload C (Or.inr (Or.inl ⟨_, rfl⟩)) dX2_putPiece_84 rfl ?_
  refine me_geti C 7 fg_Mover_213 dX2_putPiece_86 rfl ?_
  refine me_aload_n C 0 (Or.inr (Or.inl ⟨_, rfl⟩)) dX2_putPiece_89 rfl rfl ?_
  refine me_geti C 6 fg_Mover_39 dX2_putPiece_90 rfl ?_
  obtain ⟨μ2, r1, h_r1, hf⟩ := me_bs2 hf
  refine me_callV0 C N  (As := [me_i (μ 8 v4 0), me_i (μ 8 v4 7), me_i (μ 30 0 6)]) (st := []) 0 0 (c_Row_addPiece hB h_r1) mv_Row_addPiece ml_Mover_158 rfl rfl dX2_putPiece_93 rfl rfl ⟨by decide, by decide⟩ ⟨by decide, by decide, by decide, by decide⟩ (Nat.le_of_ble_eq_true rfl) ?_
  refine me_aload C (Or.inr (Or.inl ⟨_, rfl⟩)) dX2_putPiece_96 rfl ?_
  refine me_dup C rfl dX2_putPiece_98 ?_
  refine me_geti C 7 fg_Mover_213 dX2_putPiece_99 rfl ?_
  refine me_iconst C (v := 1) dX2_putPiece_102 (by decide) ?_
  refine me_iadd C dX2_putPiece_103 ?_
  obtain ⟨μ3, e_μ3, hf⟩ := me_lts hf
  refine me_puti C 7 fw_Mover_213 dX2_putPiece_104 rfl (me_nri _) e_μ3 ?_
  refine me_aload_n C 0 (Or.inr (Or.inl ⟨_, rfl⟩)) dX2_putPiece_107 rfl rfl ?_
  refine me_iconst C (v := 1) dX2_putPiece_108 (by decide) ?_
  obtain ⟨μ4, e_μ4, hf⟩ := me_lts hf
  refine me_puti C 7 fw_Mover_42 dX2_putPiece_109 rfl (by decide +kernel) e_μ4 ?_
  exact me_vret C N dX2_putPiece_112 (by cases hf; rfl) (by decide) (by decide)
def f_Mover_putPiece (μ : me_M) (v1 : Int32) (v2 : Int32) : Option (me_M × Unit) :=
  me_gd (me_inb v1 16) (
  me_b2 (f_Mover_firstToPut μ (me_ix v1) v1 v2) (fun μ3 r2 =>
  me_oq r2
  (some (μ3, ()))
  (fun r2i => if (μ3 13 (me_ix v1) 3) = 0 then
  (me_lt (me_up μ3 13 (me_ix v1) 4 (1 : Int32)) (fun μ11 =>
  some (μ11, ())))
  else
  (me_gd (me_inb ((v2 * (5 : Int32)) + (4 : Int32)) 10) (
  me_bd (f_Row_hasPlace μ3 (10 * (me_ix v1) + (me_ix ((v2 * (5 : Int32)) + (4 : Int32))))) (fun r6 =>
  if r6 = 0 then
  (some (μ3, ()))
  else
  (if (μ3 8 r2i 7) = 0 then
  (me_lt (me_up μ3 8 r2i 2 (119 : Int32)) (fun μ9 =>
  me_lt (me_up μ9 8 r2i 9 v1) (fun μ10 =>
  f_Mover_putPiece_b77 μ10 r2i (10 * (me_ix v1) + (me_ix ((v2 * (5 : Int32)) + (4 : Int32)))))))
  else
  (f_Mover_putPiece_b77 μ3 r2i (10 * (me_ix v1) + (me_ix ((v2 * (5 : Int32)) + (4 : Int32))))))))))))
set_option maxHeartbeats 4000000 in
set_option maxRecDepth 100000 in
theorem z_Mover_putPiece {X : me_X} {B : me_B} {sz : Nat} (C : me_C X B RX2 cX2_putPiece 6 none) {μ : me_M} {v1 : Int32} {v2 : Int32}   {r : me_M × Unit} (N : me_En X B sz (B, r.1, .ok (none)) 2 46 0 0) (hNx : me_Nx X) (hB : me_St B)   (hf : f_Mover_putPiece μ v1 v2 = some r) : me_Z X B 0 0 μ 0 [(0, me_r 30 0), (1, me_i v1), (2, me_i v2)] [] := by
  unfold f_Mover_putPiece at hf
  refine me_aload_n C 0 (Or.inr (Or.inl ⟨_, rfl⟩)) dX2_putPiece_0 rfl rfl ?_
  refine me_getr C hB 2 (k' := 12) (i' := 0) fg_Mover_26 dX2_putPiece_1 rfl rfl ?_
  refine me_iload_n C 1 dX2_putPiece_4 rfl rfl ?_
  obtain ⟨g1, hf⟩ := me_gs hf
  refine me_aald C hB (k' := 13) (i' := (me_ix v1)) rfl (fun _ => rfl) rfl g1 dX2_putPiece_5 rfl ?_
  refine me_astore_n C 3 (Or.inr (Or.inl ⟨_, rfl⟩)) dX2_putPiece_6 rfl (by decide) (L' := [(3, me_r 13 (me_ix v1)), (0, me_r 30 0), (1, me_i v1), (2, me_i v2)]) rfl ?_
  refine me_aload_n C 0 (Or.inr (Or.inl ⟨_, rfl⟩)) dX2_putPiece_7 rfl rfl ?_
  refine me_aload_n C 3 (Or.inr (Or.inl ⟨_, rfl⟩)) dX2_putPiece_8 rfl rfl ?_
  refine me_iload_n C 1 dX2_putPiece_9 rfl rfl ?_
  refine me_iload_n C 2 dX2_putPiece_10 rfl rfl ?_
  obtain ⟨μ3, r2, h_r2, hf⟩ := me_bs2 hf
  refine me_callV C N  (As := [me_r 13 (me_ix v1), me_i v1, me_i v2]) (st := []) 0 0 (c_Mover_firstToPut hB h_r2) mv_Mover_firstToPut ml_Mover_209 rfl rfl dX2_putPiece_11 rfl rfl ⟨by decide, by decide⟩ ⟨by decide, by decide, by decide, by decide⟩ (Nat.le_of_ble_eq_true rfl) ?_
  rcases r2 with _ | r2i
  · replace hf := me_oqn hf
    refine me_astore C (Or.inl rfl) dX2_putPiece_14 (by decide) (L' := [(4, me_n), (3, me_r 13 (me_ix v1)), (0, me_r 30 0), (1, me_i v1), (2, me_i v2)]) rfl ?_
    refine me_aload C (Or.inl rfl) dX2_putPiece_16 rfl ?_
    refine me_ifnonnull_n C dX2_putPiece_18 ?_
    exact me_vret C N dX2_putPiece_21 (by cases hf; rfl) (by decide) (by decide)
  · replace hf := me_oqs hf
    refine me_astore C (Or.inr (Or.inl ⟨_, rfl⟩)) dX2_putPiece_14 (by decide) (L' := [(4, me_r 8 r2i), (3, me_r 13 (me_ix v1)), (0, me_r 30 0), (1, me_i v1), (2, me_i v2)]) rfl ?_
    refine me_aload C (Or.inr (Or.inl ⟨_, rfl⟩)) dX2_putPiece_16 rfl ?_
    refine me_ifnonnull_r C (tgt := 22) dX2_putPiece_18 (by decide) ?_
    refine me_aload_n C 3 (Or.inr (Or.inl ⟨_, rfl⟩)) dX2_putPiece_22 rfl rfl ?_
    refine me_geti C 3 fg_Mover_56 dX2_putPiece_23 rfl ?_
    refine me_if_ne C (tgt := 35) dX2_putPiece_26 (by decide) (fun c4 => ?_) (fun c4 => ?_)
    · replace hf := me_in c4 hf
      refine me_aload_n C 3 (Or.inr (Or.inl ⟨_, rfl⟩)) dX2_putPiece_35 rfl rfl ?_
      refine me_getr C hB 0 (k' := 14) (i' := (me_ix v1)) fg_Mover_71 dX2_putPiece_36 rfl rfl ?_
      refine me_iload_n C 2 dX2_putPiece_39 rfl rfl ?_
      refine me_iconst C (v := 5) dX2_putPiece_40 (by decide) ?_
      refine me_imul C dX2_putPiece_41 ?_
      refine me_iconst C (v := 4) dX2_putPiece_42 (by decide) ?_
      refine me_iadd C dX2_putPiece_43 ?_
      obtain ⟨g5, hf⟩ := me_gs hf
      refine me_aald C hB (k' := 17) (i' := 10 * (me_ix v1) + (me_ix ((v2 * (5 : Int32)) + (4 : Int32)))) rfl (fun _ => rfl) rfl g5 dX2_putPiece_44 rfl ?_
      refine me_astore C (Or.inr (Or.inl ⟨_, rfl⟩)) dX2_putPiece_45 (by decide) (L' := [(5, me_r 17 (10 * (me_ix v1) + (me_ix ((v2 * (5 : Int32)) + (4 : Int32))))), (4, me_r 8 r2i), (3, me_r 13 (me_ix v1)), (0, me_r 30 0), (1, me_i v1), (2, me_i v2)]) rfl ?_
      refine me_aload C (Or.inr (Or.inl ⟨_, rfl⟩)) dX2_putPiece_47 rfl ?_
      obtain ⟨r6, h_r6, hf⟩ := me_bs hf
      refine me_callV C N  (As := []) (st := []) 0 0 (c_Row_hasPlace hB h_r6) mv_Row_hasPlace ml_Mover_138 rfl rfl dX2_putPiece_49 rfl rfl ⟨by decide, by decide⟩ ⟨by decide, by decide, by decide, by decide⟩ (Nat.le_of_ble_eq_true rfl) ?_
      refine me_if_ne C (tgt := 56) dX2_putPiece_52 (by decide) (fun c7 => ?_) (fun c7 => ?_)
      · replace hf := me_in c7 hf
        refine me_aload C (Or.inr (Or.inl ⟨_, rfl⟩)) dX2_putPiece_56 rfl ?_
        refine me_geti C 7 fg_Mover_213 dX2_putPiece_58 rfl ?_
        refine me_if_ne C (tgt := 77) dX2_putPiece_61 (by decide) (fun c8 => ?_) (fun c8 => ?_)
        · replace hf := me_in c8 hf
          refine me_dropI [(0, me_r 30 0), (4, me_r 8 r2i), (5, me_r 17 (10 * (me_ix v1) + (me_ix ((v2 * (5 : Int32)) + (4 : Int32)))))] [3, 1, 0] rfl ?_
          exact z_Mover_putPiece_b77 C N hNx hB hf
        · replace hf := me_ip c8 hf
          refine me_aload C (Or.inr (Or.inl ⟨_, rfl⟩)) dX2_putPiece_64 rfl ?_
          refine me_bipush C (v := 119) dX2_putPiece_66 (by decide) ?_
          obtain ⟨μ9, e_μ9, hf⟩ := me_lts hf
          refine me_puti C 2 fw_Mover_168 dX2_putPiece_68 rfl (by decide +kernel) e_μ9 ?_
          refine me_aload C (Or.inr (Or.inl ⟨_, rfl⟩)) dX2_putPiece_71 rfl ?_
          refine me_iload_n C 1 dX2_putPiece_73 rfl rfl ?_
          obtain ⟨μ10, e_μ10, hf⟩ := me_lts hf
          refine me_puti C 9 fw_Mover_148 dX2_putPiece_74 rfl (me_nri _) e_μ10 ?_
          refine me_dropI [(0, me_r 30 0), (4, me_r 8 r2i), (5, me_r 17 (10 * (me_ix v1) + (me_ix ((v2 * (5 : Int32)) + (4 : Int32)))))] [3, 1, 0] rfl ?_
          exact z_Mover_putPiece_b77 C N hNx hB hf
      · replace hf := me_ip c7 hf
        exact me_vret C N dX2_putPiece_55 (by cases hf; rfl) (by decide) (by decide)
    · replace hf := me_ip c4 hf
      refine me_aload_n C 3 (Or.inr (Or.inl ⟨_, rfl⟩)) dX2_putPiece_29 rfl rfl ?_
      refine me_iconst C (v := 1) dX2_putPiece_30 (by decide) ?_
      obtain ⟨μ11, e_μ11, hf⟩ := me_lts hf
      refine me_puti C 4 fw_Mover_51 dX2_putPiece_31 rfl (by decide +kernel) e_μ11 ?_
      exact me_vret C N dX2_putPiece_34 (by cases hf; rfl) (by decide) (by decide)
theorem c_Mover_putPiece {B : me_B} (hB : me_St B) {μ : me_M} {v1 : Int32} {v2 : Int32} {μ' : me_M} {r : Unit}  (hf : f_Mover_putPiece μ v1 v2 = some (μ', r)) : ∀ l E z, l.stackTraces = false → me_Met l yX2_putPiece cX2_putPiece 6 none 2 46 0 0 E B μ z [me_r 30 0, me_i v1, me_i v2] (B, μ', .ok (none)) :=
  fun _ _ _ hl => me_ofZ hl (by decide +kernel) (Nat.le_of_ble_eq_true rfl) (fun _ C N hNx => z_Mover_putPiece C N hNx hB  hf)

def f_Mover_putAll_b2 (K2 : me_M → Int32 → Option (me_M × Unit)) (μ : me_M) (v1 : Int32) : Option (me_M × Unit) :=
  if (μ 1 0 4) ≤ v1 then
  (some (μ, ()))
  else
  (me_b2 (f_Mover_putPiece μ v1 (1 : Int32)) (fun μ3 r2 =>
  me_b2 (f_Mover_putPiece μ3 v1 (0 : Int32)) (fun μ5 r4 =>
  me_lt (me_inc v1 (1)) (fun x6 =>
  K2 μ5 x6))))
set_option maxHeartbeats 4000000 in
set_option maxRecDepth 100000 in
theorem z_Mover_putAll_b2 {X : me_X} {B : me_B} {sz : Nat} (C : me_C X B RX2 cX2_putAll 2 none) {μ : me_M} {v1 : Int32}  {K2 : me_M → Int32 → Option (me_M × Unit)} {r : me_M × Unit} (N : me_En X B sz (B, r.1, .ok (none)) 3 71 0 0) (hNx : me_Nx X) (hB : me_St B) (hK2 : ∀ (μ : me_M) (v1 : Int32), K2 μ v1 = some r → me_Z X B 0 0 μ 2 [(0, me_r 30 0), (1, me_i v1)] [])  (hf : f_Mover_putAll_b2 K2 μ v1 = some r) : me_Z X B 0 0 μ 2 [(0, me_r 30 0), (1, me_i v1)] [] := by
  unfold f_Mover_putAll_b2 at hf
  refine me_iload_n C 1 dX2_putAll_2 rfl rfl ?_
  refine me_aload_n C 0 (Or.inr (Or.inl ⟨_, rfl⟩)) dX2_putAll_3 rfl rfl ?_
  refine me_getr C hB 0 (k' := 1) (i' := 0) fg_Mover_15 dX2_putAll_4 rfl rfl ?_
  refine me_geti C 4 fg_Mover_46 dX2_putAll_7 rfl ?_
  refine me_icmp_ge C (tgt := 31) dX2_putAll_10 (by decide) (fun c1 => ?_) (fun c1 => ?_)
  · replace hf := me_ip c1 hf
    exact me_vret C N dX2_putAll_31 (by cases hf; rfl) (by decide) (by decide)
  · replace hf := me_in c1 hf
    refine me_aload_n C 0 (Or.inr (Or.inl ⟨_, rfl⟩)) dX2_putAll_13 rfl rfl ?_
    refine me_iload_n C 1 dX2_putAll_14 rfl rfl ?_
    refine me_iconst C (v := 1) dX2_putAll_15 (by decide) ?_
    obtain ⟨μ3, r2, h_r2, hf⟩ := me_bs2 hf
    refine me_callV0 C N  (As := [me_i v1, me_i (1 : Int32)]) (st := []) 0 0 (c_Mover_putPiece hB h_r2) mv_Mover_putPiece ml_Mover_206 rfl rfl dX2_putAll_16 rfl rfl ⟨by decide, by decide⟩ ⟨by decide, by decide, by decide, by decide⟩ (Nat.le_of_ble_eq_true rfl) ?_
    refine me_aload_n C 0 (Or.inr (Or.inl ⟨_, rfl⟩)) dX2_putAll_19 rfl rfl ?_
    refine me_iload_n C 1 dX2_putAll_20 rfl rfl ?_
    refine me_iconst C (v := 0) dX2_putAll_21 (by decide) ?_
    obtain ⟨μ5, r4, h_r4, hf⟩ := me_bs2 hf
    refine me_callV0 C N  (As := [me_i v1, me_i (0 : Int32)]) (st := []) 0 0 (c_Mover_putPiece hB h_r4) mv_Mover_putPiece ml_Mover_206 rfl rfl dX2_putAll_22 rfl rfl ⟨by decide, by decide⟩ ⟨by decide, by decide, by decide, by decide⟩ (Nat.le_of_ble_eq_true rfl) ?_
    obtain ⟨x6, e_x6, hf⟩ := me_lts hf
    refine me_iinc C (v := x6) (L' := [(1, me_i x6), (0, me_r 30 0)]) dX2_putAll_25 rfl e_x6.symm (by decide) rfl ?_
    refine me_goto C (tgt := 2) dX2_putAll_28 (by decide) ?_
    refine me_dropI [(0, me_r 30 0), (1, me_i x6)] [1, 0] rfl ?_
    exact hK2 μ5 x6 hf
def f_Mover_putAll_h2  : Nat → me_M → Int32 → Option (me_M × Unit)
  | 0, _, _ => none
  | n + 1, μ, v1 => f_Mover_putAll_b2 (f_Mover_putAll_h2 n) μ v1
set_option maxHeartbeats 4000000 in
set_option maxRecDepth 100000 in
theorem z_Mover_putAll_h2 {X : me_X} {B : me_B} {sz : Nat} (C : me_C X B RX2 cX2_putAll 2 none)  {r : me_M × Unit} (N : me_En X B sz (B, r.1, .ok (none)) 3 71 0 0) (hNx : me_Nx X) (hB : me_St B)  : ∀ (n : Nat) (μ : me_M) (v1 : Int32), f_Mover_putAll_h2 n μ v1 = some r → me_Z X B 0 0 μ 2 [(0, me_r 30 0), (1, me_i v1)] [] := by
  intro n
  induction n with
  | zero => intro μ v1  h; exact absurd (show (none : Option (me_M × Unit)) = some r from h) (fun q => by cases q)
  | succ n ih => intro μ v1  h; exact z_Mover_putAll_b2 C N hNx hB  (K2 := f_Mover_putAll_h2 n) ih  h
def f_Mover_putAll (μ : me_M) : Option (me_M × Unit) :=
  f_Mover_putAll_h2 me_FU μ (0 : Int32)
set_option maxHeartbeats 4000000 in
set_option maxRecDepth 100000 in
theorem z_Mover_putAll {X : me_X} {B : me_B} {sz : Nat} (C : me_C X B RX2 cX2_putAll 2 none) {μ : me_M}    {r : me_M × Unit} (N : me_En X B sz (B, r.1, .ok (none)) 3 71 0 0) (hNx : me_Nx X) (hB : me_St B)   (hf : f_Mover_putAll μ = some r) : me_Z X B 0 0 μ 0 [(0, me_r 30 0)] [] := by
  unfold f_Mover_putAll at hf
  refine me_iconst C (v := 0) dX2_putAll_0 (by decide) ?_
  refine me_istore_n C 1 dX2_putAll_1 rfl (by decide) (L' := [(1, me_i (0 : Int32)), (0, me_r 30 0)]) rfl ?_
  refine me_dropI [(0, me_r 30 0), (1, me_i (0 : Int32))] [1, 0] rfl ?_
  exact z_Mover_putAll_h2 C N hNx hB me_FU μ (0 : Int32) hf
theorem c_Mover_putAll {B : me_B} (hB : me_St B) {μ : me_M}  {μ' : me_M} {r : Unit}  (hf : f_Mover_putAll μ = some (μ', r)) : ∀ l E z, l.stackTraces = false → me_Met l yX2_putAll cX2_putAll 2 none 3 71 0 0 E B μ z [me_r 30 0] (B, μ', .ok (none)) :=
  fun _ _ _ hl => me_ofZ hl (by decide +kernel) (Nat.le_of_ble_eq_true rfl) (fun _ C N hNx => z_Mover_putAll C N hNx hB  hf)
