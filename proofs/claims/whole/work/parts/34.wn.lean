/-! WALKS: M_loses, M_delivers, M_gives, M_routes -/
theorem dX12_loses_0 : decode cX12_loses 0 = .ok (.aload_n 0, 1) := by decide +kernel
theorem dX12_loses_1 : decode cX12_loses 1 = .ok (.getfield 27, 3) := by decide +kernel
theorem dX12_loses_4 : decode cX12_loses 4 = .ok (.iload_n 1, 1) := by decide +kernel
theorem dX12_loses_5 : decode cX12_loses 5 = .ok (.bipush 108, 2) := by decide +kernel
theorem dX12_loses_7 : decode cX12_loses 7 = .ok (.castore, 1) := by decide +kernel
theorem dX12_loses_8 : decode cX12_loses 8 = .ok (.iconst 0, 1) := by decide +kernel
theorem dX12_loses_9 : decode cX12_loses 9 = .ok (.istore_n 2, 1) := by decide +kernel
theorem dX12_loses_10 : decode cX12_loses 10 = .ok (.iload_n 2, 1) := by decide +kernel
theorem dX12_loses_11 : decode cX12_loses 11 = .ok (.aload_n 0, 1) := by decide +kernel
theorem dX12_loses_12 : decode cX12_loses 12 = .ok (.invokevirtual 144, 3) := by decide +kernel
theorem dX12_loses_15 : decode cX12_loses 15 = .ok (.if_icmp .ge 135, 3) := by decide +kernel
theorem dX12_loses_18 : decode cX12_loses 18 = .ok (.iconst 0, 1) := by decide +kernel
theorem dX12_loses_19 : decode cX12_loses 19 = .ok (.istore_n 3, 1) := by decide +kernel
theorem dX12_loses_20 : decode cX12_loses 20 = .ok (.iload_n 3, 1) := by decide +kernel
theorem dX12_loses_21 : decode cX12_loses 21 = .ok (.iconst 2, 1) := by decide +kernel
theorem dX12_loses_22 : decode cX12_loses 22 = .ok (.if_icmp .ge 122, 3) := by decide +kernel
theorem dX12_loses_25 : decode cX12_loses 25 = .ok (.iconst 0, 1) := by decide +kernel
theorem dX12_loses_26 : decode cX12_loses 26 = .ok (.istore 4, 2) := by decide +kernel
theorem dX12_loses_28 : decode cX12_loses 28 = .ok (.iload 4, 2) := by decide +kernel
theorem dX12_loses_30 : decode cX12_loses 30 = .ok (.iconst 5, 1) := by decide +kernel
theorem dX12_loses_31 : decode cX12_loses 31 = .ok (.if_icmp .ge 107, 3) := by decide +kernel
theorem dX12_loses_34 : decode cX12_loses 34 = .ok (.aload_n 0, 1) := by decide +kernel
theorem dX12_loses_35 : decode cX12_loses 35 = .ok (.getfield 75, 3) := by decide +kernel
theorem dX12_loses_38 : decode cX12_loses 38 = .ok (.iload_n 2, 1) := by decide +kernel
theorem dX12_loses_39 : decode cX12_loses 39 = .ok (.aaload, 1) := by decide +kernel
theorem dX12_loses_40 : decode cX12_loses 40 = .ok (.iload_n 3, 1) := by decide +kernel
theorem dX12_loses_41 : decode cX12_loses 41 = .ok (.aaload, 1) := by decide +kernel
theorem dX12_loses_42 : decode cX12_loses 42 = .ok (.iload 4, 2) := by decide +kernel
theorem dX12_loses_44 : decode cX12_loses 44 = .ok (.iaload, 1) := by decide +kernel
theorem dX12_loses_45 : decode cX12_loses 45 = .ok (.iconst 1, 1) := by decide +kernel
theorem dX12_loses_46 : decode cX12_loses 46 = .ok (.isub, 1) := by decide +kernel
theorem dX12_loses_47 : decode cX12_loses 47 = .ok (.istore 5, 2) := by decide +kernel
theorem dX12_loses_49 : decode cX12_loses 49 = .ok (.iload 5, 2) := by decide +kernel
theorem dX12_loses_51 : decode cX12_loses 51 = .ok (.ifCond .lt 40, 3) := by decide +kernel
theorem dX12_loses_54 : decode cX12_loses 54 = .ok (.aload_n 0, 1) := by decide +kernel
theorem dX12_loses_55 : decode cX12_loses 55 = .ok (.getfield 67, 3) := by decide +kernel
theorem dX12_loses_58 : decode cX12_loses 58 = .ok (.iload_n 2, 1) := by decide +kernel
theorem dX12_loses_59 : decode cX12_loses 59 = .ok (.aaload, 1) := by decide +kernel
theorem dX12_loses_60 : decode cX12_loses 60 = .ok (.iload_n 3, 1) := by decide +kernel
theorem dX12_loses_61 : decode cX12_loses 61 = .ok (.aaload, 1) := by decide +kernel
theorem dX12_loses_62 : decode cX12_loses 62 = .ok (.iload 4, 2) := by decide +kernel
theorem dX12_loses_64 : decode cX12_loses 64 = .ok (.aaload, 1) := by decide +kernel
theorem dX12_loses_65 : decode cX12_loses 65 = .ok (.iload 5, 2) := by decide +kernel
theorem dX12_loses_67 : decode cX12_loses 67 = .ok (.iaload, 1) := by decide +kernel
theorem dX12_loses_68 : decode cX12_loses 68 = .ok (.bipush 8, 2) := by decide +kernel
theorem dX12_loses_70 : decode cX12_loses 70 = .ok (.idiv, 1) := by decide +kernel
theorem dX12_loses_71 : decode cX12_loses 71 = .ok (.iload_n 1, 1) := by decide +kernel
theorem dX12_loses_72 : decode cX12_loses 72 = .ok (.if_icmp .ne 13, 3) := by decide +kernel
theorem dX12_loses_75 : decode cX12_loses 75 = .ok (.aload_n 0, 1) := by decide +kernel
theorem dX12_loses_76 : decode cX12_loses 76 = .ok (.iload_n 2, 1) := by decide +kernel
theorem dX12_loses_77 : decode cX12_loses 77 = .ok (.iload_n 3, 1) := by decide +kernel
theorem dX12_loses_78 : decode cX12_loses 78 = .ok (.iload 4, 2) := by decide +kernel
theorem dX12_loses_80 : decode cX12_loses 80 = .ok (.iload 5, 2) := by decide +kernel
theorem dX12_loses_82 : decode cX12_loses 82 = .ok (.invokevirtual 221, 3) := by decide +kernel
theorem dX12_loses_85 : decode cX12_loses 85 = .ok (.iinc 5 (-1), 3) := by decide +kernel
theorem dX12_loses_88 : decode cX12_loses 88 = .ok (.goto (-39), 3) := by decide +kernel
theorem dX12_loses_91 : decode cX12_loses 91 = .ok (.aload_n 0, 1) := by decide +kernel
theorem dX12_loses_92 : decode cX12_loses 92 = .ok (.getfield 78, 3) := by decide +kernel
theorem dX12_loses_95 : decode cX12_loses 95 = .ok (.iload_n 2, 1) := by decide +kernel
theorem dX12_loses_96 : decode cX12_loses 96 = .ok (.aaload, 1) := by decide +kernel
theorem dX12_loses_97 : decode cX12_loses 97 = .ok (.iload_n 3, 1) := by decide +kernel
theorem dX12_loses_98 : decode cX12_loses 98 = .ok (.aaload, 1) := by decide +kernel
theorem dX12_loses_99 : decode cX12_loses 99 = .ok (.iload 4, 2) := by decide +kernel
theorem dX12_loses_101 : decode cX12_loses 101 = .ok (.aload_n 0, 1) := by decide +kernel
theorem dX12_loses_102 : decode cX12_loses 102 = .ok (.getfield 78, 3) := by decide +kernel
theorem dX12_loses_105 : decode cX12_loses 105 = .ok (.iload_n 2, 1) := by decide +kernel
theorem dX12_loses_106 : decode cX12_loses 106 = .ok (.aaload, 1) := by decide +kernel
theorem dX12_loses_107 : decode cX12_loses 107 = .ok (.iload_n 3, 1) := by decide +kernel
theorem dX12_loses_108 : decode cX12_loses 108 = .ok (.aaload, 1) := by decide +kernel
theorem dX12_loses_109 : decode cX12_loses 109 = .ok (.iload 4, 2) := by decide +kernel
theorem dX12_loses_111 : decode cX12_loses 111 = .ok (.iaload, 1) := by decide +kernel
theorem dX12_loses_112 : decode cX12_loses 112 = .ok (.iload_n 1, 1) := by decide +kernel
theorem dX12_loses_113 : decode cX12_loses 113 = .ok (.if_icmp .ne 7, 3) := by decide +kernel
theorem dX12_loses_116 : decode cX12_loses 116 = .ok (.iconst (-1), 1) := by decide +kernel
theorem dX12_loses_117 : decode cX12_loses 117 = .ok (.goto 14, 3) := by decide +kernel
theorem dX12_loses_120 : decode cX12_loses 120 = .ok (.aload_n 0, 1) := by decide +kernel
theorem dX12_loses_121 : decode cX12_loses 121 = .ok (.getfield 78, 3) := by decide +kernel
theorem dX12_loses_124 : decode cX12_loses 124 = .ok (.iload_n 2, 1) := by decide +kernel
theorem dX12_loses_125 : decode cX12_loses 125 = .ok (.aaload, 1) := by decide +kernel
theorem dX12_loses_126 : decode cX12_loses 126 = .ok (.iload_n 3, 1) := by decide +kernel
theorem dX12_loses_127 : decode cX12_loses 127 = .ok (.aaload, 1) := by decide +kernel
theorem dX12_loses_128 : decode cX12_loses 128 = .ok (.iload 4, 2) := by decide +kernel
theorem dX12_loses_130 : decode cX12_loses 130 = .ok (.iaload, 1) := by decide +kernel
theorem dX12_loses_131 : decode cX12_loses 131 = .ok (.iastore, 1) := by decide +kernel
theorem dX12_loses_132 : decode cX12_loses 132 = .ok (.iinc 4 1, 3) := by decide +kernel
theorem dX12_loses_135 : decode cX12_loses 135 = .ok (.goto (-107), 3) := by decide +kernel
theorem dX12_loses_138 : decode cX12_loses 138 = .ok (.iinc 3 1, 3) := by decide +kernel
theorem dX12_loses_141 : decode cX12_loses 141 = .ok (.goto (-121), 3) := by decide +kernel
theorem dX12_loses_144 : decode cX12_loses 144 = .ok (.iinc 2 1, 3) := by decide +kernel
theorem dX12_loses_147 : decode cX12_loses 147 = .ok (.goto (-137), 3) := by decide +kernel
theorem dX12_loses_150 : decode cX12_loses 150 = .ok (.return_, 1) := by decide +kernel
theorem dX12_delivers_0 : decode cX12_delivers 0 = .ok (.aload_n 0, 1) := by decide +kernel
theorem dX12_delivers_1 : decode cX12_delivers 1 = .ok (.getfield 27, 3) := by decide +kernel
theorem dX12_delivers_4 : decode cX12_delivers 4 = .ok (.iload_n 1, 1) := by decide +kernel
theorem dX12_delivers_5 : decode cX12_delivers 5 = .ok (.bipush 100, 2) := by decide +kernel
theorem dX12_delivers_7 : decode cX12_delivers 7 = .ok (.castore, 1) := by decide +kernel
theorem dX12_delivers_8 : decode cX12_delivers 8 = .ok (.aload_n 0, 1) := by decide +kernel
theorem dX12_delivers_9 : decode cX12_delivers 9 = .ok (.getfield 49, 3) := by decide +kernel
theorem dX12_delivers_12 : decode cX12_delivers 12 = .ok (.iload_n 1, 1) := by decide +kernel
theorem dX12_delivers_13 : decode cX12_delivers 13 = .ok (.aload_n 0, 1) := by decide +kernel
theorem dX12_delivers_14 : decode cX12_delivers 14 = .ok (.getfield 162, 3) := by decide +kernel
theorem dX12_delivers_17 : decode cX12_delivers 17 = .ok (.iconst 1, 1) := by decide +kernel
theorem dX12_delivers_18 : decode cX12_delivers 18 = .ok (.iadd, 1) := by decide +kernel
theorem dX12_delivers_19 : decode cX12_delivers 19 = .ok (.iastore, 1) := by decide +kernel
theorem dX12_delivers_20 : decode cX12_delivers 20 = .ok (.aload_n 0, 1) := by decide +kernel
theorem dX12_delivers_21 : decode cX12_delivers 21 = .ok (.getfield 23, 3) := by decide +kernel
theorem dX12_delivers_24 : decode cX12_delivers 24 = .ok (.iload_n 1, 1) := by decide +kernel
theorem dX12_delivers_25 : decode cX12_delivers 25 = .ok (.caload, 1) := by decide +kernel
theorem dX12_delivers_26 : decode cX12_delivers 26 = .ok (.bipush 113, 2) := by decide +kernel
theorem dX12_delivers_28 : decode cX12_delivers 28 = .ok (.if_icmp .ne 79, 3) := by decide +kernel
theorem dX12_delivers_31 : decode cX12_delivers 31 = .ok (.aload_n 0, 1) := by decide +kernel
theorem dX12_delivers_32 : decode cX12_delivers 32 = .ok (.getfield 34, 3) := by decide +kernel
theorem dX12_delivers_35 : decode cX12_delivers 35 = .ok (.iload_n 1, 1) := by decide +kernel
theorem dX12_delivers_36 : decode cX12_delivers 36 = .ok (.iaload, 1) := by decide +kernel
theorem dX12_delivers_37 : decode cX12_delivers 37 = .ok (.istore_n 2, 1) := by decide +kernel
theorem dX12_delivers_38 : decode cX12_delivers 38 = .ok (.aload_n 0, 1) := by decide +kernel
theorem dX12_delivers_39 : decode cX12_delivers 39 = .ok (.getfield 103, 3) := by decide +kernel
theorem dX12_delivers_42 : decode cX12_delivers 42 = .ok (.iload_n 2, 1) := by decide +kernel
theorem dX12_delivers_43 : decode cX12_delivers 43 = .ok (.aaload, 1) := by decide +kernel
theorem dX12_delivers_44 : decode cX12_delivers 44 = .ok (.aload_n 0, 1) := by decide +kernel
theorem dX12_delivers_45 : decode cX12_delivers 45 = .ok (.getfield 52, 3) := by decide +kernel
theorem dX12_delivers_48 : decode cX12_delivers 48 = .ok (.iload_n 1, 1) := by decide +kernel
theorem dX12_delivers_49 : decode cX12_delivers 49 = .ok (.iaload, 1) := by decide +kernel
theorem dX12_delivers_50 : decode cX12_delivers 50 = .ok (.iaload, 1) := by decide +kernel
theorem dX12_delivers_51 : decode cX12_delivers 51 = .ok (.istore_n 3, 1) := by decide +kernel
theorem dX12_delivers_52 : decode cX12_delivers 52 = .ok (.aload_n 0, 1) := by decide +kernel
theorem dX12_delivers_53 : decode cX12_delivers 53 = .ok (.getfield 103, 3) := by decide +kernel
theorem dX12_delivers_56 : decode cX12_delivers 56 = .ok (.iload_n 2, 1) := by decide +kernel
theorem dX12_delivers_57 : decode cX12_delivers 57 = .ok (.aaload, 1) := by decide +kernel
theorem dX12_delivers_58 : decode cX12_delivers 58 = .ok (.aload_n 0, 1) := by decide +kernel
theorem dX12_delivers_59 : decode cX12_delivers 59 = .ok (.getfield 52, 3) := by decide +kernel
theorem dX12_delivers_62 : decode cX12_delivers 62 = .ok (.iload_n 1, 1) := by decide +kernel
theorem dX12_delivers_63 : decode cX12_delivers 63 = .ok (.iaload, 1) := by decide +kernel
theorem dX12_delivers_64 : decode cX12_delivers 64 = .ok (.aload_n 0, 1) := by decide +kernel
theorem dX12_delivers_65 : decode cX12_delivers 65 = .ok (.getfield 55, 3) := by decide +kernel
theorem dX12_delivers_68 : decode cX12_delivers 68 = .ok (.iload_n 1, 1) := by decide +kernel
theorem dX12_delivers_69 : decode cX12_delivers 69 = .ok (.baload, 1) := by decide +kernel
theorem dX12_delivers_70 : decode cX12_delivers 70 = .ok (.ifCond .eq 14, 3) := by decide +kernel
theorem dX12_delivers_73 : decode cX12_delivers 73 = .ok (.iload_n 3, 1) := by decide +kernel
theorem dX12_delivers_74 : decode cX12_delivers 74 = .ok (.aload_n 0, 1) := by decide +kernel
theorem dX12_delivers_75 : decode cX12_delivers 75 = .ok (.getfield 59, 3) := by decide +kernel
theorem dX12_delivers_78 : decode cX12_delivers 78 = .ok (.iload_n 1, 1) := by decide +kernel
theorem dX12_delivers_79 : decode cX12_delivers 79 = .ok (.iaload, 1) := by decide +kernel
theorem dX12_delivers_80 : decode cX12_delivers 80 = .ok (.iadd, 1) := by decide +kernel
theorem dX12_delivers_81 : decode cX12_delivers 81 = .ok (.goto 4, 3) := by decide +kernel
theorem dX12_delivers_84 : decode cX12_delivers 84 = .ok (.iload_n 3, 1) := by decide +kernel
theorem dX12_delivers_85 : decode cX12_delivers 85 = .ok (.iastore, 1) := by decide +kernel
theorem dX12_delivers_86 : decode cX12_delivers 86 = .ok (.aload_n 0, 1) := by decide +kernel
theorem dX12_delivers_87 : decode cX12_delivers 87 = .ok (.getfield 62, 3) := by decide +kernel
theorem dX12_delivers_90 : decode cX12_delivers 90 = .ok (.iload_n 1, 1) := by decide +kernel
theorem dX12_delivers_91 : decode cX12_delivers 91 = .ok (.aload_n 0, 1) := by decide +kernel
theorem dX12_delivers_92 : decode cX12_delivers 92 = .ok (.bipush 97, 2) := by decide +kernel
theorem dX12_delivers_94 : decode cX12_delivers 94 = .ok (.iload_n 2, 1) := by decide +kernel
theorem dX12_delivers_95 : decode cX12_delivers 95 = .ok (.aload_n 0, 1) := by decide +kernel
theorem dX12_delivers_96 : decode cX12_delivers 96 = .ok (.getfield 30, 3) := by decide +kernel
theorem dX12_delivers_99 : decode cX12_delivers 99 = .ok (.iload_n 1, 1) := by decide +kernel
theorem dX12_delivers_100 : decode cX12_delivers 100 = .ok (.iaload, 1) := by decide +kernel
theorem dX12_delivers_101 : decode cX12_delivers 101 = .ok (.iload_n 3, 1) := by decide +kernel
theorem dX12_delivers_102 : decode cX12_delivers 102 = .ok (.iconst 1, 1) := by decide +kernel
theorem dX12_delivers_103 : decode cX12_delivers 103 = .ok (.invokevirtual 172, 3) := by decide +kernel
theorem dX12_delivers_106 : decode cX12_delivers 106 = .ok (.iastore, 1) := by decide +kernel
theorem dX12_delivers_107 : decode cX12_delivers 107 = .ok (.return_, 1) := by decide +kernel
theorem dX12_gives_0 : decode cX12_gives 0 = .ok (.aload_n 0, 1) := by decide +kernel
theorem dX12_gives_1 : decode cX12_gives 1 = .ok (.getfield 75, 3) := by decide +kernel
theorem dX12_gives_4 : decode cX12_gives 4 = .ok (.iload_n 1, 1) := by decide +kernel
theorem dX12_gives_5 : decode cX12_gives 5 = .ok (.aaload, 1) := by decide +kernel
theorem dX12_gives_6 : decode cX12_gives 6 = .ok (.iload_n 2, 1) := by decide +kernel
theorem dX12_gives_7 : decode cX12_gives 7 = .ok (.aaload, 1) := by decide +kernel
theorem dX12_gives_8 : decode cX12_gives 8 = .ok (.iload_n 3, 1) := by decide +kernel
theorem dX12_gives_9 : decode cX12_gives 9 = .ok (.iaload, 1) := by decide +kernel
theorem dX12_gives_10 : decode cX12_gives 10 = .ok (.ifCond .eq 43, 3) := by decide +kernel
theorem dX12_gives_13 : decode cX12_gives 13 = .ok (.aload_n 0, 1) := by decide +kernel
theorem dX12_gives_14 : decode cX12_gives 14 = .ok (.getfield 84, 3) := by decide +kernel
theorem dX12_gives_17 : decode cX12_gives 17 = .ok (.iload_n 1, 1) := by decide +kernel
theorem dX12_gives_18 : decode cX12_gives 18 = .ok (.aaload, 1) := by decide +kernel
theorem dX12_gives_19 : decode cX12_gives 19 = .ok (.iload_n 2, 1) := by decide +kernel
theorem dX12_gives_20 : decode cX12_gives 20 = .ok (.aaload, 1) := by decide +kernel
theorem dX12_gives_21 : decode cX12_gives 21 = .ok (.iload_n 3, 1) := by decide +kernel
theorem dX12_gives_22 : decode cX12_gives 22 = .ok (.iaload, 1) := by decide +kernel
theorem dX12_gives_23 : decode cX12_gives 23 = .ok (.aload_n 0, 1) := by decide +kernel
theorem dX12_gives_24 : decode cX12_gives 24 = .ok (.getfield 162, 3) := by decide +kernel
theorem dX12_gives_27 : decode cX12_gives 27 = .ok (.iconst 1, 1) := by decide +kernel
theorem dX12_gives_28 : decode cX12_gives 28 = .ok (.iadd, 1) := by decide +kernel
theorem dX12_gives_29 : decode cX12_gives 29 = .ok (.if_icmp .eq 24, 3) := by decide +kernel
theorem dX12_gives_32 : decode cX12_gives 32 = .ok (.aload_n 0, 1) := by decide +kernel
theorem dX12_gives_33 : decode cX12_gives 33 = .ok (.getfield 70, 3) := by decide +kernel
theorem dX12_gives_36 : decode cX12_gives 36 = .ok (.iload_n 1, 1) := by decide +kernel
theorem dX12_gives_37 : decode cX12_gives 37 = .ok (.aaload, 1) := by decide +kernel
theorem dX12_gives_38 : decode cX12_gives 38 = .ok (.iload_n 2, 1) := by decide +kernel
theorem dX12_gives_39 : decode cX12_gives 39 = .ok (.aaload, 1) := by decide +kernel
theorem dX12_gives_40 : decode cX12_gives 40 = .ok (.iload_n 3, 1) := by decide +kernel
theorem dX12_gives_41 : decode cX12_gives 41 = .ok (.aaload, 1) := by decide +kernel
theorem dX12_gives_42 : decode cX12_gives 42 = .ok (.iconst 0, 1) := by decide +kernel
theorem dX12_gives_43 : decode cX12_gives 43 = .ok (.iaload, 1) := by decide +kernel
theorem dX12_gives_44 : decode cX12_gives 44 = .ok (.aload_n 0, 1) := by decide +kernel
theorem dX12_gives_45 : decode cX12_gives 45 = .ok (.getfield 162, 3) := by decide +kernel
theorem dX12_gives_48 : decode cX12_gives 48 = .ok (.iconst 1, 1) := by decide +kernel
theorem dX12_gives_49 : decode cX12_gives 49 = .ok (.iadd, 1) := by decide +kernel
theorem dX12_gives_50 : decode cX12_gives 50 = .ok (.if_icmp .ne 5, 3) := by decide +kernel
theorem dX12_gives_53 : decode cX12_gives 53 = .ok (.iconst 0, 1) := by decide +kernel
theorem dX12_gives_54 : decode cX12_gives 54 = .ok (.ireturn, 1) := by decide +kernel
theorem dX12_gives_55 : decode cX12_gives 55 = .ok (.aload_n 0, 1) := by decide +kernel
theorem dX12_gives_56 : decode cX12_gives 56 = .ok (.getfield 67, 3) := by decide +kernel
theorem dX12_gives_59 : decode cX12_gives 59 = .ok (.iload_n 1, 1) := by decide +kernel
theorem dX12_gives_60 : decode cX12_gives 60 = .ok (.aaload, 1) := by decide +kernel
theorem dX12_gives_61 : decode cX12_gives 61 = .ok (.iload_n 2, 1) := by decide +kernel
theorem dX12_gives_62 : decode cX12_gives 62 = .ok (.aaload, 1) := by decide +kernel
theorem dX12_gives_63 : decode cX12_gives 63 = .ok (.iload_n 3, 1) := by decide +kernel
theorem dX12_gives_64 : decode cX12_gives 64 = .ok (.aaload, 1) := by decide +kernel
theorem dX12_gives_65 : decode cX12_gives 65 = .ok (.iconst 0, 1) := by decide +kernel
theorem dX12_gives_66 : decode cX12_gives 66 = .ok (.iaload, 1) := by decide +kernel
theorem dX12_gives_67 : decode cX12_gives 67 = .ok (.istore 5, 2) := by decide +kernel
theorem dX12_gives_69 : decode cX12_gives 69 = .ok (.iload 5, 2) := by decide +kernel
theorem dX12_gives_71 : decode cX12_gives 71 = .ok (.bipush 8, 2) := by decide +kernel
theorem dX12_gives_73 : decode cX12_gives 73 = .ok (.idiv, 1) := by decide +kernel
theorem dX12_gives_74 : decode cX12_gives 74 = .ok (.istore 6, 2) := by decide +kernel
theorem dX12_gives_76 : decode cX12_gives 76 = .ok (.iload 5, 2) := by decide +kernel
theorem dX12_gives_78 : decode cX12_gives 78 = .ok (.bipush 8, 2) := by decide +kernel
theorem dX12_gives_80 : decode cX12_gives 80 = .ok (.irem, 1) := by decide +kernel
theorem dX12_gives_81 : decode cX12_gives 81 = .ok (.ifCond .ne 7, 3) := by decide +kernel
theorem dX12_gives_84 : decode cX12_gives 84 = .ok (.iconst 1, 1) := by decide +kernel
theorem dX12_gives_85 : decode cX12_gives 85 = .ok (.goto 4, 3) := by decide +kernel
theorem dX12_gives_88 : decode cX12_gives 88 = .ok (.iconst 0, 1) := by decide +kernel
theorem dX12_gives_89 : decode cX12_gives 89 = .ok (.istore 7, 2) := by decide +kernel
theorem dX12_gives_91 : decode cX12_gives 91 = .ok (.iload 5, 2) := by decide +kernel
theorem dX12_gives_93 : decode cX12_gives 93 = .ok (.bipush 8, 2) := by decide +kernel
theorem dX12_gives_95 : decode cX12_gives 95 = .ok (.irem, 1) := by decide +kernel
theorem dX12_gives_96 : decode cX12_gives 96 = .ok (.aload_n 0, 1) := by decide +kernel
theorem dX12_gives_97 : decode cX12_gives 97 = .ok (.getfield 40, 3) := by decide +kernel
theorem dX12_gives_100 : decode cX12_gives 100 = .ok (.iload 6, 2) := by decide +kernel
theorem dX12_gives_102 : decode cX12_gives 102 = .ok (.iaload, 1) := by decide +kernel
theorem dX12_gives_103 : decode cX12_gives 103 = .ok (.if_icmp .ne 7, 3) := by decide +kernel
theorem dX12_gives_106 : decode cX12_gives 106 = .ok (.iconst 1, 1) := by decide +kernel
theorem dX12_gives_107 : decode cX12_gives 107 = .ok (.goto 4, 3) := by decide +kernel
theorem dX12_gives_110 : decode cX12_gives 110 = .ok (.iconst 0, 1) := by decide +kernel
theorem dX12_gives_111 : decode cX12_gives 111 = .ok (.istore 8, 2) := by decide +kernel
theorem dX12_gives_113 : decode cX12_gives 113 = .ok (.iload 7, 2) := by decide +kernel
theorem dX12_gives_115 : decode cX12_gives 115 = .ok (.ifCond .eq 19, 3) := by decide +kernel
theorem dX12_gives_118 : decode cX12_gives 118 = .ok (.aload_n 0, 1) := by decide +kernel
theorem dX12_gives_119 : decode cX12_gives 119 = .ok (.iload_n 1, 1) := by decide +kernel
theorem dX12_gives_120 : decode cX12_gives 120 = .ok (.aload_n 0, 1) := by decide +kernel
theorem dX12_gives_121 : decode cX12_gives 121 = .ok (.getfield 34, 3) := by decide +kernel
theorem dX12_gives_124 : decode cX12_gives 124 = .ok (.iload 6, 2) := by decide +kernel
theorem dX12_gives_126 : decode cX12_gives 126 = .ok (.iaload, 1) := by decide +kernel
theorem dX12_gives_127 : decode cX12_gives 127 = .ok (.iload_n 2, 1) := by decide +kernel
theorem dX12_gives_128 : decode cX12_gives 128 = .ok (.invokevirtual 225, 3) := by decide +kernel
theorem dX12_gives_131 : decode cX12_gives 131 = .ok (.goto 13, 3) := by decide +kernel
theorem dX12_gives_134 : decode cX12_gives 134 = .ok (.aload_n 0, 1) := by decide +kernel
theorem dX12_gives_135 : decode cX12_gives 135 = .ok (.getfield 81, 3) := by decide +kernel
theorem dX12_gives_138 : decode cX12_gives 138 = .ok (.iload_n 1, 1) := by decide +kernel
theorem dX12_gives_139 : decode cX12_gives 139 = .ok (.aaload, 1) := by decide +kernel
theorem dX12_gives_140 : decode cX12_gives 140 = .ok (.iload_n 2, 1) := by decide +kernel
theorem dX12_gives_141 : decode cX12_gives 141 = .ok (.aaload, 1) := by decide +kernel
theorem dX12_gives_142 : decode cX12_gives 142 = .ok (.iload_n 3, 1) := by decide +kernel
theorem dX12_gives_143 : decode cX12_gives 143 = .ok (.iaload, 1) := by decide +kernel
theorem dX12_gives_144 : decode cX12_gives 144 = .ok (.istore 9, 2) := by decide +kernel
theorem dX12_gives_146 : decode cX12_gives 146 = .ok (.iload 9, 2) := by decide +kernel
theorem dX12_gives_148 : decode cX12_gives 148 = .ok (.iload 4, 2) := by decide +kernel
theorem dX12_gives_150 : decode cX12_gives 150 = .ok (.if_icmp .eq 5, 3) := by decide +kernel
theorem dX12_gives_153 : decode cX12_gives 153 = .ok (.iconst 0, 1) := by decide +kernel
theorem dX12_gives_154 : decode cX12_gives 154 = .ok (.ireturn, 1) := by decide +kernel
theorem dX12_gives_155 : decode cX12_gives 155 = .ok (.iload 4, 2) := by decide +kernel
theorem dX12_gives_157 : decode cX12_gives 157 = .ok (.iconst 4, 1) := by decide +kernel
theorem dX12_gives_158 : decode cX12_gives 158 = .ok (.if_icmp .eq 132, 3) := by decide +kernel
theorem dX12_gives_161 : decode cX12_gives 161 = .ok (.aload_n 0, 1) := by decide +kernel
theorem dX12_gives_162 : decode cX12_gives 162 = .ok (.iload_n 1, 1) := by decide +kernel
theorem dX12_gives_163 : decode cX12_gives 163 = .ok (.iload 4, 2) := by decide +kernel
theorem dX12_gives_165 : decode cX12_gives 165 = .ok (.invokevirtual 199, 3) := by decide +kernel
theorem dX12_gives_168 : decode cX12_gives 168 = .ok (.istore 10, 2) := by decide +kernel
theorem dX12_gives_170 : decode cX12_gives 170 = .ok (.getstatic 202, 3) := by decide +kernel
theorem dX12_gives_173 : decode cX12_gives 173 = .ok (.iload 4, 2) := by decide +kernel
theorem dX12_gives_175 : decode cX12_gives 175 = .ok (.iaload, 1) := by decide +kernel
theorem dX12_gives_176 : decode cX12_gives 176 = .ok (.istore 11, 2) := by decide +kernel
theorem dX12_gives_178 : decode cX12_gives 178 = .ok (.iload 7, 2) := by decide +kernel
theorem dX12_gives_180 : decode cX12_gives 180 = .ok (.ifCond .eq 23, 3) := by decide +kernel
theorem dX12_gives_183 : decode cX12_gives 183 = .ok (.aload_n 0, 1) := by decide +kernel
theorem dX12_gives_184 : decode cX12_gives 184 = .ok (.getfield 92, 3) := by decide +kernel
theorem dX12_gives_187 : decode cX12_gives 187 = .ok (.iload_n 1, 1) := by decide +kernel
theorem dX12_gives_188 : decode cX12_gives 188 = .ok (.aaload, 1) := by decide +kernel
theorem dX12_gives_189 : decode cX12_gives 189 = .ok (.iload 4, 2) := by decide +kernel
theorem dX12_gives_191 : decode cX12_gives 191 = .ok (.baload, 1) := by decide +kernel
theorem dX12_gives_192 : decode cX12_gives 192 = .ok (.ifCond .eq 11, 3) := by decide +kernel
theorem dX12_gives_195 : decode cX12_gives 195 = .ok (.aload_n 0, 1) := by decide +kernel
theorem dX12_gives_196 : decode cX12_gives 196 = .ok (.iload 6, 2) := by decide +kernel
theorem dX12_gives_198 : decode cX12_gives 198 = .ok (.invokevirtual 229, 3) := by decide +kernel
theorem dX12_gives_201 : decode cX12_gives 201 = .ok (.iconst 0, 1) := by decide +kernel
theorem dX12_gives_202 : decode cX12_gives 202 = .ok (.ireturn, 1) := by decide +kernel
theorem dX12_gives_203 : decode cX12_gives 203 = .ok (.aload_n 0, 1) := by decide +kernel
theorem dX12_gives_204 : decode cX12_gives 204 = .ok (.getfield 95, 3) := by decide +kernel
theorem dX12_gives_207 : decode cX12_gives 207 = .ok (.iload 10, 2) := by decide +kernel
theorem dX12_gives_209 : decode cX12_gives 209 = .ok (.baload, 1) := by decide +kernel
theorem dX12_gives_210 : decode cX12_gives 210 = .ok (.ifCond .eq 13, 3) := by decide +kernel
theorem dX12_gives_213 : decode cX12_gives 213 = .ok (.aload_n 0, 1) := by decide +kernel
theorem dX12_gives_214 : decode cX12_gives 214 = .ok (.getfield 98, 3) := by decide +kernel
theorem dX12_gives_217 : decode cX12_gives 217 = .ok (.iload 10, 2) := by decide +kernel
theorem dX12_gives_219 : decode cX12_gives 219 = .ok (.iconst 1, 1) := by decide +kernel
theorem dX12_gives_220 : decode cX12_gives 220 = .ok (.bastore, 1) := by decide +kernel
theorem dX12_gives_221 : decode cX12_gives 221 = .ok (.iconst 0, 1) := by decide +kernel
theorem dX12_gives_222 : decode cX12_gives 222 = .ok (.ireturn, 1) := by decide +kernel
theorem dX12_gives_223 : decode cX12_gives 223 = .ok (.aload_n 0, 1) := by decide +kernel
theorem dX12_gives_224 : decode cX12_gives 224 = .ok (.getfield 75, 3) := by decide +kernel
theorem dX12_gives_227 : decode cX12_gives 227 = .ok (.iload 10, 2) := by decide +kernel
theorem dX12_gives_229 : decode cX12_gives 229 = .ok (.aaload, 1) := by decide +kernel
theorem dX12_gives_230 : decode cX12_gives 230 = .ok (.iload_n 2, 1) := by decide +kernel
theorem dX12_gives_231 : decode cX12_gives 231 = .ok (.aaload, 1) := by decide +kernel
theorem dX12_gives_232 : decode cX12_gives 232 = .ok (.iload 11, 2) := by decide +kernel
theorem dX12_gives_234 : decode cX12_gives 234 = .ok (.iaload, 1) := by decide +kernel
theorem dX12_gives_235 : decode cX12_gives 235 = .ok (.aload_n 0, 1) := by decide +kernel
theorem dX12_gives_236 : decode cX12_gives 236 = .ok (.getfield 16, 3) := by decide +kernel
theorem dX12_gives_239 : decode cX12_gives 239 = .ok (.if_icmp .ge 24, 3) := by decide +kernel
theorem dX12_gives_242 : decode cX12_gives 242 = .ok (.iload 7, 2) := by decide +kernel
theorem dX12_gives_244 : decode cX12_gives 244 = .ok (.ifCond .eq 21, 3) := by decide +kernel
theorem dX12_gives_247 : decode cX12_gives 247 = .ok (.aload_n 0, 1) := by decide +kernel
theorem dX12_gives_248 : decode cX12_gives 248 = .ok (.getfield 78, 3) := by decide +kernel
theorem dX12_gives_251 : decode cX12_gives 251 = .ok (.iload 10, 2) := by decide +kernel
theorem dX12_gives_253 : decode cX12_gives 253 = .ok (.aaload, 1) := by decide +kernel
theorem dX12_gives_254 : decode cX12_gives 254 = .ok (.iload_n 2, 1) := by decide +kernel
theorem dX12_gives_255 : decode cX12_gives 255 = .ok (.aaload, 1) := by decide +kernel
theorem dX12_gives_256 : decode cX12_gives 256 = .ok (.iload 11, 2) := by decide +kernel
theorem dX12_gives_258 : decode cX12_gives 258 = .ok (.iaload, 1) := by decide +kernel
theorem dX12_gives_259 : decode cX12_gives 259 = .ok (.iconst (-1), 1) := by decide +kernel
theorem dX12_gives_260 : decode cX12_gives 260 = .ok (.if_icmp .eq 5, 3) := by decide +kernel
theorem dX12_gives_263 : decode cX12_gives 263 = .ok (.iconst 0, 1) := by decide +kernel
theorem dX12_gives_264 : decode cX12_gives 264 = .ok (.ireturn, 1) := by decide +kernel
theorem dX12_gives_265 : decode cX12_gives 265 = .ok (.aload_n 0, 1) := by decide +kernel
theorem dX12_gives_266 : decode cX12_gives 266 = .ok (.iload 10, 2) := by decide +kernel
theorem dX12_gives_268 : decode cX12_gives 268 = .ok (.iload_n 2, 1) := by decide +kernel
theorem dX12_gives_269 : decode cX12_gives 269 = .ok (.iload 11, 2) := by decide +kernel
theorem dX12_gives_271 : decode cX12_gives 271 = .ok (.iload 5, 2) := by decide +kernel
theorem dX12_gives_273 : decode cX12_gives 273 = .ok (.invokevirtual 233, 3) := by decide +kernel
theorem dX12_gives_276 : decode cX12_gives 276 = .ok (.aload_n 0, 1) := by decide +kernel
theorem dX12_gives_277 : decode cX12_gives 277 = .ok (.getfield 78, 3) := by decide +kernel
theorem dX12_gives_280 : decode cX12_gives 280 = .ok (.iload 10, 2) := by decide +kernel
theorem dX12_gives_282 : decode cX12_gives 282 = .ok (.aaload, 1) := by decide +kernel
theorem dX12_gives_283 : decode cX12_gives 283 = .ok (.iload_n 2, 1) := by decide +kernel
theorem dX12_gives_284 : decode cX12_gives 284 = .ok (.aaload, 1) := by decide +kernel
theorem dX12_gives_285 : decode cX12_gives 285 = .ok (.iload 11, 2) := by decide +kernel
theorem dX12_gives_287 : decode cX12_gives 287 = .ok (.iload 6, 2) := by decide +kernel
theorem dX12_gives_289 : decode cX12_gives 289 = .ok (.iastore, 1) := by decide +kernel
theorem dX12_gives_290 : decode cX12_gives 290 = .ok (.aload_n 0, 1) := by decide +kernel
theorem dX12_gives_291 : decode cX12_gives 291 = .ok (.iconst 1, 1) := by decide +kernel
theorem dX12_gives_292 : decode cX12_gives 292 = .ok (.putfield 211, 3) := by decide +kernel
theorem dX12_gives_295 : decode cX12_gives 295 = .ok (.aload_n 0, 1) := by decide +kernel
theorem dX12_gives_296 : decode cX12_gives 296 = .ok (.iload_n 1, 1) := by decide +kernel
theorem dX12_gives_297 : decode cX12_gives 297 = .ok (.iload_n 2, 1) := by decide +kernel
theorem dX12_gives_298 : decode cX12_gives 298 = .ok (.iload_n 3, 1) := by decide +kernel
theorem dX12_gives_299 : decode cX12_gives 299 = .ok (.iconst 0, 1) := by decide +kernel
theorem dX12_gives_300 : decode cX12_gives 300 = .ok (.invokevirtual 221, 3) := by decide +kernel
theorem dX12_gives_303 : decode cX12_gives 303 = .ok (.aload_n 0, 1) := by decide +kernel
theorem dX12_gives_304 : decode cX12_gives 304 = .ok (.getfield 81, 3) := by decide +kernel
theorem dX12_gives_307 : decode cX12_gives 307 = .ok (.iload_n 1, 1) := by decide +kernel
theorem dX12_gives_308 : decode cX12_gives 308 = .ok (.aaload, 1) := by decide +kernel
theorem dX12_gives_309 : decode cX12_gives 309 = .ok (.iload_n 2, 1) := by decide +kernel
theorem dX12_gives_310 : decode cX12_gives 310 = .ok (.aaload, 1) := by decide +kernel
theorem dX12_gives_311 : decode cX12_gives 311 = .ok (.iload_n 3, 1) := by decide +kernel
theorem dX12_gives_312 : decode cX12_gives 312 = .ok (.iload 4, 2) := by decide +kernel
theorem dX12_gives_314 : decode cX12_gives 314 = .ok (.iastore, 1) := by decide +kernel
theorem dX12_gives_315 : decode cX12_gives 315 = .ok (.aload_n 0, 1) := by decide +kernel
theorem dX12_gives_316 : decode cX12_gives 316 = .ok (.getfield 84, 3) := by decide +kernel
theorem dX12_gives_319 : decode cX12_gives 319 = .ok (.iload_n 1, 1) := by decide +kernel
theorem dX12_gives_320 : decode cX12_gives 320 = .ok (.aaload, 1) := by decide +kernel
theorem dX12_gives_321 : decode cX12_gives 321 = .ok (.iload_n 2, 1) := by decide +kernel
theorem dX12_gives_322 : decode cX12_gives 322 = .ok (.aaload, 1) := by decide +kernel
theorem dX12_gives_323 : decode cX12_gives 323 = .ok (.iload_n 3, 1) := by decide +kernel
theorem dX12_gives_324 : decode cX12_gives 324 = .ok (.aload_n 0, 1) := by decide +kernel
theorem dX12_gives_325 : decode cX12_gives 325 = .ok (.getfield 162, 3) := by decide +kernel
theorem dX12_gives_328 : decode cX12_gives 328 = .ok (.iconst 1, 1) := by decide +kernel
theorem dX12_gives_329 : decode cX12_gives 329 = .ok (.iadd, 1) := by decide +kernel
theorem dX12_gives_330 : decode cX12_gives 330 = .ok (.iastore, 1) := by decide +kernel
theorem dX12_gives_331 : decode cX12_gives 331 = .ok (.aload_n 0, 1) := by decide +kernel
theorem dX12_gives_332 : decode cX12_gives 332 = .ok (.getfield 87, 3) := by decide +kernel
theorem dX12_gives_335 : decode cX12_gives 335 = .ok (.iload_n 1, 1) := by decide +kernel
theorem dX12_gives_336 : decode cX12_gives 336 = .ok (.aaload, 1) := by decide +kernel
theorem dX12_gives_337 : decode cX12_gives 337 = .ok (.iload_n 2, 1) := by decide +kernel
theorem dX12_gives_338 : decode cX12_gives 338 = .ok (.aaload, 1) := by decide +kernel
theorem dX12_gives_339 : decode cX12_gives 339 = .ok (.iload 4, 2) := by decide +kernel
theorem dX12_gives_341 : decode cX12_gives 341 = .ok (.iload_n 3, 1) := by decide +kernel
theorem dX12_gives_342 : decode cX12_gives 342 = .ok (.iastore, 1) := by decide +kernel
theorem dX12_gives_343 : decode cX12_gives 343 = .ok (.iload 8, 2) := by decide +kernel
theorem dX12_gives_345 : decode cX12_gives 345 = .ok (.ifCond .eq 14, 3) := by decide +kernel
theorem dX12_gives_348 : decode cX12_gives 348 = .ok (.aload_n 0, 1) := by decide +kernel
theorem dX12_gives_349 : decode cX12_gives 349 = .ok (.getfield 78, 3) := by decide +kernel
theorem dX12_gives_352 : decode cX12_gives 352 = .ok (.iload_n 1, 1) := by decide +kernel
theorem dX12_gives_353 : decode cX12_gives 353 = .ok (.aaload, 1) := by decide +kernel
theorem dX12_gives_354 : decode cX12_gives 354 = .ok (.iload_n 2, 1) := by decide +kernel
theorem dX12_gives_355 : decode cX12_gives 355 = .ok (.aaload, 1) := by decide +kernel
theorem dX12_gives_356 : decode cX12_gives 356 = .ok (.iload_n 3, 1) := by decide +kernel
theorem dX12_gives_357 : decode cX12_gives 357 = .ok (.iconst (-1), 1) := by decide +kernel
theorem dX12_gives_358 : decode cX12_gives 358 = .ok (.iastore, 1) := by decide +kernel
theorem dX12_gives_359 : decode cX12_gives 359 = .ok (.iload 8, 2) := by decide +kernel
theorem dX12_gives_361 : decode cX12_gives 361 = .ok (.ifCond .eq 15, 3) := by decide +kernel
theorem dX12_gives_364 : decode cX12_gives 364 = .ok (.iload 4, 2) := by decide +kernel
theorem dX12_gives_366 : decode cX12_gives 366 = .ok (.iconst 4, 1) := by decide +kernel
theorem dX12_gives_367 : decode cX12_gives 367 = .ok (.if_icmp .ne 9, 3) := by decide +kernel
theorem dX12_gives_370 : decode cX12_gives 370 = .ok (.aload_n 0, 1) := by decide +kernel
theorem dX12_gives_371 : decode cX12_gives 371 = .ok (.iload 6, 2) := by decide +kernel
theorem dX12_gives_373 : decode cX12_gives 373 = .ok (.invokevirtual 236, 3) := by decide +kernel
theorem dX12_gives_376 : decode cX12_gives 376 = .ok (.iconst 1, 1) := by decide +kernel
theorem dX12_gives_377 : decode cX12_gives 377 = .ok (.ireturn, 1) := by decide +kernel
theorem dX12_routes_0 : decode cX12_routes 0 = .ok (.iconst 1, 1) := by decide +kernel
theorem dX12_routes_1 : decode cX12_routes 1 = .ok (.istore_n 3, 1) := by decide +kernel
theorem dX12_routes_2 : decode cX12_routes 2 = .ok (.iload_n 3, 1) := by decide +kernel
theorem dX12_routes_3 : decode cX12_routes 3 = .ok (.ifCond .lt 54, 3) := by decide +kernel
theorem dX12_routes_6 : decode cX12_routes 6 = .ok (.aload_n 0, 1) := by decide +kernel
theorem dX12_routes_7 : decode cX12_routes 7 = .ok (.getfield 87, 3) := by decide +kernel
theorem dX12_routes_10 : decode cX12_routes 10 = .ok (.iload_n 1, 1) := by decide +kernel
theorem dX12_routes_11 : decode cX12_routes 11 = .ok (.aaload, 1) := by decide +kernel
theorem dX12_routes_12 : decode cX12_routes 12 = .ok (.iload_n 3, 1) := by decide +kernel
theorem dX12_routes_13 : decode cX12_routes 13 = .ok (.aaload, 1) := by decide +kernel
theorem dX12_routes_14 : decode cX12_routes 14 = .ok (.iload_n 2, 1) := by decide +kernel
theorem dX12_routes_15 : decode cX12_routes 15 = .ok (.iaload, 1) := by decide +kernel
theorem dX12_routes_16 : decode cX12_routes 16 = .ok (.istore 4, 2) := by decide +kernel
theorem dX12_routes_18 : decode cX12_routes 18 = .ok (.iconst 1, 1) := by decide +kernel
theorem dX12_routes_19 : decode cX12_routes 19 = .ok (.istore 5, 2) := by decide +kernel
theorem dX12_routes_21 : decode cX12_routes 21 = .ok (.iload 5, 2) := by decide +kernel
theorem dX12_routes_23 : decode cX12_routes 23 = .ok (.iconst 5, 1) := by decide +kernel
theorem dX12_routes_24 : decode cX12_routes 24 = .ok (.if_icmp .gt 27, 3) := by decide +kernel
theorem dX12_routes_27 : decode cX12_routes 27 = .ok (.aload_n 0, 1) := by decide +kernel
theorem dX12_routes_28 : decode cX12_routes 28 = .ok (.iload_n 1, 1) := by decide +kernel
theorem dX12_routes_29 : decode cX12_routes 29 = .ok (.iload_n 3, 1) := by decide +kernel
theorem dX12_routes_30 : decode cX12_routes 30 = .ok (.iload 4, 2) := by decide +kernel
theorem dX12_routes_32 : decode cX12_routes 32 = .ok (.iload 5, 2) := by decide +kernel
theorem dX12_routes_34 : decode cX12_routes 34 = .ok (.iadd, 1) := by decide +kernel
theorem dX12_routes_35 : decode cX12_routes 35 = .ok (.iconst 5, 1) := by decide +kernel
theorem dX12_routes_36 : decode cX12_routes 36 = .ok (.irem, 1) := by decide +kernel
theorem dX12_routes_37 : decode cX12_routes 37 = .ok (.iload_n 2, 1) := by decide +kernel
theorem dX12_routes_38 : decode cX12_routes 38 = .ok (.invokevirtual 239, 3) := by decide +kernel
theorem dX12_routes_41 : decode cX12_routes 41 = .ok (.ifCond .eq 4, 3) := by decide +kernel
theorem dX12_routes_44 : decode cX12_routes 44 = .ok (.return_, 1) := by decide +kernel
theorem dX12_routes_45 : decode cX12_routes 45 = .ok (.iinc 5 1, 3) := by decide +kernel
theorem dX12_routes_48 : decode cX12_routes 48 = .ok (.goto (-27), 3) := by decide +kernel
theorem dX12_routes_51 : decode cX12_routes 51 = .ok (.iinc 3 (-1), 3) := by decide +kernel
theorem dX12_routes_54 : decode cX12_routes 54 = .ok (.goto (-52), 3) := by decide +kernel
theorem dX12_routes_57 : decode cX12_routes 57 = .ok (.return_, 1) := by decide +kernel
def f_M_loses_b49 (K10 : me_M → Int32 → Int32 → Option (me_M × Unit)) (K20 : me_M → Int32 → Int32 → Int32 → Option (me_M × Unit)) (K28 : me_M → Int32 → Int32 → Int32 → Int32 → Option (me_M × Unit)) (K49 : me_M → Int32 → Int32 → Int32 → Int32 → Int32 → Option (me_M × Unit)) (μ : me_M) (v1 : Int32) (v2 : Int32) (v3 : Int32) (v4 : Int32) (v5 : Int32) : Option (me_M × Unit) :=
  if v5 < 0 then
  (me_gd (me_inb v2 16) (
  me_gd (me_inb v3 2) (
  me_gd (me_inb v2 16) (
  me_gd (me_inb v3 2) (
  me_gd (me_inb v4 5) (
  if (μ 63 (2 * (me_ix v2) + (me_ix v3)) (me_ix v4)) = v1 then
  (me_gd (me_inb v4 5) (
  me_lt (me_up μ 63 (2 * (me_ix v2) + (me_ix v3)) (me_ix v4) (-1 : Int32)) (fun μ15 =>
  me_lt (me_inc v4 (1)) (fun x16 =>
  K28 μ15 v1 v2 v3 x16))))
  else
  (me_gd (me_inb v2 16) (
  me_gd (me_inb v3 2) (
  me_gd (me_inb v4 5) (
  me_gd (me_inb v4 5) (
  me_lt (me_up μ 63 (2 * (me_ix v2) + (me_ix v3)) (me_ix v4) (μ 63 (2 * (me_ix v2) + (me_ix v3)) (me_ix v4))) (fun μ12 =>
  me_lt (me_inc v4 (1)) (fun x13 =>
  K28 μ12 v1 v2 v3 x13)))))))))))))
  else
  (me_gd (me_inb v2 16) (
  me_gd (me_inb v3 2) (
  me_gd (me_inb v4 5) (
  me_gd (me_inb v5 4) (
  if ((μ 53 (5 * (2 * (me_ix v2) + (me_ix v3)) + (me_ix v4)) (me_ix v5)) / (8 : Int32)) = v1 then
  (me_b2 (f_M_drops μ v2 v3 v4 v5) (fun μ24 r23 =>
  me_lt (me_inc v5 (-1)) (fun x25 =>
  K49 μ24 v1 v2 v3 v4 x25)))
  else
  (me_lt (me_inc v5 (-1)) (fun x22 =>
  K49 μ v1 v2 v3 v4 x22)))))))
set_option maxHeartbeats 4000000 in
set_option maxRecDepth 100000 in
theorem z_M_loses_b49 {X : me_X} {B : me_B} {sz : Nat} (C : me_C X B RX12 cX12_loses 6 none) {μ : me_M} {v1 : Int32} {v2 : Int32} {v3 : Int32} {v4 : Int32} {v5 : Int32}  {K10 : me_M → Int32 → Int32 → Option (me_M × Unit)} {K20 : me_M → Int32 → Int32 → Int32 → Option (me_M × Unit)} {K28 : me_M → Int32 → Int32 → Int32 → Int32 → Option (me_M × Unit)} {K49 : me_M → Int32 → Int32 → Int32 → Int32 → Int32 → Option (me_M × Unit)} {r : me_M × Unit} (N : me_En X B sz (B, r.1, .ok (none)) 2 65 0 0) (hNx : me_Nx X) (hB : me_St B) (hK10 : ∀ (μ : me_M) (v1 : Int32) (v2 : Int32), K10 μ v1 v2 = some r → me_Z X B 0 0 μ 10 [(0, me_r 36 0), (1, me_i v1), (2, me_i v2)] []) (hK20 : ∀ (μ : me_M) (v1 : Int32) (v2 : Int32) (v3 : Int32), K20 μ v1 v2 v3 = some r → me_Z X B 0 0 μ 20 [(0, me_r 36 0), (1, me_i v1), (2, me_i v2), (3, me_i v3)] []) (hK28 : ∀ (μ : me_M) (v1 : Int32) (v2 : Int32) (v3 : Int32) (v4 : Int32), K28 μ v1 v2 v3 v4 = some r → me_Z X B 0 0 μ 28 [(0, me_r 36 0), (1, me_i v1), (2, me_i v2), (3, me_i v3), (4, me_i v4)] []) (hK49 : ∀ (μ : me_M) (v1 : Int32) (v2 : Int32) (v3 : Int32) (v4 : Int32) (v5 : Int32), K49 μ v1 v2 v3 v4 v5 = some r → me_Z X B 0 0 μ 49 [(0, me_r 36 0), (1, me_i v1), (2, me_i v2), (3, me_i v3), (4, me_i v4), (5, me_i v5)] [])  (hf : f_M_loses_b49 K10 K20 K28 K49 μ v1 v2 v3 v4 v5 = some r) : me_Z X B 0 0 μ 49 [(0, me_r 36 0), (1, me_i v1), (2, me_i v2), (3, me_i v3), (4, me_i v4), (5, me_i v5)] [] := by
  unfold f_M_loses_b49 at hf
  refine me_iload C dX12_loses_49 rfl ?_
  refine me_if_lt C (tgt := 91) dX12_loses_51 (by decide) (fun c1 => ?_) (fun c1 => ?_)
  · replace hf := me_ip c1 hf
    refine me_aload_n C 0 (Or.inr (Or.inl ⟨_, rfl⟩)) dX12_loses_91 rfl rfl ?_
    refine me_getr C hB 23 (k' := 61) (i' := 0) fg_M_78 dX12_loses_92 rfl rfl ?_
    refine me_iload_n C 2 dX12_loses_95 rfl rfl ?_
    obtain ⟨g2, hf⟩ := me_gs hf
    refine me_aald C hB (k' := 62) (i' := (me_ix v2)) rfl (fun _ => rfl) rfl g2 dX12_loses_96 rfl ?_
    refine me_iload_n C 3 dX12_loses_97 rfl rfl ?_
    obtain ⟨g3, hf⟩ := me_gs hf
    refine me_aald C hB (k' := 63) (i' := 2 * (me_ix v2) + (me_ix v3)) rfl (fun _ => rfl) rfl g3 dX12_loses_98 rfl ?_
    refine me_iload C dX12_loses_99 rfl ?_
    refine me_aload_n C 0 (Or.inr (Or.inl ⟨_, rfl⟩)) dX12_loses_101 rfl rfl ?_
    refine me_getr C hB 23 (k' := 61) (i' := 0) fg_M_78 dX12_loses_102 rfl rfl ?_
    refine me_iload_n C 2 dX12_loses_105 rfl rfl ?_
    obtain ⟨g4, hf⟩ := me_gs hf
    refine me_aald C hB (k' := 62) (i' := (me_ix v2)) rfl (fun _ => rfl) rfl g4 dX12_loses_106 rfl ?_
    refine me_iload_n C 3 dX12_loses_107 rfl rfl ?_
    obtain ⟨g5, hf⟩ := me_gs hf
    refine me_aald C hB (k' := 63) (i' := 2 * (me_ix v2) + (me_ix v3)) rfl (fun _ => rfl) rfl g5 dX12_loses_108 rfl ?_
    refine me_iload C dX12_loses_109 rfl ?_
    obtain ⟨g6, hf⟩ := me_gs hf
    refine me_iald C rfl (fun _ => rfl) g6 dX12_loses_111 ?_
    refine me_iload_n C 1 dX12_loses_112 rfl rfl ?_
    refine me_icmp_ne C (tgt := 120) dX12_loses_113 (by decide) (fun c7 => ?_) (fun c7 => ?_)
    · replace hf := me_in c7 hf
      refine me_aload_n C 0 (Or.inr (Or.inl ⟨_, rfl⟩)) dX12_loses_120 rfl rfl ?_
      refine me_getr C hB 23 (k' := 61) (i' := 0) fg_M_78 dX12_loses_121 rfl rfl ?_
      refine me_iload_n C 2 dX12_loses_124 rfl rfl ?_
      obtain ⟨g8, hf⟩ := me_gs hf
      refine me_aald C hB (k' := 62) (i' := (me_ix v2)) rfl (fun _ => rfl) rfl g8 dX12_loses_125 rfl ?_
      refine me_iload_n C 3 dX12_loses_126 rfl rfl ?_
      obtain ⟨g9, hf⟩ := me_gs hf
      refine me_aald C hB (k' := 63) (i' := 2 * (me_ix v2) + (me_ix v3)) rfl (fun _ => rfl) rfl g9 dX12_loses_127 rfl ?_
      refine me_iload C dX12_loses_128 rfl ?_
      obtain ⟨g10, hf⟩ := me_gs hf
      refine me_iald C rfl (fun _ => rfl) g10 dX12_loses_130 ?_
      obtain ⟨g11, hf⟩ := me_gs hf
      obtain ⟨μ12, e_μ12, hf⟩ := me_lts hf
      refine me_iast C rfl (fun _ => rfl) g11 dX12_loses_131 e_μ12 ?_
      obtain ⟨x13, e_x13, hf⟩ := me_lts hf
      refine me_iinc C (v := x13) (L' := [(4, me_i x13), (0, me_r 36 0), (1, me_i v1), (2, me_i v2), (3, me_i v3), (5, me_i v5)]) dX12_loses_132 rfl e_x13.symm (by decide) rfl ?_
      refine me_goto C (tgt := 28) dX12_loses_135 (by decide) ?_
      refine me_dropI [(0, me_r 36 0), (1, me_i v1), (2, me_i v2), (3, me_i v3), (4, me_i x13)] [1, 2, 3, 4, 0] rfl ?_
      exact hK28 μ12 v1 v2 v3 x13 hf
    · replace hf := me_ip c7 hf
      refine me_iconst C (v := -1) dX12_loses_116 (by decide) ?_
      refine me_goto C (tgt := 131) dX12_loses_117 (by decide) ?_
      obtain ⟨g14, hf⟩ := me_gs hf
      obtain ⟨μ15, e_μ15, hf⟩ := me_lts hf
      refine me_iast C rfl (fun _ => rfl) g14 dX12_loses_131 e_μ15 ?_
      obtain ⟨x16, e_x16, hf⟩ := me_lts hf
      refine me_iinc C (v := x16) (L' := [(4, me_i x16), (0, me_r 36 0), (1, me_i v1), (2, me_i v2), (3, me_i v3), (5, me_i v5)]) dX12_loses_132 rfl e_x16.symm (by decide) rfl ?_
      refine me_goto C (tgt := 28) dX12_loses_135 (by decide) ?_
      refine me_dropI [(0, me_r 36 0), (1, me_i v1), (2, me_i v2), (3, me_i v3), (4, me_i x16)] [1, 2, 3, 4, 0] rfl ?_
      exact hK28 μ15 v1 v2 v3 x16 hf
  · replace hf := me_in c1 hf
    refine me_aload_n C 0 (Or.inr (Or.inl ⟨_, rfl⟩)) dX12_loses_54 rfl rfl ?_
    refine me_getr C hB 20 (k' := 50) (i' := 0) fg_M_67 dX12_loses_55 rfl rfl ?_
    refine me_iload_n C 2 dX12_loses_58 rfl rfl ?_
    obtain ⟨g17, hf⟩ := me_gs hf
    refine me_aald C hB (k' := 51) (i' := (me_ix v2)) rfl (fun _ => rfl) rfl g17 dX12_loses_59 rfl ?_
    refine me_iload_n C 3 dX12_loses_60 rfl rfl ?_
    obtain ⟨g18, hf⟩ := me_gs hf
    refine me_aald C hB (k' := 52) (i' := 2 * (me_ix v2) + (me_ix v3)) rfl (fun _ => rfl) rfl g18 dX12_loses_61 rfl ?_
    refine me_iload C dX12_loses_62 rfl ?_
    obtain ⟨g19, hf⟩ := me_gs hf
    refine me_aald C hB (k' := 53) (i' := 5 * (2 * (me_ix v2) + (me_ix v3)) + (me_ix v4)) rfl (fun _ => rfl) rfl g19 dX12_loses_64 rfl ?_
    refine me_iload C dX12_loses_65 rfl ?_
    obtain ⟨g20, hf⟩ := me_gs hf
    refine me_iald C rfl (fun _ => rfl) g20 dX12_loses_67 ?_
    refine me_bipush C (v := 8) dX12_loses_68 (by decide) ?_
    refine me_idiv C dX12_loses_70 (by decide) ?_
    refine me_iload_n C 1 dX12_loses_71 rfl rfl ?_
    refine me_icmp_ne C (tgt := 85) dX12_loses_72 (by decide) (fun c21 => ?_) (fun c21 => ?_)
    · replace hf := me_in c21 hf
      obtain ⟨x22, e_x22, hf⟩ := me_lts hf
      refine me_iinc C (v := x22) (L' := [(5, me_i x22), (0, me_r 36 0), (1, me_i v1), (2, me_i v2), (3, me_i v3), (4, me_i v4)]) dX12_loses_85 rfl e_x22.symm (by decide) rfl ?_
      refine me_goto C (tgt := 49) dX12_loses_88 (by decide) ?_
      refine me_dropI [(0, me_r 36 0), (1, me_i v1), (2, me_i v2), (3, me_i v3), (4, me_i v4), (5, me_i x22)] [1, 2, 3, 4, 5, 0] rfl ?_
      exact hK49 μ v1 v2 v3 v4 x22 hf
    · replace hf := me_ip c21 hf
      refine me_aload_n C 0 (Or.inr (Or.inl ⟨_, rfl⟩)) dX12_loses_75 rfl rfl ?_
      refine me_iload_n C 2 dX12_loses_76 rfl rfl ?_
      refine me_iload_n C 3 dX12_loses_77 rfl rfl ?_
      refine me_iload C dX12_loses_78 rfl ?_
      refine me_iload C dX12_loses_80 rfl ?_
      obtain ⟨μ24, r23, h_r23, hf⟩ := me_bs2 hf
      refine me_callV0 C N  (As := [me_i v2, me_i v3, me_i v4, me_i v5]) (st := []) 0 0 (c_M_drops hB h_r23) mv_M_drops ml_M_221 rfl rfl dX12_loses_82 rfl rfl ⟨by decide, by decide⟩ ⟨by decide, by decide, by decide, by decide⟩ (Nat.le_of_ble_eq_true rfl) ?_
      obtain ⟨x25, e_x25, hf⟩ := me_lts hf
      refine me_iinc C (v := x25) (L' := [(5, me_i x25), (0, me_r 36 0), (1, me_i v1), (2, me_i v2), (3, me_i v3), (4, me_i v4)]) dX12_loses_85 rfl e_x25.symm (by decide) rfl ?_
      refine me_goto C (tgt := 49) dX12_loses_88 (by decide) ?_
      refine me_dropI [(0, me_r 36 0), (1, me_i v1), (2, me_i v2), (3, me_i v3), (4, me_i v4), (5, me_i x25)] [1, 2, 3, 4, 5, 0] rfl ?_
      exact hK49 μ24 v1 v2 v3 v4 x25 hf
def f_M_loses_h49 (K10 : me_M → Int32 → Int32 → Option (me_M × Unit)) (K20 : me_M → Int32 → Int32 → Int32 → Option (me_M × Unit)) (K28 : me_M → Int32 → Int32 → Int32 → Int32 → Option (me_M × Unit)) : Nat → me_M → Int32 → Int32 → Int32 → Int32 → Int32 → Option (me_M × Unit)
  | 0, _, _, _, _, _, _ => none
  | n + 1, μ, v1, v2, v3, v4, v5 => f_M_loses_b49 K10 K20 K28 (f_M_loses_h49 K10 K20 K28 n) μ v1 v2 v3 v4 v5
set_option maxHeartbeats 4000000 in
set_option maxRecDepth 100000 in
theorem z_M_loses_h49 {X : me_X} {B : me_B} {sz : Nat} (C : me_C X B RX12 cX12_loses 6 none) {K10 : me_M → Int32 → Int32 → Option (me_M × Unit)} {K20 : me_M → Int32 → Int32 → Int32 → Option (me_M × Unit)} {K28 : me_M → Int32 → Int32 → Int32 → Int32 → Option (me_M × Unit)} {r : me_M × Unit} (N : me_En X B sz (B, r.1, .ok (none)) 2 65 0 0) (hNx : me_Nx X) (hB : me_St B) (hK10 : ∀ (μ : me_M) (v1 : Int32) (v2 : Int32), K10 μ v1 v2 = some r → me_Z X B 0 0 μ 10 [(0, me_r 36 0), (1, me_i v1), (2, me_i v2)] []) (hK20 : ∀ (μ : me_M) (v1 : Int32) (v2 : Int32) (v3 : Int32), K20 μ v1 v2 v3 = some r → me_Z X B 0 0 μ 20 [(0, me_r 36 0), (1, me_i v1), (2, me_i v2), (3, me_i v3)] []) (hK28 : ∀ (μ : me_M) (v1 : Int32) (v2 : Int32) (v3 : Int32) (v4 : Int32), K28 μ v1 v2 v3 v4 = some r → me_Z X B 0 0 μ 28 [(0, me_r 36 0), (1, me_i v1), (2, me_i v2), (3, me_i v3), (4, me_i v4)] []) : ∀ (n : Nat) (μ : me_M) (v1 : Int32) (v2 : Int32) (v3 : Int32) (v4 : Int32) (v5 : Int32), f_M_loses_h49 K10 K20 K28 n μ v1 v2 v3 v4 v5 = some r → me_Z X B 0 0 μ 49 [(0, me_r 36 0), (1, me_i v1), (2, me_i v2), (3, me_i v3), (4, me_i v4), (5, me_i v5)] [] := by
  intro n
  induction n with
  | zero => intro μ v1 v2 v3 v4 v5  h; exact absurd (show (none : Option (me_M × Unit)) = some r from h) (fun q => by cases q)
  | succ n ih => intro μ v1 v2 v3 v4 v5  h; exact z_M_loses_b49 C N hNx hB hK10 hK20 hK28 (K49 := f_M_loses_h49 K10 K20 K28 n) ih  h
def f_M_loses_b28 (K10 : me_M → Int32 → Int32 → Option (me_M × Unit)) (K20 : me_M → Int32 → Int32 → Int32 → Option (me_M × Unit)) (K28 : me_M → Int32 → Int32 → Int32 → Int32 → Option (me_M × Unit)) (μ : me_M) (v1 : Int32) (v2 : Int32) (v3 : Int32) (v4 : Int32) : Option (me_M × Unit) :=
  if (5 : Int32) ≤ v4 then
  (me_lt (me_inc v3 (1)) (fun x2 =>
  K20 μ v1 v2 x2))
  else
  (me_gd (me_inb v2 16) (
  me_gd (me_inb v3 2) (
  me_gd (me_inb v4 5) (
  me_lt (((μ 60 (2 * (me_ix v2) + (me_ix v3)) (me_ix v4)) - (1 : Int32))) (fun x6 =>
  f_M_loses_h49 K10 K20 K28 me_FU μ v1 v2 v3 v4 x6)))))
set_option maxHeartbeats 4000000 in
set_option maxRecDepth 100000 in
theorem z_M_loses_b28 {X : me_X} {B : me_B} {sz : Nat} (C : me_C X B RX12 cX12_loses 6 none) {μ : me_M} {v1 : Int32} {v2 : Int32} {v3 : Int32} {v4 : Int32}  {K10 : me_M → Int32 → Int32 → Option (me_M × Unit)} {K20 : me_M → Int32 → Int32 → Int32 → Option (me_M × Unit)} {K28 : me_M → Int32 → Int32 → Int32 → Int32 → Option (me_M × Unit)} {r : me_M × Unit} (N : me_En X B sz (B, r.1, .ok (none)) 2 65 0 0) (hNx : me_Nx X) (hB : me_St B) (hK10 : ∀ (μ : me_M) (v1 : Int32) (v2 : Int32), K10 μ v1 v2 = some r → me_Z X B 0 0 μ 10 [(0, me_r 36 0), (1, me_i v1), (2, me_i v2)] []) (hK20 : ∀ (μ : me_M) (v1 : Int32) (v2 : Int32) (v3 : Int32), K20 μ v1 v2 v3 = some r → me_Z X B 0 0 μ 20 [(0, me_r 36 0), (1, me_i v1), (2, me_i v2), (3, me_i v3)] []) (hK28 : ∀ (μ : me_M) (v1 : Int32) (v2 : Int32) (v3 : Int32) (v4 : Int32), K28 μ v1 v2 v3 v4 = some r → me_Z X B 0 0 μ 28 [(0, me_r 36 0), (1, me_i v1), (2, me_i v2), (3, me_i v3), (4, me_i v4)] [])  (hf : f_M_loses_b28 K10 K20 K28 μ v1 v2 v3 v4 = some r) : me_Z X B 0 0 μ 28 [(0, me_r 36 0), (1, me_i v1), (2, me_i v2), (3, me_i v3), (4, me_i v4)] [] := by
  unfold f_M_loses_b28 at hf
  refine me_iload C dX12_loses_28 rfl ?_
  refine me_iconst C (v := 5) dX12_loses_30 (by decide) ?_
  refine me_icmp_ge C (tgt := 138) dX12_loses_31 (by decide) (fun c1 => ?_) (fun c1 => ?_)
  · replace hf := me_ip c1 hf
    obtain ⟨x2, e_x2, hf⟩ := me_lts hf
    refine me_iinc C (v := x2) (L' := [(3, me_i x2), (0, me_r 36 0), (1, me_i v1), (2, me_i v2), (4, me_i v4)]) dX12_loses_138 rfl e_x2.symm (by decide) rfl ?_
    refine me_goto C (tgt := 20) dX12_loses_141 (by decide) ?_
    refine me_dropI [(0, me_r 36 0), (1, me_i v1), (2, me_i v2), (3, me_i x2)] [1, 2, 3, 0] rfl ?_
    exact hK20 μ v1 v2 x2 hf
  · replace hf := me_in c1 hf
    refine me_aload_n C 0 (Or.inr (Or.inl ⟨_, rfl⟩)) dX12_loses_34 rfl rfl ?_
    refine me_getr C hB 22 (k' := 58) (i' := 0) fg_M_75 dX12_loses_35 rfl rfl ?_
    refine me_iload_n C 2 dX12_loses_38 rfl rfl ?_
    obtain ⟨g3, hf⟩ := me_gs hf
    refine me_aald C hB (k' := 59) (i' := (me_ix v2)) rfl (fun _ => rfl) rfl g3 dX12_loses_39 rfl ?_
    refine me_iload_n C 3 dX12_loses_40 rfl rfl ?_
    obtain ⟨g4, hf⟩ := me_gs hf
    refine me_aald C hB (k' := 60) (i' := 2 * (me_ix v2) + (me_ix v3)) rfl (fun _ => rfl) rfl g4 dX12_loses_41 rfl ?_
    refine me_iload C dX12_loses_42 rfl ?_
    obtain ⟨g5, hf⟩ := me_gs hf
    refine me_iald C rfl (fun _ => rfl) g5 dX12_loses_44 ?_
    refine me_iconst C (v := 1) dX12_loses_45 (by decide) ?_
    refine me_isub C dX12_loses_46 ?_
    obtain ⟨x6, e_x6, hf⟩ := me_lts hf
    refine me_nm e_x6 ?_
    refine me_istore C dX12_loses_47 (by decide) (L' := [(5, me_i x6), (0, me_r 36 0), (1, me_i v1), (2, me_i v2), (3, me_i v3), (4, me_i v4)]) rfl ?_
    refine me_dropI [(0, me_r 36 0), (1, me_i v1), (2, me_i v2), (3, me_i v3), (4, me_i v4), (5, me_i x6)] [1, 2, 3, 4, 5, 0] rfl ?_
    exact z_M_loses_h49 C N hNx hB hK10 hK20 hK28 me_FU μ v1 v2 v3 v4 x6 hf
def f_M_loses_h28 (K10 : me_M → Int32 → Int32 → Option (me_M × Unit)) (K20 : me_M → Int32 → Int32 → Int32 → Option (me_M × Unit)) : Nat → me_M → Int32 → Int32 → Int32 → Int32 → Option (me_M × Unit)
  | 0, _, _, _, _, _ => none
  | n + 1, μ, v1, v2, v3, v4 => f_M_loses_b28 K10 K20 (f_M_loses_h28 K10 K20 n) μ v1 v2 v3 v4
set_option maxHeartbeats 4000000 in
set_option maxRecDepth 100000 in
theorem z_M_loses_h28 {X : me_X} {B : me_B} {sz : Nat} (C : me_C X B RX12 cX12_loses 6 none) {K10 : me_M → Int32 → Int32 → Option (me_M × Unit)} {K20 : me_M → Int32 → Int32 → Int32 → Option (me_M × Unit)} {r : me_M × Unit} (N : me_En X B sz (B, r.1, .ok (none)) 2 65 0 0) (hNx : me_Nx X) (hB : me_St B) (hK10 : ∀ (μ : me_M) (v1 : Int32) (v2 : Int32), K10 μ v1 v2 = some r → me_Z X B 0 0 μ 10 [(0, me_r 36 0), (1, me_i v1), (2, me_i v2)] []) (hK20 : ∀ (μ : me_M) (v1 : Int32) (v2 : Int32) (v3 : Int32), K20 μ v1 v2 v3 = some r → me_Z X B 0 0 μ 20 [(0, me_r 36 0), (1, me_i v1), (2, me_i v2), (3, me_i v3)] []) : ∀ (n : Nat) (μ : me_M) (v1 : Int32) (v2 : Int32) (v3 : Int32) (v4 : Int32), f_M_loses_h28 K10 K20 n μ v1 v2 v3 v4 = some r → me_Z X B 0 0 μ 28 [(0, me_r 36 0), (1, me_i v1), (2, me_i v2), (3, me_i v3), (4, me_i v4)] [] := by
  intro n
  induction n with
  | zero => intro μ v1 v2 v3 v4  h; exact absurd (show (none : Option (me_M × Unit)) = some r from h) (fun q => by cases q)
  | succ n ih => intro μ v1 v2 v3 v4  h; exact z_M_loses_b28 C N hNx hB hK10 hK20 (K28 := f_M_loses_h28 K10 K20 n) ih  h
def f_M_loses_b20 (K10 : me_M → Int32 → Int32 → Option (me_M × Unit)) (K20 : me_M → Int32 → Int32 → Int32 → Option (me_M × Unit)) (μ : me_M) (v1 : Int32) (v2 : Int32) (v3 : Int32) : Option (me_M × Unit) :=
  if (2 : Int32) ≤ v3 then
  (me_lt (me_inc v2 (1)) (fun x2 =>
  K10 μ v1 x2))
  else
  (f_M_loses_h28 K10 K20 me_FU μ v1 v2 v3 (0 : Int32))
set_option maxHeartbeats 4000000 in
set_option maxRecDepth 100000 in
theorem z_M_loses_b20 {X : me_X} {B : me_B} {sz : Nat} (C : me_C X B RX12 cX12_loses 6 none) {μ : me_M} {v1 : Int32} {v2 : Int32} {v3 : Int32}  {K10 : me_M → Int32 → Int32 → Option (me_M × Unit)} {K20 : me_M → Int32 → Int32 → Int32 → Option (me_M × Unit)} {r : me_M × Unit} (N : me_En X B sz (B, r.1, .ok (none)) 2 65 0 0) (hNx : me_Nx X) (hB : me_St B) (hK10 : ∀ (μ : me_M) (v1 : Int32) (v2 : Int32), K10 μ v1 v2 = some r → me_Z X B 0 0 μ 10 [(0, me_r 36 0), (1, me_i v1), (2, me_i v2)] []) (hK20 : ∀ (μ : me_M) (v1 : Int32) (v2 : Int32) (v3 : Int32), K20 μ v1 v2 v3 = some r → me_Z X B 0 0 μ 20 [(0, me_r 36 0), (1, me_i v1), (2, me_i v2), (3, me_i v3)] [])  (hf : f_M_loses_b20 K10 K20 μ v1 v2 v3 = some r) : me_Z X B 0 0 μ 20 [(0, me_r 36 0), (1, me_i v1), (2, me_i v2), (3, me_i v3)] [] := by
  unfold f_M_loses_b20 at hf
  refine me_iload_n C 3 dX12_loses_20 rfl rfl ?_
  refine me_iconst C (v := 2) dX12_loses_21 (by decide) ?_
  refine me_icmp_ge C (tgt := 144) dX12_loses_22 (by decide) (fun c1 => ?_) (fun c1 => ?_)
  · replace hf := me_ip c1 hf
    obtain ⟨x2, e_x2, hf⟩ := me_lts hf
    refine me_iinc C (v := x2) (L' := [(2, me_i x2), (0, me_r 36 0), (1, me_i v1), (3, me_i v3)]) dX12_loses_144 rfl e_x2.symm (by decide) rfl ?_
    refine me_goto C (tgt := 10) dX12_loses_147 (by decide) ?_
    refine me_dropI [(0, me_r 36 0), (1, me_i v1), (2, me_i x2)] [1, 2, 0] rfl ?_
    exact hK10 μ v1 x2 hf
  · replace hf := me_in c1 hf
    refine me_iconst C (v := 0) dX12_loses_25 (by decide) ?_
    refine me_istore C dX12_loses_26 (by decide) (L' := [(4, me_i (0 : Int32)), (0, me_r 36 0), (1, me_i v1), (2, me_i v2), (3, me_i v3)]) rfl ?_
    refine me_dropI [(0, me_r 36 0), (1, me_i v1), (2, me_i v2), (3, me_i v3), (4, me_i (0 : Int32))] [1, 2, 3, 4, 0] rfl ?_
    exact z_M_loses_h28 C N hNx hB hK10 hK20 me_FU μ v1 v2 v3 (0 : Int32) hf
def f_M_loses_h20 (K10 : me_M → Int32 → Int32 → Option (me_M × Unit)) : Nat → me_M → Int32 → Int32 → Int32 → Option (me_M × Unit)
  | 0, _, _, _, _ => none
  | n + 1, μ, v1, v2, v3 => f_M_loses_b20 K10 (f_M_loses_h20 K10 n) μ v1 v2 v3
set_option maxHeartbeats 4000000 in
set_option maxRecDepth 100000 in
theorem z_M_loses_h20 {X : me_X} {B : me_B} {sz : Nat} (C : me_C X B RX12 cX12_loses 6 none) {K10 : me_M → Int32 → Int32 → Option (me_M × Unit)} {r : me_M × Unit} (N : me_En X B sz (B, r.1, .ok (none)) 2 65 0 0) (hNx : me_Nx X) (hB : me_St B) (hK10 : ∀ (μ : me_M) (v1 : Int32) (v2 : Int32), K10 μ v1 v2 = some r → me_Z X B 0 0 μ 10 [(0, me_r 36 0), (1, me_i v1), (2, me_i v2)] []) : ∀ (n : Nat) (μ : me_M) (v1 : Int32) (v2 : Int32) (v3 : Int32), f_M_loses_h20 K10 n μ v1 v2 v3 = some r → me_Z X B 0 0 μ 20 [(0, me_r 36 0), (1, me_i v1), (2, me_i v2), (3, me_i v3)] [] := by
  intro n
  induction n with
  | zero => intro μ v1 v2 v3  h; exact absurd (show (none : Option (me_M × Unit)) = some r from h) (fun q => by cases q)
  | succ n ih => intro μ v1 v2 v3  h; exact z_M_loses_b20 C N hNx hB hK10 (K20 := f_M_loses_h20 K10 n) ih  h
def f_M_loses_b10 (K10 : me_M → Int32 → Int32 → Option (me_M × Unit)) (μ : me_M) (v1 : Int32) (v2 : Int32) : Option (me_M × Unit) :=
  me_bd (f_M_nodes μ) (fun r1 =>
  if r1 ≤ v2 then
  (some (μ, ()))
  else
  (f_M_loses_h20 K10 me_FU μ v1 v2 (0 : Int32)))
set_option maxHeartbeats 4000000 in
set_option maxRecDepth 100000 in
theorem z_M_loses_b10 {X : me_X} {B : me_B} {sz : Nat} (C : me_C X B RX12 cX12_loses 6 none) {μ : me_M} {v1 : Int32} {v2 : Int32}  {K10 : me_M → Int32 → Int32 → Option (me_M × Unit)} {r : me_M × Unit} (N : me_En X B sz (B, r.1, .ok (none)) 2 65 0 0) (hNx : me_Nx X) (hB : me_St B) (hK10 : ∀ (μ : me_M) (v1 : Int32) (v2 : Int32), K10 μ v1 v2 = some r → me_Z X B 0 0 μ 10 [(0, me_r 36 0), (1, me_i v1), (2, me_i v2)] [])  (hf : f_M_loses_b10 K10 μ v1 v2 = some r) : me_Z X B 0 0 μ 10 [(0, me_r 36 0), (1, me_i v1), (2, me_i v2)] [] := by
  unfold f_M_loses_b10 at hf
  refine me_iload_n C 2 dX12_loses_10 rfl rfl ?_
  refine me_aload_n C 0 (Or.inr (Or.inl ⟨_, rfl⟩)) dX12_loses_11 rfl rfl ?_
  obtain ⟨r1, h_r1, hf⟩ := me_bs hf
  refine me_callV C N  (As := []) (st := [me_i v2]) 0 0 (c_M_nodes hB h_r1) mv_M_nodes ml_M_144 rfl rfl dX12_loses_12 rfl rfl ⟨by decide, by decide⟩ ⟨by decide, by decide, by decide, by decide⟩ (Nat.le_of_ble_eq_true rfl) ?_
  refine me_icmp_ge C (tgt := 150) dX12_loses_15 (by decide) (fun c2 => ?_) (fun c2 => ?_)
  · replace hf := me_ip c2 hf
    exact me_vret C N dX12_loses_150 (by cases hf; rfl) (by decide) (by decide)
  · replace hf := me_in c2 hf
    refine me_iconst C (v := 0) dX12_loses_18 (by decide) ?_
    refine me_istore_n C 3 dX12_loses_19 rfl (by decide) (L' := [(3, me_i (0 : Int32)), (0, me_r 36 0), (1, me_i v1), (2, me_i v2)]) rfl ?_
    refine me_dropI [(0, me_r 36 0), (1, me_i v1), (2, me_i v2), (3, me_i (0 : Int32))] [1, 2, 3, 0] rfl ?_
    exact z_M_loses_h20 C N hNx hB hK10 me_FU μ v1 v2 (0 : Int32) hf
def f_M_loses_h10  : Nat → me_M → Int32 → Int32 → Option (me_M × Unit)
  | 0, _, _, _ => none
  | n + 1, μ, v1, v2 => f_M_loses_b10 (f_M_loses_h10 n) μ v1 v2
set_option maxHeartbeats 4000000 in
set_option maxRecDepth 100000 in
theorem z_M_loses_h10 {X : me_X} {B : me_B} {sz : Nat} (C : me_C X B RX12 cX12_loses 6 none)  {r : me_M × Unit} (N : me_En X B sz (B, r.1, .ok (none)) 2 65 0 0) (hNx : me_Nx X) (hB : me_St B)  : ∀ (n : Nat) (μ : me_M) (v1 : Int32) (v2 : Int32), f_M_loses_h10 n μ v1 v2 = some r → me_Z X B 0 0 μ 10 [(0, me_r 36 0), (1, me_i v1), (2, me_i v2)] [] := by
  intro n
  induction n with
  | zero => intro μ v1 v2  h; exact absurd (show (none : Option (me_M × Unit)) = some r from h) (fun q => by cases q)
  | succ n ih => intro μ v1 v2  h; exact z_M_loses_b10 C N hNx hB  (K10 := f_M_loses_h10 n) ih  h
def f_M_loses (μ : me_M) (v1 : Int32) : Option (me_M × Unit) :=
  me_gd (me_inb v1 200) (
  me_lt (me_up μ 38 0 (me_ix v1) (vp_nar .char (108 : Int32))) (fun μ2 =>
  f_M_loses_h10 me_FU μ2 v1 (0 : Int32)))
set_option maxHeartbeats 4000000 in
set_option maxRecDepth 100000 in
theorem z_M_loses {X : me_X} {B : me_B} {sz : Nat} (C : me_C X B RX12 cX12_loses 6 none) {μ : me_M} {v1 : Int32}   {r : me_M × Unit} (N : me_En X B sz (B, r.1, .ok (none)) 2 65 0 0) (hNx : me_Nx X) (hB : me_St B)   (hf : f_M_loses μ v1 = some r) : me_Z X B 0 0 μ 0 [(0, me_r 36 0), (1, me_i v1)] [] := by
  unfold f_M_loses at hf
  refine me_aload_n C 0 (Or.inr (Or.inl ⟨_, rfl⟩)) dX12_loses_0 rfl rfl ?_
  refine me_getr C hB 7 (k' := 38) (i' := 0) fg_M_27 dX12_loses_1 rfl rfl ?_
  refine me_iload_n C 1 dX12_loses_4 rfl rfl ?_
  refine me_bipush C (v := 108) dX12_loses_5 (by decide) ?_
  obtain ⟨g1, hf⟩ := me_gs hf
  obtain ⟨μ2, e_μ2, hf⟩ := me_lts hf
  refine me_cast C rfl (fun _ => rfl) g1 dX12_loses_7 e_μ2 ?_
  refine me_iconst C (v := 0) dX12_loses_8 (by decide) ?_
  refine me_istore_n C 2 dX12_loses_9 rfl (by decide) (L' := [(2, me_i (0 : Int32)), (0, me_r 36 0), (1, me_i v1)]) rfl ?_
  refine me_dropI [(0, me_r 36 0), (1, me_i v1), (2, me_i (0 : Int32))] [1, 2, 0] rfl ?_
  exact z_M_loses_h10 C N hNx hB me_FU μ2 v1 (0 : Int32) hf
theorem c_M_loses {B : me_B} (hB : me_St B) {μ : me_M} {v1 : Int32} {μ' : me_M} {r : Unit}  (hf : f_M_loses μ v1 = some (μ', r)) : ∀ l E z, l.stackTraces = false → me_Met l yX12_loses cX12_loses 6 none 2 65 0 0 E B μ z [me_r 36 0, me_i v1] (B, μ', .ok (none)) :=
  fun _ _ _ hl => me_ofZ hl (by decide +kernel) (Nat.le_of_ble_eq_true rfl) (fun _ C N hNx => z_M_loses C N hNx hB  hf)

def f_M_delivers_b85 (μ : me_M) (v1 : Int32) (v2 : Int32) (v3 : Int32) (s0 : Int32) (s1 : Int32) (s2 : Nat) : Option (me_M × Unit) :=
  me_gd (me_inb s1 8) (
  me_lt (me_up μ 76 s2 (me_ix s1) s0) (fun μ2 =>
  me_gd (me_inb v1 200) (
  me_b2 (f_M_made μ2 (97 : Int32) v2 (μ2 39 0 (me_ix v1)) v3 (1 : Int32)) (fun μ5 r4 =>
  me_gd (me_inb v1 200) (
  me_lt (me_up μ5 49 0 (me_ix v1) r4) (fun μ7 =>
  some (μ7, ())))))))
set_option maxHeartbeats 4000000 in
set_option maxRecDepth 100000 in
theorem z_M_delivers_b85 {X : me_X} {B : me_B} {sz : Nat} (C : me_C X B RX12 cX12_delivers 4 none) {μ : me_M} {v1 : Int32} {v2 : Int32} {v3 : Int32} {s0 : Int32} {s1 : Int32} {s2 : Nat}   {r : me_M × Unit} (N : me_En X B sz (B, r.1, .ok (none)) 1 25 0 0) (hNx : me_Nx X) (hB : me_St B)   (hf : f_M_delivers_b85 μ v1 v2 v3 s0 s1 s2 = some r) : me_Z X B 0 0 μ 85 [(0, me_r 36 0), (1, me_i v1), (2, me_i v2), (3, me_i v3)] [me_i s0, me_i s1, me_r 76 s2] := by
  unfold f_M_delivers_b85 at hf
  obtain ⟨g1, hf⟩ := me_gs hf
  obtain ⟨μ2, e_μ2, hf⟩ := me_lts hf
  refine me_iast C rfl (fun _ => rfl) g1 dX12_delivers_85 e_μ2 ?_
  refine me_aload_n C 0 (Or.inr (Or.inl ⟨_, rfl⟩)) dX12_delivers_86 rfl rfl ?_
  refine me_getr C hB 18 (k' := 49) (i' := 0) fg_M_62 dX12_delivers_87 rfl rfl ?_
  refine me_iload_n C 1 dX12_delivers_90 rfl rfl ?_
  refine me_aload_n C 0 (Or.inr (Or.inl ⟨_, rfl⟩)) dX12_delivers_91 rfl rfl ?_
  refine me_bipush C (v := 97) dX12_delivers_92 (by decide) ?_
  refine me_iload_n C 2 dX12_delivers_94 rfl rfl ?_
  refine me_aload_n C 0 (Or.inr (Or.inl ⟨_, rfl⟩)) dX12_delivers_95 rfl rfl ?_
  refine me_getr C hB 8 (k' := 39) (i' := 0) fg_M_30 dX12_delivers_96 rfl rfl ?_
  refine me_iload_n C 1 dX12_delivers_99 rfl rfl ?_
  obtain ⟨g3, hf⟩ := me_gs hf
  refine me_iald C rfl (fun _ => rfl) g3 dX12_delivers_100 ?_
  refine me_iload_n C 3 dX12_delivers_101 rfl rfl ?_
  refine me_iconst C (v := 1) dX12_delivers_102 (by decide) ?_
  obtain ⟨μ5, r4, h_r4, hf⟩ := me_bs2 hf
  refine me_callV C N  (As := [me_i (97 : Int32), me_i v2, me_i (μ2 39 0 (me_ix v1)), me_i v3, me_i (1 : Int32)]) (st := [me_i v1, me_r 49 0]) 0 0 (c_M_made hB h_r4) mv_M_made ml_M_172 rfl rfl dX12_delivers_103 rfl rfl ⟨by decide, by decide⟩ ⟨by decide, by decide, by decide, by decide⟩ (Nat.le_of_ble_eq_true rfl) ?_
  obtain ⟨g6, hf⟩ := me_gs hf
  obtain ⟨μ7, e_μ7, hf⟩ := me_lts hf
  refine me_iast C rfl (fun _ => rfl) g6 dX12_delivers_106 e_μ7 ?_
  exact me_vret C N dX12_delivers_107 (by cases hf; rfl) (by decide) (by decide)
def f_M_delivers (μ : me_M) (v1 : Int32) : Option (me_M × Unit) :=
  me_gd (me_inb v1 200) (
  me_lt (me_up μ 38 0 (me_ix v1) (vp_nar .char (100 : Int32))) (fun μ2 =>
  me_gd (me_inb v1 200) (
  me_lt (me_up μ2 45 0 (me_ix v1) ((μ2 36 0 4) + (1 : Int32))) (fun μ4 =>
  me_gd (me_inb v1 200) (
  if (μ4 37 0 (me_ix v1)) = (113 : Int32) then
  (me_gd (me_inb v1 200) (
  me_lt ((μ4 40 0 (me_ix v1))) (fun x8 =>
  me_gd (me_inb x8 16) (
  me_gd (me_inb v1 200) (
  me_gd (me_inb (μ4 46 0 (me_ix v1)) 8) (
  me_lt ((μ4 76 (me_ix x8) (me_ix (μ4 46 0 (me_ix v1))))) (fun x12 =>
  me_gd (me_inb x8 16) (
  me_gd (me_inb v1 200) (
  me_gd (me_inb v1 200) (
  if (μ4 47 0 (me_ix v1)) = 0 then
  (f_M_delivers_b85 μ4 v1 x8 x12 x12 (μ4 46 0 (me_ix v1)) (me_ix x8))
  else
  (me_gd (me_inb v1 200) (
  f_M_delivers_b85 μ4 v1 x8 x12 (x12 + (μ4 48 0 (me_ix v1))) (μ4 46 0 (me_ix v1)) (me_ix x8)))))))))))))
  else
  (some (μ4, ())))))))
set_option maxHeartbeats 4000000 in
set_option maxRecDepth 100000 in
theorem z_M_delivers {X : me_X} {B : me_B} {sz : Nat} (C : me_C X B RX12 cX12_delivers 4 none) {μ : me_M} {v1 : Int32}   {r : me_M × Unit} (N : me_En X B sz (B, r.1, .ok (none)) 1 25 0 0) (hNx : me_Nx X) (hB : me_St B)   (hf : f_M_delivers μ v1 = some r) : me_Z X B 0 0 μ 0 [(0, me_r 36 0), (1, me_i v1)] [] := by
  unfold f_M_delivers at hf
  refine me_aload_n C 0 (Or.inr (Or.inl ⟨_, rfl⟩)) dX12_delivers_0 rfl rfl ?_
  refine me_getr C hB 7 (k' := 38) (i' := 0) fg_M_27 dX12_delivers_1 rfl rfl ?_
  refine me_iload_n C 1 dX12_delivers_4 rfl rfl ?_
  refine me_bipush C (v := 100) dX12_delivers_5 (by decide) ?_
  obtain ⟨g1, hf⟩ := me_gs hf
  obtain ⟨μ2, e_μ2, hf⟩ := me_lts hf
  refine me_cast C rfl (fun _ => rfl) g1 dX12_delivers_7 e_μ2 ?_
  refine me_aload_n C 0 (Or.inr (Or.inl ⟨_, rfl⟩)) dX12_delivers_8 rfl rfl ?_
  refine me_getr C hB 14 (k' := 45) (i' := 0) fg_M_49 dX12_delivers_9 rfl rfl ?_
  refine me_iload_n C 1 dX12_delivers_12 rfl rfl ?_
  refine me_aload_n C 0 (Or.inr (Or.inl ⟨_, rfl⟩)) dX12_delivers_13 rfl rfl ?_
  refine me_geti C 4 fg_M_162 dX12_delivers_14 rfl ?_
  refine me_iconst C (v := 1) dX12_delivers_17 (by decide) ?_
  refine me_iadd C dX12_delivers_18 ?_
  obtain ⟨g3, hf⟩ := me_gs hf
  obtain ⟨μ4, e_μ4, hf⟩ := me_lts hf
  refine me_iast C rfl (fun _ => rfl) g3 dX12_delivers_19 e_μ4 ?_
  refine me_aload_n C 0 (Or.inr (Or.inl ⟨_, rfl⟩)) dX12_delivers_20 rfl rfl ?_
  refine me_getr C hB 6 (k' := 37) (i' := 0) fg_M_23 dX12_delivers_21 rfl rfl ?_
  refine me_iload_n C 1 dX12_delivers_24 rfl rfl ?_
  obtain ⟨g5, hf⟩ := me_gs hf
  refine me_cald C rfl (fun _ => rfl) g5 dX12_delivers_25 ?_
  refine me_bipush C (v := 113) dX12_delivers_26 (by decide) ?_
  refine me_icmp_ne C (tgt := 107) dX12_delivers_28 (by decide) (fun c6 => ?_) (fun c6 => ?_)
  · replace hf := me_in c6 hf
    exact me_vret C N dX12_delivers_107 (by cases hf; rfl) (by decide) (by decide)
  · replace hf := me_ip c6 hf
    refine me_aload_n C 0 (Or.inr (Or.inl ⟨_, rfl⟩)) dX12_delivers_31 rfl rfl ?_
    refine me_getr C hB 9 (k' := 40) (i' := 0) fg_M_34 dX12_delivers_32 rfl rfl ?_
    refine me_iload_n C 1 dX12_delivers_35 rfl rfl ?_
    obtain ⟨g7, hf⟩ := me_gs hf
    refine me_iald C rfl (fun _ => rfl) g7 dX12_delivers_36 ?_
    obtain ⟨x8, e_x8, hf⟩ := me_lts hf
    refine me_nm e_x8 ?_
    refine me_istore_n C 2 dX12_delivers_37 rfl (by decide) (L' := [(2, me_i x8), (0, me_r 36 0), (1, me_i v1)]) rfl ?_
    refine me_aload_n C 0 (Or.inr (Or.inl ⟨_, rfl⟩)) dX12_delivers_38 rfl rfl ?_
    refine me_getr C hB 30 (k' := 75) (i' := 0) fg_M_103 dX12_delivers_39 rfl rfl ?_
    refine me_iload_n C 2 dX12_delivers_42 rfl rfl ?_
    obtain ⟨g9, hf⟩ := me_gs hf
    refine me_aald C hB (k' := 76) (i' := (me_ix x8)) rfl (fun _ => rfl) rfl g9 dX12_delivers_43 rfl ?_
    refine me_aload_n C 0 (Or.inr (Or.inl ⟨_, rfl⟩)) dX12_delivers_44 rfl rfl ?_
    refine me_getr C hB 15 (k' := 46) (i' := 0) fg_M_52 dX12_delivers_45 rfl rfl ?_
    refine me_iload_n C 1 dX12_delivers_48 rfl rfl ?_
    obtain ⟨g10, hf⟩ := me_gs hf
    refine me_iald C rfl (fun _ => rfl) g10 dX12_delivers_49 ?_
    obtain ⟨g11, hf⟩ := me_gs hf
    refine me_iald C rfl (fun _ => rfl) g11 dX12_delivers_50 ?_
    obtain ⟨x12, e_x12, hf⟩ := me_lts hf
    refine me_nm e_x12 ?_
    refine me_istore_n C 3 dX12_delivers_51 rfl (by decide) (L' := [(3, me_i x12), (2, me_i x8), (0, me_r 36 0), (1, me_i v1)]) rfl ?_
    refine me_aload_n C 0 (Or.inr (Or.inl ⟨_, rfl⟩)) dX12_delivers_52 rfl rfl ?_
    refine me_getr C hB 30 (k' := 75) (i' := 0) fg_M_103 dX12_delivers_53 rfl rfl ?_
    refine me_iload_n C 2 dX12_delivers_56 rfl rfl ?_
    obtain ⟨g13, hf⟩ := me_gs hf
    refine me_aald C hB (k' := 76) (i' := (me_ix x8)) rfl (fun _ => rfl) rfl g13 dX12_delivers_57 rfl ?_
    refine me_aload_n C 0 (Or.inr (Or.inl ⟨_, rfl⟩)) dX12_delivers_58 rfl rfl ?_
    refine me_getr C hB 15 (k' := 46) (i' := 0) fg_M_52 dX12_delivers_59 rfl rfl ?_
    refine me_iload_n C 1 dX12_delivers_62 rfl rfl ?_
    obtain ⟨g14, hf⟩ := me_gs hf
    refine me_iald C rfl (fun _ => rfl) g14 dX12_delivers_63 ?_
    refine me_aload_n C 0 (Or.inr (Or.inl ⟨_, rfl⟩)) dX12_delivers_64 rfl rfl ?_
    refine me_getr C hB 16 (k' := 47) (i' := 0) fg_M_55 dX12_delivers_65 rfl rfl ?_
    refine me_iload_n C 1 dX12_delivers_68 rfl rfl ?_
    obtain ⟨g15, hf⟩ := me_gs hf
    refine me_zald C rfl (fun _ => rfl) g15 dX12_delivers_69 ?_
    refine me_if_eq C (tgt := 84) dX12_delivers_70 (by decide) (fun c16 => ?_) (fun c16 => ?_)
    · replace hf := me_ip c16 hf
      refine me_iload_n C 3 dX12_delivers_84 rfl rfl ?_
      refine me_dropI [(0, me_r 36 0), (1, me_i v1), (2, me_i x8), (3, me_i x12)] [2, 3, 1, 0] rfl ?_
      exact z_M_delivers_b85 C N hNx hB hf
    · replace hf := me_in c16 hf
      refine me_iload_n C 3 dX12_delivers_73 rfl rfl ?_
      refine me_aload_n C 0 (Or.inr (Or.inl ⟨_, rfl⟩)) dX12_delivers_74 rfl rfl ?_
      refine me_getr C hB 17 (k' := 48) (i' := 0) fg_M_59 dX12_delivers_75 rfl rfl ?_
      refine me_iload_n C 1 dX12_delivers_78 rfl rfl ?_
      obtain ⟨g17, hf⟩ := me_gs hf
      refine me_iald C rfl (fun _ => rfl) g17 dX12_delivers_79 ?_
      refine me_iadd C dX12_delivers_80 ?_
      refine me_goto C (tgt := 85) dX12_delivers_81 (by decide) ?_
      refine me_dropI [(0, me_r 36 0), (1, me_i v1), (2, me_i x8), (3, me_i x12)] [2, 3, 1, 0] rfl ?_
      exact z_M_delivers_b85 C N hNx hB hf
theorem c_M_delivers {B : me_B} (hB : me_St B) {μ : me_M} {v1 : Int32} {μ' : me_M} {r : Unit}  (hf : f_M_delivers μ v1 = some (μ', r)) : ∀ l E z, l.stackTraces = false → me_Met l yX12_delivers cX12_delivers 4 none 1 25 0 0 E B μ z [me_r 36 0, me_i v1] (B, μ', .ok (none)) :=
  fun _ _ _ hl => me_ofZ hl (by decide +kernel) (Nat.le_of_ble_eq_true rfl) (fun _ C N hNx => z_M_delivers C N hNx hB  hf)

def f_M_gives_b359 (μ : me_M) (v4 : Int32) (v6 : Int32) (v8 : Int32) : Option (me_M × Int32) :=
  if v8 = 0 then
  (some (μ, (1 : Int32)))
  else
  (if v4 = (4 : Int32) then
  (me_b2 (f_M_delivers μ v6) (fun μ4 r3 =>
  some (μ4, (1 : Int32))))
  else
  (some (μ, (1 : Int32))))
set_option maxHeartbeats 4000000 in
set_option maxRecDepth 100000 in
theorem z_M_gives_b359 {X : me_X} {B : me_B} {sz : Nat} (C : me_C X B RX12 cX12_gives 12 (some .boolean)) {μ : me_M} {v4 : Int32} {v6 : Int32} {v8 : Int32}   {r : me_M × Int32} (N : me_En X B sz (B, r.1, .ok (some (me_i r.2))) 3 90 0 0) (hNx : me_Nx X) (hB : me_St B)   (hf : f_M_gives_b359 μ v4 v6 v8 = some r) : me_Z X B 0 0 μ 359 [(0, me_r 36 0), (4, me_i v4), (6, me_i v6), (8, me_i v8)] [] := by
  unfold f_M_gives_b359 at hf
  refine me_iload C dX12_gives_359 rfl ?_
  refine me_if_eq C (tgt := 376) dX12_gives_361 (by decide) (fun c1 => ?_) (fun c1 => ?_)
  · replace hf := me_ip c1 hf
    refine me_iconst C (v := 1) dX12_gives_376 (by decide) ?_
    exact me_iret C N dX12_gives_377 (by decide +kernel) (by cases hf; rfl) (by decide) (by decide)
  · replace hf := me_in c1 hf
    refine me_iload C dX12_gives_364 rfl ?_
    refine me_iconst C (v := 4) dX12_gives_366 (by decide) ?_
    refine me_icmp_ne C (tgt := 376) dX12_gives_367 (by decide) (fun c2 => ?_) (fun c2 => ?_)
    · replace hf := me_in c2 hf
      refine me_iconst C (v := 1) dX12_gives_376 (by decide) ?_
      exact me_iret C N dX12_gives_377 (by decide +kernel) (by cases hf; rfl) (by decide) (by decide)
    · replace hf := me_ip c2 hf
      refine me_aload_n C 0 (Or.inr (Or.inl ⟨_, rfl⟩)) dX12_gives_370 rfl rfl ?_
      refine me_iload C dX12_gives_371 rfl ?_
      obtain ⟨μ4, r3, h_r3, hf⟩ := me_bs2 hf
      refine me_callV0 C N  (As := [me_i v6]) (st := []) 0 0 (c_M_delivers hB h_r3) mv_M_delivers ml_M_236 rfl rfl dX12_gives_373 rfl rfl ⟨by decide, by decide⟩ ⟨by decide, by decide, by decide, by decide⟩ (Nat.le_of_ble_eq_true rfl) ?_
      refine me_iconst C (v := 1) dX12_gives_376 (by decide) ?_
      exact me_iret C N dX12_gives_377 (by decide +kernel) (by cases hf; rfl) (by decide) (by decide)
def f_M_gives_b290 (μ : me_M) (v1 : Int32) (v2 : Int32) (v3 : Int32) (v4 : Int32) (v6 : Int32) (v8 : Int32) : Option (me_M × Int32) :=
  me_lt (me_up μ 36 0 5 (1 : Int32)) (fun μ1 =>
  me_b2 (f_M_drops μ1 v1 v2 v3 (0 : Int32)) (fun μ3 r2 =>
  me_gd (me_inb v1 16) (
  me_gd (me_inb v2 2) (
  me_gd (me_inb v3 5) (
  me_lt (me_up μ3 66 (2 * (me_ix v1) + (me_ix v2)) (me_ix v3) v4) (fun μ7 =>
  me_gd (me_inb v1 16) (
  me_gd (me_inb v2 2) (
  me_gd (me_inb v3 5) (
  me_lt (me_up μ7 69 (2 * (me_ix v1) + (me_ix v2)) (me_ix v3) ((μ7 36 0 4) + (1 : Int32))) (fun μ11 =>
  me_gd (me_inb v1 16) (
  me_gd (me_inb v2 2) (
  me_gd (me_inb v4 5) (
  me_lt (me_up μ11 72 (2 * (me_ix v1) + (me_ix v2)) (me_ix v4) v3) (fun μ15 =>
  if v8 = 0 then
  (f_M_gives_b359 μ15 v4 v6 v8)
  else
  (me_gd (me_inb v1 16) (
  me_gd (me_inb v2 2) (
  me_gd (me_inb v3 5) (
  me_lt (me_up μ15 63 (2 * (me_ix v1) + (me_ix v2)) (me_ix v3) (-1 : Int32)) (fun μ20 =>
  f_M_gives_b359 μ20 v4 v6 v8)))))))))))))))))))
set_option maxHeartbeats 4000000 in
set_option maxRecDepth 100000 in
theorem z_M_gives_b290 {X : me_X} {B : me_B} {sz : Nat} (C : me_C X B RX12 cX12_gives 12 (some .boolean)) {μ : me_M} {v1 : Int32} {v2 : Int32} {v3 : Int32} {v4 : Int32} {v6 : Int32} {v8 : Int32}   {r : me_M × Int32} (N : me_En X B sz (B, r.1, .ok (some (me_i r.2))) 3 90 0 0) (hNx : me_Nx X) (hB : me_St B)   (hf : f_M_gives_b290 μ v1 v2 v3 v4 v6 v8 = some r) : me_Z X B 0 0 μ 290 [(0, me_r 36 0), (1, me_i v1), (2, me_i v2), (3, me_i v3), (4, me_i v4), (6, me_i v6), (8, me_i v8)] [] := by
  unfold f_M_gives_b290 at hf
  refine me_aload_n C 0 (Or.inr (Or.inl ⟨_, rfl⟩)) dX12_gives_290 rfl rfl ?_
  refine me_iconst C (v := 1) dX12_gives_291 (by decide) ?_
  obtain ⟨μ1, e_μ1, hf⟩ := me_lts hf
  refine me_puti C 5 fw_M_211 dX12_gives_292 rfl (by decide +kernel) e_μ1 ?_
  refine me_aload_n C 0 (Or.inr (Or.inl ⟨_, rfl⟩)) dX12_gives_295 rfl rfl ?_
  refine me_iload_n C 1 dX12_gives_296 rfl rfl ?_
  refine me_iload_n C 2 dX12_gives_297 rfl rfl ?_
  refine me_iload_n C 3 dX12_gives_298 rfl rfl ?_
  refine me_iconst C (v := 0) dX12_gives_299 (by decide) ?_
  obtain ⟨μ3, r2, h_r2, hf⟩ := me_bs2 hf
  refine me_callV0 C N  (As := [me_i v1, me_i v2, me_i v3, me_i (0 : Int32)]) (st := []) 0 0 (c_M_drops hB h_r2) mv_M_drops ml_M_221 rfl rfl dX12_gives_300 rfl rfl ⟨by decide, by decide⟩ ⟨by decide, by decide, by decide, by decide⟩ (Nat.le_of_ble_eq_true rfl) ?_
  refine me_aload_n C 0 (Or.inr (Or.inl ⟨_, rfl⟩)) dX12_gives_303 rfl rfl ?_
  refine me_getr C hB 24 (k' := 64) (i' := 0) fg_M_81 dX12_gives_304 rfl rfl ?_
  refine me_iload_n C 1 dX12_gives_307 rfl rfl ?_
  obtain ⟨g4, hf⟩ := me_gs hf
  refine me_aald C hB (k' := 65) (i' := (me_ix v1)) rfl (fun _ => rfl) rfl g4 dX12_gives_308 rfl ?_
  refine me_iload_n C 2 dX12_gives_309 rfl rfl ?_
  obtain ⟨g5, hf⟩ := me_gs hf
  refine me_aald C hB (k' := 66) (i' := 2 * (me_ix v1) + (me_ix v2)) rfl (fun _ => rfl) rfl g5 dX12_gives_310 rfl ?_
  refine me_iload_n C 3 dX12_gives_311 rfl rfl ?_
  refine me_iload C dX12_gives_312 rfl ?_
  obtain ⟨g6, hf⟩ := me_gs hf
  obtain ⟨μ7, e_μ7, hf⟩ := me_lts hf
  refine me_iast C rfl (fun _ => rfl) g6 dX12_gives_314 e_μ7 ?_
  refine me_aload_n C 0 (Or.inr (Or.inl ⟨_, rfl⟩)) dX12_gives_315 rfl rfl ?_
  refine me_getr C hB 25 (k' := 67) (i' := 0) fg_M_84 dX12_gives_316 rfl rfl ?_
  refine me_iload_n C 1 dX12_gives_319 rfl rfl ?_
  obtain ⟨g8, hf⟩ := me_gs hf
  refine me_aald C hB (k' := 68) (i' := (me_ix v1)) rfl (fun _ => rfl) rfl g8 dX12_gives_320 rfl ?_
  refine me_iload_n C 2 dX12_gives_321 rfl rfl ?_
  obtain ⟨g9, hf⟩ := me_gs hf
  refine me_aald C hB (k' := 69) (i' := 2 * (me_ix v1) + (me_ix v2)) rfl (fun _ => rfl) rfl g9 dX12_gives_322 rfl ?_
  refine me_iload_n C 3 dX12_gives_323 rfl rfl ?_
  refine me_aload_n C 0 (Or.inr (Or.inl ⟨_, rfl⟩)) dX12_gives_324 rfl rfl ?_
  refine me_geti C 4 fg_M_162 dX12_gives_325 rfl ?_
  refine me_iconst C (v := 1) dX12_gives_328 (by decide) ?_
  refine me_iadd C dX12_gives_329 ?_
  obtain ⟨g10, hf⟩ := me_gs hf
  obtain ⟨μ11, e_μ11, hf⟩ := me_lts hf
  refine me_iast C rfl (fun _ => rfl) g10 dX12_gives_330 e_μ11 ?_
  refine me_aload_n C 0 (Or.inr (Or.inl ⟨_, rfl⟩)) dX12_gives_331 rfl rfl ?_
  refine me_getr C hB 26 (k' := 70) (i' := 0) fg_M_87 dX12_gives_332 rfl rfl ?_
  refine me_iload_n C 1 dX12_gives_335 rfl rfl ?_
  obtain ⟨g12, hf⟩ := me_gs hf
  refine me_aald C hB (k' := 71) (i' := (me_ix v1)) rfl (fun _ => rfl) rfl g12 dX12_gives_336 rfl ?_
  refine me_iload_n C 2 dX12_gives_337 rfl rfl ?_
  obtain ⟨g13, hf⟩ := me_gs hf
  refine me_aald C hB (k' := 72) (i' := 2 * (me_ix v1) + (me_ix v2)) rfl (fun _ => rfl) rfl g13 dX12_gives_338 rfl ?_
  refine me_iload C dX12_gives_339 rfl ?_
  refine me_iload_n C 3 dX12_gives_341 rfl rfl ?_
  obtain ⟨g14, hf⟩ := me_gs hf
  obtain ⟨μ15, e_μ15, hf⟩ := me_lts hf
  refine me_iast C rfl (fun _ => rfl) g14 dX12_gives_342 e_μ15 ?_
  refine me_iload C dX12_gives_343 rfl ?_
  refine me_if_eq C (tgt := 359) dX12_gives_345 (by decide) (fun c16 => ?_) (fun c16 => ?_)
  · replace hf := me_ip c16 hf
    refine me_dropI [(0, me_r 36 0), (4, me_i v4), (6, me_i v6), (8, me_i v8)] [0, 4, 5, 6] rfl ?_
    exact z_M_gives_b359 C N hNx hB hf
  · replace hf := me_in c16 hf
    refine me_aload_n C 0 (Or.inr (Or.inl ⟨_, rfl⟩)) dX12_gives_348 rfl rfl ?_
    refine me_getr C hB 23 (k' := 61) (i' := 0) fg_M_78 dX12_gives_349 rfl rfl ?_
    refine me_iload_n C 1 dX12_gives_352 rfl rfl ?_
    obtain ⟨g17, hf⟩ := me_gs hf
    refine me_aald C hB (k' := 62) (i' := (me_ix v1)) rfl (fun _ => rfl) rfl g17 dX12_gives_353 rfl ?_
    refine me_iload_n C 2 dX12_gives_354 rfl rfl ?_
    obtain ⟨g18, hf⟩ := me_gs hf
    refine me_aald C hB (k' := 63) (i' := 2 * (me_ix v1) + (me_ix v2)) rfl (fun _ => rfl) rfl g18 dX12_gives_355 rfl ?_
    refine me_iload_n C 3 dX12_gives_356 rfl rfl ?_
    refine me_iconst C (v := -1) dX12_gives_357 (by decide) ?_
    obtain ⟨g19, hf⟩ := me_gs hf
    obtain ⟨μ20, e_μ20, hf⟩ := me_lts hf
    refine me_iast C rfl (fun _ => rfl) g19 dX12_gives_358 e_μ20 ?_
    refine me_dropI [(0, me_r 36 0), (4, me_i v4), (6, me_i v6), (8, me_i v8)] [0, 4, 5, 6] rfl ?_
    exact z_M_gives_b359 C N hNx hB hf
def f_M_gives_b265 (μ : me_M) (v1 : Int32) (v2 : Int32) (v3 : Int32) (v4 : Int32) (v5 : Int32) (v6 : Int32) (v8 : Int32) (v10 : Int32) (v11 : Int32) : Option (me_M × Int32) :=
  me_b2 (f_M_adds μ v10 v2 v11 v5) (fun μ2 r1 =>
  me_gd (me_inb v10 16) (
  me_gd (me_inb v2 2) (
  me_gd (me_inb v11 5) (
  me_lt (me_up μ2 63 (2 * (me_ix v10) + (me_ix v2)) (me_ix v11) v6) (fun μ6 =>
  f_M_gives_b290 μ6 v1 v2 v3 v4 v6 v8)))))
set_option maxHeartbeats 4000000 in
set_option maxRecDepth 100000 in
theorem z_M_gives_b265 {X : me_X} {B : me_B} {sz : Nat} (C : me_C X B RX12 cX12_gives 12 (some .boolean)) {μ : me_M} {v1 : Int32} {v2 : Int32} {v3 : Int32} {v4 : Int32} {v5 : Int32} {v6 : Int32} {v8 : Int32} {v10 : Int32} {v11 : Int32}   {r : me_M × Int32} (N : me_En X B sz (B, r.1, .ok (some (me_i r.2))) 3 90 0 0) (hNx : me_Nx X) (hB : me_St B)   (hf : f_M_gives_b265 μ v1 v2 v3 v4 v5 v6 v8 v10 v11 = some r) : me_Z X B 0 0 μ 265 [(0, me_r 36 0), (1, me_i v1), (2, me_i v2), (3, me_i v3), (4, me_i v4), (5, me_i v5), (6, me_i v6), (8, me_i v8), (10, me_i v10), (11, me_i v11)] [] := by
  unfold f_M_gives_b265 at hf
  refine me_aload_n C 0 (Or.inr (Or.inl ⟨_, rfl⟩)) dX12_gives_265 rfl rfl ?_
  refine me_iload C dX12_gives_266 rfl ?_
  refine me_iload_n C 2 dX12_gives_268 rfl rfl ?_
  refine me_iload C dX12_gives_269 rfl ?_
  refine me_iload C dX12_gives_271 rfl ?_
  obtain ⟨μ2, r1, h_r1, hf⟩ := me_bs2 hf
  refine me_callV0 C N  (As := [me_i v10, me_i v2, me_i v11, me_i v5]) (st := []) 0 0 (c_M_adds hB h_r1) mv_M_adds ml_M_233 rfl rfl dX12_gives_273 rfl rfl ⟨by decide, by decide⟩ ⟨by decide, by decide, by decide, by decide⟩ (Nat.le_of_ble_eq_true rfl) ?_
  refine me_aload_n C 0 (Or.inr (Or.inl ⟨_, rfl⟩)) dX12_gives_276 rfl rfl ?_
  refine me_getr C hB 23 (k' := 61) (i' := 0) fg_M_78 dX12_gives_277 rfl rfl ?_
  refine me_iload C dX12_gives_280 rfl ?_
  obtain ⟨g3, hf⟩ := me_gs hf
  refine me_aald C hB (k' := 62) (i' := (me_ix v10)) rfl (fun _ => rfl) rfl g3 dX12_gives_282 rfl ?_
  refine me_iload_n C 2 dX12_gives_283 rfl rfl ?_
  obtain ⟨g4, hf⟩ := me_gs hf
  refine me_aald C hB (k' := 63) (i' := 2 * (me_ix v10) + (me_ix v2)) rfl (fun _ => rfl) rfl g4 dX12_gives_284 rfl ?_
  refine me_iload C dX12_gives_285 rfl ?_
  refine me_iload C dX12_gives_287 rfl ?_
  obtain ⟨g5, hf⟩ := me_gs hf
  obtain ⟨μ6, e_μ6, hf⟩ := me_lts hf
  refine me_iast C rfl (fun _ => rfl) g5 dX12_gives_289 e_μ6 ?_
  refine me_dropI [(0, me_r 36 0), (1, me_i v1), (2, me_i v2), (3, me_i v3), (4, me_i v4), (6, me_i v6), (8, me_i v8)] [0, 1, 2, 3, 4, 6, 7] rfl ?_
  exact z_M_gives_b290 C N hNx hB hf
def f_M_gives_b203 (μ : me_M) (v1 : Int32) (v2 : Int32) (v3 : Int32) (v4 : Int32) (v5 : Int32) (v6 : Int32) (v7 : Int32) (v8 : Int32) (v10 : Int32) (v11 : Int32) : Option (me_M × Int32) :=
  me_gd (me_inb v10 16) (
  if (μ 85 0 (me_ix v10)) = 0 then
  (me_gd (me_inb v10 16) (
  me_gd (me_inb v2 2) (
  me_gd (me_inb v11 5) (
  if (μ 36 0 2) ≤ (μ 60 (2 * (me_ix v10) + (me_ix v2)) (me_ix v11)) then
  (some (μ, (0 : Int32)))
  else
  (if v7 = 0 then
  (f_M_gives_b265 μ v1 v2 v3 v4 v5 v6 v8 v10 v11)
  else
  (me_gd (me_inb v10 16) (
  me_gd (me_inb v2 2) (
  me_gd (me_inb v11 5) (
  if (μ 63 (2 * (me_ix v10) + (me_ix v2)) (me_ix v11)) = (-1 : Int32) then
  (f_M_gives_b265 μ v1 v2 v3 v4 v5 v6 v8 v10 v11)
  else
  (some (μ, (0 : Int32))))))))))))
  else
  (me_gd (me_inb v10 16) (
  me_lt (me_up μ 86 0 (me_ix v10) (vp_nar .boolean (1 : Int32))) (fun μ13 =>
  some (μ13, (0 : Int32))))))
set_option maxHeartbeats 4000000 in
set_option maxRecDepth 100000 in
theorem z_M_gives_b203 {X : me_X} {B : me_B} {sz : Nat} (C : me_C X B RX12 cX12_gives 12 (some .boolean)) {μ : me_M} {v1 : Int32} {v2 : Int32} {v3 : Int32} {v4 : Int32} {v5 : Int32} {v6 : Int32} {v7 : Int32} {v8 : Int32} {v10 : Int32} {v11 : Int32}   {r : me_M × Int32} (N : me_En X B sz (B, r.1, .ok (some (me_i r.2))) 3 90 0 0) (hNx : me_Nx X) (hB : me_St B)   (hf : f_M_gives_b203 μ v1 v2 v3 v4 v5 v6 v7 v8 v10 v11 = some r) : me_Z X B 0 0 μ 203 [(0, me_r 36 0), (1, me_i v1), (2, me_i v2), (3, me_i v3), (4, me_i v4), (5, me_i v5), (6, me_i v6), (7, me_i v7), (8, me_i v8), (10, me_i v10), (11, me_i v11)] [] := by
  unfold f_M_gives_b203 at hf
  refine me_aload_n C 0 (Or.inr (Or.inl ⟨_, rfl⟩)) dX12_gives_203 rfl rfl ?_
  refine me_getr C hB 28 (k' := 85) (i' := 0) fg_M_95 dX12_gives_204 rfl rfl ?_
  refine me_iload C dX12_gives_207 rfl ?_
  obtain ⟨g1, hf⟩ := me_gs hf
  refine me_zald C rfl (fun _ => rfl) g1 dX12_gives_209 ?_
  refine me_if_eq C (tgt := 223) dX12_gives_210 (by decide) (fun c2 => ?_) (fun c2 => ?_)
  · replace hf := me_ip c2 hf
    refine me_aload_n C 0 (Or.inr (Or.inl ⟨_, rfl⟩)) dX12_gives_223 rfl rfl ?_
    refine me_getr C hB 22 (k' := 58) (i' := 0) fg_M_75 dX12_gives_224 rfl rfl ?_
    refine me_iload C dX12_gives_227 rfl ?_
    obtain ⟨g3, hf⟩ := me_gs hf
    refine me_aald C hB (k' := 59) (i' := (me_ix v10)) rfl (fun _ => rfl) rfl g3 dX12_gives_229 rfl ?_
    refine me_iload_n C 2 dX12_gives_230 rfl rfl ?_
    obtain ⟨g4, hf⟩ := me_gs hf
    refine me_aald C hB (k' := 60) (i' := 2 * (me_ix v10) + (me_ix v2)) rfl (fun _ => rfl) rfl g4 dX12_gives_231 rfl ?_
    refine me_iload C dX12_gives_232 rfl ?_
    obtain ⟨g5, hf⟩ := me_gs hf
    refine me_iald C rfl (fun _ => rfl) g5 dX12_gives_234 ?_
    refine me_aload_n C 0 (Or.inr (Or.inl ⟨_, rfl⟩)) dX12_gives_235 rfl rfl ?_
    refine me_geti C 2 fg_M_16 dX12_gives_236 rfl ?_
    refine me_icmp_ge C (tgt := 263) dX12_gives_239 (by decide) (fun c6 => ?_) (fun c6 => ?_)
    · replace hf := me_ip c6 hf
      refine me_iconst C (v := 0) dX12_gives_263 (by decide) ?_
      exact me_iret C N dX12_gives_264 (by decide +kernel) (by cases hf; rfl) (by decide) (by decide)
    · replace hf := me_in c6 hf
      refine me_iload C dX12_gives_242 rfl ?_
      refine me_if_eq C (tgt := 265) dX12_gives_244 (by decide) (fun c7 => ?_) (fun c7 => ?_)
      · replace hf := me_ip c7 hf
        refine me_dropI [(0, me_r 36 0), (1, me_i v1), (2, me_i v2), (3, me_i v3), (4, me_i v4), (5, me_i v5), (6, me_i v6), (8, me_i v8), (10, me_i v10), (11, me_i v11)] [0, 1, 2, 3, 4, 5, 6, 8, 9, 10] rfl ?_
        exact z_M_gives_b265 C N hNx hB hf
      · replace hf := me_in c7 hf
        refine me_aload_n C 0 (Or.inr (Or.inl ⟨_, rfl⟩)) dX12_gives_247 rfl rfl ?_
        refine me_getr C hB 23 (k' := 61) (i' := 0) fg_M_78 dX12_gives_248 rfl rfl ?_
        refine me_iload C dX12_gives_251 rfl ?_
        obtain ⟨g8, hf⟩ := me_gs hf
        refine me_aald C hB (k' := 62) (i' := (me_ix v10)) rfl (fun _ => rfl) rfl g8 dX12_gives_253 rfl ?_
        refine me_iload_n C 2 dX12_gives_254 rfl rfl ?_
        obtain ⟨g9, hf⟩ := me_gs hf
        refine me_aald C hB (k' := 63) (i' := 2 * (me_ix v10) + (me_ix v2)) rfl (fun _ => rfl) rfl g9 dX12_gives_255 rfl ?_
        refine me_iload C dX12_gives_256 rfl ?_
        obtain ⟨g10, hf⟩ := me_gs hf
        refine me_iald C rfl (fun _ => rfl) g10 dX12_gives_258 ?_
        refine me_iconst C (v := -1) dX12_gives_259 (by decide) ?_
        refine me_icmp_eq C (tgt := 265) dX12_gives_260 (by decide) (fun c11 => ?_) (fun c11 => ?_)
        · replace hf := me_ip c11 hf
          refine me_dropI [(0, me_r 36 0), (1, me_i v1), (2, me_i v2), (3, me_i v3), (4, me_i v4), (5, me_i v5), (6, me_i v6), (8, me_i v8), (10, me_i v10), (11, me_i v11)] [0, 1, 2, 3, 4, 5, 6, 8, 9, 10] rfl ?_
          exact z_M_gives_b265 C N hNx hB hf
        · replace hf := me_in c11 hf
          refine me_iconst C (v := 0) dX12_gives_263 (by decide) ?_
          exact me_iret C N dX12_gives_264 (by decide +kernel) (by cases hf; rfl) (by decide) (by decide)
  · replace hf := me_in c2 hf
    refine me_aload_n C 0 (Or.inr (Or.inl ⟨_, rfl⟩)) dX12_gives_213 rfl rfl ?_
    refine me_getr C hB 29 (k' := 86) (i' := 0) fg_M_98 dX12_gives_214 rfl rfl ?_
    refine me_iload C dX12_gives_217 rfl ?_
    refine me_iconst C (v := 1) dX12_gives_219 (by decide) ?_
    obtain ⟨g12, hf⟩ := me_gs hf
    obtain ⟨μ13, e_μ13, hf⟩ := me_lts hf
    refine me_zast C rfl (fun _ => rfl) g12 dX12_gives_220 e_μ13 ?_
    refine me_iconst C (v := 0) dX12_gives_221 (by decide) ?_
    exact me_iret C N dX12_gives_222 (by decide +kernel) (by cases hf; rfl) (by decide) (by decide)
def f_M_gives_b144 (μ : me_M) (v1 : Int32) (v2 : Int32) (v3 : Int32) (v4 : Int32) (v5 : Int32) (v6 : Int32) (v7 : Int32) (v8 : Int32) (s0 : Int32) : Option (me_M × Int32) :=
  if s0 = v4 then
  (if v4 = (4 : Int32) then
  (f_M_gives_b290 μ v1 v2 v3 v4 v6 v8)
  else
  (me_bd (f_M_beside μ v1 v4) (fun r3 =>
  me_gd (me_inb v4 4) (
  me_lt ((me_opn (me_ix v4))) (fun x5 =>
  if v7 = 0 then
  (f_M_gives_b203 μ v1 v2 v3 v4 v5 v6 v7 v8 r3 x5)
  else
  (me_gd (me_inb v1 16) (
  me_gd (me_inb v4 5) (
  if (μ 74 (me_ix v1) (me_ix v4)) = 0 then
  (f_M_gives_b203 μ v1 v2 v3 v4 v5 v6 v7 v8 r3 x5)
  else
  (me_b2 (f_M_loses μ v6) (fun μ11 r10 =>
  some (μ11, (0 : Int32))))))))))))
  else
  (some (μ, (0 : Int32)))
set_option maxHeartbeats 4000000 in
set_option maxRecDepth 100000 in
theorem z_M_gives_b144 {X : me_X} {B : me_B} {sz : Nat} (C : me_C X B RX12 cX12_gives 12 (some .boolean)) {μ : me_M} {v1 : Int32} {v2 : Int32} {v3 : Int32} {v4 : Int32} {v5 : Int32} {v6 : Int32} {v7 : Int32} {v8 : Int32} {s0 : Int32}   {r : me_M × Int32} (N : me_En X B sz (B, r.1, .ok (some (me_i r.2))) 3 90 0 0) (hNx : me_Nx X) (hB : me_St B)   (hf : f_M_gives_b144 μ v1 v2 v3 v4 v5 v6 v7 v8 s0 = some r) : me_Z X B 0 0 μ 144 [(0, me_r 36 0), (1, me_i v1), (2, me_i v2), (3, me_i v3), (4, me_i v4), (5, me_i v5), (6, me_i v6), (7, me_i v7), (8, me_i v8)] [me_i s0] := by
  unfold f_M_gives_b144 at hf
  refine me_istore C dX12_gives_144 (by decide) (L' := [(9, me_i s0), (0, me_r 36 0), (1, me_i v1), (2, me_i v2), (3, me_i v3), (4, me_i v4), (5, me_i v5), (6, me_i v6), (7, me_i v7), (8, me_i v8)]) rfl ?_
  refine me_iload C dX12_gives_146 rfl ?_
  refine me_iload C dX12_gives_148 rfl ?_
  refine me_icmp_eq C (tgt := 155) dX12_gives_150 (by decide) (fun c1 => ?_) (fun c1 => ?_)
  · replace hf := me_ip c1 hf
    refine me_iload C dX12_gives_155 rfl ?_
    refine me_iconst C (v := 4) dX12_gives_157 (by decide) ?_
    refine me_icmp_eq C (tgt := 290) dX12_gives_158 (by decide) (fun c2 => ?_) (fun c2 => ?_)
    · replace hf := me_ip c2 hf
      refine me_dropI [(0, me_r 36 0), (1, me_i v1), (2, me_i v2), (3, me_i v3), (4, me_i v4), (6, me_i v6), (8, me_i v8)] [1, 2, 3, 4, 5, 7, 9] rfl ?_
      exact z_M_gives_b290 C N hNx hB hf
    · replace hf := me_in c2 hf
      refine me_aload_n C 0 (Or.inr (Or.inl ⟨_, rfl⟩)) dX12_gives_161 rfl rfl ?_
      refine me_iload_n C 1 dX12_gives_162 rfl rfl ?_
      refine me_iload C dX12_gives_163 rfl ?_
      obtain ⟨r3, h_r3, hf⟩ := me_bs hf
      refine me_callV C N  (As := [me_i v1, me_i v4]) (st := []) 0 0 (c_M_beside hB h_r3) mv_M_beside ml_M_199 rfl rfl dX12_gives_165 rfl rfl ⟨by decide, by decide⟩ ⟨by decide, by decide, by decide, by decide⟩ (Nat.le_of_ble_eq_true rfl) ?_
      refine me_istore C dX12_gives_168 (by decide) (L' := [(10, me_i r3), (9, me_i s0), (0, me_r 36 0), (1, me_i v1), (2, me_i v2), (3, me_i v3), (4, me_i v4), (5, me_i v5), (6, me_i v6), (7, me_i v7), (8, me_i v8)]) rfl ?_
      refine me_oppg C fl_M_202 dX12_gives_170 ?_
      refine me_iload C dX12_gives_173 rfl ?_
      obtain ⟨g4, hf⟩ := me_gs hf
      refine me_oppl C g4 dX12_gives_175 ?_
      obtain ⟨x5, e_x5, hf⟩ := me_lts hf
      refine me_nm e_x5 ?_
      refine me_istore C dX12_gives_176 (by decide) (L' := [(11, me_i x5), (10, me_i r3), (9, me_i s0), (0, me_r 36 0), (1, me_i v1), (2, me_i v2), (3, me_i v3), (4, me_i v4), (5, me_i v5), (6, me_i v6), (7, me_i v7), (8, me_i v8)]) rfl ?_
      refine me_iload C dX12_gives_178 rfl ?_
      refine me_if_eq C (tgt := 203) dX12_gives_180 (by decide) (fun c6 => ?_) (fun c6 => ?_)
      · replace hf := me_ip c6 hf
        refine me_dropI [(0, me_r 36 0), (1, me_i v1), (2, me_i v2), (3, me_i v3), (4, me_i v4), (5, me_i v5), (6, me_i v6), (7, me_i v7), (8, me_i v8), (10, me_i r3), (11, me_i x5)] [3, 4, 5, 6, 7, 8, 9, 10, 11, 1, 0] rfl ?_
        exact z_M_gives_b203 C N hNx hB hf
      · replace hf := me_in c6 hf
        refine me_aload_n C 0 (Or.inr (Or.inl ⟨_, rfl⟩)) dX12_gives_183 rfl rfl ?_
        refine me_getr C hB 27 (k' := 73) (i' := 0) fg_M_92 dX12_gives_184 rfl rfl ?_
        refine me_iload_n C 1 dX12_gives_187 rfl rfl ?_
        obtain ⟨g7, hf⟩ := me_gs hf
        refine me_aald C hB (k' := 74) (i' := (me_ix v1)) rfl (fun _ => rfl) rfl g7 dX12_gives_188 rfl ?_
        refine me_iload C dX12_gives_189 rfl ?_
        obtain ⟨g8, hf⟩ := me_gs hf
        refine me_zald C rfl (fun _ => rfl) g8 dX12_gives_191 ?_
        refine me_if_eq C (tgt := 203) dX12_gives_192 (by decide) (fun c9 => ?_) (fun c9 => ?_)
        · replace hf := me_ip c9 hf
          refine me_dropI [(0, me_r 36 0), (1, me_i v1), (2, me_i v2), (3, me_i v3), (4, me_i v4), (5, me_i v5), (6, me_i v6), (7, me_i v7), (8, me_i v8), (10, me_i r3), (11, me_i x5)] [3, 4, 5, 6, 7, 8, 9, 10, 11, 1, 0] rfl ?_
          exact z_M_gives_b203 C N hNx hB hf
        · replace hf := me_in c9 hf
          refine me_aload_n C 0 (Or.inr (Or.inl ⟨_, rfl⟩)) dX12_gives_195 rfl rfl ?_
          refine me_iload C dX12_gives_196 rfl ?_
          obtain ⟨μ11, r10, h_r10, hf⟩ := me_bs2 hf
          refine me_callV0 C N  (As := [me_i v6]) (st := []) 0 0 (c_M_loses hB h_r10) mv_M_loses ml_M_229 rfl rfl dX12_gives_198 rfl rfl ⟨by decide, by decide⟩ ⟨by decide, by decide, by decide, by decide⟩ (Nat.le_of_ble_eq_true rfl) ?_
          refine me_iconst C (v := 0) dX12_gives_201 (by decide) ?_
          exact me_iret C N dX12_gives_202 (by decide +kernel) (by cases hf; rfl) (by decide) (by decide)
  · replace hf := me_in c1 hf
    refine me_iconst C (v := 0) dX12_gives_153 (by decide) ?_
    exact me_iret C N dX12_gives_154 (by decide +kernel) (by cases hf; rfl) (by decide) (by decide)
def f_M_gives_b111 (μ : me_M) (v1 : Int32) (v2 : Int32) (v3 : Int32) (v4 : Int32) (v5 : Int32) (v6 : Int32) (v7 : Int32) (s0 : Int32) : Option (me_M × Int32) :=
  if v7 = 0 then
  (me_gd (me_inb v1 16) (
  me_gd (me_inb v2 2) (
  me_gd (me_inb v3 5) (
  f_M_gives_b144 μ v1 v2 v3 v4 v5 v6 v7 s0 (μ 66 (2 * (me_ix v1) + (me_ix v2)) (me_ix v3))))))
  else
  (me_gd (me_inb v6 200) (
  me_bd (f_M_sideOf μ v1 (μ 40 0 (me_ix v6)) v2) (fun r6 =>
  f_M_gives_b144 μ v1 v2 v3 v4 v5 v6 v7 s0 r6)))
set_option maxHeartbeats 4000000 in
set_option maxRecDepth 100000 in
theorem z_M_gives_b111 {X : me_X} {B : me_B} {sz : Nat} (C : me_C X B RX12 cX12_gives 12 (some .boolean)) {μ : me_M} {v1 : Int32} {v2 : Int32} {v3 : Int32} {v4 : Int32} {v5 : Int32} {v6 : Int32} {v7 : Int32} {s0 : Int32}   {r : me_M × Int32} (N : me_En X B sz (B, r.1, .ok (some (me_i r.2))) 3 90 0 0) (hNx : me_Nx X) (hB : me_St B)   (hf : f_M_gives_b111 μ v1 v2 v3 v4 v5 v6 v7 s0 = some r) : me_Z X B 0 0 μ 111 [(0, me_r 36 0), (1, me_i v1), (2, me_i v2), (3, me_i v3), (4, me_i v4), (5, me_i v5), (6, me_i v6), (7, me_i v7)] [me_i s0] := by
  unfold f_M_gives_b111 at hf
  refine me_istore C dX12_gives_111 (by decide) (L' := [(8, me_i s0), (0, me_r 36 0), (1, me_i v1), (2, me_i v2), (3, me_i v3), (4, me_i v4), (5, me_i v5), (6, me_i v6), (7, me_i v7)]) rfl ?_
  refine me_iload C dX12_gives_113 rfl ?_
  refine me_if_eq C (tgt := 134) dX12_gives_115 (by decide) (fun c1 => ?_) (fun c1 => ?_)
  · replace hf := me_ip c1 hf
    refine me_aload_n C 0 (Or.inr (Or.inl ⟨_, rfl⟩)) dX12_gives_134 rfl rfl ?_
    refine me_getr C hB 24 (k' := 64) (i' := 0) fg_M_81 dX12_gives_135 rfl rfl ?_
    refine me_iload_n C 1 dX12_gives_138 rfl rfl ?_
    obtain ⟨g2, hf⟩ := me_gs hf
    refine me_aald C hB (k' := 65) (i' := (me_ix v1)) rfl (fun _ => rfl) rfl g2 dX12_gives_139 rfl ?_
    refine me_iload_n C 2 dX12_gives_140 rfl rfl ?_
    obtain ⟨g3, hf⟩ := me_gs hf
    refine me_aald C hB (k' := 66) (i' := 2 * (me_ix v1) + (me_ix v2)) rfl (fun _ => rfl) rfl g3 dX12_gives_141 rfl ?_
    refine me_iload_n C 3 dX12_gives_142 rfl rfl ?_
    obtain ⟨g4, hf⟩ := me_gs hf
    refine me_iald C rfl (fun _ => rfl) g4 dX12_gives_143 ?_
    refine me_dropI [(0, me_r 36 0), (1, me_i v1), (2, me_i v2), (3, me_i v3), (4, me_i v4), (5, me_i v5), (6, me_i v6), (7, me_i v7), (8, me_i s0)] [1, 2, 3, 4, 5, 6, 7, 8, 0] rfl ?_
    exact z_M_gives_b144 C N hNx hB hf
  · replace hf := me_in c1 hf
    refine me_aload_n C 0 (Or.inr (Or.inl ⟨_, rfl⟩)) dX12_gives_118 rfl rfl ?_
    refine me_iload_n C 1 dX12_gives_119 rfl rfl ?_
    refine me_aload_n C 0 (Or.inr (Or.inl ⟨_, rfl⟩)) dX12_gives_120 rfl rfl ?_
    refine me_getr C hB 9 (k' := 40) (i' := 0) fg_M_34 dX12_gives_121 rfl rfl ?_
    refine me_iload C dX12_gives_124 rfl ?_
    obtain ⟨g5, hf⟩ := me_gs hf
    refine me_iald C rfl (fun _ => rfl) g5 dX12_gives_126 ?_
    refine me_iload_n C 2 dX12_gives_127 rfl rfl ?_
    obtain ⟨r6, h_r6, hf⟩ := me_bs hf
    refine me_callV C N  (As := [me_i v1, me_i (μ 40 0 (me_ix v6)), me_i v2]) (st := []) 0 0 (c_M_sideOf hB h_r6) mv_M_sideOf ml_M_225 rfl rfl dX12_gives_128 rfl rfl ⟨by decide, by decide⟩ ⟨by decide, by decide, by decide, by decide⟩ (Nat.le_of_ble_eq_true rfl) ?_
    refine me_goto C (tgt := 144) dX12_gives_131 (by decide) ?_
    refine me_dropI [(0, me_r 36 0), (1, me_i v1), (2, me_i v2), (3, me_i v3), (4, me_i v4), (5, me_i v5), (6, me_i v6), (7, me_i v7), (8, me_i s0)] [1, 2, 3, 4, 5, 6, 7, 8, 0] rfl ?_
    exact z_M_gives_b144 C N hNx hB hf
def f_M_gives_b89 (μ : me_M) (v1 : Int32) (v2 : Int32) (v3 : Int32) (v4 : Int32) (v5 : Int32) (v6 : Int32) (s0 : Int32) : Option (me_M × Int32) :=
  me_gd (me_inb v6 200) (
  if (me_rem v5 (8 : Int32)) = (μ 42 0 (me_ix v6)) then
  (f_M_gives_b111 μ v1 v2 v3 v4 v5 v6 s0 (1 : Int32))
  else
  (f_M_gives_b111 μ v1 v2 v3 v4 v5 v6 s0 (0 : Int32)))
set_option maxHeartbeats 4000000 in
set_option maxRecDepth 100000 in
theorem z_M_gives_b89 {X : me_X} {B : me_B} {sz : Nat} (C : me_C X B RX12 cX12_gives 12 (some .boolean)) {μ : me_M} {v1 : Int32} {v2 : Int32} {v3 : Int32} {v4 : Int32} {v5 : Int32} {v6 : Int32} {s0 : Int32}   {r : me_M × Int32} (N : me_En X B sz (B, r.1, .ok (some (me_i r.2))) 3 90 0 0) (hNx : me_Nx X) (hB : me_St B)   (hf : f_M_gives_b89 μ v1 v2 v3 v4 v5 v6 s0 = some r) : me_Z X B 0 0 μ 89 [(0, me_r 36 0), (1, me_i v1), (2, me_i v2), (3, me_i v3), (4, me_i v4), (5, me_i v5), (6, me_i v6)] [me_i s0] := by
  unfold f_M_gives_b89 at hf
  refine me_istore C dX12_gives_89 (by decide) (L' := [(7, me_i s0), (0, me_r 36 0), (1, me_i v1), (2, me_i v2), (3, me_i v3), (4, me_i v4), (5, me_i v5), (6, me_i v6)]) rfl ?_
  refine me_iload C dX12_gives_91 rfl ?_
  refine me_bipush C (v := 8) dX12_gives_93 (by decide) ?_
  refine me_irem C dX12_gives_95 (by decide) ?_
  refine me_aload_n C 0 (Or.inr (Or.inl ⟨_, rfl⟩)) dX12_gives_96 rfl rfl ?_
  refine me_getr C hB 11 (k' := 42) (i' := 0) fg_M_40 dX12_gives_97 rfl rfl ?_
  refine me_iload C dX12_gives_100 rfl ?_
  obtain ⟨g1, hf⟩ := me_gs hf
  refine me_iald C rfl (fun _ => rfl) g1 dX12_gives_102 ?_
  refine me_icmp_ne C (tgt := 110) dX12_gives_103 (by decide) (fun c2 => ?_) (fun c2 => ?_)
  · replace hf := me_in c2 hf
    refine me_iconst C (v := 0) dX12_gives_110 (by decide) ?_
    refine me_dropI [(0, me_r 36 0), (1, me_i v1), (2, me_i v2), (3, me_i v3), (4, me_i v4), (5, me_i v5), (6, me_i v6), (7, me_i s0)] [1, 2, 3, 4, 5, 6, 7, 0] rfl ?_
    exact z_M_gives_b111 C N hNx hB hf
  · replace hf := me_ip c2 hf
    refine me_iconst C (v := 1) dX12_gives_106 (by decide) ?_
    refine me_goto C (tgt := 111) dX12_gives_107 (by decide) ?_
    refine me_dropI [(0, me_r 36 0), (1, me_i v1), (2, me_i v2), (3, me_i v3), (4, me_i v4), (5, me_i v5), (6, me_i v6), (7, me_i s0)] [1, 2, 3, 4, 5, 6, 7, 0] rfl ?_
    exact z_M_gives_b111 C N hNx hB hf
def f_M_gives (μ : me_M) (v1 : Int32) (v2 : Int32) (v3 : Int32) (v4 : Int32) : Option (me_M × Int32) :=
  me_gd (me_inb v1 16) (
  me_gd (me_inb v2 2) (
  me_gd (me_inb v3 5) (
  if (μ 60 (2 * (me_ix v1) + (me_ix v2)) (me_ix v3)) = 0 then
  (some (μ, (0 : Int32)))
  else
  (me_gd (me_inb v1 16) (
  me_gd (me_inb v2 2) (
  me_gd (me_inb v3 5) (
  if (μ 69 (2 * (me_ix v1) + (me_ix v2)) (me_ix v3)) = ((μ 36 0 4) + (1 : Int32)) then
  (some (μ, (0 : Int32)))
  else
  (me_gd (me_inb v1 16) (
  me_gd (me_inb v2 2) (
  me_gd (me_inb v3 5) (
  if (μ 57 (5 * (2 * (me_ix v1) + (me_ix v2)) + (me_ix v3)) 0) = ((μ 36 0 4) + (1 : Int32)) then
  (some (μ, (0 : Int32)))
  else
  (me_gd (me_inb v1 16) (
  me_gd (me_inb v2 2) (
  me_gd (me_inb v3 5) (
  me_lt ((μ 53 (5 * (2 * (me_ix v1) + (me_ix v2)) + (me_ix v3)) 0)) (fun x16 =>
  me_lt ((x16 / (8 : Int32))) (fun x17 =>
  if (me_rem x16 (8 : Int32)) = 0 then
  (f_M_gives_b89 μ v1 v2 v3 v4 x16 x17 (1 : Int32))
  else
  (f_M_gives_b89 μ v1 v2 v3 v4 x16 x17 (0 : Int32)))))))))))))))))))
set_option maxHeartbeats 4000000 in
set_option maxRecDepth 100000 in
theorem z_M_gives {X : me_X} {B : me_B} {sz : Nat} (C : me_C X B RX12 cX12_gives 12 (some .boolean)) {μ : me_M} {v1 : Int32} {v2 : Int32} {v3 : Int32} {v4 : Int32}   {r : me_M × Int32} (N : me_En X B sz (B, r.1, .ok (some (me_i r.2))) 3 90 0 0) (hNx : me_Nx X) (hB : me_St B)   (hf : f_M_gives μ v1 v2 v3 v4 = some r) : me_Z X B 0 0 μ 0 [(0, me_r 36 0), (1, me_i v1), (2, me_i v2), (3, me_i v3), (4, me_i v4)] [] := by
  unfold f_M_gives at hf
  refine me_aload_n C 0 (Or.inr (Or.inl ⟨_, rfl⟩)) dX12_gives_0 rfl rfl ?_
  refine me_getr C hB 22 (k' := 58) (i' := 0) fg_M_75 dX12_gives_1 rfl rfl ?_
  refine me_iload_n C 1 dX12_gives_4 rfl rfl ?_
  obtain ⟨g1, hf⟩ := me_gs hf
  refine me_aald C hB (k' := 59) (i' := (me_ix v1)) rfl (fun _ => rfl) rfl g1 dX12_gives_5 rfl ?_
  refine me_iload_n C 2 dX12_gives_6 rfl rfl ?_
  obtain ⟨g2, hf⟩ := me_gs hf
  refine me_aald C hB (k' := 60) (i' := 2 * (me_ix v1) + (me_ix v2)) rfl (fun _ => rfl) rfl g2 dX12_gives_7 rfl ?_
  refine me_iload_n C 3 dX12_gives_8 rfl rfl ?_
  obtain ⟨g3, hf⟩ := me_gs hf
  refine me_iald C rfl (fun _ => rfl) g3 dX12_gives_9 ?_
  refine me_if_eq C (tgt := 53) dX12_gives_10 (by decide) (fun c4 => ?_) (fun c4 => ?_)
  · replace hf := me_ip c4 hf
    refine me_iconst C (v := 0) dX12_gives_53 (by decide) ?_
    exact me_iret C N dX12_gives_54 (by decide +kernel) (by cases hf; rfl) (by decide) (by decide)
  · replace hf := me_in c4 hf
    refine me_aload_n C 0 (Or.inr (Or.inl ⟨_, rfl⟩)) dX12_gives_13 rfl rfl ?_
    refine me_getr C hB 25 (k' := 67) (i' := 0) fg_M_84 dX12_gives_14 rfl rfl ?_
    refine me_iload_n C 1 dX12_gives_17 rfl rfl ?_
    obtain ⟨g5, hf⟩ := me_gs hf
    refine me_aald C hB (k' := 68) (i' := (me_ix v1)) rfl (fun _ => rfl) rfl g5 dX12_gives_18 rfl ?_
    refine me_iload_n C 2 dX12_gives_19 rfl rfl ?_
    obtain ⟨g6, hf⟩ := me_gs hf
    refine me_aald C hB (k' := 69) (i' := 2 * (me_ix v1) + (me_ix v2)) rfl (fun _ => rfl) rfl g6 dX12_gives_20 rfl ?_
    refine me_iload_n C 3 dX12_gives_21 rfl rfl ?_
    obtain ⟨g7, hf⟩ := me_gs hf
    refine me_iald C rfl (fun _ => rfl) g7 dX12_gives_22 ?_
    refine me_aload_n C 0 (Or.inr (Or.inl ⟨_, rfl⟩)) dX12_gives_23 rfl rfl ?_
    refine me_geti C 4 fg_M_162 dX12_gives_24 rfl ?_
    refine me_iconst C (v := 1) dX12_gives_27 (by decide) ?_
    refine me_iadd C dX12_gives_28 ?_
    refine me_icmp_eq C (tgt := 53) dX12_gives_29 (by decide) (fun c8 => ?_) (fun c8 => ?_)
    · replace hf := me_ip c8 hf
      refine me_iconst C (v := 0) dX12_gives_53 (by decide) ?_
      exact me_iret C N dX12_gives_54 (by decide +kernel) (by cases hf; rfl) (by decide) (by decide)
    · replace hf := me_in c8 hf
      refine me_aload_n C 0 (Or.inr (Or.inl ⟨_, rfl⟩)) dX12_gives_32 rfl rfl ?_
      refine me_getr C hB 21 (k' := 54) (i' := 0) fg_M_70 dX12_gives_33 rfl rfl ?_
      refine me_iload_n C 1 dX12_gives_36 rfl rfl ?_
      obtain ⟨g9, hf⟩ := me_gs hf
      refine me_aald C hB (k' := 55) (i' := (me_ix v1)) rfl (fun _ => rfl) rfl g9 dX12_gives_37 rfl ?_
      refine me_iload_n C 2 dX12_gives_38 rfl rfl ?_
      obtain ⟨g10, hf⟩ := me_gs hf
      refine me_aald C hB (k' := 56) (i' := 2 * (me_ix v1) + (me_ix v2)) rfl (fun _ => rfl) rfl g10 dX12_gives_39 rfl ?_
      refine me_iload_n C 3 dX12_gives_40 rfl rfl ?_
      obtain ⟨g11, hf⟩ := me_gs hf
      refine me_aald C hB (k' := 57) (i' := 5 * (2 * (me_ix v1) + (me_ix v2)) + (me_ix v3)) rfl (fun _ => rfl) rfl g11 dX12_gives_41 rfl ?_
      refine me_iconst C (v := 0) dX12_gives_42 (by decide) ?_
      refine me_iald C rfl (fun _ => rfl) (by decide +kernel) dX12_gives_43 ?_
      refine me_aload_n C 0 (Or.inr (Or.inl ⟨_, rfl⟩)) dX12_gives_44 rfl rfl ?_
      refine me_geti C 4 fg_M_162 dX12_gives_45 rfl ?_
      refine me_iconst C (v := 1) dX12_gives_48 (by decide) ?_
      refine me_iadd C dX12_gives_49 ?_
      refine me_icmp_ne C (tgt := 55) dX12_gives_50 (by decide) (fun c12 => ?_) (fun c12 => ?_)
      · replace hf := me_in c12 hf
        refine me_aload_n C 0 (Or.inr (Or.inl ⟨_, rfl⟩)) dX12_gives_55 rfl rfl ?_
        refine me_getr C hB 20 (k' := 50) (i' := 0) fg_M_67 dX12_gives_56 rfl rfl ?_
        refine me_iload_n C 1 dX12_gives_59 rfl rfl ?_
        obtain ⟨g13, hf⟩ := me_gs hf
        refine me_aald C hB (k' := 51) (i' := (me_ix v1)) rfl (fun _ => rfl) rfl g13 dX12_gives_60 rfl ?_
        refine me_iload_n C 2 dX12_gives_61 rfl rfl ?_
        obtain ⟨g14, hf⟩ := me_gs hf
        refine me_aald C hB (k' := 52) (i' := 2 * (me_ix v1) + (me_ix v2)) rfl (fun _ => rfl) rfl g14 dX12_gives_62 rfl ?_
        refine me_iload_n C 3 dX12_gives_63 rfl rfl ?_
        obtain ⟨g15, hf⟩ := me_gs hf
        refine me_aald C hB (k' := 53) (i' := 5 * (2 * (me_ix v1) + (me_ix v2)) + (me_ix v3)) rfl (fun _ => rfl) rfl g15 dX12_gives_64 rfl ?_
        refine me_iconst C (v := 0) dX12_gives_65 (by decide) ?_
        refine me_iald C rfl (fun _ => rfl) (by decide +kernel) dX12_gives_66 ?_
        obtain ⟨x16, e_x16, hf⟩ := me_lts hf
        refine me_nm e_x16 ?_
        refine me_istore C dX12_gives_67 (by decide) (L' := [(5, me_i x16), (0, me_r 36 0), (1, me_i v1), (2, me_i v2), (3, me_i v3), (4, me_i v4)]) rfl ?_
        refine me_iload C dX12_gives_69 rfl ?_
        refine me_bipush C (v := 8) dX12_gives_71 (by decide) ?_
        refine me_idiv C dX12_gives_73 (by decide) ?_
        obtain ⟨x17, e_x17, hf⟩ := me_lts hf
        refine me_nm e_x17 ?_
        refine me_istore C dX12_gives_74 (by decide) (L' := [(6, me_i x17), (5, me_i x16), (0, me_r 36 0), (1, me_i v1), (2, me_i v2), (3, me_i v3), (4, me_i v4)]) rfl ?_
        refine me_iload C dX12_gives_76 rfl ?_
        refine me_bipush C (v := 8) dX12_gives_78 (by decide) ?_
        refine me_irem C dX12_gives_80 (by decide) ?_
        refine me_if_ne C (tgt := 88) dX12_gives_81 (by decide) (fun c18 => ?_) (fun c18 => ?_)
        · replace hf := me_in c18 hf
          refine me_iconst C (v := 0) dX12_gives_88 (by decide) ?_
          refine me_dropI [(0, me_r 36 0), (1, me_i v1), (2, me_i v2), (3, me_i v3), (4, me_i v4), (5, me_i x16), (6, me_i x17)] [2, 3, 4, 5, 6, 1, 0] rfl ?_
          exact z_M_gives_b89 C N hNx hB hf
        · replace hf := me_ip c18 hf
          refine me_iconst C (v := 1) dX12_gives_84 (by decide) ?_
          refine me_goto C (tgt := 89) dX12_gives_85 (by decide) ?_
          refine me_dropI [(0, me_r 36 0), (1, me_i v1), (2, me_i v2), (3, me_i v3), (4, me_i v4), (5, me_i x16), (6, me_i x17)] [2, 3, 4, 5, 6, 1, 0] rfl ?_
          exact z_M_gives_b89 C N hNx hB hf
      · replace hf := me_ip c12 hf
        refine me_iconst C (v := 0) dX12_gives_53 (by decide) ?_
        exact me_iret C N dX12_gives_54 (by decide +kernel) (by cases hf; rfl) (by decide) (by decide)
theorem c_M_gives {B : me_B} (hB : me_St B) {μ : me_M} {v1 : Int32} {v2 : Int32} {v3 : Int32} {v4 : Int32} {μ' : me_M} {r : Int32}  (hf : f_M_gives μ v1 v2 v3 v4 = some (μ', r)) : ∀ l E z, l.stackTraces = false → me_Met l yX12_gives cX12_gives 12 (some .boolean) 3 90 0 0 E B μ z [me_r 36 0, me_i v1, me_i v2, me_i v3, me_i v4] (B, μ', .ok (some (me_i r))) :=
  fun _ _ _ hl => me_ofZ hl (by decide +kernel) (Nat.le_of_ble_eq_true rfl) (fun _ C N hNx => z_M_gives C N hNx hB  hf)

def f_M_routes_b21 (K2 : me_M → Int32 → Int32 → Int32 → Option (me_M × Unit)) (K21 : me_M → Int32 → Int32 → Int32 → Int32 → Int32 → Option (me_M × Unit)) (μ : me_M) (v1 : Int32) (v2 : Int32) (v3 : Int32) (v4 : Int32) (v5 : Int32) : Option (me_M × Unit) :=
  if (5 : Int32) < v5 then
  (me_lt (me_inc v3 (-1)) (fun x2 =>
  K2 μ v1 v2 x2))
  else
  (me_b2 (f_M_gives μ v1 v3 (me_rem (v4 + v5) (5 : Int32)) v2) (fun μ4 r3 =>
  if r3 = 0 then
  (me_lt (me_inc v5 (1)) (fun x6 =>
  K21 μ4 v1 v2 v3 v4 x6))
  else
  (some (μ4, ()))))
set_option maxHeartbeats 4000000 in
set_option maxRecDepth 100000 in
theorem z_M_routes_b21 {X : me_X} {B : me_B} {sz : Nat} (C : me_C X B RX12 cX12_routes 6 none) {μ : me_M} {v1 : Int32} {v2 : Int32} {v3 : Int32} {v4 : Int32} {v5 : Int32}  {K2 : me_M → Int32 → Int32 → Int32 → Option (me_M × Unit)} {K21 : me_M → Int32 → Int32 → Int32 → Int32 → Int32 → Option (me_M × Unit)} {r : me_M × Unit} (N : me_En X B sz (B, r.1, .ok (none)) 4 121 0 0) (hNx : me_Nx X) (hB : me_St B) (hK2 : ∀ (μ : me_M) (v1 : Int32) (v2 : Int32) (v3 : Int32), K2 μ v1 v2 v3 = some r → me_Z X B 0 0 μ 2 [(0, me_r 36 0), (1, me_i v1), (2, me_i v2), (3, me_i v3)] []) (hK21 : ∀ (μ : me_M) (v1 : Int32) (v2 : Int32) (v3 : Int32) (v4 : Int32) (v5 : Int32), K21 μ v1 v2 v3 v4 v5 = some r → me_Z X B 0 0 μ 21 [(0, me_r 36 0), (1, me_i v1), (2, me_i v2), (3, me_i v3), (4, me_i v4), (5, me_i v5)] [])  (hf : f_M_routes_b21 K2 K21 μ v1 v2 v3 v4 v5 = some r) : me_Z X B 0 0 μ 21 [(0, me_r 36 0), (1, me_i v1), (2, me_i v2), (3, me_i v3), (4, me_i v4), (5, me_i v5)] [] := by
  unfold f_M_routes_b21 at hf
  refine me_iload C dX12_routes_21 rfl ?_
  refine me_iconst C (v := 5) dX12_routes_23 (by decide) ?_
  refine me_icmp_gt C (tgt := 51) dX12_routes_24 (by decide) (fun c1 => ?_) (fun c1 => ?_)
  · replace hf := me_ip c1 hf
    obtain ⟨x2, e_x2, hf⟩ := me_lts hf
    refine me_iinc C (v := x2) (L' := [(3, me_i x2), (0, me_r 36 0), (1, me_i v1), (2, me_i v2), (4, me_i v4), (5, me_i v5)]) dX12_routes_51 rfl e_x2.symm (by decide) rfl ?_
    refine me_goto C (tgt := 2) dX12_routes_54 (by decide) ?_
    refine me_dropI [(0, me_r 36 0), (1, me_i v1), (2, me_i v2), (3, me_i x2)] [1, 2, 3, 0] rfl ?_
    exact hK2 μ v1 v2 x2 hf
  · replace hf := me_in c1 hf
    refine me_aload_n C 0 (Or.inr (Or.inl ⟨_, rfl⟩)) dX12_routes_27 rfl rfl ?_
    refine me_iload_n C 1 dX12_routes_28 rfl rfl ?_
    refine me_iload_n C 3 dX12_routes_29 rfl rfl ?_
    refine me_iload C dX12_routes_30 rfl ?_
    refine me_iload C dX12_routes_32 rfl ?_
    refine me_iadd C dX12_routes_34 ?_
    refine me_iconst C (v := 5) dX12_routes_35 (by decide) ?_
    refine me_irem C dX12_routes_36 (by decide) ?_
    refine me_iload_n C 2 dX12_routes_37 rfl rfl ?_
    obtain ⟨μ4, r3, h_r3, hf⟩ := me_bs2 hf
    refine me_callV C N  (As := [me_i v1, me_i v3, me_i (me_rem (v4 + v5) (5 : Int32)), me_i v2]) (st := []) 0 0 (c_M_gives hB h_r3) mv_M_gives ml_M_239 rfl rfl dX12_routes_38 rfl rfl ⟨by decide, by decide⟩ ⟨by decide, by decide, by decide, by decide⟩ (Nat.le_of_ble_eq_true rfl) ?_
    refine me_if_eq C (tgt := 45) dX12_routes_41 (by decide) (fun c5 => ?_) (fun c5 => ?_)
    · replace hf := me_ip c5 hf
      obtain ⟨x6, e_x6, hf⟩ := me_lts hf
      refine me_iinc C (v := x6) (L' := [(5, me_i x6), (0, me_r 36 0), (1, me_i v1), (2, me_i v2), (3, me_i v3), (4, me_i v4)]) dX12_routes_45 rfl e_x6.symm (by decide) rfl ?_
      refine me_goto C (tgt := 21) dX12_routes_48 (by decide) ?_
      refine me_dropI [(0, me_r 36 0), (1, me_i v1), (2, me_i v2), (3, me_i v3), (4, me_i v4), (5, me_i x6)] [1, 2, 3, 4, 5, 0] rfl ?_
      exact hK21 μ4 v1 v2 v3 v4 x6 hf
    · replace hf := me_in c5 hf
      exact me_vret C N dX12_routes_44 (by cases hf; rfl) (by decide) (by decide)
def f_M_routes_h21 (K2 : me_M → Int32 → Int32 → Int32 → Option (me_M × Unit)) : Nat → me_M → Int32 → Int32 → Int32 → Int32 → Int32 → Option (me_M × Unit)
  | 0, _, _, _, _, _, _ => none
  | n + 1, μ, v1, v2, v3, v4, v5 => f_M_routes_b21 K2 (f_M_routes_h21 K2 n) μ v1 v2 v3 v4 v5
set_option maxHeartbeats 4000000 in
set_option maxRecDepth 100000 in
theorem z_M_routes_h21 {X : me_X} {B : me_B} {sz : Nat} (C : me_C X B RX12 cX12_routes 6 none) {K2 : me_M → Int32 → Int32 → Int32 → Option (me_M × Unit)} {r : me_M × Unit} (N : me_En X B sz (B, r.1, .ok (none)) 4 121 0 0) (hNx : me_Nx X) (hB : me_St B) (hK2 : ∀ (μ : me_M) (v1 : Int32) (v2 : Int32) (v3 : Int32), K2 μ v1 v2 v3 = some r → me_Z X B 0 0 μ 2 [(0, me_r 36 0), (1, me_i v1), (2, me_i v2), (3, me_i v3)] []) : ∀ (n : Nat) (μ : me_M) (v1 : Int32) (v2 : Int32) (v3 : Int32) (v4 : Int32) (v5 : Int32), f_M_routes_h21 K2 n μ v1 v2 v3 v4 v5 = some r → me_Z X B 0 0 μ 21 [(0, me_r 36 0), (1, me_i v1), (2, me_i v2), (3, me_i v3), (4, me_i v4), (5, me_i v5)] [] := by
  intro n
  induction n with
  | zero => intro μ v1 v2 v3 v4 v5  h; exact absurd (show (none : Option (me_M × Unit)) = some r from h) (fun q => by cases q)
  | succ n ih => intro μ v1 v2 v3 v4 v5  h; exact z_M_routes_b21 C N hNx hB hK2 (K21 := f_M_routes_h21 K2 n) ih  h
def f_M_routes_b2 (K2 : me_M → Int32 → Int32 → Int32 → Option (me_M × Unit)) (μ : me_M) (v1 : Int32) (v2 : Int32) (v3 : Int32) : Option (me_M × Unit) :=
  if v3 < 0 then
  (some (μ, ()))
  else
  (me_gd (me_inb v1 16) (
  me_gd (me_inb v3 2) (
  me_gd (me_inb v2 5) (
  me_lt ((μ 72 (2 * (me_ix v1) + (me_ix v3)) (me_ix v2))) (fun x5 =>
  f_M_routes_h21 K2 me_FU μ v1 v2 v3 x5 (1 : Int32))))))
set_option maxHeartbeats 4000000 in
set_option maxRecDepth 100000 in
theorem z_M_routes_b2 {X : me_X} {B : me_B} {sz : Nat} (C : me_C X B RX12 cX12_routes 6 none) {μ : me_M} {v1 : Int32} {v2 : Int32} {v3 : Int32}  {K2 : me_M → Int32 → Int32 → Int32 → Option (me_M × Unit)} {r : me_M × Unit} (N : me_En X B sz (B, r.1, .ok (none)) 4 121 0 0) (hNx : me_Nx X) (hB : me_St B) (hK2 : ∀ (μ : me_M) (v1 : Int32) (v2 : Int32) (v3 : Int32), K2 μ v1 v2 v3 = some r → me_Z X B 0 0 μ 2 [(0, me_r 36 0), (1, me_i v1), (2, me_i v2), (3, me_i v3)] [])  (hf : f_M_routes_b2 K2 μ v1 v2 v3 = some r) : me_Z X B 0 0 μ 2 [(0, me_r 36 0), (1, me_i v1), (2, me_i v2), (3, me_i v3)] [] := by
  unfold f_M_routes_b2 at hf
  refine me_iload_n C 3 dX12_routes_2 rfl rfl ?_
  refine me_if_lt C (tgt := 57) dX12_routes_3 (by decide) (fun c1 => ?_) (fun c1 => ?_)
  · replace hf := me_ip c1 hf
    exact me_vret C N dX12_routes_57 (by cases hf; rfl) (by decide) (by decide)
  · replace hf := me_in c1 hf
    refine me_aload_n C 0 (Or.inr (Or.inl ⟨_, rfl⟩)) dX12_routes_6 rfl rfl ?_
    refine me_getr C hB 26 (k' := 70) (i' := 0) fg_M_87 dX12_routes_7 rfl rfl ?_
    refine me_iload_n C 1 dX12_routes_10 rfl rfl ?_
    obtain ⟨g2, hf⟩ := me_gs hf
    refine me_aald C hB (k' := 71) (i' := (me_ix v1)) rfl (fun _ => rfl) rfl g2 dX12_routes_11 rfl ?_
    refine me_iload_n C 3 dX12_routes_12 rfl rfl ?_
    obtain ⟨g3, hf⟩ := me_gs hf
    refine me_aald C hB (k' := 72) (i' := 2 * (me_ix v1) + (me_ix v3)) rfl (fun _ => rfl) rfl g3 dX12_routes_13 rfl ?_
    refine me_iload_n C 2 dX12_routes_14 rfl rfl ?_
    obtain ⟨g4, hf⟩ := me_gs hf
    refine me_iald C rfl (fun _ => rfl) g4 dX12_routes_15 ?_
    obtain ⟨x5, e_x5, hf⟩ := me_lts hf
    refine me_nm e_x5 ?_
    refine me_istore C dX12_routes_16 (by decide) (L' := [(4, me_i x5), (0, me_r 36 0), (1, me_i v1), (2, me_i v2), (3, me_i v3)]) rfl ?_
    refine me_iconst C (v := 1) dX12_routes_18 (by decide) ?_
    refine me_istore C dX12_routes_19 (by decide) (L' := [(5, me_i (1 : Int32)), (4, me_i x5), (0, me_r 36 0), (1, me_i v1), (2, me_i v2), (3, me_i v3)]) rfl ?_
    refine me_dropI [(0, me_r 36 0), (1, me_i v1), (2, me_i v2), (3, me_i v3), (4, me_i x5), (5, me_i (1 : Int32))] [2, 3, 4, 5, 1, 0] rfl ?_
    exact z_M_routes_h21 C N hNx hB hK2 me_FU μ v1 v2 v3 x5 (1 : Int32) hf
def f_M_routes_h2  : Nat → me_M → Int32 → Int32 → Int32 → Option (me_M × Unit)
  | 0, _, _, _, _ => none
  | n + 1, μ, v1, v2, v3 => f_M_routes_b2 (f_M_routes_h2 n) μ v1 v2 v3
set_option maxHeartbeats 4000000 in
set_option maxRecDepth 100000 in
theorem z_M_routes_h2 {X : me_X} {B : me_B} {sz : Nat} (C : me_C X B RX12 cX12_routes 6 none)  {r : me_M × Unit} (N : me_En X B sz (B, r.1, .ok (none)) 4 121 0 0) (hNx : me_Nx X) (hB : me_St B)  : ∀ (n : Nat) (μ : me_M) (v1 : Int32) (v2 : Int32) (v3 : Int32), f_M_routes_h2 n μ v1 v2 v3 = some r → me_Z X B 0 0 μ 2 [(0, me_r 36 0), (1, me_i v1), (2, me_i v2), (3, me_i v3)] [] := by
  intro n
  induction n with
  | zero => intro μ v1 v2 v3  h; exact absurd (show (none : Option (me_M × Unit)) = some r from h) (fun q => by cases q)
  | succ n ih => intro μ v1 v2 v3  h; exact z_M_routes_b2 C N hNx hB  (K2 := f_M_routes_h2 n) ih  h
def f_M_routes (μ : me_M) (v1 : Int32) (v2 : Int32) : Option (me_M × Unit) :=
  f_M_routes_h2 me_FU μ v1 v2 (1 : Int32)
set_option maxHeartbeats 4000000 in
set_option maxRecDepth 100000 in
theorem z_M_routes {X : me_X} {B : me_B} {sz : Nat} (C : me_C X B RX12 cX12_routes 6 none) {μ : me_M} {v1 : Int32} {v2 : Int32}   {r : me_M × Unit} (N : me_En X B sz (B, r.1, .ok (none)) 4 121 0 0) (hNx : me_Nx X) (hB : me_St B)   (hf : f_M_routes μ v1 v2 = some r) : me_Z X B 0 0 μ 0 [(0, me_r 36 0), (1, me_i v1), (2, me_i v2)] [] := by
  unfold f_M_routes at hf
  refine me_iconst C (v := 1) dX12_routes_0 (by decide) ?_
  refine me_istore_n C 3 dX12_routes_1 rfl (by decide) (L' := [(3, me_i (1 : Int32)), (0, me_r 36 0), (1, me_i v1), (2, me_i v2)]) rfl ?_
  refine me_dropI [(0, me_r 36 0), (1, me_i v1), (2, me_i v2), (3, me_i (1 : Int32))] [1, 2, 3, 0] rfl ?_
  exact z_M_routes_h2 C N hNx hB me_FU μ v1 v2 (1 : Int32) hf
theorem c_M_routes {B : me_B} (hB : me_St B) {μ : me_M} {v1 : Int32} {v2 : Int32} {μ' : me_M} {r : Unit}  (hf : f_M_routes μ v1 v2 = some (μ', r)) : ∀ l E z, l.stackTraces = false → me_Met l yX12_routes cX12_routes 6 none 4 121 0 0 E B μ z [me_r 36 0, me_i v1, me_i v2] (B, μ', .ok (none)) :=
  fun _ _ _ hl => me_ofZ hl (by decide +kernel) (Nat.le_of_ble_eq_true rfl) (fun _ C N hNx => z_M_routes C N hNx hB  hf)
