/-! WALKS: Ways_countPairs, Ways_endsOnward, Ways_findsRing, Works_receiveWord, Works_sendWord, Works_runOne, Works_runCores, Works_passBarrier, Works_countBusy, Y_needNode, Y_needNodes, Y_needRange, Y_needRoom, Y_send -/
theorem dX9_countPairs_0 : decode cX9_countPairs 0 = .ok (.iconst 0, 1) := by decide +kernel
theorem dX9_countPairs_1 : decode cX9_countPairs 1 = .ok (.istore_n 1, 1) := by decide +kernel
theorem dX9_countPairs_2 : decode cX9_countPairs 2 = .ok (.iconst 0, 1) := by decide +kernel
theorem dX9_countPairs_3 : decode cX9_countPairs 3 = .ok (.istore_n 2, 1) := by decide +kernel
theorem dX9_countPairs_4 : decode cX9_countPairs 4 = .ok (.iload_n 2, 1) := by decide +kernel
theorem dX9_countPairs_5 : decode cX9_countPairs 5 = .ok (.bipush 64, 2) := by decide +kernel
theorem dX9_countPairs_7 : decode cX9_countPairs 7 = .ok (.if_icmp .ge 21, 3) := by decide +kernel
theorem dX9_countPairs_10 : decode cX9_countPairs 10 = .ok (.iload_n 1, 1) := by decide +kernel
theorem dX9_countPairs_11 : decode cX9_countPairs 11 = .ok (.aload_n 0, 1) := by decide +kernel
theorem dX9_countPairs_12 : decode cX9_countPairs 12 = .ok (.getfield 9, 3) := by decide +kernel
theorem dX9_countPairs_15 : decode cX9_countPairs 15 = .ok (.iload_n 2, 1) := by decide +kernel
theorem dX9_countPairs_16 : decode cX9_countPairs 16 = .ok (.iaload, 1) := by decide +kernel
theorem dX9_countPairs_17 : decode cX9_countPairs 17 = .ok (.invokestatic 93, 3) := by decide +kernel
theorem dX9_countPairs_20 : decode cX9_countPairs 20 = .ok (.iadd, 1) := by decide +kernel
theorem dX9_countPairs_21 : decode cX9_countPairs 21 = .ok (.istore_n 1, 1) := by decide +kernel
theorem dX9_countPairs_22 : decode cX9_countPairs 22 = .ok (.iinc 2 1, 3) := by decide +kernel
theorem dX9_countPairs_25 : decode cX9_countPairs 25 = .ok (.goto (-21), 3) := by decide +kernel
theorem dX9_countPairs_28 : decode cX9_countPairs 28 = .ok (.iload_n 1, 1) := by decide +kernel
theorem dX9_countPairs_29 : decode cX9_countPairs 29 = .ok (.ireturn, 1) := by decide +kernel
theorem dX9_endsOnward_0 : decode cX9_endsOnward 0 = .ok (.aload_n 0, 1) := by decide +kernel
theorem dX9_endsOnward_1 : decode cX9_endsOnward 1 = .ok (.getfield 23, 3) := by decide +kernel
theorem dX9_endsOnward_4 : decode cX9_endsOnward 4 = .ok (.getfield 52, 3) := by decide +kernel
theorem dX9_endsOnward_7 : decode cX9_endsOnward 7 = .ok (.iload_n 1, 1) := by decide +kernel
theorem dX9_endsOnward_8 : decode cX9_endsOnward 8 = .ok (.iaload, 1) := by decide +kernel
theorem dX9_endsOnward_9 : decode cX9_endsOnward 9 = .ok (.istore_n 2, 1) := by decide +kernel
theorem dX9_endsOnward_10 : decode cX9_endsOnward 10 = .ok (.aload_n 0, 1) := by decide +kernel
theorem dX9_endsOnward_11 : decode cX9_endsOnward 11 = .ok (.getfield 23, 3) := by decide +kernel
theorem dX9_endsOnward_14 : decode cX9_endsOnward 14 = .ok (.iload_n 2, 1) := by decide +kernel
theorem dX9_endsOnward_15 : decode cX9_endsOnward 15 = .ok (.invokevirtual 81, 3) := by decide +kernel
theorem dX9_endsOnward_18 : decode cX9_endsOnward 18 = .ok (.ifCond .ne 5, 3) := by decide +kernel
theorem dX9_endsOnward_21 : decode cX9_endsOnward 21 = .ok (.iconst 1, 1) := by decide +kernel
theorem dX9_endsOnward_22 : decode cX9_endsOnward 22 = .ok (.ireturn, 1) := by decide +kernel
theorem dX9_endsOnward_23 : decode cX9_endsOnward 23 = .ok (.iconst 0, 1) := by decide +kernel
theorem dX9_endsOnward_24 : decode cX9_endsOnward 24 = .ok (.istore_n 3, 1) := by decide +kernel
theorem dX9_endsOnward_25 : decode cX9_endsOnward 25 = .ok (.iload_n 3, 1) := by decide +kernel
theorem dX9_endsOnward_26 : decode cX9_endsOnward 26 = .ok (.iconst 4, 1) := by decide +kernel
theorem dX9_endsOnward_27 : decode cX9_endsOnward 27 = .ok (.if_icmp .ge 37, 3) := by decide +kernel
theorem dX9_endsOnward_30 : decode cX9_endsOnward 30 = .ok (.aload_n 0, 1) := by decide +kernel
theorem dX9_endsOnward_31 : decode cX9_endsOnward 31 = .ok (.getfield 9, 3) := by decide +kernel
theorem dX9_endsOnward_34 : decode cX9_endsOnward 34 = .ok (.iload_n 1, 1) := by decide +kernel
theorem dX9_endsOnward_35 : decode cX9_endsOnward 35 = .ok (.iaload, 1) := by decide +kernel
theorem dX9_endsOnward_36 : decode cX9_endsOnward 36 = .ok (.iload_n 3, 1) := by decide +kernel
theorem dX9_endsOnward_37 : decode cX9_endsOnward 37 = .ok (.ishr, 1) := by decide +kernel
theorem dX9_endsOnward_38 : decode cX9_endsOnward 38 = .ok (.iconst 1, 1) := by decide +kernel
theorem dX9_endsOnward_39 : decode cX9_endsOnward 39 = .ok (.iand, 1) := by decide +kernel
theorem dX9_endsOnward_40 : decode cX9_endsOnward 40 = .ok (.ifCond .eq 18, 3) := by decide +kernel
theorem dX9_endsOnward_43 : decode cX9_endsOnward 43 = .ok (.aload_n 0, 1) := by decide +kernel
theorem dX9_endsOnward_44 : decode cX9_endsOnward 44 = .ok (.getfield 15, 3) := by decide +kernel
theorem dX9_endsOnward_47 : decode cX9_endsOnward 47 = .ok (.iload_n 2, 1) := by decide +kernel
theorem dX9_endsOnward_48 : decode cX9_endsOnward 48 = .ok (.iconst 4, 1) := by decide +kernel
theorem dX9_endsOnward_49 : decode cX9_endsOnward 49 = .ok (.imul, 1) := by decide +kernel
theorem dX9_endsOnward_50 : decode cX9_endsOnward 50 = .ok (.iload_n 3, 1) := by decide +kernel
theorem dX9_endsOnward_51 : decode cX9_endsOnward 51 = .ok (.iadd, 1) := by decide +kernel
theorem dX9_endsOnward_52 : decode cX9_endsOnward 52 = .ok (.baload, 1) := by decide +kernel
theorem dX9_endsOnward_53 : decode cX9_endsOnward 53 = .ok (.ifCond .ne 5, 3) := by decide +kernel
theorem dX9_endsOnward_56 : decode cX9_endsOnward 56 = .ok (.iconst 0, 1) := by decide +kernel
theorem dX9_endsOnward_57 : decode cX9_endsOnward 57 = .ok (.ireturn, 1) := by decide +kernel
theorem dX9_endsOnward_58 : decode cX9_endsOnward 58 = .ok (.iinc 3 1, 3) := by decide +kernel
theorem dX9_endsOnward_61 : decode cX9_endsOnward 61 = .ok (.goto (-36), 3) := by decide +kernel
theorem dX9_endsOnward_64 : decode cX9_endsOnward 64 = .ok (.iconst 1, 1) := by decide +kernel
theorem dX9_endsOnward_65 : decode cX9_endsOnward 65 = .ok (.ireturn, 1) := by decide +kernel
theorem dX9_findsRing_0 : decode cX9_findsRing 0 = .ok (.iconst 0, 1) := by decide +kernel
theorem dX9_findsRing_1 : decode cX9_findsRing 1 = .ok (.istore_n 1, 1) := by decide +kernel
theorem dX9_findsRing_2 : decode cX9_findsRing 2 = .ok (.iload_n 1, 1) := by decide +kernel
theorem dX9_findsRing_3 : decode cX9_findsRing 3 = .ok (.bipush 64, 2) := by decide +kernel
theorem dX9_findsRing_5 : decode cX9_findsRing 5 = .ok (.if_icmp .ge 29, 3) := by decide +kernel
theorem dX9_findsRing_8 : decode cX9_findsRing 8 = .ok (.aload_n 0, 1) := by decide +kernel
theorem dX9_findsRing_9 : decode cX9_findsRing 9 = .ok (.getfield 15, 3) := by decide +kernel
theorem dX9_findsRing_12 : decode cX9_findsRing 12 = .ok (.iload_n 1, 1) := by decide +kernel
theorem dX9_findsRing_13 : decode cX9_findsRing 13 = .ok (.aload_n 0, 1) := by decide +kernel
theorem dX9_findsRing_14 : decode cX9_findsRing 14 = .ok (.getfield 9, 3) := by decide +kernel
theorem dX9_findsRing_17 : decode cX9_findsRing 17 = .ok (.iload_n 1, 1) := by decide +kernel
theorem dX9_findsRing_18 : decode cX9_findsRing 18 = .ok (.iaload, 1) := by decide +kernel
theorem dX9_findsRing_19 : decode cX9_findsRing 19 = .ok (.ifCond .ne 7, 3) := by decide +kernel
theorem dX9_findsRing_22 : decode cX9_findsRing 22 = .ok (.iconst 1, 1) := by decide +kernel
theorem dX9_findsRing_23 : decode cX9_findsRing 23 = .ok (.goto 4, 3) := by decide +kernel
theorem dX9_findsRing_26 : decode cX9_findsRing 26 = .ok (.iconst 0, 1) := by decide +kernel
theorem dX9_findsRing_27 : decode cX9_findsRing 27 = .ok (.bastore, 1) := by decide +kernel
theorem dX9_findsRing_28 : decode cX9_findsRing 28 = .ok (.iinc 1 1, 3) := by decide +kernel
theorem dX9_findsRing_31 : decode cX9_findsRing 31 = .ok (.goto (-29), 3) := by decide +kernel
theorem dX9_findsRing_34 : decode cX9_findsRing 34 = .ok (.bipush 64, 2) := by decide +kernel
theorem dX9_findsRing_36 : decode cX9_findsRing 36 = .ok (.istore_n 1, 1) := by decide +kernel
theorem dX9_findsRing_37 : decode cX9_findsRing 37 = .ok (.iconst 0, 1) := by decide +kernel
theorem dX9_findsRing_38 : decode cX9_findsRing 38 = .ok (.istore_n 2, 1) := by decide +kernel
theorem dX9_findsRing_39 : decode cX9_findsRing 39 = .ok (.iload_n 2, 1) := by decide +kernel
theorem dX9_findsRing_40 : decode cX9_findsRing 40 = .ok (.bipush 64, 2) := by decide +kernel
theorem dX9_findsRing_42 : decode cX9_findsRing 42 = .ok (.if_icmp .ge 74, 3) := by decide +kernel
theorem dX9_findsRing_45 : decode cX9_findsRing 45 = .ok (.iload_n 1, 1) := by decide +kernel
theorem dX9_findsRing_46 : decode cX9_findsRing 46 = .ok (.ifCond .le 70, 3) := by decide +kernel
theorem dX9_findsRing_49 : decode cX9_findsRing 49 = .ok (.iconst 0, 1) := by decide +kernel
theorem dX9_findsRing_50 : decode cX9_findsRing 50 = .ok (.istore_n 1, 1) := by decide +kernel
theorem dX9_findsRing_51 : decode cX9_findsRing 51 = .ok (.iconst 0, 1) := by decide +kernel
theorem dX9_findsRing_52 : decode cX9_findsRing 52 = .ok (.istore_n 3, 1) := by decide +kernel
theorem dX9_findsRing_53 : decode cX9_findsRing 53 = .ok (.iload_n 3, 1) := by decide +kernel
theorem dX9_findsRing_54 : decode cX9_findsRing 54 = .ok (.bipush 64, 2) := by decide +kernel
theorem dX9_findsRing_56 : decode cX9_findsRing 56 = .ok (.if_icmp .ge 54, 3) := by decide +kernel
theorem dX9_findsRing_59 : decode cX9_findsRing 59 = .ok (.aload_n 0, 1) := by decide +kernel
theorem dX9_findsRing_60 : decode cX9_findsRing 60 = .ok (.getfield 15, 3) := by decide +kernel
theorem dX9_findsRing_63 : decode cX9_findsRing 63 = .ok (.iload_n 3, 1) := by decide +kernel
theorem dX9_findsRing_64 : decode cX9_findsRing 64 = .ok (.aload_n 0, 1) := by decide +kernel
theorem dX9_findsRing_65 : decode cX9_findsRing 65 = .ok (.getfield 15, 3) := by decide +kernel
theorem dX9_findsRing_68 : decode cX9_findsRing 68 = .ok (.iload_n 3, 1) := by decide +kernel
theorem dX9_findsRing_69 : decode cX9_findsRing 69 = .ok (.baload, 1) := by decide +kernel
theorem dX9_findsRing_70 : decode cX9_findsRing 70 = .ok (.ifCond .ne 11, 3) := by decide +kernel
theorem dX9_findsRing_73 : decode cX9_findsRing 73 = .ok (.aload_n 0, 1) := by decide +kernel
theorem dX9_findsRing_74 : decode cX9_findsRing 74 = .ok (.iload_n 3, 1) := by decide +kernel
theorem dX9_findsRing_75 : decode cX9_findsRing 75 = .ok (.invokevirtual 98, 3) := by decide +kernel
theorem dX9_findsRing_78 : decode cX9_findsRing 78 = .ok (.ifCond .eq 7, 3) := by decide +kernel
theorem dX9_findsRing_81 : decode cX9_findsRing 81 = .ok (.iconst 1, 1) := by decide +kernel
theorem dX9_findsRing_82 : decode cX9_findsRing 82 = .ok (.goto 4, 3) := by decide +kernel
theorem dX9_findsRing_85 : decode cX9_findsRing 85 = .ok (.iconst 0, 1) := by decide +kernel
theorem dX9_findsRing_86 : decode cX9_findsRing 86 = .ok (.bastore, 1) := by decide +kernel
theorem dX9_findsRing_87 : decode cX9_findsRing 87 = .ok (.iload_n 1, 1) := by decide +kernel
theorem dX9_findsRing_88 : decode cX9_findsRing 88 = .ok (.aload_n 0, 1) := by decide +kernel
theorem dX9_findsRing_89 : decode cX9_findsRing 89 = .ok (.getfield 15, 3) := by decide +kernel
theorem dX9_findsRing_92 : decode cX9_findsRing 92 = .ok (.iload_n 3, 1) := by decide +kernel
theorem dX9_findsRing_93 : decode cX9_findsRing 93 = .ok (.baload, 1) := by decide +kernel
theorem dX9_findsRing_94 : decode cX9_findsRing 94 = .ok (.ifCond .eq 7, 3) := by decide +kernel
theorem dX9_findsRing_97 : decode cX9_findsRing 97 = .ok (.iconst 0, 1) := by decide +kernel
theorem dX9_findsRing_98 : decode cX9_findsRing 98 = .ok (.goto 4, 3) := by decide +kernel
theorem dX9_findsRing_101 : decode cX9_findsRing 101 = .ok (.iconst 1, 1) := by decide +kernel
theorem dX9_findsRing_102 : decode cX9_findsRing 102 = .ok (.iadd, 1) := by decide +kernel
theorem dX9_findsRing_103 : decode cX9_findsRing 103 = .ok (.istore_n 1, 1) := by decide +kernel
theorem dX9_findsRing_104 : decode cX9_findsRing 104 = .ok (.iinc 3 1, 3) := by decide +kernel
theorem dX9_findsRing_107 : decode cX9_findsRing 107 = .ok (.goto (-54), 3) := by decide +kernel
theorem dX9_findsRing_110 : decode cX9_findsRing 110 = .ok (.iinc 2 1, 3) := by decide +kernel
theorem dX9_findsRing_113 : decode cX9_findsRing 113 = .ok (.goto (-74), 3) := by decide +kernel
theorem dX9_findsRing_116 : decode cX9_findsRing 116 = .ok (.iload_n 1, 1) := by decide +kernel
theorem dX9_findsRing_117 : decode cX9_findsRing 117 = .ok (.ifCond .le 7, 3) := by decide +kernel
theorem dX9_findsRing_120 : decode cX9_findsRing 120 = .ok (.iconst 1, 1) := by decide +kernel
theorem dX9_findsRing_121 : decode cX9_findsRing 121 = .ok (.goto 4, 3) := by decide +kernel
theorem dX9_findsRing_124 : decode cX9_findsRing 124 = .ok (.iconst 0, 1) := by decide +kernel
theorem dX9_findsRing_125 : decode cX9_findsRing 125 = .ok (.ireturn, 1) := by decide +kernel
theorem dX10_receiveWord_0 : decode cX10_receiveWord 0 = .ok (.aload_n 0, 1) := by decide +kernel
theorem dX10_receiveWord_1 : decode cX10_receiveWord 1 = .ok (.getfield 13, 3) := by decide +kernel
theorem dX10_receiveWord_4 : decode cX10_receiveWord 4 = .ok (.iload_n 1, 1) := by decide +kernel
theorem dX10_receiveWord_5 : decode cX10_receiveWord 5 = .ok (.iload_n 3, 1) := by decide +kernel
theorem dX10_receiveWord_6 : decode cX10_receiveWord 6 = .ok (.invokevirtual 101, 3) := by decide +kernel
theorem dX10_receiveWord_9 : decode cX10_receiveWord 9 = .ok (.astore 4, 2) := by decide +kernel
theorem dX10_receiveWord_11 : decode cX10_receiveWord 11 = .ok (.aload 4, 2) := by decide +kernel
theorem dX10_receiveWord_13 : decode cX10_receiveWord 13 = .ok (.ifnonnull 10, 3) := by decide +kernel
theorem dX10_receiveWord_16 : decode cX10_receiveWord 16 = .ok (.aload_n 2, 1) := by decide +kernel
theorem dX10_receiveWord_17 : decode cX10_receiveWord 17 = .ok (.bipush 119, 2) := by decide +kernel
theorem dX10_receiveWord_19 : decode cX10_receiveWord 19 = .ok (.putfield 75, 3) := by decide +kernel
theorem dX10_receiveWord_22 : decode cX10_receiveWord 22 = .ok (.return_, 1) := by decide +kernel
theorem dX10_receiveWord_23 : decode cX10_receiveWord 23 = .ok (.aload_n 2, 1) := by decide +kernel
theorem dX10_receiveWord_24 : decode cX10_receiveWord 24 = .ok (.invokevirtual 105, 3) := by decide +kernel
theorem dX10_receiveWord_27 : decode cX10_receiveWord 27 = .ok (.ifCond .ne 16, 3) := by decide +kernel
theorem dX10_receiveWord_30 : decode cX10_receiveWord 30 = .ok (.aload 4, 2) := by decide +kernel
theorem dX10_receiveWord_32 : decode cX10_receiveWord 32 = .ok (.bipush 114, 2) := by decide +kernel
theorem dX10_receiveWord_34 : decode cX10_receiveWord 34 = .ok (.putfield 108, 3) := by decide +kernel
theorem dX10_receiveWord_37 : decode cX10_receiveWord 37 = .ok (.aload_n 2, 1) := by decide +kernel
theorem dX10_receiveWord_38 : decode cX10_receiveWord 38 = .ok (.bipush 114, 2) := by decide +kernel
theorem dX10_receiveWord_40 : decode cX10_receiveWord 40 = .ok (.putfield 75, 3) := by decide +kernel
theorem dX10_receiveWord_43 : decode cX10_receiveWord 43 = .ok (.aload_n 2, 1) := by decide +kernel
theorem dX10_receiveWord_44 : decode cX10_receiveWord 44 = .ok (.aload 4, 2) := by decide +kernel
theorem dX10_receiveWord_46 : decode cX10_receiveWord 46 = .ok (.getfield 111, 3) := by decide +kernel
theorem dX10_receiveWord_49 : decode cX10_receiveWord 49 = .ok (.invokevirtual 55, 3) := by decide +kernel
theorem dX10_receiveWord_52 : decode cX10_receiveWord 52 = .ok (.return_, 1) := by decide +kernel
theorem dX10_sendWord_0 : decode cX10_sendWord 0 = .ok (.aload_n 2, 1) := by decide +kernel
theorem dX10_sendWord_1 : decode cX10_sendWord 1 = .ok (.iconst 1, 1) := by decide +kernel
theorem dX10_sendWord_2 : decode cX10_sendWord 2 = .ok (.invokevirtual 82, 3) := by decide +kernel
theorem dX10_sendWord_5 : decode cX10_sendWord 5 = .ok (.ifCond .ne 4, 3) := by decide +kernel
theorem dX10_sendWord_8 : decode cX10_sendWord 8 = .ok (.return_, 1) := by decide +kernel
theorem dX10_sendWord_9 : decode cX10_sendWord 9 = .ok (.aload_n 0, 1) := by decide +kernel
theorem dX10_sendWord_10 : decode cX10_sendWord 10 = .ok (.getfield 13, 3) := by decide +kernel
theorem dX10_sendWord_13 : decode cX10_sendWord 13 = .ok (.iconst 1, 1) := by decide +kernel
theorem dX10_sendWord_14 : decode cX10_sendWord 14 = .ok (.invokevirtual 86, 3) := by decide +kernel
theorem dX10_sendWord_17 : decode cX10_sendWord 17 = .ok (.ifCond .ne 10, 3) := by decide +kernel
theorem dX10_sendWord_20 : decode cX10_sendWord 20 = .ok (.aload_n 2, 1) := by decide +kernel
theorem dX10_sendWord_21 : decode cX10_sendWord 21 = .ok (.bipush 112, 2) := by decide +kernel
theorem dX10_sendWord_23 : decode cX10_sendWord 23 = .ok (.invokevirtual 40, 3) := by decide +kernel
theorem dX10_sendWord_26 : decode cX10_sendWord 26 = .ok (.return_, 1) := by decide +kernel
theorem dX10_sendWord_27 : decode cX10_sendWord 27 = .ok (.aload_n 2, 1) := by decide +kernel
theorem dX10_sendWord_28 : decode cX10_sendWord 28 = .ok (.dup, 1) := by decide +kernel
theorem dX10_sendWord_29 : decode cX10_sendWord 29 = .ok (.getfield 91, 3) := by decide +kernel
theorem dX10_sendWord_32 : decode cX10_sendWord 32 = .ok (.iconst 1, 1) := by decide +kernel
theorem dX10_sendWord_33 : decode cX10_sendWord 33 = .ok (.isub, 1) := by decide +kernel
theorem dX10_sendWord_34 : decode cX10_sendWord 34 = .ok (.putfield 91, 3) := by decide +kernel
theorem dX10_sendWord_37 : decode cX10_sendWord 37 = .ok (.aload_n 0, 1) := by decide +kernel
theorem dX10_sendWord_38 : decode cX10_sendWord 38 = .ok (.getfield 13, 3) := by decide +kernel
theorem dX10_sendWord_41 : decode cX10_sendWord 41 = .ok (.bipush 109, 2) := by decide +kernel
theorem dX10_sendWord_43 : decode cX10_sendWord 43 = .ok (.iload_n 1, 1) := by decide +kernel
theorem dX10_sendWord_44 : decode cX10_sendWord 44 = .ok (.iload_n 3, 1) := by decide +kernel
theorem dX10_sendWord_45 : decode cX10_sendWord 45 = .ok (.aload_n 2, 1) := by decide +kernel
theorem dX10_sendWord_46 : decode cX10_sendWord 46 = .ok (.getfield 94, 3) := by decide +kernel
theorem dX10_sendWord_49 : decode cX10_sendWord 49 = .ok (.aload_n 2, 1) := by decide +kernel
theorem dX10_sendWord_50 : decode cX10_sendWord 50 = .ok (.getfield 91, 3) := by decide +kernel
theorem dX10_sendWord_53 : decode cX10_sendWord 53 = .ok (.iaload, 1) := by decide +kernel
theorem dX10_sendWord_54 : decode cX10_sendWord 54 = .ok (.iconst 1, 1) := by decide +kernel
theorem dX10_sendWord_55 : decode cX10_sendWord 55 = .ok (.iload 4, 2) := by decide +kernel
theorem dX10_sendWord_57 : decode cX10_sendWord 57 = .ok (.invokevirtual 97, 3) := by decide +kernel
theorem dX10_sendWord_60 : decode cX10_sendWord 60 = .ok (.pop, 1) := by decide +kernel
theorem dX10_sendWord_61 : decode cX10_sendWord 61 = .ok (.aload_n 2, 1) := by decide +kernel
theorem dX10_sendWord_62 : decode cX10_sendWord 62 = .ok (.dup, 1) := by decide +kernel
theorem dX10_sendWord_63 : decode cX10_sendWord 63 = .ok (.getfield 48, 3) := by decide +kernel
theorem dX10_sendWord_66 : decode cX10_sendWord 66 = .ok (.iconst 1, 1) := by decide +kernel
theorem dX10_sendWord_67 : decode cX10_sendWord 67 = .ok (.iadd, 1) := by decide +kernel
theorem dX10_sendWord_68 : decode cX10_sendWord 68 = .ok (.putfield 48, 3) := by decide +kernel
theorem dX10_sendWord_71 : decode cX10_sendWord 71 = .ok (.return_, 1) := by decide +kernel
theorem dX10_runOne_0 : decode cX10_runOne 0 = .ok (.aload_n 2, 1) := by decide +kernel
theorem dX10_runOne_1 : decode cX10_runOne 1 = .ok (.invokevirtual 37, 3) := by decide +kernel
theorem dX10_runOne_4 : decode cX10_runOne 4 = .ok (.ifCond .ne 10, 3) := by decide +kernel
theorem dX10_runOne_7 : decode cX10_runOne 7 = .ok (.aload_n 2, 1) := by decide +kernel
theorem dX10_runOne_8 : decode cX10_runOne 8 = .ok (.bipush 106, 2) := by decide +kernel
theorem dX10_runOne_10 : decode cX10_runOne 10 = .ok (.invokevirtual 40, 3) := by decide +kernel
theorem dX10_runOne_13 : decode cX10_runOne 13 = .ok (.return_, 1) := by decide +kernel
theorem dX10_runOne_14 : decode cX10_runOne 14 = .ok (.aload_n 2, 1) := by decide +kernel
theorem dX10_runOne_15 : decode cX10_runOne 15 = .ok (.getfield 44, 3) := by decide +kernel
theorem dX10_runOne_18 : decode cX10_runOne 18 = .ok (.aload_n 2, 1) := by decide +kernel
theorem dX10_runOne_19 : decode cX10_runOne 19 = .ok (.getfield 48, 3) := by decide +kernel
theorem dX10_runOne_22 : decode cX10_runOne 22 = .ok (.caload, 1) := by decide +kernel
theorem dX10_runOne_23 : decode cX10_runOne 23 = .ok (.istore 4, 2) := by decide +kernel
theorem dX10_runOne_25 : decode cX10_runOne 25 = .ok (.aload_n 2, 1) := by decide +kernel
theorem dX10_runOne_26 : decode cX10_runOne 26 = .ok (.getfield 51, 3) := by decide +kernel
theorem dX10_runOne_29 : decode cX10_runOne 29 = .ok (.aload_n 2, 1) := by decide +kernel
theorem dX10_runOne_30 : decode cX10_runOne 30 = .ok (.getfield 48, 3) := by decide +kernel
theorem dX10_runOne_33 : decode cX10_runOne 33 = .ok (.iaload, 1) := by decide +kernel
theorem dX10_runOne_34 : decode cX10_runOne 34 = .ok (.istore 5, 2) := by decide +kernel
theorem dX10_runOne_36 : decode cX10_runOne 36 = .ok (.iload 4, 2) := by decide +kernel
theorem dX10_runOne_38 : decode cX10_runOne 38 = .ok (.tableswitch 163 98 115 #[145, 163, 113, 163, 163, 163, 154, 163, 136, 163, 95, 163, 163, 163, 86, 163, 125, 104], 86) := by decide +kernel
theorem dX10_runOne_124 : decode cX10_runOne 124 = .ok (.aload_n 2, 1) := by decide +kernel
theorem dX10_runOne_125 : decode cX10_runOne 125 = .ok (.iload 5, 2) := by decide +kernel
theorem dX10_runOne_127 : decode cX10_runOne 127 = .ok (.invokevirtual 55, 3) := by decide +kernel
theorem dX10_runOne_130 : decode cX10_runOne 130 = .ok (.goto 77, 3) := by decide +kernel
theorem dX10_runOne_133 : decode cX10_runOne 133 = .ok (.aload_n 2, 1) := by decide +kernel
theorem dX10_runOne_134 : decode cX10_runOne 134 = .ok (.iload 5, 2) := by decide +kernel
theorem dX10_runOne_136 : decode cX10_runOne 136 = .ok (.invokevirtual 59, 3) := by decide +kernel
theorem dX10_runOne_139 : decode cX10_runOne 139 = .ok (.goto 68, 3) := by decide +kernel
theorem dX10_runOne_142 : decode cX10_runOne 142 = .ok (.aload_n 2, 1) := by decide +kernel
theorem dX10_runOne_143 : decode cX10_runOne 143 = .ok (.iload 5, 2) := by decide +kernel
theorem dX10_runOne_145 : decode cX10_runOne 145 = .ok (.invokevirtual 62, 3) := by decide +kernel
theorem dX10_runOne_148 : decode cX10_runOne 148 = .ok (.goto 59, 3) := by decide +kernel
theorem dX10_runOne_151 : decode cX10_runOne 151 = .ok (.aload_n 0, 1) := by decide +kernel
theorem dX10_runOne_152 : decode cX10_runOne 152 = .ok (.iload_n 1, 1) := by decide +kernel
theorem dX10_runOne_153 : decode cX10_runOne 153 = .ok (.aload_n 2, 1) := by decide +kernel
theorem dX10_runOne_154 : decode cX10_runOne 154 = .ok (.iload 5, 2) := by decide +kernel
theorem dX10_runOne_156 : decode cX10_runOne 156 = .ok (.iload_n 3, 1) := by decide +kernel
theorem dX10_runOne_157 : decode cX10_runOne 157 = .ok (.invokevirtual 65, 3) := by decide +kernel
theorem dX10_runOne_160 : decode cX10_runOne 160 = .ok (.goto 47, 3) := by decide +kernel
theorem dX10_runOne_163 : decode cX10_runOne 163 = .ok (.aload_n 0, 1) := by decide +kernel
theorem dX10_runOne_164 : decode cX10_runOne 164 = .ok (.iload_n 1, 1) := by decide +kernel
theorem dX10_runOne_165 : decode cX10_runOne 165 = .ok (.aload_n 2, 1) := by decide +kernel
theorem dX10_runOne_166 : decode cX10_runOne 166 = .ok (.iload 5, 2) := by decide +kernel
theorem dX10_runOne_168 : decode cX10_runOne 168 = .ok (.invokevirtual 69, 3) := by decide +kernel
theorem dX10_runOne_171 : decode cX10_runOne 171 = .ok (.goto 36, 3) := by decide +kernel
theorem dX10_runOne_174 : decode cX10_runOne 174 = .ok (.aload_n 2, 1) := by decide +kernel
theorem dX10_runOne_175 : decode cX10_runOne 175 = .ok (.iload 5, 2) := by decide +kernel
theorem dX10_runOne_177 : decode cX10_runOne 177 = .ok (.invokevirtual 72, 3) := by decide +kernel
theorem dX10_runOne_180 : decode cX10_runOne 180 = .ok (.goto 27, 3) := by decide +kernel
theorem dX10_runOne_183 : decode cX10_runOne 183 = .ok (.aload_n 2, 1) := by decide +kernel
theorem dX10_runOne_184 : decode cX10_runOne 184 = .ok (.bipush 98, 2) := by decide +kernel
theorem dX10_runOne_186 : decode cX10_runOne 186 = .ok (.putfield 75, 3) := by decide +kernel
theorem dX10_runOne_189 : decode cX10_runOne 189 = .ok (.goto 18, 3) := by decide +kernel
theorem dX10_runOne_192 : decode cX10_runOne 192 = .ok (.aload_n 2, 1) := by decide +kernel
theorem dX10_runOne_193 : decode cX10_runOne 193 = .ok (.bipush 104, 2) := by decide +kernel
theorem dX10_runOne_195 : decode cX10_runOne 195 = .ok (.putfield 75, 3) := by decide +kernel
theorem dX10_runOne_198 : decode cX10_runOne 198 = .ok (.goto 9, 3) := by decide +kernel
theorem dX10_runOne_201 : decode cX10_runOne 201 = .ok (.aload_n 2, 1) := by decide +kernel
theorem dX10_runOne_202 : decode cX10_runOne 202 = .ok (.iload 4, 2) := by decide +kernel
theorem dX10_runOne_204 : decode cX10_runOne 204 = .ok (.invokevirtual 79, 3) := by decide +kernel
theorem dX10_runOne_207 : decode cX10_runOne 207 = .ok (.return_, 1) := by decide +kernel
theorem dX10_runCores_0 : decode cX10_runCores 0 = .ok (.iconst 0, 1) := by decide +kernel
theorem dX10_runCores_1 : decode cX10_runCores 1 = .ok (.istore_n 2, 1) := by decide +kernel
theorem dX10_runCores_2 : decode cX10_runCores 2 = .ok (.iload_n 2, 1) := by decide +kernel
theorem dX10_runCores_3 : decode cX10_runCores 3 = .ok (.aload_n 0, 1) := by decide +kernel
theorem dX10_runCores_4 : decode cX10_runCores 4 = .ok (.getfield 7, 3) := by decide +kernel
theorem dX10_runCores_7 : decode cX10_runCores 7 = .ok (.getfield 21, 3) := by decide +kernel
theorem dX10_runCores_10 : decode cX10_runCores 10 = .ok (.if_icmp .ge 33, 3) := by decide +kernel
theorem dX10_runCores_13 : decode cX10_runCores 13 = .ok (.aload_n 0, 1) := by decide +kernel
theorem dX10_runCores_14 : decode cX10_runCores 14 = .ok (.getfield 17, 3) := by decide +kernel
theorem dX10_runCores_17 : decode cX10_runCores 17 = .ok (.iload_n 2, 1) := by decide +kernel
theorem dX10_runCores_18 : decode cX10_runCores 18 = .ok (.aaload, 1) := by decide +kernel
theorem dX10_runCores_19 : decode cX10_runCores 19 = .ok (.invokevirtual 27, 3) := by decide +kernel
theorem dX10_runCores_22 : decode cX10_runCores 22 = .ok (.ifCond .eq 15, 3) := by decide +kernel
theorem dX10_runCores_25 : decode cX10_runCores 25 = .ok (.aload_n 0, 1) := by decide +kernel
theorem dX10_runCores_26 : decode cX10_runCores 26 = .ok (.iload_n 2, 1) := by decide +kernel
theorem dX10_runCores_27 : decode cX10_runCores 27 = .ok (.aload_n 0, 1) := by decide +kernel
theorem dX10_runCores_28 : decode cX10_runCores 28 = .ok (.getfield 17, 3) := by decide +kernel
theorem dX10_runCores_31 : decode cX10_runCores 31 = .ok (.iload_n 2, 1) := by decide +kernel
theorem dX10_runCores_32 : decode cX10_runCores 32 = .ok (.aaload, 1) := by decide +kernel
theorem dX10_runCores_33 : decode cX10_runCores 33 = .ok (.iload_n 1, 1) := by decide +kernel
theorem dX10_runCores_34 : decode cX10_runCores 34 = .ok (.invokevirtual 33, 3) := by decide +kernel
theorem dX10_runCores_37 : decode cX10_runCores 37 = .ok (.iinc 2 1, 3) := by decide +kernel
theorem dX10_runCores_40 : decode cX10_runCores 40 = .ok (.goto (-38), 3) := by decide +kernel
theorem dX10_runCores_43 : decode cX10_runCores 43 = .ok (.return_, 1) := by decide +kernel
theorem dX10_passBarrier_0 : decode cX10_passBarrier 0 = .ok (.iconst 0, 1) := by decide +kernel
theorem dX10_passBarrier_1 : decode cX10_passBarrier 1 = .ok (.istore_n 1, 1) := by decide +kernel
theorem dX10_passBarrier_2 : decode cX10_passBarrier 2 = .ok (.iload_n 1, 1) := by decide +kernel
theorem dX10_passBarrier_3 : decode cX10_passBarrier 3 = .ok (.aload_n 0, 1) := by decide +kernel
theorem dX10_passBarrier_4 : decode cX10_passBarrier 4 = .ok (.getfield 7, 3) := by decide +kernel
theorem dX10_passBarrier_7 : decode cX10_passBarrier 7 = .ok (.getfield 21, 3) := by decide +kernel
theorem dX10_passBarrier_10 : decode cX10_passBarrier 10 = .ok (.if_icmp .ge 22, 3) := by decide +kernel
theorem dX10_passBarrier_13 : decode cX10_passBarrier 13 = .ok (.aload_n 0, 1) := by decide +kernel
theorem dX10_passBarrier_14 : decode cX10_passBarrier 14 = .ok (.getfield 17, 3) := by decide +kernel
theorem dX10_passBarrier_17 : decode cX10_passBarrier 17 = .ok (.iload_n 1, 1) := by decide +kernel
theorem dX10_passBarrier_18 : decode cX10_passBarrier 18 = .ok (.aaload, 1) := by decide +kernel
theorem dX10_passBarrier_19 : decode cX10_passBarrier 19 = .ok (.invokevirtual 27, 3) := by decide +kernel
theorem dX10_passBarrier_22 : decode cX10_passBarrier 22 = .ok (.ifCond .eq 4, 3) := by decide +kernel
theorem dX10_passBarrier_25 : decode cX10_passBarrier 25 = .ok (.return_, 1) := by decide +kernel
theorem dX10_passBarrier_26 : decode cX10_passBarrier 26 = .ok (.iinc 1 1, 3) := by decide +kernel
theorem dX10_passBarrier_29 : decode cX10_passBarrier 29 = .ok (.goto (-27), 3) := by decide +kernel
theorem dX10_passBarrier_32 : decode cX10_passBarrier 32 = .ok (.iconst 0, 1) := by decide +kernel
theorem dX10_passBarrier_33 : decode cX10_passBarrier 33 = .ok (.istore_n 1, 1) := by decide +kernel
theorem dX10_passBarrier_34 : decode cX10_passBarrier 34 = .ok (.iload_n 1, 1) := by decide +kernel
theorem dX10_passBarrier_35 : decode cX10_passBarrier 35 = .ok (.aload_n 0, 1) := by decide +kernel
theorem dX10_passBarrier_36 : decode cX10_passBarrier 36 = .ok (.getfield 7, 3) := by decide +kernel
theorem dX10_passBarrier_39 : decode cX10_passBarrier 39 = .ok (.getfield 21, 3) := by decide +kernel
theorem dX10_passBarrier_42 : decode cX10_passBarrier 42 = .ok (.if_icmp .ge 41, 3) := by decide +kernel
theorem dX10_passBarrier_45 : decode cX10_passBarrier 45 = .ok (.aload_n 0, 1) := by decide +kernel
theorem dX10_passBarrier_46 : decode cX10_passBarrier 46 = .ok (.getfield 17, 3) := by decide +kernel
theorem dX10_passBarrier_49 : decode cX10_passBarrier 49 = .ok (.iload_n 1, 1) := by decide +kernel
theorem dX10_passBarrier_50 : decode cX10_passBarrier 50 = .ok (.aaload, 1) := by decide +kernel
theorem dX10_passBarrier_51 : decode cX10_passBarrier 51 = .ok (.astore_n 2, 1) := by decide +kernel
theorem dX10_passBarrier_52 : decode cX10_passBarrier 52 = .ok (.aload_n 2, 1) := by decide +kernel
theorem dX10_passBarrier_53 : decode cX10_passBarrier 53 = .ok (.getfield 75, 3) := by decide +kernel
theorem dX10_passBarrier_56 : decode cX10_passBarrier 56 = .ok (.bipush 98, 2) := by decide +kernel
theorem dX10_passBarrier_58 : decode cX10_passBarrier 58 = .ok (.if_icmp .ne 19, 3) := by decide +kernel
theorem dX10_passBarrier_61 : decode cX10_passBarrier 61 = .ok (.aload_n 2, 1) := by decide +kernel
theorem dX10_passBarrier_62 : decode cX10_passBarrier 62 = .ok (.bipush 114, 2) := by decide +kernel
theorem dX10_passBarrier_64 : decode cX10_passBarrier 64 = .ok (.putfield 75, 3) := by decide +kernel
theorem dX10_passBarrier_67 : decode cX10_passBarrier 67 = .ok (.aload_n 2, 1) := by decide +kernel
theorem dX10_passBarrier_68 : decode cX10_passBarrier 68 = .ok (.dup, 1) := by decide +kernel
theorem dX10_passBarrier_69 : decode cX10_passBarrier 69 = .ok (.getfield 48, 3) := by decide +kernel
theorem dX10_passBarrier_72 : decode cX10_passBarrier 72 = .ok (.iconst 1, 1) := by decide +kernel
theorem dX10_passBarrier_73 : decode cX10_passBarrier 73 = .ok (.iadd, 1) := by decide +kernel
theorem dX10_passBarrier_74 : decode cX10_passBarrier 74 = .ok (.putfield 48, 3) := by decide +kernel
theorem dX10_passBarrier_77 : decode cX10_passBarrier 77 = .ok (.iinc 1 1, 3) := by decide +kernel
theorem dX10_passBarrier_80 : decode cX10_passBarrier 80 = .ok (.goto (-46), 3) := by decide +kernel
theorem dX10_passBarrier_83 : decode cX10_passBarrier 83 = .ok (.return_, 1) := by decide +kernel
theorem dX10_countBusy_0 : decode cX10_countBusy 0 = .ok (.iconst 0, 1) := by decide +kernel
theorem dX10_countBusy_1 : decode cX10_countBusy 1 = .ok (.istore_n 1, 1) := by decide +kernel
theorem dX10_countBusy_2 : decode cX10_countBusy 2 = .ok (.iconst 0, 1) := by decide +kernel
theorem dX10_countBusy_3 : decode cX10_countBusy 3 = .ok (.istore_n 2, 1) := by decide +kernel
theorem dX10_countBusy_4 : decode cX10_countBusy 4 = .ok (.iload_n 2, 1) := by decide +kernel
theorem dX10_countBusy_5 : decode cX10_countBusy 5 = .ok (.aload_n 0, 1) := by decide +kernel
theorem dX10_countBusy_6 : decode cX10_countBusy 6 = .ok (.getfield 7, 3) := by decide +kernel
theorem dX10_countBusy_9 : decode cX10_countBusy 9 = .ok (.getfield 21, 3) := by decide +kernel
theorem dX10_countBusy_12 : decode cX10_countBusy 12 = .ok (.if_icmp .ge 24, 3) := by decide +kernel
theorem dX10_countBusy_15 : decode cX10_countBusy 15 = .ok (.aload_n 0, 1) := by decide +kernel
theorem dX10_countBusy_16 : decode cX10_countBusy 16 = .ok (.getfield 17, 3) := by decide +kernel
theorem dX10_countBusy_19 : decode cX10_countBusy 19 = .ok (.iload_n 2, 1) := by decide +kernel
theorem dX10_countBusy_20 : decode cX10_countBusy 20 = .ok (.aaload, 1) := by decide +kernel
theorem dX10_countBusy_21 : decode cX10_countBusy 21 = .ok (.invokevirtual 114, 3) := by decide +kernel
theorem dX10_countBusy_24 : decode cX10_countBusy 24 = .ok (.ifCond .eq 6, 3) := by decide +kernel
theorem dX10_countBusy_27 : decode cX10_countBusy 27 = .ok (.iinc 1 1, 3) := by decide +kernel
theorem dX10_countBusy_30 : decode cX10_countBusy 30 = .ok (.iinc 2 1, 3) := by decide +kernel
theorem dX10_countBusy_33 : decode cX10_countBusy 33 = .ok (.goto (-29), 3) := by decide +kernel
theorem dX10_countBusy_36 : decode cX10_countBusy 36 = .ok (.iload_n 1, 1) := by decide +kernel
theorem dX10_countBusy_37 : decode cX10_countBusy 37 = .ok (.ireturn, 1) := by decide +kernel
theorem dX11_needNode_0 : decode cX11_needNode 0 = .ok (.aload_n 0, 1) := by decide +kernel
theorem dX11_needNode_1 : decode cX11_needNode 1 = .ok (.getfield 10, 3) := by decide +kernel
theorem dX11_needNode_4 : decode cX11_needNode 4 = .ok (.iload_n 1, 1) := by decide +kernel
theorem dX11_needNode_5 : decode cX11_needNode 5 = .ok (.invokevirtual 419, 3) := by decide +kernel
theorem dX11_needNode_8 : decode cX11_needNode 8 = .ok (.ifCond .ne 14, 3) := by decide +kernel
theorem dX11_needNode_11 : decode cX11_needNode 11 = .ok (.new 423, 3) := by decide +kernel
theorem dX11_needNode_14 : decode cX11_needNode 14 = .ok (.dup, 1) := by decide +kernel
theorem dX11_needNode_15 : decode cX11_needNode 15 = .ok (.ldc_w 425, 3) := by decide +kernel
theorem dX11_needNode_18 : decode cX11_needNode 18 = .ok (.invokespecial 427, 3) := by decide +kernel
theorem dX11_needNode_21 : decode cX11_needNode 21 = .ok (.athrow, 1) := by decide +kernel
theorem dX11_needNode_22 : decode cX11_needNode 22 = .ok (.return_, 1) := by decide +kernel
theorem dX11_needNodes_0 : decode cX11_needNodes 0 = .ok (.aload_n 0, 1) := by decide +kernel
theorem dX11_needNodes_1 : decode cX11_needNodes 1 = .ok (.iload_n 1, 1) := by decide +kernel
theorem dX11_needNodes_2 : decode cX11_needNodes 2 = .ok (.invokevirtual 103, 3) := by decide +kernel
theorem dX11_needNodes_5 : decode cX11_needNodes 5 = .ok (.aload_n 0, 1) := by decide +kernel
theorem dX11_needNodes_6 : decode cX11_needNodes 6 = .ok (.iload_n 2, 1) := by decide +kernel
theorem dX11_needNodes_7 : decode cX11_needNodes 7 = .ok (.invokevirtual 103, 3) := by decide +kernel
theorem dX11_needNodes_10 : decode cX11_needNodes 10 = .ok (.return_, 1) := by decide +kernel
theorem dX11_needRange_0 : decode cX11_needRange 0 = .ok (.iload_n 1, 1) := by decide +kernel
theorem dX11_needRange_1 : decode cX11_needRange 1 = .ok (.iload_n 2, 1) := by decide +kernel
theorem dX11_needRange_2 : decode cX11_needRange 2 = .ok (.if_icmp .lt 8, 3) := by decide +kernel
theorem dX11_needRange_5 : decode cX11_needRange 5 = .ok (.iload_n 1, 1) := by decide +kernel
theorem dX11_needRange_6 : decode cX11_needRange 6 = .ok (.iload_n 3, 1) := by decide +kernel
theorem dX11_needRange_7 : decode cX11_needRange 7 = .ok (.if_icmp .le 14, 3) := by decide +kernel
theorem dX11_needRange_10 : decode cX11_needRange 10 = .ok (.new 109, 3) := by decide +kernel
theorem dX11_needRange_13 : decode cX11_needRange 13 = .ok (.dup, 1) := by decide +kernel
theorem dX11_needRange_14 : decode cX11_needRange 14 = .ok (.ldc_w 432, 3) := by decide +kernel
theorem dX11_needRange_17 : decode cX11_needRange 17 = .ok (.invokespecial 113, 3) := by decide +kernel
theorem dX11_needRange_20 : decode cX11_needRange 20 = .ok (.athrow, 1) := by decide +kernel
theorem dX11_needRange_21 : decode cX11_needRange 21 = .ok (.return_, 1) := by decide +kernel
theorem dX11_needRoom_0 : decode cX11_needRoom 0 = .ok (.aload_n 0, 1) := by decide +kernel
theorem dX11_needRoom_1 : decode cX11_needRoom 1 = .ok (.getfield 19, 3) := by decide +kernel
theorem dX11_needRoom_4 : decode cX11_needRoom 4 = .ok (.iload_n 1, 1) := by decide +kernel
theorem dX11_needRoom_5 : decode cX11_needRoom 5 = .ok (.invokevirtual 434, 3) := by decide +kernel
theorem dX11_needRoom_8 : decode cX11_needRoom 8 = .ok (.ifCond .ne 14, 3) := by decide +kernel
theorem dX11_needRoom_11 : decode cX11_needRoom 11 = .ok (.new 303, 3) := by decide +kernel
theorem dX11_needRoom_14 : decode cX11_needRoom 14 = .ok (.dup, 1) := by decide +kernel
theorem dX11_needRoom_15 : decode cX11_needRoom 15 = .ok (.ldc_w 437, 3) := by decide +kernel
theorem dX11_needRoom_18 : decode cX11_needRoom 18 = .ok (.invokespecial 307, 3) := by decide +kernel
theorem dX11_needRoom_21 : decode cX11_needRoom 21 = .ok (.athrow, 1) := by decide +kernel
theorem dX11_needRoom_22 : decode cX11_needRoom 22 = .ok (.return_, 1) := by decide +kernel
theorem dX11_send_0 : decode cX11_send 0 = .ok (.aload_n 0, 1) := by decide +kernel
theorem dX11_send_1 : decode cX11_send 1 = .ok (.iload_n 1, 1) := by decide +kernel
theorem dX11_send_2 : decode cX11_send 2 = .ok (.iload_n 2, 1) := by decide +kernel
theorem dX11_send_3 : decode cX11_send 3 = .ok (.invokevirtual 84, 3) := by decide +kernel
theorem dX11_send_6 : decode cX11_send 6 = .ok (.aload_n 0, 1) := by decide +kernel
theorem dX11_send_7 : decode cX11_send 7 = .ok (.iload 4, 2) := by decide +kernel
theorem dX11_send_9 : decode cX11_send 9 = .ok (.iconst 1, 1) := by decide +kernel
theorem dX11_send_10 : decode cX11_send 10 = .ok (.iconst 4, 1) := by decide +kernel
theorem dX11_send_11 : decode cX11_send 11 = .ok (.invokevirtual 87, 3) := by decide +kernel
theorem dX11_send_14 : decode cX11_send 14 = .ok (.aload_n 0, 1) := by decide +kernel
theorem dX11_send_15 : decode cX11_send 15 = .ok (.iconst 1, 1) := by decide +kernel
theorem dX11_send_16 : decode cX11_send 16 = .ok (.invokevirtual 91, 3) := by decide +kernel
theorem dX11_send_19 : decode cX11_send 19 = .ok (.aload_n 0, 1) := by decide +kernel
theorem dX11_send_20 : decode cX11_send 20 = .ok (.getfield 19, 3) := by decide +kernel
theorem dX11_send_23 : decode cX11_send 23 = .ok (.bipush 109, 2) := by decide +kernel
theorem dX11_send_25 : decode cX11_send 25 = .ok (.iload_n 1, 1) := by decide +kernel
theorem dX11_send_26 : decode cX11_send 26 = .ok (.iload_n 2, 1) := by decide +kernel
theorem dX11_send_27 : decode cX11_send 27 = .ok (.iload_n 3, 1) := by decide +kernel
theorem dX11_send_28 : decode cX11_send 28 = .ok (.iload 4, 2) := by decide +kernel
theorem dX11_send_30 : decode cX11_send 30 = .ok (.aload_n 0, 1) := by decide +kernel
theorem dX11_send_31 : decode cX11_send 31 = .ok (.getfield 58, 3) := by decide +kernel
theorem dX11_send_34 : decode cX11_send 34 = .ok (.getfield 95, 3) := by decide +kernel
theorem dX11_send_37 : decode cX11_send 37 = .ok (.invokevirtual 99, 3) := by decide +kernel
theorem dX11_send_40 : decode cX11_send 40 = .ok (.ireturn, 1) := by decide +kernel
def f_Ways_countPairs_b4 (μ : me_M) (K4 : Int32 → Int32 → Option Int32) (v1 : Int32) (v2 : Int32) : Option Int32 :=
  if (64 : Int32) ≤ v2 then
  (some v1)
  else
  (me_gd (me_inb v2 64) (
  me_bd (f_Int_bitCount μ (μ 28 0 (me_ix v2))) (fun r3 =>
  me_lt ((v1 + r3)) (fun x4 =>
  me_lt (me_inc v2 (1)) (fun x5 =>
  K4 x4 x5)))))
set_option maxHeartbeats 4000000 in
set_option maxRecDepth 100000 in
theorem z_Ways_countPairs_b4 {X : me_X} {B : me_B} {sz : Nat} (C : me_C X B RX9 cX9_countPairs 3 (some .int)) {μ : me_M} {v1 : Int32} {v2 : Int32}  {K4 : Int32 → Int32 → Option Int32} {r : Int32} (N : me_En X B sz (B, μ, .ok (some (me_i r))) 1 20 0 0) (hNx : me_Nx X) (hB : me_St B) (hK4 : ∀ (v1 : Int32) (v2 : Int32), K4 v1 v2 = some r → me_Z X B 0 0 μ 4 [(0, me_r 27 0), (1, me_i v1), (2, me_i v2)] [])  (hf : f_Ways_countPairs_b4 μ K4 v1 v2 = some r) : me_Z X B 0 0 μ 4 [(0, me_r 27 0), (1, me_i v1), (2, me_i v2)] [] := by
  unfold f_Ways_countPairs_b4 at hf
  refine me_iload_n C 2 dX9_countPairs_4 rfl rfl ?_
  refine me_bipush C (v := 64) dX9_countPairs_5 (by decide) ?_
  refine me_icmp_ge C (tgt := 28) dX9_countPairs_7 (by decide) (fun c1 => ?_) (fun c1 => ?_)
  · replace hf := me_ip c1 hf
    refine me_iload_n C 1 dX9_countPairs_28 rfl rfl ?_
    exact me_iret C N dX9_countPairs_29 (me_nri _) (by cases hf; rfl) (by decide) (by decide)
  · replace hf := me_in c1 hf
    refine me_iload_n C 1 dX9_countPairs_10 rfl rfl ?_
    refine me_aload_n C 0 (Or.inr (Or.inl ⟨_, rfl⟩)) dX9_countPairs_11 rfl rfl ?_
    refine me_getr C hB 2 (k' := 28) (i' := 0) fg_Ways_9 dX9_countPairs_12 rfl rfl ?_
    refine me_iload_n C 2 dX9_countPairs_15 rfl rfl ?_
    obtain ⟨g2, hf⟩ := me_gs hf
    refine me_iald C rfl (fun _ => rfl) g2 dX9_countPairs_16 ?_
    obtain ⟨r3, h_r3, hf⟩ := me_bs hf
    refine me_callS C N  (As := [me_i (μ 28 0 (me_ix v2))]) (st := [me_i v1]) 0 0 (c_Int_bitCount hB h_r3) ms_Int_bitCount ml_Ways_93 dX9_countPairs_17 rfl rfl ⟨by decide, by decide⟩ ⟨by decide, by decide, by decide, by decide⟩ (Nat.le_of_ble_eq_true rfl) ?_
    refine me_iadd C dX9_countPairs_20 ?_
    obtain ⟨x4, e_x4, hf⟩ := me_lts hf
    refine me_nm e_x4 ?_
    refine me_istore_n C 1 dX9_countPairs_21 rfl (by decide) (L' := [(1, me_i x4), (0, me_r 27 0), (2, me_i v2)]) rfl ?_
    obtain ⟨x5, e_x5, hf⟩ := me_lts hf
    refine me_iinc C (v := x5) (L' := [(2, me_i x5), (1, me_i x4), (0, me_r 27 0)]) dX9_countPairs_22 rfl e_x5.symm (by decide) rfl ?_
    refine me_goto C (tgt := 4) dX9_countPairs_25 (by decide) ?_
    refine me_dropI [(0, me_r 27 0), (1, me_i x4), (2, me_i x5)] [2, 1, 0] rfl ?_
    exact hK4 x4 x5 hf
def f_Ways_countPairs_h4 (μ : me_M) : Nat → Int32 → Int32 → Option Int32
  | 0, _, _ => none
  | n + 1, v1, v2 => f_Ways_countPairs_b4 μ (f_Ways_countPairs_h4 μ n) v1 v2
set_option maxHeartbeats 4000000 in
set_option maxRecDepth 100000 in
theorem z_Ways_countPairs_h4 {X : me_X} {B : me_B} {sz : Nat} (C : me_C X B RX9 cX9_countPairs 3 (some .int)) {μ : me_M}  {r : Int32} (N : me_En X B sz (B, μ, .ok (some (me_i r))) 1 20 0 0) (hNx : me_Nx X) (hB : me_St B)  : ∀ (n : Nat) (v1 : Int32) (v2 : Int32), f_Ways_countPairs_h4 μ n v1 v2 = some r → me_Z X B 0 0 μ 4 [(0, me_r 27 0), (1, me_i v1), (2, me_i v2)] [] := by
  intro n
  induction n with
  | zero => intro v1 v2  h; exact absurd (show (none : Option Int32) = some r from h) (fun q => by cases q)
  | succ n ih => intro v1 v2  h; exact z_Ways_countPairs_b4 C N hNx hB  (K4 := f_Ways_countPairs_h4 μ n) ih  h
def f_Ways_countPairs (μ : me_M) : Option Int32 :=
  f_Ways_countPairs_h4 μ me_FU (0 : Int32) (0 : Int32)
set_option maxHeartbeats 4000000 in
set_option maxRecDepth 100000 in
theorem z_Ways_countPairs {X : me_X} {B : me_B} {sz : Nat} (C : me_C X B RX9 cX9_countPairs 3 (some .int)) {μ : me_M}    {r : Int32} (N : me_En X B sz (B, μ, .ok (some (me_i r))) 1 20 0 0) (hNx : me_Nx X) (hB : me_St B)   (hf : f_Ways_countPairs μ = some r) : me_Z X B 0 0 μ 0 [(0, me_r 27 0)] [] := by
  unfold f_Ways_countPairs at hf
  refine me_iconst C (v := 0) dX9_countPairs_0 (by decide) ?_
  refine me_istore_n C 1 dX9_countPairs_1 rfl (by decide) (L' := [(1, me_i (0 : Int32)), (0, me_r 27 0)]) rfl ?_
  refine me_iconst C (v := 0) dX9_countPairs_2 (by decide) ?_
  refine me_istore_n C 2 dX9_countPairs_3 rfl (by decide) (L' := [(2, me_i (0 : Int32)), (1, me_i (0 : Int32)), (0, me_r 27 0)]) rfl ?_
  refine me_dropI [(0, me_r 27 0), (1, me_i (0 : Int32)), (2, me_i (0 : Int32))] [2, 1, 0] rfl ?_
  exact z_Ways_countPairs_h4 C N hNx hB me_FU (0 : Int32) (0 : Int32) hf
theorem c_Ways_countPairs {B : me_B} (hB : me_St B) {μ : me_M}  {r : Int32}  (hf : f_Ways_countPairs μ = some r) : ∀ l E z, l.stackTraces = false → me_Met l yX9_countPairs cX9_countPairs 3 (some .int) 1 20 0 0 E B μ z [me_r 27 0] (B, μ, .ok (some (me_i r))) :=
  fun _ _ _ hl => me_ofZ hl (by decide +kernel) (Nat.le_of_ble_eq_true rfl) (fun _ C N hNx => z_Ways_countPairs C N hNx hB  hf)

def f_Ways_endsOnward_b25 (μ : me_M) (K25 : Int32 → Int32 → Int32 → Option Int32) (v1 : Int32) (v2 : Int32) (v3 : Int32) : Option Int32 :=
  if (4 : Int32) ≤ v3 then
  (some (1 : Int32))
  else
  (me_gd (me_inb v1 64) (
  if (((μ 28 0 (me_ix v1)) >>> (v3 &&& 31)) &&& (1 : Int32)) = 0 then
  (me_lt (me_inc v3 (1)) (fun x4 =>
  K25 v1 v2 x4))
  else
  (me_gd (me_inb ((v2 * (4 : Int32)) + v3) 64) (
  if (μ 29 0 (me_ix ((v2 * (4 : Int32)) + v3))) = 0 then
  (some (0 : Int32))
  else
  (me_lt (me_inc v3 (1)) (fun x7 =>
  K25 v1 v2 x7))))))
set_option maxHeartbeats 4000000 in
set_option maxRecDepth 100000 in
theorem z_Ways_endsOnward_b25 {X : me_X} {B : me_B} {sz : Nat} (C : me_C X B RX9 cX9_endsOnward 4 (some .boolean)) {μ : me_M} {v1 : Int32} {v2 : Int32} {v3 : Int32}  {K25 : Int32 → Int32 → Int32 → Option Int32} {r : Int32} (N : me_En X B sz (B, μ, .ok (some (me_i r))) 1 21 0 0) (hNx : me_Nx X) (hB : me_St B) (hK25 : ∀ (v1 : Int32) (v2 : Int32) (v3 : Int32), K25 v1 v2 v3 = some r → me_Z X B 0 0 μ 25 [(0, me_r 27 0), (1, me_i v1), (2, me_i v2), (3, me_i v3)] [])  (hf : f_Ways_endsOnward_b25 μ K25 v1 v2 v3 = some r) : me_Z X B 0 0 μ 25 [(0, me_r 27 0), (1, me_i v1), (2, me_i v2), (3, me_i v3)] [] := by
  unfold f_Ways_endsOnward_b25 at hf
  refine me_iload_n C 3 dX9_endsOnward_25 rfl rfl ?_
  refine me_iconst C (v := 4) dX9_endsOnward_26 (by decide) ?_
  refine me_icmp_ge C (tgt := 64) dX9_endsOnward_27 (by decide) (fun c1 => ?_) (fun c1 => ?_)
  · replace hf := me_ip c1 hf
    refine me_iconst C (v := 1) dX9_endsOnward_64 (by decide) ?_
    exact me_iret C N dX9_endsOnward_65 (by decide +kernel) (by cases hf; rfl) (by decide) (by decide)
  · replace hf := me_in c1 hf
    refine me_aload_n C 0 (Or.inr (Or.inl ⟨_, rfl⟩)) dX9_endsOnward_30 rfl rfl ?_
    refine me_getr C hB 2 (k' := 28) (i' := 0) fg_Ways_9 dX9_endsOnward_31 rfl rfl ?_
    refine me_iload_n C 1 dX9_endsOnward_34 rfl rfl ?_
    obtain ⟨g2, hf⟩ := me_gs hf
    refine me_iald C rfl (fun _ => rfl) g2 dX9_endsOnward_35 ?_
    refine me_iload_n C 3 dX9_endsOnward_36 rfl rfl ?_
    refine me_ishr C dX9_endsOnward_37 ?_
    refine me_iconst C (v := 1) dX9_endsOnward_38 (by decide) ?_
    refine me_iand C dX9_endsOnward_39 ?_
    refine me_if_eq C (tgt := 58) dX9_endsOnward_40 (by decide) (fun c3 => ?_) (fun c3 => ?_)
    · replace hf := me_ip c3 hf
      obtain ⟨x4, e_x4, hf⟩ := me_lts hf
      refine me_iinc C (v := x4) (L' := [(3, me_i x4), (0, me_r 27 0), (1, me_i v1), (2, me_i v2)]) dX9_endsOnward_58 rfl e_x4.symm (by decide) rfl ?_
      refine me_goto C (tgt := 25) dX9_endsOnward_61 (by decide) ?_
      refine me_dropI [(0, me_r 27 0), (1, me_i v1), (2, me_i v2), (3, me_i x4)] [1, 2, 3, 0] rfl ?_
      exact hK25 v1 v2 x4 hf
    · replace hf := me_in c3 hf
      refine me_aload_n C 0 (Or.inr (Or.inl ⟨_, rfl⟩)) dX9_endsOnward_43 rfl rfl ?_
      refine me_getr C hB 3 (k' := 29) (i' := 0) fg_Ways_15 dX9_endsOnward_44 rfl rfl ?_
      refine me_iload_n C 2 dX9_endsOnward_47 rfl rfl ?_
      refine me_iconst C (v := 4) dX9_endsOnward_48 (by decide) ?_
      refine me_imul C dX9_endsOnward_49 ?_
      refine me_iload_n C 3 dX9_endsOnward_50 rfl rfl ?_
      refine me_iadd C dX9_endsOnward_51 ?_
      obtain ⟨g5, hf⟩ := me_gs hf
      refine me_zald C rfl (fun _ => rfl) g5 dX9_endsOnward_52 ?_
      refine me_if_ne C (tgt := 58) dX9_endsOnward_53 (by decide) (fun c6 => ?_) (fun c6 => ?_)
      · replace hf := me_in c6 hf
        obtain ⟨x7, e_x7, hf⟩ := me_lts hf
        refine me_iinc C (v := x7) (L' := [(3, me_i x7), (0, me_r 27 0), (1, me_i v1), (2, me_i v2)]) dX9_endsOnward_58 rfl e_x7.symm (by decide) rfl ?_
        refine me_goto C (tgt := 25) dX9_endsOnward_61 (by decide) ?_
        refine me_dropI [(0, me_r 27 0), (1, me_i v1), (2, me_i v2), (3, me_i x7)] [1, 2, 3, 0] rfl ?_
        exact hK25 v1 v2 x7 hf
      · replace hf := me_ip c6 hf
        refine me_iconst C (v := 0) dX9_endsOnward_56 (by decide) ?_
        exact me_iret C N dX9_endsOnward_57 (by decide +kernel) (by cases hf; rfl) (by decide) (by decide)
def f_Ways_endsOnward_h25 (μ : me_M) : Nat → Int32 → Int32 → Int32 → Option Int32
  | 0, _, _, _ => none
  | n + 1, v1, v2, v3 => f_Ways_endsOnward_b25 μ (f_Ways_endsOnward_h25 μ n) v1 v2 v3
set_option maxHeartbeats 4000000 in
set_option maxRecDepth 100000 in
theorem z_Ways_endsOnward_h25 {X : me_X} {B : me_B} {sz : Nat} (C : me_C X B RX9 cX9_endsOnward 4 (some .boolean)) {μ : me_M}  {r : Int32} (N : me_En X B sz (B, μ, .ok (some (me_i r))) 1 21 0 0) (hNx : me_Nx X) (hB : me_St B)  : ∀ (n : Nat) (v1 : Int32) (v2 : Int32) (v3 : Int32), f_Ways_endsOnward_h25 μ n v1 v2 v3 = some r → me_Z X B 0 0 μ 25 [(0, me_r 27 0), (1, me_i v1), (2, me_i v2), (3, me_i v3)] [] := by
  intro n
  induction n with
  | zero => intro v1 v2 v3  h; exact absurd (show (none : Option Int32) = some r from h) (fun q => by cases q)
  | succ n ih => intro v1 v2 v3  h; exact z_Ways_endsOnward_b25 C N hNx hB  (K25 := f_Ways_endsOnward_h25 μ n) ih  h
def f_Ways_endsOnward (μ : me_M) (v1 : Int32) : Option Int32 :=
  me_gd (me_inb v1 64) (
  me_lt ((μ 2 0 (me_ix v1))) (fun x2 =>
  me_bd (f_Net_hasNode μ x2) (fun r3 =>
  if r3 = 0 then
  (some (1 : Int32))
  else
  (f_Ways_endsOnward_h25 μ me_FU v1 x2 (0 : Int32)))))
set_option maxHeartbeats 4000000 in
set_option maxRecDepth 100000 in
theorem z_Ways_endsOnward {X : me_X} {B : me_B} {sz : Nat} (C : me_C X B RX9 cX9_endsOnward 4 (some .boolean)) {μ : me_M} {v1 : Int32}   {r : Int32} (N : me_En X B sz (B, μ, .ok (some (me_i r))) 1 21 0 0) (hNx : me_Nx X) (hB : me_St B)   (hf : f_Ways_endsOnward μ v1 = some r) : me_Z X B 0 0 μ 0 [(0, me_r 27 0), (1, me_i v1)] [] := by
  unfold f_Ways_endsOnward at hf
  refine me_aload_n C 0 (Or.inr (Or.inl ⟨_, rfl⟩)) dX9_endsOnward_0 rfl rfl ?_
  refine me_getr C hB 0 (k' := 1) (i' := 0) fg_Ways_23 dX9_endsOnward_1 rfl rfl ?_
  refine me_getr C hB 0 (k' := 2) (i' := 0) fg_Ways_52 dX9_endsOnward_4 rfl rfl ?_
  refine me_iload_n C 1 dX9_endsOnward_7 rfl rfl ?_
  obtain ⟨g1, hf⟩ := me_gs hf
  refine me_iald C rfl (fun _ => rfl) g1 dX9_endsOnward_8 ?_
  obtain ⟨x2, e_x2, hf⟩ := me_lts hf
  refine me_nm e_x2 ?_
  refine me_istore_n C 2 dX9_endsOnward_9 rfl (by decide) (L' := [(2, me_i x2), (0, me_r 27 0), (1, me_i v1)]) rfl ?_
  refine me_aload_n C 0 (Or.inr (Or.inl ⟨_, rfl⟩)) dX9_endsOnward_10 rfl rfl ?_
  refine me_getr C hB 0 (k' := 1) (i' := 0) fg_Ways_23 dX9_endsOnward_11 rfl rfl ?_
  refine me_iload_n C 2 dX9_endsOnward_14 rfl rfl ?_
  obtain ⟨r3, h_r3, hf⟩ := me_bs hf
  refine me_callV C N  (As := [me_i x2]) (st := []) 0 0 (c_Net_hasNode hB h_r3) mv_Net_hasNode ml_Ways_81 rfl rfl dX9_endsOnward_15 rfl rfl ⟨by decide, by decide⟩ ⟨by decide, by decide, by decide, by decide⟩ (Nat.le_of_ble_eq_true rfl) ?_
  refine me_if_ne C (tgt := 23) dX9_endsOnward_18 (by decide) (fun c4 => ?_) (fun c4 => ?_)
  · replace hf := me_in c4 hf
    refine me_iconst C (v := 0) dX9_endsOnward_23 (by decide) ?_
    refine me_istore_n C 3 dX9_endsOnward_24 rfl (by decide) (L' := [(3, me_i (0 : Int32)), (2, me_i x2), (0, me_r 27 0), (1, me_i v1)]) rfl ?_
    refine me_dropI [(0, me_r 27 0), (1, me_i v1), (2, me_i x2), (3, me_i (0 : Int32))] [2, 3, 1, 0] rfl ?_
    exact z_Ways_endsOnward_h25 C N hNx hB me_FU v1 x2 (0 : Int32) hf
  · replace hf := me_ip c4 hf
    refine me_iconst C (v := 1) dX9_endsOnward_21 (by decide) ?_
    exact me_iret C N dX9_endsOnward_22 (by decide +kernel) (by cases hf; rfl) (by decide) (by decide)
theorem c_Ways_endsOnward {B : me_B} (hB : me_St B) {μ : me_M} {v1 : Int32} {r : Int32}  (hf : f_Ways_endsOnward μ v1 = some r) : ∀ l E z, l.stackTraces = false → me_Met l yX9_endsOnward cX9_endsOnward 4 (some .boolean) 1 21 0 0 E B μ z [me_r 27 0, me_i v1] (B, μ, .ok (some (me_i r))) :=
  fun _ _ _ hl => me_ofZ hl (by decide +kernel) (Nat.le_of_ble_eq_true rfl) (fun _ C N hNx => z_Ways_endsOnward C N hNx hB  hf)

def f_Ways_findsRing_b86 (K39 : me_M → Int32 → Int32 → Option (me_M × Int32)) (K53 : me_M → Int32 → Int32 → Int32 → Option (me_M × Int32)) (μ : me_M) (v1 : Int32) (v2 : Int32) (v3 : Int32) (s0 : Int32) (s1 : Int32) : Option (me_M × Int32) :=
  me_gd (me_inb s1 64) (
  me_lt (me_up μ 29 0 (me_ix s1) (vp_nar .boolean s0)) (fun μ2 =>
  me_gd (me_inb v3 64) (
  if (μ2 29 0 (me_ix v3)) = 0 then
  (me_lt ((v1 + (1 : Int32))) (fun x5 =>
  me_lt (me_inc v3 (1)) (fun x6 =>
  K53 μ2 x5 v2 x6)))
  else
  (me_lt ((v1 + (0 : Int32))) (fun x7 =>
  me_lt (me_inc v3 (1)) (fun x8 =>
  K53 μ2 x7 v2 x8))))))
set_option maxHeartbeats 4000000 in
set_option maxRecDepth 100000 in
theorem z_Ways_findsRing_b86 {X : me_X} {B : me_B} {sz : Nat} (C : me_C X B RX9 cX9_findsRing 4 (some .boolean)) {μ : me_M} {v1 : Int32} {v2 : Int32} {v3 : Int32} {s0 : Int32} {s1 : Int32}  {K39 : me_M → Int32 → Int32 → Option (me_M × Int32)} {K53 : me_M → Int32 → Int32 → Int32 → Option (me_M × Int32)} {r : me_M × Int32} (N : me_En X B sz (B, r.1, .ok (some (me_i r.2))) 2 44 0 0) (hNx : me_Nx X) (hB : me_St B) (hK39 : ∀ (μ : me_M) (v1 : Int32) (v2 : Int32), K39 μ v1 v2 = some r → me_Z X B 0 0 μ 39 [(0, me_r 27 0), (1, me_i v1), (2, me_i v2)] []) (hK53 : ∀ (μ : me_M) (v1 : Int32) (v2 : Int32) (v3 : Int32), K53 μ v1 v2 v3 = some r → me_Z X B 0 0 μ 53 [(0, me_r 27 0), (1, me_i v1), (2, me_i v2), (3, me_i v3)] [])  (hf : f_Ways_findsRing_b86 K39 K53 μ v1 v2 v3 s0 s1 = some r) : me_Z X B 0 0 μ 86 [(0, me_r 27 0), (1, me_i v1), (2, me_i v2), (3, me_i v3)] [me_i s0, me_i s1, me_r 29 0] := by
  unfold f_Ways_findsRing_b86 at hf
  obtain ⟨g1, hf⟩ := me_gs hf
  obtain ⟨μ2, e_μ2, hf⟩ := me_lts hf
  refine me_zast C rfl (fun _ => rfl) g1 dX9_findsRing_86 e_μ2 ?_
  refine me_iload_n C 1 dX9_findsRing_87 rfl rfl ?_
  refine me_aload_n C 0 (Or.inr (Or.inl ⟨_, rfl⟩)) dX9_findsRing_88 rfl rfl ?_
  refine me_getr C hB 3 (k' := 29) (i' := 0) fg_Ways_15 dX9_findsRing_89 rfl rfl ?_
  refine me_iload_n C 3 dX9_findsRing_92 rfl rfl ?_
  obtain ⟨g3, hf⟩ := me_gs hf
  refine me_zald C rfl (fun _ => rfl) g3 dX9_findsRing_93 ?_
  refine me_if_eq C (tgt := 101) dX9_findsRing_94 (by decide) (fun c4 => ?_) (fun c4 => ?_)
  · replace hf := me_ip c4 hf
    refine me_iconst C (v := 1) dX9_findsRing_101 (by decide) ?_
    refine me_iadd C dX9_findsRing_102 ?_
    obtain ⟨x5, e_x5, hf⟩ := me_lts hf
    refine me_nm e_x5 ?_
    refine me_istore_n C 1 dX9_findsRing_103 rfl (by decide) (L' := [(1, me_i x5), (0, me_r 27 0), (2, me_i v2), (3, me_i v3)]) rfl ?_
    obtain ⟨x6, e_x6, hf⟩ := me_lts hf
    refine me_iinc C (v := x6) (L' := [(3, me_i x6), (1, me_i x5), (0, me_r 27 0), (2, me_i v2)]) dX9_findsRing_104 rfl e_x6.symm (by decide) rfl ?_
    refine me_goto C (tgt := 53) dX9_findsRing_107 (by decide) ?_
    refine me_dropI [(0, me_r 27 0), (1, me_i x5), (2, me_i v2), (3, me_i x6)] [2, 1, 3, 0] rfl ?_
    exact hK53 μ2 x5 v2 x6 hf
  · replace hf := me_in c4 hf
    refine me_iconst C (v := 0) dX9_findsRing_97 (by decide) ?_
    refine me_goto C (tgt := 102) dX9_findsRing_98 (by decide) ?_
    refine me_iadd C dX9_findsRing_102 ?_
    obtain ⟨x7, e_x7, hf⟩ := me_lts hf
    refine me_nm e_x7 ?_
    refine me_istore_n C 1 dX9_findsRing_103 rfl (by decide) (L' := [(1, me_i x7), (0, me_r 27 0), (2, me_i v2), (3, me_i v3)]) rfl ?_
    obtain ⟨x8, e_x8, hf⟩ := me_lts hf
    refine me_iinc C (v := x8) (L' := [(3, me_i x8), (1, me_i x7), (0, me_r 27 0), (2, me_i v2)]) dX9_findsRing_104 rfl e_x8.symm (by decide) rfl ?_
    refine me_goto C (tgt := 53) dX9_findsRing_107 (by decide) ?_
    refine me_dropI [(0, me_r 27 0), (1, me_i x7), (2, me_i v2), (3, me_i x8)] [2, 1, 3, 0] rfl ?_
    exact hK53 μ2 x7 v2 x8 hf
def f_Ways_findsRing_b81 (K39 : me_M → Int32 → Int32 → Option (me_M × Int32)) (K53 : me_M → Int32 → Int32 → Int32 → Option (me_M × Int32)) (μ : me_M) (v1 : Int32) (v2 : Int32) (v3 : Int32) (s0 : Int32) : Option (me_M × Int32) :=
  f_Ways_findsRing_b86 K39 K53 μ v1 v2 v3 (1 : Int32) s0
set_option maxHeartbeats 4000000 in
set_option maxRecDepth 100000 in
theorem z_Ways_findsRing_b81 {X : me_X} {B : me_B} {sz : Nat} (C : me_C X B RX9 cX9_findsRing 4 (some .boolean)) {μ : me_M} {v1 : Int32} {v2 : Int32} {v3 : Int32} {s0 : Int32}  {K39 : me_M → Int32 → Int32 → Option (me_M × Int32)} {K53 : me_M → Int32 → Int32 → Int32 → Option (me_M × Int32)} {r : me_M × Int32} (N : me_En X B sz (B, r.1, .ok (some (me_i r.2))) 2 44 0 0) (hNx : me_Nx X) (hB : me_St B) (hK39 : ∀ (μ : me_M) (v1 : Int32) (v2 : Int32), K39 μ v1 v2 = some r → me_Z X B 0 0 μ 39 [(0, me_r 27 0), (1, me_i v1), (2, me_i v2)] []) (hK53 : ∀ (μ : me_M) (v1 : Int32) (v2 : Int32) (v3 : Int32), K53 μ v1 v2 v3 = some r → me_Z X B 0 0 μ 53 [(0, me_r 27 0), (1, me_i v1), (2, me_i v2), (3, me_i v3)] [])  (hf : f_Ways_findsRing_b81 K39 K53 μ v1 v2 v3 s0 = some r) : me_Z X B 0 0 μ 81 [(0, me_r 27 0), (1, me_i v1), (2, me_i v2), (3, me_i v3)] [me_i s0, me_r 29 0] := by
  unfold f_Ways_findsRing_b81 at hf
  refine me_iconst C (v := 1) dX9_findsRing_81 (by decide) ?_
  refine me_goto C (tgt := 86) dX9_findsRing_82 (by decide) ?_
  refine me_dropI [(0, me_r 27 0), (1, me_i v1), (2, me_i v2), (3, me_i v3)] [0, 1, 2, 3] rfl ?_
  exact z_Ways_findsRing_b86 C N hNx hB hK39 hK53 hf
def f_Ways_findsRing_b53 (K39 : me_M → Int32 → Int32 → Option (me_M × Int32)) (K53 : me_M → Int32 → Int32 → Int32 → Option (me_M × Int32)) (μ : me_M) (v1 : Int32) (v2 : Int32) (v3 : Int32) : Option (me_M × Int32) :=
  if (64 : Int32) ≤ v3 then
  (me_lt (me_inc v2 (1)) (fun x2 =>
  K39 μ v1 x2))
  else
  (me_gd (me_inb v3 64) (
  if (μ 29 0 (me_ix v3)) = 0 then
  (me_bd (f_Ways_endsOnward μ v3) (fun r5 =>
  if r5 = 0 then
  (f_Ways_findsRing_b86 K39 K53 μ v1 v2 v3 (0 : Int32) v3)
  else
  (f_Ways_findsRing_b81 K39 K53 μ v1 v2 v3 v3)))
  else
  (f_Ways_findsRing_b81 K39 K53 μ v1 v2 v3 v3)))
set_option maxHeartbeats 4000000 in
set_option maxRecDepth 100000 in
theorem z_Ways_findsRing_b53 {X : me_X} {B : me_B} {sz : Nat} (C : me_C X B RX9 cX9_findsRing 4 (some .boolean)) {μ : me_M} {v1 : Int32} {v2 : Int32} {v3 : Int32}  {K39 : me_M → Int32 → Int32 → Option (me_M × Int32)} {K53 : me_M → Int32 → Int32 → Int32 → Option (me_M × Int32)} {r : me_M × Int32} (N : me_En X B sz (B, r.1, .ok (some (me_i r.2))) 2 44 0 0) (hNx : me_Nx X) (hB : me_St B) (hK39 : ∀ (μ : me_M) (v1 : Int32) (v2 : Int32), K39 μ v1 v2 = some r → me_Z X B 0 0 μ 39 [(0, me_r 27 0), (1, me_i v1), (2, me_i v2)] []) (hK53 : ∀ (μ : me_M) (v1 : Int32) (v2 : Int32) (v3 : Int32), K53 μ v1 v2 v3 = some r → me_Z X B 0 0 μ 53 [(0, me_r 27 0), (1, me_i v1), (2, me_i v2), (3, me_i v3)] [])  (hf : f_Ways_findsRing_b53 K39 K53 μ v1 v2 v3 = some r) : me_Z X B 0 0 μ 53 [(0, me_r 27 0), (1, me_i v1), (2, me_i v2), (3, me_i v3)] [] := by
  unfold f_Ways_findsRing_b53 at hf
  refine me_iload_n C 3 dX9_findsRing_53 rfl rfl ?_
  refine me_bipush C (v := 64) dX9_findsRing_54 (by decide) ?_
  refine me_icmp_ge C (tgt := 110) dX9_findsRing_56 (by decide) (fun c1 => ?_) (fun c1 => ?_)
  · replace hf := me_ip c1 hf
    obtain ⟨x2, e_x2, hf⟩ := me_lts hf
    refine me_iinc C (v := x2) (L' := [(2, me_i x2), (0, me_r 27 0), (1, me_i v1), (3, me_i v3)]) dX9_findsRing_110 rfl e_x2.symm (by decide) rfl ?_
    refine me_goto C (tgt := 39) dX9_findsRing_113 (by decide) ?_
    refine me_dropI [(0, me_r 27 0), (1, me_i v1), (2, me_i x2)] [1, 2, 0] rfl ?_
    exact hK39 μ v1 x2 hf
  · replace hf := me_in c1 hf
    refine me_aload_n C 0 (Or.inr (Or.inl ⟨_, rfl⟩)) dX9_findsRing_59 rfl rfl ?_
    refine me_getr C hB 3 (k' := 29) (i' := 0) fg_Ways_15 dX9_findsRing_60 rfl rfl ?_
    refine me_iload_n C 3 dX9_findsRing_63 rfl rfl ?_
    refine me_aload_n C 0 (Or.inr (Or.inl ⟨_, rfl⟩)) dX9_findsRing_64 rfl rfl ?_
    refine me_getr C hB 3 (k' := 29) (i' := 0) fg_Ways_15 dX9_findsRing_65 rfl rfl ?_
    refine me_iload_n C 3 dX9_findsRing_68 rfl rfl ?_
    obtain ⟨g3, hf⟩ := me_gs hf
    refine me_zald C rfl (fun _ => rfl) g3 dX9_findsRing_69 ?_
    refine me_if_ne C (tgt := 81) dX9_findsRing_70 (by decide) (fun c4 => ?_) (fun c4 => ?_)
    · replace hf := me_in c4 hf
      refine me_dropI [(0, me_r 27 0), (1, me_i v1), (2, me_i v2), (3, me_i v3)] [0, 1, 2, 3] rfl ?_
      exact z_Ways_findsRing_b81 C N hNx hB hK39 hK53 hf
    · replace hf := me_ip c4 hf
      refine me_aload_n C 0 (Or.inr (Or.inl ⟨_, rfl⟩)) dX9_findsRing_73 rfl rfl ?_
      refine me_iload_n C 3 dX9_findsRing_74 rfl rfl ?_
      obtain ⟨r5, h_r5, hf⟩ := me_bs hf
      refine me_callV C N  (As := [me_i v3]) (st := [me_i v3, me_r 29 0]) 0 0 (c_Ways_endsOnward hB h_r5) mv_Ways_endsOnward ml_Ways_98 rfl rfl dX9_findsRing_75 rfl rfl ⟨by decide, by decide⟩ ⟨by decide, by decide, by decide, by decide⟩ (Nat.le_of_ble_eq_true rfl) ?_
      refine me_if_eq C (tgt := 85) dX9_findsRing_78 (by decide) (fun c6 => ?_) (fun c6 => ?_)
      · replace hf := me_ip c6 hf
        refine me_iconst C (v := 0) dX9_findsRing_85 (by decide) ?_
        refine me_dropI [(0, me_r 27 0), (1, me_i v1), (2, me_i v2), (3, me_i v3)] [0, 1, 2, 3] rfl ?_
        exact z_Ways_findsRing_b86 C N hNx hB hK39 hK53 hf
      · replace hf := me_in c6 hf
        refine me_dropI [(0, me_r 27 0), (1, me_i v1), (2, me_i v2), (3, me_i v3)] [0, 1, 2, 3] rfl ?_
        exact z_Ways_findsRing_b81 C N hNx hB hK39 hK53 hf
def f_Ways_findsRing_h53 (K39 : me_M → Int32 → Int32 → Option (me_M × Int32)) : Nat → me_M → Int32 → Int32 → Int32 → Option (me_M × Int32)
  | 0, _, _, _, _ => none
  | n + 1, μ, v1, v2, v3 => f_Ways_findsRing_b53 K39 (f_Ways_findsRing_h53 K39 n) μ v1 v2 v3
set_option maxHeartbeats 4000000 in
set_option maxRecDepth 100000 in
theorem z_Ways_findsRing_h53 {X : me_X} {B : me_B} {sz : Nat} (C : me_C X B RX9 cX9_findsRing 4 (some .boolean)) {K39 : me_M → Int32 → Int32 → Option (me_M × Int32)} {r : me_M × Int32} (N : me_En X B sz (B, r.1, .ok (some (me_i r.2))) 2 44 0 0) (hNx : me_Nx X) (hB : me_St B) (hK39 : ∀ (μ : me_M) (v1 : Int32) (v2 : Int32), K39 μ v1 v2 = some r → me_Z X B 0 0 μ 39 [(0, me_r 27 0), (1, me_i v1), (2, me_i v2)] []) : ∀ (n : Nat) (μ : me_M) (v1 : Int32) (v2 : Int32) (v3 : Int32), f_Ways_findsRing_h53 K39 n μ v1 v2 v3 = some r → me_Z X B 0 0 μ 53 [(0, me_r 27 0), (1, me_i v1), (2, me_i v2), (3, me_i v3)] [] := by
  intro n
  induction n with
  | zero => intro μ v1 v2 v3  h; exact absurd (show (none : Option (me_M × Int32)) = some r from h) (fun q => by cases q)
  | succ n ih => intro μ v1 v2 v3  h; exact z_Ways_findsRing_b53 C N hNx hB hK39 (K53 := f_Ways_findsRing_h53 K39 n) ih  h
def f_Ways_findsRing_b116 (μ : me_M) (v1 : Int32) : Option (me_M × Int32) :=
  if v1 ≤ 0 then
  (some (μ, (0 : Int32)))
  else
  (some (μ, (1 : Int32)))
set_option maxHeartbeats 4000000 in
set_option maxRecDepth 100000 in
theorem z_Ways_findsRing_b116 {X : me_X} {B : me_B} {sz : Nat} (C : me_C X B RX9 cX9_findsRing 4 (some .boolean)) {μ : me_M} {v1 : Int32}   {r : me_M × Int32} (N : me_En X B sz (B, r.1, .ok (some (me_i r.2))) 2 44 0 0) (hNx : me_Nx X) (hB : me_St B)   (hf : f_Ways_findsRing_b116 μ v1 = some r) : me_Z X B 0 0 μ 116 [(1, me_i v1)] [] := by
  unfold f_Ways_findsRing_b116 at hf
  refine me_iload_n C 1 dX9_findsRing_116 rfl rfl ?_
  refine me_if_le C (tgt := 124) dX9_findsRing_117 (by decide) (fun c1 => ?_) (fun c1 => ?_)
  · replace hf := me_ip c1 hf
    refine me_iconst C (v := 0) dX9_findsRing_124 (by decide) ?_
    exact me_iret C N dX9_findsRing_125 (by decide +kernel) (by cases hf; rfl) (by decide) (by decide)
  · replace hf := me_in c1 hf
    refine me_iconst C (v := 1) dX9_findsRing_120 (by decide) ?_
    refine me_goto C (tgt := 125) dX9_findsRing_121 (by decide) ?_
    exact me_iret C N dX9_findsRing_125 (by decide +kernel) (by cases hf; rfl) (by decide) (by decide)
def f_Ways_findsRing_b39 (K39 : me_M → Int32 → Int32 → Option (me_M × Int32)) (μ : me_M) (v1 : Int32) (v2 : Int32) : Option (me_M × Int32) :=
  if (64 : Int32) ≤ v2 then
  (f_Ways_findsRing_b116 μ v1)
  else
  (if v1 ≤ 0 then
  (f_Ways_findsRing_b116 μ v1)
  else
  (f_Ways_findsRing_h53 K39 me_FU μ (0 : Int32) v2 (0 : Int32)))
set_option maxHeartbeats 4000000 in
set_option maxRecDepth 100000 in
theorem z_Ways_findsRing_b39 {X : me_X} {B : me_B} {sz : Nat} (C : me_C X B RX9 cX9_findsRing 4 (some .boolean)) {μ : me_M} {v1 : Int32} {v2 : Int32}  {K39 : me_M → Int32 → Int32 → Option (me_M × Int32)} {r : me_M × Int32} (N : me_En X B sz (B, r.1, .ok (some (me_i r.2))) 2 44 0 0) (hNx : me_Nx X) (hB : me_St B) (hK39 : ∀ (μ : me_M) (v1 : Int32) (v2 : Int32), K39 μ v1 v2 = some r → me_Z X B 0 0 μ 39 [(0, me_r 27 0), (1, me_i v1), (2, me_i v2)] [])  (hf : f_Ways_findsRing_b39 K39 μ v1 v2 = some r) : me_Z X B 0 0 μ 39 [(0, me_r 27 0), (1, me_i v1), (2, me_i v2)] [] := by
  unfold f_Ways_findsRing_b39 at hf
  refine me_iload_n C 2 dX9_findsRing_39 rfl rfl ?_
  refine me_bipush C (v := 64) dX9_findsRing_40 (by decide) ?_
  refine me_icmp_ge C (tgt := 116) dX9_findsRing_42 (by decide) (fun c1 => ?_) (fun c1 => ?_)
  · replace hf := me_ip c1 hf
    refine me_dropI [(1, me_i v1)] [1] rfl ?_
    exact z_Ways_findsRing_b116 C N hNx hB hf
  · replace hf := me_in c1 hf
    refine me_iload_n C 1 dX9_findsRing_45 rfl rfl ?_
    refine me_if_le C (tgt := 116) dX9_findsRing_46 (by decide) (fun c2 => ?_) (fun c2 => ?_)
    · replace hf := me_ip c2 hf
      refine me_dropI [(1, me_i v1)] [1] rfl ?_
      exact z_Ways_findsRing_b116 C N hNx hB hf
    · replace hf := me_in c2 hf
      refine me_iconst C (v := 0) dX9_findsRing_49 (by decide) ?_
      refine me_istore_n C 1 dX9_findsRing_50 rfl (by decide) (L' := [(1, me_i (0 : Int32)), (0, me_r 27 0), (2, me_i v2)]) rfl ?_
      refine me_iconst C (v := 0) dX9_findsRing_51 (by decide) ?_
      refine me_istore_n C 3 dX9_findsRing_52 rfl (by decide) (L' := [(3, me_i (0 : Int32)), (1, me_i (0 : Int32)), (0, me_r 27 0), (2, me_i v2)]) rfl ?_
      refine me_dropI [(0, me_r 27 0), (1, me_i (0 : Int32)), (2, me_i v2), (3, me_i (0 : Int32))] [2, 1, 3, 0] rfl ?_
      exact z_Ways_findsRing_h53 C N hNx hB hK39 me_FU μ (0 : Int32) v2 (0 : Int32) hf
def f_Ways_findsRing_h39  : Nat → me_M → Int32 → Int32 → Option (me_M × Int32)
  | 0, _, _, _ => none
  | n + 1, μ, v1, v2 => f_Ways_findsRing_b39 (f_Ways_findsRing_h39 n) μ v1 v2
set_option maxHeartbeats 4000000 in
set_option maxRecDepth 100000 in
theorem z_Ways_findsRing_h39 {X : me_X} {B : me_B} {sz : Nat} (C : me_C X B RX9 cX9_findsRing 4 (some .boolean))  {r : me_M × Int32} (N : me_En X B sz (B, r.1, .ok (some (me_i r.2))) 2 44 0 0) (hNx : me_Nx X) (hB : me_St B)  : ∀ (n : Nat) (μ : me_M) (v1 : Int32) (v2 : Int32), f_Ways_findsRing_h39 n μ v1 v2 = some r → me_Z X B 0 0 μ 39 [(0, me_r 27 0), (1, me_i v1), (2, me_i v2)] [] := by
  intro n
  induction n with
  | zero => intro μ v1 v2  h; exact absurd (show (none : Option (me_M × Int32)) = some r from h) (fun q => by cases q)
  | succ n ih => intro μ v1 v2  h; exact z_Ways_findsRing_b39 C N hNx hB  (K39 := f_Ways_findsRing_h39 n) ih  h
def f_Ways_findsRing_b2 (K2 : me_M → Int32 → Option (me_M × Int32)) (μ : me_M) (v1 : Int32) : Option (me_M × Int32) :=
  if (64 : Int32) ≤ v1 then
  (f_Ways_findsRing_h39 me_FU μ (64 : Int32) (0 : Int32))
  else
  (me_gd (me_inb v1 64) (
  if (μ 28 0 (me_ix v1)) = 0 then
  (me_gd (me_inb v1 64) (
  me_lt (me_up μ 29 0 (me_ix v1) (vp_nar .boolean (1 : Int32))) (fun μ8 =>
  me_lt (me_inc v1 (1)) (fun x9 =>
  K2 μ8 x9))))
  else
  (me_gd (me_inb v1 64) (
  me_lt (me_up μ 29 0 (me_ix v1) (vp_nar .boolean (0 : Int32))) (fun μ5 =>
  me_lt (me_inc v1 (1)) (fun x6 =>
  K2 μ5 x6))))))
set_option maxHeartbeats 4000000 in
set_option maxRecDepth 100000 in
theorem z_Ways_findsRing_b2 {X : me_X} {B : me_B} {sz : Nat} (C : me_C X B RX9 cX9_findsRing 4 (some .boolean)) {μ : me_M} {v1 : Int32}  {K2 : me_M → Int32 → Option (me_M × Int32)} {r : me_M × Int32} (N : me_En X B sz (B, r.1, .ok (some (me_i r.2))) 2 44 0 0) (hNx : me_Nx X) (hB : me_St B) (hK2 : ∀ (μ : me_M) (v1 : Int32), K2 μ v1 = some r → me_Z X B 0 0 μ 2 [(0, me_r 27 0), (1, me_i v1)] [])  (hf : f_Ways_findsRing_b2 K2 μ v1 = some r) : me_Z X B 0 0 μ 2 [(0, me_r 27 0), (1, me_i v1)] [] := by
  unfold f_Ways_findsRing_b2 at hf
  refine me_iload_n C 1 dX9_findsRing_2 rfl rfl ?_
  refine me_bipush C (v := 64) dX9_findsRing_3 (by decide) ?_
  refine me_icmp_ge C (tgt := 34) dX9_findsRing_5 (by decide) (fun c1 => ?_) (fun c1 => ?_)
  · replace hf := me_ip c1 hf
    refine me_bipush C (v := 64) dX9_findsRing_34 (by decide) ?_
    refine me_istore_n C 1 dX9_findsRing_36 rfl (by decide) (L' := [(1, me_i (64 : Int32)), (0, me_r 27 0)]) rfl ?_
    refine me_iconst C (v := 0) dX9_findsRing_37 (by decide) ?_
    refine me_istore_n C 2 dX9_findsRing_38 rfl (by decide) (L' := [(2, me_i (0 : Int32)), (1, me_i (64 : Int32)), (0, me_r 27 0)]) rfl ?_
    refine me_dropI [(0, me_r 27 0), (1, me_i (64 : Int32)), (2, me_i (0 : Int32))] [2, 1, 0] rfl ?_
    exact z_Ways_findsRing_h39 C N hNx hB me_FU μ (64 : Int32) (0 : Int32) hf
  · replace hf := me_in c1 hf
    refine me_aload_n C 0 (Or.inr (Or.inl ⟨_, rfl⟩)) dX9_findsRing_8 rfl rfl ?_
    refine me_getr C hB 3 (k' := 29) (i' := 0) fg_Ways_15 dX9_findsRing_9 rfl rfl ?_
    refine me_iload_n C 1 dX9_findsRing_12 rfl rfl ?_
    refine me_aload_n C 0 (Or.inr (Or.inl ⟨_, rfl⟩)) dX9_findsRing_13 rfl rfl ?_
    refine me_getr C hB 2 (k' := 28) (i' := 0) fg_Ways_9 dX9_findsRing_14 rfl rfl ?_
    refine me_iload_n C 1 dX9_findsRing_17 rfl rfl ?_
    obtain ⟨g2, hf⟩ := me_gs hf
    refine me_iald C rfl (fun _ => rfl) g2 dX9_findsRing_18 ?_
    refine me_if_ne C (tgt := 26) dX9_findsRing_19 (by decide) (fun c3 => ?_) (fun c3 => ?_)
    · replace hf := me_in c3 hf
      refine me_iconst C (v := 0) dX9_findsRing_26 (by decide) ?_
      obtain ⟨g4, hf⟩ := me_gs hf
      obtain ⟨μ5, e_μ5, hf⟩ := me_lts hf
      refine me_zast C rfl (fun _ => rfl) g4 dX9_findsRing_27 e_μ5 ?_
      obtain ⟨x6, e_x6, hf⟩ := me_lts hf
      refine me_iinc C (v := x6) (L' := [(1, me_i x6), (0, me_r 27 0)]) dX9_findsRing_28 rfl e_x6.symm (by decide) rfl ?_
      refine me_goto C (tgt := 2) dX9_findsRing_31 (by decide) ?_
      refine me_dropI [(0, me_r 27 0), (1, me_i x6)] [1, 0] rfl ?_
      exact hK2 μ5 x6 hf
    · replace hf := me_ip c3 hf
      refine me_iconst C (v := 1) dX9_findsRing_22 (by decide) ?_
      refine me_goto C (tgt := 27) dX9_findsRing_23 (by decide) ?_
      obtain ⟨g7, hf⟩ := me_gs hf
      obtain ⟨μ8, e_μ8, hf⟩ := me_lts hf
      refine me_zast C rfl (fun _ => rfl) g7 dX9_findsRing_27 e_μ8 ?_
      obtain ⟨x9, e_x9, hf⟩ := me_lts hf
      refine me_iinc C (v := x9) (L' := [(1, me_i x9), (0, me_r 27 0)]) dX9_findsRing_28 rfl e_x9.symm (by decide) rfl ?_
      refine me_goto C (tgt := 2) dX9_findsRing_31 (by decide) ?_
      refine me_dropI [(0, me_r 27 0), (1, me_i x9)] [1, 0] rfl ?_
      exact hK2 μ8 x9 hf
def f_Ways_findsRing_h2  : Nat → me_M → Int32 → Option (me_M × Int32)
  | 0, _, _ => none
  | n + 1, μ, v1 => f_Ways_findsRing_b2 (f_Ways_findsRing_h2 n) μ v1
set_option maxHeartbeats 4000000 in
set_option maxRecDepth 100000 in
theorem z_Ways_findsRing_h2 {X : me_X} {B : me_B} {sz : Nat} (C : me_C X B RX9 cX9_findsRing 4 (some .boolean))  {r : me_M × Int32} (N : me_En X B sz (B, r.1, .ok (some (me_i r.2))) 2 44 0 0) (hNx : me_Nx X) (hB : me_St B)  : ∀ (n : Nat) (μ : me_M) (v1 : Int32), f_Ways_findsRing_h2 n μ v1 = some r → me_Z X B 0 0 μ 2 [(0, me_r 27 0), (1, me_i v1)] [] := by
  intro n
  induction n with
  | zero => intro μ v1  h; exact absurd (show (none : Option (me_M × Int32)) = some r from h) (fun q => by cases q)
  | succ n ih => intro μ v1  h; exact z_Ways_findsRing_b2 C N hNx hB  (K2 := f_Ways_findsRing_h2 n) ih  h
def f_Ways_findsRing (μ : me_M) : Option (me_M × Int32) :=
  f_Ways_findsRing_h2 me_FU μ (0 : Int32)
set_option maxHeartbeats 4000000 in
set_option maxRecDepth 100000 in
theorem z_Ways_findsRing {X : me_X} {B : me_B} {sz : Nat} (C : me_C X B RX9 cX9_findsRing 4 (some .boolean)) {μ : me_M}    {r : me_M × Int32} (N : me_En X B sz (B, r.1, .ok (some (me_i r.2))) 2 44 0 0) (hNx : me_Nx X) (hB : me_St B)   (hf : f_Ways_findsRing μ = some r) : me_Z X B 0 0 μ 0 [(0, me_r 27 0)] [] := by
  unfold f_Ways_findsRing at hf
  refine me_iconst C (v := 0) dX9_findsRing_0 (by decide) ?_
  refine me_istore_n C 1 dX9_findsRing_1 rfl (by decide) (L' := [(1, me_i (0 : Int32)), (0, me_r 27 0)]) rfl ?_
  refine me_dropI [(0, me_r 27 0), (1, me_i (0 : Int32))] [1, 0] rfl ?_
  exact z_Ways_findsRing_h2 C N hNx hB me_FU μ (0 : Int32) hf
theorem c_Ways_findsRing {B : me_B} (hB : me_St B) {μ : me_M}  {μ' : me_M} {r : Int32}  (hf : f_Ways_findsRing μ = some (μ', r)) : ∀ l E z, l.stackTraces = false → me_Met l yX9_findsRing cX9_findsRing 4 (some .boolean) 2 44 0 0 E B μ z [me_r 27 0] (B, μ', .ok (some (me_i r))) :=
  fun _ _ _ hl => me_ofZ hl (by decide +kernel) (Nat.le_of_ble_eq_true rfl) (fun _ C N hNx => z_Ways_findsRing C N hNx hB  hf)

def f_Works_receiveWord_b43 (μ : me_M) (v2 : Nat) (v4 : Nat) : Option (me_M × Unit) :=
  me_b2 (f_Core_pushAndGoOn μ v2 (μ 8 v4 5)) (fun μ2 r1 =>
  some (μ2, ()))
set_option maxHeartbeats 4000000 in
set_option maxRecDepth 100000 in
theorem z_Works_receiveWord_b43 {X : me_X} {B : me_B} {sz : Nat} (C : me_C X B RX10 cX10_receiveWord 5 none) {μ : me_M} {v2 : Nat} {v4 : Nat}   {r : me_M × Unit} (N : me_En X B sz (B, r.1, .ok (none)) 2 48 0 0) (hNx : me_Nx X) (hB : me_St B)   (hf : f_Works_receiveWord_b43 μ v2 v4 = some r) : me_Z X B 0 0 μ 43 [(2, me_r 22 v2), (4, me_r 8 v4)] [] := by
  unfold f_Works_receiveWord_b43 at hf
  refine me_aload_n C 2 (Or.inr (Or.inl ⟨_, rfl⟩)) dX10_receiveWord_43 rfl rfl ?_
  refine me_aload C (Or.inr (Or.inl ⟨_, rfl⟩)) dX10_receiveWord_44 rfl ?_
  refine me_geti C 5 fg_Works_111 dX10_receiveWord_46 rfl ?_
  obtain ⟨μ2, r1, h_r1, hf⟩ := me_bs2 hf
  refine me_callV0 C N  (As := [me_i (μ 8 v4 5)]) (st := []) 0 0 (c_Core_pushAndGoOn hB h_r1) mv_Core_pushAndGoOn ml_Works_55 rfl rfl dX10_receiveWord_49 rfl rfl ⟨by decide, by decide⟩ ⟨by decide, by decide, by decide, by decide⟩ (Nat.le_of_ble_eq_true rfl) ?_
  exact me_vret C N dX10_receiveWord_52 (by cases hf; rfl) (by decide) (by decide)
def f_Works_receiveWord (μ : me_M) (v1 : Int32) (v2 : Nat) (v3 : Int32) : Option (me_M × Unit) :=
  me_bd (f_Post_firstLying μ v1 v3) (fun r1 =>
  me_oq r1
  (me_lt (me_up μ 22 v2 7 (119 : Int32)) (fun μ2 =>
  some (μ2, ())))
  (fun r1i => me_bd (f_Core_isFull μ v2) (fun r3 =>
  if r3 = 0 then
  (me_lt (me_up μ 8 r1i 2 (114 : Int32)) (fun μ5 =>
  me_lt (me_up μ5 22 v2 7 (114 : Int32)) (fun μ6 =>
  f_Works_receiveWord_b43 μ6 v2 r1i)))
  else
  (f_Works_receiveWord_b43 μ v2 r1i))))
set_option maxHeartbeats 4000000 in
set_option maxRecDepth 100000 in
theorem z_Works_receiveWord {X : me_X} {B : me_B} {sz : Nat} (C : me_C X B RX10 cX10_receiveWord 5 none) {μ : me_M} {v1 : Int32} {v2 : Nat} {v3 : Int32}   {r : me_M × Unit} (N : me_En X B sz (B, r.1, .ok (none)) 2 48 0 0) (hNx : me_Nx X) (hB : me_St B)   (hf : f_Works_receiveWord μ v1 v2 v3 = some r) : me_Z X B 0 0 μ 0 [(0, me_r 31 0), (1, me_i v1), (2, me_r 22 v2), (3, me_i v3)] [] := by
  unfold f_Works_receiveWord at hf
  refine me_aload_n C 0 (Or.inr (Or.inl ⟨_, rfl⟩)) dX10_receiveWord_0 rfl rfl ?_
  refine me_getr C hB 1 (k' := 6) (i' := 0) fg_Works_13 dX10_receiveWord_1 rfl rfl ?_
  refine me_iload_n C 1 dX10_receiveWord_4 rfl rfl ?_
  refine me_iload_n C 3 dX10_receiveWord_5 rfl rfl ?_
  obtain ⟨r1, h_r1, hf⟩ := me_bs hf
  refine me_callV C N  (As := [me_i v1, me_i v3]) (st := []) 0 0 (c_Post_firstLying hB h_r1) mv_Post_firstLying ml_Works_101 rfl rfl dX10_receiveWord_6 rfl rfl ⟨by decide, by decide⟩ ⟨by decide, by decide, by decide, by decide⟩ (Nat.le_of_ble_eq_true rfl) ?_
  rcases r1 with _ | r1i
  · replace hf := me_oqn hf
    refine me_astore C (Or.inl rfl) dX10_receiveWord_9 (by decide) (L' := [(4, me_n), (0, me_r 31 0), (1, me_i v1), (2, me_r 22 v2), (3, me_i v3)]) rfl ?_
    refine me_aload C (Or.inl rfl) dX10_receiveWord_11 rfl ?_
    refine me_ifnonnull_n C dX10_receiveWord_13 ?_
    refine me_aload_n C 2 (Or.inr (Or.inl ⟨_, rfl⟩)) dX10_receiveWord_16 rfl rfl ?_
    refine me_bipush C (v := 119) dX10_receiveWord_17 (by decide) ?_
    obtain ⟨μ2, e_μ2, hf⟩ := me_lts hf
    refine me_puti C 7 fw_Works_75 dX10_receiveWord_19 rfl (by decide +kernel) e_μ2 ?_
    exact me_vret C N dX10_receiveWord_22 (by cases hf; rfl) (by decide) (by decide)
  · replace hf := me_oqs hf
    refine me_astore C (Or.inr (Or.inl ⟨_, rfl⟩)) dX10_receiveWord_9 (by decide) (L' := [(4, me_r 8 r1i), (0, me_r 31 0), (1, me_i v1), (2, me_r 22 v2), (3, me_i v3)]) rfl ?_
    refine me_aload C (Or.inr (Or.inl ⟨_, rfl⟩)) dX10_receiveWord_11 rfl ?_
    refine me_ifnonnull_r C (tgt := 23) dX10_receiveWord_13 (by decide) ?_
    refine me_aload_n C 2 (Or.inr (Or.inl ⟨_, rfl⟩)) dX10_receiveWord_23 rfl rfl ?_
    obtain ⟨r3, h_r3, hf⟩ := me_bs hf
    refine me_callV C N  (As := []) (st := []) 0 0 (c_Core_isFull hB h_r3) mv_Core_isFull ml_Works_105 rfl rfl dX10_receiveWord_24 rfl rfl ⟨by decide, by decide⟩ ⟨by decide, by decide, by decide, by decide⟩ (Nat.le_of_ble_eq_true rfl) ?_
    refine me_if_ne C (tgt := 43) dX10_receiveWord_27 (by decide) (fun c4 => ?_) (fun c4 => ?_)
    · replace hf := me_in c4 hf
      refine me_dropI [(2, me_r 22 v2), (4, me_r 8 r1i)] [3, 0] rfl ?_
      exact z_Works_receiveWord_b43 C N hNx hB hf
    · replace hf := me_ip c4 hf
      refine me_aload C (Or.inr (Or.inl ⟨_, rfl⟩)) dX10_receiveWord_30 rfl ?_
      refine me_bipush C (v := 114) dX10_receiveWord_32 (by decide) ?_
      obtain ⟨μ5, e_μ5, hf⟩ := me_lts hf
      refine me_puti C 2 fw_Works_108 dX10_receiveWord_34 rfl (by decide +kernel) e_μ5 ?_
      refine me_aload_n C 2 (Or.inr (Or.inl ⟨_, rfl⟩)) dX10_receiveWord_37 rfl rfl ?_
      refine me_bipush C (v := 114) dX10_receiveWord_38 (by decide) ?_
      obtain ⟨μ6, e_μ6, hf⟩ := me_lts hf
      refine me_puti C 7 fw_Works_75 dX10_receiveWord_40 rfl (by decide +kernel) e_μ6 ?_
      refine me_dropI [(2, me_r 22 v2), (4, me_r 8 r1i)] [3, 0] rfl ?_
      exact z_Works_receiveWord_b43 C N hNx hB hf
theorem c_Works_receiveWord {B : me_B} (hB : me_St B) {μ : me_M} {v1 : Int32} {v2 : Nat} {v3 : Int32} {μ' : me_M} {r : Unit}  (hf : f_Works_receiveWord μ v1 v2 v3 = some (μ', r)) : ∀ l E z, l.stackTraces = false → me_Met l yX10_receiveWord cX10_receiveWord 5 none 2 48 0 0 E B μ z [me_r 31 0, me_i v1, me_r 22 v2, me_i v3] (B, μ', .ok (none)) :=
  fun _ _ _ hl => me_ofZ hl (by decide +kernel) (Nat.le_of_ble_eq_true rfl) (fun _ C N hNx => z_Works_receiveWord C N hNx hB  hf)

def f_Works_sendWord (μ : me_M) (v1 : Int32) (v2 : Nat) (v3 : Int32) (v4 : Int32) : Option (me_M × Unit) :=
  me_b2 (f_Core_canPop μ v2 (1 : Int32)) (fun μ2 r1 =>
  if r1 = 0 then
  (some (μ2, ()))
  else
  (me_bd (f_Post_hasRoom μ2 (1 : Int32)) (fun r4 =>
  if r4 = 0 then
  (me_b2 (f_Core_stopBy μ2 v2 (112 : Int32)) (fun μ12 r11 =>
  some (μ12, ())))
  else
  (me_lt (me_up μ2 22 v2 4 ((μ2 22 v2 4) - (1 : Int32))) (fun μ6 =>
  me_gd (me_inb (μ6 22 v2 4) 6) (
  me_b2 (f_Post_make μ6 (109 : Int32) v1 v3 (μ6 24 v2 (me_ix (μ6 22 v2 4))) (1 : Int32) v4) (fun μ9 r8 =>
  me_lt (me_up μ9 22 v2 6 ((μ9 22 v2 6) + (1 : Int32))) (fun μ10 =>
  some (μ10, ())))))))))
set_option maxHeartbeats 4000000 in
set_option maxRecDepth 100000 in
theorem z_Works_sendWord {X : me_X} {B : me_B} {sz : Nat} (C : me_C X B RX10 cX10_sendWord 5 none) {μ : me_M} {v1 : Int32} {v2 : Nat} {v3 : Int32} {v4 : Int32}   {r : me_M × Unit} (N : me_En X B sz (B, r.1, .ok (none)) 2 42 0 0) (hNx : me_Nx X) (hB : me_St B)   (hf : f_Works_sendWord μ v1 v2 v3 v4 = some r) : me_Z X B 0 0 μ 0 [(0, me_r 31 0), (1, me_i v1), (2, me_r 22 v2), (3, me_i v3), (4, me_i v4)] [] := by
  unfold f_Works_sendWord at hf
  refine me_aload_n C 2 (Or.inr (Or.inl ⟨_, rfl⟩)) dX10_sendWord_0 rfl rfl ?_
  refine me_iconst C (v := 1) dX10_sendWord_1 (by decide) ?_
  obtain ⟨μ2, r1, h_r1, hf⟩ := me_bs2 hf
  refine me_callV C N  (As := [me_i (1 : Int32)]) (st := []) 0 0 (c_Core_canPop hB h_r1) mv_Core_canPop ml_Works_82 rfl rfl dX10_sendWord_2 rfl rfl ⟨by decide, by decide⟩ ⟨by decide, by decide, by decide, by decide⟩ (Nat.le_of_ble_eq_true rfl) ?_
  refine me_if_ne C (tgt := 9) dX10_sendWord_5 (by decide) (fun c3 => ?_) (fun c3 => ?_)
  · replace hf := me_in c3 hf
    refine me_aload_n C 0 (Or.inr (Or.inl ⟨_, rfl⟩)) dX10_sendWord_9 rfl rfl ?_
    refine me_getr C hB 1 (k' := 6) (i' := 0) fg_Works_13 dX10_sendWord_10 rfl rfl ?_
    refine me_iconst C (v := 1) dX10_sendWord_13 (by decide) ?_
    obtain ⟨r4, h_r4, hf⟩ := me_bs hf
    refine me_callV C N  (As := [me_i (1 : Int32)]) (st := []) 0 0 (c_Post_hasRoom hB h_r4) mv_Post_hasRoom ml_Works_86 rfl rfl dX10_sendWord_14 rfl rfl ⟨by decide, by decide⟩ ⟨by decide, by decide, by decide, by decide⟩ (Nat.le_of_ble_eq_true rfl) ?_
    refine me_if_ne C (tgt := 27) dX10_sendWord_17 (by decide) (fun c5 => ?_) (fun c5 => ?_)
    · replace hf := me_in c5 hf
      refine me_aload_n C 2 (Or.inr (Or.inl ⟨_, rfl⟩)) dX10_sendWord_27 rfl rfl ?_
      refine me_dup C rfl dX10_sendWord_28 ?_
      refine me_geti C 4 fg_Works_91 dX10_sendWord_29 rfl ?_
      refine me_iconst C (v := 1) dX10_sendWord_32 (by decide) ?_
      refine me_isub C dX10_sendWord_33 ?_
      obtain ⟨μ6, e_μ6, hf⟩ := me_lts hf
      refine me_puti C 4 fw_Works_91 dX10_sendWord_34 rfl (me_nri _) e_μ6 ?_
      refine me_aload_n C 0 (Or.inr (Or.inl ⟨_, rfl⟩)) dX10_sendWord_37 rfl rfl ?_
      refine me_getr C hB 1 (k' := 6) (i' := 0) fg_Works_13 dX10_sendWord_38 rfl rfl ?_
      refine me_bipush C (v := 109) dX10_sendWord_41 (by decide) ?_
      refine me_iload_n C 1 dX10_sendWord_43 rfl rfl ?_
      refine me_iload_n C 3 dX10_sendWord_44 rfl rfl ?_
      refine me_aload_n C 2 (Or.inr (Or.inl ⟨_, rfl⟩)) dX10_sendWord_45 rfl rfl ?_
      refine me_getr C hB 1 (k' := 24) (i' := v2) fg_Works_94 dX10_sendWord_46 rfl rfl ?_
      refine me_aload_n C 2 (Or.inr (Or.inl ⟨_, rfl⟩)) dX10_sendWord_49 rfl rfl ?_
      refine me_geti C 4 fg_Works_91 dX10_sendWord_50 rfl ?_
      obtain ⟨g7, hf⟩ := me_gs hf
      refine me_iald C rfl (fun _ => rfl) g7 dX10_sendWord_53 ?_
      refine me_iconst C (v := 1) dX10_sendWord_54 (by decide) ?_
      refine me_iload C dX10_sendWord_55 rfl ?_
      obtain ⟨μ9, r8, h_r8, hf⟩ := me_bs2 hf
      refine me_callV C N  (As := [me_i (109 : Int32), me_i v1, me_i v3, me_i (μ6 24 v2 (me_ix (μ6 22 v2 4))), me_i (1 : Int32), me_i v4]) (st := []) 0 0 (c_Post_make hB h_r8) mv_Post_make ml_Works_97 rfl rfl dX10_sendWord_57 rfl rfl ⟨by decide, by decide⟩ ⟨by decide, by decide, by decide, by decide⟩ (Nat.le_of_ble_eq_true rfl) ?_
      refine me_pop C rfl dX10_sendWord_60 ?_
      refine me_aload_n C 2 (Or.inr (Or.inl ⟨_, rfl⟩)) dX10_sendWord_61 rfl rfl ?_
      refine me_dup C rfl dX10_sendWord_62 ?_
      refine me_geti C 6 fg_Works_48 dX10_sendWord_63 rfl ?_
      refine me_iconst C (v := 1) dX10_sendWord_66 (by decide) ?_
      refine me_iadd C dX10_sendWord_67 ?_
      obtain ⟨μ10, e_μ10, hf⟩ := me_lts hf
      refine me_puti C 6 fw_Works_48 dX10_sendWord_68 rfl (me_nri _) e_μ10 ?_
      exact me_vret C N dX10_sendWord_71 (by cases hf; rfl) (by decide) (by decide)
    · replace hf := me_ip c5 hf
      refine me_aload_n C 2 (Or.inr (Or.inl ⟨_, rfl⟩)) dX10_sendWord_20 rfl rfl ?_
      refine me_bipush C (v := 112) dX10_sendWord_21 (by decide) ?_
      obtain ⟨μ12, r11, h_r11, hf⟩ := me_bs2 hf
      refine me_callV0 C N  (As := [me_i (112 : Int32)]) (st := []) 0 0 (c_Core_stopBy hB h_r11) mv_Core_stopBy ml_Works_40 rfl rfl dX10_sendWord_23 rfl rfl ⟨by decide, by decide⟩ ⟨by decide, by decide, by decide, by decide⟩ (Nat.le_of_ble_eq_true rfl) ?_
      exact me_vret C N dX10_sendWord_26 (by cases hf; rfl) (by decide) (by decide)
  · replace hf := me_ip c3 hf
    exact me_vret C N dX10_sendWord_8 (by cases hf; rfl) (by decide) (by decide)
theorem c_Works_sendWord {B : me_B} (hB : me_St B) {μ : me_M} {v1 : Int32} {v2 : Nat} {v3 : Int32} {v4 : Int32} {μ' : me_M} {r : Unit}  (hf : f_Works_sendWord μ v1 v2 v3 v4 = some (μ', r)) : ∀ l E z, l.stackTraces = false → me_Met l yX10_sendWord cX10_sendWord 5 none 2 42 0 0 E B μ z [me_r 31 0, me_i v1, me_r 22 v2, me_i v3, me_i v4] (B, μ', .ok (none)) :=
  fun _ _ _ hl => me_ofZ hl (by decide +kernel) (Nat.le_of_ble_eq_true rfl) (fun _ C N hNx => z_Works_sendWord C N hNx hB  hf)

def f_Works_runOne (μ : me_M) (v1 : Int32) (v2 : Nat) (v3 : Int32) : Option (me_M × Unit) :=
  me_bd (f_Core_hasInstruction μ v2) (fun r1 =>
  if r1 = 0 then
  (me_b2 (f_Core_stopBy μ v2 (106 : Int32)) (fun μ32 r31 =>
  some (μ32, ())))
  else
  (me_gd (me_inb (μ 22 v2 6) 12) (
  me_lt ((μ 25 v2 (me_ix (μ 22 v2 6)))) (fun x4 =>
  me_gd (me_inb (μ 22 v2 6) 12) (
  me_lt ((μ 26 v2 (me_ix (μ 22 v2 6)))) (fun x6 =>
  if x4 = (98 : Int32) then
  (me_lt (me_up μ 22 v2 7 (98 : Int32)) (fun μ8 =>
  some (μ8, ())))
  else if x4 = (100 : Int32) then
  (me_b2 (f_Works_sendWord μ v1 v2 x6 v3) (fun μ11 r10 =>
  some (μ11, ())))
  else if x4 = (104 : Int32) then
  (me_lt (me_up μ 22 v2 7 (104 : Int32)) (fun μ13 =>
  some (μ13, ())))
  else if x4 = (106 : Int32) then
  (me_b2 (f_Core_jump μ v2 x6) (fun μ16 r15 =>
  some (μ16, ())))
  else if x4 = (108 : Int32) then
  (me_b2 (f_Core_load μ v2 x6) (fun μ19 r18 =>
  some (μ19, ())))
  else if x4 = (112 : Int32) then
  (me_b2 (f_Core_pushAndGoOn μ v2 x6) (fun μ22 r21 =>
  some (μ22, ())))
  else if x4 = (114 : Int32) then
  (me_b2 (f_Works_receiveWord μ v1 v2 x6) (fun μ25 r24 =>
  some (μ25, ())))
  else if x4 = (115 : Int32) then
  (me_b2 (f_Core_store μ v2 x6) (fun μ28 r27 =>
  some (μ28, ())))
  else (me_b2 (f_Core_reckon μ v2 x4) (fun μ30 r29 =>
  some (μ30, ())))))))))
set_option maxHeartbeats 4000000 in
set_option maxRecDepth 100000 in
theorem z_Works_runOne {X : me_X} {B : me_B} {sz : Nat} (C : me_C X B RX10 cX10_runOne 6 none) {μ : me_M} {v1 : Int32} {v2 : Nat} {v3 : Int32}   {r : me_M × Unit} (N : me_En X B sz (B, r.1, .ok (none)) 3 72 0 0) (hNx : me_Nx X) (hB : me_St B)   (hf : f_Works_runOne μ v1 v2 v3 = some r) : me_Z X B 0 0 μ 0 [(0, me_r 31 0), (1, me_i v1), (2, me_r 22 v2), (3, me_i v3)] [] := by
  unfold f_Works_runOne at hf
  refine me_aload_n C 2 (Or.inr (Or.inl ⟨_, rfl⟩)) dX10_runOne_0 rfl rfl ?_
  obtain ⟨r1, h_r1, hf⟩ := me_bs hf
  refine me_callV C N  (As := []) (st := []) 0 0 (c_Core_hasInstruction hB h_r1) mv_Core_hasInstruction ml_Works_37 rfl rfl dX10_runOne_1 rfl rfl ⟨by decide, by decide⟩ ⟨by decide, by decide, by decide, by decide⟩ (Nat.le_of_ble_eq_true rfl) ?_
  refine me_if_ne C (tgt := 14) dX10_runOne_4 (by decide) (fun c2 => ?_) (fun c2 => ?_)
  · replace hf := me_in c2 hf
    refine me_aload_n C 2 (Or.inr (Or.inl ⟨_, rfl⟩)) dX10_runOne_14 rfl rfl ?_
    refine me_getr C hB 2 (k' := 25) (i' := v2) fg_Works_44 dX10_runOne_15 rfl rfl ?_
    refine me_aload_n C 2 (Or.inr (Or.inl ⟨_, rfl⟩)) dX10_runOne_18 rfl rfl ?_
    refine me_geti C 6 fg_Works_48 dX10_runOne_19 rfl ?_
    obtain ⟨g3, hf⟩ := me_gs hf
    refine me_cald C rfl (fun _ => rfl) g3 dX10_runOne_22 ?_
    obtain ⟨x4, e_x4, hf⟩ := me_lts hf
    refine me_nm e_x4 ?_
    refine me_istore C dX10_runOne_23 (by decide) (L' := [(4, me_i x4), (0, me_r 31 0), (1, me_i v1), (2, me_r 22 v2), (3, me_i v3)]) rfl ?_
    refine me_aload_n C 2 (Or.inr (Or.inl ⟨_, rfl⟩)) dX10_runOne_25 rfl rfl ?_
    refine me_getr C hB 3 (k' := 26) (i' := v2) fg_Works_51 dX10_runOne_26 rfl rfl ?_
    refine me_aload_n C 2 (Or.inr (Or.inl ⟨_, rfl⟩)) dX10_runOne_29 rfl rfl ?_
    refine me_geti C 6 fg_Works_48 dX10_runOne_30 rfl ?_
    obtain ⟨g5, hf⟩ := me_gs hf
    refine me_iald C rfl (fun _ => rfl) g5 dX10_runOne_33 ?_
    obtain ⟨x6, e_x6, hf⟩ := me_lts hf
    refine me_nm e_x6 ?_
    refine me_istore C dX10_runOne_34 (by decide) (L' := [(5, me_i x6), (4, me_i x4), (0, me_r 31 0), (1, me_i v1), (2, me_r 22 v2), (3, me_i v3)]) rfl ?_
    refine me_iload C dX10_runOne_36 rfl ?_
    by_cases c7 : x4 = (98 : Int32)
    · refine me_tab C (145) (tgt := 183) dX10_runOne_38 (by rw [c7]; decide +kernel) (by decide) ?_
      replace hf := me_ip c7 hf
      refine me_aload_n C 2 (Or.inr (Or.inl ⟨_, rfl⟩)) dX10_runOne_183 rfl rfl ?_
      refine me_bipush C (v := 98) dX10_runOne_184 (by decide) ?_
      obtain ⟨μ8, e_μ8, hf⟩ := me_lts hf
      refine me_puti C 7 fw_Works_75 dX10_runOne_186 rfl (by decide +kernel) e_μ8 ?_
      refine me_goto C (tgt := 207) dX10_runOne_189 (by decide) ?_
      exact me_vret C N dX10_runOne_207 (by cases hf; rfl) (by decide) (by decide)
    replace hf := me_in c7 hf
    by_cases c9 : x4 = (100 : Int32)
    · refine me_tab C (113) (tgt := 151) dX10_runOne_38 (by rw [c9]; decide +kernel) (by decide) ?_
      replace hf := me_ip c9 hf
      refine me_aload_n C 0 (Or.inr (Or.inl ⟨_, rfl⟩)) dX10_runOne_151 rfl rfl ?_
      refine me_iload_n C 1 dX10_runOne_152 rfl rfl ?_
      refine me_aload_n C 2 (Or.inr (Or.inl ⟨_, rfl⟩)) dX10_runOne_153 rfl rfl ?_
      refine me_iload C dX10_runOne_154 rfl ?_
      refine me_iload_n C 3 dX10_runOne_156 rfl rfl ?_
      obtain ⟨μ11, r10, h_r10, hf⟩ := me_bs2 hf
      refine me_callV0 C N  (As := [me_i v1, me_r 22 v2, me_i x6, me_i v3]) (st := []) 0 0 (c_Works_sendWord hB h_r10) mv_Works_sendWord ml_Works_65 rfl rfl dX10_runOne_157 rfl rfl ⟨by decide, by decide⟩ ⟨by decide, by decide, by decide, by decide⟩ (Nat.le_of_ble_eq_true rfl) ?_
      refine me_goto C (tgt := 207) dX10_runOne_160 (by decide) ?_
      exact me_vret C N dX10_runOne_207 (by cases hf; rfl) (by decide) (by decide)
    replace hf := me_in c9 hf
    by_cases c12 : x4 = (104 : Int32)
    · refine me_tab C (154) (tgt := 192) dX10_runOne_38 (by rw [c12]; decide +kernel) (by decide) ?_
      replace hf := me_ip c12 hf
      refine me_aload_n C 2 (Or.inr (Or.inl ⟨_, rfl⟩)) dX10_runOne_192 rfl rfl ?_
      refine me_bipush C (v := 104) dX10_runOne_193 (by decide) ?_
      obtain ⟨μ13, e_μ13, hf⟩ := me_lts hf
      refine me_puti C 7 fw_Works_75 dX10_runOne_195 rfl (by decide +kernel) e_μ13 ?_
      refine me_goto C (tgt := 207) dX10_runOne_198 (by decide) ?_
      exact me_vret C N dX10_runOne_207 (by cases hf; rfl) (by decide) (by decide)
    replace hf := me_in c12 hf
    by_cases c14 : x4 = (106 : Int32)
    · refine me_tab C (136) (tgt := 174) dX10_runOne_38 (by rw [c14]; decide +kernel) (by decide) ?_
      replace hf := me_ip c14 hf
      refine me_aload_n C 2 (Or.inr (Or.inl ⟨_, rfl⟩)) dX10_runOne_174 rfl rfl ?_
      refine me_iload C dX10_runOne_175 rfl ?_
      obtain ⟨μ16, r15, h_r15, hf⟩ := me_bs2 hf
      refine me_callV0 C N  (As := [me_i x6]) (st := []) 0 0 (c_Core_jump hB h_r15) mv_Core_jump ml_Works_72 rfl rfl dX10_runOne_177 rfl rfl ⟨by decide, by decide⟩ ⟨by decide, by decide, by decide, by decide⟩ (Nat.le_of_ble_eq_true rfl) ?_
      refine me_goto C (tgt := 207) dX10_runOne_180 (by decide) ?_
      exact me_vret C N dX10_runOne_207 (by cases hf; rfl) (by decide) (by decide)
    replace hf := me_in c14 hf
    by_cases c17 : x4 = (108 : Int32)
    · refine me_tab C (95) (tgt := 133) dX10_runOne_38 (by rw [c17]; decide +kernel) (by decide) ?_
      replace hf := me_ip c17 hf
      refine me_aload_n C 2 (Or.inr (Or.inl ⟨_, rfl⟩)) dX10_runOne_133 rfl rfl ?_
      refine me_iload C dX10_runOne_134 rfl ?_
      obtain ⟨μ19, r18, h_r18, hf⟩ := me_bs2 hf
      refine me_callV0 C N  (As := [me_i x6]) (st := []) 0 0 (c_Core_load hB h_r18) mv_Core_load ml_Works_59 rfl rfl dX10_runOne_136 rfl rfl ⟨by decide, by decide⟩ ⟨by decide, by decide, by decide, by decide⟩ (Nat.le_of_ble_eq_true rfl) ?_
      refine me_goto C (tgt := 207) dX10_runOne_139 (by decide) ?_
      exact me_vret C N dX10_runOne_207 (by cases hf; rfl) (by decide) (by decide)
    replace hf := me_in c17 hf
    by_cases c20 : x4 = (112 : Int32)
    · refine me_tab C (86) (tgt := 124) dX10_runOne_38 (by rw [c20]; decide +kernel) (by decide) ?_
      replace hf := me_ip c20 hf
      refine me_aload_n C 2 (Or.inr (Or.inl ⟨_, rfl⟩)) dX10_runOne_124 rfl rfl ?_
      refine me_iload C dX10_runOne_125 rfl ?_
      obtain ⟨μ22, r21, h_r21, hf⟩ := me_bs2 hf
      refine me_callV0 C N  (As := [me_i x6]) (st := []) 0 0 (c_Core_pushAndGoOn hB h_r21) mv_Core_pushAndGoOn ml_Works_55 rfl rfl dX10_runOne_127 rfl rfl ⟨by decide, by decide⟩ ⟨by decide, by decide, by decide, by decide⟩ (Nat.le_of_ble_eq_true rfl) ?_
      refine me_goto C (tgt := 207) dX10_runOne_130 (by decide) ?_
      exact me_vret C N dX10_runOne_207 (by cases hf; rfl) (by decide) (by decide)
    replace hf := me_in c20 hf
    by_cases c23 : x4 = (114 : Int32)
    · refine me_tab C (125) (tgt := 163) dX10_runOne_38 (by rw [c23]; decide +kernel) (by decide) ?_
      replace hf := me_ip c23 hf
      refine me_aload_n C 0 (Or.inr (Or.inl ⟨_, rfl⟩)) dX10_runOne_163 rfl rfl ?_
      refine me_iload_n C 1 dX10_runOne_164 rfl rfl ?_
      refine me_aload_n C 2 (Or.inr (Or.inl ⟨_, rfl⟩)) dX10_runOne_165 rfl rfl ?_
      refine me_iload C dX10_runOne_166 rfl ?_
      obtain ⟨μ25, r24, h_r24, hf⟩ := me_bs2 hf
      refine me_callV0 C N  (As := [me_i v1, me_r 22 v2, me_i x6]) (st := []) 0 0 (c_Works_receiveWord hB h_r24) mv_Works_receiveWord ml_Works_69 rfl rfl dX10_runOne_168 rfl rfl ⟨by decide, by decide⟩ ⟨by decide, by decide, by decide, by decide⟩ (Nat.le_of_ble_eq_true rfl) ?_
      refine me_goto C (tgt := 207) dX10_runOne_171 (by decide) ?_
      exact me_vret C N dX10_runOne_207 (by cases hf; rfl) (by decide) (by decide)
    replace hf := me_in c23 hf
    by_cases c26 : x4 = (115 : Int32)
    · refine me_tab C (104) (tgt := 142) dX10_runOne_38 (by rw [c26]; decide +kernel) (by decide) ?_
      replace hf := me_ip c26 hf
      refine me_aload_n C 2 (Or.inr (Or.inl ⟨_, rfl⟩)) dX10_runOne_142 rfl rfl ?_
      refine me_iload C dX10_runOne_143 rfl ?_
      obtain ⟨μ28, r27, h_r27, hf⟩ := me_bs2 hf
      refine me_callV0 C N  (As := [me_i x6]) (st := []) 0 0 (c_Core_store hB h_r27) mv_Core_store ml_Works_62 rfl rfl dX10_runOne_145 rfl rfl ⟨by decide, by decide⟩ ⟨by decide, by decide, by decide, by decide⟩ (Nat.le_of_ble_eq_true rfl) ?_
      refine me_goto C (tgt := 207) dX10_runOne_148 (by decide) ?_
      exact me_vret C N dX10_runOne_207 (by cases hf; rfl) (by decide) (by decide)
    replace hf := me_in c26 hf
    refine me_tabD C [98, 100, 104, 106, 108, 112, 114, 115] (tgt := 201) dX10_runOne_38 (by decide +kernel) ⟨c7, c9, c12, c14, c17, c20, c23, c26, trivial⟩ (by decide) ?_
    refine me_aload_n C 2 (Or.inr (Or.inl ⟨_, rfl⟩)) dX10_runOne_201 rfl rfl ?_
    refine me_iload C dX10_runOne_202 rfl ?_
    obtain ⟨μ30, r29, h_r29, hf⟩ := me_bs2 hf
    refine me_callV0 C N  (As := [me_i x4]) (st := []) 0 0 (c_Core_reckon hB h_r29) mv_Core_reckon ml_Works_79 rfl rfl dX10_runOne_204 rfl rfl ⟨by decide, by decide⟩ ⟨by decide, by decide, by decide, by decide⟩ (Nat.le_of_ble_eq_true rfl) ?_
    exact me_vret C N dX10_runOne_207 (by cases hf; rfl) (by decide) (by decide)
  · replace hf := me_ip c2 hf
    refine me_aload_n C 2 (Or.inr (Or.inl ⟨_, rfl⟩)) dX10_runOne_7 rfl rfl ?_
    refine me_bipush C (v := 106) dX10_runOne_8 (by decide) ?_
    obtain ⟨μ32, r31, h_r31, hf⟩ := me_bs2 hf
    refine me_callV0 C N  (As := [me_i (106 : Int32)]) (st := []) 0 0 (c_Core_stopBy hB h_r31) mv_Core_stopBy ml_Works_40 rfl rfl dX10_runOne_10 rfl rfl ⟨by decide, by decide⟩ ⟨by decide, by decide, by decide, by decide⟩ (Nat.le_of_ble_eq_true rfl) ?_
    exact me_vret C N dX10_runOne_13 (by cases hf; rfl) (by decide) (by decide)
theorem c_Works_runOne {B : me_B} (hB : me_St B) {μ : me_M} {v1 : Int32} {v2 : Nat} {v3 : Int32} {μ' : me_M} {r : Unit}  (hf : f_Works_runOne μ v1 v2 v3 = some (μ', r)) : ∀ l E z, l.stackTraces = false → me_Met l yX10_runOne cX10_runOne 6 none 3 72 0 0 E B μ z [me_r 31 0, me_i v1, me_r 22 v2, me_i v3] (B, μ', .ok (none)) :=
  fun _ _ _ hl => me_ofZ hl (by decide +kernel) (Nat.le_of_ble_eq_true rfl) (fun _ C N hNx => z_Works_runOne C N hNx hB  hf)

def f_Works_runCores_b2 (K2 : me_M → Int32 → Int32 → Option (me_M × Unit)) (μ : me_M) (v1 : Int32) (v2 : Int32) : Option (me_M × Unit) :=
  if (μ 1 0 4) ≤ v2 then
  (some (μ, ()))
  else
  (me_gd (me_inb v2 16) (
  me_bd (f_Core_isActive μ (me_ix v2)) (fun r3 =>
  if r3 = 0 then
  (me_lt (me_inc v2 (1)) (fun x5 =>
  K2 μ v1 x5))
  else
  (me_gd (me_inb v2 16) (
  me_b2 (f_Works_runOne μ v2 (me_ix v2) v1) (fun μ8 r7 =>
  me_lt (me_inc v2 (1)) (fun x9 =>
  K2 μ8 v1 x9)))))))
set_option maxHeartbeats 4000000 in
set_option maxRecDepth 100000 in
theorem z_Works_runCores_b2 {X : me_X} {B : me_B} {sz : Nat} (C : me_C X B RX10 cX10_runCores 3 none) {μ : me_M} {v1 : Int32} {v2 : Int32}  {K2 : me_M → Int32 → Int32 → Option (me_M × Unit)} {r : me_M × Unit} (N : me_En X B sz (B, r.1, .ok (none)) 4 97 0 0) (hNx : me_Nx X) (hB : me_St B) (hK2 : ∀ (μ : me_M) (v1 : Int32) (v2 : Int32), K2 μ v1 v2 = some r → me_Z X B 0 0 μ 2 [(0, me_r 31 0), (1, me_i v1), (2, me_i v2)] [])  (hf : f_Works_runCores_b2 K2 μ v1 v2 = some r) : me_Z X B 0 0 μ 2 [(0, me_r 31 0), (1, me_i v1), (2, me_i v2)] [] := by
  unfold f_Works_runCores_b2 at hf
  refine me_iload_n C 2 dX10_runCores_2 rfl rfl ?_
  refine me_aload_n C 0 (Or.inr (Or.inl ⟨_, rfl⟩)) dX10_runCores_3 rfl rfl ?_
  refine me_getr C hB 0 (k' := 1) (i' := 0) fg_Works_7 dX10_runCores_4 rfl rfl ?_
  refine me_geti C 4 fg_Works_21 dX10_runCores_7 rfl ?_
  refine me_icmp_ge C (tgt := 43) dX10_runCores_10 (by decide) (fun c1 => ?_) (fun c1 => ?_)
  · replace hf := me_ip c1 hf
    exact me_vret C N dX10_runCores_43 (by cases hf; rfl) (by decide) (by decide)
  · replace hf := me_in c1 hf
    refine me_aload_n C 0 (Or.inr (Or.inl ⟨_, rfl⟩)) dX10_runCores_13 rfl rfl ?_
    refine me_getr C hB 2 (k' := 21) (i' := 0) fg_Works_17 dX10_runCores_14 rfl rfl ?_
    refine me_iload_n C 2 dX10_runCores_17 rfl rfl ?_
    obtain ⟨g2, hf⟩ := me_gs hf
    refine me_aald C hB (k' := 22) (i' := (me_ix v2)) rfl (fun _ => rfl) rfl g2 dX10_runCores_18 rfl ?_
    obtain ⟨r3, h_r3, hf⟩ := me_bs hf
    refine me_callV C N  (As := []) (st := []) 0 0 (c_Core_isActive hB h_r3) mv_Core_isActive ml_Works_27 rfl rfl dX10_runCores_19 rfl rfl ⟨by decide, by decide⟩ ⟨by decide, by decide, by decide, by decide⟩ (Nat.le_of_ble_eq_true rfl) ?_
    refine me_if_eq C (tgt := 37) dX10_runCores_22 (by decide) (fun c4 => ?_) (fun c4 => ?_)
    · replace hf := me_ip c4 hf
      obtain ⟨x5, e_x5, hf⟩ := me_lts hf
      refine me_iinc C (v := x5) (L' := [(2, me_i x5), (0, me_r 31 0), (1, me_i v1)]) dX10_runCores_37 rfl e_x5.symm (by decide) rfl ?_
      refine me_goto C (tgt := 2) dX10_runCores_40 (by decide) ?_
      refine me_dropI [(0, me_r 31 0), (1, me_i v1), (2, me_i x5)] [1, 2, 0] rfl ?_
      exact hK2 μ v1 x5 hf
    · replace hf := me_in c4 hf
      refine me_aload_n C 0 (Or.inr (Or.inl ⟨_, rfl⟩)) dX10_runCores_25 rfl rfl ?_
      refine me_iload_n C 2 dX10_runCores_26 rfl rfl ?_
      refine me_aload_n C 0 (Or.inr (Or.inl ⟨_, rfl⟩)) dX10_runCores_27 rfl rfl ?_
      refine me_getr C hB 2 (k' := 21) (i' := 0) fg_Works_17 dX10_runCores_28 rfl rfl ?_
      refine me_iload_n C 2 dX10_runCores_31 rfl rfl ?_
      obtain ⟨g6, hf⟩ := me_gs hf
      refine me_aald C hB (k' := 22) (i' := (me_ix v2)) rfl (fun _ => rfl) rfl g6 dX10_runCores_32 rfl ?_
      refine me_iload_n C 1 dX10_runCores_33 rfl rfl ?_
      obtain ⟨μ8, r7, h_r7, hf⟩ := me_bs2 hf
      refine me_callV0 C N  (As := [me_i v2, me_r 22 (me_ix v2), me_i v1]) (st := []) 0 0 (c_Works_runOne hB h_r7) mv_Works_runOne ml_Works_33 rfl rfl dX10_runCores_34 rfl rfl ⟨by decide, by decide⟩ ⟨by decide, by decide, by decide, by decide⟩ (Nat.le_of_ble_eq_true rfl) ?_
      obtain ⟨x9, e_x9, hf⟩ := me_lts hf
      refine me_iinc C (v := x9) (L' := [(2, me_i x9), (0, me_r 31 0), (1, me_i v1)]) dX10_runCores_37 rfl e_x9.symm (by decide) rfl ?_
      refine me_goto C (tgt := 2) dX10_runCores_40 (by decide) ?_
      refine me_dropI [(0, me_r 31 0), (1, me_i v1), (2, me_i x9)] [1, 2, 0] rfl ?_
      exact hK2 μ8 v1 x9 hf
def f_Works_runCores_h2  : Nat → me_M → Int32 → Int32 → Option (me_M × Unit)
  | 0, _, _, _ => none
  | n + 1, μ, v1, v2 => f_Works_runCores_b2 (f_Works_runCores_h2 n) μ v1 v2
set_option maxHeartbeats 4000000 in
set_option maxRecDepth 100000 in
theorem z_Works_runCores_h2 {X : me_X} {B : me_B} {sz : Nat} (C : me_C X B RX10 cX10_runCores 3 none)  {r : me_M × Unit} (N : me_En X B sz (B, r.1, .ok (none)) 4 97 0 0) (hNx : me_Nx X) (hB : me_St B)  : ∀ (n : Nat) (μ : me_M) (v1 : Int32) (v2 : Int32), f_Works_runCores_h2 n μ v1 v2 = some r → me_Z X B 0 0 μ 2 [(0, me_r 31 0), (1, me_i v1), (2, me_i v2)] [] := by
  intro n
  induction n with
  | zero => intro μ v1 v2  h; exact absurd (show (none : Option (me_M × Unit)) = some r from h) (fun q => by cases q)
  | succ n ih => intro μ v1 v2  h; exact z_Works_runCores_b2 C N hNx hB  (K2 := f_Works_runCores_h2 n) ih  h
def f_Works_runCores (μ : me_M) (v1 : Int32) : Option (me_M × Unit) :=
  f_Works_runCores_h2 me_FU μ v1 (0 : Int32)
set_option maxHeartbeats 4000000 in
set_option maxRecDepth 100000 in
theorem z_Works_runCores {X : me_X} {B : me_B} {sz : Nat} (C : me_C X B RX10 cX10_runCores 3 none) {μ : me_M} {v1 : Int32}   {r : me_M × Unit} (N : me_En X B sz (B, r.1, .ok (none)) 4 97 0 0) (hNx : me_Nx X) (hB : me_St B)   (hf : f_Works_runCores μ v1 = some r) : me_Z X B 0 0 μ 0 [(0, me_r 31 0), (1, me_i v1)] [] := by
  unfold f_Works_runCores at hf
  refine me_iconst C (v := 0) dX10_runCores_0 (by decide) ?_
  refine me_istore_n C 2 dX10_runCores_1 rfl (by decide) (L' := [(2, me_i (0 : Int32)), (0, me_r 31 0), (1, me_i v1)]) rfl ?_
  refine me_dropI [(0, me_r 31 0), (1, me_i v1), (2, me_i (0 : Int32))] [1, 2, 0] rfl ?_
  exact z_Works_runCores_h2 C N hNx hB me_FU μ v1 (0 : Int32) hf
theorem c_Works_runCores {B : me_B} (hB : me_St B) {μ : me_M} {v1 : Int32} {μ' : me_M} {r : Unit}  (hf : f_Works_runCores μ v1 = some (μ', r)) : ∀ l E z, l.stackTraces = false → me_Met l yX10_runCores cX10_runCores 3 none 4 97 0 0 E B μ z [me_r 31 0, me_i v1] (B, μ', .ok (none)) :=
  fun _ _ _ hl => me_ofZ hl (by decide +kernel) (Nat.le_of_ble_eq_true rfl) (fun _ C N hNx => z_Works_runCores C N hNx hB  hf)

def f_Works_passBarrier_b34 (K34 : me_M → Int32 → Option (me_M × Unit)) (μ : me_M) (v1 : Int32) : Option (me_M × Unit) :=
  if (μ 1 0 4) ≤ v1 then
  (some (μ, ()))
  else
  (me_gd (me_inb v1 16) (
  if (μ 22 (me_ix v1) 7) = (98 : Int32) then
  (me_lt (me_up μ 22 (me_ix v1) 7 (114 : Int32)) (fun μ5 =>
  me_lt (me_up μ5 22 (me_ix v1) 6 ((μ5 22 (me_ix v1) 6) + (1 : Int32))) (fun μ6 =>
  me_lt (me_inc v1 (1)) (fun x7 =>
  K34 μ6 x7))))
  else
  (me_lt (me_inc v1 (1)) (fun x4 =>
  K34 μ x4))))
set_option maxHeartbeats 4000000 in
set_option maxRecDepth 100000 in
theorem z_Works_passBarrier_b34 {X : me_X} {B : me_B} {sz : Nat} (C : me_C X B RX10 cX10_passBarrier 3 none) {μ : me_M} {v1 : Int32}  {K34 : me_M → Int32 → Option (me_M × Unit)} {r : me_M × Unit} (N : me_En X B sz (B, r.1, .ok (none)) 1 20 0 0) (hNx : me_Nx X) (hB : me_St B) (hK34 : ∀ (μ : me_M) (v1 : Int32), K34 μ v1 = some r → me_Z X B 0 0 μ 34 [(0, me_r 31 0), (1, me_i v1)] [])  (hf : f_Works_passBarrier_b34 K34 μ v1 = some r) : me_Z X B 0 0 μ 34 [(0, me_r 31 0), (1, me_i v1)] [] := by
  unfold f_Works_passBarrier_b34 at hf
  refine me_iload_n C 1 dX10_passBarrier_34 rfl rfl ?_
  refine me_aload_n C 0 (Or.inr (Or.inl ⟨_, rfl⟩)) dX10_passBarrier_35 rfl rfl ?_
  refine me_getr C hB 0 (k' := 1) (i' := 0) fg_Works_7 dX10_passBarrier_36 rfl rfl ?_
  refine me_geti C 4 fg_Works_21 dX10_passBarrier_39 rfl ?_
  refine me_icmp_ge C (tgt := 83) dX10_passBarrier_42 (by decide) (fun c1 => ?_) (fun c1 => ?_)
  · replace hf := me_ip c1 hf
    exact me_vret C N dX10_passBarrier_83 (by cases hf; rfl) (by decide) (by decide)
  · replace hf := me_in c1 hf
    refine me_aload_n C 0 (Or.inr (Or.inl ⟨_, rfl⟩)) dX10_passBarrier_45 rfl rfl ?_
    refine me_getr C hB 2 (k' := 21) (i' := 0) fg_Works_17 dX10_passBarrier_46 rfl rfl ?_
    refine me_iload_n C 1 dX10_passBarrier_49 rfl rfl ?_
    obtain ⟨g2, hf⟩ := me_gs hf
    refine me_aald C hB (k' := 22) (i' := (me_ix v1)) rfl (fun _ => rfl) rfl g2 dX10_passBarrier_50 rfl ?_
    refine me_astore_n C 2 (Or.inr (Or.inl ⟨_, rfl⟩)) dX10_passBarrier_51 rfl (by decide) (L' := [(2, me_r 22 (me_ix v1)), (0, me_r 31 0), (1, me_i v1)]) rfl ?_
    refine me_aload_n C 2 (Or.inr (Or.inl ⟨_, rfl⟩)) dX10_passBarrier_52 rfl rfl ?_
    refine me_geti C 7 fg_Works_75 dX10_passBarrier_53 rfl ?_
    refine me_bipush C (v := 98) dX10_passBarrier_56 (by decide) ?_
    refine me_icmp_ne C (tgt := 77) dX10_passBarrier_58 (by decide) (fun c3 => ?_) (fun c3 => ?_)
    · replace hf := me_in c3 hf
      obtain ⟨x4, e_x4, hf⟩ := me_lts hf
      refine me_iinc C (v := x4) (L' := [(1, me_i x4), (2, me_r 22 (me_ix v1)), (0, me_r 31 0)]) dX10_passBarrier_77 rfl e_x4.symm (by decide) rfl ?_
      refine me_goto C (tgt := 34) dX10_passBarrier_80 (by decide) ?_
      refine me_dropI [(0, me_r 31 0), (1, me_i x4)] [2, 0] rfl ?_
      exact hK34 μ x4 hf
    · replace hf := me_ip c3 hf
      refine me_aload_n C 2 (Or.inr (Or.inl ⟨_, rfl⟩)) dX10_passBarrier_61 rfl rfl ?_
      refine me_bipush C (v := 114) dX10_passBarrier_62 (by decide) ?_
      obtain ⟨μ5, e_μ5, hf⟩ := me_lts hf
      refine me_puti C 7 fw_Works_75 dX10_passBarrier_64 rfl (by decide +kernel) e_μ5 ?_
      refine me_aload_n C 2 (Or.inr (Or.inl ⟨_, rfl⟩)) dX10_passBarrier_67 rfl rfl ?_
      refine me_dup C rfl dX10_passBarrier_68 ?_
      refine me_geti C 6 fg_Works_48 dX10_passBarrier_69 rfl ?_
      refine me_iconst C (v := 1) dX10_passBarrier_72 (by decide) ?_
      refine me_iadd C dX10_passBarrier_73 ?_
      obtain ⟨μ6, e_μ6, hf⟩ := me_lts hf
      refine me_puti C 6 fw_Works_48 dX10_passBarrier_74 rfl (me_nri _) e_μ6 ?_
      obtain ⟨x7, e_x7, hf⟩ := me_lts hf
      refine me_iinc C (v := x7) (L' := [(1, me_i x7), (2, me_r 22 (me_ix v1)), (0, me_r 31 0)]) dX10_passBarrier_77 rfl e_x7.symm (by decide) rfl ?_
      refine me_goto C (tgt := 34) dX10_passBarrier_80 (by decide) ?_
      refine me_dropI [(0, me_r 31 0), (1, me_i x7)] [2, 0] rfl ?_
      exact hK34 μ6 x7 hf
def f_Works_passBarrier_h34  : Nat → me_M → Int32 → Option (me_M × Unit)
  | 0, _, _ => none
  | n + 1, μ, v1 => f_Works_passBarrier_b34 (f_Works_passBarrier_h34 n) μ v1
set_option maxHeartbeats 4000000 in
set_option maxRecDepth 100000 in
theorem z_Works_passBarrier_h34 {X : me_X} {B : me_B} {sz : Nat} (C : me_C X B RX10 cX10_passBarrier 3 none)  {r : me_M × Unit} (N : me_En X B sz (B, r.1, .ok (none)) 1 20 0 0) (hNx : me_Nx X) (hB : me_St B)  : ∀ (n : Nat) (μ : me_M) (v1 : Int32), f_Works_passBarrier_h34 n μ v1 = some r → me_Z X B 0 0 μ 34 [(0, me_r 31 0), (1, me_i v1)] [] := by
  intro n
  induction n with
  | zero => intro μ v1  h; exact absurd (show (none : Option (me_M × Unit)) = some r from h) (fun q => by cases q)
  | succ n ih => intro μ v1  h; exact z_Works_passBarrier_b34 C N hNx hB  (K34 := f_Works_passBarrier_h34 n) ih  h
def f_Works_passBarrier_b2 (K2 : me_M → Int32 → Option (me_M × Unit)) (μ : me_M) (v1 : Int32) : Option (me_M × Unit) :=
  if (μ 1 0 4) ≤ v1 then
  (f_Works_passBarrier_h34 me_FU μ (0 : Int32))
  else
  (me_gd (me_inb v1 16) (
  me_bd (f_Core_isActive μ (me_ix v1)) (fun r3 =>
  if r3 = 0 then
  (me_lt (me_inc v1 (1)) (fun x5 =>
  K2 μ x5))
  else
  (some (μ, ())))))
set_option maxHeartbeats 4000000 in
set_option maxRecDepth 100000 in
theorem z_Works_passBarrier_b2 {X : me_X} {B : me_B} {sz : Nat} (C : me_C X B RX10 cX10_passBarrier 3 none) {μ : me_M} {v1 : Int32}  {K2 : me_M → Int32 → Option (me_M × Unit)} {r : me_M × Unit} (N : me_En X B sz (B, r.1, .ok (none)) 1 20 0 0) (hNx : me_Nx X) (hB : me_St B) (hK2 : ∀ (μ : me_M) (v1 : Int32), K2 μ v1 = some r → me_Z X B 0 0 μ 2 [(0, me_r 31 0), (1, me_i v1)] [])  (hf : f_Works_passBarrier_b2 K2 μ v1 = some r) : me_Z X B 0 0 μ 2 [(0, me_r 31 0), (1, me_i v1)] [] := by
  unfold f_Works_passBarrier_b2 at hf
  refine me_iload_n C 1 dX10_passBarrier_2 rfl rfl ?_
  refine me_aload_n C 0 (Or.inr (Or.inl ⟨_, rfl⟩)) dX10_passBarrier_3 rfl rfl ?_
  refine me_getr C hB 0 (k' := 1) (i' := 0) fg_Works_7 dX10_passBarrier_4 rfl rfl ?_
  refine me_geti C 4 fg_Works_21 dX10_passBarrier_7 rfl ?_
  refine me_icmp_ge C (tgt := 32) dX10_passBarrier_10 (by decide) (fun c1 => ?_) (fun c1 => ?_)
  · replace hf := me_ip c1 hf
    refine me_iconst C (v := 0) dX10_passBarrier_32 (by decide) ?_
    refine me_istore_n C 1 dX10_passBarrier_33 rfl (by decide) (L' := [(1, me_i (0 : Int32)), (0, me_r 31 0)]) rfl ?_
    refine me_dropI [(0, me_r 31 0), (1, me_i (0 : Int32))] [1, 0] rfl ?_
    exact z_Works_passBarrier_h34 C N hNx hB me_FU μ (0 : Int32) hf
  · replace hf := me_in c1 hf
    refine me_aload_n C 0 (Or.inr (Or.inl ⟨_, rfl⟩)) dX10_passBarrier_13 rfl rfl ?_
    refine me_getr C hB 2 (k' := 21) (i' := 0) fg_Works_17 dX10_passBarrier_14 rfl rfl ?_
    refine me_iload_n C 1 dX10_passBarrier_17 rfl rfl ?_
    obtain ⟨g2, hf⟩ := me_gs hf
    refine me_aald C hB (k' := 22) (i' := (me_ix v1)) rfl (fun _ => rfl) rfl g2 dX10_passBarrier_18 rfl ?_
    obtain ⟨r3, h_r3, hf⟩ := me_bs hf
    refine me_callV C N  (As := []) (st := []) 0 0 (c_Core_isActive hB h_r3) mv_Core_isActive ml_Works_27 rfl rfl dX10_passBarrier_19 rfl rfl ⟨by decide, by decide⟩ ⟨by decide, by decide, by decide, by decide⟩ (Nat.le_of_ble_eq_true rfl) ?_
    refine me_if_eq C (tgt := 26) dX10_passBarrier_22 (by decide) (fun c4 => ?_) (fun c4 => ?_)
    · replace hf := me_ip c4 hf
      obtain ⟨x5, e_x5, hf⟩ := me_lts hf
      refine me_iinc C (v := x5) (L' := [(1, me_i x5), (0, me_r 31 0)]) dX10_passBarrier_26 rfl e_x5.symm (by decide) rfl ?_
      refine me_goto C (tgt := 2) dX10_passBarrier_29 (by decide) ?_
      refine me_dropI [(0, me_r 31 0), (1, me_i x5)] [1, 0] rfl ?_
      exact hK2 μ x5 hf
    · replace hf := me_in c4 hf
      exact me_vret C N dX10_passBarrier_25 (by cases hf; rfl) (by decide) (by decide)
def f_Works_passBarrier_h2  : Nat → me_M → Int32 → Option (me_M × Unit)
  | 0, _, _ => none
  | n + 1, μ, v1 => f_Works_passBarrier_b2 (f_Works_passBarrier_h2 n) μ v1
set_option maxHeartbeats 4000000 in
set_option maxRecDepth 100000 in
theorem z_Works_passBarrier_h2 {X : me_X} {B : me_B} {sz : Nat} (C : me_C X B RX10 cX10_passBarrier 3 none)  {r : me_M × Unit} (N : me_En X B sz (B, r.1, .ok (none)) 1 20 0 0) (hNx : me_Nx X) (hB : me_St B)  : ∀ (n : Nat) (μ : me_M) (v1 : Int32), f_Works_passBarrier_h2 n μ v1 = some r → me_Z X B 0 0 μ 2 [(0, me_r 31 0), (1, me_i v1)] [] := by
  intro n
  induction n with
  | zero => intro μ v1  h; exact absurd (show (none : Option (me_M × Unit)) = some r from h) (fun q => by cases q)
  | succ n ih => intro μ v1  h; exact z_Works_passBarrier_b2 C N hNx hB  (K2 := f_Works_passBarrier_h2 n) ih  h
def f_Works_passBarrier (μ : me_M) : Option (me_M × Unit) :=
  f_Works_passBarrier_h2 me_FU μ (0 : Int32)
set_option maxHeartbeats 4000000 in
set_option maxRecDepth 100000 in
theorem z_Works_passBarrier {X : me_X} {B : me_B} {sz : Nat} (C : me_C X B RX10 cX10_passBarrier 3 none) {μ : me_M}    {r : me_M × Unit} (N : me_En X B sz (B, r.1, .ok (none)) 1 20 0 0) (hNx : me_Nx X) (hB : me_St B)   (hf : f_Works_passBarrier μ = some r) : me_Z X B 0 0 μ 0 [(0, me_r 31 0)] [] := by
  unfold f_Works_passBarrier at hf
  refine me_iconst C (v := 0) dX10_passBarrier_0 (by decide) ?_
  refine me_istore_n C 1 dX10_passBarrier_1 rfl (by decide) (L' := [(1, me_i (0 : Int32)), (0, me_r 31 0)]) rfl ?_
  refine me_dropI [(0, me_r 31 0), (1, me_i (0 : Int32))] [1, 0] rfl ?_
  exact z_Works_passBarrier_h2 C N hNx hB me_FU μ (0 : Int32) hf
theorem c_Works_passBarrier {B : me_B} (hB : me_St B) {μ : me_M}  {μ' : me_M} {r : Unit}  (hf : f_Works_passBarrier μ = some (μ', r)) : ∀ l E z, l.stackTraces = false → me_Met l yX10_passBarrier cX10_passBarrier 3 none 1 20 0 0 E B μ z [me_r 31 0] (B, μ', .ok (none)) :=
  fun _ _ _ hl => me_ofZ hl (by decide +kernel) (Nat.le_of_ble_eq_true rfl) (fun _ C N hNx => z_Works_passBarrier C N hNx hB  hf)

def f_Works_countBusy_b4 (μ : me_M) (K4 : Int32 → Int32 → Option Int32) (v1 : Int32) (v2 : Int32) : Option Int32 :=
  if (μ 1 0 4) ≤ v2 then
  (some v1)
  else
  (me_gd (me_inb v2 16) (
  me_bd (f_Core_isBusy μ (me_ix v2)) (fun r3 =>
  if r3 = 0 then
  (me_lt (me_inc v2 (1)) (fun x5 =>
  K4 v1 x5))
  else
  (me_lt (me_inc v1 (1)) (fun x6 =>
  me_lt (me_inc v2 (1)) (fun x7 =>
  K4 x6 x7))))))
set_option maxHeartbeats 4000000 in
set_option maxRecDepth 100000 in
theorem z_Works_countBusy_b4 {X : me_X} {B : me_B} {sz : Nat} (C : me_C X B RX10 cX10_countBusy 3 (some .int)) {μ : me_M} {v1 : Int32} {v2 : Int32}  {K4 : Int32 → Int32 → Option Int32} {r : Int32} (N : me_En X B sz (B, μ, .ok (some (me_i r))) 2 40 0 0) (hNx : me_Nx X) (hB : me_St B) (hK4 : ∀ (v1 : Int32) (v2 : Int32), K4 v1 v2 = some r → me_Z X B 0 0 μ 4 [(0, me_r 31 0), (1, me_i v1), (2, me_i v2)] [])  (hf : f_Works_countBusy_b4 μ K4 v1 v2 = some r) : me_Z X B 0 0 μ 4 [(0, me_r 31 0), (1, me_i v1), (2, me_i v2)] [] := by
  unfold f_Works_countBusy_b4 at hf
  refine me_iload_n C 2 dX10_countBusy_4 rfl rfl ?_
  refine me_aload_n C 0 (Or.inr (Or.inl ⟨_, rfl⟩)) dX10_countBusy_5 rfl rfl ?_
  refine me_getr C hB 0 (k' := 1) (i' := 0) fg_Works_7 dX10_countBusy_6 rfl rfl ?_
  refine me_geti C 4 fg_Works_21 dX10_countBusy_9 rfl ?_
  refine me_icmp_ge C (tgt := 36) dX10_countBusy_12 (by decide) (fun c1 => ?_) (fun c1 => ?_)
  · replace hf := me_ip c1 hf
    refine me_iload_n C 1 dX10_countBusy_36 rfl rfl ?_
    exact me_iret C N dX10_countBusy_37 (me_nri _) (by cases hf; rfl) (by decide) (by decide)
  · replace hf := me_in c1 hf
    refine me_aload_n C 0 (Or.inr (Or.inl ⟨_, rfl⟩)) dX10_countBusy_15 rfl rfl ?_
    refine me_getr C hB 2 (k' := 21) (i' := 0) fg_Works_17 dX10_countBusy_16 rfl rfl ?_
    refine me_iload_n C 2 dX10_countBusy_19 rfl rfl ?_
    obtain ⟨g2, hf⟩ := me_gs hf
    refine me_aald C hB (k' := 22) (i' := (me_ix v2)) rfl (fun _ => rfl) rfl g2 dX10_countBusy_20 rfl ?_
    obtain ⟨r3, h_r3, hf⟩ := me_bs hf
    refine me_callV C N  (As := []) (st := []) 0 0 (c_Core_isBusy hB h_r3) mv_Core_isBusy ml_Works_114 rfl rfl dX10_countBusy_21 rfl rfl ⟨by decide, by decide⟩ ⟨by decide, by decide, by decide, by decide⟩ (Nat.le_of_ble_eq_true rfl) ?_
    refine me_if_eq C (tgt := 30) dX10_countBusy_24 (by decide) (fun c4 => ?_) (fun c4 => ?_)
    · replace hf := me_ip c4 hf
      obtain ⟨x5, e_x5, hf⟩ := me_lts hf
      refine me_iinc C (v := x5) (L' := [(2, me_i x5), (0, me_r 31 0), (1, me_i v1)]) dX10_countBusy_30 rfl e_x5.symm (by decide) rfl ?_
      refine me_goto C (tgt := 4) dX10_countBusy_33 (by decide) ?_
      refine me_dropI [(0, me_r 31 0), (1, me_i v1), (2, me_i x5)] [1, 2, 0] rfl ?_
      exact hK4 v1 x5 hf
    · replace hf := me_in c4 hf
      obtain ⟨x6, e_x6, hf⟩ := me_lts hf
      refine me_iinc C (v := x6) (L' := [(1, me_i x6), (0, me_r 31 0), (2, me_i v2)]) dX10_countBusy_27 rfl e_x6.symm (by decide) rfl ?_
      obtain ⟨x7, e_x7, hf⟩ := me_lts hf
      refine me_iinc C (v := x7) (L' := [(2, me_i x7), (1, me_i x6), (0, me_r 31 0)]) dX10_countBusy_30 rfl e_x7.symm (by decide) rfl ?_
      refine me_goto C (tgt := 4) dX10_countBusy_33 (by decide) ?_
      refine me_dropI [(0, me_r 31 0), (1, me_i x6), (2, me_i x7)] [2, 1, 0] rfl ?_
      exact hK4 x6 x7 hf
def f_Works_countBusy_h4 (μ : me_M) : Nat → Int32 → Int32 → Option Int32
  | 0, _, _ => none
  | n + 1, v1, v2 => f_Works_countBusy_b4 μ (f_Works_countBusy_h4 μ n) v1 v2
set_option maxHeartbeats 4000000 in
set_option maxRecDepth 100000 in
theorem z_Works_countBusy_h4 {X : me_X} {B : me_B} {sz : Nat} (C : me_C X B RX10 cX10_countBusy 3 (some .int)) {μ : me_M}  {r : Int32} (N : me_En X B sz (B, μ, .ok (some (me_i r))) 2 40 0 0) (hNx : me_Nx X) (hB : me_St B)  : ∀ (n : Nat) (v1 : Int32) (v2 : Int32), f_Works_countBusy_h4 μ n v1 v2 = some r → me_Z X B 0 0 μ 4 [(0, me_r 31 0), (1, me_i v1), (2, me_i v2)] [] := by
  intro n
  induction n with
  | zero => intro v1 v2  h; exact absurd (show (none : Option Int32) = some r from h) (fun q => by cases q)
  | succ n ih => intro v1 v2  h; exact z_Works_countBusy_b4 C N hNx hB  (K4 := f_Works_countBusy_h4 μ n) ih  h
def f_Works_countBusy (μ : me_M) : Option Int32 :=
  f_Works_countBusy_h4 μ me_FU (0 : Int32) (0 : Int32)
set_option maxHeartbeats 4000000 in
set_option maxRecDepth 100000 in
theorem z_Works_countBusy {X : me_X} {B : me_B} {sz : Nat} (C : me_C X B RX10 cX10_countBusy 3 (some .int)) {μ : me_M}    {r : Int32} (N : me_En X B sz (B, μ, .ok (some (me_i r))) 2 40 0 0) (hNx : me_Nx X) (hB : me_St B)   (hf : f_Works_countBusy μ = some r) : me_Z X B 0 0 μ 0 [(0, me_r 31 0)] [] := by
  unfold f_Works_countBusy at hf
  refine me_iconst C (v := 0) dX10_countBusy_0 (by decide) ?_
  refine me_istore_n C 1 dX10_countBusy_1 rfl (by decide) (L' := [(1, me_i (0 : Int32)), (0, me_r 31 0)]) rfl ?_
  refine me_iconst C (v := 0) dX10_countBusy_2 (by decide) ?_
  refine me_istore_n C 2 dX10_countBusy_3 rfl (by decide) (L' := [(2, me_i (0 : Int32)), (1, me_i (0 : Int32)), (0, me_r 31 0)]) rfl ?_
  refine me_dropI [(0, me_r 31 0), (1, me_i (0 : Int32)), (2, me_i (0 : Int32))] [2, 1, 0] rfl ?_
  exact z_Works_countBusy_h4 C N hNx hB me_FU (0 : Int32) (0 : Int32) hf
theorem c_Works_countBusy {B : me_B} (hB : me_St B) {μ : me_M}  {r : Int32}  (hf : f_Works_countBusy μ = some r) : ∀ l E z, l.stackTraces = false → me_Met l yX10_countBusy cX10_countBusy 3 (some .int) 2 40 0 0 E B μ z [me_r 31 0] (B, μ, .ok (some (me_i r))) :=
  fun _ _ _ hl => me_ofZ hl (by decide +kernel) (Nat.le_of_ble_eq_true rfl) (fun _ C N hNx => z_Works_countBusy C N hNx hB  hf)

def f_Y_needNode (μ : me_M) (v1 : Int32) : Option (Except Nat Unit) :=
  me_bd (f_Net_hasNode μ v1) (fun r1 =>
  if r1 = 0 then
  (some (.error 1))
  else
  (some (.ok ())))
set_option maxHeartbeats 4000000 in
set_option maxRecDepth 100000 in
theorem z_Y_needNode {X : me_X} {B : me_B} {sz : Nat} (C : me_C X B RX11 cX11_needNode 2 none) {μ : me_M} {v1 : Int32}   {r : Except Nat Unit} (N : me_En X B sz (B, μ, me_xc (fun _ => none) r) 6 90 1 6) (hNx : me_Nx X) (hB : me_St B)   (hf : f_Y_needNode μ v1 = some r) : me_Z X B 0 0 μ 0 [(0, me_r 0 0), (1, me_i v1)] [] := by
  unfold f_Y_needNode at hf
  refine me_aload_n C 0 (Or.inr (Or.inl ⟨_, rfl⟩)) dX11_needNode_0 rfl rfl ?_
  refine me_getr C hB 0 (k' := 1) (i' := 0) fg_Y_10 dX11_needNode_1 rfl rfl ?_
  refine me_iload_n C 1 dX11_needNode_4 rfl rfl ?_
  obtain ⟨r1, h_r1, hf⟩ := me_bs hf
  refine me_callV C N  (As := [me_i v1]) (st := []) 0 0 (c_Net_hasNode hB h_r1) mv_Net_hasNode ml_Y_419 rfl rfl dX11_needNode_5 rfl rfl ⟨by decide, by decide⟩ ⟨by decide, by decide, by decide, by decide⟩ (Nat.le_of_ble_eq_true rfl) ?_
  refine me_if_ne C (tgt := 22) dX11_needNode_8 (by decide) (fun c2 => ?_) (fun c2 => ?_)
  · replace hf := me_in c2 hf
    exact me_vret C N dX11_needNode_22 (by cases hf; rfl) (by decide) (by decide)
  · replace hf := me_ip c2 hf
    exact me_throwW C N hNx 1 cl_Y_423 ie_1 sr_Y_425 tw_Y_427 ft_1 dX11_needNode_11 dX11_needNode_14 dX11_needNode_15 dX11_needNode_18 dX11_needNode_21 ⟨by decide, by decide⟩ (Nat.le_of_ble_eq_true rfl) ⟨by decide, by decide⟩ (by cases hf; rfl)
theorem c_Y_needNode {B : me_B} (hB : me_St B) {μ : me_M} {v1 : Int32} {r : Except Nat Unit}  (hf : f_Y_needNode μ v1 = some r) : ∀ l E z, l.stackTraces = false → me_Met l yX11_needNode cX11_needNode 2 none 6 90 1 6 E B μ z [me_r 0 0, me_i v1] (B, μ, me_xc (fun _ => none) r) :=
  fun _ _ _ hl => me_ofZ hl (by decide +kernel) (Nat.le_of_ble_eq_true rfl) (fun _ C N hNx => z_Y_needNode C N hNx hB  hf)

def f_Y_needNodes (μ : me_M) (v1 : Int32) (v2 : Int32) : Option (Except Nat Unit) :=
  me_bd (f_Y_needNode μ v1) (fun r1 =>
  me_xb r1 (fun r1 =>
  me_bd (f_Y_needNode μ v2) (fun r2 =>
  me_xb r2 (fun r2 =>
  some (.ok ())))))
set_option maxHeartbeats 4000000 in
set_option maxRecDepth 100000 in
theorem z_Y_needNodes {X : me_X} {B : me_B} {sz : Nat} (C : me_C X B RX11 cX11_needNodes 3 none) {μ : me_M} {v1 : Int32} {v2 : Int32}   {r : Except Nat Unit} (N : me_En X B sz (B, μ, me_xc (fun _ => none) r) 7 111 2 12) (hNx : me_Nx X) (hB : me_St B)   (hf : f_Y_needNodes μ v1 v2 = some r) : me_Z X B 0 0 μ 0 [(0, me_r 0 0), (1, me_i v1), (2, me_i v2)] [] := by
  unfold f_Y_needNodes at hf
  refine me_aload_n C 0 (Or.inr (Or.inl ⟨_, rfl⟩)) dX11_needNodes_0 rfl rfl ?_
  refine me_iload_n C 1 dX11_needNodes_1 rfl rfl ?_
  obtain ⟨r1, h_r1, hf⟩ := me_bs hf
  rcases r1 with r1 | r1
  · replace hf := me_xbe hf
    refine me_callVE C N  (As := [me_i v1]) (st := []) 1 6 (c_Y_needNode hB h_r1) mv_Y_needNode ml_Y_103 rfl rfl dX11_needNodes_2 rfl rfl ⟨by decide, by decide⟩ ⟨by decide, by decide, by decide, by decide⟩ (Nat.le_of_ble_eq_true rfl) ?_
    exact me_outX C N hNx (by cases hf; rfl) (by decide) (by decide)
  replace hf := me_xbo hf
  refine me_callV0 C N  (As := [me_i v1]) (st := []) 1 6 (c_Y_needNode hB h_r1) mv_Y_needNode ml_Y_103 rfl rfl dX11_needNodes_2 rfl rfl ⟨by decide, by decide⟩ ⟨by decide, by decide, by decide, by decide⟩ (Nat.le_of_ble_eq_true rfl) ?_
  refine me_aload_n C 0 (Or.inr (Or.inl ⟨_, rfl⟩)) dX11_needNodes_5 rfl rfl ?_
  refine me_iload_n C 2 dX11_needNodes_6 rfl rfl ?_
  obtain ⟨r2, h_r2, hf⟩ := me_bs hf
  rcases r2 with r2 | r2
  · replace hf := me_xbe hf
    refine me_callVE C N  (As := [me_i v2]) (st := []) 2 12 (c_Y_needNode hB h_r2) mv_Y_needNode ml_Y_103 rfl rfl dX11_needNodes_7 rfl rfl ⟨by decide, by decide⟩ ⟨by decide, by decide, by decide, by decide⟩ (Nat.le_of_ble_eq_true rfl) ?_
    exact me_outX C N hNx (by cases hf; rfl) (by decide) (by decide)
  replace hf := me_xbo hf
  refine me_callV0 C N  (As := [me_i v2]) (st := []) 2 12 (c_Y_needNode hB h_r2) mv_Y_needNode ml_Y_103 rfl rfl dX11_needNodes_7 rfl rfl ⟨by decide, by decide⟩ ⟨by decide, by decide, by decide, by decide⟩ (Nat.le_of_ble_eq_true rfl) ?_
  exact me_vret C N dX11_needNodes_10 (by cases hf; rfl) (by decide) (by decide)
theorem c_Y_needNodes {B : me_B} (hB : me_St B) {μ : me_M} {v1 : Int32} {v2 : Int32} {r : Except Nat Unit}  (hf : f_Y_needNodes μ v1 v2 = some r) : ∀ l E z, l.stackTraces = false → me_Met l yX11_needNodes cX11_needNodes 3 none 7 111 2 12 E B μ z [me_r 0 0, me_i v1, me_i v2] (B, μ, me_xc (fun _ => none) r) :=
  fun _ _ _ hl => me_ofZ hl (by decide +kernel) (Nat.le_of_ble_eq_true rfl) (fun _ C N hNx => z_Y_needNodes C N hNx hB  hf)

def f_Y_needRange_b10 (μ : me_M) : Option (Except Nat Unit) :=
  some (.error 2)
set_option maxHeartbeats 4000000 in
set_option maxRecDepth 100000 in
theorem z_Y_needRange_b10 {X : me_X} {B : me_B} {sz : Nat} (C : me_C X B RX11 cX11_needRange 4 none) {μ : me_M}    {r : Except Nat Unit} (N : me_En X B sz (B, μ, me_xc (fun _ => none) r) 6 90 1 6) (hNx : me_Nx X) (hB : me_St B)   (hf : f_Y_needRange_b10 μ = some r) : me_Z X B 0 0 μ 10 [] [] := by
  unfold f_Y_needRange_b10 at hf
  exact me_throwW C N hNx 2 cl_Y_109 ie_2 sr_Y_432 tw_Y_113 ft_2 dX11_needRange_10 dX11_needRange_13 dX11_needRange_14 dX11_needRange_17 dX11_needRange_20 ⟨by decide, by decide⟩ (Nat.le_of_ble_eq_true rfl) ⟨by decide, by decide⟩ (by cases hf; rfl)
def f_Y_needRange (μ : me_M) (v1 : Int32) (v2 : Int32) (v3 : Int32) : Option (Except Nat Unit) :=
  if v1 < v2 then
  (f_Y_needRange_b10 μ)
  else
  (if v1 ≤ v3 then
  (some (.ok ()))
  else
  (f_Y_needRange_b10 μ))
set_option maxHeartbeats 4000000 in
set_option maxRecDepth 100000 in
theorem z_Y_needRange {X : me_X} {B : me_B} {sz : Nat} (C : me_C X B RX11 cX11_needRange 4 none) {μ : me_M} {v1 : Int32} {v2 : Int32} {v3 : Int32}   {r : Except Nat Unit} (N : me_En X B sz (B, μ, me_xc (fun _ => none) r) 6 90 1 6) (hNx : me_Nx X) (hB : me_St B)   (hf : f_Y_needRange μ v1 v2 v3 = some r) : me_Z X B 0 0 μ 0 [(0, me_r 0 0), (1, me_i v1), (2, me_i v2), (3, me_i v3)] [] := by
  unfold f_Y_needRange at hf
  refine me_iload_n C 1 dX11_needRange_0 rfl rfl ?_
  refine me_iload_n C 2 dX11_needRange_1 rfl rfl ?_
  refine me_icmp_lt C (tgt := 10) dX11_needRange_2 (by decide) (fun c1 => ?_) (fun c1 => ?_)
  · replace hf := me_ip c1 hf
    refine me_dropI [] [] rfl ?_
    exact z_Y_needRange_b10 C N hNx hB hf
  · replace hf := me_in c1 hf
    refine me_iload_n C 1 dX11_needRange_5 rfl rfl ?_
    refine me_iload_n C 3 dX11_needRange_6 rfl rfl ?_
    refine me_icmp_le C (tgt := 21) dX11_needRange_7 (by decide) (fun c2 => ?_) (fun c2 => ?_)
    · replace hf := me_ip c2 hf
      exact me_vret C N dX11_needRange_21 (by cases hf; rfl) (by decide) (by decide)
    · replace hf := me_in c2 hf
      refine me_dropI [] [] rfl ?_
      exact z_Y_needRange_b10 C N hNx hB hf
theorem c_Y_needRange {B : me_B} (hB : me_St B) {μ : me_M} {v1 : Int32} {v2 : Int32} {v3 : Int32} {r : Except Nat Unit}  (hf : f_Y_needRange μ v1 v2 v3 = some r) : ∀ l E z, l.stackTraces = false → me_Met l yX11_needRange cX11_needRange 4 none 6 90 1 6 E B μ z [me_r 0 0, me_i v1, me_i v2, me_i v3] (B, μ, me_xc (fun _ => none) r) :=
  fun _ _ _ hl => me_ofZ hl (by decide +kernel) (Nat.le_of_ble_eq_true rfl) (fun _ C N hNx => z_Y_needRange C N hNx hB  hf)

def f_Y_needRoom (μ : me_M) (v1 : Int32) : Option (Except Nat Unit) :=
  me_bd (f_Post_hasRoom μ v1) (fun r1 =>
  if r1 = 0 then
  (some (.error 3))
  else
  (some (.ok ())))
set_option maxHeartbeats 4000000 in
set_option maxRecDepth 100000 in
theorem z_Y_needRoom {X : me_X} {B : me_B} {sz : Nat} (C : me_C X B RX11 cX11_needRoom 2 none) {μ : me_M} {v1 : Int32}   {r : Except Nat Unit} (N : me_En X B sz (B, μ, me_xc (fun _ => none) r) 6 90 1 6) (hNx : me_Nx X) (hB : me_St B)   (hf : f_Y_needRoom μ v1 = some r) : me_Z X B 0 0 μ 0 [(0, me_r 0 0), (1, me_i v1)] [] := by
  unfold f_Y_needRoom at hf
  refine me_aload_n C 0 (Or.inr (Or.inl ⟨_, rfl⟩)) dX11_needRoom_0 rfl rfl ?_
  refine me_getr C hB 1 (k' := 6) (i' := 0) fg_Y_19 dX11_needRoom_1 rfl rfl ?_
  refine me_iload_n C 1 dX11_needRoom_4 rfl rfl ?_
  obtain ⟨r1, h_r1, hf⟩ := me_bs hf
  refine me_callV C N  (As := [me_i v1]) (st := []) 0 0 (c_Post_hasRoom hB h_r1) mv_Post_hasRoom ml_Y_434 rfl rfl dX11_needRoom_5 rfl rfl ⟨by decide, by decide⟩ ⟨by decide, by decide, by decide, by decide⟩ (Nat.le_of_ble_eq_true rfl) ?_
  refine me_if_ne C (tgt := 22) dX11_needRoom_8 (by decide) (fun c2 => ?_) (fun c2 => ?_)
  · replace hf := me_in c2 hf
    exact me_vret C N dX11_needRoom_22 (by cases hf; rfl) (by decide) (by decide)
  · replace hf := me_ip c2 hf
    exact me_throwW C N hNx 3 cl_Y_303 ie_3 sr_Y_437 tw_Y_307 ft_3 dX11_needRoom_11 dX11_needRoom_14 dX11_needRoom_15 dX11_needRoom_18 dX11_needRoom_21 ⟨by decide, by decide⟩ (Nat.le_of_ble_eq_true rfl) ⟨by decide, by decide⟩ (by cases hf; rfl)
theorem c_Y_needRoom {B : me_B} (hB : me_St B) {μ : me_M} {v1 : Int32} {r : Except Nat Unit}  (hf : f_Y_needRoom μ v1 = some r) : ∀ l E z, l.stackTraces = false → me_Met l yX11_needRoom cX11_needRoom 2 none 6 90 1 6 E B μ z [me_r 0 0, me_i v1] (B, μ, me_xc (fun _ => none) r) :=
  fun _ _ _ hl => me_ofZ hl (by decide +kernel) (Nat.le_of_ble_eq_true rfl) (fun _ C N hNx => z_Y_needRoom C N hNx hB  hf)

def f_Y_send (μ : me_M) (v1 : Int32) (v2 : Int32) (v3 : Int32) (v4 : Int32) : Option (me_M × (Except Nat Int32)) :=
  me_bd (f_Y_needNodes μ v1 v2) (fun r1 =>
  me_xb2 r1 μ (fun r1 =>
  me_bd (f_Y_needRange μ v4 (1 : Int32) (4 : Int32)) (fun r2 =>
  me_xb2 r2 μ (fun r2 =>
  me_bd (f_Y_needRoom μ (1 : Int32)) (fun r3 =>
  me_xb2 r3 μ (fun r3 =>
  me_b2 (f_Post_make μ (109 : Int32) v1 v2 v3 v4 (μ 30 0 5)) (fun μ5 r4 =>
  some (μ5, .ok r4))))))))
set_option maxHeartbeats 4000000 in
set_option maxRecDepth 100000 in
theorem z_Y_send {X : me_X} {B : me_B} {sz : Nat} (C : me_C X B RX11 cX11_send 5 (some .int)) {μ : me_M} {v1 : Int32} {v2 : Int32} {v3 : Int32} {v4 : Int32}   {r : me_M × (Except Nat Int32)} (N : me_En X B sz (B, r.1, me_xc (fun v => some (me_i v)) r.2) 8 133 4 24) (hNx : me_Nx X) (hB : me_St B)   (hf : f_Y_send μ v1 v2 v3 v4 = some r) : me_Z X B 0 0 μ 0 [(0, me_r 0 0), (1, me_i v1), (2, me_i v2), (3, me_i v3), (4, me_i v4)] [] := by
  unfold f_Y_send at hf
  refine me_aload_n C 0 (Or.inr (Or.inl ⟨_, rfl⟩)) dX11_send_0 rfl rfl ?_
  refine me_iload_n C 1 dX11_send_1 rfl rfl ?_
  refine me_iload_n C 2 dX11_send_2 rfl rfl ?_
  obtain ⟨r1, h_r1, hf⟩ := me_bs hf
  rcases r1 with r1 | r1
  · replace hf := me_xb2e hf
    refine me_callVE C N  (As := [me_i v1, me_i v2]) (st := []) 2 12 (c_Y_needNodes hB h_r1) mv_Y_needNodes ml_Y_84 rfl rfl dX11_send_3 rfl rfl ⟨by decide, by decide⟩ ⟨by decide, by decide, by decide, by decide⟩ (Nat.le_of_ble_eq_true rfl) ?_
    exact me_outX C N hNx (by cases hf; rfl) (by decide) (by decide)
  replace hf := me_xb2o hf
  refine me_callV0 C N  (As := [me_i v1, me_i v2]) (st := []) 2 12 (c_Y_needNodes hB h_r1) mv_Y_needNodes ml_Y_84 rfl rfl dX11_send_3 rfl rfl ⟨by decide, by decide⟩ ⟨by decide, by decide, by decide, by decide⟩ (Nat.le_of_ble_eq_true rfl) ?_
  refine me_aload_n C 0 (Or.inr (Or.inl ⟨_, rfl⟩)) dX11_send_6 rfl rfl ?_
  refine me_iload C dX11_send_7 rfl ?_
  refine me_iconst C (v := 1) dX11_send_9 (by decide) ?_
  refine me_iconst C (v := 4) dX11_send_10 (by decide) ?_
  obtain ⟨r2, h_r2, hf⟩ := me_bs hf
  rcases r2 with r2 | r2
  · replace hf := me_xb2e hf
    refine me_callVE C N  (As := [me_i v4, me_i (1 : Int32), me_i (4 : Int32)]) (st := []) 3 18 (c_Y_needRange hB h_r2) mv_Y_needRange ml_Y_87 rfl rfl dX11_send_11 rfl rfl ⟨by decide, by decide⟩ ⟨by decide, by decide, by decide, by decide⟩ (Nat.le_of_ble_eq_true rfl) ?_
    exact me_outX C N hNx (by cases hf; rfl) (by decide) (by decide)
  replace hf := me_xb2o hf
  refine me_callV0 C N  (As := [me_i v4, me_i (1 : Int32), me_i (4 : Int32)]) (st := []) 3 18 (c_Y_needRange hB h_r2) mv_Y_needRange ml_Y_87 rfl rfl dX11_send_11 rfl rfl ⟨by decide, by decide⟩ ⟨by decide, by decide, by decide, by decide⟩ (Nat.le_of_ble_eq_true rfl) ?_
  refine me_aload_n C 0 (Or.inr (Or.inl ⟨_, rfl⟩)) dX11_send_14 rfl rfl ?_
  refine me_iconst C (v := 1) dX11_send_15 (by decide) ?_
  obtain ⟨r3, h_r3, hf⟩ := me_bs hf
  rcases r3 with r3 | r3
  · replace hf := me_xb2e hf
    refine me_callVE C N  (As := [me_i (1 : Int32)]) (st := []) 4 24 (c_Y_needRoom hB h_r3) mv_Y_needRoom ml_Y_91 rfl rfl dX11_send_16 rfl rfl ⟨by decide, by decide⟩ ⟨by decide, by decide, by decide, by decide⟩ (Nat.le_of_ble_eq_true rfl) ?_
    exact me_outX C N hNx (by cases hf; rfl) (by decide) (by decide)
  replace hf := me_xb2o hf
  refine me_callV0 C N  (As := [me_i (1 : Int32)]) (st := []) 4 24 (c_Y_needRoom hB h_r3) mv_Y_needRoom ml_Y_91 rfl rfl dX11_send_16 rfl rfl ⟨by decide, by decide⟩ ⟨by decide, by decide, by decide, by decide⟩ (Nat.le_of_ble_eq_true rfl) ?_
  refine me_aload_n C 0 (Or.inr (Or.inl ⟨_, rfl⟩)) dX11_send_19 rfl rfl ?_
  refine me_getr C hB 1 (k' := 6) (i' := 0) fg_Y_19 dX11_send_20 rfl rfl ?_
  refine me_bipush C (v := 109) dX11_send_23 (by decide) ?_
  refine me_iload_n C 1 dX11_send_25 rfl rfl ?_
  refine me_iload_n C 2 dX11_send_26 rfl rfl ?_
  refine me_iload_n C 3 dX11_send_27 rfl rfl ?_
  refine me_iload C dX11_send_28 rfl ?_
  refine me_aload_n C 0 (Or.inr (Or.inl ⟨_, rfl⟩)) dX11_send_30 rfl rfl ?_
  refine me_getr C hB 6 (k' := 30) (i' := 0) fg_Y_58 dX11_send_31 rfl rfl ?_
  refine me_geti C 5 fg_Y_95 dX11_send_34 rfl ?_
  obtain ⟨μ5, r4, h_r4, hf⟩ := me_bs2 hf
  refine me_callV C N  (As := [me_i (109 : Int32), me_i v1, me_i v2, me_i v3, me_i v4, me_i (μ 30 0 5)]) (st := []) 4 24 (c_Post_make hB h_r4) mv_Post_make ml_Y_99 rfl rfl dX11_send_37 rfl rfl ⟨by decide, by decide⟩ ⟨by decide, by decide, by decide, by decide⟩ (Nat.le_of_ble_eq_true rfl) ?_
  exact me_iret C N dX11_send_40 (me_nri _) (by cases hf; rfl) (by decide) (by decide)
theorem c_Y_send {B : me_B} (hB : me_St B) {μ : me_M} {v1 : Int32} {v2 : Int32} {v3 : Int32} {v4 : Int32} {μ' : me_M} {r : Except Nat Int32}  (hf : f_Y_send μ v1 v2 v3 v4 = some (μ', r)) : ∀ l E z, l.stackTraces = false → me_Met l yX11_send cX11_send 5 (some .int) 8 133 4 24 E B μ z [me_r 0 0, me_i v1, me_i v2, me_i v3, me_i v4] (B, μ', me_xc (fun v => some (me_i v)) r) :=
  fun _ _ _ hl => me_ofZ hl (by decide +kernel) (Nat.le_of_ble_eq_true rfl) (fun _ C N hNx => z_Y_send C N hNx hB  hf)
