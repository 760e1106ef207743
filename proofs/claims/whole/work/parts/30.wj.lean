/-! WALKS: Y_top, Y_at, Y_task, Y_needTask, Y_traffic, Y_cost, Y_swap, Y_nodeOf, Y_checksum, Y_lostShare, Y_meanTime, Y_packetsAreSound, Y_isSound, M_thrown, M_isThrown, M_isIn, M_nodes, M_isNoNode, M_isNoPacket -/
theorem dX11_top_0 : decode cX11_top 0 = .ok (.aload_n 0, 1) := by decide +kernel
theorem dX11_top_1 : decode cX11_top 1 = .ok (.iload_n 1, 1) := by decide +kernel
theorem dX11_top_2 : decode cX11_top 2 = .ok (.invokevirtual 103, 3) := by decide +kernel
theorem dX11_top_5 : decode cX11_top 5 = .ok (.aload_n 0, 1) := by decide +kernel
theorem dX11_top_6 : decode cX11_top 6 = .ok (.getfield 40, 3) := by decide +kernel
theorem dX11_top_9 : decode cX11_top 9 = .ok (.iload_n 1, 1) := by decide +kernel
theorem dX11_top_10 : decode cX11_top 10 = .ok (.aaload, 1) := by decide +kernel
theorem dX11_top_11 : decode cX11_top 11 = .ok (.astore_n 2, 1) := by decide +kernel
theorem dX11_top_12 : decode cX11_top 12 = .ok (.aload_n 2, 1) := by decide +kernel
theorem dX11_top_13 : decode cX11_top 13 = .ok (.getfield 332, 3) := by decide +kernel
theorem dX11_top_16 : decode cX11_top 16 = .ok (.ifCond .le 12, 3) := by decide +kernel
theorem dX11_top_19 : decode cX11_top 19 = .ok (.aload_n 2, 1) := by decide +kernel
theorem dX11_top_20 : decode cX11_top 20 = .ok (.getfield 332, 3) := by decide +kernel
theorem dX11_top_23 : decode cX11_top 23 = .ok (.bipush 6, 2) := by decide +kernel
theorem dX11_top_25 : decode cX11_top 25 = .ok (.if_icmp .le 14, 3) := by decide +kernel
theorem dX11_top_28 : decode cX11_top 28 = .ok (.new 146, 3) := by decide +kernel
theorem dX11_top_31 : decode cX11_top 31 = .ok (.dup, 1) := by decide +kernel
theorem dX11_top_32 : decode cX11_top 32 = .ok (.ldc_w 335, 3) := by decide +kernel
theorem dX11_top_35 : decode cX11_top 35 = .ok (.invokespecial 150, 3) := by decide +kernel
theorem dX11_top_38 : decode cX11_top 38 = .ok (.athrow, 1) := by decide +kernel
theorem dX11_top_39 : decode cX11_top 39 = .ok (.aload_n 2, 1) := by decide +kernel
theorem dX11_top_40 : decode cX11_top 40 = .ok (.getfield 337, 3) := by decide +kernel
theorem dX11_top_43 : decode cX11_top 43 = .ok (.aload_n 2, 1) := by decide +kernel
theorem dX11_top_44 : decode cX11_top 44 = .ok (.getfield 332, 3) := by decide +kernel
theorem dX11_top_47 : decode cX11_top 47 = .ok (.iconst 1, 1) := by decide +kernel
theorem dX11_top_48 : decode cX11_top 48 = .ok (.isub, 1) := by decide +kernel
theorem dX11_top_49 : decode cX11_top 49 = .ok (.iaload, 1) := by decide +kernel
theorem dX11_top_50 : decode cX11_top 50 = .ok (.ireturn, 1) := by decide +kernel
theorem dX11_at_0 : decode cX11_at 0 = .ok (.aload_n 0, 1) := by decide +kernel
theorem dX11_at_1 : decode cX11_at 1 = .ok (.iload_n 1, 1) := by decide +kernel
theorem dX11_at_2 : decode cX11_at 2 = .ok (.invokevirtual 103, 3) := by decide +kernel
theorem dX11_at_5 : decode cX11_at 5 = .ok (.aload_n 0, 1) := by decide +kernel
theorem dX11_at_6 : decode cX11_at 6 = .ok (.getfield 40, 3) := by decide +kernel
theorem dX11_at_9 : decode cX11_at 9 = .ok (.iload_n 1, 1) := by decide +kernel
theorem dX11_at_10 : decode cX11_at 10 = .ok (.aaload, 1) := by decide +kernel
theorem dX11_at_11 : decode cX11_at 11 = .ok (.getfield 323, 3) := by decide +kernel
theorem dX11_at_14 : decode cX11_at 14 = .ok (.bipush 45, 2) := by decide +kernel
theorem dX11_at_16 : decode cX11_at 16 = .ok (.if_icmp .ne 14, 3) := by decide +kernel
theorem dX11_at_19 : decode cX11_at 19 = .ok (.new 146, 3) := by decide +kernel
theorem dX11_at_22 : decode cX11_at 22 = .ok (.dup, 1) := by decide +kernel
theorem dX11_at_23 : decode cX11_at 23 = .ok (.ldc_w 340, 3) := by decide +kernel
theorem dX11_at_26 : decode cX11_at 26 = .ok (.invokespecial 150, 3) := by decide +kernel
theorem dX11_at_29 : decode cX11_at 29 = .ok (.athrow, 1) := by decide +kernel
theorem dX11_at_30 : decode cX11_at 30 = .ok (.aload_n 0, 1) := by decide +kernel
theorem dX11_at_31 : decode cX11_at 31 = .ok (.getfield 40, 3) := by decide +kernel
theorem dX11_at_34 : decode cX11_at 34 = .ok (.iload_n 1, 1) := by decide +kernel
theorem dX11_at_35 : decode cX11_at 35 = .ok (.aaload, 1) := by decide +kernel
theorem dX11_at_36 : decode cX11_at 36 = .ok (.getfield 342, 3) := by decide +kernel
theorem dX11_at_39 : decode cX11_at 39 = .ok (.ireturn, 1) := by decide +kernel
theorem dX11_task_0 : decode cX11_task 0 = .ok (.aload_n 0, 1) := by decide +kernel
theorem dX11_task_1 : decode cX11_task 1 = .ok (.iload_n 1, 1) := by decide +kernel
theorem dX11_task_2 : decode cX11_task 2 = .ok (.invokevirtual 103, 3) := by decide +kernel
theorem dX11_task_5 : decode cX11_task 5 = .ok (.aload_n 0, 1) := by decide +kernel
theorem dX11_task_6 : decode cX11_task 6 = .ok (.getfield 28, 3) := by decide +kernel
theorem dX11_task_9 : decode cX11_task 9 = .ok (.getfield 345, 3) := by decide +kernel
theorem dX11_task_12 : decode cX11_task 12 = .ok (.bipush 8, 2) := by decide +kernel
theorem dX11_task_14 : decode cX11_task 14 = .ok (.if_icmp .lt 14, 3) := by decide +kernel
theorem dX11_task_17 : decode cX11_task 17 = .ok (.new 303, 3) := by decide +kernel
theorem dX11_task_20 : decode cX11_task 20 = .ok (.dup, 1) := by decide +kernel
theorem dX11_task_21 : decode cX11_task 21 = .ok (.ldc_w 348, 3) := by decide +kernel
theorem dX11_task_24 : decode cX11_task 24 = .ok (.invokespecial 307, 3) := by decide +kernel
theorem dX11_task_27 : decode cX11_task 27 = .ok (.athrow, 1) := by decide +kernel
theorem dX11_task_28 : decode cX11_task 28 = .ok (.aload_n 0, 1) := by decide +kernel
theorem dX11_task_29 : decode cX11_task 29 = .ok (.getfield 28, 3) := by decide +kernel
theorem dX11_task_32 : decode cX11_task 32 = .ok (.iload_n 1, 1) := by decide +kernel
theorem dX11_task_33 : decode cX11_task 33 = .ok (.invokevirtual 350, 3) := by decide +kernel
theorem dX11_task_36 : decode cX11_task 36 = .ok (.ireturn, 1) := by decide +kernel
theorem dX11_needTask_0 : decode cX11_needTask 0 = .ok (.iload_n 1, 1) := by decide +kernel
theorem dX11_needTask_1 : decode cX11_needTask 1 = .ok (.ifCond .lt 14, 3) := by decide +kernel
theorem dX11_needTask_4 : decode cX11_needTask 4 = .ok (.iload_n 1, 1) := by decide +kernel
theorem dX11_needTask_5 : decode cX11_needTask 5 = .ok (.aload_n 0, 1) := by decide +kernel
theorem dX11_needTask_6 : decode cX11_needTask 6 = .ok (.getfield 28, 3) := by decide +kernel
theorem dX11_needTask_9 : decode cX11_needTask 9 = .ok (.getfield 345, 3) := by decide +kernel
theorem dX11_needTask_12 : decode cX11_needTask 12 = .ok (.if_icmp .lt 14, 3) := by decide +kernel
theorem dX11_needTask_15 : decode cX11_needTask 15 = .ok (.new 423, 3) := by decide +kernel
theorem dX11_needTask_18 : decode cX11_needTask 18 = .ok (.dup, 1) := by decide +kernel
theorem dX11_needTask_19 : decode cX11_needTask 19 = .ok (.ldc_w 430, 3) := by decide +kernel
theorem dX11_needTask_22 : decode cX11_needTask 22 = .ok (.invokespecial 427, 3) := by decide +kernel
theorem dX11_needTask_25 : decode cX11_needTask 25 = .ok (.athrow, 1) := by decide +kernel
theorem dX11_needTask_26 : decode cX11_needTask 26 = .ok (.return_, 1) := by decide +kernel
theorem dX11_traffic_0 : decode cX11_traffic 0 = .ok (.aload_n 0, 1) := by decide +kernel
theorem dX11_traffic_1 : decode cX11_traffic 1 = .ok (.iload_n 1, 1) := by decide +kernel
theorem dX11_traffic_2 : decode cX11_traffic 2 = .ok (.invokevirtual 353, 3) := by decide +kernel
theorem dX11_traffic_5 : decode cX11_traffic 5 = .ok (.aload_n 0, 1) := by decide +kernel
theorem dX11_traffic_6 : decode cX11_traffic 6 = .ok (.iload_n 2, 1) := by decide +kernel
theorem dX11_traffic_7 : decode cX11_traffic 7 = .ok (.invokevirtual 353, 3) := by decide +kernel
theorem dX11_traffic_10 : decode cX11_traffic 10 = .ok (.iload_n 1, 1) := by decide +kernel
theorem dX11_traffic_11 : decode cX11_traffic 11 = .ok (.iload_n 2, 1) := by decide +kernel
theorem dX11_traffic_12 : decode cX11_traffic 12 = .ok (.if_icmp .ne 14, 3) := by decide +kernel
theorem dX11_traffic_15 : decode cX11_traffic 15 = .ok (.new 109, 3) := by decide +kernel
theorem dX11_traffic_18 : decode cX11_traffic 18 = .ok (.dup, 1) := by decide +kernel
theorem dX11_traffic_19 : decode cX11_traffic 19 = .ok (.ldc_w 356, 3) := by decide +kernel
theorem dX11_traffic_22 : decode cX11_traffic 22 = .ok (.invokespecial 113, 3) := by decide +kernel
theorem dX11_traffic_25 : decode cX11_traffic 25 = .ok (.athrow, 1) := by decide +kernel
theorem dX11_traffic_26 : decode cX11_traffic 26 = .ok (.aload_n 0, 1) := by decide +kernel
theorem dX11_traffic_27 : decode cX11_traffic 27 = .ok (.iload_n 3, 1) := by decide +kernel
theorem dX11_traffic_28 : decode cX11_traffic 28 = .ok (.iconst 0, 1) := by decide +kernel
theorem dX11_traffic_29 : decode cX11_traffic 29 = .ok (.bipush 99, 2) := by decide +kernel
theorem dX11_traffic_31 : decode cX11_traffic 31 = .ok (.invokevirtual 87, 3) := by decide +kernel
theorem dX11_traffic_34 : decode cX11_traffic 34 = .ok (.aload_n 0, 1) := by decide +kernel
theorem dX11_traffic_35 : decode cX11_traffic 35 = .ok (.getfield 28, 3) := by decide +kernel
theorem dX11_traffic_38 : decode cX11_traffic 38 = .ok (.iload_n 1, 1) := by decide +kernel
theorem dX11_traffic_39 : decode cX11_traffic 39 = .ok (.iload_n 2, 1) := by decide +kernel
theorem dX11_traffic_40 : decode cX11_traffic 40 = .ok (.iload_n 3, 1) := by decide +kernel
theorem dX11_traffic_41 : decode cX11_traffic 41 = .ok (.invokevirtual 358, 3) := by decide +kernel
theorem dX11_traffic_44 : decode cX11_traffic 44 = .ok (.ireturn, 1) := by decide +kernel
theorem dX11_cost_0 : decode cX11_cost 0 = .ok (.aload_n 0, 1) := by decide +kernel
theorem dX11_cost_1 : decode cX11_cost 1 = .ok (.getfield 28, 3) := by decide +kernel
theorem dX11_cost_4 : decode cX11_cost 4 = .ok (.invokevirtual 361, 3) := by decide +kernel
theorem dX11_cost_7 : decode cX11_cost 7 = .ok (.ireturn, 1) := by decide +kernel
theorem dX11_swap_0 : decode cX11_swap 0 = .ok (.aload_n 0, 1) := by decide +kernel
theorem dX11_swap_1 : decode cX11_swap 1 = .ok (.getfield 28, 3) := by decide +kernel
theorem dX11_swap_4 : decode cX11_swap 4 = .ok (.invokevirtual 364, 3) := by decide +kernel
theorem dX11_swap_7 : decode cX11_swap 7 = .ok (.istore_n 1, 1) := by decide +kernel
theorem dX11_swap_8 : decode cX11_swap 8 = .ok (.iload_n 1, 1) := by decide +kernel
theorem dX11_swap_9 : decode cX11_swap 9 = .ok (.ifCond .gt 14, 3) := by decide +kernel
theorem dX11_swap_12 : decode cX11_swap 12 = .ok (.new 146, 3) := by decide +kernel
theorem dX11_swap_15 : decode cX11_swap 15 = .ok (.dup, 1) := by decide +kernel
theorem dX11_swap_16 : decode cX11_swap 16 = .ok (.ldc_w 367, 3) := by decide +kernel
theorem dX11_swap_19 : decode cX11_swap 19 = .ok (.invokespecial 150, 3) := by decide +kernel
theorem dX11_swap_22 : decode cX11_swap 22 = .ok (.athrow, 1) := by decide +kernel
theorem dX11_swap_23 : decode cX11_swap 23 = .ok (.iload_n 1, 1) := by decide +kernel
theorem dX11_swap_24 : decode cX11_swap 24 = .ok (.ireturn, 1) := by decide +kernel
theorem dX11_nodeOf_0 : decode cX11_nodeOf 0 = .ok (.aload_n 0, 1) := by decide +kernel
theorem dX11_nodeOf_1 : decode cX11_nodeOf 1 = .ok (.iload_n 1, 1) := by decide +kernel
theorem dX11_nodeOf_2 : decode cX11_nodeOf 2 = .ok (.invokevirtual 353, 3) := by decide +kernel
theorem dX11_nodeOf_5 : decode cX11_nodeOf 5 = .ok (.aload_n 0, 1) := by decide +kernel
theorem dX11_nodeOf_6 : decode cX11_nodeOf 6 = .ok (.getfield 28, 3) := by decide +kernel
theorem dX11_nodeOf_9 : decode cX11_nodeOf 9 = .ok (.getfield 369, 3) := by decide +kernel
theorem dX11_nodeOf_12 : decode cX11_nodeOf 12 = .ok (.iload_n 1, 1) := by decide +kernel
theorem dX11_nodeOf_13 : decode cX11_nodeOf 13 = .ok (.iaload, 1) := by decide +kernel
theorem dX11_nodeOf_14 : decode cX11_nodeOf 14 = .ok (.ireturn, 1) := by decide +kernel
theorem dX11_checksum_0 : decode cX11_checksum 0 = .ok (.ldc2_w 372, 3) := by decide +kernel
theorem dX11_checksum_3 : decode cX11_checksum 3 = .ok (.lstore_n 1, 1) := by decide +kernel
theorem dX11_checksum_4 : decode cX11_checksum 4 = .ok (.iconst 0, 1) := by decide +kernel
theorem dX11_checksum_5 : decode cX11_checksum 5 = .ok (.istore_n 3, 1) := by decide +kernel
theorem dX11_checksum_6 : decode cX11_checksum 6 = .ok (.iload_n 3, 1) := by decide +kernel
theorem dX11_checksum_7 : decode cX11_checksum 7 = .ok (.aload_n 0, 1) := by decide +kernel
theorem dX11_checksum_8 : decode cX11_checksum 8 = .ok (.getfield 10, 3) := by decide +kernel
theorem dX11_checksum_11 : decode cX11_checksum 11 = .ok (.getfield 106, 3) := by decide +kernel
theorem dX11_checksum_14 : decode cX11_checksum 14 = .ok (.if_icmp .ge 62, 3) := by decide +kernel
theorem dX11_checksum_17 : decode cX11_checksum 17 = .ok (.iconst 0, 1) := by decide +kernel
theorem dX11_checksum_18 : decode cX11_checksum 18 = .ok (.istore 4, 2) := by decide +kernel
theorem dX11_checksum_20 : decode cX11_checksum 20 = .ok (.iload 4, 2) := by decide +kernel
theorem dX11_checksum_22 : decode cX11_checksum 22 = .ok (.bipush 8, 2) := by decide +kernel
theorem dX11_checksum_24 : decode cX11_checksum 24 = .ok (.if_icmp .ge 29, 3) := by decide +kernel
theorem dX11_checksum_27 : decode cX11_checksum 27 = .ok (.ldc2_w 374, 3) := by decide +kernel
theorem dX11_checksum_30 : decode cX11_checksum 30 = .ok (.lload_n 1, 1) := by decide +kernel
theorem dX11_checksum_31 : decode cX11_checksum 31 = .ok (.lmul, 1) := by decide +kernel
theorem dX11_checksum_32 : decode cX11_checksum 32 = .ok (.aload_n 0, 1) := by decide +kernel
theorem dX11_checksum_33 : decode cX11_checksum 33 = .ok (.getfield 40, 3) := by decide +kernel
theorem dX11_checksum_36 : decode cX11_checksum 36 = .ok (.iload_n 3, 1) := by decide +kernel
theorem dX11_checksum_37 : decode cX11_checksum 37 = .ok (.aaload, 1) := by decide +kernel
theorem dX11_checksum_38 : decode cX11_checksum 38 = .ok (.getfield 329, 3) := by decide +kernel
theorem dX11_checksum_41 : decode cX11_checksum 41 = .ok (.iload 4, 2) := by decide +kernel
theorem dX11_checksum_43 : decode cX11_checksum 43 = .ok (.iaload, 1) := by decide +kernel
theorem dX11_checksum_44 : decode cX11_checksum 44 = .ok (.i2l, 1) := by decide +kernel
theorem dX11_checksum_45 : decode cX11_checksum 45 = .ok (.ladd, 1) := by decide +kernel
theorem dX11_checksum_46 : decode cX11_checksum 46 = .ok (.lstore_n 1, 1) := by decide +kernel
theorem dX11_checksum_47 : decode cX11_checksum 47 = .ok (.iinc 4 1, 3) := by decide +kernel
theorem dX11_checksum_50 : decode cX11_checksum 50 = .ok (.goto (-30), 3) := by decide +kernel
theorem dX11_checksum_53 : decode cX11_checksum 53 = .ok (.ldc2_w 374, 3) := by decide +kernel
theorem dX11_checksum_56 : decode cX11_checksum 56 = .ok (.lload_n 1, 1) := by decide +kernel
theorem dX11_checksum_57 : decode cX11_checksum 57 = .ok (.lmul, 1) := by decide +kernel
theorem dX11_checksum_58 : decode cX11_checksum 58 = .ok (.aload_n 0, 1) := by decide +kernel
theorem dX11_checksum_59 : decode cX11_checksum 59 = .ok (.getfield 34, 3) := by decide +kernel
theorem dX11_checksum_62 : decode cX11_checksum 62 = .ok (.iload_n 3, 1) := by decide +kernel
theorem dX11_checksum_63 : decode cX11_checksum 63 = .ok (.aaload, 1) := by decide +kernel
theorem dX11_checksum_64 : decode cX11_checksum 64 = .ok (.invokevirtual 376, 3) := by decide +kernel
theorem dX11_checksum_67 : decode cX11_checksum 67 = .ok (.i2l, 1) := by decide +kernel
theorem dX11_checksum_68 : decode cX11_checksum 68 = .ok (.ladd, 1) := by decide +kernel
theorem dX11_checksum_69 : decode cX11_checksum 69 = .ok (.lstore_n 1, 1) := by decide +kernel
theorem dX11_checksum_70 : decode cX11_checksum 70 = .ok (.iinc 3 1, 3) := by decide +kernel
theorem dX11_checksum_73 : decode cX11_checksum 73 = .ok (.goto (-67), 3) := by decide +kernel
theorem dX11_checksum_76 : decode cX11_checksum 76 = .ok (.iconst 0, 1) := by decide +kernel
theorem dX11_checksum_77 : decode cX11_checksum 77 = .ok (.istore_n 3, 1) := by decide +kernel
theorem dX11_checksum_78 : decode cX11_checksum 78 = .ok (.iload_n 3, 1) := by decide +kernel
theorem dX11_checksum_79 : decode cX11_checksum 79 = .ok (.aload_n 0, 1) := by decide +kernel
theorem dX11_checksum_80 : decode cX11_checksum 80 = .ok (.getfield 19, 3) := by decide +kernel
theorem dX11_checksum_83 : decode cX11_checksum 83 = .ok (.getfield 175, 3) := by decide +kernel
theorem dX11_checksum_86 : decode cX11_checksum 86 = .ok (.if_icmp .ge 29, 3) := by decide +kernel
theorem dX11_checksum_89 : decode cX11_checksum 89 = .ok (.ldc2_w 374, 3) := by decide +kernel
theorem dX11_checksum_92 : decode cX11_checksum 92 = .ok (.lload_n 1, 1) := by decide +kernel
theorem dX11_checksum_93 : decode cX11_checksum 93 = .ok (.lmul, 1) := by decide +kernel
theorem dX11_checksum_94 : decode cX11_checksum 94 = .ok (.aload_n 0, 1) := by decide +kernel
theorem dX11_checksum_95 : decode cX11_checksum 95 = .ok (.getfield 19, 3) := by decide +kernel
theorem dX11_checksum_98 : decode cX11_checksum 98 = .ok (.getfield 379, 3) := by decide +kernel
theorem dX11_checksum_101 : decode cX11_checksum 101 = .ok (.iload_n 3, 1) := by decide +kernel
theorem dX11_checksum_102 : decode cX11_checksum 102 = .ok (.aaload, 1) := by decide +kernel
theorem dX11_checksum_103 : decode cX11_checksum 103 = .ok (.getfield 151, 3) := by decide +kernel
theorem dX11_checksum_106 : decode cX11_checksum 106 = .ok (.i2l, 1) := by decide +kernel
theorem dX11_checksum_107 : decode cX11_checksum 107 = .ok (.ladd, 1) := by decide +kernel
theorem dX11_checksum_108 : decode cX11_checksum 108 = .ok (.lstore_n 1, 1) := by decide +kernel
theorem dX11_checksum_109 : decode cX11_checksum 109 = .ok (.iinc 3 1, 3) := by decide +kernel
theorem dX11_checksum_112 : decode cX11_checksum 112 = .ok (.goto (-34), 3) := by decide +kernel
theorem dX11_checksum_115 : decode cX11_checksum 115 = .ok (.lload_n 1, 1) := by decide +kernel
theorem dX11_checksum_116 : decode cX11_checksum 116 = .ok (.lreturn, 1) := by decide +kernel
theorem dX11_lostShare_0 : decode cX11_lostShare 0 = .ok (.aload_n 0, 1) := by decide +kernel
theorem dX11_lostShare_1 : decode cX11_lostShare 1 = .ok (.getfield 19, 3) := by decide +kernel
theorem dX11_lostShare_4 : decode cX11_lostShare 4 = .ok (.getfield 175, 3) := by decide +kernel
theorem dX11_lostShare_7 : decode cX11_lostShare 7 = .ok (.ifCond .ne 14, 3) := by decide +kernel
theorem dX11_lostShare_10 : decode cX11_lostShare 10 = .ok (.new 146, 3) := by decide +kernel
theorem dX11_lostShare_13 : decode cX11_lostShare 13 = .ok (.dup, 1) := by decide +kernel
theorem dX11_lostShare_14 : decode cX11_lostShare 14 = .ok (.ldc_w 383, 3) := by decide +kernel
theorem dX11_lostShare_17 : decode cX11_lostShare 17 = .ok (.invokespecial 150, 3) := by decide +kernel
theorem dX11_lostShare_20 : decode cX11_lostShare 20 = .ok (.athrow, 1) := by decide +kernel
theorem dX11_lostShare_21 : decode cX11_lostShare 21 = .ok (.aload_n 0, 1) := by decide +kernel
theorem dX11_lostShare_22 : decode cX11_lostShare 22 = .ok (.getfield 19, 3) := by decide +kernel
theorem dX11_lostShare_25 : decode cX11_lostShare 25 = .ok (.invokevirtual 385, 3) := by decide +kernel
theorem dX11_lostShare_28 : decode cX11_lostShare 28 = .ok (.i2f, 1) := by decide +kernel
theorem dX11_lostShare_29 : decode cX11_lostShare 29 = .ok (.aload_n 0, 1) := by decide +kernel
theorem dX11_lostShare_30 : decode cX11_lostShare 30 = .ok (.getfield 19, 3) := by decide +kernel
theorem dX11_lostShare_33 : decode cX11_lostShare 33 = .ok (.getfield 175, 3) := by decide +kernel
theorem dX11_lostShare_36 : decode cX11_lostShare 36 = .ok (.i2f, 1) := by decide +kernel
theorem dX11_lostShare_37 : decode cX11_lostShare 37 = .ok (.fdiv, 1) := by decide +kernel
theorem dX11_lostShare_38 : decode cX11_lostShare 38 = .ok (.freturn, 1) := by decide +kernel
theorem dX11_meanTime_0 : decode cX11_meanTime 0 = .ok (.aload_n 0, 1) := by decide +kernel
theorem dX11_meanTime_1 : decode cX11_meanTime 1 = .ok (.getfield 19, 3) := by decide +kernel
theorem dX11_meanTime_4 : decode cX11_meanTime 4 = .ok (.invokevirtual 388, 3) := by decide +kernel
theorem dX11_meanTime_7 : decode cX11_meanTime 7 = .ok (.istore_n 1, 1) := by decide +kernel
theorem dX11_meanTime_8 : decode cX11_meanTime 8 = .ok (.iload_n 1, 1) := by decide +kernel
theorem dX11_meanTime_9 : decode cX11_meanTime 9 = .ok (.ifCond .ne 14, 3) := by decide +kernel
theorem dX11_meanTime_12 : decode cX11_meanTime 12 = .ok (.new 146, 3) := by decide +kernel
theorem dX11_meanTime_15 : decode cX11_meanTime 15 = .ok (.dup, 1) := by decide +kernel
theorem dX11_meanTime_16 : decode cX11_meanTime 16 = .ok (.ldc_w 391, 3) := by decide +kernel
theorem dX11_meanTime_19 : decode cX11_meanTime 19 = .ok (.invokespecial 150, 3) := by decide +kernel
theorem dX11_meanTime_22 : decode cX11_meanTime 22 = .ok (.athrow, 1) := by decide +kernel
theorem dX11_meanTime_23 : decode cX11_meanTime 23 = .ok (.aload_n 0, 1) := by decide +kernel
theorem dX11_meanTime_24 : decode cX11_meanTime 24 = .ok (.getfield 19, 3) := by decide +kernel
theorem dX11_meanTime_27 : decode cX11_meanTime 27 = .ok (.invokevirtual 393, 3) := by decide +kernel
theorem dX11_meanTime_30 : decode cX11_meanTime 30 = .ok (.i2d, 1) := by decide +kernel
theorem dX11_meanTime_31 : decode cX11_meanTime 31 = .ok (.iload_n 1, 1) := by decide +kernel
theorem dX11_meanTime_32 : decode cX11_meanTime 32 = .ok (.i2d, 1) := by decide +kernel
theorem dX11_meanTime_33 : decode cX11_meanTime 33 = .ok (.ddiv, 1) := by decide +kernel
theorem dX11_meanTime_34 : decode cX11_meanTime 34 = .ok (.dreturn, 1) := by decide +kernel
theorem dX11_packetsAreSound_0 : decode cX11_packetsAreSound 0 = .ok (.iconst 0, 1) := by decide +kernel
theorem dX11_packetsAreSound_1 : decode cX11_packetsAreSound 1 = .ok (.istore_n 1, 1) := by decide +kernel
theorem dX11_packetsAreSound_2 : decode cX11_packetsAreSound 2 = .ok (.iload_n 1, 1) := by decide +kernel
theorem dX11_packetsAreSound_3 : decode cX11_packetsAreSound 3 = .ok (.aload_n 0, 1) := by decide +kernel
theorem dX11_packetsAreSound_4 : decode cX11_packetsAreSound 4 = .ok (.getfield 19, 3) := by decide +kernel
theorem dX11_packetsAreSound_7 : decode cX11_packetsAreSound 7 = .ok (.getfield 175, 3) := by decide +kernel
theorem dX11_packetsAreSound_10 : decode cX11_packetsAreSound 10 = .ok (.if_icmp .ge 47, 3) := by decide +kernel
theorem dX11_packetsAreSound_13 : decode cX11_packetsAreSound 13 = .ok (.aload_n 0, 1) := by decide +kernel
theorem dX11_packetsAreSound_14 : decode cX11_packetsAreSound 14 = .ok (.getfield 19, 3) := by decide +kernel
theorem dX11_packetsAreSound_17 : decode cX11_packetsAreSound 17 = .ok (.getfield 379, 3) := by decide +kernel
theorem dX11_packetsAreSound_20 : decode cX11_packetsAreSound 20 = .ok (.iload_n 1, 1) := by decide +kernel
theorem dX11_packetsAreSound_21 : decode cX11_packetsAreSound 21 = .ok (.aaload, 1) := by decide +kernel
theorem dX11_packetsAreSound_22 : decode cX11_packetsAreSound 22 = .ok (.getfield 151, 3) := by decide +kernel
theorem dX11_packetsAreSound_25 : decode cX11_packetsAreSound 25 = .ok (.bipush 119, 2) := by decide +kernel
theorem dX11_packetsAreSound_27 : decode cX11_packetsAreSound 27 = .ok (.if_icmp .ne 24, 3) := by decide +kernel
theorem dX11_packetsAreSound_30 : decode cX11_packetsAreSound 30 = .ok (.aload_n 0, 1) := by decide +kernel
theorem dX11_packetsAreSound_31 : decode cX11_packetsAreSound 31 = .ok (.getfield 74, 3) := by decide +kernel
theorem dX11_packetsAreSound_34 : decode cX11_packetsAreSound 34 = .ok (.aload_n 0, 1) := by decide +kernel
theorem dX11_packetsAreSound_35 : decode cX11_packetsAreSound 35 = .ok (.getfield 19, 3) := by decide +kernel
theorem dX11_packetsAreSound_38 : decode cX11_packetsAreSound 38 = .ok (.getfield 379, 3) := by decide +kernel
theorem dX11_packetsAreSound_41 : decode cX11_packetsAreSound 41 = .ok (.iload_n 1, 1) := by decide +kernel
theorem dX11_packetsAreSound_42 : decode cX11_packetsAreSound 42 = .ok (.aaload, 1) := by decide +kernel
theorem dX11_packetsAreSound_43 : decode cX11_packetsAreSound 43 = .ok (.invokevirtual 415, 3) := by decide +kernel
theorem dX11_packetsAreSound_46 : decode cX11_packetsAreSound 46 = .ok (.ifCond .ne 5, 3) := by decide +kernel
theorem dX11_packetsAreSound_49 : decode cX11_packetsAreSound 49 = .ok (.iconst 0, 1) := by decide +kernel
theorem dX11_packetsAreSound_50 : decode cX11_packetsAreSound 50 = .ok (.ireturn, 1) := by decide +kernel
theorem dX11_packetsAreSound_51 : decode cX11_packetsAreSound 51 = .ok (.iinc 1 1, 3) := by decide +kernel
theorem dX11_packetsAreSound_54 : decode cX11_packetsAreSound 54 = .ok (.goto (-52), 3) := by decide +kernel
theorem dX11_packetsAreSound_57 : decode cX11_packetsAreSound 57 = .ok (.iconst 1, 1) := by decide +kernel
theorem dX11_packetsAreSound_58 : decode cX11_packetsAreSound 58 = .ok (.ireturn, 1) := by decide +kernel
theorem dX11_isSound_0 : decode cX11_isSound 0 = .ok (.aload_n 0, 1) := by decide +kernel
theorem dX11_isSound_1 : decode cX11_isSound 1 = .ok (.getfield 74, 3) := by decide +kernel
theorem dX11_isSound_4 : decode cX11_isSound 4 = .ok (.invokevirtual 396, 3) := by decide +kernel
theorem dX11_isSound_7 : decode cX11_isSound 7 = .ok (.ifCond .eq 14, 3) := by decide +kernel
theorem dX11_isSound_10 : decode cX11_isSound 10 = .ok (.aload_n 0, 1) := by decide +kernel
theorem dX11_isSound_11 : decode cX11_isSound 11 = .ok (.invokevirtual 399, 3) := by decide +kernel
theorem dX11_isSound_14 : decode cX11_isSound 14 = .ok (.ifCond .eq 7, 3) := by decide +kernel
theorem dX11_isSound_17 : decode cX11_isSound 17 = .ok (.iconst 1, 1) := by decide +kernel
theorem dX11_isSound_18 : decode cX11_isSound 18 = .ok (.goto 4, 3) := by decide +kernel
theorem dX11_isSound_21 : decode cX11_isSound 21 = .ok (.iconst 0, 1) := by decide +kernel
theorem dX11_isSound_22 : decode cX11_isSound 22 = .ok (.ireturn, 1) := by decide +kernel
theorem dX12_thrown_0 : decode cX12_thrown 0 = .ok (.aload_n 0, 1) := by decide +kernel
theorem dX12_thrown_1 : decode cX12_thrown 1 = .ok (.getfield 141, 3) := by decide +kernel
theorem dX12_thrown_4 : decode cX12_thrown 4 = .ok (.ireturn, 1) := by decide +kernel
theorem dX12_isThrown_0 : decode cX12_isThrown 0 = .ok (.aload_n 0, 1) := by decide +kernel
theorem dX12_isThrown_1 : decode cX12_isThrown 1 = .ok (.iload_n 1, 1) := by decide +kernel
theorem dX12_isThrown_2 : decode cX12_isThrown 2 = .ok (.ifCond .eq 7, 3) := by decide +kernel
theorem dX12_isThrown_5 : decode cX12_isThrown 5 = .ok (.iload_n 2, 1) := by decide +kernel
theorem dX12_isThrown_6 : decode cX12_isThrown 6 = .ok (.goto 4, 3) := by decide +kernel
theorem dX12_isThrown_9 : decode cX12_isThrown 9 = .ok (.iconst 0, 1) := by decide +kernel
theorem dX12_isThrown_10 : decode cX12_isThrown 10 = .ok (.putfield 141, 3) := by decide +kernel
theorem dX12_isThrown_13 : decode cX12_isThrown 13 = .ok (.iload_n 1, 1) := by decide +kernel
theorem dX12_isThrown_14 : decode cX12_isThrown 14 = .ok (.ireturn, 1) := by decide +kernel
theorem dX12_isIn_0 : decode cX12_isIn 0 = .ok (.iload_n 0, 1) := by decide +kernel
theorem dX12_isIn_1 : decode cX12_isIn 1 = .ok (.iload_n 1, 1) := by decide +kernel
theorem dX12_isIn_2 : decode cX12_isIn 2 = .ok (.if_icmp .lt 12, 3) := by decide +kernel
theorem dX12_isIn_5 : decode cX12_isIn 5 = .ok (.iload_n 0, 1) := by decide +kernel
theorem dX12_isIn_6 : decode cX12_isIn 6 = .ok (.iload_n 2, 1) := by decide +kernel
theorem dX12_isIn_7 : decode cX12_isIn 7 = .ok (.if_icmp .gt 7, 3) := by decide +kernel
theorem dX12_isIn_10 : decode cX12_isIn 10 = .ok (.iconst 1, 1) := by decide +kernel
theorem dX12_isIn_11 : decode cX12_isIn 11 = .ok (.goto 4, 3) := by decide +kernel
theorem dX12_isIn_14 : decode cX12_isIn 14 = .ok (.iconst 0, 1) := by decide +kernel
theorem dX12_isIn_15 : decode cX12_isIn 15 = .ok (.ireturn, 1) := by decide +kernel
theorem dX12_nodes_0 : decode cX12_nodes 0 = .ok (.aload_n 0, 1) := by decide +kernel
theorem dX12_nodes_1 : decode cX12_nodes 1 = .ok (.getfield 7, 3) := by decide +kernel
theorem dX12_nodes_4 : decode cX12_nodes 4 = .ok (.aload_n 0, 1) := by decide +kernel
theorem dX12_nodes_5 : decode cX12_nodes 5 = .ok (.getfield 13, 3) := by decide +kernel
theorem dX12_nodes_8 : decode cX12_nodes 8 = .ok (.imul, 1) := by decide +kernel
theorem dX12_nodes_9 : decode cX12_nodes 9 = .ok (.ireturn, 1) := by decide +kernel
theorem dX12_isNoNode_0 : decode cX12_isNoNode 0 = .ok (.iload_n 1, 1) := by decide +kernel
theorem dX12_isNoNode_1 : decode cX12_isNoNode 1 = .ok (.iconst 0, 1) := by decide +kernel
theorem dX12_isNoNode_2 : decode cX12_isNoNode 2 = .ok (.aload_n 0, 1) := by decide +kernel
theorem dX12_isNoNode_3 : decode cX12_isNoNode 3 = .ok (.invokevirtual 144, 3) := by decide +kernel
theorem dX12_isNoNode_6 : decode cX12_isNoNode 6 = .ok (.iconst 1, 1) := by decide +kernel
theorem dX12_isNoNode_7 : decode cX12_isNoNode 7 = .ok (.isub, 1) := by decide +kernel
theorem dX12_isNoNode_8 : decode cX12_isNoNode 8 = .ok (.invokestatic 148, 3) := by decide +kernel
theorem dX12_isNoNode_11 : decode cX12_isNoNode 11 = .ok (.ifCond .ne 7, 3) := by decide +kernel
theorem dX12_isNoNode_14 : decode cX12_isNoNode 14 = .ok (.iconst 1, 1) := by decide +kernel
theorem dX12_isNoNode_15 : decode cX12_isNoNode 15 = .ok (.goto 4, 3) := by decide +kernel
theorem dX12_isNoNode_18 : decode cX12_isNoNode 18 = .ok (.iconst 0, 1) := by decide +kernel
theorem dX12_isNoNode_19 : decode cX12_isNoNode 19 = .ok (.ireturn, 1) := by decide +kernel
theorem dX12_isNoPacket_0 : decode cX12_isNoPacket 0 = .ok (.aload_n 0, 1) := by decide +kernel
theorem dX12_isNoPacket_1 : decode cX12_isNoPacket 1 = .ok (.iload_n 1, 1) := by decide +kernel
theorem dX12_isNoPacket_2 : decode cX12_isNoPacket 2 = .ok (.iconst 0, 1) := by decide +kernel
theorem dX12_isNoPacket_3 : decode cX12_isNoPacket 3 = .ok (.aload_n 0, 1) := by decide +kernel
theorem dX12_isNoPacket_4 : decode cX12_isNoPacket 4 = .ok (.getfield 152, 3) := by decide +kernel
theorem dX12_isNoPacket_7 : decode cX12_isNoPacket 7 = .ok (.iconst 1, 1) := by decide +kernel
theorem dX12_isNoPacket_8 : decode cX12_isNoPacket 8 = .ok (.isub, 1) := by decide +kernel
theorem dX12_isNoPacket_9 : decode cX12_isNoPacket 9 = .ok (.invokestatic 148, 3) := by decide +kernel
theorem dX12_isNoPacket_12 : decode cX12_isNoPacket 12 = .ok (.ifCond .ne 7, 3) := by decide +kernel
theorem dX12_isNoPacket_15 : decode cX12_isNoPacket 15 = .ok (.iconst 1, 1) := by decide +kernel
theorem dX12_isNoPacket_16 : decode cX12_isNoPacket 16 = .ok (.goto 4, 3) := by decide +kernel
theorem dX12_isNoPacket_19 : decode cX12_isNoPacket 19 = .ok (.iconst 0, 1) := by decide +kernel
theorem dX12_isNoPacket_20 : decode cX12_isNoPacket 20 = .ok (.iconst 1, 1) := by decide +kernel
theorem dX12_isNoPacket_21 : decode cX12_isNoPacket 21 = .ok (.invokevirtual 155, 3) := by decide +kernel
theorem dX12_isNoPacket_24 : decode cX12_isNoPacket 24 = .ok (.ireturn, 1) := by decide +kernel
def f_Y_top_b28 (μ : me_M) : Option (Except Nat Int32) :=
  some (.error 5)
set_option maxHeartbeats 4000000 in
set_option maxRecDepth 100000 in
theorem z_Y_top_b28 {X : me_X} {B : me_B} {sz : Nat} (C : me_C X B RX11 cX11_top 3 (some .int)) {μ : me_M}    {r : Except Nat Int32} (N : me_En X B sz (B, μ, me_xc (fun v => some (me_i v)) r) 7 111 2 12) (hNx : me_Nx X) (hB : me_St B)   (hf : f_Y_top_b28 μ = some r) : me_Z X B 1 6 μ 28 [] [] := by
  unfold f_Y_top_b28 at hf
  exact me_throwNW C N hNx 5 cl_Y_146 ie_5 sr_Y_335 tw_Y_150 rfl dX11_top_28 dX11_top_31 dX11_top_32 dX11_top_35 dX11_top_38 ⟨by decide, by decide⟩ (Nat.le_of_ble_eq_true rfl) ⟨by decide, by decide⟩ (by cases hf; rfl)
def f_Y_top (μ : me_M) (v1 : Int32) : Option (Except Nat Int32) :=
  me_bd (f_Y_needNode μ v1) (fun r1 =>
  me_xb r1 (fun r1 =>
  me_gd (me_inb v1 16) (
  if (μ 22 (me_ix v1) 4) ≤ 0 then
  (f_Y_top_b28 μ)
  else
  (if (μ 22 (me_ix v1) 4) ≤ (6 : Int32) then
  (me_gd (me_inb ((μ 22 (me_ix v1) 4) - (1 : Int32)) 6) (
  some (.ok (μ 24 (me_ix v1) (me_ix ((μ 22 (me_ix v1) 4) - (1 : Int32)))))))
  else
  (f_Y_top_b28 μ)))))
set_option maxHeartbeats 4000000 in
set_option maxRecDepth 100000 in
theorem z_Y_top {X : me_X} {B : me_B} {sz : Nat} (C : me_C X B RX11 cX11_top 3 (some .int)) {μ : me_M} {v1 : Int32}   {r : Except Nat Int32} (N : me_En X B sz (B, μ, me_xc (fun v => some (me_i v)) r) 7 111 2 12) (hNx : me_Nx X) (hB : me_St B)   (hf : f_Y_top μ v1 = some r) : me_Z X B 0 0 μ 0 [(0, me_r 0 0), (1, me_i v1)] [] := by
  unfold f_Y_top at hf
  refine me_aload_n C 0 (Or.inr (Or.inl ⟨_, rfl⟩)) dX11_top_0 rfl rfl ?_
  refine me_iload_n C 1 dX11_top_1 rfl rfl ?_
  obtain ⟨r1, h_r1, hf⟩ := me_bs hf
  rcases r1 with r1 | r1
  · replace hf := me_xbe hf
    refine me_callVE C N  (As := [me_i v1]) (st := []) 1 6 (c_Y_needNode hB h_r1) mv_Y_needNode ml_Y_103 rfl rfl dX11_top_2 rfl rfl ⟨by decide, by decide⟩ ⟨by decide, by decide, by decide, by decide⟩ (Nat.le_of_ble_eq_true rfl) ?_
    exact me_outX C N hNx (by cases hf; rfl) (by decide) (by decide)
  replace hf := me_xbo hf
  refine me_callV0 C N  (As := [me_i v1]) (st := []) 1 6 (c_Y_needNode hB h_r1) mv_Y_needNode ml_Y_103 rfl rfl dX11_top_2 rfl rfl ⟨by decide, by decide⟩ ⟨by decide, by decide, by decide, by decide⟩ (Nat.le_of_ble_eq_true rfl) ?_
  refine me_aload_n C 0 (Or.inr (Or.inl ⟨_, rfl⟩)) dX11_top_5 rfl rfl ?_
  refine me_getr C hB 4 (k' := 21) (i' := 0) fg_Y_40 dX11_top_6 rfl rfl ?_
  refine me_iload_n C 1 dX11_top_9 rfl rfl ?_
  obtain ⟨g2, hf⟩ := me_gs hf
  refine me_aald C hB (k' := 22) (i' := (me_ix v1)) rfl (fun _ => rfl) rfl g2 dX11_top_10 rfl ?_
  refine me_astore_n C 2 (Or.inr (Or.inl ⟨_, rfl⟩)) dX11_top_11 rfl (by decide) (L' := [(2, me_r 22 (me_ix v1)), (0, me_r 0 0), (1, me_i v1)]) rfl ?_
  refine me_aload_n C 2 (Or.inr (Or.inl ⟨_, rfl⟩)) dX11_top_12 rfl rfl ?_
  refine me_geti C 4 fg_Y_332 dX11_top_13 rfl ?_
  refine me_if_le C (tgt := 28) dX11_top_16 (by decide) (fun c3 => ?_) (fun c3 => ?_)
  · replace hf := me_ip c3 hf
    refine me_dropI [] [] rfl ?_
    exact z_Y_top_b28 C N hNx hB hf
  · replace hf := me_in c3 hf
    refine me_aload_n C 2 (Or.inr (Or.inl ⟨_, rfl⟩)) dX11_top_19 rfl rfl ?_
    refine me_geti C 4 fg_Y_332 dX11_top_20 rfl ?_
    refine me_bipush C (v := 6) dX11_top_23 (by decide) ?_
    refine me_icmp_le C (tgt := 39) dX11_top_25 (by decide) (fun c4 => ?_) (fun c4 => ?_)
    · replace hf := me_ip c4 hf
      refine me_aload_n C 2 (Or.inr (Or.inl ⟨_, rfl⟩)) dX11_top_39 rfl rfl ?_
      refine me_getr C hB 1 (k' := 24) (i' := (me_ix v1)) fg_Y_337 dX11_top_40 rfl rfl ?_
      refine me_aload_n C 2 (Or.inr (Or.inl ⟨_, rfl⟩)) dX11_top_43 rfl rfl ?_
      refine me_geti C 4 fg_Y_332 dX11_top_44 rfl ?_
      refine me_iconst C (v := 1) dX11_top_47 (by decide) ?_
      refine me_isub C dX11_top_48 ?_
      obtain ⟨g5, hf⟩ := me_gs hf
      refine me_iald C rfl (fun _ => rfl) g5 dX11_top_49 ?_
      exact me_iret C N dX11_top_50 (me_nri _) (by cases hf; rfl) (by decide) (by decide)
    · replace hf := me_in c4 hf
      refine me_dropI [] [] rfl ?_
      exact z_Y_top_b28 C N hNx hB hf
theorem c_Y_top {B : me_B} (hB : me_St B) {μ : me_M} {v1 : Int32} {r : Except Nat Int32}  (hf : f_Y_top μ v1 = some r) : ∀ l E z, l.stackTraces = false → me_Met l yX11_top cX11_top 3 (some .int) 7 111 2 12 E B μ z [me_r 0 0, me_i v1] (B, μ, me_xc (fun v => some (me_i v)) r) :=
  fun _ _ _ hl => me_ofZ hl (by decide +kernel) (Nat.le_of_ble_eq_true rfl) (fun _ C N hNx => z_Y_top C N hNx hB  hf)

def f_Y_at (μ : me_M) (v1 : Int32) : Option (Except Nat Int32) :=
  me_bd (f_Y_needNode μ v1) (fun r1 =>
  me_xb r1 (fun r1 =>
  me_gd (me_inb v1 16) (
  if (μ 22 (me_ix v1) 7) = (45 : Int32) then
  (some (.error 5))
  else
  (me_gd (me_inb v1 16) (
  some (.ok (μ 22 (me_ix v1) 6)))))))
set_option maxHeartbeats 4000000 in
set_option maxRecDepth 100000 in
theorem z_Y_at {X : me_X} {B : me_B} {sz : Nat} (C : me_C X B RX11 cX11_at 2 (some .int)) {μ : me_M} {v1 : Int32}   {r : Except Nat Int32} (N : me_En X B sz (B, μ, me_xc (fun v => some (me_i v)) r) 7 111 2 12) (hNx : me_Nx X) (hB : me_St B)   (hf : f_Y_at μ v1 = some r) : me_Z X B 0 0 μ 0 [(0, me_r 0 0), (1, me_i v1)] [] := by
  unfold f_Y_at at hf
  refine me_aload_n C 0 (Or.inr (Or.inl ⟨_, rfl⟩)) dX11_at_0 rfl rfl ?_
  refine me_iload_n C 1 dX11_at_1 rfl rfl ?_
  obtain ⟨r1, h_r1, hf⟩ := me_bs hf
  rcases r1 with r1 | r1
  · replace hf := me_xbe hf
    refine me_callVE C N  (As := [me_i v1]) (st := []) 1 6 (c_Y_needNode hB h_r1) mv_Y_needNode ml_Y_103 rfl rfl dX11_at_2 rfl rfl ⟨by decide, by decide⟩ ⟨by decide, by decide, by decide, by decide⟩ (Nat.le_of_ble_eq_true rfl) ?_
    exact me_outX C N hNx (by cases hf; rfl) (by decide) (by decide)
  replace hf := me_xbo hf
  refine me_callV0 C N  (As := [me_i v1]) (st := []) 1 6 (c_Y_needNode hB h_r1) mv_Y_needNode ml_Y_103 rfl rfl dX11_at_2 rfl rfl ⟨by decide, by decide⟩ ⟨by decide, by decide, by decide, by decide⟩ (Nat.le_of_ble_eq_true rfl) ?_
  refine me_aload_n C 0 (Or.inr (Or.inl ⟨_, rfl⟩)) dX11_at_5 rfl rfl ?_
  refine me_getr C hB 4 (k' := 21) (i' := 0) fg_Y_40 dX11_at_6 rfl rfl ?_
  refine me_iload_n C 1 dX11_at_9 rfl rfl ?_
  obtain ⟨g2, hf⟩ := me_gs hf
  refine me_aald C hB (k' := 22) (i' := (me_ix v1)) rfl (fun _ => rfl) rfl g2 dX11_at_10 rfl ?_
  refine me_geti C 7 fg_Y_323 dX11_at_11 rfl ?_
  refine me_bipush C (v := 45) dX11_at_14 (by decide) ?_
  refine me_icmp_ne C (tgt := 30) dX11_at_16 (by decide) (fun c3 => ?_) (fun c3 => ?_)
  · replace hf := me_in c3 hf
    refine me_aload_n C 0 (Or.inr (Or.inl ⟨_, rfl⟩)) dX11_at_30 rfl rfl ?_
    refine me_getr C hB 4 (k' := 21) (i' := 0) fg_Y_40 dX11_at_31 rfl rfl ?_
    refine me_iload_n C 1 dX11_at_34 rfl rfl ?_
    obtain ⟨g4, hf⟩ := me_gs hf
    refine me_aald C hB (k' := 22) (i' := (me_ix v1)) rfl (fun _ => rfl) rfl g4 dX11_at_35 rfl ?_
    refine me_geti C 6 fg_Y_342 dX11_at_36 rfl ?_
    exact me_iret C N dX11_at_39 (me_nri _) (by cases hf; rfl) (by decide) (by decide)
  · replace hf := me_ip c3 hf
    exact me_throwNW C N hNx 5 cl_Y_146 ie_5 sr_Y_340 tw_Y_150 rfl dX11_at_19 dX11_at_22 dX11_at_23 dX11_at_26 dX11_at_29 ⟨by decide, by decide⟩ (Nat.le_of_ble_eq_true rfl) ⟨by decide, by decide⟩ (by cases hf; rfl)
theorem c_Y_at {B : me_B} (hB : me_St B) {μ : me_M} {v1 : Int32} {r : Except Nat Int32}  (hf : f_Y_at μ v1 = some r) : ∀ l E z, l.stackTraces = false → me_Met l yX11_at cX11_at 2 (some .int) 7 111 2 12 E B μ z [me_r 0 0, me_i v1] (B, μ, me_xc (fun v => some (me_i v)) r) :=
  fun _ _ _ hl => me_ofZ hl (by decide +kernel) (Nat.le_of_ble_eq_true rfl) (fun _ C N hNx => z_Y_at C N hNx hB  hf)

def f_Y_task (μ : me_M) (v1 : Int32) : Option (me_M × (Except Nat Int32)) :=
  me_bd (f_Y_needNode μ v1) (fun r1 =>
  me_xb2 r1 μ (fun r1 =>
  if (μ 9 0 3) < (8 : Int32) then
  (me_b2 (f_Placing_addTask μ v1) (fun μ4 r3 =>
  some (μ4, .ok r3)))
  else
  (some (μ, .error 3))))
set_option maxHeartbeats 4000000 in
set_option maxRecDepth 100000 in
theorem z_Y_task {X : me_X} {B : me_B} {sz : Nat} (C : me_C X B RX11 cX11_task 2 (some .int)) {μ : me_M} {v1 : Int32}   {r : me_M × (Except Nat Int32)} (N : me_En X B sz (B, r.1, me_xc (fun v => some (me_i v)) r.2) 7 111 2 12) (hNx : me_Nx X) (hB : me_St B)   (hf : f_Y_task μ v1 = some r) : me_Z X B 0 0 μ 0 [(0, me_r 0 0), (1, me_i v1)] [] := by
  unfold f_Y_task at hf
  refine me_aload_n C 0 (Or.inr (Or.inl ⟨_, rfl⟩)) dX11_task_0 rfl rfl ?_
  refine me_iload_n C 1 dX11_task_1 rfl rfl ?_
  obtain ⟨r1, h_r1, hf⟩ := me_bs hf
  rcases r1 with r1 | r1
  · replace hf := me_xb2e hf
    refine me_callVE C N  (As := [me_i v1]) (st := []) 1 6 (c_Y_needNode hB h_r1) mv_Y_needNode ml_Y_103 rfl rfl dX11_task_2 rfl rfl ⟨by decide, by decide⟩ ⟨by decide, by decide, by decide, by decide⟩ (Nat.le_of_ble_eq_true rfl) ?_
    exact me_outX C N hNx (by cases hf; rfl) (by decide) (by decide)
  replace hf := me_xb2o hf
  refine me_callV0 C N  (As := [me_i v1]) (st := []) 1 6 (c_Y_needNode hB h_r1) mv_Y_needNode ml_Y_103 rfl rfl dX11_task_2 rfl rfl ⟨by decide, by decide⟩ ⟨by decide, by decide, by decide, by decide⟩ (Nat.le_of_ble_eq_true rfl) ?_
  refine me_aload_n C 0 (Or.inr (Or.inl ⟨_, rfl⟩)) dX11_task_5 rfl rfl ?_
  refine me_getr C hB 2 (k' := 9) (i' := 0) fg_Y_28 dX11_task_6 rfl rfl ?_
  refine me_geti C 3 fg_Y_345 dX11_task_9 rfl ?_
  refine me_bipush C (v := 8) dX11_task_12 (by decide) ?_
  refine me_icmp_lt C (tgt := 28) dX11_task_14 (by decide) (fun c2 => ?_) (fun c2 => ?_)
  · replace hf := me_ip c2 hf
    refine me_aload_n C 0 (Or.inr (Or.inl ⟨_, rfl⟩)) dX11_task_28 rfl rfl ?_
    refine me_getr C hB 2 (k' := 9) (i' := 0) fg_Y_28 dX11_task_29 rfl rfl ?_
    refine me_iload_n C 1 dX11_task_32 rfl rfl ?_
    obtain ⟨μ4, r3, h_r3, hf⟩ := me_bs2 hf
    refine me_callV C N  (As := [me_i v1]) (st := []) 1 6 (c_Placing_addTask hB h_r3) mv_Placing_addTask ml_Y_350 rfl rfl dX11_task_33 rfl rfl ⟨by decide, by decide⟩ ⟨by decide, by decide, by decide, by decide⟩ (Nat.le_of_ble_eq_true rfl) ?_
    exact me_iret C N dX11_task_36 (me_nri _) (by cases hf; rfl) (by decide) (by decide)
  · replace hf := me_in c2 hf
    exact me_throwW C N hNx 3 cl_Y_303 ie_3 sr_Y_348 tw_Y_307 ft_3 dX11_task_17 dX11_task_20 dX11_task_21 dX11_task_24 dX11_task_27 ⟨by decide, by decide⟩ (Nat.le_of_ble_eq_true rfl) ⟨by decide, by decide⟩ (by cases hf; rfl)
theorem c_Y_task {B : me_B} (hB : me_St B) {μ : me_M} {v1 : Int32} {μ' : me_M} {r : Except Nat Int32}  (hf : f_Y_task μ v1 = some (μ', r)) : ∀ l E z, l.stackTraces = false → me_Met l yX11_task cX11_task 2 (some .int) 7 111 2 12 E B μ z [me_r 0 0, me_i v1] (B, μ', me_xc (fun v => some (me_i v)) r) :=
  fun _ _ _ hl => me_ofZ hl (by decide +kernel) (Nat.le_of_ble_eq_true rfl) (fun _ C N hNx => z_Y_task C N hNx hB  hf)

def f_Y_needTask_b15 (μ : me_M) : Option (Except Nat Unit) :=
  some (.error 1)
set_option maxHeartbeats 4000000 in
set_option maxRecDepth 100000 in
theorem z_Y_needTask_b15 {X : me_X} {B : me_B} {sz : Nat} (C : me_C X B RX11 cX11_needTask 2 none) {μ : me_M}    {r : Except Nat Unit} (N : me_En X B sz (B, μ, me_xc (fun _ => none) r) 6 90 1 6) (hNx : me_Nx X) (hB : me_St B)   (hf : f_Y_needTask_b15 μ = some r) : me_Z X B 0 0 μ 15 [] [] := by
  unfold f_Y_needTask_b15 at hf
  exact me_throwW C N hNx 1 cl_Y_423 ie_1 sr_Y_430 tw_Y_427 ft_1 dX11_needTask_15 dX11_needTask_18 dX11_needTask_19 dX11_needTask_22 dX11_needTask_25 ⟨by decide, by decide⟩ (Nat.le_of_ble_eq_true rfl) ⟨by decide, by decide⟩ (by cases hf; rfl)
def f_Y_needTask (μ : me_M) (v1 : Int32) : Option (Except Nat Unit) :=
  if v1 < 0 then
  (f_Y_needTask_b15 μ)
  else
  (if v1 < (μ 9 0 3) then
  (some (.ok ()))
  else
  (f_Y_needTask_b15 μ))
set_option maxHeartbeats 4000000 in
set_option maxRecDepth 100000 in
theorem z_Y_needTask {X : me_X} {B : me_B} {sz : Nat} (C : me_C X B RX11 cX11_needTask 2 none) {μ : me_M} {v1 : Int32}   {r : Except Nat Unit} (N : me_En X B sz (B, μ, me_xc (fun _ => none) r) 6 90 1 6) (hNx : me_Nx X) (hB : me_St B)   (hf : f_Y_needTask μ v1 = some r) : me_Z X B 0 0 μ 0 [(0, me_r 0 0), (1, me_i v1)] [] := by
  unfold f_Y_needTask at hf
  refine me_iload_n C 1 dX11_needTask_0 rfl rfl ?_
  refine me_if_lt C (tgt := 15) dX11_needTask_1 (by decide) (fun c1 => ?_) (fun c1 => ?_)
  · replace hf := me_ip c1 hf
    refine me_dropI [] [] rfl ?_
    exact z_Y_needTask_b15 C N hNx hB hf
  · replace hf := me_in c1 hf
    refine me_iload_n C 1 dX11_needTask_4 rfl rfl ?_
    refine me_aload_n C 0 (Or.inr (Or.inl ⟨_, rfl⟩)) dX11_needTask_5 rfl rfl ?_
    refine me_getr C hB 2 (k' := 9) (i' := 0) fg_Y_28 dX11_needTask_6 rfl rfl ?_
    refine me_geti C 3 fg_Y_345 dX11_needTask_9 rfl ?_
    refine me_icmp_lt C (tgt := 26) dX11_needTask_12 (by decide) (fun c2 => ?_) (fun c2 => ?_)
    · replace hf := me_ip c2 hf
      exact me_vret C N dX11_needTask_26 (by cases hf; rfl) (by decide) (by decide)
    · replace hf := me_in c2 hf
      refine me_dropI [] [] rfl ?_
      exact z_Y_needTask_b15 C N hNx hB hf
theorem c_Y_needTask {B : me_B} (hB : me_St B) {μ : me_M} {v1 : Int32} {r : Except Nat Unit}  (hf : f_Y_needTask μ v1 = some r) : ∀ l E z, l.stackTraces = false → me_Met l yX11_needTask cX11_needTask 2 none 6 90 1 6 E B μ z [me_r 0 0, me_i v1] (B, μ, me_xc (fun _ => none) r) :=
  fun _ _ _ hl => me_ofZ hl (by decide +kernel) (Nat.le_of_ble_eq_true rfl) (fun _ C N hNx => z_Y_needTask C N hNx hB  hf)

def f_Y_traffic (μ : me_M) (v1 : Int32) (v2 : Int32) (v3 : Int32) : Option (me_M × (Except Nat Int32)) :=
  me_bd (f_Y_needTask μ v1) (fun r1 =>
  me_xb2 r1 μ (fun r1 =>
  me_bd (f_Y_needTask μ v2) (fun r2 =>
  me_xb2 r2 μ (fun r2 =>
  if v1 = v2 then
  (some (μ, .error 2))
  else
  (me_bd (f_Y_needRange μ v3 (0 : Int32) (99 : Int32)) (fun r4 =>
  me_xb2 r4 μ (fun r4 =>
  me_b2 (f_Placing_setTraffic μ v1 v2 v3) (fun μ6 r5 =>
  some (μ6, .ok r5)))))))))
set_option maxHeartbeats 4000000 in
set_option maxRecDepth 100000 in
theorem z_Y_traffic {X : me_X} {B : me_B} {sz : Nat} (C : me_C X B RX11 cX11_traffic 4 (some .int)) {μ : me_M} {v1 : Int32} {v2 : Int32} {v3 : Int32}   {r : me_M × (Except Nat Int32)} (N : me_En X B sz (B, r.1, me_xc (fun v => some (me_i v)) r.2) 7 113 3 18) (hNx : me_Nx X) (hB : me_St B)   (hf : f_Y_traffic μ v1 v2 v3 = some r) : me_Z X B 0 0 μ 0 [(0, me_r 0 0), (1, me_i v1), (2, me_i v2), (3, me_i v3)] [] := by
  unfold f_Y_traffic at hf
  refine me_aload_n C 0 (Or.inr (Or.inl ⟨_, rfl⟩)) dX11_traffic_0 rfl rfl ?_
  refine me_iload_n C 1 dX11_traffic_1 rfl rfl ?_
  obtain ⟨r1, h_r1, hf⟩ := me_bs hf
  rcases r1 with r1 | r1
  · replace hf := me_xb2e hf
    refine me_callVE C N  (As := [me_i v1]) (st := []) 1 6 (c_Y_needTask hB h_r1) mv_Y_needTask ml_Y_353 rfl rfl dX11_traffic_2 rfl rfl ⟨by decide, by decide⟩ ⟨by decide, by decide, by decide, by decide⟩ (Nat.le_of_ble_eq_true rfl) ?_
    exact me_outX C N hNx (by cases hf; rfl) (by decide) (by decide)
  replace hf := me_xb2o hf
  refine me_callV0 C N  (As := [me_i v1]) (st := []) 1 6 (c_Y_needTask hB h_r1) mv_Y_needTask ml_Y_353 rfl rfl dX11_traffic_2 rfl rfl ⟨by decide, by decide⟩ ⟨by decide, by decide, by decide, by decide⟩ (Nat.le_of_ble_eq_true rfl) ?_
  refine me_aload_n C 0 (Or.inr (Or.inl ⟨_, rfl⟩)) dX11_traffic_5 rfl rfl ?_
  refine me_iload_n C 2 dX11_traffic_6 rfl rfl ?_
  obtain ⟨r2, h_r2, hf⟩ := me_bs hf
  rcases r2 with r2 | r2
  · replace hf := me_xb2e hf
    refine me_callVE C N  (As := [me_i v2]) (st := []) 2 12 (c_Y_needTask hB h_r2) mv_Y_needTask ml_Y_353 rfl rfl dX11_traffic_7 rfl rfl ⟨by decide, by decide⟩ ⟨by decide, by decide, by decide, by decide⟩ (Nat.le_of_ble_eq_true rfl) ?_
    exact me_outX C N hNx (by cases hf; rfl) (by decide) (by decide)
  replace hf := me_xb2o hf
  refine me_callV0 C N  (As := [me_i v2]) (st := []) 2 12 (c_Y_needTask hB h_r2) mv_Y_needTask ml_Y_353 rfl rfl dX11_traffic_7 rfl rfl ⟨by decide, by decide⟩ ⟨by decide, by decide, by decide, by decide⟩ (Nat.le_of_ble_eq_true rfl) ?_
  refine me_iload_n C 1 dX11_traffic_10 rfl rfl ?_
  refine me_iload_n C 2 dX11_traffic_11 rfl rfl ?_
  refine me_icmp_ne C (tgt := 26) dX11_traffic_12 (by decide) (fun c3 => ?_) (fun c3 => ?_)
  · replace hf := me_in c3 hf
    refine me_aload_n C 0 (Or.inr (Or.inl ⟨_, rfl⟩)) dX11_traffic_26 rfl rfl ?_
    refine me_iload_n C 3 dX11_traffic_27 rfl rfl ?_
    refine me_iconst C (v := 0) dX11_traffic_28 (by decide) ?_
    refine me_bipush C (v := 99) dX11_traffic_29 (by decide) ?_
    obtain ⟨r4, h_r4, hf⟩ := me_bs hf
    rcases r4 with r4 | r4
    · replace hf := me_xb2e hf
      refine me_callVE C N  (As := [me_i v3, me_i (0 : Int32), me_i (99 : Int32)]) (st := []) 3 18 (c_Y_needRange hB h_r4) mv_Y_needRange ml_Y_87 rfl rfl dX11_traffic_31 rfl rfl ⟨by decide, by decide⟩ ⟨by decide, by decide, by decide, by decide⟩ (Nat.le_of_ble_eq_true rfl) ?_
      exact me_outX C N hNx (by cases hf; rfl) (by decide) (by decide)
    replace hf := me_xb2o hf
    refine me_callV0 C N  (As := [me_i v3, me_i (0 : Int32), me_i (99 : Int32)]) (st := []) 3 18 (c_Y_needRange hB h_r4) mv_Y_needRange ml_Y_87 rfl rfl dX11_traffic_31 rfl rfl ⟨by decide, by decide⟩ ⟨by decide, by decide, by decide, by decide⟩ (Nat.le_of_ble_eq_true rfl) ?_
    refine me_aload_n C 0 (Or.inr (Or.inl ⟨_, rfl⟩)) dX11_traffic_34 rfl rfl ?_
    refine me_getr C hB 2 (k' := 9) (i' := 0) fg_Y_28 dX11_traffic_35 rfl rfl ?_
    refine me_iload_n C 1 dX11_traffic_38 rfl rfl ?_
    refine me_iload_n C 2 dX11_traffic_39 rfl rfl ?_
    refine me_iload_n C 3 dX11_traffic_40 rfl rfl ?_
    obtain ⟨μ6, r5, h_r5, hf⟩ := me_bs2 hf
    refine me_callV C N  (As := [me_i v1, me_i v2, me_i v3]) (st := []) 3 18 (c_Placing_setTraffic hB h_r5) mv_Placing_setTraffic ml_Y_358 rfl rfl dX11_traffic_41 rfl rfl ⟨by decide, by decide⟩ ⟨by decide, by decide, by decide, by decide⟩ (Nat.le_of_ble_eq_true rfl) ?_
    exact me_iret C N dX11_traffic_44 (me_nri _) (by cases hf; rfl) (by decide) (by decide)
  · replace hf := me_ip c3 hf
    exact me_throwW C N hNx 2 cl_Y_109 ie_2 sr_Y_356 tw_Y_113 ft_2 dX11_traffic_15 dX11_traffic_18 dX11_traffic_19 dX11_traffic_22 dX11_traffic_25 ⟨by decide, by decide⟩ (Nat.le_of_ble_eq_true rfl) ⟨by decide, by decide⟩ (by cases hf; rfl)
theorem c_Y_traffic {B : me_B} (hB : me_St B) {μ : me_M} {v1 : Int32} {v2 : Int32} {v3 : Int32} {μ' : me_M} {r : Except Nat Int32}  (hf : f_Y_traffic μ v1 v2 v3 = some (μ', r)) : ∀ l E z, l.stackTraces = false → me_Met l yX11_traffic cX11_traffic 4 (some .int) 7 113 3 18 E B μ z [me_r 0 0, me_i v1, me_i v2, me_i v3] (B, μ', me_xc (fun v => some (me_i v)) r) :=
  fun _ _ _ hl => me_ofZ hl (by decide +kernel) (Nat.le_of_ble_eq_true rfl) (fun _ C N hNx => z_Y_traffic C N hNx hB  hf)

def f_Y_cost (μ : me_M) : Option Int32 :=
  me_bd (f_Placing_countCost μ) (fun r1 =>
  some r1)
set_option maxHeartbeats 4000000 in
set_option maxRecDepth 100000 in
theorem z_Y_cost {X : me_X} {B : me_B} {sz : Nat} (C : me_C X B RX11 cX11_cost 1 (some .int)) {μ : me_M}    {r : Int32} (N : me_En X B sz (B, μ, .ok (some (me_i r))) 3 69 0 0) (hNx : me_Nx X) (hB : me_St B)   (hf : f_Y_cost μ = some r) : me_Z X B 0 0 μ 0 [(0, me_r 0 0)] [] := by
  unfold f_Y_cost at hf
  refine me_aload_n C 0 (Or.inr (Or.inl ⟨_, rfl⟩)) dX11_cost_0 rfl rfl ?_
  refine me_getr C hB 2 (k' := 9) (i' := 0) fg_Y_28 dX11_cost_1 rfl rfl ?_
  obtain ⟨r1, h_r1, hf⟩ := me_bs hf
  refine me_callV C N  (As := []) (st := []) 0 0 (c_Placing_countCost hB h_r1) mv_Placing_countCost ml_Y_361 rfl rfl dX11_cost_4 rfl rfl ⟨by decide, by decide⟩ ⟨by decide, by decide, by decide, by decide⟩ (Nat.le_of_ble_eq_true rfl) ?_
  exact me_iret C N dX11_cost_7 (me_nri _) (by cases hf; rfl) (by decide) (by decide)
theorem c_Y_cost {B : me_B} (hB : me_St B) {μ : me_M}  {r : Int32}  (hf : f_Y_cost μ = some r) : ∀ l E z, l.stackTraces = false → me_Met l yX11_cost cX11_cost 1 (some .int) 3 69 0 0 E B μ z [me_r 0 0] (B, μ, .ok (some (me_i r))) :=
  fun _ _ _ hl => me_ofZ hl (by decide +kernel) (Nat.le_of_ble_eq_true rfl) (fun _ C N hNx => z_Y_cost C N hNx hB  hf)

def f_Y_swap (μ : me_M) : Option (me_M × (Except Nat Int32)) :=
  me_b2 (f_Placing_swapBest μ) (fun μ2 r1 =>
  if 0 < r1 then
  (some (μ2, .ok r1))
  else
  (some (μ2, .error 5)))
set_option maxHeartbeats 4000000 in
set_option maxRecDepth 100000 in
theorem z_Y_swap {X : me_X} {B : me_B} {sz : Nat} (C : me_C X B RX11 cX11_swap 2 (some .int)) {μ : me_M}    {r : me_M × (Except Nat Int32)} (N : me_En X B sz (B, r.1, me_xc (fun v => some (me_i v)) r.2) 6 96 1 6) (hNx : me_Nx X) (hB : me_St B)   (hf : f_Y_swap μ = some r) : me_Z X B 0 0 μ 0 [(0, me_r 0 0)] [] := by
  unfold f_Y_swap at hf
  refine me_aload_n C 0 (Or.inr (Or.inl ⟨_, rfl⟩)) dX11_swap_0 rfl rfl ?_
  refine me_getr C hB 2 (k' := 9) (i' := 0) fg_Y_28 dX11_swap_1 rfl rfl ?_
  obtain ⟨μ2, r1, h_r1, hf⟩ := me_bs2 hf
  refine me_callV C N  (As := []) (st := []) 0 0 (c_Placing_swapBest hB h_r1) mv_Placing_swapBest ml_Y_364 rfl rfl dX11_swap_4 rfl rfl ⟨by decide, by decide⟩ ⟨by decide, by decide, by decide, by decide⟩ (Nat.le_of_ble_eq_true rfl) ?_
  refine me_istore_n C 1 dX11_swap_7 rfl (by decide) (L' := [(1, me_i r1), (0, me_r 0 0)]) rfl ?_
  refine me_iload_n C 1 dX11_swap_8 rfl rfl ?_
  refine me_if_gt C (tgt := 23) dX11_swap_9 (by decide) (fun c3 => ?_) (fun c3 => ?_)
  · replace hf := me_ip c3 hf
    refine me_iload_n C 1 dX11_swap_23 rfl rfl ?_
    exact me_iret C N dX11_swap_24 (me_nri _) (by cases hf; rfl) (by decide) (by decide)
  · replace hf := me_in c3 hf
    exact me_throwNW C N hNx 5 cl_Y_146 ie_5 sr_Y_367 tw_Y_150 rfl dX11_swap_12 dX11_swap_15 dX11_swap_16 dX11_swap_19 dX11_swap_22 ⟨by decide, by decide⟩ (Nat.le_of_ble_eq_true rfl) ⟨by decide, by decide⟩ (by cases hf; rfl)
theorem c_Y_swap {B : me_B} (hB : me_St B) {μ : me_M}  {μ' : me_M} {r : Except Nat Int32}  (hf : f_Y_swap μ = some (μ', r)) : ∀ l E z, l.stackTraces = false → me_Met l yX11_swap cX11_swap 2 (some .int) 6 96 1 6 E B μ z [me_r 0 0] (B, μ', me_xc (fun v => some (me_i v)) r) :=
  fun _ _ _ hl => me_ofZ hl (by decide +kernel) (Nat.le_of_ble_eq_true rfl) (fun _ C N hNx => z_Y_swap C N hNx hB  hf)

def f_Y_nodeOf (μ : me_M) (v1 : Int32) : Option (Except Nat Int32) :=
  me_bd (f_Y_needTask μ v1) (fun r1 =>
  me_xb r1 (fun r1 =>
  me_gd (me_inb v1 8) (
  some (.ok (μ 10 0 (me_ix v1))))))
set_option maxHeartbeats 4000000 in
set_option maxRecDepth 100000 in
theorem z_Y_nodeOf {X : me_X} {B : me_B} {sz : Nat} (C : me_C X B RX11 cX11_nodeOf 2 (some .int)) {μ : me_M} {v1 : Int32}   {r : Except Nat Int32} (N : me_En X B sz (B, μ, me_xc (fun v => some (me_i v)) r) 7 111 1 6) (hNx : me_Nx X) (hB : me_St B)   (hf : f_Y_nodeOf μ v1 = some r) : me_Z X B 0 0 μ 0 [(0, me_r 0 0), (1, me_i v1)] [] := by
  unfold f_Y_nodeOf at hf
  refine me_aload_n C 0 (Or.inr (Or.inl ⟨_, rfl⟩)) dX11_nodeOf_0 rfl rfl ?_
  refine me_iload_n C 1 dX11_nodeOf_1 rfl rfl ?_
  obtain ⟨r1, h_r1, hf⟩ := me_bs hf
  rcases r1 with r1 | r1
  · replace hf := me_xbe hf
    refine me_callVE C N  (As := [me_i v1]) (st := []) 1 6 (c_Y_needTask hB h_r1) mv_Y_needTask ml_Y_353 rfl rfl dX11_nodeOf_2 rfl rfl ⟨by decide, by decide⟩ ⟨by decide, by decide, by decide, by decide⟩ (Nat.le_of_ble_eq_true rfl) ?_
    exact me_outX C N hNx (by cases hf; rfl) (by decide) (by decide)
  replace hf := me_xbo hf
  refine me_callV0 C N  (As := [me_i v1]) (st := []) 1 6 (c_Y_needTask hB h_r1) mv_Y_needTask ml_Y_353 rfl rfl dX11_nodeOf_2 rfl rfl ⟨by decide, by decide⟩ ⟨by decide, by decide, by decide, by decide⟩ (Nat.le_of_ble_eq_true rfl) ?_
  refine me_aload_n C 0 (Or.inr (Or.inl ⟨_, rfl⟩)) dX11_nodeOf_5 rfl rfl ?_
  refine me_getr C hB 2 (k' := 9) (i' := 0) fg_Y_28 dX11_nodeOf_6 rfl rfl ?_
  refine me_getr C hB 1 (k' := 10) (i' := 0) fg_Y_369 dX11_nodeOf_9 rfl rfl ?_
  refine me_iload_n C 1 dX11_nodeOf_12 rfl rfl ?_
  obtain ⟨g2, hf⟩ := me_gs hf
  refine me_iald C rfl (fun _ => rfl) g2 dX11_nodeOf_13 ?_
  exact me_iret C N dX11_nodeOf_14 (me_nri _) (by cases hf; rfl) (by decide) (by decide)
theorem c_Y_nodeOf {B : me_B} (hB : me_St B) {μ : me_M} {v1 : Int32} {r : Except Nat Int32}  (hf : f_Y_nodeOf μ v1 = some r) : ∀ l E z, l.stackTraces = false → me_Met l yX11_nodeOf cX11_nodeOf 2 (some .int) 7 111 1 6 E B μ z [me_r 0 0, me_i v1] (B, μ, me_xc (fun v => some (me_i v)) r) :=
  fun _ _ _ hl => me_ofZ hl (by decide +kernel) (Nat.le_of_ble_eq_true rfl) (fun _ C N hNx => z_Y_nodeOf C N hNx hB  hf)

def f_Y_checksum_b20 (μ : me_M) (K6 : Int64 → Int32 → Option Int64) (K20 : Int64 → Int32 → Int32 → Option Int64) (v1 : Int64) (v3 : Int32) (v4 : Int32) : Option Int64 :=
  if (8 : Int32) ≤ v4 then
  (me_gd (me_inb v3 16) (
  me_bd (f_Router_countPieces μ (me_ix v3)) (fun r3 =>
  me_lt (me_inc v3 (1)) (fun x4 =>
  K6 (((31 : Int64) * v1) + (Int32.toInt64 r3)) x4))))
  else
  (me_gd (me_inb v3 16) (
  me_gd (me_inb v4 8) (
  me_lt (me_inc v4 (1)) (fun x7 =>
  K20 (((31 : Int64) * v1) + (Int32.toInt64 (μ 23 (me_ix v3) (me_ix v4)))) v3 x7))))
set_option maxHeartbeats 4000000 in
set_option maxRecDepth 100000 in
theorem z_Y_checksum_b20 {X : me_X} {B : me_B} {sz : Nat} (C : me_C X B RX11 cX11_checksum 5 (some .long)) {μ : me_M} {v1 : Int64} {v3 : Int32} {v4 : Int32}  {K6 : Int64 → Int32 → Option Int64} {K20 : Int64 → Int32 → Int32 → Option Int64} {r : Int64} (N : me_En X B sz (B, μ, .ok (some (me_l r))) 1 22 0 0) (hNx : me_Nx X) (hB : me_St B) (hK6 : ∀ (v1 : Int64) (v3 : Int32), K6 v1 v3 = some r → me_Z X B 0 0 μ 6 [(0, me_r 0 0), (1, me_l v1), (3, me_i v3)] []) (hK20 : ∀ (v1 : Int64) (v3 : Int32) (v4 : Int32), K20 v1 v3 v4 = some r → me_Z X B 0 0 μ 20 [(0, me_r 0 0), (1, me_l v1), (3, me_i v3), (4, me_i v4)] [])  (hf : f_Y_checksum_b20 μ K6 K20 v1 v3 v4 = some r) : me_Z X B 0 0 μ 20 [(0, me_r 0 0), (1, me_l v1), (3, me_i v3), (4, me_i v4)] [] := by
  unfold f_Y_checksum_b20 at hf
  refine me_iload C dX11_checksum_20 rfl ?_
  refine me_bipush C (v := 8) dX11_checksum_22 (by decide) ?_
  refine me_icmp_ge C (tgt := 53) dX11_checksum_24 (by decide) (fun c1 => ?_) (fun c1 => ?_)
  · replace hf := me_ip c1 hf
    refine me_ldc2 C (v := 31) dX11_checksum_53 cg_Y_374 ?_
    refine me_lload_n C 1 dX11_checksum_56 rfl rfl ?_
    refine me_lmul C dX11_checksum_57 ?_
    refine me_aload_n C 0 (Or.inr (Or.inl ⟨_, rfl⟩)) dX11_checksum_58 rfl rfl ?_
    refine me_getr C hB 3 (k' := 12) (i' := 0) fg_Y_34 dX11_checksum_59 rfl rfl ?_
    refine me_iload_n C 3 dX11_checksum_62 rfl rfl ?_
    obtain ⟨g2, hf⟩ := me_gs hf
    refine me_aald C hB (k' := 13) (i' := (me_ix v3)) rfl (fun _ => rfl) rfl g2 dX11_checksum_63 rfl ?_
    obtain ⟨r3, h_r3, hf⟩ := me_bs hf
    refine me_callV C N  (As := []) (st := [me_l ((31 : Int64) * v1)]) 0 0 (c_Router_countPieces hB h_r3) mv_Router_countPieces ml_Y_376 rfl rfl dX11_checksum_64 rfl rfl ⟨by decide, by decide⟩ ⟨by decide, by decide, by decide, by decide⟩ (Nat.le_of_ble_eq_true rfl) ?_
    refine me_i2l C dX11_checksum_67 ?_
    refine me_ladd C dX11_checksum_68 ?_
    refine me_lstore_n C 1 dX11_checksum_69 rfl (by decide) (L' := [(1, me_l (((31 : Int64) * v1) + (Int32.toInt64 r3))), (0, me_r 0 0), (3, me_i v3), (4, me_i v4)]) rfl ?_
    obtain ⟨x4, e_x4, hf⟩ := me_lts hf
    refine me_iinc C (v := x4) (L' := [(3, me_i x4), (1, me_l (((31 : Int64) * v1) + (Int32.toInt64 r3))), (0, me_r 0 0), (4, me_i v4)]) dX11_checksum_70 rfl e_x4.symm (by decide) rfl ?_
    refine me_goto C (tgt := 6) dX11_checksum_73 (by decide) ?_
    refine me_dropI [(0, me_r 0 0), (1, me_l (((31 : Int64) * v1) + (Int32.toInt64 r3))), (3, me_i x4)] [2, 1, 0] rfl ?_
    exact hK6 (((31 : Int64) * v1) + (Int32.toInt64 r3)) x4 hf
  · replace hf := me_in c1 hf
    refine me_ldc2 C (v := 31) dX11_checksum_27 cg_Y_374 ?_
    refine me_lload_n C 1 dX11_checksum_30 rfl rfl ?_
    refine me_lmul C dX11_checksum_31 ?_
    refine me_aload_n C 0 (Or.inr (Or.inl ⟨_, rfl⟩)) dX11_checksum_32 rfl rfl ?_
    refine me_getr C hB 4 (k' := 21) (i' := 0) fg_Y_40 dX11_checksum_33 rfl rfl ?_
    refine me_iload_n C 3 dX11_checksum_36 rfl rfl ?_
    obtain ⟨g5, hf⟩ := me_gs hf
    refine me_aald C hB (k' := 22) (i' := (me_ix v3)) rfl (fun _ => rfl) rfl g5 dX11_checksum_37 rfl ?_
    refine me_getr C hB 0 (k' := 23) (i' := (me_ix v3)) fg_Y_329 dX11_checksum_38 rfl rfl ?_
    refine me_iload C dX11_checksum_41 rfl ?_
    obtain ⟨g6, hf⟩ := me_gs hf
    refine me_iald C rfl (fun _ => rfl) g6 dX11_checksum_43 ?_
    refine me_i2l C dX11_checksum_44 ?_
    refine me_ladd C dX11_checksum_45 ?_
    refine me_lstore_n C 1 dX11_checksum_46 rfl (by decide) (L' := [(1, me_l (((31 : Int64) * v1) + (Int32.toInt64 (μ 23 (me_ix v3) (me_ix v4))))), (0, me_r 0 0), (3, me_i v3), (4, me_i v4)]) rfl ?_
    obtain ⟨x7, e_x7, hf⟩ := me_lts hf
    refine me_iinc C (v := x7) (L' := [(4, me_i x7), (1, me_l (((31 : Int64) * v1) + (Int32.toInt64 (μ 23 (me_ix v3) (me_ix v4))))), (0, me_r 0 0), (3, me_i v3)]) dX11_checksum_47 rfl e_x7.symm (by decide) rfl ?_
    refine me_goto C (tgt := 20) dX11_checksum_50 (by decide) ?_
    refine me_dropI [(0, me_r 0 0), (1, me_l (((31 : Int64) * v1) + (Int32.toInt64 (μ 23 (me_ix v3) (me_ix v4))))), (3, me_i v3), (4, me_i x7)] [2, 1, 3, 0] rfl ?_
    exact hK20 (((31 : Int64) * v1) + (Int32.toInt64 (μ 23 (me_ix v3) (me_ix v4)))) v3 x7 hf
def f_Y_checksum_h20 (μ : me_M) (K6 : Int64 → Int32 → Option Int64) : Nat → Int64 → Int32 → Int32 → Option Int64
  | 0, _, _, _ => none
  | n + 1, v1, v3, v4 => f_Y_checksum_b20 μ K6 (f_Y_checksum_h20 μ K6 n) v1 v3 v4
set_option maxHeartbeats 4000000 in
set_option maxRecDepth 100000 in
theorem z_Y_checksum_h20 {X : me_X} {B : me_B} {sz : Nat} (C : me_C X B RX11 cX11_checksum 5 (some .long)) {μ : me_M} {K6 : Int64 → Int32 → Option Int64} {r : Int64} (N : me_En X B sz (B, μ, .ok (some (me_l r))) 1 22 0 0) (hNx : me_Nx X) (hB : me_St B) (hK6 : ∀ (v1 : Int64) (v3 : Int32), K6 v1 v3 = some r → me_Z X B 0 0 μ 6 [(0, me_r 0 0), (1, me_l v1), (3, me_i v3)] []) : ∀ (n : Nat) (v1 : Int64) (v3 : Int32) (v4 : Int32), f_Y_checksum_h20 μ K6 n v1 v3 v4 = some r → me_Z X B 0 0 μ 20 [(0, me_r 0 0), (1, me_l v1), (3, me_i v3), (4, me_i v4)] [] := by
  intro n
  induction n with
  | zero => intro v1 v3 v4  h; exact absurd (show (none : Option Int64) = some r from h) (fun q => by cases q)
  | succ n ih => intro v1 v3 v4  h; exact z_Y_checksum_b20 C N hNx hB hK6 (K20 := f_Y_checksum_h20 μ K6 n) ih  h
def f_Y_checksum_b78 (μ : me_M) (K78 : Int64 → Int32 → Option Int64) (v1 : Int64) (v3 : Int32) : Option Int64 :=
  if (μ 6 0 1) ≤ v3 then
  (some v1)
  else
  (me_gd (me_inb v3 200) (
  me_lt (me_inc v3 (1)) (fun x3 =>
  K78 (((31 : Int64) * v1) + (Int32.toInt64 (μ 8 (me_ix v3) 2))) x3)))
set_option maxHeartbeats 4000000 in
set_option maxRecDepth 100000 in
theorem z_Y_checksum_b78 {X : me_X} {B : me_B} {sz : Nat} (C : me_C X B RX11 cX11_checksum 5 (some .long)) {μ : me_M} {v1 : Int64} {v3 : Int32}  {K78 : Int64 → Int32 → Option Int64} {r : Int64} (N : me_En X B sz (B, μ, .ok (some (me_l r))) 1 22 0 0) (hNx : me_Nx X) (hB : me_St B) (hK78 : ∀ (v1 : Int64) (v3 : Int32), K78 v1 v3 = some r → me_Z X B 0 0 μ 78 [(0, me_r 0 0), (1, me_l v1), (3, me_i v3)] [])  (hf : f_Y_checksum_b78 μ K78 v1 v3 = some r) : me_Z X B 0 0 μ 78 [(0, me_r 0 0), (1, me_l v1), (3, me_i v3)] [] := by
  unfold f_Y_checksum_b78 at hf
  refine me_iload_n C 3 dX11_checksum_78 rfl rfl ?_
  refine me_aload_n C 0 (Or.inr (Or.inl ⟨_, rfl⟩)) dX11_checksum_79 rfl rfl ?_
  refine me_getr C hB 1 (k' := 6) (i' := 0) fg_Y_19 dX11_checksum_80 rfl rfl ?_
  refine me_geti C 1 fg_Y_175 dX11_checksum_83 rfl ?_
  refine me_icmp_ge C (tgt := 115) dX11_checksum_86 (by decide) (fun c1 => ?_) (fun c1 => ?_)
  · replace hf := me_ip c1 hf
    refine me_lload_n C 1 dX11_checksum_115 rfl rfl ?_
    exact me_lret C N dX11_checksum_116 (by cases hf; rfl) (by decide) (by decide)
  · replace hf := me_in c1 hf
    refine me_ldc2 C (v := 31) dX11_checksum_89 cg_Y_374 ?_
    refine me_lload_n C 1 dX11_checksum_92 rfl rfl ?_
    refine me_lmul C dX11_checksum_93 ?_
    refine me_aload_n C 0 (Or.inr (Or.inl ⟨_, rfl⟩)) dX11_checksum_94 rfl rfl ?_
    refine me_getr C hB 1 (k' := 6) (i' := 0) fg_Y_19 dX11_checksum_95 rfl rfl ?_
    refine me_getr C hB 0 (k' := 7) (i' := 0) fg_Y_379 dX11_checksum_98 rfl rfl ?_
    refine me_iload_n C 3 dX11_checksum_101 rfl rfl ?_
    obtain ⟨g2, hf⟩ := me_gs hf
    refine me_aald C hB (k' := 8) (i' := (me_ix v3)) rfl (fun _ => rfl) rfl g2 dX11_checksum_102 rfl ?_
    refine me_geti C 2 fg_Y_151 dX11_checksum_103 rfl ?_
    refine me_i2l C dX11_checksum_106 ?_
    refine me_ladd C dX11_checksum_107 ?_
    refine me_lstore_n C 1 dX11_checksum_108 rfl (by decide) (L' := [(1, me_l (((31 : Int64) * v1) + (Int32.toInt64 (μ 8 (me_ix v3) 2)))), (0, me_r 0 0), (3, me_i v3)]) rfl ?_
    obtain ⟨x3, e_x3, hf⟩ := me_lts hf
    refine me_iinc C (v := x3) (L' := [(3, me_i x3), (1, me_l (((31 : Int64) * v1) + (Int32.toInt64 (μ 8 (me_ix v3) 2)))), (0, me_r 0 0)]) dX11_checksum_109 rfl e_x3.symm (by decide) rfl ?_
    refine me_goto C (tgt := 78) dX11_checksum_112 (by decide) ?_
    refine me_dropI [(0, me_r 0 0), (1, me_l (((31 : Int64) * v1) + (Int32.toInt64 (μ 8 (me_ix v3) 2)))), (3, me_i x3)] [2, 1, 0] rfl ?_
    exact hK78 (((31 : Int64) * v1) + (Int32.toInt64 (μ 8 (me_ix v3) 2))) x3 hf
def f_Y_checksum_h78 (μ : me_M) : Nat → Int64 → Int32 → Option Int64
  | 0, _, _ => none
  | n + 1, v1, v3 => f_Y_checksum_b78 μ (f_Y_checksum_h78 μ n) v1 v3
set_option maxHeartbeats 4000000 in
set_option maxRecDepth 100000 in
theorem z_Y_checksum_h78 {X : me_X} {B : me_B} {sz : Nat} (C : me_C X B RX11 cX11_checksum 5 (some .long)) {μ : me_M}  {r : Int64} (N : me_En X B sz (B, μ, .ok (some (me_l r))) 1 22 0 0) (hNx : me_Nx X) (hB : me_St B)  : ∀ (n : Nat) (v1 : Int64) (v3 : Int32), f_Y_checksum_h78 μ n v1 v3 = some r → me_Z X B 0 0 μ 78 [(0, me_r 0 0), (1, me_l v1), (3, me_i v3)] [] := by
  intro n
  induction n with
  | zero => intro v1 v3  h; exact absurd (show (none : Option Int64) = some r from h) (fun q => by cases q)
  | succ n ih => intro v1 v3  h; exact z_Y_checksum_b78 C N hNx hB  (K78 := f_Y_checksum_h78 μ n) ih  h
def f_Y_checksum_b6 (μ : me_M) (K6 : Int64 → Int32 → Option Int64) (v1 : Int64) (v3 : Int32) : Option Int64 :=
  if (μ 1 0 4) ≤ v3 then
  (f_Y_checksum_h78 μ me_FU v1 (0 : Int32))
  else
  (f_Y_checksum_h20 μ K6 me_FU v1 v3 (0 : Int32))
set_option maxHeartbeats 4000000 in
set_option maxRecDepth 100000 in
theorem z_Y_checksum_b6 {X : me_X} {B : me_B} {sz : Nat} (C : me_C X B RX11 cX11_checksum 5 (some .long)) {μ : me_M} {v1 : Int64} {v3 : Int32}  {K6 : Int64 → Int32 → Option Int64} {r : Int64} (N : me_En X B sz (B, μ, .ok (some (me_l r))) 1 22 0 0) (hNx : me_Nx X) (hB : me_St B) (hK6 : ∀ (v1 : Int64) (v3 : Int32), K6 v1 v3 = some r → me_Z X B 0 0 μ 6 [(0, me_r 0 0), (1, me_l v1), (3, me_i v3)] [])  (hf : f_Y_checksum_b6 μ K6 v1 v3 = some r) : me_Z X B 0 0 μ 6 [(0, me_r 0 0), (1, me_l v1), (3, me_i v3)] [] := by
  unfold f_Y_checksum_b6 at hf
  refine me_iload_n C 3 dX11_checksum_6 rfl rfl ?_
  refine me_aload_n C 0 (Or.inr (Or.inl ⟨_, rfl⟩)) dX11_checksum_7 rfl rfl ?_
  refine me_getr C hB 0 (k' := 1) (i' := 0) fg_Y_10 dX11_checksum_8 rfl rfl ?_
  refine me_geti C 4 fg_Y_106 dX11_checksum_11 rfl ?_
  refine me_icmp_ge C (tgt := 76) dX11_checksum_14 (by decide) (fun c1 => ?_) (fun c1 => ?_)
  · replace hf := me_ip c1 hf
    refine me_iconst C (v := 0) dX11_checksum_76 (by decide) ?_
    refine me_istore_n C 3 dX11_checksum_77 rfl (by decide) (L' := [(3, me_i (0 : Int32)), (0, me_r 0 0), (1, me_l v1)]) rfl ?_
    refine me_dropI [(0, me_r 0 0), (1, me_l v1), (3, me_i (0 : Int32))] [1, 2, 0] rfl ?_
    exact z_Y_checksum_h78 C N hNx hB me_FU v1 (0 : Int32) hf
  · replace hf := me_in c1 hf
    refine me_iconst C (v := 0) dX11_checksum_17 (by decide) ?_
    refine me_istore C dX11_checksum_18 (by decide) (L' := [(4, me_i (0 : Int32)), (0, me_r 0 0), (1, me_l v1), (3, me_i v3)]) rfl ?_
    refine me_dropI [(0, me_r 0 0), (1, me_l v1), (3, me_i v3), (4, me_i (0 : Int32))] [1, 2, 3, 0] rfl ?_
    exact z_Y_checksum_h20 C N hNx hB hK6 me_FU v1 v3 (0 : Int32) hf
def f_Y_checksum_h6 (μ : me_M) : Nat → Int64 → Int32 → Option Int64
  | 0, _, _ => none
  | n + 1, v1, v3 => f_Y_checksum_b6 μ (f_Y_checksum_h6 μ n) v1 v3
set_option maxHeartbeats 4000000 in
set_option maxRecDepth 100000 in
theorem z_Y_checksum_h6 {X : me_X} {B : me_B} {sz : Nat} (C : me_C X B RX11 cX11_checksum 5 (some .long)) {μ : me_M}  {r : Int64} (N : me_En X B sz (B, μ, .ok (some (me_l r))) 1 22 0 0) (hNx : me_Nx X) (hB : me_St B)  : ∀ (n : Nat) (v1 : Int64) (v3 : Int32), f_Y_checksum_h6 μ n v1 v3 = some r → me_Z X B 0 0 μ 6 [(0, me_r 0 0), (1, me_l v1), (3, me_i v3)] [] := by
  intro n
  induction n with
  | zero => intro v1 v3  h; exact absurd (show (none : Option Int64) = some r from h) (fun q => by cases q)
  | succ n ih => intro v1 v3  h; exact z_Y_checksum_b6 C N hNx hB  (K6 := f_Y_checksum_h6 μ n) ih  h
def f_Y_checksum (μ : me_M) : Option Int64 :=
  f_Y_checksum_h6 μ me_FU (7 : Int64) (0 : Int32)
set_option maxHeartbeats 4000000 in
set_option maxRecDepth 100000 in
theorem z_Y_checksum {X : me_X} {B : me_B} {sz : Nat} (C : me_C X B RX11 cX11_checksum 5 (some .long)) {μ : me_M}    {r : Int64} (N : me_En X B sz (B, μ, .ok (some (me_l r))) 1 22 0 0) (hNx : me_Nx X) (hB : me_St B)   (hf : f_Y_checksum μ = some r) : me_Z X B 0 0 μ 0 [(0, me_r 0 0)] [] := by
  unfold f_Y_checksum at hf
  refine me_ldc2 C (v := 7) dX11_checksum_0 cg_Y_372 ?_
  refine me_lstore_n C 1 dX11_checksum_3 rfl (by decide) (L' := [(1, me_l (7 : Int64)), (0, me_r 0 0)]) rfl ?_
  refine me_iconst C (v := 0) dX11_checksum_4 (by decide) ?_
  refine me_istore_n C 3 dX11_checksum_5 rfl (by decide) (L' := [(3, me_i (0 : Int32)), (1, me_l (7 : Int64)), (0, me_r 0 0)]) rfl ?_
  refine me_dropI [(0, me_r 0 0), (1, me_l (7 : Int64)), (3, me_i (0 : Int32))] [2, 1, 0] rfl ?_
  exact z_Y_checksum_h6 C N hNx hB me_FU (7 : Int64) (0 : Int32) hf
theorem c_Y_checksum {B : me_B} (hB : me_St B) {μ : me_M}  {r : Int64}  (hf : f_Y_checksum μ = some r) : ∀ l E z, l.stackTraces = false → me_Met l yX11_checksum cX11_checksum 5 (some .long) 1 22 0 0 E B μ z [me_r 0 0] (B, μ, .ok (some (me_l r))) :=
  fun _ _ _ hl => me_ofZ hl (by decide +kernel) (Nat.le_of_ble_eq_true rfl) (fun _ C N hNx => z_Y_checksum C N hNx hB  hf)

def f_Y_lostShare (μ : me_M) : Option (Except Nat UInt32) :=
  if (μ 6 0 1) = 0 then
  (some (.error 5))
  else
  (me_bd (f_Post_countLost μ) (fun r2 =>
  me_gd (me_n32 (FP.fdiv (FP.i2f r2) (FP.i2f (μ 6 0 1)))) (
  some (.ok (FP.fdiv (FP.i2f r2) (FP.i2f (μ 6 0 1)))))))
set_option maxHeartbeats 4000000 in
set_option maxRecDepth 100000 in
theorem z_Y_lostShare {X : me_X} {B : me_B} {sz : Nat} (C : me_C X B RX11 cX11_lostShare 1 (some .float)) {μ : me_M}    {r : Except Nat UInt32} (N : me_En X B sz (B, μ, me_xc (fun v => some (me_f v)) r) 6 90 1 6) (hNx : me_Nx X) (hB : me_St B)   (hf : f_Y_lostShare μ = some r) : me_Z X B 0 0 μ 0 [(0, me_r 0 0)] [] := by
  unfold f_Y_lostShare at hf
  refine me_aload_n C 0 (Or.inr (Or.inl ⟨_, rfl⟩)) dX11_lostShare_0 rfl rfl ?_
  refine me_getr C hB 1 (k' := 6) (i' := 0) fg_Y_19 dX11_lostShare_1 rfl rfl ?_
  refine me_geti C 1 fg_Y_175 dX11_lostShare_4 rfl ?_
  refine me_if_ne C (tgt := 21) dX11_lostShare_7 (by decide) (fun c1 => ?_) (fun c1 => ?_)
  · replace hf := me_in c1 hf
    refine me_aload_n C 0 (Or.inr (Or.inl ⟨_, rfl⟩)) dX11_lostShare_21 rfl rfl ?_
    refine me_getr C hB 1 (k' := 6) (i' := 0) fg_Y_19 dX11_lostShare_22 rfl rfl ?_
    obtain ⟨r2, h_r2, hf⟩ := me_bs hf
    refine me_callV C N  (As := []) (st := []) 0 0 (c_Post_countLost hB h_r2) mv_Post_countLost ml_Y_385 rfl rfl dX11_lostShare_25 rfl rfl ⟨by decide, by decide⟩ ⟨by decide, by decide, by decide, by decide⟩ (Nat.le_of_ble_eq_true rfl) ?_
    refine me_i2f C dX11_lostShare_28 ?_
    refine me_aload_n C 0 (Or.inr (Or.inl ⟨_, rfl⟩)) dX11_lostShare_29 rfl rfl ?_
    refine me_getr C hB 1 (k' := 6) (i' := 0) fg_Y_19 dX11_lostShare_30 rfl rfl ?_
    refine me_geti C 1 fg_Y_175 dX11_lostShare_33 rfl ?_
    refine me_i2f C dX11_lostShare_36 ?_
    obtain ⟨g3, hf⟩ := me_gs hf
    refine me_fdiv C dX11_lostShare_37 (me_n32s g3) ?_
    exact me_fret C N dX11_lostShare_38 (by cases hf; rfl) (by decide) (by decide)
  · replace hf := me_ip c1 hf
    exact me_throwNW C N hNx 5 cl_Y_146 ie_5 sr_Y_383 tw_Y_150 rfl dX11_lostShare_10 dX11_lostShare_13 dX11_lostShare_14 dX11_lostShare_17 dX11_lostShare_20 ⟨by decide, by decide⟩ (Nat.le_of_ble_eq_true rfl) ⟨by decide, by decide⟩ (by cases hf; rfl)
theorem c_Y_lostShare {B : me_B} (hB : me_St B) {μ : me_M}  {r : Except Nat UInt32}  (hf : f_Y_lostShare μ = some r) : ∀ l E z, l.stackTraces = false → me_Met l yX11_lostShare cX11_lostShare 1 (some .float) 6 90 1 6 E B μ z [me_r 0 0] (B, μ, me_xc (fun v => some (me_f v)) r) :=
  fun _ _ _ hl => me_ofZ hl (by decide +kernel) (Nat.le_of_ble_eq_true rfl) (fun _ C N hNx => z_Y_lostShare C N hNx hB  hf)

def f_Y_meanTime (μ : me_M) : Option (Except Nat UInt64) :=
  me_bd (f_Post_countDelivered μ) (fun r1 =>
  if r1 = 0 then
  (some (.error 5))
  else
  (me_bd (f_Post_sumOfTimes μ) (fun r3 =>
  me_gd (me_n64 (FP.ddiv (FP.i2d r3) (FP.i2d r1))) (
  some (.ok (FP.ddiv (FP.i2d r3) (FP.i2d r1)))))))
set_option maxHeartbeats 4000000 in
set_option maxRecDepth 100000 in
theorem z_Y_meanTime {X : me_X} {B : me_B} {sz : Nat} (C : me_C X B RX11 cX11_meanTime 2 (some .double)) {μ : me_M}    {r : Except Nat UInt64} (N : me_En X B sz (B, μ, me_xc (fun v => some (me_d v)) r) 6 90 1 6) (hNx : me_Nx X) (hB : me_St B)   (hf : f_Y_meanTime μ = some r) : me_Z X B 0 0 μ 0 [(0, me_r 0 0)] [] := by
  unfold f_Y_meanTime at hf
  refine me_aload_n C 0 (Or.inr (Or.inl ⟨_, rfl⟩)) dX11_meanTime_0 rfl rfl ?_
  refine me_getr C hB 1 (k' := 6) (i' := 0) fg_Y_19 dX11_meanTime_1 rfl rfl ?_
  obtain ⟨r1, h_r1, hf⟩ := me_bs hf
  refine me_callV C N  (As := []) (st := []) 0 0 (c_Post_countDelivered hB h_r1) mv_Post_countDelivered ml_Y_388 rfl rfl dX11_meanTime_4 rfl rfl ⟨by decide, by decide⟩ ⟨by decide, by decide, by decide, by decide⟩ (Nat.le_of_ble_eq_true rfl) ?_
  refine me_istore_n C 1 dX11_meanTime_7 rfl (by decide) (L' := [(1, me_i r1), (0, me_r 0 0)]) rfl ?_
  refine me_iload_n C 1 dX11_meanTime_8 rfl rfl ?_
  refine me_if_ne C (tgt := 23) dX11_meanTime_9 (by decide) (fun c2 => ?_) (fun c2 => ?_)
  · replace hf := me_in c2 hf
    refine me_aload_n C 0 (Or.inr (Or.inl ⟨_, rfl⟩)) dX11_meanTime_23 rfl rfl ?_
    refine me_getr C hB 1 (k' := 6) (i' := 0) fg_Y_19 dX11_meanTime_24 rfl rfl ?_
    obtain ⟨r3, h_r3, hf⟩ := me_bs hf
    refine me_callV C N  (As := []) (st := []) 0 0 (c_Post_sumOfTimes hB h_r3) mv_Post_sumOfTimes ml_Y_393 rfl rfl dX11_meanTime_27 rfl rfl ⟨by decide, by decide⟩ ⟨by decide, by decide, by decide, by decide⟩ (Nat.le_of_ble_eq_true rfl) ?_
    refine me_i2d C dX11_meanTime_30 ?_
    refine me_iload_n C 1 dX11_meanTime_31 rfl rfl ?_
    refine me_i2d C dX11_meanTime_32 ?_
    obtain ⟨g4, hf⟩ := me_gs hf
    refine me_ddiv C dX11_meanTime_33 (me_n64s g4) ?_
    exact me_dret C N dX11_meanTime_34 (by cases hf; rfl) (by decide) (by decide)
  · replace hf := me_ip c2 hf
    exact me_throwNW C N hNx 5 cl_Y_146 ie_5 sr_Y_391 tw_Y_150 rfl dX11_meanTime_12 dX11_meanTime_15 dX11_meanTime_16 dX11_meanTime_19 dX11_meanTime_22 ⟨by decide, by decide⟩ (Nat.le_of_ble_eq_true rfl) ⟨by decide, by decide⟩ (by cases hf; rfl)
theorem c_Y_meanTime {B : me_B} (hB : me_St B) {μ : me_M}  {r : Except Nat UInt64}  (hf : f_Y_meanTime μ = some r) : ∀ l E z, l.stackTraces = false → me_Met l yX11_meanTime cX11_meanTime 2 (some .double) 6 90 1 6 E B μ z [me_r 0 0] (B, μ, me_xc (fun v => some (me_d v)) r) :=
  fun _ _ _ hl => me_ofZ hl (by decide +kernel) (Nat.le_of_ble_eq_true rfl) (fun _ C N hNx => z_Y_meanTime C N hNx hB  hf)

def f_Y_packetsAreSound_b2 (K2 : me_M → Int32 → Option (me_M × Int32)) (μ : me_M) (v1 : Int32) : Option (me_M × Int32) :=
  if (μ 6 0 1) ≤ v1 then
  (some (μ, (1 : Int32)))
  else
  (me_gd (me_inb v1 200) (
  if (μ 8 (me_ix v1) 2) = (119 : Int32) then
  (me_gd (me_inb v1 200) (
  me_b2 (f_Audit_packetIsSound μ (me_ix v1)) (fun μ7 r6 =>
  if r6 = 0 then
  (some (μ7, (0 : Int32)))
  else
  (me_lt (me_inc v1 (1)) (fun x9 =>
  K2 μ7 x9)))))
  else
  (me_lt (me_inc v1 (1)) (fun x4 =>
  K2 μ x4))))
set_option maxHeartbeats 4000000 in
set_option maxRecDepth 100000 in
theorem z_Y_packetsAreSound_b2 {X : me_X} {B : me_B} {sz : Nat} (C : me_C X B RX11 cX11_packetsAreSound 2 (some .boolean)) {μ : me_M} {v1 : Int32}  {K2 : me_M → Int32 → Option (me_M × Int32)} {r : me_M × Int32} (N : me_En X B sz (B, r.1, .ok (some (me_i r.2))) 4 93 0 0) (hNx : me_Nx X) (hB : me_St B) (hK2 : ∀ (μ : me_M) (v1 : Int32), K2 μ v1 = some r → me_Z X B 0 0 μ 2 [(0, me_r 0 0), (1, me_i v1)] [])  (hf : f_Y_packetsAreSound_b2 K2 μ v1 = some r) : me_Z X B 0 0 μ 2 [(0, me_r 0 0), (1, me_i v1)] [] := by
  unfold f_Y_packetsAreSound_b2 at hf
  refine me_iload_n C 1 dX11_packetsAreSound_2 rfl rfl ?_
  refine me_aload_n C 0 (Or.inr (Or.inl ⟨_, rfl⟩)) dX11_packetsAreSound_3 rfl rfl ?_
  refine me_getr C hB 1 (k' := 6) (i' := 0) fg_Y_19 dX11_packetsAreSound_4 rfl rfl ?_
  refine me_geti C 1 fg_Y_175 dX11_packetsAreSound_7 rfl ?_
  refine me_icmp_ge C (tgt := 57) dX11_packetsAreSound_10 (by decide) (fun c1 => ?_) (fun c1 => ?_)
  · replace hf := me_ip c1 hf
    refine me_iconst C (v := 1) dX11_packetsAreSound_57 (by decide) ?_
    exact me_iret C N dX11_packetsAreSound_58 (by decide +kernel) (by cases hf; rfl) (by decide) (by decide)
  · replace hf := me_in c1 hf
    refine me_aload_n C 0 (Or.inr (Or.inl ⟨_, rfl⟩)) dX11_packetsAreSound_13 rfl rfl ?_
    refine me_getr C hB 1 (k' := 6) (i' := 0) fg_Y_19 dX11_packetsAreSound_14 rfl rfl ?_
    refine me_getr C hB 0 (k' := 7) (i' := 0) fg_Y_379 dX11_packetsAreSound_17 rfl rfl ?_
    refine me_iload_n C 1 dX11_packetsAreSound_20 rfl rfl ?_
    obtain ⟨g2, hf⟩ := me_gs hf
    refine me_aald C hB (k' := 8) (i' := (me_ix v1)) rfl (fun _ => rfl) rfl g2 dX11_packetsAreSound_21 rfl ?_
    refine me_geti C 2 fg_Y_151 dX11_packetsAreSound_22 rfl ?_
    refine me_bipush C (v := 119) dX11_packetsAreSound_25 (by decide) ?_
    refine me_icmp_ne C (tgt := 51) dX11_packetsAreSound_27 (by decide) (fun c3 => ?_) (fun c3 => ?_)
    · replace hf := me_in c3 hf
      obtain ⟨x4, e_x4, hf⟩ := me_lts hf
      refine me_iinc C (v := x4) (L' := [(1, me_i x4), (0, me_r 0 0)]) dX11_packetsAreSound_51 rfl e_x4.symm (by decide) rfl ?_
      refine me_goto C (tgt := 2) dX11_packetsAreSound_54 (by decide) ?_
      refine me_dropI [(0, me_r 0 0), (1, me_i x4)] [1, 0] rfl ?_
      exact hK2 μ x4 hf
    · replace hf := me_ip c3 hf
      refine me_aload_n C 0 (Or.inr (Or.inl ⟨_, rfl⟩)) dX11_packetsAreSound_30 rfl rfl ?_
      refine me_getr C hB 8 (k' := 32) (i' := 0) fg_Y_74 dX11_packetsAreSound_31 rfl rfl ?_
      refine me_aload_n C 0 (Or.inr (Or.inl ⟨_, rfl⟩)) dX11_packetsAreSound_34 rfl rfl ?_
      refine me_getr C hB 1 (k' := 6) (i' := 0) fg_Y_19 dX11_packetsAreSound_35 rfl rfl ?_
      refine me_getr C hB 0 (k' := 7) (i' := 0) fg_Y_379 dX11_packetsAreSound_38 rfl rfl ?_
      refine me_iload_n C 1 dX11_packetsAreSound_41 rfl rfl ?_
      obtain ⟨g5, hf⟩ := me_gs hf
      refine me_aald C hB (k' := 8) (i' := (me_ix v1)) rfl (fun _ => rfl) rfl g5 dX11_packetsAreSound_42 rfl ?_
      obtain ⟨μ7, r6, h_r6, hf⟩ := me_bs2 hf
      refine me_callV C N  (As := [me_r 8 (me_ix v1)]) (st := []) 0 0 (c_Audit_packetIsSound hB h_r6) mv_Audit_packetIsSound ml_Y_415 rfl rfl dX11_packetsAreSound_43 rfl rfl ⟨by decide, by decide⟩ ⟨by decide, by decide, by decide, by decide⟩ (Nat.le_of_ble_eq_true rfl) ?_
      refine me_if_ne C (tgt := 51) dX11_packetsAreSound_46 (by decide) (fun c8 => ?_) (fun c8 => ?_)
      · replace hf := me_in c8 hf
        obtain ⟨x9, e_x9, hf⟩ := me_lts hf
        refine me_iinc C (v := x9) (L' := [(1, me_i x9), (0, me_r 0 0)]) dX11_packetsAreSound_51 rfl e_x9.symm (by decide) rfl ?_
        refine me_goto C (tgt := 2) dX11_packetsAreSound_54 (by decide) ?_
        refine me_dropI [(0, me_r 0 0), (1, me_i x9)] [1, 0] rfl ?_
        exact hK2 μ7 x9 hf
      · replace hf := me_ip c8 hf
        refine me_iconst C (v := 0) dX11_packetsAreSound_49 (by decide) ?_
        exact me_iret C N dX11_packetsAreSound_50 (by decide +kernel) (by cases hf; rfl) (by decide) (by decide)
def f_Y_packetsAreSound_h2  : Nat → me_M → Int32 → Option (me_M × Int32)
  | 0, _, _ => none
  | n + 1, μ, v1 => f_Y_packetsAreSound_b2 (f_Y_packetsAreSound_h2 n) μ v1
set_option maxHeartbeats 4000000 in
set_option maxRecDepth 100000 in
theorem z_Y_packetsAreSound_h2 {X : me_X} {B : me_B} {sz : Nat} (C : me_C X B RX11 cX11_packetsAreSound 2 (some .boolean))  {r : me_M × Int32} (N : me_En X B sz (B, r.1, .ok (some (me_i r.2))) 4 93 0 0) (hNx : me_Nx X) (hB : me_St B)  : ∀ (n : Nat) (μ : me_M) (v1 : Int32), f_Y_packetsAreSound_h2 n μ v1 = some r → me_Z X B 0 0 μ 2 [(0, me_r 0 0), (1, me_i v1)] [] := by
  intro n
  induction n with
  | zero => intro μ v1  h; exact absurd (show (none : Option (me_M × Int32)) = some r from h) (fun q => by cases q)
  | succ n ih => intro μ v1  h; exact z_Y_packetsAreSound_b2 C N hNx hB  (K2 := f_Y_packetsAreSound_h2 n) ih  h
def f_Y_packetsAreSound (μ : me_M) : Option (me_M × Int32) :=
  f_Y_packetsAreSound_h2 me_FU μ (0 : Int32)
set_option maxHeartbeats 4000000 in
set_option maxRecDepth 100000 in
theorem z_Y_packetsAreSound {X : me_X} {B : me_B} {sz : Nat} (C : me_C X B RX11 cX11_packetsAreSound 2 (some .boolean)) {μ : me_M}    {r : me_M × Int32} (N : me_En X B sz (B, r.1, .ok (some (me_i r.2))) 4 93 0 0) (hNx : me_Nx X) (hB : me_St B)   (hf : f_Y_packetsAreSound μ = some r) : me_Z X B 0 0 μ 0 [(0, me_r 0 0)] [] := by
  unfold f_Y_packetsAreSound at hf
  refine me_iconst C (v := 0) dX11_packetsAreSound_0 (by decide) ?_
  refine me_istore_n C 1 dX11_packetsAreSound_1 rfl (by decide) (L' := [(1, me_i (0 : Int32)), (0, me_r 0 0)]) rfl ?_
  refine me_dropI [(0, me_r 0 0), (1, me_i (0 : Int32))] [1, 0] rfl ?_
  exact z_Y_packetsAreSound_h2 C N hNx hB me_FU μ (0 : Int32) hf
theorem c_Y_packetsAreSound {B : me_B} (hB : me_St B) {μ : me_M}  {μ' : me_M} {r : Int32}  (hf : f_Y_packetsAreSound μ = some (μ', r)) : ∀ l E z, l.stackTraces = false → me_Met l yX11_packetsAreSound cX11_packetsAreSound 2 (some .boolean) 4 93 0 0 E B μ z [me_r 0 0] (B, μ', .ok (some (me_i r))) :=
  fun _ _ _ hl => me_ofZ hl (by decide +kernel) (Nat.le_of_ble_eq_true rfl) (fun _ C N hNx => z_Y_packetsAreSound C N hNx hB  hf)

def f_Y_isSound (μ : me_M) : Option (me_M × Int32) :=
  me_bd (f_Audit_rowsAreSound μ) (fun r1 =>
  if r1 = 0 then
  (some (μ, (0 : Int32)))
  else
  (me_b2 (f_Y_packetsAreSound μ) (fun μ4 r3 =>
  if r3 = 0 then
  (some (μ4, (0 : Int32)))
  else
  (some (μ4, (1 : Int32))))))
set_option maxHeartbeats 4000000 in
set_option maxRecDepth 100000 in
theorem z_Y_isSound {X : me_X} {B : me_B} {sz : Nat} (C : me_C X B RX11 cX11_isSound 1 (some .boolean)) {μ : me_M}    {r : me_M × Int32} (N : me_En X B sz (B, r.1, .ok (some (me_i r.2))) 5 114 0 0) (hNx : me_Nx X) (hB : me_St B)   (hf : f_Y_isSound μ = some r) : me_Z X B 0 0 μ 0 [(0, me_r 0 0)] [] := by
  unfold f_Y_isSound at hf
  refine me_aload_n C 0 (Or.inr (Or.inl ⟨_, rfl⟩)) dX11_isSound_0 rfl rfl ?_
  refine me_getr C hB 8 (k' := 32) (i' := 0) fg_Y_74 dX11_isSound_1 rfl rfl ?_
  obtain ⟨r1, h_r1, hf⟩ := me_bs hf
  refine me_callV C N  (As := []) (st := []) 0 0 (c_Audit_rowsAreSound hB h_r1) mv_Audit_rowsAreSound ml_Y_396 rfl rfl dX11_isSound_4 rfl rfl ⟨by decide, by decide⟩ ⟨by decide, by decide, by decide, by decide⟩ (Nat.le_of_ble_eq_true rfl) ?_
  refine me_if_eq C (tgt := 21) dX11_isSound_7 (by decide) (fun c2 => ?_) (fun c2 => ?_)
  · replace hf := me_ip c2 hf
    refine me_iconst C (v := 0) dX11_isSound_21 (by decide) ?_
    exact me_iret C N dX11_isSound_22 (by decide +kernel) (by cases hf; rfl) (by decide) (by decide)
  · replace hf := me_in c2 hf
    refine me_aload_n C 0 (Or.inr (Or.inl ⟨_, rfl⟩)) dX11_isSound_10 rfl rfl ?_
    obtain ⟨μ4, r3, h_r3, hf⟩ := me_bs2 hf
    refine me_callV C N  (As := []) (st := []) 0 0 (c_Y_packetsAreSound hB h_r3) mv_Y_packetsAreSound ml_Y_399 rfl rfl dX11_isSound_11 rfl rfl ⟨by decide, by decide⟩ ⟨by decide, by decide, by decide, by decide⟩ (Nat.le_of_ble_eq_true rfl) ?_
    refine me_if_eq C (tgt := 21) dX11_isSound_14 (by decide) (fun c5 => ?_) (fun c5 => ?_)
    · replace hf := me_ip c5 hf
      refine me_iconst C (v := 0) dX11_isSound_21 (by decide) ?_
      exact me_iret C N dX11_isSound_22 (by decide +kernel) (by cases hf; rfl) (by decide) (by decide)
    · replace hf := me_in c5 hf
      refine me_iconst C (v := 1) dX11_isSound_17 (by decide) ?_
      refine me_goto C (tgt := 22) dX11_isSound_18 (by decide) ?_
      exact me_iret C N dX11_isSound_22 (by decide +kernel) (by cases hf; rfl) (by decide) (by decide)
theorem c_Y_isSound {B : me_B} (hB : me_St B) {μ : me_M}  {μ' : me_M} {r : Int32}  (hf : f_Y_isSound μ = some (μ', r)) : ∀ l E z, l.stackTraces = false → me_Met l yX11_isSound cX11_isSound 1 (some .boolean) 5 114 0 0 E B μ z [me_r 0 0] (B, μ', .ok (some (me_i r))) :=
  fun _ _ _ hl => me_ofZ hl (by decide +kernel) (Nat.le_of_ble_eq_true rfl) (fun _ C N hNx => z_Y_isSound C N hNx hB  hf)

def f_M_thrown (μ : me_M) : Option Int32 :=
  some (μ 36 0 42)
set_option maxHeartbeats 4000000 in
set_option maxRecDepth 100000 in
theorem z_M_thrown {X : me_X} {B : me_B} {sz : Nat} (C : me_C X B RX12 cX12_thrown 1 (some .int)) {μ : me_M}    {r : Int32} (N : me_En X B sz (B, μ, .ok (some (me_i r))) 0 0 0 0) (hNx : me_Nx X) (hB : me_St B)   (hf : f_M_thrown μ = some r) : me_Z X B 0 0 μ 0 [(0, me_r 36 0)] [] := by
  unfold f_M_thrown at hf
  refine me_aload_n C 0 (Or.inr (Or.inl ⟨_, rfl⟩)) dX12_thrown_0 rfl rfl ?_
  refine me_geti C 42 fg_M_141 dX12_thrown_1 rfl ?_
  exact me_iret C N dX12_thrown_4 (me_nri _) (by cases hf; rfl) (by decide) (by decide)
theorem c_M_thrown {B : me_B} (hB : me_St B) {μ : me_M}  {r : Int32}  (hf : f_M_thrown μ = some r) : ∀ l E z, l.stackTraces = false → me_Met l yX12_thrown cX12_thrown 1 (some .int) 0 0 0 0 E B μ z [me_r 36 0] (B, μ, .ok (some (me_i r))) :=
  fun _ _ _ hl => me_ofZ hl (by decide +kernel) (Nat.le_of_ble_eq_true rfl) (fun _ C N hNx => z_M_thrown C N hNx hB  hf)

def f_M_isThrown (μ : me_M) (v1 : Int32) (v2 : Int32) : Option (me_M × Int32) :=
  if v1 = 0 then
  (me_lt (me_up μ 36 0 42 (0 : Int32)) (fun μ2 =>
  me_gd (me_nr .boolean v1) (
  some (μ2, v1))))
  else
  (me_lt (me_up μ 36 0 42 v2) (fun μ4 =>
  me_gd (me_nr .boolean v1) (
  some (μ4, v1))))
set_option maxHeartbeats 4000000 in
set_option maxRecDepth 100000 in
theorem z_M_isThrown {X : me_X} {B : me_B} {sz : Nat} (C : me_C X B RX12 cX12_isThrown 3 (some .boolean)) {μ : me_M} {v1 : Int32} {v2 : Int32}   {r : me_M × Int32} (N : me_En X B sz (B, r.1, .ok (some (me_i r.2))) 0 0 0 0) (hNx : me_Nx X) (hB : me_St B)   (hf : f_M_isThrown μ v1 v2 = some r) : me_Z X B 0 0 μ 0 [(0, me_r 36 0), (1, me_i v1), (2, me_i v2)] [] := by
  unfold f_M_isThrown at hf
  refine me_aload_n C 0 (Or.inr (Or.inl ⟨_, rfl⟩)) dX12_isThrown_0 rfl rfl ?_
  refine me_iload_n C 1 dX12_isThrown_1 rfl rfl ?_
  refine me_if_eq C (tgt := 9) dX12_isThrown_2 (by decide) (fun c1 => ?_) (fun c1 => ?_)
  · replace hf := me_ip c1 hf
    refine me_iconst C (v := 0) dX12_isThrown_9 (by decide) ?_
    obtain ⟨μ2, e_μ2, hf⟩ := me_lts hf
    refine me_puti C 42 fw_M_141 dX12_isThrown_10 rfl (me_nri _) e_μ2 ?_
    refine me_iload_n C 1 dX12_isThrown_13 rfl rfl ?_
    obtain ⟨g3, hf⟩ := me_gs hf
    exact me_iret C N dX12_isThrown_14 g3 (by cases hf; rfl) (by decide) (by decide)
  · replace hf := me_in c1 hf
    refine me_iload_n C 2 dX12_isThrown_5 rfl rfl ?_
    refine me_goto C (tgt := 10) dX12_isThrown_6 (by decide) ?_
    obtain ⟨μ4, e_μ4, hf⟩ := me_lts hf
    refine me_puti C 42 fw_M_141 dX12_isThrown_10 rfl (me_nri _) e_μ4 ?_
    refine me_iload_n C 1 dX12_isThrown_13 rfl rfl ?_
    obtain ⟨g5, hf⟩ := me_gs hf
    exact me_iret C N dX12_isThrown_14 g5 (by cases hf; rfl) (by decide) (by decide)
theorem c_M_isThrown {B : me_B} (hB : me_St B) {μ : me_M} {v1 : Int32} {v2 : Int32} {μ' : me_M} {r : Int32}  (hf : f_M_isThrown μ v1 v2 = some (μ', r)) : ∀ l E z, l.stackTraces = false → me_Met l yX12_isThrown cX12_isThrown 3 (some .boolean) 0 0 0 0 E B μ z [me_r 36 0, me_i v1, me_i v2] (B, μ', .ok (some (me_i r))) :=
  fun _ _ _ hl => me_ofZ hl (by decide +kernel) (Nat.le_of_ble_eq_true rfl) (fun _ C N hNx => z_M_isThrown C N hNx hB  hf)

def f_M_isIn (μ : me_M) (v0 : Int32) (v1 : Int32) (v2 : Int32) : Option Int32 :=
  if v0 < v1 then
  (some (0 : Int32))
  else
  (if v2 < v0 then
  (some (0 : Int32))
  else
  (some (1 : Int32)))
set_option maxHeartbeats 4000000 in
set_option maxRecDepth 100000 in
theorem z_M_isIn {X : me_X} {B : me_B} {sz : Nat} (C : me_C X B RX12 cX12_isIn 3 (some .boolean)) {μ : me_M} {v0 : Int32} {v1 : Int32} {v2 : Int32}   {r : Int32} (N : me_En X B sz (B, μ, .ok (some (me_i r))) 0 0 0 0) (hNx : me_Nx X) (hB : me_St B)   (hf : f_M_isIn μ v0 v1 v2 = some r) : me_Z X B 0 0 μ 0 [(0, me_i v0), (1, me_i v1), (2, me_i v2)] [] := by
  unfold f_M_isIn at hf
  refine me_iload_n C 0 dX12_isIn_0 rfl rfl ?_
  refine me_iload_n C 1 dX12_isIn_1 rfl rfl ?_
  refine me_icmp_lt C (tgt := 14) dX12_isIn_2 (by decide) (fun c1 => ?_) (fun c1 => ?_)
  · replace hf := me_ip c1 hf
    refine me_iconst C (v := 0) dX12_isIn_14 (by decide) ?_
    exact me_iret C N dX12_isIn_15 (by decide +kernel) (by cases hf; rfl) (by decide) (by decide)
  · replace hf := me_in c1 hf
    refine me_iload_n C 0 dX12_isIn_5 rfl rfl ?_
    refine me_iload_n C 2 dX12_isIn_6 rfl rfl ?_
    refine me_icmp_gt C (tgt := 14) dX12_isIn_7 (by decide) (fun c2 => ?_) (fun c2 => ?_)
    · replace hf := me_ip c2 hf
      refine me_iconst C (v := 0) dX12_isIn_14 (by decide) ?_
      exact me_iret C N dX12_isIn_15 (by decide +kernel) (by cases hf; rfl) (by decide) (by decide)
    · replace hf := me_in c2 hf
      refine me_iconst C (v := 1) dX12_isIn_10 (by decide) ?_
      refine me_goto C (tgt := 15) dX12_isIn_11 (by decide) ?_
      exact me_iret C N dX12_isIn_15 (by decide +kernel) (by cases hf; rfl) (by decide) (by decide)
theorem c_M_isIn {B : me_B} (hB : me_St B) {μ : me_M} {v0 : Int32} {v1 : Int32} {v2 : Int32} {r : Int32}  (hf : f_M_isIn μ v0 v1 v2 = some r) : ∀ l E z, l.stackTraces = false → me_Met l yX12_isIn cX12_isIn 3 (some .boolean) 0 0 0 0 E B μ z [me_i v0, me_i v1, me_i v2] (B, μ, .ok (some (me_i r))) :=
  fun _ _ _ hl => me_ofZ hl (by decide +kernel) (Nat.le_of_ble_eq_true rfl) (fun _ C N hNx => z_M_isIn C N hNx hB  hf)

def f_M_nodes (μ : me_M) : Option Int32 :=
  some ((μ 36 0 0) * (μ 36 0 1))
set_option maxHeartbeats 4000000 in
set_option maxRecDepth 100000 in
theorem z_M_nodes {X : me_X} {B : me_B} {sz : Nat} (C : me_C X B RX12 cX12_nodes 1 (some .int)) {μ : me_M}    {r : Int32} (N : me_En X B sz (B, μ, .ok (some (me_i r))) 0 0 0 0) (hNx : me_Nx X) (hB : me_St B)   (hf : f_M_nodes μ = some r) : me_Z X B 0 0 μ 0 [(0, me_r 36 0)] [] := by
  unfold f_M_nodes at hf
  refine me_aload_n C 0 (Or.inr (Or.inl ⟨_, rfl⟩)) dX12_nodes_0 rfl rfl ?_
  refine me_geti C 0 fg_M_7 dX12_nodes_1 rfl ?_
  refine me_aload_n C 0 (Or.inr (Or.inl ⟨_, rfl⟩)) dX12_nodes_4 rfl rfl ?_
  refine me_geti C 1 fg_M_13 dX12_nodes_5 rfl ?_
  refine me_imul C dX12_nodes_8 ?_
  exact me_iret C N dX12_nodes_9 (me_nri _) (by cases hf; rfl) (by decide) (by decide)
theorem c_M_nodes {B : me_B} (hB : me_St B) {μ : me_M}  {r : Int32}  (hf : f_M_nodes μ = some r) : ∀ l E z, l.stackTraces = false → me_Met l yX12_nodes cX12_nodes 1 (some .int) 0 0 0 0 E B μ z [me_r 36 0] (B, μ, .ok (some (me_i r))) :=
  fun _ _ _ hl => me_ofZ hl (by decide +kernel) (Nat.le_of_ble_eq_true rfl) (fun _ C N hNx => z_M_nodes C N hNx hB  hf)

def f_M_isNoNode (μ : me_M) (v1 : Int32) : Option Int32 :=
  me_bd (f_M_nodes μ) (fun r1 =>
  me_bd (f_M_isIn μ v1 (0 : Int32) (r1 - (1 : Int32))) (fun r2 =>
  if r2 = 0 then
  (some (1 : Int32))
  else
  (some (0 : Int32))))
set_option maxHeartbeats 4000000 in
set_option maxRecDepth 100000 in
theorem z_M_isNoNode {X : me_X} {B : me_B} {sz : Nat} (C : me_C X B RX12 cX12_isNoNode 2 (some .boolean)) {μ : me_M} {v1 : Int32}   {r : Int32} (N : me_En X B sz (B, μ, .ok (some (me_i r))) 1 22 0 0) (hNx : me_Nx X) (hB : me_St B)   (hf : f_M_isNoNode μ v1 = some r) : me_Z X B 0 0 μ 0 [(0, me_r 36 0), (1, me_i v1)] [] := by
  unfold f_M_isNoNode at hf
  refine me_iload_n C 1 dX12_isNoNode_0 rfl rfl ?_
  refine me_iconst C (v := 0) dX12_isNoNode_1 (by decide) ?_
  refine me_aload_n C 0 (Or.inr (Or.inl ⟨_, rfl⟩)) dX12_isNoNode_2 rfl rfl ?_
  obtain ⟨r1, h_r1, hf⟩ := me_bs hf
  refine me_callV C N  (As := []) (st := [me_i (0 : Int32), me_i v1]) 0 0 (c_M_nodes hB h_r1) mv_M_nodes ml_M_144 rfl rfl dX12_isNoNode_3 rfl rfl ⟨by decide, by decide⟩ ⟨by decide, by decide, by decide, by decide⟩ (Nat.le_of_ble_eq_true rfl) ?_
  refine me_iconst C (v := 1) dX12_isNoNode_6 (by decide) ?_
  refine me_isub C dX12_isNoNode_7 ?_
  obtain ⟨r2, h_r2, hf⟩ := me_bs hf
  refine me_callS C N  (As := [me_i v1, me_i (0 : Int32), me_i (r1 - (1 : Int32))]) (st := []) 0 0 (c_M_isIn hB h_r2) ms_M_isIn ml_M_148 dX12_isNoNode_8 rfl rfl ⟨by decide, by decide⟩ ⟨by decide, by decide, by decide, by decide⟩ (Nat.le_of_ble_eq_true rfl) ?_
  refine me_if_ne C (tgt := 18) dX12_isNoNode_11 (by decide) (fun c3 => ?_) (fun c3 => ?_)
  · replace hf := me_in c3 hf
    refine me_iconst C (v := 0) dX12_isNoNode_18 (by decide) ?_
    exact me_iret C N dX12_isNoNode_19 (by decide +kernel) (by cases hf; rfl) (by decide) (by decide)
  · replace hf := me_ip c3 hf
    refine me_iconst C (v := 1) dX12_isNoNode_14 (by decide) ?_
    refine me_goto C (tgt := 19) dX12_isNoNode_15 (by decide) ?_
    exact me_iret C N dX12_isNoNode_19 (by decide +kernel) (by cases hf; rfl) (by decide) (by decide)
theorem c_M_isNoNode {B : me_B} (hB : me_St B) {μ : me_M} {v1 : Int32} {r : Int32}  (hf : f_M_isNoNode μ v1 = some r) : ∀ l E z, l.stackTraces = false → me_Met l yX12_isNoNode cX12_isNoNode 2 (some .boolean) 1 22 0 0 E B μ z [me_r 36 0, me_i v1] (B, μ, .ok (some (me_i r))) :=
  fun _ _ _ hl => me_ofZ hl (by decide +kernel) (Nat.le_of_ble_eq_true rfl) (fun _ C N hNx => z_M_isNoNode C N hNx hB  hf)

def f_M_isNoPacket_b20 (μ : me_M) (s0 : Int32) : Option (me_M × Int32) :=
  me_b2 (f_M_isThrown μ s0 (1 : Int32)) (fun μ2 r1 =>
  me_gd (me_nr .boolean r1) (
  some (μ2, r1)))
set_option maxHeartbeats 4000000 in
set_option maxRecDepth 100000 in
theorem z_M_isNoPacket_b20 {X : me_X} {B : me_B} {sz : Nat} (C : me_C X B RX12 cX12_isNoPacket 2 (some .boolean)) {μ : me_M} {s0 : Int32}   {r : me_M × Int32} (N : me_En X B sz (B, r.1, .ok (some (me_i r.2))) 1 22 0 0) (hNx : me_Nx X) (hB : me_St B)   (hf : f_M_isNoPacket_b20 μ s0 = some r) : me_Z X B 0 0 μ 20 [] [me_i s0, me_r 36 0] := by
  unfold f_M_isNoPacket_b20 at hf
  refine me_iconst C (v := 1) dX12_isNoPacket_20 (by decide) ?_
  obtain ⟨μ2, r1, h_r1, hf⟩ := me_bs2 hf
  refine me_callV C N  (As := [me_i s0, me_i (1 : Int32)]) (st := []) 0 0 (c_M_isThrown hB h_r1) mv_M_isThrown ml_M_155 rfl rfl dX12_isNoPacket_21 rfl rfl ⟨by decide, by decide⟩ ⟨by decide, by decide, by decide, by decide⟩ (Nat.le_of_ble_eq_true rfl) ?_
  obtain ⟨g3, hf⟩ := me_gs hf
  exact me_iret C N dX12_isNoPacket_24 g3 (by cases hf; rfl) (by decide) (by decide)
def f_M_isNoPacket (μ : me_M) (v1 : Int32) : Option (me_M × Int32) :=
  me_bd (f_M_isIn μ v1 (0 : Int32) ((μ 36 0 19) - (1 : Int32))) (fun r1 =>
  if r1 = 0 then
  (f_M_isNoPacket_b20 μ (1 : Int32))
  else
  (f_M_isNoPacket_b20 μ (0 : Int32)))
set_option maxHeartbeats 4000000 in
set_option maxRecDepth 100000 in
theorem z_M_isNoPacket {X : me_X} {B : me_B} {sz : Nat} (C : me_C X B RX12 cX12_isNoPacket 2 (some .boolean)) {μ : me_M} {v1 : Int32}   {r : me_M × Int32} (N : me_En X B sz (B, r.1, .ok (some (me_i r.2))) 1 22 0 0) (hNx : me_Nx X) (hB : me_St B)   (hf : f_M_isNoPacket μ v1 = some r) : me_Z X B 0 0 μ 0 [(0, me_r 36 0), (1, me_i v1)] [] := by
  unfold f_M_isNoPacket at hf
  refine me_aload_n C 0 (Or.inr (Or.inl ⟨_, rfl⟩)) dX12_isNoPacket_0 rfl rfl ?_
  refine me_iload_n C 1 dX12_isNoPacket_1 rfl rfl ?_
  refine me_iconst C (v := 0) dX12_isNoPacket_2 (by decide) ?_
  refine me_aload_n C 0 (Or.inr (Or.inl ⟨_, rfl⟩)) dX12_isNoPacket_3 rfl rfl ?_
  refine me_geti C 19 fg_M_152 dX12_isNoPacket_4 rfl ?_
  refine me_iconst C (v := 1) dX12_isNoPacket_7 (by decide) ?_
  refine me_isub C dX12_isNoPacket_8 ?_
  obtain ⟨r1, h_r1, hf⟩ := me_bs hf
  refine me_callS C N  (As := [me_i v1, me_i (0 : Int32), me_i ((μ 36 0 19) - (1 : Int32))]) (st := [me_r 36 0]) 0 0 (c_M_isIn hB h_r1) ms_M_isIn ml_M_148 dX12_isNoPacket_9 rfl rfl ⟨by decide, by decide⟩ ⟨by decide, by decide, by decide, by decide⟩ (Nat.le_of_ble_eq_true rfl) ?_
  refine me_if_ne C (tgt := 19) dX12_isNoPacket_12 (by decide) (fun c2 => ?_) (fun c2 => ?_)
  · replace hf := me_in c2 hf
    refine me_iconst C (v := 0) dX12_isNoPacket_19 (by decide) ?_
    refine me_dropI [] [] rfl ?_
    exact z_M_isNoPacket_b20 C N hNx hB hf
  · replace hf := me_ip c2 hf
    refine me_iconst C (v := 1) dX12_isNoPacket_15 (by decide) ?_
    refine me_goto C (tgt := 20) dX12_isNoPacket_16 (by decide) ?_
    refine me_dropI [] [] rfl ?_
    exact z_M_isNoPacket_b20 C N hNx hB hf
theorem c_M_isNoPacket {B : me_B} (hB : me_St B) {μ : me_M} {v1 : Int32} {μ' : me_M} {r : Int32}  (hf : f_M_isNoPacket μ v1 = some (μ', r)) : ∀ l E z, l.stackTraces = false → me_Met l yX12_isNoPacket cX12_isNoPacket 2 (some .boolean) 1 22 0 0 E B μ z [me_r 36 0, me_i v1] (B, μ', .ok (some (me_i r))) :=
  fun _ _ _ hl => me_ofZ hl (by decide +kernel) (Nat.le_of_ble_eq_true rfl) (fun _ C N hNx => z_M_isNoPacket C N hNx hB  hf)
