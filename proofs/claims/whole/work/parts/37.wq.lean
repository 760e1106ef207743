/-! WALKS: M_fault, M_isNoWord, M_memory, M_set, M_top, M_at, M_way, M_places, M_isNoRow, M_row, M_owner, M_fail, M_sleep, M_isAwake -/
theorem dX12_fault_0 : decode cX12_fault 0 = .ok (.aload_n 0, 1) := by decide +kernel
theorem dX12_fault_1 : decode cX12_fault 1 = .ok (.aload_n 0, 1) := by decide +kernel
theorem dX12_fault_2 : decode cX12_fault 2 = .ok (.iload_n 1, 1) := by decide +kernel
theorem dX12_fault_3 : decode cX12_fault 3 = .ok (.invokevirtual 165, 3) := by decide +kernel
theorem dX12_fault_6 : decode cX12_fault 6 = .ok (.iconst 1, 1) := by decide +kernel
theorem dX12_fault_7 : decode cX12_fault 7 = .ok (.invokevirtual 155, 3) := by decide +kernel
theorem dX12_fault_10 : decode cX12_fault 10 = .ok (.ifCond .ne 27, 3) := by decide +kernel
theorem dX12_fault_13 : decode cX12_fault 13 = .ok (.aload_n 0, 1) := by decide +kernel
theorem dX12_fault_14 : decode cX12_fault 14 = .ok (.aload_n 0, 1) := by decide +kernel
theorem dX12_fault_15 : decode cX12_fault 15 = .ok (.getfield 123, 3) := by decide +kernel
theorem dX12_fault_18 : decode cX12_fault 18 = .ok (.iload_n 1, 1) := by decide +kernel
theorem dX12_fault_19 : decode cX12_fault 19 = .ok (.caload, 1) := by decide +kernel
theorem dX12_fault_20 : decode cX12_fault 20 = .ok (.bipush 120, 2) := by decide +kernel
theorem dX12_fault_22 : decode cX12_fault 22 = .ok (.if_icmp .eq 7, 3) := by decide +kernel
theorem dX12_fault_25 : decode cX12_fault 25 = .ok (.iconst 1, 1) := by decide +kernel
theorem dX12_fault_26 : decode cX12_fault 26 = .ok (.goto 4, 3) := by decide +kernel
theorem dX12_fault_29 : decode cX12_fault 29 = .ok (.iconst 0, 1) := by decide +kernel
theorem dX12_fault_30 : decode cX12_fault 30 = .ok (.iconst 2, 1) := by decide +kernel
theorem dX12_fault_31 : decode cX12_fault 31 = .ok (.invokevirtual 155, 3) := by decide +kernel
theorem dX12_fault_34 : decode cX12_fault 34 = .ok (.ifCond .eq 8, 3) := by decide +kernel
theorem dX12_fault_37 : decode cX12_fault 37 = .ok (.bipush 32, 2) := by decide +kernel
theorem dX12_fault_39 : decode cX12_fault 39 = .ok (.goto 9, 3) := by decide +kernel
theorem dX12_fault_42 : decode cX12_fault 42 = .ok (.aload_n 0, 1) := by decide +kernel
theorem dX12_fault_43 : decode cX12_fault 43 = .ok (.getfield 126, 3) := by decide +kernel
theorem dX12_fault_46 : decode cX12_fault 46 = .ok (.iload_n 1, 1) := by decide +kernel
theorem dX12_fault_47 : decode cX12_fault 47 = .ok (.caload, 1) := by decide +kernel
theorem dX12_fault_48 : decode cX12_fault 48 = .ok (.ireturn, 1) := by decide +kernel
theorem dX12_isNoWord_0 : decode cX12_isNoWord 0 = .ok (.aload_n 0, 1) := by decide +kernel
theorem dX12_isNoWord_1 : decode cX12_isNoWord 1 = .ok (.aload_n 0, 1) := by decide +kernel
theorem dX12_isNoWord_2 : decode cX12_isNoWord 2 = .ok (.iload_n 1, 1) := by decide +kernel
theorem dX12_isNoWord_3 : decode cX12_isNoWord 3 = .ok (.invokevirtual 165, 3) := by decide +kernel
theorem dX12_isNoWord_6 : decode cX12_isNoWord 6 = .ok (.iconst 1, 1) := by decide +kernel
theorem dX12_isNoWord_7 : decode cX12_isNoWord 7 = .ok (.invokevirtual 155, 3) := by decide +kernel
theorem dX12_isNoWord_10 : decode cX12_isNoWord 10 = .ok (.ifCond .ne 26, 3) := by decide +kernel
theorem dX12_isNoWord_13 : decode cX12_isNoWord 13 = .ok (.aload_n 0, 1) := by decide +kernel
theorem dX12_isNoWord_14 : decode cX12_isNoWord 14 = .ok (.iload_n 2, 1) := by decide +kernel
theorem dX12_isNoWord_15 : decode cX12_isNoWord 15 = .ok (.iconst 0, 1) := by decide +kernel
theorem dX12_isNoWord_16 : decode cX12_isNoWord 16 = .ok (.bipush 7, 2) := by decide +kernel
theorem dX12_isNoWord_18 : decode cX12_isNoWord 18 = .ok (.invokestatic 148, 3) := by decide +kernel
theorem dX12_isNoWord_21 : decode cX12_isNoWord 21 = .ok (.ifCond .ne 7, 3) := by decide +kernel
theorem dX12_isNoWord_24 : decode cX12_isNoWord 24 = .ok (.iconst 1, 1) := by decide +kernel
theorem dX12_isNoWord_25 : decode cX12_isNoWord 25 = .ok (.goto 4, 3) := by decide +kernel
theorem dX12_isNoWord_28 : decode cX12_isNoWord 28 = .ok (.iconst 0, 1) := by decide +kernel
theorem dX12_isNoWord_29 : decode cX12_isNoWord 29 = .ok (.iconst 2, 1) := by decide +kernel
theorem dX12_isNoWord_30 : decode cX12_isNoWord 30 = .ok (.invokevirtual 155, 3) := by decide +kernel
theorem dX12_isNoWord_33 : decode cX12_isNoWord 33 = .ok (.ifCond .eq 7, 3) := by decide +kernel
theorem dX12_isNoWord_36 : decode cX12_isNoWord 36 = .ok (.iconst 1, 1) := by decide +kernel
theorem dX12_isNoWord_37 : decode cX12_isNoWord 37 = .ok (.goto 4, 3) := by decide +kernel
theorem dX12_isNoWord_40 : decode cX12_isNoWord 40 = .ok (.iconst 0, 1) := by decide +kernel
theorem dX12_isNoWord_41 : decode cX12_isNoWord 41 = .ok (.ireturn, 1) := by decide +kernel
theorem dX12_memory_0 : decode cX12_memory 0 = .ok (.aload_n 0, 1) := by decide +kernel
theorem dX12_memory_1 : decode cX12_memory 1 = .ok (.iload_n 1, 1) := by decide +kernel
theorem dX12_memory_2 : decode cX12_memory 2 = .ok (.iload_n 2, 1) := by decide +kernel
theorem dX12_memory_3 : decode cX12_memory 3 = .ok (.invokevirtual 286, 3) := by decide +kernel
theorem dX12_memory_6 : decode cX12_memory 6 = .ok (.ifCond .eq 7, 3) := by decide +kernel
theorem dX12_memory_9 : decode cX12_memory 9 = .ok (.iconst 0, 1) := by decide +kernel
theorem dX12_memory_10 : decode cX12_memory 10 = .ok (.goto 11, 3) := by decide +kernel
theorem dX12_memory_13 : decode cX12_memory 13 = .ok (.aload_n 0, 1) := by decide +kernel
theorem dX12_memory_14 : decode cX12_memory 14 = .ok (.getfield 103, 3) := by decide +kernel
theorem dX12_memory_17 : decode cX12_memory 17 = .ok (.iload_n 1, 1) := by decide +kernel
theorem dX12_memory_18 : decode cX12_memory 18 = .ok (.aaload, 1) := by decide +kernel
theorem dX12_memory_19 : decode cX12_memory 19 = .ok (.iload_n 2, 1) := by decide +kernel
theorem dX12_memory_20 : decode cX12_memory 20 = .ok (.iaload, 1) := by decide +kernel
theorem dX12_memory_21 : decode cX12_memory 21 = .ok (.ireturn, 1) := by decide +kernel
theorem dX12_set_0 : decode cX12_set 0 = .ok (.aload_n 0, 1) := by decide +kernel
theorem dX12_set_1 : decode cX12_set 1 = .ok (.iload_n 1, 1) := by decide +kernel
theorem dX12_set_2 : decode cX12_set 2 = .ok (.iload_n 2, 1) := by decide +kernel
theorem dX12_set_3 : decode cX12_set 3 = .ok (.invokevirtual 286, 3) := by decide +kernel
theorem dX12_set_6 : decode cX12_set 6 = .ok (.ifCond .eq 5, 3) := by decide +kernel
theorem dX12_set_9 : decode cX12_set 9 = .ok (.iconst 0, 1) := by decide +kernel
theorem dX12_set_10 : decode cX12_set 10 = .ok (.ireturn, 1) := by decide +kernel
theorem dX12_set_11 : decode cX12_set 11 = .ok (.aload_n 0, 1) := by decide +kernel
theorem dX12_set_12 : decode cX12_set 12 = .ok (.getfield 103, 3) := by decide +kernel
theorem dX12_set_15 : decode cX12_set 15 = .ok (.iload_n 1, 1) := by decide +kernel
theorem dX12_set_16 : decode cX12_set 16 = .ok (.aaload, 1) := by decide +kernel
theorem dX12_set_17 : decode cX12_set 17 = .ok (.iload_n 2, 1) := by decide +kernel
theorem dX12_set_18 : decode cX12_set 18 = .ok (.iaload, 1) := by decide +kernel
theorem dX12_set_19 : decode cX12_set 19 = .ok (.istore 4, 2) := by decide +kernel
theorem dX12_set_21 : decode cX12_set 21 = .ok (.aload_n 0, 1) := by decide +kernel
theorem dX12_set_22 : decode cX12_set 22 = .ok (.getfield 103, 3) := by decide +kernel
theorem dX12_set_25 : decode cX12_set 25 = .ok (.iload_n 1, 1) := by decide +kernel
theorem dX12_set_26 : decode cX12_set 26 = .ok (.aaload, 1) := by decide +kernel
theorem dX12_set_27 : decode cX12_set 27 = .ok (.iload_n 2, 1) := by decide +kernel
theorem dX12_set_28 : decode cX12_set 28 = .ok (.iload_n 3, 1) := by decide +kernel
theorem dX12_set_29 : decode cX12_set 29 = .ok (.iastore, 1) := by decide +kernel
theorem dX12_set_30 : decode cX12_set 30 = .ok (.iload 4, 2) := by decide +kernel
theorem dX12_set_32 : decode cX12_set 32 = .ok (.ireturn, 1) := by decide +kernel
theorem dX12_top_0 : decode cX12_top 0 = .ok (.aload_n 0, 1) := by decide +kernel
theorem dX12_top_1 : decode cX12_top 1 = .ok (.aload_n 0, 1) := by decide +kernel
theorem dX12_top_2 : decode cX12_top 2 = .ok (.iload_n 1, 1) := by decide +kernel
theorem dX12_top_3 : decode cX12_top 3 = .ok (.invokevirtual 165, 3) := by decide +kernel
theorem dX12_top_6 : decode cX12_top 6 = .ok (.iconst 1, 1) := by decide +kernel
theorem dX12_top_7 : decode cX12_top 7 = .ok (.invokevirtual 155, 3) := by decide +kernel
theorem dX12_top_10 : decode cX12_top 10 = .ok (.ifCond .ne 25, 3) := by decide +kernel
theorem dX12_top_13 : decode cX12_top 13 = .ok (.aload_n 0, 1) := by decide +kernel
theorem dX12_top_14 : decode cX12_top 14 = .ok (.aload_n 0, 1) := by decide +kernel
theorem dX12_top_15 : decode cX12_top 15 = .ok (.getfield 109, 3) := by decide +kernel
theorem dX12_top_18 : decode cX12_top 18 = .ok (.iload_n 1, 1) := by decide +kernel
theorem dX12_top_19 : decode cX12_top 19 = .ok (.iaload, 1) := by decide +kernel
theorem dX12_top_20 : decode cX12_top 20 = .ok (.ifCond .ne 7, 3) := by decide +kernel
theorem dX12_top_23 : decode cX12_top 23 = .ok (.iconst 1, 1) := by decide +kernel
theorem dX12_top_24 : decode cX12_top 24 = .ok (.goto 4, 3) := by decide +kernel
theorem dX12_top_27 : decode cX12_top 27 = .ok (.iconst 0, 1) := by decide +kernel
theorem dX12_top_28 : decode cX12_top 28 = .ok (.iconst 2, 1) := by decide +kernel
theorem dX12_top_29 : decode cX12_top 29 = .ok (.invokevirtual 155, 3) := by decide +kernel
theorem dX12_top_32 : decode cX12_top 32 = .ok (.ifCond .eq 7, 3) := by decide +kernel
theorem dX12_top_35 : decode cX12_top 35 = .ok (.iconst 0, 1) := by decide +kernel
theorem dX12_top_36 : decode cX12_top 36 = .ok (.goto 18, 3) := by decide +kernel
theorem dX12_top_39 : decode cX12_top 39 = .ok (.aload_n 0, 1) := by decide +kernel
theorem dX12_top_40 : decode cX12_top 40 = .ok (.getfield 106, 3) := by decide +kernel
theorem dX12_top_43 : decode cX12_top 43 = .ok (.iload_n 1, 1) := by decide +kernel
theorem dX12_top_44 : decode cX12_top 44 = .ok (.aaload, 1) := by decide +kernel
theorem dX12_top_45 : decode cX12_top 45 = .ok (.aload_n 0, 1) := by decide +kernel
theorem dX12_top_46 : decode cX12_top 46 = .ok (.getfield 109, 3) := by decide +kernel
theorem dX12_top_49 : decode cX12_top 49 = .ok (.iload_n 1, 1) := by decide +kernel
theorem dX12_top_50 : decode cX12_top 50 = .ok (.iaload, 1) := by decide +kernel
theorem dX12_top_51 : decode cX12_top 51 = .ok (.iconst 1, 1) := by decide +kernel
theorem dX12_top_52 : decode cX12_top 52 = .ok (.isub, 1) := by decide +kernel
theorem dX12_top_53 : decode cX12_top 53 = .ok (.iaload, 1) := by decide +kernel
theorem dX12_top_54 : decode cX12_top 54 = .ok (.ireturn, 1) := by decide +kernel
theorem dX12_at_0 : decode cX12_at 0 = .ok (.aload_n 0, 1) := by decide +kernel
theorem dX12_at_1 : decode cX12_at 1 = .ok (.aload_n 0, 1) := by decide +kernel
theorem dX12_at_2 : decode cX12_at 2 = .ok (.iload_n 1, 1) := by decide +kernel
theorem dX12_at_3 : decode cX12_at 3 = .ok (.invokevirtual 165, 3) := by decide +kernel
theorem dX12_at_6 : decode cX12_at 6 = .ok (.iconst 1, 1) := by decide +kernel
theorem dX12_at_7 : decode cX12_at 7 = .ok (.invokevirtual 155, 3) := by decide +kernel
theorem dX12_at_10 : decode cX12_at 10 = .ok (.ifCond .ne 26, 3) := by decide +kernel
theorem dX12_at_13 : decode cX12_at 13 = .ok (.aload_n 0, 1) := by decide +kernel
theorem dX12_at_14 : decode cX12_at 14 = .ok (.aload_n 0, 1) := by decide +kernel
theorem dX12_at_15 : decode cX12_at 15 = .ok (.getfield 129, 3) := by decide +kernel
theorem dX12_at_18 : decode cX12_at 18 = .ok (.iload_n 1, 1) := by decide +kernel
theorem dX12_at_19 : decode cX12_at 19 = .ok (.iaload, 1) := by decide +kernel
theorem dX12_at_20 : decode cX12_at 20 = .ok (.iconst (-1), 1) := by decide +kernel
theorem dX12_at_21 : decode cX12_at 21 = .ok (.if_icmp .ne 7, 3) := by decide +kernel
theorem dX12_at_24 : decode cX12_at 24 = .ok (.iconst 1, 1) := by decide +kernel
theorem dX12_at_25 : decode cX12_at 25 = .ok (.goto 4, 3) := by decide +kernel
theorem dX12_at_28 : decode cX12_at 28 = .ok (.iconst 0, 1) := by decide +kernel
theorem dX12_at_29 : decode cX12_at 29 = .ok (.iconst 2, 1) := by decide +kernel
theorem dX12_at_30 : decode cX12_at 30 = .ok (.invokevirtual 155, 3) := by decide +kernel
theorem dX12_at_33 : decode cX12_at 33 = .ok (.ifCond .eq 7, 3) := by decide +kernel
theorem dX12_at_36 : decode cX12_at 36 = .ok (.iconst 0, 1) := by decide +kernel
theorem dX12_at_37 : decode cX12_at 37 = .ok (.goto 9, 3) := by decide +kernel
theorem dX12_at_40 : decode cX12_at 40 = .ok (.aload_n 0, 1) := by decide +kernel
theorem dX12_at_41 : decode cX12_at 41 = .ok (.getfield 129, 3) := by decide +kernel
theorem dX12_at_44 : decode cX12_at 44 = .ok (.iload_n 1, 1) := by decide +kernel
theorem dX12_at_45 : decode cX12_at 45 = .ok (.iaload, 1) := by decide +kernel
theorem dX12_at_46 : decode cX12_at 46 = .ok (.ireturn, 1) := by decide +kernel
theorem dX12_way_0 : decode cX12_way 0 = .ok (.aload_n 0, 1) := by decide +kernel
theorem dX12_way_1 : decode cX12_way 1 = .ok (.iload_n 1, 1) := by decide +kernel
theorem dX12_way_2 : decode cX12_way 2 = .ok (.bipush 120, 2) := by decide +kernel
theorem dX12_way_4 : decode cX12_way 4 = .ok (.if_icmp .eq 19, 3) := by decide +kernel
theorem dX12_way_7 : decode cX12_way 7 = .ok (.iload_n 1, 1) := by decide +kernel
theorem dX12_way_8 : decode cX12_way 8 = .ok (.bipush 121, 2) := by decide +kernel
theorem dX12_way_10 : decode cX12_way 10 = .ok (.if_icmp .eq 13, 3) := by decide +kernel
theorem dX12_way_13 : decode cX12_way 13 = .ok (.iload_n 1, 1) := by decide +kernel
theorem dX12_way_14 : decode cX12_way 14 = .ok (.bipush 116, 2) := by decide +kernel
theorem dX12_way_16 : decode cX12_way 16 = .ok (.if_icmp .eq 7, 3) := by decide +kernel
theorem dX12_way_19 : decode cX12_way 19 = .ok (.iconst 1, 1) := by decide +kernel
theorem dX12_way_20 : decode cX12_way 20 = .ok (.goto 4, 3) := by decide +kernel
theorem dX12_way_23 : decode cX12_way 23 = .ok (.iconst 0, 1) := by decide +kernel
theorem dX12_way_24 : decode cX12_way 24 = .ok (.iconst 1, 1) := by decide +kernel
theorem dX12_way_25 : decode cX12_way 25 = .ok (.invokevirtual 155, 3) := by decide +kernel
theorem dX12_way_28 : decode cX12_way 28 = .ok (.ifCond .eq 6, 3) := by decide +kernel
theorem dX12_way_31 : decode cX12_way 31 = .ok (.bipush 32, 2) := by decide +kernel
theorem dX12_way_33 : decode cX12_way 33 = .ok (.ireturn, 1) := by decide +kernel
theorem dX12_way_34 : decode cX12_way 34 = .ok (.aload_n 0, 1) := by decide +kernel
theorem dX12_way_35 : decode cX12_way 35 = .ok (.getfield 19, 3) := by decide +kernel
theorem dX12_way_38 : decode cX12_way 38 = .ok (.istore_n 2, 1) := by decide +kernel
theorem dX12_way_39 : decode cX12_way 39 = .ok (.aload_n 0, 1) := by decide +kernel
theorem dX12_way_40 : decode cX12_way 40 = .ok (.iload_n 1, 1) := by decide +kernel
theorem dX12_way_41 : decode cX12_way 41 = .ok (.putfield 19, 3) := by decide +kernel
theorem dX12_way_44 : decode cX12_way 44 = .ok (.iload_n 2, 1) := by decide +kernel
theorem dX12_way_45 : decode cX12_way 45 = .ok (.ireturn, 1) := by decide +kernel
theorem dX12_places_0 : decode cX12_places 0 = .ok (.aload_n 0, 1) := by decide +kernel
theorem dX12_places_1 : decode cX12_places 1 = .ok (.iload_n 1, 1) := by decide +kernel
theorem dX12_places_2 : decode cX12_places 2 = .ok (.iconst 1, 1) := by decide +kernel
theorem dX12_places_3 : decode cX12_places 3 = .ok (.iconst 4, 1) := by decide +kernel
theorem dX12_places_4 : decode cX12_places 4 = .ok (.invokestatic 148, 3) := by decide +kernel
theorem dX12_places_7 : decode cX12_places 7 = .ok (.ifCond .ne 7, 3) := by decide +kernel
theorem dX12_places_10 : decode cX12_places 10 = .ok (.iconst 1, 1) := by decide +kernel
theorem dX12_places_11 : decode cX12_places 11 = .ok (.goto 4, 3) := by decide +kernel
theorem dX12_places_14 : decode cX12_places 14 = .ok (.iconst 0, 1) := by decide +kernel
theorem dX12_places_15 : decode cX12_places 15 = .ok (.iconst 1, 1) := by decide +kernel
theorem dX12_places_16 : decode cX12_places 16 = .ok (.invokevirtual 155, 3) := by decide +kernel
theorem dX12_places_19 : decode cX12_places 19 = .ok (.ifCond .eq 5, 3) := by decide +kernel
theorem dX12_places_22 : decode cX12_places 22 = .ok (.iconst 0, 1) := by decide +kernel
theorem dX12_places_23 : decode cX12_places 23 = .ok (.ireturn, 1) := by decide +kernel
theorem dX12_places_24 : decode cX12_places 24 = .ok (.aload_n 0, 1) := by decide +kernel
theorem dX12_places_25 : decode cX12_places 25 = .ok (.getfield 16, 3) := by decide +kernel
theorem dX12_places_28 : decode cX12_places 28 = .ok (.istore_n 2, 1) := by decide +kernel
theorem dX12_places_29 : decode cX12_places 29 = .ok (.aload_n 0, 1) := by decide +kernel
theorem dX12_places_30 : decode cX12_places 30 = .ok (.iload_n 1, 1) := by decide +kernel
theorem dX12_places_31 : decode cX12_places 31 = .ok (.putfield 16, 3) := by decide +kernel
theorem dX12_places_34 : decode cX12_places 34 = .ok (.iload_n 2, 1) := by decide +kernel
theorem dX12_places_35 : decode cX12_places 35 = .ok (.ireturn, 1) := by decide +kernel
theorem dX12_isNoRow_0 : decode cX12_isNoRow 0 = .ok (.ldc_w 289, 3) := by decide +kernel
theorem dX12_isNoRow_3 : decode cX12_isNoRow 3 = .ok (.iload_n 2, 1) := by decide +kernel
theorem dX12_isNoRow_4 : decode cX12_isNoRow 4 = .ok (.invokevirtual 278, 3) := by decide +kernel
theorem dX12_isNoRow_7 : decode cX12_isNoRow 7 = .ok (.istore 5, 2) := by decide +kernel
theorem dX12_isNoRow_9 : decode cX12_isNoRow 9 = .ok (.aload_n 0, 1) := by decide +kernel
theorem dX12_isNoRow_10 : decode cX12_isNoRow 10 = .ok (.aload_n 0, 1) := by decide +kernel
theorem dX12_isNoRow_11 : decode cX12_isNoRow 11 = .ok (.iload_n 1, 1) := by decide +kernel
theorem dX12_isNoRow_12 : decode cX12_isNoRow 12 = .ok (.invokevirtual 165, 3) := by decide +kernel
theorem dX12_isNoRow_15 : decode cX12_isNoRow 15 = .ok (.iconst 1, 1) := by decide +kernel
theorem dX12_isNoRow_16 : decode cX12_isNoRow 16 = .ok (.invokevirtual 155, 3) := by decide +kernel
theorem dX12_isNoRow_19 : decode cX12_isNoRow 19 = .ok (.ifCond .ne 38, 3) := by decide +kernel
theorem dX12_isNoRow_22 : decode cX12_isNoRow 22 = .ok (.aload_n 0, 1) := by decide +kernel
theorem dX12_isNoRow_23 : decode cX12_isNoRow 23 = .ok (.iload 5, 2) := by decide +kernel
theorem dX12_isNoRow_25 : decode cX12_isNoRow 25 = .ok (.iconst 0, 1) := by decide +kernel
theorem dX12_isNoRow_26 : decode cX12_isNoRow 26 = .ok (.iload 4, 2) := by decide +kernel
theorem dX12_isNoRow_28 : decode cX12_isNoRow 28 = .ok (.iconst 1, 1) := by decide +kernel
theorem dX12_isNoRow_29 : decode cX12_isNoRow 29 = .ok (.isub, 1) := by decide +kernel
theorem dX12_isNoRow_30 : decode cX12_isNoRow 30 = .ok (.invokestatic 148, 3) := by decide +kernel
theorem dX12_isNoRow_33 : decode cX12_isNoRow 33 = .ok (.ifCond .eq 12, 3) := by decide +kernel
theorem dX12_isNoRow_36 : decode cX12_isNoRow 36 = .ok (.iload_n 3, 1) := by decide +kernel
theorem dX12_isNoRow_37 : decode cX12_isNoRow 37 = .ok (.iconst 0, 1) := by decide +kernel
theorem dX12_isNoRow_38 : decode cX12_isNoRow 38 = .ok (.iconst 1, 1) := by decide +kernel
theorem dX12_isNoRow_39 : decode cX12_isNoRow 39 = .ok (.invokestatic 148, 3) := by decide +kernel
theorem dX12_isNoRow_42 : decode cX12_isNoRow 42 = .ok (.ifCond .ne 7, 3) := by decide +kernel
theorem dX12_isNoRow_45 : decode cX12_isNoRow 45 = .ok (.iconst 1, 1) := by decide +kernel
theorem dX12_isNoRow_46 : decode cX12_isNoRow 46 = .ok (.goto 4, 3) := by decide +kernel
theorem dX12_isNoRow_49 : decode cX12_isNoRow 49 = .ok (.iconst 0, 1) := by decide +kernel
theorem dX12_isNoRow_50 : decode cX12_isNoRow 50 = .ok (.iconst 2, 1) := by decide +kernel
theorem dX12_isNoRow_51 : decode cX12_isNoRow 51 = .ok (.invokevirtual 155, 3) := by decide +kernel
theorem dX12_isNoRow_54 : decode cX12_isNoRow 54 = .ok (.ifCond .eq 7, 3) := by decide +kernel
theorem dX12_isNoRow_57 : decode cX12_isNoRow 57 = .ok (.iconst 1, 1) := by decide +kernel
theorem dX12_isNoRow_58 : decode cX12_isNoRow 58 = .ok (.goto 4, 3) := by decide +kernel
theorem dX12_isNoRow_61 : decode cX12_isNoRow 61 = .ok (.iconst 0, 1) := by decide +kernel
theorem dX12_isNoRow_62 : decode cX12_isNoRow 62 = .ok (.ireturn, 1) := by decide +kernel
theorem dX12_row_0 : decode cX12_row 0 = .ok (.aload_n 0, 1) := by decide +kernel
theorem dX12_row_1 : decode cX12_row 1 = .ok (.iload_n 1, 1) := by decide +kernel
theorem dX12_row_2 : decode cX12_row 2 = .ok (.iload_n 2, 1) := by decide +kernel
theorem dX12_row_3 : decode cX12_row 3 = .ok (.iload_n 3, 1) := by decide +kernel
theorem dX12_row_4 : decode cX12_row 4 = .ok (.iconst 5, 1) := by decide +kernel
theorem dX12_row_5 : decode cX12_row 5 = .ok (.invokevirtual 291, 3) := by decide +kernel
theorem dX12_row_8 : decode cX12_row 8 = .ok (.ifCond .eq 7, 3) := by decide +kernel
theorem dX12_row_11 : decode cX12_row 11 = .ok (.iconst 0, 1) := by decide +kernel
theorem dX12_row_12 : decode cX12_row 12 = .ok (.goto 19, 3) := by decide +kernel
theorem dX12_row_15 : decode cX12_row 15 = .ok (.aload_n 0, 1) := by decide +kernel
theorem dX12_row_16 : decode cX12_row 16 = .ok (.getfield 75, 3) := by decide +kernel
theorem dX12_row_19 : decode cX12_row 19 = .ok (.iload_n 1, 1) := by decide +kernel
theorem dX12_row_20 : decode cX12_row 20 = .ok (.aaload, 1) := by decide +kernel
theorem dX12_row_21 : decode cX12_row 21 = .ok (.iload_n 3, 1) := by decide +kernel
theorem dX12_row_22 : decode cX12_row 22 = .ok (.aaload, 1) := by decide +kernel
theorem dX12_row_23 : decode cX12_row 23 = .ok (.ldc_w 289, 3) := by decide +kernel
theorem dX12_row_26 : decode cX12_row 26 = .ok (.iload_n 2, 1) := by decide +kernel
theorem dX12_row_27 : decode cX12_row 27 = .ok (.invokevirtual 278, 3) := by decide +kernel
theorem dX12_row_30 : decode cX12_row 30 = .ok (.iaload, 1) := by decide +kernel
theorem dX12_row_31 : decode cX12_row 31 = .ok (.ireturn, 1) := by decide +kernel
theorem dX12_owner_0 : decode cX12_owner 0 = .ok (.aload_n 0, 1) := by decide +kernel
theorem dX12_owner_1 : decode cX12_owner 1 = .ok (.iload_n 1, 1) := by decide +kernel
theorem dX12_owner_2 : decode cX12_owner 2 = .ok (.iload_n 2, 1) := by decide +kernel
theorem dX12_owner_3 : decode cX12_owner 3 = .ok (.iload_n 3, 1) := by decide +kernel
theorem dX12_owner_4 : decode cX12_owner 4 = .ok (.iconst 4, 1) := by decide +kernel
theorem dX12_owner_5 : decode cX12_owner 5 = .ok (.invokevirtual 291, 3) := by decide +kernel
theorem dX12_owner_8 : decode cX12_owner 8 = .ok (.ifCond .eq 7, 3) := by decide +kernel
theorem dX12_owner_11 : decode cX12_owner 11 = .ok (.iconst 0, 1) := by decide +kernel
theorem dX12_owner_12 : decode cX12_owner 12 = .ok (.goto 19, 3) := by decide +kernel
theorem dX12_owner_15 : decode cX12_owner 15 = .ok (.aload_n 0, 1) := by decide +kernel
theorem dX12_owner_16 : decode cX12_owner 16 = .ok (.getfield 78, 3) := by decide +kernel
theorem dX12_owner_19 : decode cX12_owner 19 = .ok (.iload_n 1, 1) := by decide +kernel
theorem dX12_owner_20 : decode cX12_owner 20 = .ok (.aaload, 1) := by decide +kernel
theorem dX12_owner_21 : decode cX12_owner 21 = .ok (.iload_n 3, 1) := by decide +kernel
theorem dX12_owner_22 : decode cX12_owner 22 = .ok (.aaload, 1) := by decide +kernel
theorem dX12_owner_23 : decode cX12_owner 23 = .ok (.ldc_w 289, 3) := by decide +kernel
theorem dX12_owner_26 : decode cX12_owner 26 = .ok (.iload_n 2, 1) := by decide +kernel
theorem dX12_owner_27 : decode cX12_owner 27 = .ok (.invokevirtual 278, 3) := by decide +kernel
theorem dX12_owner_30 : decode cX12_owner 30 = .ok (.iaload, 1) := by decide +kernel
theorem dX12_owner_31 : decode cX12_owner 31 = .ok (.ireturn, 1) := by decide +kernel
theorem dX12_fail_0 : decode cX12_fail 0 = .ok (.ldc_w 289, 3) := by decide +kernel
theorem dX12_fail_3 : decode cX12_fail 3 = .ok (.iload_n 2, 1) := by decide +kernel
theorem dX12_fail_4 : decode cX12_fail 4 = .ok (.invokevirtual 278, 3) := by decide +kernel
theorem dX12_fail_7 : decode cX12_fail 7 = .ok (.istore 4, 2) := by decide +kernel
theorem dX12_fail_9 : decode cX12_fail 9 = .ok (.aload_n 0, 1) := by decide +kernel
theorem dX12_fail_10 : decode cX12_fail 10 = .ok (.aload_n 0, 1) := by decide +kernel
theorem dX12_fail_11 : decode cX12_fail 11 = .ok (.iload_n 1, 1) := by decide +kernel
theorem dX12_fail_12 : decode cX12_fail 12 = .ok (.invokevirtual 165, 3) := by decide +kernel
theorem dX12_fail_15 : decode cX12_fail 15 = .ok (.iconst 1, 1) := by decide +kernel
theorem dX12_fail_16 : decode cX12_fail 16 = .ok (.invokevirtual 155, 3) := by decide +kernel
theorem dX12_fail_19 : decode cX12_fail 19 = .ok (.ifCond .ne 50, 3) := by decide +kernel
theorem dX12_fail_22 : decode cX12_fail 22 = .ok (.aload_n 0, 1) := by decide +kernel
theorem dX12_fail_23 : decode cX12_fail 23 = .ok (.iload 4, 2) := by decide +kernel
theorem dX12_fail_25 : decode cX12_fail 25 = .ok (.iconst 0, 1) := by decide +kernel
theorem dX12_fail_26 : decode cX12_fail 26 = .ok (.iconst 3, 1) := by decide +kernel
theorem dX12_fail_27 : decode cX12_fail 27 = .ok (.invokestatic 148, 3) := by decide +kernel
theorem dX12_fail_30 : decode cX12_fail 30 = .ok (.ifCond .ne 7, 3) := by decide +kernel
theorem dX12_fail_33 : decode cX12_fail 33 = .ok (.iconst 1, 1) := by decide +kernel
theorem dX12_fail_34 : decode cX12_fail 34 = .ok (.goto 4, 3) := by decide +kernel
theorem dX12_fail_37 : decode cX12_fail 37 = .ok (.iconst 0, 1) := by decide +kernel
theorem dX12_fail_38 : decode cX12_fail 38 = .ok (.iconst 2, 1) := by decide +kernel
theorem dX12_fail_39 : decode cX12_fail 39 = .ok (.invokevirtual 155, 3) := by decide +kernel
theorem dX12_fail_42 : decode cX12_fail 42 = .ok (.ifCond .ne 27, 3) := by decide +kernel
theorem dX12_fail_45 : decode cX12_fail 45 = .ok (.aload_n 0, 1) := by decide +kernel
theorem dX12_fail_46 : decode cX12_fail 46 = .ok (.aload_n 0, 1) := by decide +kernel
theorem dX12_fail_47 : decode cX12_fail 47 = .ok (.iload_n 1, 1) := by decide +kernel
theorem dX12_fail_48 : decode cX12_fail 48 = .ok (.iload 4, 2) := by decide +kernel
theorem dX12_fail_50 : decode cX12_fail 50 = .ok (.invokevirtual 199, 3) := by decide +kernel
theorem dX12_fail_53 : decode cX12_fail 53 = .ok (.iconst (-1), 1) := by decide +kernel
theorem dX12_fail_54 : decode cX12_fail 54 = .ok (.if_icmp .ne 7, 3) := by decide +kernel
theorem dX12_fail_57 : decode cX12_fail 57 = .ok (.iconst 1, 1) := by decide +kernel
theorem dX12_fail_58 : decode cX12_fail 58 = .ok (.goto 4, 3) := by decide +kernel
theorem dX12_fail_61 : decode cX12_fail 61 = .ok (.iconst 0, 1) := by decide +kernel
theorem dX12_fail_62 : decode cX12_fail 62 = .ok (.iconst 3, 1) := by decide +kernel
theorem dX12_fail_63 : decode cX12_fail 63 = .ok (.invokevirtual 155, 3) := by decide +kernel
theorem dX12_fail_66 : decode cX12_fail 66 = .ok (.ifCond .eq 5, 3) := by decide +kernel
theorem dX12_fail_69 : decode cX12_fail 69 = .ok (.iconst 0, 1) := by decide +kernel
theorem dX12_fail_70 : decode cX12_fail 70 = .ok (.ireturn, 1) := by decide +kernel
theorem dX12_fail_71 : decode cX12_fail 71 = .ok (.aload_n 0, 1) := by decide +kernel
theorem dX12_fail_72 : decode cX12_fail 72 = .ok (.getfield 92, 3) := by decide +kernel
theorem dX12_fail_75 : decode cX12_fail 75 = .ok (.iload_n 1, 1) := by decide +kernel
theorem dX12_fail_76 : decode cX12_fail 76 = .ok (.aaload, 1) := by decide +kernel
theorem dX12_fail_77 : decode cX12_fail 77 = .ok (.iload 4, 2) := by decide +kernel
theorem dX12_fail_79 : decode cX12_fail 79 = .ok (.baload, 1) := by decide +kernel
theorem dX12_fail_80 : decode cX12_fail 80 = .ok (.istore 5, 2) := by decide +kernel
theorem dX12_fail_82 : decode cX12_fail 82 = .ok (.aload_n 0, 1) := by decide +kernel
theorem dX12_fail_83 : decode cX12_fail 83 = .ok (.getfield 92, 3) := by decide +kernel
theorem dX12_fail_86 : decode cX12_fail 86 = .ok (.iload_n 1, 1) := by decide +kernel
theorem dX12_fail_87 : decode cX12_fail 87 = .ok (.aaload, 1) := by decide +kernel
theorem dX12_fail_88 : decode cX12_fail 88 = .ok (.iload 4, 2) := by decide +kernel
theorem dX12_fail_90 : decode cX12_fail 90 = .ok (.iload_n 3, 1) := by decide +kernel
theorem dX12_fail_91 : decode cX12_fail 91 = .ok (.bastore, 1) := by decide +kernel
theorem dX12_fail_92 : decode cX12_fail 92 = .ok (.aload_n 0, 1) := by decide +kernel
theorem dX12_fail_93 : decode cX12_fail 93 = .ok (.getfield 92, 3) := by decide +kernel
theorem dX12_fail_96 : decode cX12_fail 96 = .ok (.aload_n 0, 1) := by decide +kernel
theorem dX12_fail_97 : decode cX12_fail 97 = .ok (.iload_n 1, 1) := by decide +kernel
theorem dX12_fail_98 : decode cX12_fail 98 = .ok (.iload 4, 2) := by decide +kernel
theorem dX12_fail_100 : decode cX12_fail 100 = .ok (.invokevirtual 199, 3) := by decide +kernel
theorem dX12_fail_103 : decode cX12_fail 103 = .ok (.aaload, 1) := by decide +kernel
theorem dX12_fail_104 : decode cX12_fail 104 = .ok (.getstatic 202, 3) := by decide +kernel
theorem dX12_fail_107 : decode cX12_fail 107 = .ok (.iload 4, 2) := by decide +kernel
theorem dX12_fail_109 : decode cX12_fail 109 = .ok (.iaload, 1) := by decide +kernel
theorem dX12_fail_110 : decode cX12_fail 110 = .ok (.iload_n 3, 1) := by decide +kernel
theorem dX12_fail_111 : decode cX12_fail 111 = .ok (.bastore, 1) := by decide +kernel
theorem dX12_fail_112 : decode cX12_fail 112 = .ok (.iload 5, 2) := by decide +kernel
theorem dX12_fail_114 : decode cX12_fail 114 = .ok (.ireturn, 1) := by decide +kernel
theorem dX12_sleep_0 : decode cX12_sleep 0 = .ok (.aload_n 0, 1) := by decide +kernel
theorem dX12_sleep_1 : decode cX12_sleep 1 = .ok (.aload_n 0, 1) := by decide +kernel
theorem dX12_sleep_2 : decode cX12_sleep 2 = .ok (.iload_n 1, 1) := by decide +kernel
theorem dX12_sleep_3 : decode cX12_sleep 3 = .ok (.invokevirtual 165, 3) := by decide +kernel
theorem dX12_sleep_6 : decode cX12_sleep 6 = .ok (.iconst 1, 1) := by decide +kernel
theorem dX12_sleep_7 : decode cX12_sleep 7 = .ok (.invokevirtual 155, 3) := by decide +kernel
theorem dX12_sleep_10 : decode cX12_sleep 10 = .ok (.ifCond .eq 5, 3) := by decide +kernel
theorem dX12_sleep_13 : decode cX12_sleep 13 = .ok (.iconst 0, 1) := by decide +kernel
theorem dX12_sleep_14 : decode cX12_sleep 14 = .ok (.ireturn, 1) := by decide +kernel
theorem dX12_sleep_15 : decode cX12_sleep 15 = .ok (.aload_n 0, 1) := by decide +kernel
theorem dX12_sleep_16 : decode cX12_sleep 16 = .ok (.iload_n 1, 1) := by decide +kernel
theorem dX12_sleep_17 : decode cX12_sleep 17 = .ok (.invokevirtual 283, 3) := by decide +kernel
theorem dX12_sleep_20 : decode cX12_sleep 20 = .ok (.ifCond .ne 7, 3) := by decide +kernel
theorem dX12_sleep_23 : decode cX12_sleep 23 = .ok (.iconst 1, 1) := by decide +kernel
theorem dX12_sleep_24 : decode cX12_sleep 24 = .ok (.goto 4, 3) := by decide +kernel
theorem dX12_sleep_27 : decode cX12_sleep 27 = .ok (.iconst 0, 1) := by decide +kernel
theorem dX12_sleep_28 : decode cX12_sleep 28 = .ok (.istore_n 2, 1) := by decide +kernel
theorem dX12_sleep_29 : decode cX12_sleep 29 = .ok (.iconst 0, 1) := by decide +kernel
theorem dX12_sleep_30 : decode cX12_sleep 30 = .ok (.istore_n 3, 1) := by decide +kernel
theorem dX12_sleep_31 : decode cX12_sleep 31 = .ok (.iload_n 3, 1) := by decide +kernel
theorem dX12_sleep_32 : decode cX12_sleep 32 = .ok (.iconst 2, 1) := by decide +kernel
theorem dX12_sleep_33 : decode cX12_sleep 33 = .ok (.if_icmp .ge 61, 3) := by decide +kernel
theorem dX12_sleep_36 : decode cX12_sleep 36 = .ok (.iconst 0, 1) := by decide +kernel
theorem dX12_sleep_37 : decode cX12_sleep 37 = .ok (.istore 4, 2) := by decide +kernel
theorem dX12_sleep_39 : decode cX12_sleep 39 = .ok (.iload 4, 2) := by decide +kernel
theorem dX12_sleep_41 : decode cX12_sleep 41 = .ok (.iconst 5, 1) := by decide +kernel
theorem dX12_sleep_42 : decode cX12_sleep 42 = .ok (.if_icmp .ge 46, 3) := by decide +kernel
theorem dX12_sleep_45 : decode cX12_sleep 45 = .ok (.iload_n 2, 1) := by decide +kernel
theorem dX12_sleep_46 : decode cX12_sleep 46 = .ok (.aload_n 0, 1) := by decide +kernel
theorem dX12_sleep_47 : decode cX12_sleep 47 = .ok (.getfield 75, 3) := by decide +kernel
theorem dX12_sleep_50 : decode cX12_sleep 50 = .ok (.iload_n 1, 1) := by decide +kernel
theorem dX12_sleep_51 : decode cX12_sleep 51 = .ok (.aaload, 1) := by decide +kernel
theorem dX12_sleep_52 : decode cX12_sleep 52 = .ok (.iload_n 3, 1) := by decide +kernel
theorem dX12_sleep_53 : decode cX12_sleep 53 = .ok (.aaload, 1) := by decide +kernel
theorem dX12_sleep_54 : decode cX12_sleep 54 = .ok (.iload 4, 2) := by decide +kernel
theorem dX12_sleep_56 : decode cX12_sleep 56 = .ok (.iaload, 1) := by decide +kernel
theorem dX12_sleep_57 : decode cX12_sleep 57 = .ok (.ifCond .ne 22, 3) := by decide +kernel
theorem dX12_sleep_60 : decode cX12_sleep 60 = .ok (.aload_n 0, 1) := by decide +kernel
theorem dX12_sleep_61 : decode cX12_sleep 61 = .ok (.getfield 78, 3) := by decide +kernel
theorem dX12_sleep_64 : decode cX12_sleep 64 = .ok (.iload_n 1, 1) := by decide +kernel
theorem dX12_sleep_65 : decode cX12_sleep 65 = .ok (.aaload, 1) := by decide +kernel
theorem dX12_sleep_66 : decode cX12_sleep 66 = .ok (.iload_n 3, 1) := by decide +kernel
theorem dX12_sleep_67 : decode cX12_sleep 67 = .ok (.aaload, 1) := by decide +kernel
theorem dX12_sleep_68 : decode cX12_sleep 68 = .ok (.iload 4, 2) := by decide +kernel
theorem dX12_sleep_70 : decode cX12_sleep 70 = .ok (.iaload, 1) := by decide +kernel
theorem dX12_sleep_71 : decode cX12_sleep 71 = .ok (.iconst (-1), 1) := by decide +kernel
theorem dX12_sleep_72 : decode cX12_sleep 72 = .ok (.if_icmp .ne 7, 3) := by decide +kernel
theorem dX12_sleep_75 : decode cX12_sleep 75 = .ok (.iconst 1, 1) := by decide +kernel
theorem dX12_sleep_76 : decode cX12_sleep 76 = .ok (.goto 4, 3) := by decide +kernel
theorem dX12_sleep_79 : decode cX12_sleep 79 = .ok (.iconst 0, 1) := by decide +kernel
theorem dX12_sleep_80 : decode cX12_sleep 80 = .ok (.iand, 1) := by decide +kernel
theorem dX12_sleep_81 : decode cX12_sleep 81 = .ok (.istore_n 2, 1) := by decide +kernel
theorem dX12_sleep_82 : decode cX12_sleep 82 = .ok (.iinc 4 1, 3) := by decide +kernel
theorem dX12_sleep_85 : decode cX12_sleep 85 = .ok (.goto (-46), 3) := by decide +kernel
theorem dX12_sleep_88 : decode cX12_sleep 88 = .ok (.iinc 3 1, 3) := by decide +kernel
theorem dX12_sleep_91 : decode cX12_sleep 91 = .ok (.goto (-60), 3) := by decide +kernel
theorem dX12_sleep_94 : decode cX12_sleep 94 = .ok (.aload_n 0, 1) := by decide +kernel
theorem dX12_sleep_95 : decode cX12_sleep 95 = .ok (.iload_n 2, 1) := by decide +kernel
theorem dX12_sleep_96 : decode cX12_sleep 96 = .ok (.ifCond .ne 7, 3) := by decide +kernel
theorem dX12_sleep_99 : decode cX12_sleep 99 = .ok (.iconst 1, 1) := by decide +kernel
theorem dX12_sleep_100 : decode cX12_sleep 100 = .ok (.goto 4, 3) := by decide +kernel
theorem dX12_sleep_103 : decode cX12_sleep 103 = .ok (.iconst 0, 1) := by decide +kernel
theorem dX12_sleep_104 : decode cX12_sleep 104 = .ok (.iconst 2, 1) := by decide +kernel
theorem dX12_sleep_105 : decode cX12_sleep 105 = .ok (.invokevirtual 155, 3) := by decide +kernel
theorem dX12_sleep_108 : decode cX12_sleep 108 = .ok (.ifCond .eq 5, 3) := by decide +kernel
theorem dX12_sleep_111 : decode cX12_sleep 111 = .ok (.iconst 0, 1) := by decide +kernel
theorem dX12_sleep_112 : decode cX12_sleep 112 = .ok (.ireturn, 1) := by decide +kernel
theorem dX12_sleep_113 : decode cX12_sleep 113 = .ok (.aload_n 0, 1) := by decide +kernel
theorem dX12_sleep_114 : decode cX12_sleep 114 = .ok (.getfield 95, 3) := by decide +kernel
theorem dX12_sleep_117 : decode cX12_sleep 117 = .ok (.iload_n 1, 1) := by decide +kernel
theorem dX12_sleep_118 : decode cX12_sleep 118 = .ok (.baload, 1) := by decide +kernel
theorem dX12_sleep_119 : decode cX12_sleep 119 = .ok (.ifCond .ne 7, 3) := by decide +kernel
theorem dX12_sleep_122 : decode cX12_sleep 122 = .ok (.iconst 1, 1) := by decide +kernel
theorem dX12_sleep_123 : decode cX12_sleep 123 = .ok (.goto 4, 3) := by decide +kernel
theorem dX12_sleep_126 : decode cX12_sleep 126 = .ok (.iconst 0, 1) := by decide +kernel
theorem dX12_sleep_127 : decode cX12_sleep 127 = .ok (.istore_n 3, 1) := by decide +kernel
theorem dX12_sleep_128 : decode cX12_sleep 128 = .ok (.aload_n 0, 1) := by decide +kernel
theorem dX12_sleep_129 : decode cX12_sleep 129 = .ok (.getfield 95, 3) := by decide +kernel
theorem dX12_sleep_132 : decode cX12_sleep 132 = .ok (.iload_n 1, 1) := by decide +kernel
theorem dX12_sleep_133 : decode cX12_sleep 133 = .ok (.iconst 1, 1) := by decide +kernel
theorem dX12_sleep_134 : decode cX12_sleep 134 = .ok (.bastore, 1) := by decide +kernel
theorem dX12_sleep_135 : decode cX12_sleep 135 = .ok (.iload_n 3, 1) := by decide +kernel
theorem dX12_sleep_136 : decode cX12_sleep 136 = .ok (.ireturn, 1) := by decide +kernel
theorem dX12_isAwake_0 : decode cX12_isAwake 0 = .ok (.aload_n 0, 1) := by decide +kernel
theorem dX12_isAwake_1 : decode cX12_isAwake 1 = .ok (.aload_n 0, 1) := by decide +kernel
theorem dX12_isAwake_2 : decode cX12_isAwake 2 = .ok (.iload_n 1, 1) := by decide +kernel
theorem dX12_isAwake_3 : decode cX12_isAwake 3 = .ok (.invokevirtual 165, 3) := by decide +kernel
theorem dX12_isAwake_6 : decode cX12_isAwake 6 = .ok (.iconst 1, 1) := by decide +kernel
theorem dX12_isAwake_7 : decode cX12_isAwake 7 = .ok (.invokevirtual 155, 3) := by decide +kernel
theorem dX12_isAwake_10 : decode cX12_isAwake 10 = .ok (.ifCond .ne 16, 3) := by decide +kernel
theorem dX12_isAwake_13 : decode cX12_isAwake 13 = .ok (.aload_n 0, 1) := by decide +kernel
theorem dX12_isAwake_14 : decode cX12_isAwake 14 = .ok (.getfield 95, 3) := by decide +kernel
theorem dX12_isAwake_17 : decode cX12_isAwake 17 = .ok (.iload_n 1, 1) := by decide +kernel
theorem dX12_isAwake_18 : decode cX12_isAwake 18 = .ok (.baload, 1) := by decide +kernel
theorem dX12_isAwake_19 : decode cX12_isAwake 19 = .ok (.ifCond .ne 7, 3) := by decide +kernel
theorem dX12_isAwake_22 : decode cX12_isAwake 22 = .ok (.iconst 1, 1) := by decide +kernel
theorem dX12_isAwake_23 : decode cX12_isAwake 23 = .ok (.goto 4, 3) := by decide +kernel
theorem dX12_isAwake_26 : decode cX12_isAwake 26 = .ok (.iconst 0, 1) := by decide +kernel
theorem dX12_isAwake_27 : decode cX12_isAwake 27 = .ok (.ireturn, 1) := by decide +kernel
def f_M_fault_b37 (μ : me_M) : Option (me_M × Int32) :=
  some (μ, (32 : Int32))
set_option maxHeartbeats 4000000 in
set_option maxRecDepth 100000 in
theorem z_M_fault_b37 {X : me_X} {B : me_B} {sz : Nat} (C : me_C X B RX12 cX12_fault 2 (some .char)) {μ : me_M}    {r : me_M × Int32} (N : me_En X B sz (B, r.1, .ok (some (me_i r.2))) 2 43 0 0) (hNx : me_Nx X) (hB : me_St B)   (hf : f_M_fault_b37 μ = some r) : me_Z X B 0 0 μ 37 [] [] := by
  unfold f_M_fault_b37 at hf
  refine me_bipush C (v := 32) dX12_fault_37 (by decide) ?_
  refine me_goto C (tgt := 48) dX12_fault_39 (by decide) ?_
  exact me_iret C N dX12_fault_48 (by decide +kernel) (by cases hf; rfl) (by decide) (by decide)
def f_M_fault_b30 (μ : me_M) (v1 : Int32) (s0 : Int32) : Option (me_M × Int32) :=
  me_b2 (f_M_isThrown μ s0 (2 : Int32)) (fun μ2 r1 =>
  if r1 = 0 then
  (me_gd (me_inb v1 16) (
  me_gd (me_nr .char (μ2 90 0 (me_ix v1))) (
  some (μ2, (μ2 90 0 (me_ix v1))))))
  else
  (f_M_fault_b37 μ2))
set_option maxHeartbeats 4000000 in
set_option maxRecDepth 100000 in
theorem z_M_fault_b30 {X : me_X} {B : me_B} {sz : Nat} (C : me_C X B RX12 cX12_fault 2 (some .char)) {μ : me_M} {v1 : Int32} {s0 : Int32}   {r : me_M × Int32} (N : me_En X B sz (B, r.1, .ok (some (me_i r.2))) 2 43 0 0) (hNx : me_Nx X) (hB : me_St B)   (hf : f_M_fault_b30 μ v1 s0 = some r) : me_Z X B 0 0 μ 30 [(0, me_r 36 0), (1, me_i v1)] [me_i s0, me_r 36 0] := by
  unfold f_M_fault_b30 at hf
  refine me_iconst C (v := 2) dX12_fault_30 (by decide) ?_
  obtain ⟨μ2, r1, h_r1, hf⟩ := me_bs2 hf
  refine me_callV C N  (As := [me_i s0, me_i (2 : Int32)]) (st := []) 0 0 (c_M_isThrown hB h_r1) mv_M_isThrown ml_M_155 rfl rfl dX12_fault_31 rfl rfl ⟨by decide, by decide⟩ ⟨by decide, by decide, by decide, by decide⟩ (Nat.le_of_ble_eq_true rfl) ?_
  refine me_if_eq C (tgt := 42) dX12_fault_34 (by decide) (fun c3 => ?_) (fun c3 => ?_)
  · replace hf := me_ip c3 hf
    refine me_aload_n C 0 (Or.inr (Or.inl ⟨_, rfl⟩)) dX12_fault_42 rfl rfl ?_
    refine me_getr C hB 37 (k' := 90) (i' := 0) fg_M_126 dX12_fault_43 rfl rfl ?_
    refine me_iload_n C 1 dX12_fault_46 rfl rfl ?_
    obtain ⟨g4, hf⟩ := me_gs hf
    refine me_cald C rfl (fun _ => rfl) g4 dX12_fault_47 ?_
    obtain ⟨g5, hf⟩ := me_gs hf
    exact me_iret C N dX12_fault_48 g5 (by cases hf; rfl) (by decide) (by decide)
  · replace hf := me_in c3 hf
    refine me_dropI [] [] rfl ?_
    exact z_M_fault_b37 C N hNx hB hf
def f_M_fault (μ : me_M) (v1 : Int32) : Option (me_M × Int32) :=
  me_bd (f_M_isNoNode μ v1) (fun r1 =>
  me_b2 (f_M_isThrown μ r1 (1 : Int32)) (fun μ3 r2 =>
  if r2 = 0 then
  (me_gd (me_inb v1 16) (
  if (μ3 89 0 (me_ix v1)) = (120 : Int32) then
  (f_M_fault_b30 μ3 v1 (0 : Int32))
  else
  (f_M_fault_b30 μ3 v1 (1 : Int32))))
  else
  (f_M_fault_b37 μ3)))
set_option maxHeartbeats 4000000 in
set_option maxRecDepth 100000 in
theorem z_M_fault {X : me_X} {B : me_B} {sz : Nat} (C : me_C X B RX12 cX12_fault 2 (some .char)) {μ : me_M} {v1 : Int32}   {r : me_M × Int32} (N : me_En X B sz (B, r.1, .ok (some (me_i r.2))) 2 43 0 0) (hNx : me_Nx X) (hB : me_St B)   (hf : f_M_fault μ v1 = some r) : me_Z X B 0 0 μ 0 [(0, me_r 36 0), (1, me_i v1)] [] := by
  unfold f_M_fault at hf
  refine me_aload_n C 0 (Or.inr (Or.inl ⟨_, rfl⟩)) dX12_fault_0 rfl rfl ?_
  refine me_aload_n C 0 (Or.inr (Or.inl ⟨_, rfl⟩)) dX12_fault_1 rfl rfl ?_
  refine me_iload_n C 1 dX12_fault_2 rfl rfl ?_
  obtain ⟨r1, h_r1, hf⟩ := me_bs hf
  refine me_callV C N  (As := [me_i v1]) (st := [me_r 36 0]) 0 0 (c_M_isNoNode hB h_r1) mv_M_isNoNode ml_M_165 rfl rfl dX12_fault_3 rfl rfl ⟨by decide, by decide⟩ ⟨by decide, by decide, by decide, by decide⟩ (Nat.le_of_ble_eq_true rfl) ?_
  refine me_iconst C (v := 1) dX12_fault_6 (by decide) ?_
  obtain ⟨μ3, r2, h_r2, hf⟩ := me_bs2 hf
  refine me_callV C N  (As := [me_i r1, me_i (1 : Int32)]) (st := []) 0 0 (c_M_isThrown hB h_r2) mv_M_isThrown ml_M_155 rfl rfl dX12_fault_7 rfl rfl ⟨by decide, by decide⟩ ⟨by decide, by decide, by decide, by decide⟩ (Nat.le_of_ble_eq_true rfl) ?_
  refine me_if_ne C (tgt := 37) dX12_fault_10 (by decide) (fun c4 => ?_) (fun c4 => ?_)
  · replace hf := me_in c4 hf
    refine me_dropI [] [] rfl ?_
    exact z_M_fault_b37 C N hNx hB hf
  · replace hf := me_ip c4 hf
    refine me_aload_n C 0 (Or.inr (Or.inl ⟨_, rfl⟩)) dX12_fault_13 rfl rfl ?_
    refine me_aload_n C 0 (Or.inr (Or.inl ⟨_, rfl⟩)) dX12_fault_14 rfl rfl ?_
    refine me_getr C hB 36 (k' := 89) (i' := 0) fg_M_123 dX12_fault_15 rfl rfl ?_
    refine me_iload_n C 1 dX12_fault_18 rfl rfl ?_
    obtain ⟨g5, hf⟩ := me_gs hf
    refine me_cald C rfl (fun _ => rfl) g5 dX12_fault_19 ?_
    refine me_bipush C (v := 120) dX12_fault_20 (by decide) ?_
    refine me_icmp_eq C (tgt := 29) dX12_fault_22 (by decide) (fun c6 => ?_) (fun c6 => ?_)
    · replace hf := me_ip c6 hf
      refine me_iconst C (v := 0) dX12_fault_29 (by decide) ?_
      refine me_dropI [(0, me_r 36 0), (1, me_i v1)] [0, 1] rfl ?_
      exact z_M_fault_b30 C N hNx hB hf
    · replace hf := me_in c6 hf
      refine me_iconst C (v := 1) dX12_fault_25 (by decide) ?_
      refine me_goto C (tgt := 30) dX12_fault_26 (by decide) ?_
      refine me_dropI [(0, me_r 36 0), (1, me_i v1)] [0, 1] rfl ?_
      exact z_M_fault_b30 C N hNx hB hf
theorem c_M_fault {B : me_B} (hB : me_St B) {μ : me_M} {v1 : Int32} {μ' : me_M} {r : Int32}  (hf : f_M_fault μ v1 = some (μ', r)) : ∀ l E z, l.stackTraces = false → me_Met l yX12_fault cX12_fault 2 (some .char) 2 43 0 0 E B μ z [me_r 36 0, me_i v1] (B, μ', .ok (some (me_i r))) :=
  fun _ _ _ hl => me_ofZ hl (by decide +kernel) (Nat.le_of_ble_eq_true rfl) (fun _ C N hNx => z_M_fault C N hNx hB  hf)

def f_M_isNoWord_b36 (μ : me_M) : Option (me_M × Int32) :=
  some (μ, (1 : Int32))
set_option maxHeartbeats 4000000 in
set_option maxRecDepth 100000 in
theorem z_M_isNoWord_b36 {X : me_X} {B : me_B} {sz : Nat} (C : me_C X B RX12 cX12_isNoWord 3 (some .boolean)) {μ : me_M}    {r : me_M × Int32} (N : me_En X B sz (B, r.1, .ok (some (me_i r.2))) 2 43 0 0) (hNx : me_Nx X) (hB : me_St B)   (hf : f_M_isNoWord_b36 μ = some r) : me_Z X B 0 0 μ 36 [] [] := by
  unfold f_M_isNoWord_b36 at hf
  refine me_iconst C (v := 1) dX12_isNoWord_36 (by decide) ?_
  refine me_goto C (tgt := 41) dX12_isNoWord_37 (by decide) ?_
  exact me_iret C N dX12_isNoWord_41 (by decide +kernel) (by cases hf; rfl) (by decide) (by decide)
def f_M_isNoWord_b29 (μ : me_M) (s0 : Int32) : Option (me_M × Int32) :=
  me_b2 (f_M_isThrown μ s0 (2 : Int32)) (fun μ2 r1 =>
  if r1 = 0 then
  (some (μ2, (0 : Int32)))
  else
  (f_M_isNoWord_b36 μ2))
set_option maxHeartbeats 4000000 in
set_option maxRecDepth 100000 in
theorem z_M_isNoWord_b29 {X : me_X} {B : me_B} {sz : Nat} (C : me_C X B RX12 cX12_isNoWord 3 (some .boolean)) {μ : me_M} {s0 : Int32}   {r : me_M × Int32} (N : me_En X B sz (B, r.1, .ok (some (me_i r.2))) 2 43 0 0) (hNx : me_Nx X) (hB : me_St B)   (hf : f_M_isNoWord_b29 μ s0 = some r) : me_Z X B 0 0 μ 29 [] [me_i s0, me_r 36 0] := by
  unfold f_M_isNoWord_b29 at hf
  refine me_iconst C (v := 2) dX12_isNoWord_29 (by decide) ?_
  obtain ⟨μ2, r1, h_r1, hf⟩ := me_bs2 hf
  refine me_callV C N  (As := [me_i s0, me_i (2 : Int32)]) (st := []) 0 0 (c_M_isThrown hB h_r1) mv_M_isThrown ml_M_155 rfl rfl dX12_isNoWord_30 rfl rfl ⟨by decide, by decide⟩ ⟨by decide, by decide, by decide, by decide⟩ (Nat.le_of_ble_eq_true rfl) ?_
  refine me_if_eq C (tgt := 40) dX12_isNoWord_33 (by decide) (fun c3 => ?_) (fun c3 => ?_)
  · replace hf := me_ip c3 hf
    refine me_iconst C (v := 0) dX12_isNoWord_40 (by decide) ?_
    exact me_iret C N dX12_isNoWord_41 (by decide +kernel) (by cases hf; rfl) (by decide) (by decide)
  · replace hf := me_in c3 hf
    refine me_dropI [] [] rfl ?_
    exact z_M_isNoWord_b36 C N hNx hB hf
def f_M_isNoWord (μ : me_M) (v1 : Int32) (v2 : Int32) : Option (me_M × Int32) :=
  me_bd (f_M_isNoNode μ v1) (fun r1 =>
  me_b2 (f_M_isThrown μ r1 (1 : Int32)) (fun μ3 r2 =>
  if r2 = 0 then
  (me_bd (f_M_isIn μ3 v2 (0 : Int32) (7 : Int32)) (fun r5 =>
  if r5 = 0 then
  (f_M_isNoWord_b29 μ3 (1 : Int32))
  else
  (f_M_isNoWord_b29 μ3 (0 : Int32))))
  else
  (f_M_isNoWord_b36 μ3)))
set_option maxHeartbeats 4000000 in
set_option maxRecDepth 100000 in
theorem z_M_isNoWord {X : me_X} {B : me_B} {sz : Nat} (C : me_C X B RX12 cX12_isNoWord 3 (some .boolean)) {μ : me_M} {v1 : Int32} {v2 : Int32}   {r : me_M × Int32} (N : me_En X B sz (B, r.1, .ok (some (me_i r.2))) 2 43 0 0) (hNx : me_Nx X) (hB : me_St B)   (hf : f_M_isNoWord μ v1 v2 = some r) : me_Z X B 0 0 μ 0 [(0, me_r 36 0), (1, me_i v1), (2, me_i v2)] [] := by
  unfold f_M_isNoWord at hf
  refine me_aload_n C 0 (Or.inr (Or.inl ⟨_, rfl⟩)) dX12_isNoWord_0 rfl rfl ?_
  refine me_aload_n C 0 (Or.inr (Or.inl ⟨_, rfl⟩)) dX12_isNoWord_1 rfl rfl ?_
  refine me_iload_n C 1 dX12_isNoWord_2 rfl rfl ?_
  obtain ⟨r1, h_r1, hf⟩ := me_bs hf
  refine me_callV C N  (As := [me_i v1]) (st := [me_r 36 0]) 0 0 (c_M_isNoNode hB h_r1) mv_M_isNoNode ml_M_165 rfl rfl dX12_isNoWord_3 rfl rfl ⟨by decide, by decide⟩ ⟨by decide, by decide, by decide, by decide⟩ (Nat.le_of_ble_eq_true rfl) ?_
  refine me_iconst C (v := 1) dX12_isNoWord_6 (by decide) ?_
  obtain ⟨μ3, r2, h_r2, hf⟩ := me_bs2 hf
  refine me_callV C N  (As := [me_i r1, me_i (1 : Int32)]) (st := []) 0 0 (c_M_isThrown hB h_r2) mv_M_isThrown ml_M_155 rfl rfl dX12_isNoWord_7 rfl rfl ⟨by decide, by decide⟩ ⟨by decide, by decide, by decide, by decide⟩ (Nat.le_of_ble_eq_true rfl) ?_
  refine me_if_ne C (tgt := 36) dX12_isNoWord_10 (by decide) (fun c4 => ?_) (fun c4 => ?_)
  · replace hf := me_in c4 hf
    refine me_dropI [] [] rfl ?_
    exact z_M_isNoWord_b36 C N hNx hB hf
  · replace hf := me_ip c4 hf
    refine me_aload_n C 0 (Or.inr (Or.inl ⟨_, rfl⟩)) dX12_isNoWord_13 rfl rfl ?_
    refine me_iload_n C 2 dX12_isNoWord_14 rfl rfl ?_
    refine me_iconst C (v := 0) dX12_isNoWord_15 (by decide) ?_
    refine me_bipush C (v := 7) dX12_isNoWord_16 (by decide) ?_
    obtain ⟨r5, h_r5, hf⟩ := me_bs hf
    refine me_callS C N  (As := [me_i v2, me_i (0 : Int32), me_i (7 : Int32)]) (st := [me_r 36 0]) 0 0 (c_M_isIn hB h_r5) ms_M_isIn ml_M_148 dX12_isNoWord_18 rfl rfl ⟨by decide, by decide⟩ ⟨by decide, by decide, by decide, by decide⟩ (Nat.le_of_ble_eq_true rfl) ?_
    refine me_if_ne C (tgt := 28) dX12_isNoWord_21 (by decide) (fun c6 => ?_) (fun c6 => ?_)
    · replace hf := me_in c6 hf
      refine me_iconst C (v := 0) dX12_isNoWord_28 (by decide) ?_
      refine me_dropI [] [] rfl ?_
      exact z_M_isNoWord_b29 C N hNx hB hf
    · replace hf := me_ip c6 hf
      refine me_iconst C (v := 1) dX12_isNoWord_24 (by decide) ?_
      refine me_goto C (tgt := 29) dX12_isNoWord_25 (by decide) ?_
      refine me_dropI [] [] rfl ?_
      exact z_M_isNoWord_b29 C N hNx hB hf
theorem c_M_isNoWord {B : me_B} (hB : me_St B) {μ : me_M} {v1 : Int32} {v2 : Int32} {μ' : me_M} {r : Int32}  (hf : f_M_isNoWord μ v1 v2 = some (μ', r)) : ∀ l E z, l.stackTraces = false → me_Met l yX12_isNoWord cX12_isNoWord 3 (some .boolean) 2 43 0 0 E B μ z [me_r 36 0, me_i v1, me_i v2] (B, μ', .ok (some (me_i r))) :=
  fun _ _ _ hl => me_ofZ hl (by decide +kernel) (Nat.le_of_ble_eq_true rfl) (fun _ C N hNx => z_M_isNoWord C N hNx hB  hf)

def f_M_memory (μ : me_M) (v1 : Int32) (v2 : Int32) : Option (me_M × Int32) :=
  me_b2 (f_M_isNoWord μ v1 v2) (fun μ2 r1 =>
  if r1 = 0 then
  (me_gd (me_inb v1 16) (
  me_gd (me_inb v2 8) (
  some (μ2, (μ2 76 (me_ix v1) (me_ix v2))))))
  else
  (some (μ2, (0 : Int32))))
set_option maxHeartbeats 4000000 in
set_option maxRecDepth 100000 in
theorem z_M_memory {X : me_X} {B : me_B} {sz : Nat} (C : me_C X B RX12 cX12_memory 3 (some .int)) {μ : me_M} {v1 : Int32} {v2 : Int32}   {r : me_M × Int32} (N : me_En X B sz (B, r.1, .ok (some (me_i r.2))) 3 65 0 0) (hNx : me_Nx X) (hB : me_St B)   (hf : f_M_memory μ v1 v2 = some r) : me_Z X B 0 0 μ 0 [(0, me_r 36 0), (1, me_i v1), (2, me_i v2)] [] := by
  unfold f_M_memory at hf
  refine me_aload_n C 0 (Or.inr (Or.inl ⟨_, rfl⟩)) dX12_memory_0 rfl rfl ?_
  refine me_iload_n C 1 dX12_memory_1 rfl rfl ?_
  refine me_iload_n C 2 dX12_memory_2 rfl rfl ?_
  obtain ⟨μ2, r1, h_r1, hf⟩ := me_bs2 hf
  refine me_callV C N  (As := [me_i v1, me_i v2]) (st := []) 0 0 (c_M_isNoWord hB h_r1) mv_M_isNoWord ml_M_286 rfl rfl dX12_memory_3 rfl rfl ⟨by decide, by decide⟩ ⟨by decide, by decide, by decide, by decide⟩ (Nat.le_of_ble_eq_true rfl) ?_
  refine me_if_eq C (tgt := 13) dX12_memory_6 (by decide) (fun c3 => ?_) (fun c3 => ?_)
  · replace hf := me_ip c3 hf
    refine me_aload_n C 0 (Or.inr (Or.inl ⟨_, rfl⟩)) dX12_memory_13 rfl rfl ?_
    refine me_getr C hB 30 (k' := 75) (i' := 0) fg_M_103 dX12_memory_14 rfl rfl ?_
    refine me_iload_n C 1 dX12_memory_17 rfl rfl ?_
    obtain ⟨g4, hf⟩ := me_gs hf
    refine me_aald C hB (k' := 76) (i' := (me_ix v1)) rfl (fun _ => rfl) rfl g4 dX12_memory_18 rfl ?_
    refine me_iload_n C 2 dX12_memory_19 rfl rfl ?_
    obtain ⟨g5, hf⟩ := me_gs hf
    refine me_iald C rfl (fun _ => rfl) g5 dX12_memory_20 ?_
    exact me_iret C N dX12_memory_21 (me_nri _) (by cases hf; rfl) (by decide) (by decide)
  · replace hf := me_in c3 hf
    refine me_iconst C (v := 0) dX12_memory_9 (by decide) ?_
    refine me_goto C (tgt := 21) dX12_memory_10 (by decide) ?_
    exact me_iret C N dX12_memory_21 (me_nri _) (by cases hf; rfl) (by decide) (by decide)
theorem c_M_memory {B : me_B} (hB : me_St B) {μ : me_M} {v1 : Int32} {v2 : Int32} {μ' : me_M} {r : Int32}  (hf : f_M_memory μ v1 v2 = some (μ', r)) : ∀ l E z, l.stackTraces = false → me_Met l yX12_memory cX12_memory 3 (some .int) 3 65 0 0 E B μ z [me_r 36 0, me_i v1, me_i v2] (B, μ', .ok (some (me_i r))) :=
  fun _ _ _ hl => me_ofZ hl (by decide +kernel) (Nat.le_of_ble_eq_true rfl) (fun _ C N hNx => z_M_memory C N hNx hB  hf)

def f_M_set (μ : me_M) (v1 : Int32) (v2 : Int32) (v3 : Int32) : Option (me_M × Int32) :=
  me_b2 (f_M_isNoWord μ v1 v2) (fun μ2 r1 =>
  if r1 = 0 then
  (me_gd (me_inb v1 16) (
  me_gd (me_inb v2 8) (
  me_lt ((μ2 76 (me_ix v1) (me_ix v2))) (fun x6 =>
  me_gd (me_inb v1 16) (
  me_gd (me_inb v2 8) (
  me_lt (me_up μ2 76 (me_ix v1) (me_ix v2) v3) (fun μ9 =>
  some (μ9, x6))))))))
  else
  (some (μ2, (0 : Int32))))
set_option maxHeartbeats 4000000 in
set_option maxRecDepth 100000 in
theorem z_M_set {X : me_X} {B : me_B} {sz : Nat} (C : me_C X B RX12 cX12_set 5 (some .int)) {μ : me_M} {v1 : Int32} {v2 : Int32} {v3 : Int32}   {r : me_M × Int32} (N : me_En X B sz (B, r.1, .ok (some (me_i r.2))) 3 65 0 0) (hNx : me_Nx X) (hB : me_St B)   (hf : f_M_set μ v1 v2 v3 = some r) : me_Z X B 0 0 μ 0 [(0, me_r 36 0), (1, me_i v1), (2, me_i v2), (3, me_i v3)] [] := by
  unfold f_M_set at hf
  refine me_aload_n C 0 (Or.inr (Or.inl ⟨_, rfl⟩)) dX12_set_0 rfl rfl ?_
  refine me_iload_n C 1 dX12_set_1 rfl rfl ?_
  refine me_iload_n C 2 dX12_set_2 rfl rfl ?_
  obtain ⟨μ2, r1, h_r1, hf⟩ := me_bs2 hf
  refine me_callV C N  (As := [me_i v1, me_i v2]) (st := []) 0 0 (c_M_isNoWord hB h_r1) mv_M_isNoWord ml_M_286 rfl rfl dX12_set_3 rfl rfl ⟨by decide, by decide⟩ ⟨by decide, by decide, by decide, by decide⟩ (Nat.le_of_ble_eq_true rfl) ?_
  refine me_if_eq C (tgt := 11) dX12_set_6 (by decide) (fun c3 => ?_) (fun c3 => ?_)
  · replace hf := me_ip c3 hf
    refine me_aload_n C 0 (Or.inr (Or.inl ⟨_, rfl⟩)) dX12_set_11 rfl rfl ?_
    refine me_getr C hB 30 (k' := 75) (i' := 0) fg_M_103 dX12_set_12 rfl rfl ?_
    refine me_iload_n C 1 dX12_set_15 rfl rfl ?_
    obtain ⟨g4, hf⟩ := me_gs hf
    refine me_aald C hB (k' := 76) (i' := (me_ix v1)) rfl (fun _ => rfl) rfl g4 dX12_set_16 rfl ?_
    refine me_iload_n C 2 dX12_set_17 rfl rfl ?_
    obtain ⟨g5, hf⟩ := me_gs hf
    refine me_iald C rfl (fun _ => rfl) g5 dX12_set_18 ?_
    obtain ⟨x6, e_x6, hf⟩ := me_lts hf
    refine me_nm e_x6 ?_
    refine me_istore C dX12_set_19 (by decide) (L' := [(4, me_i x6), (0, me_r 36 0), (1, me_i v1), (2, me_i v2), (3, me_i v3)]) rfl ?_
    refine me_aload_n C 0 (Or.inr (Or.inl ⟨_, rfl⟩)) dX12_set_21 rfl rfl ?_
    refine me_getr C hB 30 (k' := 75) (i' := 0) fg_M_103 dX12_set_22 rfl rfl ?_
    refine me_iload_n C 1 dX12_set_25 rfl rfl ?_
    obtain ⟨g7, hf⟩ := me_gs hf
    refine me_aald C hB (k' := 76) (i' := (me_ix v1)) rfl (fun _ => rfl) rfl g7 dX12_set_26 rfl ?_
    refine me_iload_n C 2 dX12_set_27 rfl rfl ?_
    refine me_iload_n C 3 dX12_set_28 rfl rfl ?_
    obtain ⟨g8, hf⟩ := me_gs hf
    obtain ⟨μ9, e_μ9, hf⟩ := me_lts hf
    refine me_iast C rfl (fun _ => rfl) g8 dX12_set_29 e_μ9 ?_
    refine me_iload C dX12_set_30 rfl ?_
    exact me_iret C N dX12_set_32 (me_nri _) (by cases hf; rfl) (by decide) (by decide)
  · replace hf := me_in c3 hf
    refine me_iconst C (v := 0) dX12_set_9 (by decide) ?_
    exact me_iret C N dX12_set_10 (me_nri _) (by cases hf; rfl) (by decide) (by decide)
theorem c_M_set {B : me_B} (hB : me_St B) {μ : me_M} {v1 : Int32} {v2 : Int32} {v3 : Int32} {μ' : me_M} {r : Int32}  (hf : f_M_set μ v1 v2 v3 = some (μ', r)) : ∀ l E z, l.stackTraces = false → me_Met l yX12_set cX12_set 5 (some .int) 3 65 0 0 E B μ z [me_r 36 0, me_i v1, me_i v2, me_i v3] (B, μ', .ok (some (me_i r))) :=
  fun _ _ _ hl => me_ofZ hl (by decide +kernel) (Nat.le_of_ble_eq_true rfl) (fun _ C N hNx => z_M_set C N hNx hB  hf)

def f_M_top_b35 (μ : me_M) : Option (me_M × Int32) :=
  some (μ, (0 : Int32))
set_option maxHeartbeats 4000000 in
set_option maxRecDepth 100000 in
theorem z_M_top_b35 {X : me_X} {B : me_B} {sz : Nat} (C : me_C X B RX12 cX12_top 2 (some .int)) {μ : me_M}    {r : me_M × Int32} (N : me_En X B sz (B, r.1, .ok (some (me_i r.2))) 2 43 0 0) (hNx : me_Nx X) (hB : me_St B)   (hf : f_M_top_b35 μ = some r) : me_Z X B 0 0 μ 35 [] [] := by
  unfold f_M_top_b35 at hf
  refine me_iconst C (v := 0) dX12_top_35 (by decide) ?_
  refine me_goto C (tgt := 54) dX12_top_36 (by decide) ?_
  exact me_iret C N dX12_top_54 (me_nri _) (by cases hf; rfl) (by decide) (by decide)
def f_M_top_b28 (μ : me_M) (v1 : Int32) (s0 : Int32) : Option (me_M × Int32) :=
  me_b2 (f_M_isThrown μ s0 (2 : Int32)) (fun μ2 r1 =>
  if r1 = 0 then
  (me_gd (me_inb v1 16) (
  me_gd (me_inb v1 16) (
  me_gd (me_inb ((μ2 87 0 (me_ix v1)) - (1 : Int32)) 6) (
  some (μ2, (μ2 78 (me_ix v1) (me_ix ((μ2 87 0 (me_ix v1)) - (1 : Int32)))))))))
  else
  (f_M_top_b35 μ2))
set_option maxHeartbeats 4000000 in
set_option maxRecDepth 100000 in
theorem z_M_top_b28 {X : me_X} {B : me_B} {sz : Nat} (C : me_C X B RX12 cX12_top 2 (some .int)) {μ : me_M} {v1 : Int32} {s0 : Int32}   {r : me_M × Int32} (N : me_En X B sz (B, r.1, .ok (some (me_i r.2))) 2 43 0 0) (hNx : me_Nx X) (hB : me_St B)   (hf : f_M_top_b28 μ v1 s0 = some r) : me_Z X B 0 0 μ 28 [(0, me_r 36 0), (1, me_i v1)] [me_i s0, me_r 36 0] := by
  unfold f_M_top_b28 at hf
  refine me_iconst C (v := 2) dX12_top_28 (by decide) ?_
  obtain ⟨μ2, r1, h_r1, hf⟩ := me_bs2 hf
  refine me_callV C N  (As := [me_i s0, me_i (2 : Int32)]) (st := []) 0 0 (c_M_isThrown hB h_r1) mv_M_isThrown ml_M_155 rfl rfl dX12_top_29 rfl rfl ⟨by decide, by decide⟩ ⟨by decide, by decide, by decide, by decide⟩ (Nat.le_of_ble_eq_true rfl) ?_
  refine me_if_eq C (tgt := 39) dX12_top_32 (by decide) (fun c3 => ?_) (fun c3 => ?_)
  · replace hf := me_ip c3 hf
    refine me_aload_n C 0 (Or.inr (Or.inl ⟨_, rfl⟩)) dX12_top_39 rfl rfl ?_
    refine me_getr C hB 31 (k' := 77) (i' := 0) fg_M_106 dX12_top_40 rfl rfl ?_
    refine me_iload_n C 1 dX12_top_43 rfl rfl ?_
    obtain ⟨g4, hf⟩ := me_gs hf
    refine me_aald C hB (k' := 78) (i' := (me_ix v1)) rfl (fun _ => rfl) rfl g4 dX12_top_44 rfl ?_
    refine me_aload_n C 0 (Or.inr (Or.inl ⟨_, rfl⟩)) dX12_top_45 rfl rfl ?_
    refine me_getr C hB 32 (k' := 87) (i' := 0) fg_M_109 dX12_top_46 rfl rfl ?_
    refine me_iload_n C 1 dX12_top_49 rfl rfl ?_
    obtain ⟨g5, hf⟩ := me_gs hf
    refine me_iald C rfl (fun _ => rfl) g5 dX12_top_50 ?_
    refine me_iconst C (v := 1) dX12_top_51 (by decide) ?_
    refine me_isub C dX12_top_52 ?_
    obtain ⟨g6, hf⟩ := me_gs hf
    refine me_iald C rfl (fun _ => rfl) g6 dX12_top_53 ?_
    exact me_iret C N dX12_top_54 (me_nri _) (by cases hf; rfl) (by decide) (by decide)
  · replace hf := me_in c3 hf
    refine me_dropI [] [] rfl ?_
    exact z_M_top_b35 C N hNx hB hf
def f_M_top (μ : me_M) (v1 : Int32) : Option (me_M × Int32) :=
  me_bd (f_M_isNoNode μ v1) (fun r1 =>
  me_b2 (f_M_isThrown μ r1 (1 : Int32)) (fun μ3 r2 =>
  if r2 = 0 then
  (me_gd (me_inb v1 16) (
  if (μ3 87 0 (me_ix v1)) = 0 then
  (f_M_top_b28 μ3 v1 (1 : Int32))
  else
  (f_M_top_b28 μ3 v1 (0 : Int32))))
  else
  (f_M_top_b35 μ3)))
set_option maxHeartbeats 4000000 in
set_option maxRecDepth 100000 in
theorem z_M_top {X : me_X} {B : me_B} {sz : Nat} (C : me_C X B RX12 cX12_top 2 (some .int)) {μ : me_M} {v1 : Int32}   {r : me_M × Int32} (N : me_En X B sz (B, r.1, .ok (some (me_i r.2))) 2 43 0 0) (hNx : me_Nx X) (hB : me_St B)   (hf : f_M_top μ v1 = some r) : me_Z X B 0 0 μ 0 [(0, me_r 36 0), (1, me_i v1)] [] := by
  unfold f_M_top at hf
  refine me_aload_n C 0 (Or.inr (Or.inl ⟨_, rfl⟩)) dX12_top_0 rfl rfl ?_
  refine me_aload_n C 0 (Or.inr (Or.inl ⟨_, rfl⟩)) dX12_top_1 rfl rfl ?_
  refine me_iload_n C 1 dX12_top_2 rfl rfl ?_
  obtain ⟨r1, h_r1, hf⟩ := me_bs hf
  refine me_callV C N  (As := [me_i v1]) (st := [me_r 36 0]) 0 0 (c_M_isNoNode hB h_r1) mv_M_isNoNode ml_M_165 rfl rfl dX12_top_3 rfl rfl ⟨by decide, by decide⟩ ⟨by decide, by decide, by decide, by decide⟩ (Nat.le_of_ble_eq_true rfl) ?_
  refine me_iconst C (v := 1) dX12_top_6 (by decide) ?_
  obtain ⟨μ3, r2, h_r2, hf⟩ := me_bs2 hf
  refine me_callV C N  (As := [me_i r1, me_i (1 : Int32)]) (st := []) 0 0 (c_M_isThrown hB h_r2) mv_M_isThrown ml_M_155 rfl rfl dX12_top_7 rfl rfl ⟨by decide, by decide⟩ ⟨by decide, by decide, by decide, by decide⟩ (Nat.le_of_ble_eq_true rfl) ?_
  refine me_if_ne C (tgt := 35) dX12_top_10 (by decide) (fun c4 => ?_) (fun c4 => ?_)
  · replace hf := me_in c4 hf
    refine me_dropI [] [] rfl ?_
    exact z_M_top_b35 C N hNx hB hf
  · replace hf := me_ip c4 hf
    refine me_aload_n C 0 (Or.inr (Or.inl ⟨_, rfl⟩)) dX12_top_13 rfl rfl ?_
    refine me_aload_n C 0 (Or.inr (Or.inl ⟨_, rfl⟩)) dX12_top_14 rfl rfl ?_
    refine me_getr C hB 32 (k' := 87) (i' := 0) fg_M_109 dX12_top_15 rfl rfl ?_
    refine me_iload_n C 1 dX12_top_18 rfl rfl ?_
    obtain ⟨g5, hf⟩ := me_gs hf
    refine me_iald C rfl (fun _ => rfl) g5 dX12_top_19 ?_
    refine me_if_ne C (tgt := 27) dX12_top_20 (by decide) (fun c6 => ?_) (fun c6 => ?_)
    · replace hf := me_in c6 hf
      refine me_iconst C (v := 0) dX12_top_27 (by decide) ?_
      refine me_dropI [(0, me_r 36 0), (1, me_i v1)] [0, 1] rfl ?_
      exact z_M_top_b28 C N hNx hB hf
    · replace hf := me_ip c6 hf
      refine me_iconst C (v := 1) dX12_top_23 (by decide) ?_
      refine me_goto C (tgt := 28) dX12_top_24 (by decide) ?_
      refine me_dropI [(0, me_r 36 0), (1, me_i v1)] [0, 1] rfl ?_
      exact z_M_top_b28 C N hNx hB hf
theorem c_M_top {B : me_B} (hB : me_St B) {μ : me_M} {v1 : Int32} {μ' : me_M} {r : Int32}  (hf : f_M_top μ v1 = some (μ', r)) : ∀ l E z, l.stackTraces = false → me_Met l yX12_top cX12_top 2 (some .int) 2 43 0 0 E B μ z [me_r 36 0, me_i v1] (B, μ', .ok (some (me_i r))) :=
  fun _ _ _ hl => me_ofZ hl (by decide +kernel) (Nat.le_of_ble_eq_true rfl) (fun _ C N hNx => z_M_top C N hNx hB  hf)

def f_M_at_b36 (μ : me_M) : Option (me_M × Int32) :=
  some (μ, (0 : Int32))
set_option maxHeartbeats 4000000 in
set_option maxRecDepth 100000 in
theorem z_M_at_b36 {X : me_X} {B : me_B} {sz : Nat} (C : me_C X B RX12 cX12_at 2 (some .int)) {μ : me_M}    {r : me_M × Int32} (N : me_En X B sz (B, r.1, .ok (some (me_i r.2))) 2 43 0 0) (hNx : me_Nx X) (hB : me_St B)   (hf : f_M_at_b36 μ = some r) : me_Z X B 0 0 μ 36 [] [] := by
  unfold f_M_at_b36 at hf
  refine me_iconst C (v := 0) dX12_at_36 (by decide) ?_
  refine me_goto C (tgt := 46) dX12_at_37 (by decide) ?_
  exact me_iret C N dX12_at_46 (me_nri _) (by cases hf; rfl) (by decide) (by decide)
def f_M_at_b29 (μ : me_M) (v1 : Int32) (s0 : Int32) : Option (me_M × Int32) :=
  me_b2 (f_M_isThrown μ s0 (2 : Int32)) (fun μ2 r1 =>
  if r1 = 0 then
  (me_gd (me_inb v1 16) (
  some (μ2, (μ2 91 0 (me_ix v1)))))
  else
  (f_M_at_b36 μ2))
set_option maxHeartbeats 4000000 in
set_option maxRecDepth 100000 in
theorem z_M_at_b29 {X : me_X} {B : me_B} {sz : Nat} (C : me_C X B RX12 cX12_at 2 (some .int)) {μ : me_M} {v1 : Int32} {s0 : Int32}   {r : me_M × Int32} (N : me_En X B sz (B, r.1, .ok (some (me_i r.2))) 2 43 0 0) (hNx : me_Nx X) (hB : me_St B)   (hf : f_M_at_b29 μ v1 s0 = some r) : me_Z X B 0 0 μ 29 [(0, me_r 36 0), (1, me_i v1)] [me_i s0, me_r 36 0] := by
  unfold f_M_at_b29 at hf
  refine me_iconst C (v := 2) dX12_at_29 (by decide) ?_
  obtain ⟨μ2, r1, h_r1, hf⟩ := me_bs2 hf
  refine me_callV C N  (As := [me_i s0, me_i (2 : Int32)]) (st := []) 0 0 (c_M_isThrown hB h_r1) mv_M_isThrown ml_M_155 rfl rfl dX12_at_30 rfl rfl ⟨by decide, by decide⟩ ⟨by decide, by decide, by decide, by decide⟩ (Nat.le_of_ble_eq_true rfl) ?_
  refine me_if_eq C (tgt := 40) dX12_at_33 (by decide) (fun c3 => ?_) (fun c3 => ?_)
  · replace hf := me_ip c3 hf
    refine me_aload_n C 0 (Or.inr (Or.inl ⟨_, rfl⟩)) dX12_at_40 rfl rfl ?_
    refine me_getr C hB 38 (k' := 91) (i' := 0) fg_M_129 dX12_at_41 rfl rfl ?_
    refine me_iload_n C 1 dX12_at_44 rfl rfl ?_
    obtain ⟨g4, hf⟩ := me_gs hf
    refine me_iald C rfl (fun _ => rfl) g4 dX12_at_45 ?_
    exact me_iret C N dX12_at_46 (me_nri _) (by cases hf; rfl) (by decide) (by decide)
  · replace hf := me_in c3 hf
    refine me_dropI [] [] rfl ?_
    exact z_M_at_b36 C N hNx hB hf
def f_M_at (μ : me_M) (v1 : Int32) : Option (me_M × Int32) :=
  me_bd (f_M_isNoNode μ v1) (fun r1 =>
  me_b2 (f_M_isThrown μ r1 (1 : Int32)) (fun μ3 r2 =>
  if r2 = 0 then
  (me_gd (me_inb v1 16) (
  if (μ3 91 0 (me_ix v1)) = (-1 : Int32) then
  (f_M_at_b29 μ3 v1 (1 : Int32))
  else
  (f_M_at_b29 μ3 v1 (0 : Int32))))
  else
  (f_M_at_b36 μ3)))
set_option maxHeartbeats 4000000 in
set_option maxRecDepth 100000 in
theorem z_M_at {X : me_X} {B : me_B} {sz : Nat} (C : me_C X B RX12 cX12_at 2 (some .int)) {μ : me_M} {v1 : Int32}   {r : me_M × Int32} (N : me_En X B sz (B, r.1, .ok (some (me_i r.2))) 2 43 0 0) (hNx : me_Nx X) (hB : me_St B)   (hf : f_M_at μ v1 = some r) : me_Z X B 0 0 μ 0 [(0, me_r 36 0), (1, me_i v1)] [] := by
  unfold f_M_at at hf
  refine me_aload_n C 0 (Or.inr (Or.inl ⟨_, rfl⟩)) dX12_at_0 rfl rfl ?_
  refine me_aload_n C 0 (Or.inr (Or.inl ⟨_, rfl⟩)) dX12_at_1 rfl rfl ?_
  refine me_iload_n C 1 dX12_at_2 rfl rfl ?_
  obtain ⟨r1, h_r1, hf⟩ := me_bs hf
  refine me_callV C N  (As := [me_i v1]) (st := [me_r 36 0]) 0 0 (c_M_isNoNode hB h_r1) mv_M_isNoNode ml_M_165 rfl rfl dX12_at_3 rfl rfl ⟨by decide, by decide⟩ ⟨by decide, by decide, by decide, by decide⟩ (Nat.le_of_ble_eq_true rfl) ?_
  refine me_iconst C (v := 1) dX12_at_6 (by decide) ?_
  obtain ⟨μ3, r2, h_r2, hf⟩ := me_bs2 hf
  refine me_callV C N  (As := [me_i r1, me_i (1 : Int32)]) (st := []) 0 0 (c_M_isThrown hB h_r2) mv_M_isThrown ml_M_155 rfl rfl dX12_at_7 rfl rfl ⟨by decide, by decide⟩ ⟨by decide, by decide, by decide, by decide⟩ (Nat.le_of_ble_eq_true rfl) ?_
  refine me_if_ne C (tgt := 36) dX12_at_10 (by decide) (fun c4 => ?_) (fun c4 => ?_)
  · replace hf := me_in c4 hf
    refine me_dropI [] [] rfl ?_
    exact z_M_at_b36 C N hNx hB hf
  · replace hf := me_ip c4 hf
    refine me_aload_n C 0 (Or.inr (Or.inl ⟨_, rfl⟩)) dX12_at_13 rfl rfl ?_
    refine me_aload_n C 0 (Or.inr (Or.inl ⟨_, rfl⟩)) dX12_at_14 rfl rfl ?_
    refine me_getr C hB 38 (k' := 91) (i' := 0) fg_M_129 dX12_at_15 rfl rfl ?_
    refine me_iload_n C 1 dX12_at_18 rfl rfl ?_
    obtain ⟨g5, hf⟩ := me_gs hf
    refine me_iald C rfl (fun _ => rfl) g5 dX12_at_19 ?_
    refine me_iconst C (v := -1) dX12_at_20 (by decide) ?_
    refine me_icmp_ne C (tgt := 28) dX12_at_21 (by decide) (fun c6 => ?_) (fun c6 => ?_)
    · replace hf := me_in c6 hf
      refine me_iconst C (v := 0) dX12_at_28 (by decide) ?_
      refine me_dropI [(0, me_r 36 0), (1, me_i v1)] [0, 1] rfl ?_
      exact z_M_at_b29 C N hNx hB hf
    · replace hf := me_ip c6 hf
      refine me_iconst C (v := 1) dX12_at_24 (by decide) ?_
      refine me_goto C (tgt := 29) dX12_at_25 (by decide) ?_
      refine me_dropI [(0, me_r 36 0), (1, me_i v1)] [0, 1] rfl ?_
      exact z_M_at_b29 C N hNx hB hf
theorem c_M_at {B : me_B} (hB : me_St B) {μ : me_M} {v1 : Int32} {μ' : me_M} {r : Int32}  (hf : f_M_at μ v1 = some (μ', r)) : ∀ l E z, l.stackTraces = false → me_Met l yX12_at cX12_at 2 (some .int) 2 43 0 0 E B μ z [me_r 36 0, me_i v1] (B, μ', .ok (some (me_i r))) :=
  fun _ _ _ hl => me_ofZ hl (by decide +kernel) (Nat.le_of_ble_eq_true rfl) (fun _ C N hNx => z_M_at C N hNx hB  hf)

def f_M_way_b24 (μ : me_M) (v1 : Int32) (s0 : Int32) : Option (me_M × Int32) :=
  me_b2 (f_M_isThrown μ s0 (1 : Int32)) (fun μ2 r1 =>
  if r1 = 0 then
  (me_lt ((μ2 36 0 3)) (fun x4 =>
  me_gd (me_nr .char v1) (
  me_lt (me_up μ2 36 0 3 v1) (fun μ6 =>
  me_gd (me_nr .char x4) (
  some (μ6, x4))))))
  else
  (some (μ2, (32 : Int32))))
set_option maxHeartbeats 4000000 in
set_option maxRecDepth 100000 in
theorem z_M_way_b24 {X : me_X} {B : me_B} {sz : Nat} (C : me_C X B RX12 cX12_way 3 (some .char)) {μ : me_M} {v1 : Int32} {s0 : Int32}   {r : me_M × Int32} (N : me_En X B sz (B, r.1, .ok (some (me_i r.2))) 1 22 0 0) (hNx : me_Nx X) (hB : me_St B)   (hf : f_M_way_b24 μ v1 s0 = some r) : me_Z X B 0 0 μ 24 [(0, me_r 36 0), (1, me_i v1)] [me_i s0, me_r 36 0] := by
  unfold f_M_way_b24 at hf
  refine me_iconst C (v := 1) dX12_way_24 (by decide) ?_
  obtain ⟨μ2, r1, h_r1, hf⟩ := me_bs2 hf
  refine me_callV C N  (As := [me_i s0, me_i (1 : Int32)]) (st := []) 0 0 (c_M_isThrown hB h_r1) mv_M_isThrown ml_M_155 rfl rfl dX12_way_25 rfl rfl ⟨by decide, by decide⟩ ⟨by decide, by decide, by decide, by decide⟩ (Nat.le_of_ble_eq_true rfl) ?_
  refine me_if_eq C (tgt := 34) dX12_way_28 (by decide) (fun c3 => ?_) (fun c3 => ?_)
  · replace hf := me_ip c3 hf
    refine me_aload_n C 0 (Or.inr (Or.inl ⟨_, rfl⟩)) dX12_way_34 rfl rfl ?_
    refine me_geti C 3 fg_M_19 dX12_way_35 rfl ?_
    obtain ⟨x4, e_x4, hf⟩ := me_lts hf
    refine me_nm e_x4 ?_
    refine me_istore_n C 2 dX12_way_38 rfl (by decide) (L' := [(2, me_i x4), (0, me_r 36 0), (1, me_i v1)]) rfl ?_
    refine me_aload_n C 0 (Or.inr (Or.inl ⟨_, rfl⟩)) dX12_way_39 rfl rfl ?_
    refine me_iload_n C 1 dX12_way_40 rfl rfl ?_
    obtain ⟨g5, hf⟩ := me_gs hf
    obtain ⟨μ6, e_μ6, hf⟩ := me_lts hf
    refine me_puti C 3 fw_M_19 dX12_way_41 rfl g5 e_μ6 ?_
    refine me_iload_n C 2 dX12_way_44 rfl rfl ?_
    obtain ⟨g7, hf⟩ := me_gs hf
    exact me_iret C N dX12_way_45 g7 (by cases hf; rfl) (by decide) (by decide)
  · replace hf := me_in c3 hf
    refine me_bipush C (v := 32) dX12_way_31 (by decide) ?_
    exact me_iret C N dX12_way_33 (by decide +kernel) (by cases hf; rfl) (by decide) (by decide)
def f_M_way_b23 (μ : me_M) (v1 : Int32) : Option (me_M × Int32) :=
  f_M_way_b24 μ v1 (0 : Int32)
set_option maxHeartbeats 4000000 in
set_option maxRecDepth 100000 in
theorem z_M_way_b23 {X : me_X} {B : me_B} {sz : Nat} (C : me_C X B RX12 cX12_way 3 (some .char)) {μ : me_M} {v1 : Int32}   {r : me_M × Int32} (N : me_En X B sz (B, r.1, .ok (some (me_i r.2))) 1 22 0 0) (hNx : me_Nx X) (hB : me_St B)   (hf : f_M_way_b23 μ v1 = some r) : me_Z X B 0 0 μ 23 [(0, me_r 36 0), (1, me_i v1)] [me_r 36 0] := by
  unfold f_M_way_b23 at hf
  refine me_iconst C (v := 0) dX12_way_23 (by decide) ?_
  refine me_dropI [(0, me_r 36 0), (1, me_i v1)] [0, 1] rfl ?_
  exact z_M_way_b24 C N hNx hB hf
def f_M_way (μ : me_M) (v1 : Int32) : Option (me_M × Int32) :=
  if v1 = (120 : Int32) then
  (f_M_way_b23 μ v1)
  else
  (if v1 = (121 : Int32) then
  (f_M_way_b23 μ v1)
  else
  (if v1 = (116 : Int32) then
  (f_M_way_b23 μ v1)
  else
  (f_M_way_b24 μ v1 (1 : Int32))))
set_option maxHeartbeats 4000000 in
set_option maxRecDepth 100000 in
theorem z_M_way {X : me_X} {B : me_B} {sz : Nat} (C : me_C X B RX12 cX12_way 3 (some .char)) {μ : me_M} {v1 : Int32}   {r : me_M × Int32} (N : me_En X B sz (B, r.1, .ok (some (me_i r.2))) 1 22 0 0) (hNx : me_Nx X) (hB : me_St B)   (hf : f_M_way μ v1 = some r) : me_Z X B 0 0 μ 0 [(0, me_r 36 0), (1, me_i v1)] [] := by
  unfold f_M_way at hf
  refine me_aload_n C 0 (Or.inr (Or.inl ⟨_, rfl⟩)) dX12_way_0 rfl rfl ?_
  refine me_iload_n C 1 dX12_way_1 rfl rfl ?_
  refine me_bipush C (v := 120) dX12_way_2 (by decide) ?_
  refine me_icmp_eq C (tgt := 23) dX12_way_4 (by decide) (fun c1 => ?_) (fun c1 => ?_)
  · replace hf := me_ip c1 hf
    refine me_dropI [(0, me_r 36 0), (1, me_i v1)] [0, 1] rfl ?_
    exact z_M_way_b23 C N hNx hB hf
  · replace hf := me_in c1 hf
    refine me_iload_n C 1 dX12_way_7 rfl rfl ?_
    refine me_bipush C (v := 121) dX12_way_8 (by decide) ?_
    refine me_icmp_eq C (tgt := 23) dX12_way_10 (by decide) (fun c2 => ?_) (fun c2 => ?_)
    · replace hf := me_ip c2 hf
      refine me_dropI [(0, me_r 36 0), (1, me_i v1)] [0, 1] rfl ?_
      exact z_M_way_b23 C N hNx hB hf
    · replace hf := me_in c2 hf
      refine me_iload_n C 1 dX12_way_13 rfl rfl ?_
      refine me_bipush C (v := 116) dX12_way_14 (by decide) ?_
      refine me_icmp_eq C (tgt := 23) dX12_way_16 (by decide) (fun c3 => ?_) (fun c3 => ?_)
      · replace hf := me_ip c3 hf
        refine me_dropI [(0, me_r 36 0), (1, me_i v1)] [0, 1] rfl ?_
        exact z_M_way_b23 C N hNx hB hf
      · replace hf := me_in c3 hf
        refine me_iconst C (v := 1) dX12_way_19 (by decide) ?_
        refine me_goto C (tgt := 24) dX12_way_20 (by decide) ?_
        refine me_dropI [(0, me_r 36 0), (1, me_i v1)] [0, 1] rfl ?_
        exact z_M_way_b24 C N hNx hB hf
theorem c_M_way {B : me_B} (hB : me_St B) {μ : me_M} {v1 : Int32} {μ' : me_M} {r : Int32}  (hf : f_M_way μ v1 = some (μ', r)) : ∀ l E z, l.stackTraces = false → me_Met l yX12_way cX12_way 3 (some .char) 1 22 0 0 E B μ z [me_r 36 0, me_i v1] (B, μ', .ok (some (me_i r))) :=
  fun _ _ _ hl => me_ofZ hl (by decide +kernel) (Nat.le_of_ble_eq_true rfl) (fun _ C N hNx => z_M_way C N hNx hB  hf)

def f_M_places_b15 (μ : me_M) (v1 : Int32) (s0 : Int32) : Option (me_M × Int32) :=
  me_b2 (f_M_isThrown μ s0 (1 : Int32)) (fun μ2 r1 =>
  if r1 = 0 then
  (me_lt ((μ2 36 0 2)) (fun x4 =>
  me_lt (me_up μ2 36 0 2 v1) (fun μ5 =>
  some (μ5, x4))))
  else
  (some (μ2, (0 : Int32))))
set_option maxHeartbeats 4000000 in
set_option maxRecDepth 100000 in
theorem z_M_places_b15 {X : me_X} {B : me_B} {sz : Nat} (C : me_C X B RX12 cX12_places 3 (some .int)) {μ : me_M} {v1 : Int32} {s0 : Int32}   {r : me_M × Int32} (N : me_En X B sz (B, r.1, .ok (some (me_i r.2))) 1 22 0 0) (hNx : me_Nx X) (hB : me_St B)   (hf : f_M_places_b15 μ v1 s0 = some r) : me_Z X B 0 0 μ 15 [(0, me_r 36 0), (1, me_i v1)] [me_i s0, me_r 36 0] := by
  unfold f_M_places_b15 at hf
  refine me_iconst C (v := 1) dX12_places_15 (by decide) ?_
  obtain ⟨μ2, r1, h_r1, hf⟩ := me_bs2 hf
  refine me_callV C N  (As := [me_i s0, me_i (1 : Int32)]) (st := []) 0 0 (c_M_isThrown hB h_r1) mv_M_isThrown ml_M_155 rfl rfl dX12_places_16 rfl rfl ⟨by decide, by decide⟩ ⟨by decide, by decide, by decide, by decide⟩ (Nat.le_of_ble_eq_true rfl) ?_
  refine me_if_eq C (tgt := 24) dX12_places_19 (by decide) (fun c3 => ?_) (fun c3 => ?_)
  · replace hf := me_ip c3 hf
    refine me_aload_n C 0 (Or.inr (Or.inl ⟨_, rfl⟩)) dX12_places_24 rfl rfl ?_
    refine me_geti C 2 fg_M_16 dX12_places_25 rfl ?_
    obtain ⟨x4, e_x4, hf⟩ := me_lts hf
    refine me_nm e_x4 ?_
    refine me_istore_n C 2 dX12_places_28 rfl (by decide) (L' := [(2, me_i x4), (0, me_r 36 0), (1, me_i v1)]) rfl ?_
    refine me_aload_n C 0 (Or.inr (Or.inl ⟨_, rfl⟩)) dX12_places_29 rfl rfl ?_
    refine me_iload_n C 1 dX12_places_30 rfl rfl ?_
    obtain ⟨μ5, e_μ5, hf⟩ := me_lts hf
    refine me_puti C 2 fw_M_16 dX12_places_31 rfl (me_nri _) e_μ5 ?_
    refine me_iload_n C 2 dX12_places_34 rfl rfl ?_
    exact me_iret C N dX12_places_35 (me_nri _) (by cases hf; rfl) (by decide) (by decide)
  · replace hf := me_in c3 hf
    refine me_iconst C (v := 0) dX12_places_22 (by decide) ?_
    exact me_iret C N dX12_places_23 (me_nri _) (by cases hf; rfl) (by decide) (by decide)
def f_M_places (μ : me_M) (v1 : Int32) : Option (me_M × Int32) :=
  me_bd (f_M_isIn μ v1 (1 : Int32) (4 : Int32)) (fun r1 =>
  if r1 = 0 then
  (f_M_places_b15 μ v1 (1 : Int32))
  else
  (f_M_places_b15 μ v1 (0 : Int32)))
set_option maxHeartbeats 4000000 in
set_option maxRecDepth 100000 in
theorem z_M_places {X : me_X} {B : me_B} {sz : Nat} (C : me_C X B RX12 cX12_places 3 (some .int)) {μ : me_M} {v1 : Int32}   {r : me_M × Int32} (N : me_En X B sz (B, r.1, .ok (some (me_i r.2))) 1 22 0 0) (hNx : me_Nx X) (hB : me_St B)   (hf : f_M_places μ v1 = some r) : me_Z X B 0 0 μ 0 [(0, me_r 36 0), (1, me_i v1)] [] := by
  unfold f_M_places at hf
  refine me_aload_n C 0 (Or.inr (Or.inl ⟨_, rfl⟩)) dX12_places_0 rfl rfl ?_
  refine me_iload_n C 1 dX12_places_1 rfl rfl ?_
  refine me_iconst C (v := 1) dX12_places_2 (by decide) ?_
  refine me_iconst C (v := 4) dX12_places_3 (by decide) ?_
  obtain ⟨r1, h_r1, hf⟩ := me_bs hf
  refine me_callS C N  (As := [me_i v1, me_i (1 : Int32), me_i (4 : Int32)]) (st := [me_r 36 0]) 0 0 (c_M_isIn hB h_r1) ms_M_isIn ml_M_148 dX12_places_4 rfl rfl ⟨by decide, by decide⟩ ⟨by decide, by decide, by decide, by decide⟩ (Nat.le_of_ble_eq_true rfl) ?_
  refine me_if_ne C (tgt := 14) dX12_places_7 (by decide) (fun c2 => ?_) (fun c2 => ?_)
  · replace hf := me_in c2 hf
    refine me_iconst C (v := 0) dX12_places_14 (by decide) ?_
    refine me_dropI [(0, me_r 36 0), (1, me_i v1)] [0, 1] rfl ?_
    exact z_M_places_b15 C N hNx hB hf
  · replace hf := me_ip c2 hf
    refine me_iconst C (v := 1) dX12_places_10 (by decide) ?_
    refine me_goto C (tgt := 15) dX12_places_11 (by decide) ?_
    refine me_dropI [(0, me_r 36 0), (1, me_i v1)] [0, 1] rfl ?_
    exact z_M_places_b15 C N hNx hB hf
theorem c_M_places {B : me_B} (hB : me_St B) {μ : me_M} {v1 : Int32} {μ' : me_M} {r : Int32}  (hf : f_M_places μ v1 = some (μ', r)) : ∀ l E z, l.stackTraces = false → me_Met l yX12_places cX12_places 3 (some .int) 1 22 0 0 E B μ z [me_r 36 0, me_i v1] (B, μ', .ok (some (me_i r))) :=
  fun _ _ _ hl => me_ofZ hl (by decide +kernel) (Nat.le_of_ble_eq_true rfl) (fun _ C N hNx => z_M_places C N hNx hB  hf)

def f_M_isNoRow_b57 (μ : me_M) : Option (me_M × Int32) :=
  some (μ, (1 : Int32))
set_option maxHeartbeats 4000000 in
set_option maxRecDepth 100000 in
theorem z_M_isNoRow_b57 {X : me_X} {B : me_B} {sz : Nat} (C : me_C X B RX12 cX12_isNoRow 6 (some .boolean)) {μ : me_M}    {r : me_M × Int32} (N : me_En X B sz (B, r.1, .ok (some (me_i r.2))) 4 91 0 0) (hNx : me_Nx X) (hB : me_St B)   (hf : f_M_isNoRow_b57 μ = some r) : me_Z X B 0 0 μ 57 [] [] := by
  unfold f_M_isNoRow_b57 at hf
  refine me_iconst C (v := 1) dX12_isNoRow_57 (by decide) ?_
  refine me_goto C (tgt := 62) dX12_isNoRow_58 (by decide) ?_
  exact me_iret C N dX12_isNoRow_62 (by decide +kernel) (by cases hf; rfl) (by decide) (by decide)
def f_M_isNoRow_b50 (μ : me_M) (s0 : Int32) : Option (me_M × Int32) :=
  me_b2 (f_M_isThrown μ s0 (2 : Int32)) (fun μ2 r1 =>
  if r1 = 0 then
  (some (μ2, (0 : Int32)))
  else
  (f_M_isNoRow_b57 μ2))
set_option maxHeartbeats 4000000 in
set_option maxRecDepth 100000 in
theorem z_M_isNoRow_b50 {X : me_X} {B : me_B} {sz : Nat} (C : me_C X B RX12 cX12_isNoRow 6 (some .boolean)) {μ : me_M} {s0 : Int32}   {r : me_M × Int32} (N : me_En X B sz (B, r.1, .ok (some (me_i r.2))) 4 91 0 0) (hNx : me_Nx X) (hB : me_St B)   (hf : f_M_isNoRow_b50 μ s0 = some r) : me_Z X B 0 0 μ 50 [] [me_i s0, me_r 36 0] := by
  unfold f_M_isNoRow_b50 at hf
  refine me_iconst C (v := 2) dX12_isNoRow_50 (by decide) ?_
  obtain ⟨μ2, r1, h_r1, hf⟩ := me_bs2 hf
  refine me_callV C N  (As := [me_i s0, me_i (2 : Int32)]) (st := []) 0 0 (c_M_isThrown hB h_r1) mv_M_isThrown ml_M_155 rfl rfl dX12_isNoRow_51 rfl rfl ⟨by decide, by decide⟩ ⟨by decide, by decide, by decide, by decide⟩ (Nat.le_of_ble_eq_true rfl) ?_
  refine me_if_eq C (tgt := 61) dX12_isNoRow_54 (by decide) (fun c3 => ?_) (fun c3 => ?_)
  · replace hf := me_ip c3 hf
    refine me_iconst C (v := 0) dX12_isNoRow_61 (by decide) ?_
    exact me_iret C N dX12_isNoRow_62 (by decide +kernel) (by cases hf; rfl) (by decide) (by decide)
  · replace hf := me_in c3 hf
    refine me_dropI [] [] rfl ?_
    exact z_M_isNoRow_b57 C N hNx hB hf
def f_M_isNoRow_b45 (μ : me_M) : Option (me_M × Int32) :=
  f_M_isNoRow_b50 μ (1 : Int32)
set_option maxHeartbeats 4000000 in
set_option maxRecDepth 100000 in
theorem z_M_isNoRow_b45 {X : me_X} {B : me_B} {sz : Nat} (C : me_C X B RX12 cX12_isNoRow 6 (some .boolean)) {μ : me_M}    {r : me_M × Int32} (N : me_En X B sz (B, r.1, .ok (some (me_i r.2))) 4 91 0 0) (hNx : me_Nx X) (hB : me_St B)   (hf : f_M_isNoRow_b45 μ = some r) : me_Z X B 0 0 μ 45 [] [me_r 36 0] := by
  unfold f_M_isNoRow_b45 at hf
  refine me_iconst C (v := 1) dX12_isNoRow_45 (by decide) ?_
  refine me_goto C (tgt := 50) dX12_isNoRow_46 (by decide) ?_
  refine me_dropI [] [] rfl ?_
  exact z_M_isNoRow_b50 C N hNx hB hf
def f_M_isNoRow (μ : me_M) (v1 : Int32) (v2 : Int32) (v3 : Int32) (v4 : Int32) : Option (me_M × Int32) :=
  me_bd (f_Str_indexOf1 μ 1 v2) (fun r1 =>
  me_bd (f_M_isNoNode μ v1) (fun r2 =>
  me_b2 (f_M_isThrown μ r2 (1 : Int32)) (fun μ4 r3 =>
  if r3 = 0 then
  (me_bd (f_M_isIn μ4 r1 (0 : Int32) (v4 - (1 : Int32))) (fun r6 =>
  if r6 = 0 then
  (f_M_isNoRow_b45 μ4)
  else
  (me_bd (f_M_isIn μ4 v3 (0 : Int32) (1 : Int32)) (fun r8 =>
  if r8 = 0 then
  (f_M_isNoRow_b45 μ4)
  else
  (f_M_isNoRow_b50 μ4 (0 : Int32))))))
  else
  (f_M_isNoRow_b57 μ4))))
set_option maxHeartbeats 4000000 in
set_option maxRecDepth 100000 in
theorem z_M_isNoRow {X : me_X} {B : me_B} {sz : Nat} (C : me_C X B RX12 cX12_isNoRow 6 (some .boolean)) {μ : me_M} {v1 : Int32} {v2 : Int32} {v3 : Int32} {v4 : Int32}   {r : me_M × Int32} (N : me_En X B sz (B, r.1, .ok (some (me_i r.2))) 4 91 0 0) (hNx : me_Nx X) (hB : me_St B)   (hf : f_M_isNoRow μ v1 v2 v3 v4 = some r) : me_Z X B 0 0 μ 0 [(0, me_r 36 0), (1, me_i v1), (2, me_i v2), (3, me_i v3), (4, me_i v4)] [] := by
  unfold f_M_isNoRow at hf
  refine me_ldcSw C sx_M_289 dX12_isNoRow_0 ?_
  refine me_iload_n C 2 dX12_isNoRow_3 rfl rfl ?_
  obtain ⟨r1, h_r1, hf⟩ := me_bs hf
  refine me_callG C N (by decide) (As := [me_i v2]) (st := []) 0 0 (c_Str_indexOf1 hB (by decide) h_r1) mv_Str_indexOf1 ml_M_278 rfl dX12_isNoRow_4 rfl rfl ⟨by decide, by decide⟩ ⟨by decide, by decide, by decide, by decide⟩ (Nat.le_of_ble_eq_true rfl) ?_
  refine me_istore C dX12_isNoRow_7 (by decide) (L' := [(5, me_i r1), (0, me_r 36 0), (1, me_i v1), (2, me_i v2), (3, me_i v3), (4, me_i v4)]) rfl ?_
  refine me_aload_n C 0 (Or.inr (Or.inl ⟨_, rfl⟩)) dX12_isNoRow_9 rfl rfl ?_
  refine me_aload_n C 0 (Or.inr (Or.inl ⟨_, rfl⟩)) dX12_isNoRow_10 rfl rfl ?_
  refine me_iload_n C 1 dX12_isNoRow_11 rfl rfl ?_
  obtain ⟨r2, h_r2, hf⟩ := me_bs hf
  refine me_callV C N  (As := [me_i v1]) (st := [me_r 36 0]) 0 0 (c_M_isNoNode hB h_r2) mv_M_isNoNode ml_M_165 rfl rfl dX12_isNoRow_12 rfl rfl ⟨by decide, by decide⟩ ⟨by decide, by decide, by decide, by decide⟩ (Nat.le_of_ble_eq_true rfl) ?_
  refine me_iconst C (v := 1) dX12_isNoRow_15 (by decide) ?_
  obtain ⟨μ4, r3, h_r3, hf⟩ := me_bs2 hf
  refine me_callV C N  (As := [me_i r2, me_i (1 : Int32)]) (st := []) 0 0 (c_M_isThrown hB h_r3) mv_M_isThrown ml_M_155 rfl rfl dX12_isNoRow_16 rfl rfl ⟨by decide, by decide⟩ ⟨by decide, by decide, by decide, by decide⟩ (Nat.le_of_ble_eq_true rfl) ?_
  refine me_if_ne C (tgt := 57) dX12_isNoRow_19 (by decide) (fun c5 => ?_) (fun c5 => ?_)
  · replace hf := me_in c5 hf
    refine me_dropI [] [] rfl ?_
    exact z_M_isNoRow_b57 C N hNx hB hf
  · replace hf := me_ip c5 hf
    refine me_aload_n C 0 (Or.inr (Or.inl ⟨_, rfl⟩)) dX12_isNoRow_22 rfl rfl ?_
    refine me_iload C dX12_isNoRow_23 rfl ?_
    refine me_iconst C (v := 0) dX12_isNoRow_25 (by decide) ?_
    refine me_iload C dX12_isNoRow_26 rfl ?_
    refine me_iconst C (v := 1) dX12_isNoRow_28 (by decide) ?_
    refine me_isub C dX12_isNoRow_29 ?_
    obtain ⟨r6, h_r6, hf⟩ := me_bs hf
    refine me_callS C N  (As := [me_i r1, me_i (0 : Int32), me_i (v4 - (1 : Int32))]) (st := [me_r 36 0]) 0 0 (c_M_isIn hB h_r6) ms_M_isIn ml_M_148 dX12_isNoRow_30 rfl rfl ⟨by decide, by decide⟩ ⟨by decide, by decide, by decide, by decide⟩ (Nat.le_of_ble_eq_true rfl) ?_
    refine me_if_eq C (tgt := 45) dX12_isNoRow_33 (by decide) (fun c7 => ?_) (fun c7 => ?_)
    · replace hf := me_ip c7 hf
      refine me_dropI [] [] rfl ?_
      exact z_M_isNoRow_b45 C N hNx hB hf
    · replace hf := me_in c7 hf
      refine me_iload_n C 3 dX12_isNoRow_36 rfl rfl ?_
      refine me_iconst C (v := 0) dX12_isNoRow_37 (by decide) ?_
      refine me_iconst C (v := 1) dX12_isNoRow_38 (by decide) ?_
      obtain ⟨r8, h_r8, hf⟩ := me_bs hf
      refine me_callS C N  (As := [me_i v3, me_i (0 : Int32), me_i (1 : Int32)]) (st := [me_r 36 0]) 0 0 (c_M_isIn hB h_r8) ms_M_isIn ml_M_148 dX12_isNoRow_39 rfl rfl ⟨by decide, by decide⟩ ⟨by decide, by decide, by decide, by decide⟩ (Nat.le_of_ble_eq_true rfl) ?_
      refine me_if_ne C (tgt := 49) dX12_isNoRow_42 (by decide) (fun c9 => ?_) (fun c9 => ?_)
      · replace hf := me_in c9 hf
        refine me_iconst C (v := 0) dX12_isNoRow_49 (by decide) ?_
        refine me_dropI [] [] rfl ?_
        exact z_M_isNoRow_b50 C N hNx hB hf
      · replace hf := me_ip c9 hf
        refine me_dropI [] [] rfl ?_
        exact z_M_isNoRow_b45 C N hNx hB hf
theorem c_M_isNoRow {B : me_B} (hB : me_St B) {μ : me_M} {v1 : Int32} {v2 : Int32} {v3 : Int32} {v4 : Int32} {μ' : me_M} {r : Int32}  (hf : f_M_isNoRow μ v1 v2 v3 v4 = some (μ', r)) : ∀ l E z, l.stackTraces = false → me_Met l yX12_isNoRow cX12_isNoRow 6 (some .boolean) 4 91 0 0 E B μ z [me_r 36 0, me_i v1, me_i v2, me_i v3, me_i v4] (B, μ', .ok (some (me_i r))) :=
  fun _ _ _ hl => me_ofZ hl (by decide +kernel) (Nat.le_of_ble_eq_true rfl) (fun _ C N hNx => z_M_isNoRow C N hNx hB  hf)

def f_M_row (μ : me_M) (v1 : Int32) (v2 : Int32) (v3 : Int32) : Option (me_M × Int32) :=
  me_b2 (f_M_isNoRow μ v1 v2 v3 (5 : Int32)) (fun μ2 r1 =>
  if r1 = 0 then
  (me_gd (me_inb v1 16) (
  me_gd (me_inb v3 2) (
  me_bd (f_Str_indexOf1 μ2 1 v2) (fun r6 =>
  me_gd (me_inb r6 5) (
  some (μ2, (μ2 60 (2 * (me_ix v1) + (me_ix v3)) (me_ix r6))))))))
  else
  (some (μ2, (0 : Int32))))
set_option maxHeartbeats 4000000 in
set_option maxRecDepth 100000 in
theorem z_M_row {X : me_X} {B : me_B} {sz : Nat} (C : me_C X B RX12 cX12_row 4 (some .int)) {μ : me_M} {v1 : Int32} {v2 : Int32} {v3 : Int32}   {r : me_M × Int32} (N : me_En X B sz (B, r.1, .ok (some (me_i r.2))) 5 116 0 0) (hNx : me_Nx X) (hB : me_St B)   (hf : f_M_row μ v1 v2 v3 = some r) : me_Z X B 0 0 μ 0 [(0, me_r 36 0), (1, me_i v1), (2, me_i v2), (3, me_i v3)] [] := by
  unfold f_M_row at hf
  refine me_aload_n C 0 (Or.inr (Or.inl ⟨_, rfl⟩)) dX12_row_0 rfl rfl ?_
  refine me_iload_n C 1 dX12_row_1 rfl rfl ?_
  refine me_iload_n C 2 dX12_row_2 rfl rfl ?_
  refine me_iload_n C 3 dX12_row_3 rfl rfl ?_
  refine me_iconst C (v := 5) dX12_row_4 (by decide) ?_
  obtain ⟨μ2, r1, h_r1, hf⟩ := me_bs2 hf
  refine me_callV C N  (As := [me_i v1, me_i v2, me_i v3, me_i (5 : Int32)]) (st := []) 0 0 (c_M_isNoRow hB h_r1) mv_M_isNoRow ml_M_291 rfl rfl dX12_row_5 rfl rfl ⟨by decide, by decide⟩ ⟨by decide, by decide, by decide, by decide⟩ (Nat.le_of_ble_eq_true rfl) ?_
  refine me_if_eq C (tgt := 15) dX12_row_8 (by decide) (fun c3 => ?_) (fun c3 => ?_)
  · replace hf := me_ip c3 hf
    refine me_aload_n C 0 (Or.inr (Or.inl ⟨_, rfl⟩)) dX12_row_15 rfl rfl ?_
    refine me_getr C hB 22 (k' := 58) (i' := 0) fg_M_75 dX12_row_16 rfl rfl ?_
    refine me_iload_n C 1 dX12_row_19 rfl rfl ?_
    obtain ⟨g4, hf⟩ := me_gs hf
    refine me_aald C hB (k' := 59) (i' := (me_ix v1)) rfl (fun _ => rfl) rfl g4 dX12_row_20 rfl ?_
    refine me_iload_n C 3 dX12_row_21 rfl rfl ?_
    obtain ⟨g5, hf⟩ := me_gs hf
    refine me_aald C hB (k' := 60) (i' := 2 * (me_ix v1) + (me_ix v3)) rfl (fun _ => rfl) rfl g5 dX12_row_22 rfl ?_
    refine me_ldcSw C sx_M_289 dX12_row_23 ?_
    refine me_iload_n C 2 dX12_row_26 rfl rfl ?_
    obtain ⟨r6, h_r6, hf⟩ := me_bs hf
    refine me_callG C N (by decide) (As := [me_i v2]) (st := [me_r 60 (2 * (me_ix v1) + (me_ix v3))]) 0 0 (c_Str_indexOf1 hB (by decide) h_r6) mv_Str_indexOf1 ml_M_278 rfl dX12_row_27 rfl rfl ⟨by decide, by decide⟩ ⟨by decide, by decide, by decide, by decide⟩ (Nat.le_of_ble_eq_true rfl) ?_
    obtain ⟨g7, hf⟩ := me_gs hf
    refine me_iald C rfl (fun _ => rfl) g7 dX12_row_30 ?_
    exact me_iret C N dX12_row_31 (me_nri _) (by cases hf; rfl) (by decide) (by decide)
  · replace hf := me_in c3 hf
    refine me_iconst C (v := 0) dX12_row_11 (by decide) ?_
    refine me_goto C (tgt := 31) dX12_row_12 (by decide) ?_
    exact me_iret C N dX12_row_31 (me_nri _) (by cases hf; rfl) (by decide) (by decide)
theorem c_M_row {B : me_B} (hB : me_St B) {μ : me_M} {v1 : Int32} {v2 : Int32} {v3 : Int32} {μ' : me_M} {r : Int32}  (hf : f_M_row μ v1 v2 v3 = some (μ', r)) : ∀ l E z, l.stackTraces = false → me_Met l yX12_row cX12_row 4 (some .int) 5 116 0 0 E B μ z [me_r 36 0, me_i v1, me_i v2, me_i v3] (B, μ', .ok (some (me_i r))) :=
  fun _ _ _ hl => me_ofZ hl (by decide +kernel) (Nat.le_of_ble_eq_true rfl) (fun _ C N hNx => z_M_row C N hNx hB  hf)

def f_M_owner (μ : me_M) (v1 : Int32) (v2 : Int32) (v3 : Int32) : Option (me_M × Int32) :=
  me_b2 (f_M_isNoRow μ v1 v2 v3 (4 : Int32)) (fun μ2 r1 =>
  if r1 = 0 then
  (me_gd (me_inb v1 16) (
  me_gd (me_inb v3 2) (
  me_bd (f_Str_indexOf1 μ2 1 v2) (fun r6 =>
  me_gd (me_inb r6 5) (
  some (μ2, (μ2 63 (2 * (me_ix v1) + (me_ix v3)) (me_ix r6))))))))
  else
  (some (μ2, (0 : Int32))))
set_option maxHeartbeats 4000000 in
set_option maxRecDepth 100000 in
theorem z_M_owner {X : me_X} {B : me_B} {sz : Nat} (C : me_C X B RX12 cX12_owner 4 (some .int)) {μ : me_M} {v1 : Int32} {v2 : Int32} {v3 : Int32}   {r : me_M × Int32} (N : me_En X B sz (B, r.1, .ok (some (me_i r.2))) 5 116 0 0) (hNx : me_Nx X) (hB : me_St B)   (hf : f_M_owner μ v1 v2 v3 = some r) : me_Z X B 0 0 μ 0 [(0, me_r 36 0), (1, me_i v1), (2, me_i v2), (3, me_i v3)] [] := by
  unfold f_M_owner at hf
  refine me_aload_n C 0 (Or.inr (Or.inl ⟨_, rfl⟩)) dX12_owner_0 rfl rfl ?_
  refine me_iload_n C 1 dX12_owner_1 rfl rfl ?_
  refine me_iload_n C 2 dX12_owner_2 rfl rfl ?_
  refine me_iload_n C 3 dX12_owner_3 rfl rfl ?_
  refine me_iconst C (v := 4) dX12_owner_4 (by decide) ?_
  obtain ⟨μ2, r1, h_r1, hf⟩ := me_bs2 hf
  refine me_callV C N  (As := [me_i v1, me_i v2, me_i v3, me_i (4 : Int32)]) (st := []) 0 0 (c_M_isNoRow hB h_r1) mv_M_isNoRow ml_M_291 rfl rfl dX12_owner_5 rfl rfl ⟨by decide, by decide⟩ ⟨by decide, by decide, by decide, by decide⟩ (Nat.le_of_ble_eq_true rfl) ?_
  refine me_if_eq C (tgt := 15) dX12_owner_8 (by decide) (fun c3 => ?_) (fun c3 => ?_)
  · replace hf := me_ip c3 hf
    refine me_aload_n C 0 (Or.inr (Or.inl ⟨_, rfl⟩)) dX12_owner_15 rfl rfl ?_
    refine me_getr C hB 23 (k' := 61) (i' := 0) fg_M_78 dX12_owner_16 rfl rfl ?_
    refine me_iload_n C 1 dX12_owner_19 rfl rfl ?_
    obtain ⟨g4, hf⟩ := me_gs hf
    refine me_aald C hB (k' := 62) (i' := (me_ix v1)) rfl (fun _ => rfl) rfl g4 dX12_owner_20 rfl ?_
    refine me_iload_n C 3 dX12_owner_21 rfl rfl ?_
    obtain ⟨g5, hf⟩ := me_gs hf
    refine me_aald C hB (k' := 63) (i' := 2 * (me_ix v1) + (me_ix v3)) rfl (fun _ => rfl) rfl g5 dX12_owner_22 rfl ?_
    refine me_ldcSw C sx_M_289 dX12_owner_23 ?_
    refine me_iload_n C 2 dX12_owner_26 rfl rfl ?_
    obtain ⟨r6, h_r6, hf⟩ := me_bs hf
    refine me_callG C N (by decide) (As := [me_i v2]) (st := [me_r 63 (2 * (me_ix v1) + (me_ix v3))]) 0 0 (c_Str_indexOf1 hB (by decide) h_r6) mv_Str_indexOf1 ml_M_278 rfl dX12_owner_27 rfl rfl ⟨by decide, by decide⟩ ⟨by decide, by decide, by decide, by decide⟩ (Nat.le_of_ble_eq_true rfl) ?_
    obtain ⟨g7, hf⟩ := me_gs hf
    refine me_iald C rfl (fun _ => rfl) g7 dX12_owner_30 ?_
    exact me_iret C N dX12_owner_31 (me_nri _) (by cases hf; rfl) (by decide) (by decide)
  · replace hf := me_in c3 hf
    refine me_iconst C (v := 0) dX12_owner_11 (by decide) ?_
    refine me_goto C (tgt := 31) dX12_owner_12 (by decide) ?_
    exact me_iret C N dX12_owner_31 (me_nri _) (by cases hf; rfl) (by decide) (by decide)
theorem c_M_owner {B : me_B} (hB : me_St B) {μ : me_M} {v1 : Int32} {v2 : Int32} {v3 : Int32} {μ' : me_M} {r : Int32}  (hf : f_M_owner μ v1 v2 v3 = some (μ', r)) : ∀ l E z, l.stackTraces = false → me_Met l yX12_owner cX12_owner 4 (some .int) 5 116 0 0 E B μ z [me_r 36 0, me_i v1, me_i v2, me_i v3] (B, μ', .ok (some (me_i r))) :=
  fun _ _ _ hl => me_ofZ hl (by decide +kernel) (Nat.le_of_ble_eq_true rfl) (fun _ C N hNx => z_M_owner C N hNx hB  hf)

def f_M_fail_b62 (μ : me_M) (v1 : Int32) (v3 : Int32) (v4 : Int32) (s0 : Int32) : Option (me_M × Int32) :=
  me_b2 (f_M_isThrown μ s0 (3 : Int32)) (fun μ2 r1 =>
  if r1 = 0 then
  (me_gd (me_inb v1 16) (
  me_gd (me_inb v4 5) (
  me_lt ((μ2 74 (me_ix v1) (me_ix v4))) (fun x6 =>
  me_gd (me_inb v1 16) (
  me_gd (me_inb v4 5) (
  me_lt (me_up μ2 74 (me_ix v1) (me_ix v4) (vp_nar .boolean v3)) (fun μ9 =>
  me_bd (f_M_beside μ9 v1 v4) (fun r10 =>
  me_gd (me_inb r10 16) (
  me_gd (me_inb v4 4) (
  me_gd (me_inb (me_opn (me_ix v4)) 5) (
  me_lt (me_up μ9 74 (me_ix r10) (me_ix (me_opn (me_ix v4))) (vp_nar .boolean v3)) (fun μ14 =>
  me_gd (me_nr .boolean x6) (
  some (μ14, x6))))))))))))))
  else
  (some (μ2, (0 : Int32))))
set_option maxHeartbeats 4000000 in
set_option maxRecDepth 100000 in
theorem z_M_fail_b62 {X : me_X} {B : me_B} {sz : Nat} (C : me_C X B RX12 cX12_fail 6 (some .boolean)) {μ : me_M} {v1 : Int32} {v3 : Int32} {v4 : Int32} {s0 : Int32}   {r : me_M × Int32} (N : me_En X B sz (B, r.1, .ok (some (me_i r.2))) 4 91 0 0) (hNx : me_Nx X) (hB : me_St B)   (hf : f_M_fail_b62 μ v1 v3 v4 s0 = some r) : me_Z X B 0 0 μ 62 [(0, me_r 36 0), (1, me_i v1), (3, me_i v3), (4, me_i v4)] [me_i s0, me_r 36 0] := by
  unfold f_M_fail_b62 at hf
  refine me_iconst C (v := 3) dX12_fail_62 (by decide) ?_
  obtain ⟨μ2, r1, h_r1, hf⟩ := me_bs2 hf
  refine me_callV C N  (As := [me_i s0, me_i (3 : Int32)]) (st := []) 0 0 (c_M_isThrown hB h_r1) mv_M_isThrown ml_M_155 rfl rfl dX12_fail_63 rfl rfl ⟨by decide, by decide⟩ ⟨by decide, by decide, by decide, by decide⟩ (Nat.le_of_ble_eq_true rfl) ?_
  refine me_if_eq C (tgt := 71) dX12_fail_66 (by decide) (fun c3 => ?_) (fun c3 => ?_)
  · replace hf := me_ip c3 hf
    refine me_aload_n C 0 (Or.inr (Or.inl ⟨_, rfl⟩)) dX12_fail_71 rfl rfl ?_
    refine me_getr C hB 27 (k' := 73) (i' := 0) fg_M_92 dX12_fail_72 rfl rfl ?_
    refine me_iload_n C 1 dX12_fail_75 rfl rfl ?_
    obtain ⟨g4, hf⟩ := me_gs hf
    refine me_aald C hB (k' := 74) (i' := (me_ix v1)) rfl (fun _ => rfl) rfl g4 dX12_fail_76 rfl ?_
    refine me_iload C dX12_fail_77 rfl ?_
    obtain ⟨g5, hf⟩ := me_gs hf
    refine me_zald C rfl (fun _ => rfl) g5 dX12_fail_79 ?_
    obtain ⟨x6, e_x6, hf⟩ := me_lts hf
    refine me_nm e_x6 ?_
    refine me_istore C dX12_fail_80 (by decide) (L' := [(5, me_i x6), (0, me_r 36 0), (1, me_i v1), (3, me_i v3), (4, me_i v4)]) rfl ?_
    refine me_aload_n C 0 (Or.inr (Or.inl ⟨_, rfl⟩)) dX12_fail_82 rfl rfl ?_
    refine me_getr C hB 27 (k' := 73) (i' := 0) fg_M_92 dX12_fail_83 rfl rfl ?_
    refine me_iload_n C 1 dX12_fail_86 rfl rfl ?_
    obtain ⟨g7, hf⟩ := me_gs hf
    refine me_aald C hB (k' := 74) (i' := (me_ix v1)) rfl (fun _ => rfl) rfl g7 dX12_fail_87 rfl ?_
    refine me_iload C dX12_fail_88 rfl ?_
    refine me_iload_n C 3 dX12_fail_90 rfl rfl ?_
    obtain ⟨g8, hf⟩ := me_gs hf
    obtain ⟨μ9, e_μ9, hf⟩ := me_lts hf
    refine me_zast C rfl (fun _ => rfl) g8 dX12_fail_91 e_μ9 ?_
    refine me_aload_n C 0 (Or.inr (Or.inl ⟨_, rfl⟩)) dX12_fail_92 rfl rfl ?_
    refine me_getr C hB 27 (k' := 73) (i' := 0) fg_M_92 dX12_fail_93 rfl rfl ?_
    refine me_aload_n C 0 (Or.inr (Or.inl ⟨_, rfl⟩)) dX12_fail_96 rfl rfl ?_
    refine me_iload_n C 1 dX12_fail_97 rfl rfl ?_
    refine me_iload C dX12_fail_98 rfl ?_
    obtain ⟨r10, h_r10, hf⟩ := me_bs hf
    refine me_callV C N  (As := [me_i v1, me_i v4]) (st := [me_r 73 0]) 0 0 (c_M_beside hB h_r10) mv_M_beside ml_M_199 rfl rfl dX12_fail_100 rfl rfl ⟨by decide, by decide⟩ ⟨by decide, by decide, by decide, by decide⟩ (Nat.le_of_ble_eq_true rfl) ?_
    obtain ⟨g11, hf⟩ := me_gs hf
    refine me_aald C hB (k' := 74) (i' := (me_ix r10)) rfl (fun _ => rfl) rfl g11 dX12_fail_103 rfl ?_
    refine me_oppg C fl_M_202 dX12_fail_104 ?_
    refine me_iload C dX12_fail_107 rfl ?_
    obtain ⟨g12, hf⟩ := me_gs hf
    refine me_oppl C g12 dX12_fail_109 ?_
    refine me_iload_n C 3 dX12_fail_110 rfl rfl ?_
    obtain ⟨g13, hf⟩ := me_gs hf
    obtain ⟨μ14, e_μ14, hf⟩ := me_lts hf
    refine me_zast C rfl (fun _ => rfl) g13 dX12_fail_111 e_μ14 ?_
    refine me_iload C dX12_fail_112 rfl ?_
    obtain ⟨g15, hf⟩ := me_gs hf
    exact me_iret C N dX12_fail_114 g15 (by cases hf; rfl) (by decide) (by decide)
  · replace hf := me_in c3 hf
    refine me_iconst C (v := 0) dX12_fail_69 (by decide) ?_
    exact me_iret C N dX12_fail_70 (by decide +kernel) (by cases hf; rfl) (by decide) (by decide)
def f_M_fail_b38 (μ : me_M) (v1 : Int32) (v3 : Int32) (v4 : Int32) (s0 : Int32) : Option (me_M × Int32) :=
  me_b2 (f_M_isThrown μ s0 (2 : Int32)) (fun μ2 r1 =>
  if r1 = 0 then
  (me_bd (f_M_beside μ2 v1 v4) (fun r4 =>
  if r4 = (-1 : Int32) then
  (f_M_fail_b62 μ2 v1 v3 v4 (1 : Int32))
  else
  (f_M_fail_b62 μ2 v1 v3 v4 (0 : Int32))))
  else
  (some (μ2, (0 : Int32))))
set_option maxHeartbeats 4000000 in
set_option maxRecDepth 100000 in
theorem z_M_fail_b38 {X : me_X} {B : me_B} {sz : Nat} (C : me_C X B RX12 cX12_fail 6 (some .boolean)) {μ : me_M} {v1 : Int32} {v3 : Int32} {v4 : Int32} {s0 : Int32}   {r : me_M × Int32} (N : me_En X B sz (B, r.1, .ok (some (me_i r.2))) 4 91 0 0) (hNx : me_Nx X) (hB : me_St B)   (hf : f_M_fail_b38 μ v1 v3 v4 s0 = some r) : me_Z X B 0 0 μ 38 [(0, me_r 36 0), (1, me_i v1), (3, me_i v3), (4, me_i v4)] [me_i s0, me_r 36 0] := by
  unfold f_M_fail_b38 at hf
  refine me_iconst C (v := 2) dX12_fail_38 (by decide) ?_
  obtain ⟨μ2, r1, h_r1, hf⟩ := me_bs2 hf
  refine me_callV C N  (As := [me_i s0, me_i (2 : Int32)]) (st := []) 0 0 (c_M_isThrown hB h_r1) mv_M_isThrown ml_M_155 rfl rfl dX12_fail_39 rfl rfl ⟨by decide, by decide⟩ ⟨by decide, by decide, by decide, by decide⟩ (Nat.le_of_ble_eq_true rfl) ?_
  refine me_if_ne C (tgt := 69) dX12_fail_42 (by decide) (fun c3 => ?_) (fun c3 => ?_)
  · replace hf := me_in c3 hf
    refine me_iconst C (v := 0) dX12_fail_69 (by decide) ?_
    exact me_iret C N dX12_fail_70 (by decide +kernel) (by cases hf; rfl) (by decide) (by decide)
  · replace hf := me_ip c3 hf
    refine me_aload_n C 0 (Or.inr (Or.inl ⟨_, rfl⟩)) dX12_fail_45 rfl rfl ?_
    refine me_aload_n C 0 (Or.inr (Or.inl ⟨_, rfl⟩)) dX12_fail_46 rfl rfl ?_
    refine me_iload_n C 1 dX12_fail_47 rfl rfl ?_
    refine me_iload C dX12_fail_48 rfl ?_
    obtain ⟨r4, h_r4, hf⟩ := me_bs hf
    refine me_callV C N  (As := [me_i v1, me_i v4]) (st := [me_r 36 0]) 0 0 (c_M_beside hB h_r4) mv_M_beside ml_M_199 rfl rfl dX12_fail_50 rfl rfl ⟨by decide, by decide⟩ ⟨by decide, by decide, by decide, by decide⟩ (Nat.le_of_ble_eq_true rfl) ?_
    refine me_iconst C (v := -1) dX12_fail_53 (by decide) ?_
    refine me_icmp_ne C (tgt := 61) dX12_fail_54 (by decide) (fun c5 => ?_) (fun c5 => ?_)
    · replace hf := me_in c5 hf
      refine me_iconst C (v := 0) dX12_fail_61 (by decide) ?_
      refine me_dropI [(0, me_r 36 0), (1, me_i v1), (3, me_i v3), (4, me_i v4)] [0, 1, 2, 3] rfl ?_
      exact z_M_fail_b62 C N hNx hB hf
    · replace hf := me_ip c5 hf
      refine me_iconst C (v := 1) dX12_fail_57 (by decide) ?_
      refine me_goto C (tgt := 62) dX12_fail_58 (by decide) ?_
      refine me_dropI [(0, me_r 36 0), (1, me_i v1), (3, me_i v3), (4, me_i v4)] [0, 1, 2, 3] rfl ?_
      exact z_M_fail_b62 C N hNx hB hf
def f_M_fail (μ : me_M) (v1 : Int32) (v2 : Int32) (v3 : Int32) : Option (me_M × Int32) :=
  me_bd (f_Str_indexOf1 μ 1 v2) (fun r1 =>
  me_bd (f_M_isNoNode μ v1) (fun r2 =>
  me_b2 (f_M_isThrown μ r2 (1 : Int32)) (fun μ4 r3 =>
  if r3 = 0 then
  (me_bd (f_M_isIn μ4 r1 (0 : Int32) (3 : Int32)) (fun r6 =>
  if r6 = 0 then
  (f_M_fail_b38 μ4 v1 v3 r1 (1 : Int32))
  else
  (f_M_fail_b38 μ4 v1 v3 r1 (0 : Int32))))
  else
  (some (μ4, (0 : Int32))))))
set_option maxHeartbeats 4000000 in
set_option maxRecDepth 100000 in
theorem z_M_fail {X : me_X} {B : me_B} {sz : Nat} (C : me_C X B RX12 cX12_fail 6 (some .boolean)) {μ : me_M} {v1 : Int32} {v2 : Int32} {v3 : Int32}   {r : me_M × Int32} (N : me_En X B sz (B, r.1, .ok (some (me_i r.2))) 4 91 0 0) (hNx : me_Nx X) (hB : me_St B)   (hf : f_M_fail μ v1 v2 v3 = some r) : me_Z X B 0 0 μ 0 [(0, me_r 36 0), (1, me_i v1), (2, me_i v2), (3, me_i v3)] [] := by
  unfold f_M_fail at hf
  refine me_ldcSw C sx_M_289 dX12_fail_0 ?_
  refine me_iload_n C 2 dX12_fail_3 rfl rfl ?_
  obtain ⟨r1, h_r1, hf⟩ := me_bs hf
  refine me_callG C N (by decide) (As := [me_i v2]) (st := []) 0 0 (c_Str_indexOf1 hB (by decide) h_r1) mv_Str_indexOf1 ml_M_278 rfl dX12_fail_4 rfl rfl ⟨by decide, by decide⟩ ⟨by decide, by decide, by decide, by decide⟩ (Nat.le_of_ble_eq_true rfl) ?_
  refine me_istore C dX12_fail_7 (by decide) (L' := [(4, me_i r1), (0, me_r 36 0), (1, me_i v1), (2, me_i v2), (3, me_i v3)]) rfl ?_
  refine me_aload_n C 0 (Or.inr (Or.inl ⟨_, rfl⟩)) dX12_fail_9 rfl rfl ?_
  refine me_aload_n C 0 (Or.inr (Or.inl ⟨_, rfl⟩)) dX12_fail_10 rfl rfl ?_
  refine me_iload_n C 1 dX12_fail_11 rfl rfl ?_
  obtain ⟨r2, h_r2, hf⟩ := me_bs hf
  refine me_callV C N  (As := [me_i v1]) (st := [me_r 36 0]) 0 0 (c_M_isNoNode hB h_r2) mv_M_isNoNode ml_M_165 rfl rfl dX12_fail_12 rfl rfl ⟨by decide, by decide⟩ ⟨by decide, by decide, by decide, by decide⟩ (Nat.le_of_ble_eq_true rfl) ?_
  refine me_iconst C (v := 1) dX12_fail_15 (by decide) ?_
  obtain ⟨μ4, r3, h_r3, hf⟩ := me_bs2 hf
  refine me_callV C N  (As := [me_i r2, me_i (1 : Int32)]) (st := []) 0 0 (c_M_isThrown hB h_r3) mv_M_isThrown ml_M_155 rfl rfl dX12_fail_16 rfl rfl ⟨by decide, by decide⟩ ⟨by decide, by decide, by decide, by decide⟩ (Nat.le_of_ble_eq_true rfl) ?_
  refine me_if_ne C (tgt := 69) dX12_fail_19 (by decide) (fun c5 => ?_) (fun c5 => ?_)
  · replace hf := me_in c5 hf
    refine me_iconst C (v := 0) dX12_fail_69 (by decide) ?_
    exact me_iret C N dX12_fail_70 (by decide +kernel) (by cases hf; rfl) (by decide) (by decide)
  · replace hf := me_ip c5 hf
    refine me_aload_n C 0 (Or.inr (Or.inl ⟨_, rfl⟩)) dX12_fail_22 rfl rfl ?_
    refine me_iload C dX12_fail_23 rfl ?_
    refine me_iconst C (v := 0) dX12_fail_25 (by decide) ?_
    refine me_iconst C (v := 3) dX12_fail_26 (by decide) ?_
    obtain ⟨r6, h_r6, hf⟩ := me_bs hf
    refine me_callS C N  (As := [me_i r1, me_i (0 : Int32), me_i (3 : Int32)]) (st := [me_r 36 0]) 0 0 (c_M_isIn hB h_r6) ms_M_isIn ml_M_148 dX12_fail_27 rfl rfl ⟨by decide, by decide⟩ ⟨by decide, by decide, by decide, by decide⟩ (Nat.le_of_ble_eq_true rfl) ?_
    refine me_if_ne C (tgt := 37) dX12_fail_30 (by decide) (fun c7 => ?_) (fun c7 => ?_)
    · replace hf := me_in c7 hf
      refine me_iconst C (v := 0) dX12_fail_37 (by decide) ?_
      refine me_dropI [(0, me_r 36 0), (1, me_i v1), (3, me_i v3), (4, me_i r1)] [1, 2, 4, 0] rfl ?_
      exact z_M_fail_b38 C N hNx hB hf
    · replace hf := me_ip c7 hf
      refine me_iconst C (v := 1) dX12_fail_33 (by decide) ?_
      refine me_goto C (tgt := 38) dX12_fail_34 (by decide) ?_
      refine me_dropI [(0, me_r 36 0), (1, me_i v1), (3, me_i v3), (4, me_i r1)] [1, 2, 4, 0] rfl ?_
      exact z_M_fail_b38 C N hNx hB hf
theorem c_M_fail {B : me_B} (hB : me_St B) {μ : me_M} {v1 : Int32} {v2 : Int32} {v3 : Int32} {μ' : me_M} {r : Int32}  (hf : f_M_fail μ v1 v2 v3 = some (μ', r)) : ∀ l E z, l.stackTraces = false → me_Met l yX12_fail cX12_fail 6 (some .boolean) 4 91 0 0 E B μ z [me_r 36 0, me_i v1, me_i v2, me_i v3] (B, μ', .ok (some (me_i r))) :=
  fun _ _ _ hl => me_ofZ hl (by decide +kernel) (Nat.le_of_ble_eq_true rfl) (fun _ C N hNx => z_M_fail C N hNx hB  hf)

def f_M_sleep_b79 (K31 : me_M → Int32 → Int32 → Int32 → Option (me_M × Int32)) (K39 : me_M → Int32 → Int32 → Int32 → Int32 → Option (me_M × Int32)) (μ : me_M) (v1 : Int32) (v3 : Int32) (v4 : Int32) (s0 : Int32) : Option (me_M × Int32) :=
  me_lt ((s0 &&& (0 : Int32))) (fun x1 =>
  me_lt (me_inc v4 (1)) (fun x2 =>
  K39 μ v1 x1 v3 x2))
set_option maxHeartbeats 4000000 in
set_option maxRecDepth 100000 in
theorem z_M_sleep_b79 {X : me_X} {B : me_B} {sz : Nat} (C : me_C X B RX12 cX12_sleep 5 (some .boolean)) {μ : me_M} {v1 : Int32} {v3 : Int32} {v4 : Int32} {s0 : Int32}  {K31 : me_M → Int32 → Int32 → Int32 → Option (me_M × Int32)} {K39 : me_M → Int32 → Int32 → Int32 → Int32 → Option (me_M × Int32)} {r : me_M × Int32} (N : me_En X B sz (B, r.1, .ok (some (me_i r.2))) 2 43 0 0) (hNx : me_Nx X) (hB : me_St B) (hK31 : ∀ (μ : me_M) (v1 : Int32) (v2 : Int32) (v3 : Int32), K31 μ v1 v2 v3 = some r → me_Z X B 0 0 μ 31 [(0, me_r 36 0), (1, me_i v1), (2, me_i v2), (3, me_i v3)] []) (hK39 : ∀ (μ : me_M) (v1 : Int32) (v2 : Int32) (v3 : Int32) (v4 : Int32), K39 μ v1 v2 v3 v4 = some r → me_Z X B 0 0 μ 39 [(0, me_r 36 0), (1, me_i v1), (2, me_i v2), (3, me_i v3), (4, me_i v4)] [])  (hf : f_M_sleep_b79 K31 K39 μ v1 v3 v4 s0 = some r) : me_Z X B 0 0 μ 79 [(0, me_r 36 0), (1, me_i v1), (3, me_i v3), (4, me_i v4)] [me_i s0] := by
  unfold f_M_sleep_b79 at hf
  refine me_iconst C (v := 0) dX12_sleep_79 (by decide) ?_
  refine me_iand C dX12_sleep_80 ?_
  obtain ⟨x1, e_x1, hf⟩ := me_lts hf
  refine me_nm e_x1 ?_
  refine me_istore_n C 2 dX12_sleep_81 rfl (by decide) (L' := [(2, me_i x1), (0, me_r 36 0), (1, me_i v1), (3, me_i v3), (4, me_i v4)]) rfl ?_
  obtain ⟨x2, e_x2, hf⟩ := me_lts hf
  refine me_iinc C (v := x2) (L' := [(4, me_i x2), (2, me_i x1), (0, me_r 36 0), (1, me_i v1), (3, me_i v3)]) dX12_sleep_82 rfl e_x2.symm (by decide) rfl ?_
  refine me_goto C (tgt := 39) dX12_sleep_85 (by decide) ?_
  refine me_dropI [(0, me_r 36 0), (1, me_i v1), (2, me_i x1), (3, me_i v3), (4, me_i x2)] [2, 3, 1, 4, 0] rfl ?_
  exact hK39 μ v1 x1 v3 x2 hf
def f_M_sleep_b39 (K31 : me_M → Int32 → Int32 → Int32 → Option (me_M × Int32)) (K39 : me_M → Int32 → Int32 → Int32 → Int32 → Option (me_M × Int32)) (μ : me_M) (v1 : Int32) (v2 : Int32) (v3 : Int32) (v4 : Int32) : Option (me_M × Int32) :=
  if (5 : Int32) ≤ v4 then
  (me_lt (me_inc v3 (1)) (fun x2 =>
  K31 μ v1 v2 x2))
  else
  (me_gd (me_inb v1 16) (
  me_gd (me_inb v3 2) (
  me_gd (me_inb v4 5) (
  if (μ 60 (2 * (me_ix v1) + (me_ix v3)) (me_ix v4)) = 0 then
  (me_gd (me_inb v1 16) (
  me_gd (me_inb v3 2) (
  me_gd (me_inb v4 5) (
  if (μ 63 (2 * (me_ix v1) + (me_ix v3)) (me_ix v4)) = (-1 : Int32) then
  (me_lt ((v2 &&& (1 : Int32))) (fun x11 =>
  me_lt (me_inc v4 (1)) (fun x12 =>
  K39 μ v1 x11 v3 x12)))
  else
  (f_M_sleep_b79 K31 K39 μ v1 v3 v4 v2)))))
  else
  (f_M_sleep_b79 K31 K39 μ v1 v3 v4 v2)))))
set_option maxHeartbeats 4000000 in
set_option maxRecDepth 100000 in
theorem z_M_sleep_b39 {X : me_X} {B : me_B} {sz : Nat} (C : me_C X B RX12 cX12_sleep 5 (some .boolean)) {μ : me_M} {v1 : Int32} {v2 : Int32} {v3 : Int32} {v4 : Int32}  {K31 : me_M → Int32 → Int32 → Int32 → Option (me_M × Int32)} {K39 : me_M → Int32 → Int32 → Int32 → Int32 → Option (me_M × Int32)} {r : me_M × Int32} (N : me_En X B sz (B, r.1, .ok (some (me_i r.2))) 2 43 0 0) (hNx : me_Nx X) (hB : me_St B) (hK31 : ∀ (μ : me_M) (v1 : Int32) (v2 : Int32) (v3 : Int32), K31 μ v1 v2 v3 = some r → me_Z X B 0 0 μ 31 [(0, me_r 36 0), (1, me_i v1), (2, me_i v2), (3, me_i v3)] []) (hK39 : ∀ (μ : me_M) (v1 : Int32) (v2 : Int32) (v3 : Int32) (v4 : Int32), K39 μ v1 v2 v3 v4 = some r → me_Z X B 0 0 μ 39 [(0, me_r 36 0), (1, me_i v1), (2, me_i v2), (3, me_i v3), (4, me_i v4)] [])  (hf : f_M_sleep_b39 K31 K39 μ v1 v2 v3 v4 = some r) : me_Z X B 0 0 μ 39 [(0, me_r 36 0), (1, me_i v1), (2, me_i v2), (3, me_i v3), (4, me_i v4)] [] := by
  unfold f_M_sleep_b39 at hf
  refine me_iload C dX12_sleep_39 rfl ?_
  refine me_iconst C (v := 5) dX12_sleep_41 (by decide) ?_
  refine me_icmp_ge C (tgt := 88) dX12_sleep_42 (by decide) (fun c1 => ?_) (fun c1 => ?_)
  · replace hf := me_ip c1 hf
    obtain ⟨x2, e_x2, hf⟩ := me_lts hf
    refine me_iinc C (v := x2) (L' := [(3, me_i x2), (0, me_r 36 0), (1, me_i v1), (2, me_i v2), (4, me_i v4)]) dX12_sleep_88 rfl e_x2.symm (by decide) rfl ?_
    refine me_goto C (tgt := 31) dX12_sleep_91 (by decide) ?_
    refine me_dropI [(0, me_r 36 0), (1, me_i v1), (2, me_i v2), (3, me_i x2)] [1, 2, 3, 0] rfl ?_
    exact hK31 μ v1 v2 x2 hf
  · replace hf := me_in c1 hf
    refine me_iload_n C 2 dX12_sleep_45 rfl rfl ?_
    refine me_aload_n C 0 (Or.inr (Or.inl ⟨_, rfl⟩)) dX12_sleep_46 rfl rfl ?_
    refine me_getr C hB 22 (k' := 58) (i' := 0) fg_M_75 dX12_sleep_47 rfl rfl ?_
    refine me_iload_n C 1 dX12_sleep_50 rfl rfl ?_
    obtain ⟨g3, hf⟩ := me_gs hf
    refine me_aald C hB (k' := 59) (i' := (me_ix v1)) rfl (fun _ => rfl) rfl g3 dX12_sleep_51 rfl ?_
    refine me_iload_n C 3 dX12_sleep_52 rfl rfl ?_
    obtain ⟨g4, hf⟩ := me_gs hf
    refine me_aald C hB (k' := 60) (i' := 2 * (me_ix v1) + (me_ix v3)) rfl (fun _ => rfl) rfl g4 dX12_sleep_53 rfl ?_
    refine me_iload C dX12_sleep_54 rfl ?_
    obtain ⟨g5, hf⟩ := me_gs hf
    refine me_iald C rfl (fun _ => rfl) g5 dX12_sleep_56 ?_
    refine me_if_ne C (tgt := 79) dX12_sleep_57 (by decide) (fun c6 => ?_) (fun c6 => ?_)
    · replace hf := me_in c6 hf
      refine me_dropI [(0, me_r 36 0), (1, me_i v1), (3, me_i v3), (4, me_i v4)] [0, 1, 3, 4] rfl ?_
      exact z_M_sleep_b79 C N hNx hB hK31 hK39 hf
    · replace hf := me_ip c6 hf
      refine me_aload_n C 0 (Or.inr (Or.inl ⟨_, rfl⟩)) dX12_sleep_60 rfl rfl ?_
      refine me_getr C hB 23 (k' := 61) (i' := 0) fg_M_78 dX12_sleep_61 rfl rfl ?_
      refine me_iload_n C 1 dX12_sleep_64 rfl rfl ?_
      obtain ⟨g7, hf⟩ := me_gs hf
      refine me_aald C hB (k' := 62) (i' := (me_ix v1)) rfl (fun _ => rfl) rfl g7 dX12_sleep_65 rfl ?_
      refine me_iload_n C 3 dX12_sleep_66 rfl rfl ?_
      obtain ⟨g8, hf⟩ := me_gs hf
      refine me_aald C hB (k' := 63) (i' := 2 * (me_ix v1) + (me_ix v3)) rfl (fun _ => rfl) rfl g8 dX12_sleep_67 rfl ?_
      refine me_iload C dX12_sleep_68 rfl ?_
      obtain ⟨g9, hf⟩ := me_gs hf
      refine me_iald C rfl (fun _ => rfl) g9 dX12_sleep_70 ?_
      refine me_iconst C (v := -1) dX12_sleep_71 (by decide) ?_
      refine me_icmp_ne C (tgt := 79) dX12_sleep_72 (by decide) (fun c10 => ?_) (fun c10 => ?_)
      · replace hf := me_in c10 hf
        refine me_dropI [(0, me_r 36 0), (1, me_i v1), (3, me_i v3), (4, me_i v4)] [0, 1, 3, 4] rfl ?_
        exact z_M_sleep_b79 C N hNx hB hK31 hK39 hf
      · replace hf := me_ip c10 hf
        refine me_iconst C (v := 1) dX12_sleep_75 (by decide) ?_
        refine me_goto C (tgt := 80) dX12_sleep_76 (by decide) ?_
        refine me_iand C dX12_sleep_80 ?_
        obtain ⟨x11, e_x11, hf⟩ := me_lts hf
        refine me_nm e_x11 ?_
        refine me_istore_n C 2 dX12_sleep_81 rfl (by decide) (L' := [(2, me_i x11), (0, me_r 36 0), (1, me_i v1), (3, me_i v3), (4, me_i v4)]) rfl ?_
        obtain ⟨x12, e_x12, hf⟩ := me_lts hf
        refine me_iinc C (v := x12) (L' := [(4, me_i x12), (2, me_i x11), (0, me_r 36 0), (1, me_i v1), (3, me_i v3)]) dX12_sleep_82 rfl e_x12.symm (by decide) rfl ?_
        refine me_goto C (tgt := 39) dX12_sleep_85 (by decide) ?_
        refine me_dropI [(0, me_r 36 0), (1, me_i v1), (2, me_i x11), (3, me_i v3), (4, me_i x12)] [2, 3, 1, 4, 0] rfl ?_
        exact hK39 μ v1 x11 v3 x12 hf
def f_M_sleep_h39 (K31 : me_M → Int32 → Int32 → Int32 → Option (me_M × Int32)) : Nat → me_M → Int32 → Int32 → Int32 → Int32 → Option (me_M × Int32)
  | 0, _, _, _, _, _ => none
  | n + 1, μ, v1, v2, v3, v4 => f_M_sleep_b39 K31 (f_M_sleep_h39 K31 n) μ v1 v2 v3 v4
set_option maxHeartbeats 4000000 in
set_option maxRecDepth 100000 in
theorem z_M_sleep_h39 {X : me_X} {B : me_B} {sz : Nat} (C : me_C X B RX12 cX12_sleep 5 (some .boolean)) {K31 : me_M → Int32 → Int32 → Int32 → Option (me_M × Int32)} {r : me_M × Int32} (N : me_En X B sz (B, r.1, .ok (some (me_i r.2))) 2 43 0 0) (hNx : me_Nx X) (hB : me_St B) (hK31 : ∀ (μ : me_M) (v1 : Int32) (v2 : Int32) (v3 : Int32), K31 μ v1 v2 v3 = some r → me_Z X B 0 0 μ 31 [(0, me_r 36 0), (1, me_i v1), (2, me_i v2), (3, me_i v3)] []) : ∀ (n : Nat) (μ : me_M) (v1 : Int32) (v2 : Int32) (v3 : Int32) (v4 : Int32), f_M_sleep_h39 K31 n μ v1 v2 v3 v4 = some r → me_Z X B 0 0 μ 39 [(0, me_r 36 0), (1, me_i v1), (2, me_i v2), (3, me_i v3), (4, me_i v4)] [] := by
  intro n
  induction n with
  | zero => intro μ v1 v2 v3 v4  h; exact absurd (show (none : Option (me_M × Int32)) = some r from h) (fun q => by cases q)
  | succ n ih => intro μ v1 v2 v3 v4  h; exact z_M_sleep_b39 C N hNx hB hK31 (K39 := f_M_sleep_h39 K31 n) ih  h
def f_M_sleep_b127 (μ : me_M) (v1 : Int32) (s0 : Int32) : Option (me_M × Int32) :=
  me_gd (me_inb v1 16) (
  me_lt (me_up μ 85 0 (me_ix v1) (vp_nar .boolean (1 : Int32))) (fun μ2 =>
  me_gd (me_nr .boolean s0) (
  some (μ2, s0))))
set_option maxHeartbeats 4000000 in
set_option maxRecDepth 100000 in
theorem z_M_sleep_b127 {X : me_X} {B : me_B} {sz : Nat} (C : me_C X B RX12 cX12_sleep 5 (some .boolean)) {μ : me_M} {v1 : Int32} {s0 : Int32}   {r : me_M × Int32} (N : me_En X B sz (B, r.1, .ok (some (me_i r.2))) 2 43 0 0) (hNx : me_Nx X) (hB : me_St B)   (hf : f_M_sleep_b127 μ v1 s0 = some r) : me_Z X B 0 0 μ 127 [(0, me_r 36 0), (1, me_i v1)] [me_i s0] := by
  unfold f_M_sleep_b127 at hf
  refine me_istore_n C 3 dX12_sleep_127 rfl (by decide) (L' := [(3, me_i s0), (0, me_r 36 0), (1, me_i v1)]) rfl ?_
  refine me_aload_n C 0 (Or.inr (Or.inl ⟨_, rfl⟩)) dX12_sleep_128 rfl rfl ?_
  refine me_getr C hB 28 (k' := 85) (i' := 0) fg_M_95 dX12_sleep_129 rfl rfl ?_
  refine me_iload_n C 1 dX12_sleep_132 rfl rfl ?_
  refine me_iconst C (v := 1) dX12_sleep_133 (by decide) ?_
  obtain ⟨g1, hf⟩ := me_gs hf
  obtain ⟨μ2, e_μ2, hf⟩ := me_lts hf
  refine me_zast C rfl (fun _ => rfl) g1 dX12_sleep_134 e_μ2 ?_
  refine me_iload_n C 3 dX12_sleep_135 rfl rfl ?_
  obtain ⟨g3, hf⟩ := me_gs hf
  exact me_iret C N dX12_sleep_136 g3 (by cases hf; rfl) (by decide) (by decide)
def f_M_sleep_b104 (μ : me_M) (v1 : Int32) (s0 : Int32) : Option (me_M × Int32) :=
  me_b2 (f_M_isThrown μ s0 (2 : Int32)) (fun μ2 r1 =>
  if r1 = 0 then
  (me_gd (me_inb v1 16) (
  if (μ2 85 0 (me_ix v1)) = 0 then
  (f_M_sleep_b127 μ2 v1 (1 : Int32))
  else
  (f_M_sleep_b127 μ2 v1 (0 : Int32))))
  else
  (some (μ2, (0 : Int32))))
set_option maxHeartbeats 4000000 in
set_option maxRecDepth 100000 in
theorem z_M_sleep_b104 {X : me_X} {B : me_B} {sz : Nat} (C : me_C X B RX12 cX12_sleep 5 (some .boolean)) {μ : me_M} {v1 : Int32} {s0 : Int32}   {r : me_M × Int32} (N : me_En X B sz (B, r.1, .ok (some (me_i r.2))) 2 43 0 0) (hNx : me_Nx X) (hB : me_St B)   (hf : f_M_sleep_b104 μ v1 s0 = some r) : me_Z X B 0 0 μ 104 [(0, me_r 36 0), (1, me_i v1)] [me_i s0, me_r 36 0] := by
  unfold f_M_sleep_b104 at hf
  refine me_iconst C (v := 2) dX12_sleep_104 (by decide) ?_
  obtain ⟨μ2, r1, h_r1, hf⟩ := me_bs2 hf
  refine me_callV C N  (As := [me_i s0, me_i (2 : Int32)]) (st := []) 0 0 (c_M_isThrown hB h_r1) mv_M_isThrown ml_M_155 rfl rfl dX12_sleep_105 rfl rfl ⟨by decide, by decide⟩ ⟨by decide, by decide, by decide, by decide⟩ (Nat.le_of_ble_eq_true rfl) ?_
  refine me_if_eq C (tgt := 113) dX12_sleep_108 (by decide) (fun c3 => ?_) (fun c3 => ?_)
  · replace hf := me_ip c3 hf
    refine me_aload_n C 0 (Or.inr (Or.inl ⟨_, rfl⟩)) dX12_sleep_113 rfl rfl ?_
    refine me_getr C hB 28 (k' := 85) (i' := 0) fg_M_95 dX12_sleep_114 rfl rfl ?_
    refine me_iload_n C 1 dX12_sleep_117 rfl rfl ?_
    obtain ⟨g4, hf⟩ := me_gs hf
    refine me_zald C rfl (fun _ => rfl) g4 dX12_sleep_118 ?_
    refine me_if_ne C (tgt := 126) dX12_sleep_119 (by decide) (fun c5 => ?_) (fun c5 => ?_)
    · replace hf := me_in c5 hf
      refine me_iconst C (v := 0) dX12_sleep_126 (by decide) ?_
      refine me_dropI [(0, me_r 36 0), (1, me_i v1)] [0, 1] rfl ?_
      exact z_M_sleep_b127 C N hNx hB hf
    · replace hf := me_ip c5 hf
      refine me_iconst C (v := 1) dX12_sleep_122 (by decide) ?_
      refine me_goto C (tgt := 127) dX12_sleep_123 (by decide) ?_
      refine me_dropI [(0, me_r 36 0), (1, me_i v1)] [0, 1] rfl ?_
      exact z_M_sleep_b127 C N hNx hB hf
  · replace hf := me_in c3 hf
    refine me_iconst C (v := 0) dX12_sleep_111 (by decide) ?_
    exact me_iret C N dX12_sleep_112 (by decide +kernel) (by cases hf; rfl) (by decide) (by decide)
def f_M_sleep_b31 (K31 : me_M → Int32 → Int32 → Int32 → Option (me_M × Int32)) (μ : me_M) (v1 : Int32) (v2 : Int32) (v3 : Int32) : Option (me_M × Int32) :=
  if (2 : Int32) ≤ v3 then
  (if v2 = 0 then
  (f_M_sleep_b104 μ v1 (1 : Int32))
  else
  (f_M_sleep_b104 μ v1 (0 : Int32)))
  else
  (f_M_sleep_h39 K31 me_FU μ v1 v2 v3 (0 : Int32))
set_option maxHeartbeats 4000000 in
set_option maxRecDepth 100000 in
theorem z_M_sleep_b31 {X : me_X} {B : me_B} {sz : Nat} (C : me_C X B RX12 cX12_sleep 5 (some .boolean)) {μ : me_M} {v1 : Int32} {v2 : Int32} {v3 : Int32}  {K31 : me_M → Int32 → Int32 → Int32 → Option (me_M × Int32)} {r : me_M × Int32} (N : me_En X B sz (B, r.1, .ok (some (me_i r.2))) 2 43 0 0) (hNx : me_Nx X) (hB : me_St B) (hK31 : ∀ (μ : me_M) (v1 : Int32) (v2 : Int32) (v3 : Int32), K31 μ v1 v2 v3 = some r → me_Z X B 0 0 μ 31 [(0, me_r 36 0), (1, me_i v1), (2, me_i v2), (3, me_i v3)] [])  (hf : f_M_sleep_b31 K31 μ v1 v2 v3 = some r) : me_Z X B 0 0 μ 31 [(0, me_r 36 0), (1, me_i v1), (2, me_i v2), (3, me_i v3)] [] := by
  unfold f_M_sleep_b31 at hf
  refine me_iload_n C 3 dX12_sleep_31 rfl rfl ?_
  refine me_iconst C (v := 2) dX12_sleep_32 (by decide) ?_
  refine me_icmp_ge C (tgt := 94) dX12_sleep_33 (by decide) (fun c1 => ?_) (fun c1 => ?_)
  · replace hf := me_ip c1 hf
    refine me_aload_n C 0 (Or.inr (Or.inl ⟨_, rfl⟩)) dX12_sleep_94 rfl rfl ?_
    refine me_iload_n C 2 dX12_sleep_95 rfl rfl ?_
    refine me_if_ne C (tgt := 103) dX12_sleep_96 (by decide) (fun c2 => ?_) (fun c2 => ?_)
    · replace hf := me_in c2 hf
      refine me_iconst C (v := 0) dX12_sleep_103 (by decide) ?_
      refine me_dropI [(0, me_r 36 0), (1, me_i v1)] [0, 1] rfl ?_
      exact z_M_sleep_b104 C N hNx hB hf
    · replace hf := me_ip c2 hf
      refine me_iconst C (v := 1) dX12_sleep_99 (by decide) ?_
      refine me_goto C (tgt := 104) dX12_sleep_100 (by decide) ?_
      refine me_dropI [(0, me_r 36 0), (1, me_i v1)] [0, 1] rfl ?_
      exact z_M_sleep_b104 C N hNx hB hf
  · replace hf := me_in c1 hf
    refine me_iconst C (v := 0) dX12_sleep_36 (by decide) ?_
    refine me_istore C dX12_sleep_37 (by decide) (L' := [(4, me_i (0 : Int32)), (0, me_r 36 0), (1, me_i v1), (2, me_i v2), (3, me_i v3)]) rfl ?_
    refine me_dropI [(0, me_r 36 0), (1, me_i v1), (2, me_i v2), (3, me_i v3), (4, me_i (0 : Int32))] [1, 2, 3, 4, 0] rfl ?_
    exact z_M_sleep_h39 C N hNx hB hK31 me_FU μ v1 v2 v3 (0 : Int32) hf
def f_M_sleep_h31  : Nat → me_M → Int32 → Int32 → Int32 → Option (me_M × Int32)
  | 0, _, _, _, _ => none
  | n + 1, μ, v1, v2, v3 => f_M_sleep_b31 (f_M_sleep_h31 n) μ v1 v2 v3
set_option maxHeartbeats 4000000 in
set_option maxRecDepth 100000 in
theorem z_M_sleep_h31 {X : me_X} {B : me_B} {sz : Nat} (C : me_C X B RX12 cX12_sleep 5 (some .boolean))  {r : me_M × Int32} (N : me_En X B sz (B, r.1, .ok (some (me_i r.2))) 2 43 0 0) (hNx : me_Nx X) (hB : me_St B)  : ∀ (n : Nat) (μ : me_M) (v1 : Int32) (v2 : Int32) (v3 : Int32), f_M_sleep_h31 n μ v1 v2 v3 = some r → me_Z X B 0 0 μ 31 [(0, me_r 36 0), (1, me_i v1), (2, me_i v2), (3, me_i v3)] [] := by
  intro n
  induction n with
  | zero => intro μ v1 v2 v3  h; exact absurd (show (none : Option (me_M × Int32)) = some r from h) (fun q => by cases q)
  | succ n ih => intro μ v1 v2 v3  h; exact z_M_sleep_b31 C N hNx hB  (K31 := f_M_sleep_h31 n) ih  h
def f_M_sleep (μ : me_M) (v1 : Int32) : Option (me_M × Int32) :=
  me_bd (f_M_isNoNode μ v1) (fun r1 =>
  me_b2 (f_M_isThrown μ r1 (1 : Int32)) (fun μ3 r2 =>
  if r2 = 0 then
  (me_bd (f_M_isBusy μ3 v1) (fun r5 =>
  if r5 = 0 then
  (f_M_sleep_h31 me_FU μ3 v1 (1 : Int32) (0 : Int32))
  else
  (f_M_sleep_h31 me_FU μ3 v1 (0 : Int32) (0 : Int32))))
  else
  (some (μ3, (0 : Int32)))))
set_option maxHeartbeats 4000000 in
set_option maxRecDepth 100000 in
theorem z_M_sleep {X : me_X} {B : me_B} {sz : Nat} (C : me_C X B RX12 cX12_sleep 5 (some .boolean)) {μ : me_M} {v1 : Int32}   {r : me_M × Int32} (N : me_En X B sz (B, r.1, .ok (some (me_i r.2))) 2 43 0 0) (hNx : me_Nx X) (hB : me_St B)   (hf : f_M_sleep μ v1 = some r) : me_Z X B 0 0 μ 0 [(0, me_r 36 0), (1, me_i v1)] [] := by
  unfold f_M_sleep at hf
  refine me_aload_n C 0 (Or.inr (Or.inl ⟨_, rfl⟩)) dX12_sleep_0 rfl rfl ?_
  refine me_aload_n C 0 (Or.inr (Or.inl ⟨_, rfl⟩)) dX12_sleep_1 rfl rfl ?_
  refine me_iload_n C 1 dX12_sleep_2 rfl rfl ?_
  obtain ⟨r1, h_r1, hf⟩ := me_bs hf
  refine me_callV C N  (As := [me_i v1]) (st := [me_r 36 0]) 0 0 (c_M_isNoNode hB h_r1) mv_M_isNoNode ml_M_165 rfl rfl dX12_sleep_3 rfl rfl ⟨by decide, by decide⟩ ⟨by decide, by decide, by decide, by decide⟩ (Nat.le_of_ble_eq_true rfl) ?_
  refine me_iconst C (v := 1) dX12_sleep_6 (by decide) ?_
  obtain ⟨μ3, r2, h_r2, hf⟩ := me_bs2 hf
  refine me_callV C N  (As := [me_i r1, me_i (1 : Int32)]) (st := []) 0 0 (c_M_isThrown hB h_r2) mv_M_isThrown ml_M_155 rfl rfl dX12_sleep_7 rfl rfl ⟨by decide, by decide⟩ ⟨by decide, by decide, by decide, by decide⟩ (Nat.le_of_ble_eq_true rfl) ?_
  refine me_if_eq C (tgt := 15) dX12_sleep_10 (by decide) (fun c4 => ?_) (fun c4 => ?_)
  · replace hf := me_ip c4 hf
    refine me_aload_n C 0 (Or.inr (Or.inl ⟨_, rfl⟩)) dX12_sleep_15 rfl rfl ?_
    refine me_iload_n C 1 dX12_sleep_16 rfl rfl ?_
    obtain ⟨r5, h_r5, hf⟩ := me_bs hf
    refine me_callV C N  (As := [me_i v1]) (st := []) 0 0 (c_M_isBusy hB h_r5) mv_M_isBusy ml_M_283 rfl rfl dX12_sleep_17 rfl rfl ⟨by decide, by decide⟩ ⟨by decide, by decide, by decide, by decide⟩ (Nat.le_of_ble_eq_true rfl) ?_
    refine me_if_ne C (tgt := 27) dX12_sleep_20 (by decide) (fun c6 => ?_) (fun c6 => ?_)
    · replace hf := me_in c6 hf
      refine me_iconst C (v := 0) dX12_sleep_27 (by decide) ?_
      refine me_istore_n C 2 dX12_sleep_28 rfl (by decide) (L' := [(2, me_i (0 : Int32)), (0, me_r 36 0), (1, me_i v1)]) rfl ?_
      refine me_iconst C (v := 0) dX12_sleep_29 (by decide) ?_
      refine me_istore_n C 3 dX12_sleep_30 rfl (by decide) (L' := [(3, me_i (0 : Int32)), (2, me_i (0 : Int32)), (0, me_r 36 0), (1, me_i v1)]) rfl ?_
      refine me_dropI [(0, me_r 36 0), (1, me_i v1), (2, me_i (0 : Int32)), (3, me_i (0 : Int32))] [2, 3, 1, 0] rfl ?_
      exact z_M_sleep_h31 C N hNx hB me_FU μ3 v1 (0 : Int32) (0 : Int32) hf
    · replace hf := me_ip c6 hf
      refine me_iconst C (v := 1) dX12_sleep_23 (by decide) ?_
      refine me_goto C (tgt := 28) dX12_sleep_24 (by decide) ?_
      refine me_istore_n C 2 dX12_sleep_28 rfl (by decide) (L' := [(2, me_i (1 : Int32)), (0, me_r 36 0), (1, me_i v1)]) rfl ?_
      refine me_iconst C (v := 0) dX12_sleep_29 (by decide) ?_
      refine me_istore_n C 3 dX12_sleep_30 rfl (by decide) (L' := [(3, me_i (0 : Int32)), (2, me_i (1 : Int32)), (0, me_r 36 0), (1, me_i v1)]) rfl ?_
      refine me_dropI [(0, me_r 36 0), (1, me_i v1), (2, me_i (1 : Int32)), (3, me_i (0 : Int32))] [2, 3, 1, 0] rfl ?_
      exact z_M_sleep_h31 C N hNx hB me_FU μ3 v1 (1 : Int32) (0 : Int32) hf
  · replace hf := me_in c4 hf
    refine me_iconst C (v := 0) dX12_sleep_13 (by decide) ?_
    exact me_iret C N dX12_sleep_14 (by decide +kernel) (by cases hf; rfl) (by decide) (by decide)
theorem c_M_sleep {B : me_B} (hB : me_St B) {μ : me_M} {v1 : Int32} {μ' : me_M} {r : Int32}  (hf : f_M_sleep μ v1 = some (μ', r)) : ∀ l E z, l.stackTraces = false → me_Met l yX12_sleep cX12_sleep 5 (some .boolean) 2 43 0 0 E B μ z [me_r 36 0, me_i v1] (B, μ', .ok (some (me_i r))) :=
  fun _ _ _ hl => me_ofZ hl (by decide +kernel) (Nat.le_of_ble_eq_true rfl) (fun _ C N hNx => z_M_sleep C N hNx hB  hf)

def f_M_isAwake (μ : me_M) (v1 : Int32) : Option (me_M × Int32) :=
  me_bd (f_M_isNoNode μ v1) (fun r1 =>
  me_b2 (f_M_isThrown μ r1 (1 : Int32)) (fun μ3 r2 =>
  if r2 = 0 then
  (me_gd (me_inb v1 16) (
  if (μ3 85 0 (me_ix v1)) = 0 then
  (some (μ3, (1 : Int32)))
  else
  (some (μ3, (0 : Int32)))))
  else
  (some (μ3, (0 : Int32)))))
set_option maxHeartbeats 4000000 in
set_option maxRecDepth 100000 in
theorem z_M_isAwake {X : me_X} {B : me_B} {sz : Nat} (C : me_C X B RX12 cX12_isAwake 2 (some .boolean)) {μ : me_M} {v1 : Int32}   {r : me_M × Int32} (N : me_En X B sz (B, r.1, .ok (some (me_i r.2))) 2 43 0 0) (hNx : me_Nx X) (hB : me_St B)   (hf : f_M_isAwake μ v1 = some r) : me_Z X B 0 0 μ 0 [(0, me_r 36 0), (1, me_i v1)] [] := by
  unfold f_M_isAwake at hf
  refine me_aload_n C 0 (Or.inr (Or.inl ⟨_, rfl⟩)) dX12_isAwake_0 rfl rfl ?_
  refine me_aload_n C 0 (Or.inr (Or.inl ⟨_, rfl⟩)) dX12_isAwake_1 rfl rfl ?_
  refine me_iload_n C 1 dX12_isAwake_2 rfl rfl ?_
  obtain ⟨r1, h_r1, hf⟩ := me_bs hf
  refine me_callV C N  (As := [me_i v1]) (st := [me_r 36 0]) 0 0 (c_M_isNoNode hB h_r1) mv_M_isNoNode ml_M_165 rfl rfl dX12_isAwake_3 rfl rfl ⟨by decide, by decide⟩ ⟨by decide, by decide, by decide, by decide⟩ (Nat.le_of_ble_eq_true rfl) ?_
  refine me_iconst C (v := 1) dX12_isAwake_6 (by decide) ?_
  obtain ⟨μ3, r2, h_r2, hf⟩ := me_bs2 hf
  refine me_callV C N  (As := [me_i r1, me_i (1 : Int32)]) (st := []) 0 0 (c_M_isThrown hB h_r2) mv_M_isThrown ml_M_155 rfl rfl dX12_isAwake_7 rfl rfl ⟨by decide, by decide⟩ ⟨by decide, by decide, by decide, by decide⟩ (Nat.le_of_ble_eq_true rfl) ?_
  refine me_if_ne C (tgt := 26) dX12_isAwake_10 (by decide) (fun c4 => ?_) (fun c4 => ?_)
  · replace hf := me_in c4 hf
    refine me_iconst C (v := 0) dX12_isAwake_26 (by decide) ?_
    exact me_iret C N dX12_isAwake_27 (by decide +kernel) (by cases hf; rfl) (by decide) (by decide)
  · replace hf := me_ip c4 hf
    refine me_aload_n C 0 (Or.inr (Or.inl ⟨_, rfl⟩)) dX12_isAwake_13 rfl rfl ?_
    refine me_getr C hB 28 (k' := 85) (i' := 0) fg_M_95 dX12_isAwake_14 rfl rfl ?_
    refine me_iload_n C 1 dX12_isAwake_17 rfl rfl ?_
    obtain ⟨g5, hf⟩ := me_gs hf
    refine me_zald C rfl (fun _ => rfl) g5 dX12_isAwake_18 ?_
    refine me_if_ne C (tgt := 26) dX12_isAwake_19 (by decide) (fun c6 => ?_) (fun c6 => ?_)
    · replace hf := me_in c6 hf
      refine me_iconst C (v := 0) dX12_isAwake_26 (by decide) ?_
      exact me_iret C N dX12_isAwake_27 (by decide +kernel) (by cases hf; rfl) (by decide) (by decide)
    · replace hf := me_ip c6 hf
      refine me_iconst C (v := 1) dX12_isAwake_22 (by decide) ?_
      refine me_goto C (tgt := 27) dX12_isAwake_23 (by decide) ?_
      exact me_iret C N dX12_isAwake_27 (by decide +kernel) (by cases hf; rfl) (by decide) (by decide)
theorem c_M_isAwake {B : me_B} (hB : me_St B) {μ : me_M} {v1 : Int32} {μ' : me_M} {r : Int32}  (hf : f_M_isAwake μ v1 = some (μ', r)) : ∀ l E z, l.stackTraces = false → me_Met l yX12_isAwake cX12_isAwake 2 (some .boolean) 2 43 0 0 E B μ z [me_r 36 0, me_i v1] (B, μ', .ok (some (me_i r))) :=
  fun _ _ _ hl => me_ofZ hl (by decide +kernel) (Nat.le_of_ble_eq_true rfl) (fun _ C N hNx => z_M_isAwake C N hNx hB  hf)
