/-! WALKS: Y_places, Y_needRow, Y_row, Y_owner, Y_fail, Y_sleep, Y_isAwake, Y_leads, Y_hasRing, Pre_checkIndex, Str_checkIndex, La1_charAt, Str_charAt, Y_direction, Y_isNumberOf, Y_program, Y_needCoreAtRest, Y_clear, Y_start, Y_core, Y_fault, Y_memory, Y_set -/
theorem dX11_places_0 : decode cX11_places 0 = .ok (.aload_n 0, 1) := by decide +kernel
theorem dX11_places_1 : decode cX11_places 1 = .ok (.iload_n 1, 1) := by decide +kernel
theorem dX11_places_2 : decode cX11_places 2 = .ok (.iconst 1, 1) := by decide +kernel
theorem dX11_places_3 : decode cX11_places 3 = .ok (.iconst 4, 1) := by decide +kernel
theorem dX11_places_4 : decode cX11_places 4 = .ok (.invokevirtual 87, 3) := by decide +kernel
theorem dX11_places_7 : decode cX11_places 7 = .ok (.aload_n 0, 1) := by decide +kernel
theorem dX11_places_8 : decode cX11_places 8 = .ok (.getfield 225, 3) := by decide +kernel
theorem dX11_places_11 : decode cX11_places 11 = .ok (.istore_n 2, 1) := by decide +kernel
theorem dX11_places_12 : decode cX11_places 12 = .ok (.aload_n 0, 1) := by decide +kernel
theorem dX11_places_13 : decode cX11_places 13 = .ok (.iload_n 1, 1) := by decide +kernel
theorem dX11_places_14 : decode cX11_places 14 = .ok (.invokevirtual 228, 3) := by decide +kernel
theorem dX11_places_17 : decode cX11_places 17 = .ok (.iload_n 2, 1) := by decide +kernel
theorem dX11_places_18 : decode cX11_places 18 = .ok (.ireturn, 1) := by decide +kernel
theorem dX11_needRow_0 : decode cX11_needRow 0 = .ok (.ldc 243, 2) := by decide +kernel
theorem dX11_needRow_2 : decode cX11_needRow 2 = .ok (.iload_n 2, 1) := by decide +kernel
theorem dX11_needRow_3 : decode cX11_needRow 3 = .ok (.invokevirtual 215, 3) := by decide +kernel
theorem dX11_needRow_6 : decode cX11_needRow 6 = .ok (.istore 5, 2) := by decide +kernel
theorem dX11_needRow_8 : decode cX11_needRow 8 = .ok (.iload 5, 2) := by decide +kernel
theorem dX11_needRow_10 : decode cX11_needRow 10 = .ok (.ifCond .lt 19, 3) := by decide +kernel
theorem dX11_needRow_13 : decode cX11_needRow 13 = .ok (.iload 5, 2) := by decide +kernel
theorem dX11_needRow_15 : decode cX11_needRow 15 = .ok (.iload 4, 2) := by decide +kernel
theorem dX11_needRow_17 : decode cX11_needRow 17 = .ok (.if_icmp .ge 12, 3) := by decide +kernel
theorem dX11_needRow_20 : decode cX11_needRow 20 = .ok (.iload_n 3, 1) := by decide +kernel
theorem dX11_needRow_21 : decode cX11_needRow 21 = .ok (.ifCond .lt 8, 3) := by decide +kernel
theorem dX11_needRow_24 : decode cX11_needRow 24 = .ok (.iload_n 3, 1) := by decide +kernel
theorem dX11_needRow_25 : decode cX11_needRow 25 = .ok (.iconst 2, 1) := by decide +kernel
theorem dX11_needRow_26 : decode cX11_needRow 26 = .ok (.if_icmp .lt 14, 3) := by decide +kernel
theorem dX11_needRow_29 : decode cX11_needRow 29 = .ok (.new 109, 3) := by decide +kernel
theorem dX11_needRow_32 : decode cX11_needRow 32 = .ok (.dup, 1) := by decide +kernel
theorem dX11_needRow_33 : decode cX11_needRow 33 = .ok (.ldc_w 441, 3) := by decide +kernel
theorem dX11_needRow_36 : decode cX11_needRow 36 = .ok (.invokespecial 113, 3) := by decide +kernel
theorem dX11_needRow_39 : decode cX11_needRow 39 = .ok (.athrow, 1) := by decide +kernel
theorem dX11_needRow_40 : decode cX11_needRow 40 = .ok (.aload_n 0, 1) := by decide +kernel
theorem dX11_needRow_41 : decode cX11_needRow 41 = .ok (.getfield 34, 3) := by decide +kernel
theorem dX11_needRow_44 : decode cX11_needRow 44 = .ok (.iload_n 1, 1) := by decide +kernel
theorem dX11_needRow_45 : decode cX11_needRow 45 = .ok (.aaload, 1) := by decide +kernel
theorem dX11_needRow_46 : decode cX11_needRow 46 = .ok (.getfield 443, 3) := by decide +kernel
theorem dX11_needRow_49 : decode cX11_needRow 49 = .ok (.iload_n 3, 1) := by decide +kernel
theorem dX11_needRow_50 : decode cX11_needRow 50 = .ok (.iconst 5, 1) := by decide +kernel
theorem dX11_needRow_51 : decode cX11_needRow 51 = .ok (.imul, 1) := by decide +kernel
theorem dX11_needRow_52 : decode cX11_needRow 52 = .ok (.iload 5, 2) := by decide +kernel
theorem dX11_needRow_54 : decode cX11_needRow 54 = .ok (.iadd, 1) := by decide +kernel
theorem dX11_needRow_55 : decode cX11_needRow 55 = .ok (.aaload, 1) := by decide +kernel
theorem dX11_needRow_56 : decode cX11_needRow 56 = .ok (.areturn, 1) := by decide +kernel
theorem dX11_row_0 : decode cX11_row 0 = .ok (.aload_n 0, 1) := by decide +kernel
theorem dX11_row_1 : decode cX11_row 1 = .ok (.iload_n 1, 1) := by decide +kernel
theorem dX11_row_2 : decode cX11_row 2 = .ok (.invokevirtual 103, 3) := by decide +kernel
theorem dX11_row_5 : decode cX11_row 5 = .ok (.aload_n 0, 1) := by decide +kernel
theorem dX11_row_6 : decode cX11_row 6 = .ok (.iload_n 1, 1) := by decide +kernel
theorem dX11_row_7 : decode cX11_row 7 = .ok (.iload_n 2, 1) := by decide +kernel
theorem dX11_row_8 : decode cX11_row 8 = .ok (.iload_n 3, 1) := by decide +kernel
theorem dX11_row_9 : decode cX11_row 9 = .ok (.iconst 5, 1) := by decide +kernel
theorem dX11_row_10 : decode cX11_row 10 = .ok (.invokevirtual 231, 3) := by decide +kernel
theorem dX11_row_13 : decode cX11_row 13 = .ok (.getfield 235, 3) := by decide +kernel
theorem dX11_row_16 : decode cX11_row 16 = .ok (.ireturn, 1) := by decide +kernel
theorem dX11_owner_0 : decode cX11_owner 0 = .ok (.aload_n 0, 1) := by decide +kernel
theorem dX11_owner_1 : decode cX11_owner 1 = .ok (.iload_n 1, 1) := by decide +kernel
theorem dX11_owner_2 : decode cX11_owner 2 = .ok (.invokevirtual 103, 3) := by decide +kernel
theorem dX11_owner_5 : decode cX11_owner 5 = .ok (.aload_n 0, 1) := by decide +kernel
theorem dX11_owner_6 : decode cX11_owner 6 = .ok (.iload_n 1, 1) := by decide +kernel
theorem dX11_owner_7 : decode cX11_owner 7 = .ok (.iload_n 2, 1) := by decide +kernel
theorem dX11_owner_8 : decode cX11_owner 8 = .ok (.iload_n 3, 1) := by decide +kernel
theorem dX11_owner_9 : decode cX11_owner 9 = .ok (.iconst 4, 1) := by decide +kernel
theorem dX11_owner_10 : decode cX11_owner 10 = .ok (.invokevirtual 231, 3) := by decide +kernel
theorem dX11_owner_13 : decode cX11_owner 13 = .ok (.getfield 240, 3) := by decide +kernel
theorem dX11_owner_16 : decode cX11_owner 16 = .ok (.ireturn, 1) := by decide +kernel
theorem dX11_fail_0 : decode cX11_fail 0 = .ok (.aload_n 0, 1) := by decide +kernel
theorem dX11_fail_1 : decode cX11_fail 1 = .ok (.iload_n 1, 1) := by decide +kernel
theorem dX11_fail_2 : decode cX11_fail 2 = .ok (.invokevirtual 103, 3) := by decide +kernel
theorem dX11_fail_5 : decode cX11_fail 5 = .ok (.ldc 243, 2) := by decide +kernel
theorem dX11_fail_7 : decode cX11_fail 7 = .ok (.iload_n 2, 1) := by decide +kernel
theorem dX11_fail_8 : decode cX11_fail 8 = .ok (.invokevirtual 215, 3) := by decide +kernel
theorem dX11_fail_11 : decode cX11_fail 11 = .ok (.istore 4, 2) := by decide +kernel
theorem dX11_fail_13 : decode cX11_fail 13 = .ok (.iload 4, 2) := by decide +kernel
theorem dX11_fail_15 : decode cX11_fail 15 = .ok (.ifCond .lt 9, 3) := by decide +kernel
theorem dX11_fail_18 : decode cX11_fail 18 = .ok (.iload 4, 2) := by decide +kernel
theorem dX11_fail_20 : decode cX11_fail 20 = .ok (.iconst 4, 1) := by decide +kernel
theorem dX11_fail_21 : decode cX11_fail 21 = .ok (.if_icmp .lt 13, 3) := by decide +kernel
theorem dX11_fail_24 : decode cX11_fail 24 = .ok (.new 109, 3) := by decide +kernel
theorem dX11_fail_27 : decode cX11_fail 27 = .ok (.dup, 1) := by decide +kernel
theorem dX11_fail_28 : decode cX11_fail 28 = .ok (.ldc 245, 2) := by decide +kernel
theorem dX11_fail_30 : decode cX11_fail 30 = .ok (.invokespecial 113, 3) := by decide +kernel
theorem dX11_fail_33 : decode cX11_fail 33 = .ok (.athrow, 1) := by decide +kernel
theorem dX11_fail_34 : decode cX11_fail 34 = .ok (.aload_n 0, 1) := by decide +kernel
theorem dX11_fail_35 : decode cX11_fail 35 = .ok (.getfield 10, 3) := by decide +kernel
theorem dX11_fail_38 : decode cX11_fail 38 = .ok (.getfield 247, 3) := by decide +kernel
theorem dX11_fail_41 : decode cX11_fail 41 = .ok (.iload_n 1, 1) := by decide +kernel
theorem dX11_fail_42 : decode cX11_fail 42 = .ok (.iconst 4, 1) := by decide +kernel
theorem dX11_fail_43 : decode cX11_fail 43 = .ok (.imul, 1) := by decide +kernel
theorem dX11_fail_44 : decode cX11_fail 44 = .ok (.iload 4, 2) := by decide +kernel
theorem dX11_fail_46 : decode cX11_fail 46 = .ok (.iadd, 1) := by decide +kernel
theorem dX11_fail_47 : decode cX11_fail 47 = .ok (.iaload, 1) := by decide +kernel
theorem dX11_fail_48 : decode cX11_fail 48 = .ok (.iconst (-1), 1) := by decide +kernel
theorem dX11_fail_49 : decode cX11_fail 49 = .ok (.if_icmp .ne 13, 3) := by decide +kernel
theorem dX11_fail_52 : decode cX11_fail 52 = .ok (.new 251, 3) := by decide +kernel
theorem dX11_fail_55 : decode cX11_fail 55 = .ok (.dup, 1) := by decide +kernel
theorem dX11_fail_56 : decode cX11_fail 56 = .ok (.ldc 253, 2) := by decide +kernel
theorem dX11_fail_58 : decode cX11_fail 58 = .ok (.invokespecial 255, 3) := by decide +kernel
theorem dX11_fail_61 : decode cX11_fail 61 = .ok (.athrow, 1) := by decide +kernel
theorem dX11_fail_62 : decode cX11_fail 62 = .ok (.aload_n 0, 1) := by decide +kernel
theorem dX11_fail_63 : decode cX11_fail 63 = .ok (.getfield 10, 3) := by decide +kernel
theorem dX11_fail_66 : decode cX11_fail 66 = .ok (.getfield 256, 3) := by decide +kernel
theorem dX11_fail_69 : decode cX11_fail 69 = .ok (.iload_n 1, 1) := by decide +kernel
theorem dX11_fail_70 : decode cX11_fail 70 = .ok (.iconst 4, 1) := by decide +kernel
theorem dX11_fail_71 : decode cX11_fail 71 = .ok (.imul, 1) := by decide +kernel
theorem dX11_fail_72 : decode cX11_fail 72 = .ok (.iload 4, 2) := by decide +kernel
theorem dX11_fail_74 : decode cX11_fail 74 = .ok (.iadd, 1) := by decide +kernel
theorem dX11_fail_75 : decode cX11_fail 75 = .ok (.baload, 1) := by decide +kernel
theorem dX11_fail_76 : decode cX11_fail 76 = .ok (.istore 5, 2) := by decide +kernel
theorem dX11_fail_78 : decode cX11_fail 78 = .ok (.aload_n 0, 1) := by decide +kernel
theorem dX11_fail_79 : decode cX11_fail 79 = .ok (.getfield 10, 3) := by decide +kernel
theorem dX11_fail_82 : decode cX11_fail 82 = .ok (.iload_n 1, 1) := by decide +kernel
theorem dX11_fail_83 : decode cX11_fail 83 = .ok (.iload 4, 2) := by decide +kernel
theorem dX11_fail_85 : decode cX11_fail 85 = .ok (.iload_n 3, 1) := by decide +kernel
theorem dX11_fail_86 : decode cX11_fail 86 = .ok (.invokevirtual 260, 3) := by decide +kernel
theorem dX11_fail_89 : decode cX11_fail 89 = .ok (.iload 5, 2) := by decide +kernel
theorem dX11_fail_91 : decode cX11_fail 91 = .ok (.ireturn, 1) := by decide +kernel
theorem dX11_sleep_0 : decode cX11_sleep 0 = .ok (.aload_n 0, 1) := by decide +kernel
theorem dX11_sleep_1 : decode cX11_sleep 1 = .ok (.iload_n 1, 1) := by decide +kernel
theorem dX11_sleep_2 : decode cX11_sleep 2 = .ok (.invokevirtual 103, 3) := by decide +kernel
theorem dX11_sleep_5 : decode cX11_sleep 5 = .ok (.aload_n 0, 1) := by decide +kernel
theorem dX11_sleep_6 : decode cX11_sleep 6 = .ok (.getfield 34, 3) := by decide +kernel
theorem dX11_sleep_9 : decode cX11_sleep 9 = .ok (.iload_n 1, 1) := by decide +kernel
theorem dX11_sleep_10 : decode cX11_sleep 10 = .ok (.aaload, 1) := by decide +kernel
theorem dX11_sleep_11 : decode cX11_sleep 11 = .ok (.astore_n 2, 1) := by decide +kernel
theorem dX11_sleep_12 : decode cX11_sleep 12 = .ok (.aload_n 2, 1) := by decide +kernel
theorem dX11_sleep_13 : decode cX11_sleep 13 = .ok (.invokevirtual 264, 3) := by decide +kernel
theorem dX11_sleep_16 : decode cX11_sleep 16 = .ok (.ifCond .eq 15, 3) := by decide +kernel
theorem dX11_sleep_19 : decode cX11_sleep 19 = .ok (.aload_n 0, 1) := by decide +kernel
theorem dX11_sleep_20 : decode cX11_sleep 20 = .ok (.getfield 40, 3) := by decide +kernel
theorem dX11_sleep_23 : decode cX11_sleep 23 = .ok (.iload_n 1, 1) := by decide +kernel
theorem dX11_sleep_24 : decode cX11_sleep 24 = .ok (.aaload, 1) := by decide +kernel
theorem dX11_sleep_25 : decode cX11_sleep 25 = .ok (.invokevirtual 267, 3) := by decide +kernel
theorem dX11_sleep_28 : decode cX11_sleep 28 = .ok (.ifCond .eq 14, 3) := by decide +kernel
theorem dX11_sleep_31 : decode cX11_sleep 31 = .ok (.new 251, 3) := by decide +kernel
theorem dX11_sleep_34 : decode cX11_sleep 34 = .ok (.dup, 1) := by decide +kernel
theorem dX11_sleep_35 : decode cX11_sleep 35 = .ok (.ldc_w 270, 3) := by decide +kernel
theorem dX11_sleep_38 : decode cX11_sleep 38 = .ok (.invokespecial 255, 3) := by decide +kernel
theorem dX11_sleep_41 : decode cX11_sleep 41 = .ok (.athrow, 1) := by decide +kernel
theorem dX11_sleep_42 : decode cX11_sleep 42 = .ok (.aload_n 2, 1) := by decide +kernel
theorem dX11_sleep_43 : decode cX11_sleep 43 = .ok (.getfield 272, 3) := by decide +kernel
theorem dX11_sleep_46 : decode cX11_sleep 46 = .ok (.istore_n 3, 1) := by decide +kernel
theorem dX11_sleep_47 : decode cX11_sleep 47 = .ok (.aload_n 2, 1) := by decide +kernel
theorem dX11_sleep_48 : decode cX11_sleep 48 = .ok (.iconst 0, 1) := by decide +kernel
theorem dX11_sleep_49 : decode cX11_sleep 49 = .ok (.putfield 272, 3) := by decide +kernel
theorem dX11_sleep_52 : decode cX11_sleep 52 = .ok (.iload_n 3, 1) := by decide +kernel
theorem dX11_sleep_53 : decode cX11_sleep 53 = .ok (.ireturn, 1) := by decide +kernel
theorem dX11_isAwake_0 : decode cX11_isAwake 0 = .ok (.aload_n 0, 1) := by decide +kernel
theorem dX11_isAwake_1 : decode cX11_isAwake 1 = .ok (.iload_n 1, 1) := by decide +kernel
theorem dX11_isAwake_2 : decode cX11_isAwake 2 = .ok (.invokevirtual 103, 3) := by decide +kernel
theorem dX11_isAwake_5 : decode cX11_isAwake 5 = .ok (.aload_n 0, 1) := by decide +kernel
theorem dX11_isAwake_6 : decode cX11_isAwake 6 = .ok (.getfield 34, 3) := by decide +kernel
theorem dX11_isAwake_9 : decode cX11_isAwake 9 = .ok (.iload_n 1, 1) := by decide +kernel
theorem dX11_isAwake_10 : decode cX11_isAwake 10 = .ok (.aaload, 1) := by decide +kernel
theorem dX11_isAwake_11 : decode cX11_isAwake 11 = .ok (.getfield 272, 3) := by decide +kernel
theorem dX11_isAwake_14 : decode cX11_isAwake 14 = .ok (.ireturn, 1) := by decide +kernel
theorem dX11_leads_0 : decode cX11_leads 0 = .ok (.aload_n 0, 1) := by decide +kernel
theorem dX11_leads_1 : decode cX11_leads 1 = .ok (.getfield 49, 3) := by decide +kernel
theorem dX11_leads_4 : decode cX11_leads 4 = .ok (.invokevirtual 275, 3) := by decide +kernel
theorem dX11_leads_7 : decode cX11_leads 7 = .ok (.aload_n 0, 1) := by decide +kernel
theorem dX11_leads_8 : decode cX11_leads 8 = .ok (.getfield 49, 3) := by decide +kernel
theorem dX11_leads_11 : decode cX11_leads 11 = .ok (.invokevirtual 278, 3) := by decide +kernel
theorem dX11_leads_14 : decode cX11_leads 14 = .ok (.ireturn, 1) := by decide +kernel
theorem dX11_hasRing_0 : decode cX11_hasRing 0 = .ok (.aload_n 0, 1) := by decide +kernel
theorem dX11_hasRing_1 : decode cX11_hasRing 1 = .ok (.getfield 49, 3) := by decide +kernel
theorem dX11_hasRing_4 : decode cX11_hasRing 4 = .ok (.invokevirtual 275, 3) := by decide +kernel
theorem dX11_hasRing_7 : decode cX11_hasRing 7 = .ok (.aload_n 0, 1) := by decide +kernel
theorem dX11_hasRing_8 : decode cX11_hasRing 8 = .ok (.getfield 49, 3) := by decide +kernel
theorem dX11_hasRing_11 : decode cX11_hasRing 11 = .ok (.invokevirtual 281, 3) := by decide +kernel
theorem dX11_hasRing_14 : decode cX11_hasRing 14 = .ok (.ireturn, 1) := by decide +kernel
theorem dJ3_checkIndex_8e157_0 : decode cJ3_checkIndex_8e157 0 = .ok (.iload_n 0, 1) := by decide +kernel
theorem dJ3_checkIndex_8e157_1 : decode cJ3_checkIndex_8e157 1 = .ok (.ifCond .lt 8, 3) := by decide +kernel
theorem dJ3_checkIndex_8e157_4 : decode cJ3_checkIndex_8e157 4 = .ok (.iload_n 0, 1) := by decide +kernel
theorem dJ3_checkIndex_8e157_5 : decode cJ3_checkIndex_8e157 5 = .ok (.iload_n 1, 1) := by decide +kernel
theorem dJ3_checkIndex_8e157_6 : decode cJ3_checkIndex_8e157 6 = .ok (.if_icmp .lt 10, 3) := by decide +kernel
theorem dJ3_checkIndex_8e157_9 : decode cJ3_checkIndex_8e157 9 = .ok (.aload_n 2, 1) := by decide +kernel
theorem dJ3_checkIndex_8e157_16 : decode cJ3_checkIndex_8e157 16 = .ok (.iload_n 0, 1) := by decide +kernel
theorem dJ3_checkIndex_8e157_17 : decode cJ3_checkIndex_8e157 17 = .ok (.ireturn, 1) := by decide +kernel
theorem dJ0_checkIndex_df160_0 : decode cJ0_checkIndex_df160 0 = .ok (.iload_n 0, 1) := by decide +kernel
theorem dJ0_checkIndex_df160_1 : decode cJ0_checkIndex_df160 1 = .ok (.iload_n 1, 1) := by decide +kernel
theorem dJ0_checkIndex_df160_2 : decode cJ0_checkIndex_df160 2 = .ok (.getstatic 1053, 3) := by decide +kernel
theorem dJ0_checkIndex_df160_5 : decode cJ0_checkIndex_df160 5 = .ok (.invokestatic 1059, 3) := by decide +kernel
theorem dJ0_checkIndex_df160_8 : decode cJ0_checkIndex_df160 8 = .ok (.pop, 1) := by decide +kernel
theorem dJ0_checkIndex_df160_9 : decode cJ0_checkIndex_df160 9 = .ok (.return_, 1) := by decide +kernel
theorem dJ1_charAt_3b067_0 : decode cJ1_charAt_3b067 0 = .ok (.iload_n 1, 1) := by decide +kernel
theorem dJ1_charAt_3b067_1 : decode cJ1_charAt_3b067 1 = .ok (.aload_n 0, 1) := by decide +kernel
theorem dJ1_charAt_3b067_2 : decode cJ1_charAt_3b067 2 = .ok (.arraylength, 1) := by decide +kernel
theorem dJ1_charAt_3b067_3 : decode cJ1_charAt_3b067 3 = .ok (.invokestatic 9, 3) := by decide +kernel
theorem dJ1_charAt_3b067_6 : decode cJ1_charAt_3b067 6 = .ok (.aload_n 0, 1) := by decide +kernel
theorem dJ1_charAt_3b067_7 : decode cJ1_charAt_3b067 7 = .ok (.iload_n 1, 1) := by decide +kernel
theorem dJ1_charAt_3b067_8 : decode cJ1_charAt_3b067 8 = .ok (.baload, 1) := by decide +kernel
theorem dJ1_charAt_3b067_9 : decode cJ1_charAt_3b067 9 = .ok (.sipush 255, 3) := by decide +kernel
theorem dJ1_charAt_3b067_12 : decode cJ1_charAt_3b067 12 = .ok (.iand, 1) := by decide +kernel
theorem dJ1_charAt_3b067_13 : decode cJ1_charAt_3b067 13 = .ok (.i2c, 1) := by decide +kernel
theorem dJ1_charAt_3b067_14 : decode cJ1_charAt_3b067 14 = .ok (.ireturn, 1) := by decide +kernel
theorem dJ0_charAt_5068e_0 : decode cJ0_charAt_5068e 0 = .ok (.aload_n 0, 1) := by decide +kernel
theorem dJ0_charAt_5068e_1 : decode cJ0_charAt_5068e 1 = .ok (.invokevirtual 492, 3) := by decide +kernel
theorem dJ0_charAt_5068e_4 : decode cJ0_charAt_5068e 4 = .ok (.ifCond .eq 12, 3) := by decide +kernel
theorem dJ0_charAt_5068e_7 : decode cJ0_charAt_5068e 7 = .ok (.aload_n 0, 1) := by decide +kernel
theorem dJ0_charAt_5068e_8 : decode cJ0_charAt_5068e 8 = .ok (.getfield 9, 3) := by decide +kernel
theorem dJ0_charAt_5068e_11 : decode cJ0_charAt_5068e 11 = .ok (.iload_n 1, 1) := by decide +kernel
theorem dJ0_charAt_5068e_12 : decode cJ0_charAt_5068e 12 = .ok (.invokestatic 495, 3) := by decide +kernel
theorem dJ0_charAt_5068e_15 : decode cJ0_charAt_5068e 15 = .ok (.ireturn, 1) := by decide +kernel
theorem dJ0_charAt_5068e_16 : decode cJ0_charAt_5068e 16 = .ok (.aload_n 0, 1) := by decide +kernel
theorem dX11_direction_0 : decode cX11_direction 0 = .ok (.aload_n 0, 1) := by decide +kernel
theorem dX11_direction_1 : decode cX11_direction 1 = .ok (.iload_n 1, 1) := by decide +kernel
theorem dX11_direction_2 : decode cX11_direction 2 = .ok (.iload_n 2, 1) := by decide +kernel
theorem dX11_direction_3 : decode cX11_direction 3 = .ok (.invokevirtual 84, 3) := by decide +kernel
theorem dX11_direction_6 : decode cX11_direction 6 = .ok (.aload_n 0, 1) := by decide +kernel
theorem dX11_direction_7 : decode cX11_direction 7 = .ok (.getfield 49, 3) := by decide +kernel
theorem dX11_direction_10 : decode cX11_direction 10 = .ok (.iload_n 1, 1) := by decide +kernel
theorem dX11_direction_11 : decode cX11_direction 11 = .ok (.iload_n 2, 1) := by decide +kernel
theorem dX11_direction_12 : decode cX11_direction 12 = .ok (.iconst 0, 1) := by decide +kernel
theorem dX11_direction_13 : decode cX11_direction 13 = .ok (.invokevirtual 284, 3) := by decide +kernel
theorem dX11_direction_16 : decode cX11_direction 16 = .ok (.istore_n 3, 1) := by decide +kernel
theorem dX11_direction_17 : decode cX11_direction 17 = .ok (.iload_n 3, 1) := by decide +kernel
theorem dX11_direction_18 : decode cX11_direction 18 = .ok (.ifCond .lt 17, 3) := by decide +kernel
theorem dX11_direction_21 : decode cX11_direction 21 = .ok (.iload_n 3, 1) := by decide +kernel
theorem dX11_direction_22 : decode cX11_direction 22 = .ok (.iconst 5, 1) := by decide +kernel
theorem dX11_direction_23 : decode cX11_direction 23 = .ok (.if_icmp .ge 12, 3) := by decide +kernel
theorem dX11_direction_26 : decode cX11_direction 26 = .ok (.ldc 243, 2) := by decide +kernel
theorem dX11_direction_28 : decode cX11_direction 28 = .ok (.iload_n 3, 1) := by decide +kernel
theorem dX11_direction_29 : decode cX11_direction 29 = .ok (.invokevirtual 288, 3) := by decide +kernel
theorem dX11_direction_32 : decode cX11_direction 32 = .ok (.goto 5, 3) := by decide +kernel
theorem dX11_direction_35 : decode cX11_direction 35 = .ok (.bipush 99, 2) := by decide +kernel
theorem dX11_direction_37 : decode cX11_direction 37 = .ok (.ireturn, 1) := by decide +kernel
theorem dX11_isNumberOf_0 : decode cX11_isNumberOf 0 = .ok (.iload_n 1, 1) := by decide +kernel
theorem dX11_isNumberOf_1 : decode cX11_isNumberOf 1 = .ok (.lookupswitch 92 #[(100, 67), (106, 76), (108, 51), (114, 67), (115, 51)], 51) := by decide +kernel
theorem dX11_isNumberOf_52 : decode cX11_isNumberOf 52 = .ok (.iload_n 2, 1) := by decide +kernel
theorem dX11_isNumberOf_53 : decode cX11_isNumberOf 53 = .ok (.ifCond .lt 13, 3) := by decide +kernel
theorem dX11_isNumberOf_56 : decode cX11_isNumberOf 56 = .ok (.iload_n 2, 1) := by decide +kernel
theorem dX11_isNumberOf_57 : decode cX11_isNumberOf 57 = .ok (.bipush 8, 2) := by decide +kernel
theorem dX11_isNumberOf_59 : decode cX11_isNumberOf 59 = .ok (.if_icmp .ge 7, 3) := by decide +kernel
theorem dX11_isNumberOf_62 : decode cX11_isNumberOf 62 = .ok (.iconst 1, 1) := by decide +kernel
theorem dX11_isNumberOf_63 : decode cX11_isNumberOf 63 = .ok (.goto 4, 3) := by decide +kernel
theorem dX11_isNumberOf_66 : decode cX11_isNumberOf 66 = .ok (.iconst 0, 1) := by decide +kernel
theorem dX11_isNumberOf_67 : decode cX11_isNumberOf 67 = .ok (.ireturn, 1) := by decide +kernel
theorem dX11_isNumberOf_68 : decode cX11_isNumberOf 68 = .ok (.aload_n 0, 1) := by decide +kernel
theorem dX11_isNumberOf_69 : decode cX11_isNumberOf 69 = .ok (.getfield 10, 3) := by decide +kernel
theorem dX11_isNumberOf_72 : decode cX11_isNumberOf 72 = .ok (.iload_n 2, 1) := by decide +kernel
theorem dX11_isNumberOf_73 : decode cX11_isNumberOf 73 = .ok (.invokevirtual 419, 3) := by decide +kernel
theorem dX11_isNumberOf_76 : decode cX11_isNumberOf 76 = .ok (.ireturn, 1) := by decide +kernel
theorem dX11_isNumberOf_77 : decode cX11_isNumberOf 77 = .ok (.iload_n 2, 1) := by decide +kernel
theorem dX11_isNumberOf_78 : decode cX11_isNumberOf 78 = .ok (.ifCond .lt 13, 3) := by decide +kernel
theorem dX11_isNumberOf_81 : decode cX11_isNumberOf 81 = .ok (.iload_n 2, 1) := by decide +kernel
theorem dX11_isNumberOf_82 : decode cX11_isNumberOf 82 = .ok (.bipush 12, 2) := by decide +kernel
theorem dX11_isNumberOf_84 : decode cX11_isNumberOf 84 = .ok (.if_icmp .ge 7, 3) := by decide +kernel
theorem dX11_isNumberOf_87 : decode cX11_isNumberOf 87 = .ok (.iconst 1, 1) := by decide +kernel
theorem dX11_isNumberOf_88 : decode cX11_isNumberOf 88 = .ok (.goto 4, 3) := by decide +kernel
theorem dX11_isNumberOf_91 : decode cX11_isNumberOf 91 = .ok (.iconst 0, 1) := by decide +kernel
theorem dX11_isNumberOf_92 : decode cX11_isNumberOf 92 = .ok (.ireturn, 1) := by decide +kernel
theorem dX11_isNumberOf_93 : decode cX11_isNumberOf 93 = .ok (.iconst 1, 1) := by decide +kernel
theorem dX11_isNumberOf_94 : decode cX11_isNumberOf 94 = .ok (.ireturn, 1) := by decide +kernel
theorem dX11_program_0 : decode cX11_program 0 = .ok (.aload_n 0, 1) := by decide +kernel
theorem dX11_program_1 : decode cX11_program 1 = .ok (.iload_n 1, 1) := by decide +kernel
theorem dX11_program_2 : decode cX11_program 2 = .ok (.invokevirtual 103, 3) := by decide +kernel
theorem dX11_program_5 : decode cX11_program 5 = .ok (.ldc_w 292, 3) := by decide +kernel
theorem dX11_program_8 : decode cX11_program 8 = .ok (.iload_n 2, 1) := by decide +kernel
theorem dX11_program_9 : decode cX11_program 9 = .ok (.invokevirtual 215, 3) := by decide +kernel
theorem dX11_program_12 : decode cX11_program 12 = .ok (.ifCond .lt 12, 3) := by decide +kernel
theorem dX11_program_15 : decode cX11_program 15 = .ok (.aload_n 0, 1) := by decide +kernel
theorem dX11_program_16 : decode cX11_program 16 = .ok (.iload_n 2, 1) := by decide +kernel
theorem dX11_program_17 : decode cX11_program 17 = .ok (.iload_n 3, 1) := by decide +kernel
theorem dX11_program_18 : decode cX11_program 18 = .ok (.invokevirtual 294, 3) := by decide +kernel
theorem dX11_program_21 : decode cX11_program 21 = .ok (.ifCond .ne 14, 3) := by decide +kernel
theorem dX11_program_24 : decode cX11_program 24 = .ok (.new 109, 3) := by decide +kernel
theorem dX11_program_27 : decode cX11_program 27 = .ok (.dup, 1) := by decide +kernel
theorem dX11_program_28 : decode cX11_program 28 = .ok (.ldc_w 298, 3) := by decide +kernel
theorem dX11_program_31 : decode cX11_program 31 = .ok (.invokespecial 113, 3) := by decide +kernel
theorem dX11_program_34 : decode cX11_program 34 = .ok (.athrow, 1) := by decide +kernel
theorem dX11_program_35 : decode cX11_program 35 = .ok (.aload_n 0, 1) := by decide +kernel
theorem dX11_program_36 : decode cX11_program 36 = .ok (.getfield 40, 3) := by decide +kernel
theorem dX11_program_39 : decode cX11_program 39 = .ok (.iload_n 1, 1) := by decide +kernel
theorem dX11_program_40 : decode cX11_program 40 = .ok (.aaload, 1) := by decide +kernel
theorem dX11_program_41 : decode cX11_program 41 = .ok (.astore 4, 2) := by decide +kernel
theorem dX11_program_43 : decode cX11_program 43 = .ok (.aload 4, 2) := by decide +kernel
theorem dX11_program_45 : decode cX11_program 45 = .ok (.getfield 300, 3) := by decide +kernel
theorem dX11_program_48 : decode cX11_program 48 = .ok (.bipush 12, 2) := by decide +kernel
theorem dX11_program_50 : decode cX11_program 50 = .ok (.if_icmp .ge 11, 3) := by decide +kernel
theorem dX11_program_53 : decode cX11_program 53 = .ok (.aload 4, 2) := by decide +kernel
theorem dX11_program_55 : decode cX11_program 55 = .ok (.invokevirtual 267, 3) := by decide +kernel
theorem dX11_program_58 : decode cX11_program 58 = .ok (.ifCond .eq 14, 3) := by decide +kernel
theorem dX11_program_61 : decode cX11_program 61 = .ok (.new 303, 3) := by decide +kernel
theorem dX11_program_64 : decode cX11_program 64 = .ok (.dup, 1) := by decide +kernel
theorem dX11_program_65 : decode cX11_program 65 = .ok (.ldc_w 305, 3) := by decide +kernel
theorem dX11_program_68 : decode cX11_program 68 = .ok (.invokespecial 307, 3) := by decide +kernel
theorem dX11_program_71 : decode cX11_program 71 = .ok (.athrow, 1) := by decide +kernel
theorem dX11_program_72 : decode cX11_program 72 = .ok (.aload 4, 2) := by decide +kernel
theorem dX11_program_74 : decode cX11_program 74 = .ok (.iload_n 2, 1) := by decide +kernel
theorem dX11_program_75 : decode cX11_program 75 = .ok (.iload_n 3, 1) := by decide +kernel
theorem dX11_program_76 : decode cX11_program 76 = .ok (.invokevirtual 308, 3) := by decide +kernel
theorem dX11_program_79 : decode cX11_program 79 = .ok (.aload 4, 2) := by decide +kernel
theorem dX11_program_81 : decode cX11_program 81 = .ok (.getfield 300, 3) := by decide +kernel
theorem dX11_program_84 : decode cX11_program 84 = .ok (.ireturn, 1) := by decide +kernel
theorem dX11_needCoreAtRest_0 : decode cX11_needCoreAtRest 0 = .ok (.aload_n 0, 1) := by decide +kernel
theorem dX11_needCoreAtRest_1 : decode cX11_needCoreAtRest 1 = .ok (.getfield 40, 3) := by decide +kernel
theorem dX11_needCoreAtRest_4 : decode cX11_needCoreAtRest 4 = .ok (.iload_n 1, 1) := by decide +kernel
theorem dX11_needCoreAtRest_5 : decode cX11_needCoreAtRest 5 = .ok (.aaload, 1) := by decide +kernel
theorem dX11_needCoreAtRest_6 : decode cX11_needCoreAtRest 6 = .ok (.invokevirtual 267, 3) := by decide +kernel
theorem dX11_needCoreAtRest_9 : decode cX11_needCoreAtRest 9 = .ok (.ifCond .eq 14, 3) := by decide +kernel
theorem dX11_needCoreAtRest_12 : decode cX11_needCoreAtRest 12 = .ok (.new 303, 3) := by decide +kernel
theorem dX11_needCoreAtRest_15 : decode cX11_needCoreAtRest 15 = .ok (.dup, 1) := by decide +kernel
theorem dX11_needCoreAtRest_16 : decode cX11_needCoreAtRest 16 = .ok (.ldc_w 439, 3) := by decide +kernel
theorem dX11_needCoreAtRest_19 : decode cX11_needCoreAtRest 19 = .ok (.invokespecial 307, 3) := by decide +kernel
theorem dX11_needCoreAtRest_22 : decode cX11_needCoreAtRest 22 = .ok (.athrow, 1) := by decide +kernel
theorem dX11_needCoreAtRest_23 : decode cX11_needCoreAtRest 23 = .ok (.return_, 1) := by decide +kernel
theorem dX11_clear_0 : decode cX11_clear 0 = .ok (.aload_n 0, 1) := by decide +kernel
theorem dX11_clear_1 : decode cX11_clear 1 = .ok (.iload_n 1, 1) := by decide +kernel
theorem dX11_clear_2 : decode cX11_clear 2 = .ok (.invokevirtual 103, 3) := by decide +kernel
theorem dX11_clear_5 : decode cX11_clear 5 = .ok (.aload_n 0, 1) := by decide +kernel
theorem dX11_clear_6 : decode cX11_clear 6 = .ok (.iload_n 1, 1) := by decide +kernel
theorem dX11_clear_7 : decode cX11_clear 7 = .ok (.invokevirtual 312, 3) := by decide +kernel
theorem dX11_clear_10 : decode cX11_clear 10 = .ok (.aload_n 0, 1) := by decide +kernel
theorem dX11_clear_11 : decode cX11_clear 11 = .ok (.getfield 40, 3) := by decide +kernel
theorem dX11_clear_14 : decode cX11_clear 14 = .ok (.iload_n 1, 1) := by decide +kernel
theorem dX11_clear_15 : decode cX11_clear 15 = .ok (.aaload, 1) := by decide +kernel
theorem dX11_clear_16 : decode cX11_clear 16 = .ok (.getfield 300, 3) := by decide +kernel
theorem dX11_clear_19 : decode cX11_clear 19 = .ok (.istore_n 2, 1) := by decide +kernel
theorem dX11_clear_20 : decode cX11_clear 20 = .ok (.aload_n 0, 1) := by decide +kernel
theorem dX11_clear_21 : decode cX11_clear 21 = .ok (.getfield 40, 3) := by decide +kernel
theorem dX11_clear_24 : decode cX11_clear 24 = .ok (.iload_n 1, 1) := by decide +kernel
theorem dX11_clear_25 : decode cX11_clear 25 = .ok (.aaload, 1) := by decide +kernel
theorem dX11_clear_26 : decode cX11_clear 26 = .ok (.iconst 0, 1) := by decide +kernel
theorem dX11_clear_27 : decode cX11_clear 27 = .ok (.putfield 300, 3) := by decide +kernel
theorem dX11_clear_30 : decode cX11_clear 30 = .ok (.iload_n 2, 1) := by decide +kernel
theorem dX11_clear_31 : decode cX11_clear 31 = .ok (.ireturn, 1) := by decide +kernel
theorem dX11_start_0 : decode cX11_start 0 = .ok (.aload_n 0, 1) := by decide +kernel
theorem dX11_start_1 : decode cX11_start 1 = .ok (.iload_n 1, 1) := by decide +kernel
theorem dX11_start_2 : decode cX11_start 2 = .ok (.invokevirtual 103, 3) := by decide +kernel
theorem dX11_start_5 : decode cX11_start 5 = .ok (.aload_n 0, 1) := by decide +kernel
theorem dX11_start_6 : decode cX11_start 6 = .ok (.getfield 40, 3) := by decide +kernel
theorem dX11_start_9 : decode cX11_start 9 = .ok (.iload_n 1, 1) := by decide +kernel
theorem dX11_start_10 : decode cX11_start 10 = .ok (.aaload, 1) := by decide +kernel
theorem dX11_start_11 : decode cX11_start 11 = .ok (.getfield 300, 3) := by decide +kernel
theorem dX11_start_14 : decode cX11_start 14 = .ok (.ifCond .ne 14, 3) := by decide +kernel
theorem dX11_start_17 : decode cX11_start 17 = .ok (.new 251, 3) := by decide +kernel
theorem dX11_start_20 : decode cX11_start 20 = .ok (.dup, 1) := by decide +kernel
theorem dX11_start_21 : decode cX11_start 21 = .ok (.ldc_w 315, 3) := by decide +kernel
theorem dX11_start_24 : decode cX11_start 24 = .ok (.invokespecial 255, 3) := by decide +kernel
theorem dX11_start_27 : decode cX11_start 27 = .ok (.athrow, 1) := by decide +kernel
theorem dX11_start_28 : decode cX11_start 28 = .ok (.aload_n 0, 1) := by decide +kernel
theorem dX11_start_29 : decode cX11_start 29 = .ok (.iload_n 1, 1) := by decide +kernel
theorem dX11_start_30 : decode cX11_start 30 = .ok (.invokevirtual 312, 3) := by decide +kernel
theorem dX11_start_33 : decode cX11_start 33 = .ok (.aload_n 0, 1) := by decide +kernel
theorem dX11_start_34 : decode cX11_start 34 = .ok (.getfield 40, 3) := by decide +kernel
theorem dX11_start_37 : decode cX11_start 37 = .ok (.iload_n 1, 1) := by decide +kernel
theorem dX11_start_38 : decode cX11_start 38 = .ok (.aaload, 1) := by decide +kernel
theorem dX11_start_39 : decode cX11_start 39 = .ok (.invokevirtual 317, 3) := by decide +kernel
theorem dX11_start_42 : decode cX11_start 42 = .ok (.aload_n 0, 1) := by decide +kernel
theorem dX11_start_43 : decode cX11_start 43 = .ok (.getfield 67, 3) := by decide +kernel
theorem dX11_start_46 : decode cX11_start 46 = .ok (.invokevirtual 320, 3) := by decide +kernel
theorem dX11_start_49 : decode cX11_start 49 = .ok (.ireturn, 1) := by decide +kernel
theorem dX11_core_0 : decode cX11_core 0 = .ok (.aload_n 0, 1) := by decide +kernel
theorem dX11_core_1 : decode cX11_core 1 = .ok (.iload_n 1, 1) := by decide +kernel
theorem dX11_core_2 : decode cX11_core 2 = .ok (.invokevirtual 103, 3) := by decide +kernel
theorem dX11_core_5 : decode cX11_core 5 = .ok (.aload_n 0, 1) := by decide +kernel
theorem dX11_core_6 : decode cX11_core 6 = .ok (.getfield 40, 3) := by decide +kernel
theorem dX11_core_9 : decode cX11_core 9 = .ok (.iload_n 1, 1) := by decide +kernel
theorem dX11_core_10 : decode cX11_core 10 = .ok (.aaload, 1) := by decide +kernel
theorem dX11_core_11 : decode cX11_core 11 = .ok (.getfield 323, 3) := by decide +kernel
theorem dX11_core_14 : decode cX11_core 14 = .ok (.ireturn, 1) := by decide +kernel
theorem dX11_fault_0 : decode cX11_fault 0 = .ok (.aload_n 0, 1) := by decide +kernel
theorem dX11_fault_1 : decode cX11_fault 1 = .ok (.iload_n 1, 1) := by decide +kernel
theorem dX11_fault_2 : decode cX11_fault 2 = .ok (.invokevirtual 103, 3) := by decide +kernel
theorem dX11_fault_5 : decode cX11_fault 5 = .ok (.aload_n 0, 1) := by decide +kernel
theorem dX11_fault_6 : decode cX11_fault 6 = .ok (.getfield 40, 3) := by decide +kernel
theorem dX11_fault_9 : decode cX11_fault 9 = .ok (.iload_n 1, 1) := by decide +kernel
theorem dX11_fault_10 : decode cX11_fault 10 = .ok (.aaload, 1) := by decide +kernel
theorem dX11_fault_11 : decode cX11_fault 11 = .ok (.getfield 323, 3) := by decide +kernel
theorem dX11_fault_14 : decode cX11_fault 14 = .ok (.bipush 120, 2) := by decide +kernel
theorem dX11_fault_16 : decode cX11_fault 16 = .ok (.if_icmp .eq 14, 3) := by decide +kernel
theorem dX11_fault_19 : decode cX11_fault 19 = .ok (.new 146, 3) := by decide +kernel
theorem dX11_fault_22 : decode cX11_fault 22 = .ok (.dup, 1) := by decide +kernel
theorem dX11_fault_23 : decode cX11_fault 23 = .ok (.ldc_w 324, 3) := by decide +kernel
theorem dX11_fault_26 : decode cX11_fault 26 = .ok (.invokespecial 150, 3) := by decide +kernel
theorem dX11_fault_29 : decode cX11_fault 29 = .ok (.athrow, 1) := by decide +kernel
theorem dX11_fault_30 : decode cX11_fault 30 = .ok (.aload_n 0, 1) := by decide +kernel
theorem dX11_fault_31 : decode cX11_fault 31 = .ok (.getfield 40, 3) := by decide +kernel
theorem dX11_fault_34 : decode cX11_fault 34 = .ok (.iload_n 1, 1) := by decide +kernel
theorem dX11_fault_35 : decode cX11_fault 35 = .ok (.aaload, 1) := by decide +kernel
theorem dX11_fault_36 : decode cX11_fault 36 = .ok (.getfield 326, 3) := by decide +kernel
theorem dX11_fault_39 : decode cX11_fault 39 = .ok (.ireturn, 1) := by decide +kernel
theorem dX11_memory_0 : decode cX11_memory 0 = .ok (.aload_n 0, 1) := by decide +kernel
theorem dX11_memory_1 : decode cX11_memory 1 = .ok (.iload_n 1, 1) := by decide +kernel
theorem dX11_memory_2 : decode cX11_memory 2 = .ok (.invokevirtual 103, 3) := by decide +kernel
theorem dX11_memory_5 : decode cX11_memory 5 = .ok (.aload_n 0, 1) := by decide +kernel
theorem dX11_memory_6 : decode cX11_memory 6 = .ok (.iload_n 2, 1) := by decide +kernel
theorem dX11_memory_7 : decode cX11_memory 7 = .ok (.iconst 0, 1) := by decide +kernel
theorem dX11_memory_8 : decode cX11_memory 8 = .ok (.bipush 7, 2) := by decide +kernel
theorem dX11_memory_10 : decode cX11_memory 10 = .ok (.invokevirtual 87, 3) := by decide +kernel
theorem dX11_memory_13 : decode cX11_memory 13 = .ok (.aload_n 0, 1) := by decide +kernel
theorem dX11_memory_14 : decode cX11_memory 14 = .ok (.getfield 40, 3) := by decide +kernel
theorem dX11_memory_17 : decode cX11_memory 17 = .ok (.iload_n 1, 1) := by decide +kernel
theorem dX11_memory_18 : decode cX11_memory 18 = .ok (.aaload, 1) := by decide +kernel
theorem dX11_memory_19 : decode cX11_memory 19 = .ok (.getfield 329, 3) := by decide +kernel
theorem dX11_memory_22 : decode cX11_memory 22 = .ok (.iload_n 2, 1) := by decide +kernel
theorem dX11_memory_23 : decode cX11_memory 23 = .ok (.iaload, 1) := by decide +kernel
theorem dX11_memory_24 : decode cX11_memory 24 = .ok (.ireturn, 1) := by decide +kernel
theorem dX11_set_0 : decode cX11_set 0 = .ok (.aload_n 0, 1) := by decide +kernel
theorem dX11_set_1 : decode cX11_set 1 = .ok (.iload_n 1, 1) := by decide +kernel
theorem dX11_set_2 : decode cX11_set 2 = .ok (.invokevirtual 103, 3) := by decide +kernel
theorem dX11_set_5 : decode cX11_set 5 = .ok (.aload_n 0, 1) := by decide +kernel
theorem dX11_set_6 : decode cX11_set 6 = .ok (.iload_n 2, 1) := by decide +kernel
theorem dX11_set_7 : decode cX11_set 7 = .ok (.iconst 0, 1) := by decide +kernel
theorem dX11_set_8 : decode cX11_set 8 = .ok (.bipush 7, 2) := by decide +kernel
theorem dX11_set_10 : decode cX11_set 10 = .ok (.invokevirtual 87, 3) := by decide +kernel
theorem dX11_set_13 : decode cX11_set 13 = .ok (.aload_n 0, 1) := by decide +kernel
theorem dX11_set_14 : decode cX11_set 14 = .ok (.getfield 40, 3) := by decide +kernel
theorem dX11_set_17 : decode cX11_set 17 = .ok (.iload_n 1, 1) := by decide +kernel
theorem dX11_set_18 : decode cX11_set 18 = .ok (.aaload, 1) := by decide +kernel
theorem dX11_set_19 : decode cX11_set 19 = .ok (.getfield 329, 3) := by decide +kernel
theorem dX11_set_22 : decode cX11_set 22 = .ok (.iload_n 2, 1) := by decide +kernel
theorem dX11_set_23 : decode cX11_set 23 = .ok (.iaload, 1) := by decide +kernel
theorem dX11_set_24 : decode cX11_set 24 = .ok (.istore 4, 2) := by decide +kernel
theorem dX11_set_26 : decode cX11_set 26 = .ok (.aload_n 0, 1) := by decide +kernel
theorem dX11_set_27 : decode cX11_set 27 = .ok (.getfield 40, 3) := by decide +kernel
theorem dX11_set_30 : decode cX11_set 30 = .ok (.iload_n 1, 1) := by decide +kernel
theorem dX11_set_31 : decode cX11_set 31 = .ok (.aaload, 1) := by decide +kernel
theorem dX11_set_32 : decode cX11_set 32 = .ok (.getfield 329, 3) := by decide +kernel
theorem dX11_set_35 : decode cX11_set 35 = .ok (.iload_n 2, 1) := by decide +kernel
theorem dX11_set_36 : decode cX11_set 36 = .ok (.iload_n 3, 1) := by decide +kernel
theorem dX11_set_37 : decode cX11_set 37 = .ok (.iastore, 1) := by decide +kernel
theorem dX11_set_38 : decode cX11_set 38 = .ok (.iload 4, 2) := by decide +kernel
theorem dX11_set_40 : decode cX11_set 40 = .ok (.ireturn, 1) := by decide +kernel
def f_Y_places (μ : me_M) (v1 : Int32) : Option (me_M × (Except Nat Int32)) :=
  me_bd (f_Y_needRange μ v1 (1 : Int32) (4 : Int32)) (fun r1 =>
  me_xb2 r1 μ (fun r1 =>
  me_lt ((μ 0 0 9)) (fun x2 =>
  me_b2 (f_Y_setAllPlaces μ v1) (fun μ4 r3 =>
  some (μ4, .ok x2)))))
set_option maxHeartbeats 4000000 in
set_option maxRecDepth 100000 in
theorem z_Y_places {X : me_X} {B : me_B} {sz : Nat} (C : me_C X B RX11 cX11_places 3 (some .int)) {μ : me_M} {v1 : Int32}   {r : me_M × (Except Nat Int32)} (N : me_En X B sz (B, r.1, me_xc (fun v => some (me_i v)) r.2) 7 113 1 6) (hNx : me_Nx X) (hB : me_St B)   (hf : f_Y_places μ v1 = some r) : me_Z X B 0 0 μ 0 [(0, me_r 0 0), (1, me_i v1)] [] := by
  unfold f_Y_places at hf
  refine me_aload_n C 0 (Or.inr (Or.inl ⟨_, rfl⟩)) dX11_places_0 rfl rfl ?_
  refine me_iload_n C 1 dX11_places_1 rfl rfl ?_
  refine me_iconst C (v := 1) dX11_places_2 (by decide) ?_
  refine me_iconst C (v := 4) dX11_places_3 (by decide) ?_
  obtain ⟨r1, h_r1, hf⟩ := me_bs hf
  rcases r1 with r1 | r1
  · replace hf := me_xb2e hf
    refine me_callVE C N  (As := [me_i v1, me_i (1 : Int32), me_i (4 : Int32)]) (st := []) 1 6 (c_Y_needRange hB h_r1) mv_Y_needRange ml_Y_87 rfl rfl dX11_places_4 rfl rfl ⟨by decide, by decide⟩ ⟨by decide, by decide, by decide, by decide⟩ (Nat.le_of_ble_eq_true rfl) ?_
    exact me_outX C N hNx (by cases hf; rfl) (by decide) (by decide)
  replace hf := me_xb2o hf
  refine me_callV0 C N  (As := [me_i v1, me_i (1 : Int32), me_i (4 : Int32)]) (st := []) 1 6 (c_Y_needRange hB h_r1) mv_Y_needRange ml_Y_87 rfl rfl dX11_places_4 rfl rfl ⟨by decide, by decide⟩ ⟨by decide, by decide, by decide, by decide⟩ (Nat.le_of_ble_eq_true rfl) ?_
  refine me_aload_n C 0 (Or.inr (Or.inl ⟨_, rfl⟩)) dX11_places_7 rfl rfl ?_
  refine me_geti C 9 fg_Y_225 dX11_places_8 rfl ?_
  obtain ⟨x2, e_x2, hf⟩ := me_lts hf
  refine me_nm e_x2 ?_
  refine me_istore_n C 2 dX11_places_11 rfl (by decide) (L' := [(2, me_i x2), (0, me_r 0 0), (1, me_i v1)]) rfl ?_
  refine me_aload_n C 0 (Or.inr (Or.inl ⟨_, rfl⟩)) dX11_places_12 rfl rfl ?_
  refine me_iload_n C 1 dX11_places_13 rfl rfl ?_
  obtain ⟨μ4, r3, h_r3, hf⟩ := me_bs2 hf
  refine me_callV0 C N  (As := [me_i v1]) (st := []) 1 6 (c_Y_setAllPlaces hB h_r3) mv_Y_setAllPlaces ml_Y_228 rfl rfl dX11_places_14 rfl rfl ⟨by decide, by decide⟩ ⟨by decide, by decide, by decide, by decide⟩ (Nat.le_of_ble_eq_true rfl) ?_
  refine me_iload_n C 2 dX11_places_17 rfl rfl ?_
  exact me_iret C N dX11_places_18 (me_nri _) (by cases hf; rfl) (by decide) (by decide)
theorem c_Y_places {B : me_B} (hB : me_St B) {μ : me_M} {v1 : Int32} {μ' : me_M} {r : Except Nat Int32}  (hf : f_Y_places μ v1 = some (μ', r)) : ∀ l E z, l.stackTraces = false → me_Met l yX11_places cX11_places 3 (some .int) 7 113 1 6 E B μ z [me_r 0 0, me_i v1] (B, μ', me_xc (fun v => some (me_i v)) r) :=
  fun _ _ _ hl => me_ofZ hl (by decide +kernel) (Nat.le_of_ble_eq_true rfl) (fun _ C N hNx => z_Y_places C N hNx hB  hf)

def f_Y_needRow_b29 (μ : me_M) : Option (Except Nat Nat) :=
  some (.error 2)
set_option maxHeartbeats 4000000 in
set_option maxRecDepth 100000 in
theorem z_Y_needRow_b29 {X : me_X} {B : me_B} {sz : Nat} (C : me_C X B RX11 cX11_needRow 6 (some (.object "Meshyard$Row"))) {μ : me_M}    {r : Except Nat Nat} (N : me_En X B sz (B, μ, me_xc (fun v => some (me_r 17 v)) r) 6 91 1 6) (hNx : me_Nx X) (hB : me_St B)   (hf : f_Y_needRow_b29 μ = some r) : me_Z X B 0 0 μ 29 [] [] := by
  unfold f_Y_needRow_b29 at hf
  exact me_throwW C N hNx 2 cl_Y_109 ie_2 sr_Y_441 tw_Y_113 ft_2 dX11_needRow_29 dX11_needRow_32 dX11_needRow_33 dX11_needRow_36 dX11_needRow_39 ⟨by decide, by decide⟩ (Nat.le_of_ble_eq_true rfl) ⟨by decide, by decide⟩ (by cases hf; rfl)
def f_Y_needRow (μ : me_M) (v1 : Int32) (v2 : Int32) (v3 : Int32) (v4 : Int32) : Option (Except Nat Nat) :=
  me_bd (f_Str_indexOf1 μ 1 v2) (fun r1 =>
  if r1 < 0 then
  (f_Y_needRow_b29 μ)
  else
  (if v4 ≤ r1 then
  (f_Y_needRow_b29 μ)
  else
  (if v3 < 0 then
  (f_Y_needRow_b29 μ)
  else
  (if v3 < (2 : Int32) then
  (me_gd (me_inb v1 16) (
  me_gd (me_inb ((v3 * (5 : Int32)) + r1) 10) (
  some (.ok (10 * (me_ix v1) + (me_ix ((v3 * (5 : Int32)) + r1)))))))
  else
  (f_Y_needRow_b29 μ)))))
set_option maxHeartbeats 4000000 in
set_option maxRecDepth 100000 in
theorem z_Y_needRow {X : me_X} {B : me_B} {sz : Nat} (C : me_C X B RX11 cX11_needRow 6 (some (.object "Meshyard$Row"))) {μ : me_M} {v1 : Int32} {v2 : Int32} {v3 : Int32} {v4 : Int32}   {r : Except Nat Nat} (N : me_En X B sz (B, μ, me_xc (fun v => some (me_r 17 v)) r) 6 91 1 6) (hNx : me_Nx X) (hB : me_St B)   (hf : f_Y_needRow μ v1 v2 v3 v4 = some r) : me_Z X B 0 0 μ 0 [(0, me_r 0 0), (1, me_i v1), (2, me_i v2), (3, me_i v3), (4, me_i v4)] [] := by
  unfold f_Y_needRow at hf
  refine me_ldcS C sx_Y_243 dX11_needRow_0 ?_
  refine me_iload_n C 2 dX11_needRow_2 rfl rfl ?_
  obtain ⟨r1, h_r1, hf⟩ := me_bs hf
  refine me_callG C N (by decide) (As := [me_i v2]) (st := []) 0 0 (c_Str_indexOf1 hB (by decide) h_r1) mv_Str_indexOf1 ml_Y_215 rfl dX11_needRow_3 rfl rfl ⟨by decide, by decide⟩ ⟨by decide, by decide, by decide, by decide⟩ (Nat.le_of_ble_eq_true rfl) ?_
  refine me_istore C dX11_needRow_6 (by decide) (L' := [(5, me_i r1), (0, me_r 0 0), (1, me_i v1), (2, me_i v2), (3, me_i v3), (4, me_i v4)]) rfl ?_
  refine me_iload C dX11_needRow_8 rfl ?_
  refine me_if_lt C (tgt := 29) dX11_needRow_10 (by decide) (fun c2 => ?_) (fun c2 => ?_)
  · replace hf := me_ip c2 hf
    refine me_dropI [] [] rfl ?_
    exact z_Y_needRow_b29 C N hNx hB hf
  · replace hf := me_in c2 hf
    refine me_iload C dX11_needRow_13 rfl ?_
    refine me_iload C dX11_needRow_15 rfl ?_
    refine me_icmp_ge C (tgt := 29) dX11_needRow_17 (by decide) (fun c3 => ?_) (fun c3 => ?_)
    · replace hf := me_ip c3 hf
      refine me_dropI [] [] rfl ?_
      exact z_Y_needRow_b29 C N hNx hB hf
    · replace hf := me_in c3 hf
      refine me_iload_n C 3 dX11_needRow_20 rfl rfl ?_
      refine me_if_lt C (tgt := 29) dX11_needRow_21 (by decide) (fun c4 => ?_) (fun c4 => ?_)
      · replace hf := me_ip c4 hf
        refine me_dropI [] [] rfl ?_
        exact z_Y_needRow_b29 C N hNx hB hf
      · replace hf := me_in c4 hf
        refine me_iload_n C 3 dX11_needRow_24 rfl rfl ?_
        refine me_iconst C (v := 2) dX11_needRow_25 (by decide) ?_
        refine me_icmp_lt C (tgt := 40) dX11_needRow_26 (by decide) (fun c5 => ?_) (fun c5 => ?_)
        · replace hf := me_ip c5 hf
          refine me_aload_n C 0 (Or.inr (Or.inl ⟨_, rfl⟩)) dX11_needRow_40 rfl rfl ?_
          refine me_getr C hB 3 (k' := 12) (i' := 0) fg_Y_34 dX11_needRow_41 rfl rfl ?_
          refine me_iload_n C 1 dX11_needRow_44 rfl rfl ?_
          obtain ⟨g6, hf⟩ := me_gs hf
          refine me_aald C hB (k' := 13) (i' := (me_ix v1)) rfl (fun _ => rfl) rfl g6 dX11_needRow_45 rfl ?_
          refine me_getr C hB 0 (k' := 14) (i' := (me_ix v1)) fg_Y_443 dX11_needRow_46 rfl rfl ?_
          refine me_iload_n C 3 dX11_needRow_49 rfl rfl ?_
          refine me_iconst C (v := 5) dX11_needRow_50 (by decide) ?_
          refine me_imul C dX11_needRow_51 ?_
          refine me_iload C dX11_needRow_52 rfl ?_
          refine me_iadd C dX11_needRow_54 ?_
          obtain ⟨g7, hf⟩ := me_gs hf
          refine me_aald C hB (k' := 17) (i' := 10 * (me_ix v1) + (me_ix ((v3 * (5 : Int32)) + r1))) rfl (fun _ => rfl) rfl g7 dX11_needRow_55 rfl ?_
          exact me_aret C N (Or.inr ⟨_, rfl⟩) dX11_needRow_56 (by cases hf; rfl) (by decide) (by decide)
        · replace hf := me_in c5 hf
          refine me_dropI [] [] rfl ?_
          exact z_Y_needRow_b29 C N hNx hB hf
theorem c_Y_needRow {B : me_B} (hB : me_St B) {μ : me_M} {v1 : Int32} {v2 : Int32} {v3 : Int32} {v4 : Int32} {r : Except Nat Nat}  (hf : f_Y_needRow μ v1 v2 v3 v4 = some r) : ∀ l E z, l.stackTraces = false → me_Met l yX11_needRow cX11_needRow 6 (some (.object "Meshyard$Row")) 6 91 1 6 E B μ z [me_r 0 0, me_i v1, me_i v2, me_i v3, me_i v4] (B, μ, me_xc (fun v => some (me_r 17 v)) r) :=
  fun _ _ _ hl => me_ofZ hl (by decide +kernel) (Nat.le_of_ble_eq_true rfl) (fun _ C N hNx => z_Y_needRow C N hNx hB  hf)

def f_Y_row (μ : me_M) (v1 : Int32) (v2 : Int32) (v3 : Int32) : Option (Except Nat Int32) :=
  me_bd (f_Y_needNode μ v1) (fun r1 =>
  me_xb r1 (fun r1 =>
  me_bd (f_Y_needRow μ v1 v2 v3 (5 : Int32)) (fun r2 =>
  me_xb r2 (fun r2 =>
  some (.ok (μ 17 r2 3))))))
set_option maxHeartbeats 4000000 in
set_option maxRecDepth 100000 in
theorem z_Y_row {X : me_X} {B : me_B} {sz : Nat} (C : me_C X B RX11 cX11_row 4 (some .int)) {μ : me_M} {v1 : Int32} {v2 : Int32} {v3 : Int32}   {r : Except Nat Int32} (N : me_En X B sz (B, μ, me_xc (fun v => some (me_i v)) r) 7 116 2 12) (hNx : me_Nx X) (hB : me_St B)   (hf : f_Y_row μ v1 v2 v3 = some r) : me_Z X B 0 0 μ 0 [(0, me_r 0 0), (1, me_i v1), (2, me_i v2), (3, me_i v3)] [] := by
  unfold f_Y_row at hf
  refine me_aload_n C 0 (Or.inr (Or.inl ⟨_, rfl⟩)) dX11_row_0 rfl rfl ?_
  refine me_iload_n C 1 dX11_row_1 rfl rfl ?_
  obtain ⟨r1, h_r1, hf⟩ := me_bs hf
  rcases r1 with r1 | r1
  · replace hf := me_xbe hf
    refine me_callVE C N  (As := [me_i v1]) (st := []) 1 6 (c_Y_needNode hB h_r1) mv_Y_needNode ml_Y_103 rfl rfl dX11_row_2 rfl rfl ⟨by decide, by decide⟩ ⟨by decide, by decide, by decide, by decide⟩ (Nat.le_of_ble_eq_true rfl) ?_
    exact me_outX C N hNx (by cases hf; rfl) (by decide) (by decide)
  replace hf := me_xbo hf
  refine me_callV0 C N  (As := [me_i v1]) (st := []) 1 6 (c_Y_needNode hB h_r1) mv_Y_needNode ml_Y_103 rfl rfl dX11_row_2 rfl rfl ⟨by decide, by decide⟩ ⟨by decide, by decide, by decide, by decide⟩ (Nat.le_of_ble_eq_true rfl) ?_
  refine me_aload_n C 0 (Or.inr (Or.inl ⟨_, rfl⟩)) dX11_row_5 rfl rfl ?_
  refine me_iload_n C 1 dX11_row_6 rfl rfl ?_
  refine me_iload_n C 2 dX11_row_7 rfl rfl ?_
  refine me_iload_n C 3 dX11_row_8 rfl rfl ?_
  refine me_iconst C (v := 5) dX11_row_9 (by decide) ?_
  obtain ⟨r2, h_r2, hf⟩ := me_bs hf
  rcases r2 with r2 | r2
  · replace hf := me_xbe hf
    refine me_callVE C N  (As := [me_i v1, me_i v2, me_i v3, me_i (5 : Int32)]) (st := []) 2 12 (c_Y_needRow hB h_r2) mv_Y_needRow ml_Y_231 rfl rfl dX11_row_10 rfl rfl ⟨by decide, by decide⟩ ⟨by decide, by decide, by decide, by decide⟩ (Nat.le_of_ble_eq_true rfl) ?_
    exact me_outX C N hNx (by cases hf; rfl) (by decide) (by decide)
  replace hf := me_xbo hf
  refine me_callV C N  (As := [me_i v1, me_i v2, me_i v3, me_i (5 : Int32)]) (st := []) 2 12 (c_Y_needRow hB h_r2) mv_Y_needRow ml_Y_231 rfl rfl dX11_row_10 rfl rfl ⟨by decide, by decide⟩ ⟨by decide, by decide, by decide, by decide⟩ (Nat.le_of_ble_eq_true rfl) ?_
  refine me_geti C 3 fg_Y_235 dX11_row_13 rfl ?_
  exact me_iret C N dX11_row_16 (me_nri _) (by cases hf; rfl) (by decide) (by decide)
theorem c_Y_row {B : me_B} (hB : me_St B) {μ : me_M} {v1 : Int32} {v2 : Int32} {v3 : Int32} {r : Except Nat Int32}  (hf : f_Y_row μ v1 v2 v3 = some r) : ∀ l E z, l.stackTraces = false → me_Met l yX11_row cX11_row 4 (some .int) 7 116 2 12 E B μ z [me_r 0 0, me_i v1, me_i v2, me_i v3] (B, μ, me_xc (fun v => some (me_i v)) r) :=
  fun _ _ _ hl => me_ofZ hl (by decide +kernel) (Nat.le_of_ble_eq_true rfl) (fun _ C N hNx => z_Y_row C N hNx hB  hf)

def f_Y_owner (μ : me_M) (v1 : Int32) (v2 : Int32) (v3 : Int32) : Option (Except Nat Int32) :=
  me_bd (f_Y_needNode μ v1) (fun r1 =>
  me_xb r1 (fun r1 =>
  me_bd (f_Y_needRow μ v1 v2 v3 (4 : Int32)) (fun r2 =>
  me_xb r2 (fun r2 =>
  some (.ok (μ 17 r2 5))))))
set_option maxHeartbeats 4000000 in
set_option maxRecDepth 100000 in
theorem z_Y_owner {X : me_X} {B : me_B} {sz : Nat} (C : me_C X B RX11 cX11_owner 4 (some .int)) {μ : me_M} {v1 : Int32} {v2 : Int32} {v3 : Int32}   {r : Except Nat Int32} (N : me_En X B sz (B, μ, me_xc (fun v => some (me_i v)) r) 7 116 2 12) (hNx : me_Nx X) (hB : me_St B)   (hf : f_Y_owner μ v1 v2 v3 = some r) : me_Z X B 0 0 μ 0 [(0, me_r 0 0), (1, me_i v1), (2, me_i v2), (3, me_i v3)] [] := by
  unfold f_Y_owner at hf
  refine me_aload_n C 0 (Or.inr (Or.inl ⟨_, rfl⟩)) dX11_owner_0 rfl rfl ?_
  refine me_iload_n C 1 dX11_owner_1 rfl rfl ?_
  obtain ⟨r1, h_r1, hf⟩ := me_bs hf
  rcases r1 with r1 | r1
  · replace hf := me_xbe hf
    refine me_callVE C N  (As := [me_i v1]) (st := []) 1 6 (c_Y_needNode hB h_r1) mv_Y_needNode ml_Y_103 rfl rfl dX11_owner_2 rfl rfl ⟨by decide, by decide⟩ ⟨by decide, by decide, by decide, by decide⟩ (Nat.le_of_ble_eq_true rfl) ?_
    exact me_outX C N hNx (by cases hf; rfl) (by decide) (by decide)
  replace hf := me_xbo hf
  refine me_callV0 C N  (As := [me_i v1]) (st := []) 1 6 (c_Y_needNode hB h_r1) mv_Y_needNode ml_Y_103 rfl rfl dX11_owner_2 rfl rfl ⟨by decide, by decide⟩ ⟨by decide, by decide, by decide, by decide⟩ (Nat.le_of_ble_eq_true rfl) ?_
  refine me_aload_n C 0 (Or.inr (Or.inl ⟨_, rfl⟩)) dX11_owner_5 rfl rfl ?_
  refine me_iload_n C 1 dX11_owner_6 rfl rfl ?_
  refine me_iload_n C 2 dX11_owner_7 rfl rfl ?_
  refine me_iload_n C 3 dX11_owner_8 rfl rfl ?_
  refine me_iconst C (v := 4) dX11_owner_9 (by decide) ?_
  obtain ⟨r2, h_r2, hf⟩ := me_bs hf
  rcases r2 with r2 | r2
  · replace hf := me_xbe hf
    refine me_callVE C N  (As := [me_i v1, me_i v2, me_i v3, me_i (4 : Int32)]) (st := []) 2 12 (c_Y_needRow hB h_r2) mv_Y_needRow ml_Y_231 rfl rfl dX11_owner_10 rfl rfl ⟨by decide, by decide⟩ ⟨by decide, by decide, by decide, by decide⟩ (Nat.le_of_ble_eq_true rfl) ?_
    exact me_outX C N hNx (by cases hf; rfl) (by decide) (by decide)
  replace hf := me_xbo hf
  refine me_callV C N  (As := [me_i v1, me_i v2, me_i v3, me_i (4 : Int32)]) (st := []) 2 12 (c_Y_needRow hB h_r2) mv_Y_needRow ml_Y_231 rfl rfl dX11_owner_10 rfl rfl ⟨by decide, by decide⟩ ⟨by decide, by decide, by decide, by decide⟩ (Nat.le_of_ble_eq_true rfl) ?_
  refine me_geti C 5 fg_Y_240 dX11_owner_13 rfl ?_
  exact me_iret C N dX11_owner_16 (me_nri _) (by cases hf; rfl) (by decide) (by decide)
theorem c_Y_owner {B : me_B} (hB : me_St B) {μ : me_M} {v1 : Int32} {v2 : Int32} {v3 : Int32} {r : Except Nat Int32}  (hf : f_Y_owner μ v1 v2 v3 = some r) : ∀ l E z, l.stackTraces = false → me_Met l yX11_owner cX11_owner 4 (some .int) 7 116 2 12 E B μ z [me_r 0 0, me_i v1, me_i v2, me_i v3] (B, μ, me_xc (fun v => some (me_i v)) r) :=
  fun _ _ _ hl => me_ofZ hl (by decide +kernel) (Nat.le_of_ble_eq_true rfl) (fun _ C N hNx => z_Y_owner C N hNx hB  hf)

def f_Y_fail_b24 (μ : me_M) : Option (me_M × (Except Nat Int32)) :=
  some (μ, .error 2)
set_option maxHeartbeats 4000000 in
set_option maxRecDepth 100000 in
theorem z_Y_fail_b24 {X : me_X} {B : me_B} {sz : Nat} (C : me_C X B RX11 cX11_fail 6 (some .boolean)) {μ : me_M}    {r : me_M × (Except Nat Int32)} (N : me_En X B sz (B, r.1, me_xc (fun v => some (me_i v)) r.2) 7 111 2 12) (hNx : me_Nx X) (hB : me_St B)   (hf : f_Y_fail_b24 μ = some r) : me_Z X B 1 6 μ 24 [] [] := by
  unfold f_Y_fail_b24 at hf
  exact me_throw C N hNx 2 cl_Y_109 ie_2 sr_Y_245 tw_Y_113 ft_2 dX11_fail_24 dX11_fail_27 dX11_fail_28 dX11_fail_30 dX11_fail_33 ⟨by decide, by decide⟩ (Nat.le_of_ble_eq_true rfl) ⟨by decide, by decide⟩ (by cases hf; rfl)
def f_Y_fail (μ : me_M) (v1 : Int32) (v2 : Int32) (v3 : Int32) : Option (me_M × (Except Nat Int32)) :=
  me_bd (f_Y_needNode μ v1) (fun r1 =>
  me_xb2 r1 μ (fun r1 =>
  me_bd (f_Str_indexOf1 μ 1 v2) (fun r2 =>
  if r2 < 0 then
  (f_Y_fail_b24 μ)
  else
  (if r2 < (4 : Int32) then
  (me_gd (me_inb ((v1 * (4 : Int32)) + r2) 64) (
  if (μ 2 0 (me_ix ((v1 * (4 : Int32)) + r2))) = (-1 : Int32) then
  (some (μ, .error 4))
  else
  (me_gd (me_inb ((v1 * (4 : Int32)) + r2) 64) (
  me_lt ((μ 3 0 (me_ix ((v1 * (4 : Int32)) + r2)))) (fun x8 =>
  me_b2 (f_Net_setFailed μ v1 r2 v3) (fun μ10 r9 =>
  me_gd (me_nr .boolean x8) (
  some (μ10, .ok x8))))))))
  else
  (f_Y_fail_b24 μ)))))
set_option maxHeartbeats 4000000 in
set_option maxRecDepth 100000 in
theorem z_Y_fail {X : me_X} {B : me_B} {sz : Nat} (C : me_C X B RX11 cX11_fail 6 (some .boolean)) {μ : me_M} {v1 : Int32} {v2 : Int32} {v3 : Int32}   {r : me_M × (Except Nat Int32)} (N : me_En X B sz (B, r.1, me_xc (fun v => some (me_i v)) r.2) 7 111 2 12) (hNx : me_Nx X) (hB : me_St B)   (hf : f_Y_fail μ v1 v2 v3 = some r) : me_Z X B 0 0 μ 0 [(0, me_r 0 0), (1, me_i v1), (2, me_i v2), (3, me_i v3)] [] := by
  unfold f_Y_fail at hf
  refine me_aload_n C 0 (Or.inr (Or.inl ⟨_, rfl⟩)) dX11_fail_0 rfl rfl ?_
  refine me_iload_n C 1 dX11_fail_1 rfl rfl ?_
  obtain ⟨r1, h_r1, hf⟩ := me_bs hf
  rcases r1 with r1 | r1
  · replace hf := me_xb2e hf
    refine me_callVE C N  (As := [me_i v1]) (st := []) 1 6 (c_Y_needNode hB h_r1) mv_Y_needNode ml_Y_103 rfl rfl dX11_fail_2 rfl rfl ⟨by decide, by decide⟩ ⟨by decide, by decide, by decide, by decide⟩ (Nat.le_of_ble_eq_true rfl) ?_
    exact me_outX C N hNx (by cases hf; rfl) (by decide) (by decide)
  replace hf := me_xb2o hf
  refine me_callV0 C N  (As := [me_i v1]) (st := []) 1 6 (c_Y_needNode hB h_r1) mv_Y_needNode ml_Y_103 rfl rfl dX11_fail_2 rfl rfl ⟨by decide, by decide⟩ ⟨by decide, by decide, by decide, by decide⟩ (Nat.le_of_ble_eq_true rfl) ?_
  refine me_ldcS C sx_Y_243 dX11_fail_5 ?_
  refine me_iload_n C 2 dX11_fail_7 rfl rfl ?_
  obtain ⟨r2, h_r2, hf⟩ := me_bs hf
  refine me_callG C N (by decide) (As := [me_i v2]) (st := []) 1 6 (c_Str_indexOf1 hB (by decide) h_r2) mv_Str_indexOf1 ml_Y_215 rfl dX11_fail_8 rfl rfl ⟨by decide, by decide⟩ ⟨by decide, by decide, by decide, by decide⟩ (Nat.le_of_ble_eq_true rfl) ?_
  refine me_istore C dX11_fail_11 (by decide) (L' := [(4, me_i r2), (0, me_r 0 0), (1, me_i v1), (2, me_i v2), (3, me_i v3)]) rfl ?_
  refine me_iload C dX11_fail_13 rfl ?_
  refine me_if_lt C (tgt := 24) dX11_fail_15 (by decide) (fun c3 => ?_) (fun c3 => ?_)
  · replace hf := me_ip c3 hf
    refine me_dropI [] [] rfl ?_
    exact z_Y_fail_b24 C N hNx hB hf
  · replace hf := me_in c3 hf
    refine me_iload C dX11_fail_18 rfl ?_
    refine me_iconst C (v := 4) dX11_fail_20 (by decide) ?_
    refine me_icmp_lt C (tgt := 34) dX11_fail_21 (by decide) (fun c4 => ?_) (fun c4 => ?_)
    · replace hf := me_ip c4 hf
      refine me_aload_n C 0 (Or.inr (Or.inl ⟨_, rfl⟩)) dX11_fail_34 rfl rfl ?_
      refine me_getr C hB 0 (k' := 1) (i' := 0) fg_Y_10 dX11_fail_35 rfl rfl ?_
      refine me_getr C hB 0 (k' := 2) (i' := 0) fg_Y_247 dX11_fail_38 rfl rfl ?_
      refine me_iload_n C 1 dX11_fail_41 rfl rfl ?_
      refine me_iconst C (v := 4) dX11_fail_42 (by decide) ?_
      refine me_imul C dX11_fail_43 ?_
      refine me_iload C dX11_fail_44 rfl ?_
      refine me_iadd C dX11_fail_46 ?_
      obtain ⟨g5, hf⟩ := me_gs hf
      refine me_iald C rfl (fun _ => rfl) g5 dX11_fail_47 ?_
      refine me_iconst C (v := -1) dX11_fail_48 (by decide) ?_
      refine me_icmp_ne C (tgt := 62) dX11_fail_49 (by decide) (fun c6 => ?_) (fun c6 => ?_)
      · replace hf := me_in c6 hf
        refine me_aload_n C 0 (Or.inr (Or.inl ⟨_, rfl⟩)) dX11_fail_62 rfl rfl ?_
        refine me_getr C hB 0 (k' := 1) (i' := 0) fg_Y_10 dX11_fail_63 rfl rfl ?_
        refine me_getr C hB 1 (k' := 3) (i' := 0) fg_Y_256 dX11_fail_66 rfl rfl ?_
        refine me_iload_n C 1 dX11_fail_69 rfl rfl ?_
        refine me_iconst C (v := 4) dX11_fail_70 (by decide) ?_
        refine me_imul C dX11_fail_71 ?_
        refine me_iload C dX11_fail_72 rfl ?_
        refine me_iadd C dX11_fail_74 ?_
        obtain ⟨g7, hf⟩ := me_gs hf
        refine me_zald C rfl (fun _ => rfl) g7 dX11_fail_75 ?_
        obtain ⟨x8, e_x8, hf⟩ := me_lts hf
        refine me_nm e_x8 ?_
        refine me_istore C dX11_fail_76 (by decide) (L' := [(5, me_i x8), (4, me_i r2), (0, me_r 0 0), (1, me_i v1), (2, me_i v2), (3, me_i v3)]) rfl ?_
        refine me_aload_n C 0 (Or.inr (Or.inl ⟨_, rfl⟩)) dX11_fail_78 rfl rfl ?_
        refine me_getr C hB 0 (k' := 1) (i' := 0) fg_Y_10 dX11_fail_79 rfl rfl ?_
        refine me_iload_n C 1 dX11_fail_82 rfl rfl ?_
        refine me_iload C dX11_fail_83 rfl ?_
        refine me_iload_n C 3 dX11_fail_85 rfl rfl ?_
        obtain ⟨μ10, r9, h_r9, hf⟩ := me_bs2 hf
        refine me_callV0 C N  (As := [me_i v1, me_i r2, me_i v3]) (st := []) 1 6 (c_Net_setFailed hB h_r9) mv_Net_setFailed ml_Y_260 rfl rfl dX11_fail_86 rfl rfl ⟨by decide, by decide⟩ ⟨by decide, by decide, by decide, by decide⟩ (Nat.le_of_ble_eq_true rfl) ?_
        refine me_iload C dX11_fail_89 rfl ?_
        obtain ⟨g11, hf⟩ := me_gs hf
        exact me_iret C N dX11_fail_91 g11 (by cases hf; rfl) (by decide) (by decide)
      · replace hf := me_ip c6 hf
        exact me_throw C N hNx 4 cl_Y_251 ie_4 sr_Y_253 tw_Y_255 ft_4 dX11_fail_52 dX11_fail_55 dX11_fail_56 dX11_fail_58 dX11_fail_61 ⟨by decide, by decide⟩ (Nat.le_of_ble_eq_true rfl) ⟨by decide, by decide⟩ (by cases hf; rfl)
    · replace hf := me_in c4 hf
      refine me_dropI [] [] rfl ?_
      exact z_Y_fail_b24 C N hNx hB hf
theorem c_Y_fail {B : me_B} (hB : me_St B) {μ : me_M} {v1 : Int32} {v2 : Int32} {v3 : Int32} {μ' : me_M} {r : Except Nat Int32}  (hf : f_Y_fail μ v1 v2 v3 = some (μ', r)) : ∀ l E z, l.stackTraces = false → me_Met l yX11_fail cX11_fail 6 (some .boolean) 7 111 2 12 E B μ z [me_r 0 0, me_i v1, me_i v2, me_i v3] (B, μ', me_xc (fun v => some (me_i v)) r) :=
  fun _ _ _ hl => me_ofZ hl (by decide +kernel) (Nat.le_of_ble_eq_true rfl) (fun _ C N hNx => z_Y_fail C N hNx hB  hf)

def f_Y_sleep_b31 (μ : me_M) : Option (me_M × (Except Nat Int32)) :=
  some (μ, .error 4)
set_option maxHeartbeats 4000000 in
set_option maxRecDepth 100000 in
theorem z_Y_sleep_b31 {X : me_X} {B : me_B} {sz : Nat} (C : me_C X B RX11 cX11_sleep 4 (some .boolean)) {μ : me_M}    {r : me_M × (Except Nat Int32)} (N : me_En X B sz (B, r.1, me_xc (fun v => some (me_i v)) r.2) 7 111 2 12) (hNx : me_Nx X) (hB : me_St B)   (hf : f_Y_sleep_b31 μ = some r) : me_Z X B 1 6 μ 31 [] [] := by
  unfold f_Y_sleep_b31 at hf
  exact me_throwW C N hNx 4 cl_Y_251 ie_4 sr_Y_270 tw_Y_255 ft_4 dX11_sleep_31 dX11_sleep_34 dX11_sleep_35 dX11_sleep_38 dX11_sleep_41 ⟨by decide, by decide⟩ (Nat.le_of_ble_eq_true rfl) ⟨by decide, by decide⟩ (by cases hf; rfl)
def f_Y_sleep (μ : me_M) (v1 : Int32) : Option (me_M × (Except Nat Int32)) :=
  me_bd (f_Y_needNode μ v1) (fun r1 =>
  me_xb2 r1 μ (fun r1 =>
  me_gd (me_inb v1 16) (
  me_bd (f_Router_isIdle μ (me_ix v1)) (fun r3 =>
  if r3 = 0 then
  (f_Y_sleep_b31 μ)
  else
  (me_gd (me_inb v1 16) (
  me_bd (f_Core_isBusy μ (me_ix v1)) (fun r6 =>
  if r6 = 0 then
  (me_lt ((μ 13 (me_ix v1) 3)) (fun x8 =>
  me_lt (me_up μ 13 (me_ix v1) 3 (0 : Int32)) (fun μ9 =>
  me_gd (me_nr .boolean x8) (
  some (μ9, .ok x8)))))
  else
  (f_Y_sleep_b31 μ))))))))
set_option maxHeartbeats 4000000 in
set_option maxRecDepth 100000 in
theorem z_Y_sleep {X : me_X} {B : me_B} {sz : Nat} (C : me_C X B RX11 cX11_sleep 4 (some .boolean)) {μ : me_M} {v1 : Int32}   {r : me_M × (Except Nat Int32)} (N : me_En X B sz (B, r.1, me_xc (fun v => some (me_i v)) r.2) 7 111 2 12) (hNx : me_Nx X) (hB : me_St B)   (hf : f_Y_sleep μ v1 = some r) : me_Z X B 0 0 μ 0 [(0, me_r 0 0), (1, me_i v1)] [] := by
  unfold f_Y_sleep at hf
  refine me_aload_n C 0 (Or.inr (Or.inl ⟨_, rfl⟩)) dX11_sleep_0 rfl rfl ?_
  refine me_iload_n C 1 dX11_sleep_1 rfl rfl ?_
  obtain ⟨r1, h_r1, hf⟩ := me_bs hf
  rcases r1 with r1 | r1
  · replace hf := me_xb2e hf
    refine me_callVE C N  (As := [me_i v1]) (st := []) 1 6 (c_Y_needNode hB h_r1) mv_Y_needNode ml_Y_103 rfl rfl dX11_sleep_2 rfl rfl ⟨by decide, by decide⟩ ⟨by decide, by decide, by decide, by decide⟩ (Nat.le_of_ble_eq_true rfl) ?_
    exact me_outX C N hNx (by cases hf; rfl) (by decide) (by decide)
  replace hf := me_xb2o hf
  refine me_callV0 C N  (As := [me_i v1]) (st := []) 1 6 (c_Y_needNode hB h_r1) mv_Y_needNode ml_Y_103 rfl rfl dX11_sleep_2 rfl rfl ⟨by decide, by decide⟩ ⟨by decide, by decide, by decide, by decide⟩ (Nat.le_of_ble_eq_true rfl) ?_
  refine me_aload_n C 0 (Or.inr (Or.inl ⟨_, rfl⟩)) dX11_sleep_5 rfl rfl ?_
  refine me_getr C hB 3 (k' := 12) (i' := 0) fg_Y_34 dX11_sleep_6 rfl rfl ?_
  refine me_iload_n C 1 dX11_sleep_9 rfl rfl ?_
  obtain ⟨g2, hf⟩ := me_gs hf
  refine me_aald C hB (k' := 13) (i' := (me_ix v1)) rfl (fun _ => rfl) rfl g2 dX11_sleep_10 rfl ?_
  refine me_astore_n C 2 (Or.inr (Or.inl ⟨_, rfl⟩)) dX11_sleep_11 rfl (by decide) (L' := [(2, me_r 13 (me_ix v1)), (0, me_r 0 0), (1, me_i v1)]) rfl ?_
  refine me_aload_n C 2 (Or.inr (Or.inl ⟨_, rfl⟩)) dX11_sleep_12 rfl rfl ?_
  obtain ⟨r3, h_r3, hf⟩ := me_bs hf
  refine me_callV C N  (As := []) (st := []) 1 6 (c_Router_isIdle hB h_r3) mv_Router_isIdle ml_Y_264 rfl rfl dX11_sleep_13 rfl rfl ⟨by decide, by decide⟩ ⟨by decide, by decide, by decide, by decide⟩ (Nat.le_of_ble_eq_true rfl) ?_
  refine me_if_eq C (tgt := 31) dX11_sleep_16 (by decide) (fun c4 => ?_) (fun c4 => ?_)
  · replace hf := me_ip c4 hf
    refine me_dropI [] [] rfl ?_
    exact z_Y_sleep_b31 C N hNx hB hf
  · replace hf := me_in c4 hf
    refine me_aload_n C 0 (Or.inr (Or.inl ⟨_, rfl⟩)) dX11_sleep_19 rfl rfl ?_
    refine me_getr C hB 4 (k' := 21) (i' := 0) fg_Y_40 dX11_sleep_20 rfl rfl ?_
    refine me_iload_n C 1 dX11_sleep_23 rfl rfl ?_
    obtain ⟨g5, hf⟩ := me_gs hf
    refine me_aald C hB (k' := 22) (i' := (me_ix v1)) rfl (fun _ => rfl) rfl g5 dX11_sleep_24 rfl ?_
    obtain ⟨r6, h_r6, hf⟩ := me_bs hf
    refine me_callV C N  (As := []) (st := []) 1 6 (c_Core_isBusy hB h_r6) mv_Core_isBusy ml_Y_267 rfl rfl dX11_sleep_25 rfl rfl ⟨by decide, by decide⟩ ⟨by decide, by decide, by decide, by decide⟩ (Nat.le_of_ble_eq_true rfl) ?_
    refine me_if_eq C (tgt := 42) dX11_sleep_28 (by decide) (fun c7 => ?_) (fun c7 => ?_)
    · replace hf := me_ip c7 hf
      refine me_aload_n C 2 (Or.inr (Or.inl ⟨_, rfl⟩)) dX11_sleep_42 rfl rfl ?_
      refine me_geti C 3 fg_Y_272 dX11_sleep_43 rfl ?_
      obtain ⟨x8, e_x8, hf⟩ := me_lts hf
      refine me_nm e_x8 ?_
      refine me_istore_n C 3 dX11_sleep_46 rfl (by decide) (L' := [(3, me_i x8), (2, me_r 13 (me_ix v1)), (0, me_r 0 0), (1, me_i v1)]) rfl ?_
      refine me_aload_n C 2 (Or.inr (Or.inl ⟨_, rfl⟩)) dX11_sleep_47 rfl rfl ?_
      refine me_iconst C (v := 0) dX11_sleep_48 (by decide) ?_
      obtain ⟨μ9, e_μ9, hf⟩ := me_lts hf
      refine me_puti C 3 fw_Y_272 dX11_sleep_49 rfl (by decide +kernel) e_μ9 ?_
      refine me_iload_n C 3 dX11_sleep_52 rfl rfl ?_
      obtain ⟨g10, hf⟩ := me_gs hf
      exact me_iret C N dX11_sleep_53 g10 (by cases hf; rfl) (by decide) (by decide)
    · replace hf := me_in c7 hf
      refine me_dropI [] [] rfl ?_
      exact z_Y_sleep_b31 C N hNx hB hf
theorem c_Y_sleep {B : me_B} (hB : me_St B) {μ : me_M} {v1 : Int32} {μ' : me_M} {r : Except Nat Int32}  (hf : f_Y_sleep μ v1 = some (μ', r)) : ∀ l E z, l.stackTraces = false → me_Met l yX11_sleep cX11_sleep 4 (some .boolean) 7 111 2 12 E B μ z [me_r 0 0, me_i v1] (B, μ', me_xc (fun v => some (me_i v)) r) :=
  fun _ _ _ hl => me_ofZ hl (by decide +kernel) (Nat.le_of_ble_eq_true rfl) (fun _ C N hNx => z_Y_sleep C N hNx hB  hf)

def f_Y_isAwake (μ : me_M) (v1 : Int32) : Option (Except Nat Int32) :=
  me_bd (f_Y_needNode μ v1) (fun r1 =>
  me_xb r1 (fun r1 =>
  me_gd (me_inb v1 16) (
  me_gd (me_nr .boolean (μ 13 (me_ix v1) 3)) (
  some (.ok (μ 13 (me_ix v1) 3))))))
set_option maxHeartbeats 4000000 in
set_option maxRecDepth 100000 in
theorem z_Y_isAwake {X : me_X} {B : me_B} {sz : Nat} (C : me_C X B RX11 cX11_isAwake 2 (some .boolean)) {μ : me_M} {v1 : Int32}   {r : Except Nat Int32} (N : me_En X B sz (B, μ, me_xc (fun v => some (me_i v)) r) 7 111 1 6) (hNx : me_Nx X) (hB : me_St B)   (hf : f_Y_isAwake μ v1 = some r) : me_Z X B 0 0 μ 0 [(0, me_r 0 0), (1, me_i v1)] [] := by
  unfold f_Y_isAwake at hf
  refine me_aload_n C 0 (Or.inr (Or.inl ⟨_, rfl⟩)) dX11_isAwake_0 rfl rfl ?_
  refine me_iload_n C 1 dX11_isAwake_1 rfl rfl ?_
  obtain ⟨r1, h_r1, hf⟩ := me_bs hf
  rcases r1 with r1 | r1
  · replace hf := me_xbe hf
    refine me_callVE C N  (As := [me_i v1]) (st := []) 1 6 (c_Y_needNode hB h_r1) mv_Y_needNode ml_Y_103 rfl rfl dX11_isAwake_2 rfl rfl ⟨by decide, by decide⟩ ⟨by decide, by decide, by decide, by decide⟩ (Nat.le_of_ble_eq_true rfl) ?_
    exact me_outX C N hNx (by cases hf; rfl) (by decide) (by decide)
  replace hf := me_xbo hf
  refine me_callV0 C N  (As := [me_i v1]) (st := []) 1 6 (c_Y_needNode hB h_r1) mv_Y_needNode ml_Y_103 rfl rfl dX11_isAwake_2 rfl rfl ⟨by decide, by decide⟩ ⟨by decide, by decide, by decide, by decide⟩ (Nat.le_of_ble_eq_true rfl) ?_
  refine me_aload_n C 0 (Or.inr (Or.inl ⟨_, rfl⟩)) dX11_isAwake_5 rfl rfl ?_
  refine me_getr C hB 3 (k' := 12) (i' := 0) fg_Y_34 dX11_isAwake_6 rfl rfl ?_
  refine me_iload_n C 1 dX11_isAwake_9 rfl rfl ?_
  obtain ⟨g2, hf⟩ := me_gs hf
  refine me_aald C hB (k' := 13) (i' := (me_ix v1)) rfl (fun _ => rfl) rfl g2 dX11_isAwake_10 rfl ?_
  refine me_geti C 3 fg_Y_272 dX11_isAwake_11 rfl ?_
  obtain ⟨g3, hf⟩ := me_gs hf
  exact me_iret C N dX11_isAwake_14 g3 (by cases hf; rfl) (by decide) (by decide)
theorem c_Y_isAwake {B : me_B} (hB : me_St B) {μ : me_M} {v1 : Int32} {r : Except Nat Int32}  (hf : f_Y_isAwake μ v1 = some r) : ∀ l E z, l.stackTraces = false → me_Met l yX11_isAwake cX11_isAwake 2 (some .boolean) 7 111 1 6 E B μ z [me_r 0 0, me_i v1] (B, μ, me_xc (fun v => some (me_i v)) r) :=
  fun _ _ _ hl => me_ofZ hl (by decide +kernel) (Nat.le_of_ble_eq_true rfl) (fun _ C N hNx => z_Y_isAwake C N hNx hB  hf)

def f_Y_leads (μ : me_M) : Option (me_M × Int32) :=
  me_b2 (f_Ways_trace μ) (fun μ2 r1 =>
  me_bd (f_Ways_countPairs μ2) (fun r3 =>
  some (μ2, r3)))
set_option maxHeartbeats 4000000 in
set_option maxRecDepth 100000 in
theorem z_Y_leads {X : me_X} {B : me_B} {sz : Nat} (C : me_C X B RX11 cX11_leads 1 (some .int)) {μ : me_M}    {r : me_M × Int32} (N : me_En X B sz (B, r.1, .ok (some (me_i r.2))) 7 170 0 0) (hNx : me_Nx X) (hB : me_St B)   (hf : f_Y_leads μ = some r) : me_Z X B 0 0 μ 0 [(0, me_r 0 0)] [] := by
  unfold f_Y_leads at hf
  refine me_aload_n C 0 (Or.inr (Or.inl ⟨_, rfl⟩)) dX11_leads_0 rfl rfl ?_
  refine me_getr C hB 5 (k' := 27) (i' := 0) fg_Y_49 dX11_leads_1 rfl rfl ?_
  obtain ⟨μ2, r1, h_r1, hf⟩ := me_bs2 hf
  refine me_callV0 C N  (As := []) (st := []) 0 0 (c_Ways_trace hB h_r1) mv_Ways_trace ml_Y_275 rfl rfl dX11_leads_4 rfl rfl ⟨by decide, by decide⟩ ⟨by decide, by decide, by decide, by decide⟩ (Nat.le_of_ble_eq_true rfl) ?_
  refine me_aload_n C 0 (Or.inr (Or.inl ⟨_, rfl⟩)) dX11_leads_7 rfl rfl ?_
  refine me_getr C hB 5 (k' := 27) (i' := 0) fg_Y_49 dX11_leads_8 rfl rfl ?_
  obtain ⟨r3, h_r3, hf⟩ := me_bs hf
  refine me_callV C N  (As := []) (st := []) 0 0 (c_Ways_countPairs hB h_r3) mv_Ways_countPairs ml_Y_278 rfl rfl dX11_leads_11 rfl rfl ⟨by decide, by decide⟩ ⟨by decide, by decide, by decide, by decide⟩ (Nat.le_of_ble_eq_true rfl) ?_
  exact me_iret C N dX11_leads_14 (me_nri _) (by cases hf; rfl) (by decide) (by decide)
theorem c_Y_leads {B : me_B} (hB : me_St B) {μ : me_M}  {μ' : me_M} {r : Int32}  (hf : f_Y_leads μ = some (μ', r)) : ∀ l E z, l.stackTraces = false → me_Met l yX11_leads cX11_leads 1 (some .int) 7 170 0 0 E B μ z [me_r 0 0] (B, μ', .ok (some (me_i r))) :=
  fun _ _ _ hl => me_ofZ hl (by decide +kernel) (Nat.le_of_ble_eq_true rfl) (fun _ C N hNx => z_Y_leads C N hNx hB  hf)

def f_Y_hasRing (μ : me_M) : Option (me_M × Int32) :=
  me_b2 (f_Ways_trace μ) (fun μ2 r1 =>
  me_b2 (f_Ways_findsRing μ2) (fun μ4 r3 =>
  me_gd (me_nr .boolean r3) (
  some (μ4, r3))))
set_option maxHeartbeats 4000000 in
set_option maxRecDepth 100000 in
theorem z_Y_hasRing {X : me_X} {B : me_B} {sz : Nat} (C : me_C X B RX11 cX11_hasRing 1 (some .boolean)) {μ : me_M}    {r : me_M × Int32} (N : me_En X B sz (B, r.1, .ok (some (me_i r.2))) 7 170 0 0) (hNx : me_Nx X) (hB : me_St B)   (hf : f_Y_hasRing μ = some r) : me_Z X B 0 0 μ 0 [(0, me_r 0 0)] [] := by
  unfold f_Y_hasRing at hf
  refine me_aload_n C 0 (Or.inr (Or.inl ⟨_, rfl⟩)) dX11_hasRing_0 rfl rfl ?_
  refine me_getr C hB 5 (k' := 27) (i' := 0) fg_Y_49 dX11_hasRing_1 rfl rfl ?_
  obtain ⟨μ2, r1, h_r1, hf⟩ := me_bs2 hf
  refine me_callV0 C N  (As := []) (st := []) 0 0 (c_Ways_trace hB h_r1) mv_Ways_trace ml_Y_275 rfl rfl dX11_hasRing_4 rfl rfl ⟨by decide, by decide⟩ ⟨by decide, by decide, by decide, by decide⟩ (Nat.le_of_ble_eq_true rfl) ?_
  refine me_aload_n C 0 (Or.inr (Or.inl ⟨_, rfl⟩)) dX11_hasRing_7 rfl rfl ?_
  refine me_getr C hB 5 (k' := 27) (i' := 0) fg_Y_49 dX11_hasRing_8 rfl rfl ?_
  obtain ⟨μ4, r3, h_r3, hf⟩ := me_bs2 hf
  refine me_callV C N  (As := []) (st := []) 0 0 (c_Ways_findsRing hB h_r3) mv_Ways_findsRing ml_Y_281 rfl rfl dX11_hasRing_11 rfl rfl ⟨by decide, by decide⟩ ⟨by decide, by decide, by decide, by decide⟩ (Nat.le_of_ble_eq_true rfl) ?_
  obtain ⟨g5, hf⟩ := me_gs hf
  exact me_iret C N dX11_hasRing_14 g5 (by cases hf; rfl) (by decide) (by decide)
theorem c_Y_hasRing {B : me_B} (hB : me_St B) {μ : me_M}  {μ' : me_M} {r : Int32}  (hf : f_Y_hasRing μ = some (μ', r)) : ∀ l E z, l.stackTraces = false → me_Met l yX11_hasRing cX11_hasRing 1 (some .boolean) 7 170 0 0 E B μ z [me_r 0 0] (B, μ', .ok (some (me_i r))) :=
  fun _ _ _ hl => me_ofZ hl (by decide +kernel) (Nat.le_of_ble_eq_true rfl) (fun _ C N hNx => z_Y_hasRing C N hNx hB  hf)

def f_Pre_checkIndex (μ : me_M) (v0 : Int32) (v1 : Int32) : Option Int32 :=
  if v0 < 0 then
  (none)
  else
  (if v0 < v1 then
  (some v0)
  else
  (none))
set_option maxHeartbeats 4000000 in
set_option maxRecDepth 100000 in
theorem z_Pre_checkIndex {X : me_X} {B : me_B} {sz : Nat} (C : me_C X B RJ3 cJ3_checkIndex_8e157 3 (some .int)) {μ : me_M} {v0 : Int32} {v1 : Int32} {v2 : Value}  {r : Int32} (N : me_En X B sz (B, μ, .ok (some (me_i r))) 0 0 0 0) (hNx : me_Nx X) (hB : me_St B)   (hf : f_Pre_checkIndex μ v0 v1 = some r) : me_Z X B 0 0 μ 0 [(0, me_i v0), (1, me_i v1), (2, .inl v2)] [] := by
  unfold f_Pre_checkIndex at hf
  refine me_iload_n C 0 dJ3_checkIndex_8e157_0 rfl rfl ?_
  refine me_if_lt C (tgt := 9) dJ3_checkIndex_8e157_1 (by decide) (fun c1 => ?_) (fun c1 => ?_)
  · replace hf := me_ip c1 hf
    cases hf
  · replace hf := me_in c1 hf
    refine me_iload_n C 0 dJ3_checkIndex_8e157_4 rfl rfl ?_
    refine me_iload_n C 1 dJ3_checkIndex_8e157_5 rfl rfl ?_
    refine me_icmp_lt C (tgt := 16) dJ3_checkIndex_8e157_6 (by decide) (fun c2 => ?_) (fun c2 => ?_)
    · replace hf := me_ip c2 hf
      refine me_iload_n C 0 dJ3_checkIndex_8e157_16 rfl rfl ?_
      exact me_iret C N dJ3_checkIndex_8e157_17 (me_nri _) (by cases hf; rfl) (by decide) (by decide)
    · replace hf := me_in c2 hf
      cases hf
theorem c_Pre_checkIndex {B : me_B} (hB : me_St B) {μ : me_M} {v0 : Int32} {v1 : Int32} {v2 : Value} {r : Int32} (hc_v2 : (v2.category == 2) = false) (hf : f_Pre_checkIndex μ v0 v1 = some r) : ∀ l E z, l.stackTraces = false → me_Met l yJ3_checkIndex_8e157 cJ3_checkIndex_8e157 3 (some .int) 0 0 0 0 E B μ z [me_i v0, me_i v1, .inl v2] (B, μ, .ok (some (me_i r))) :=
  fun _ _ _ hl => me_ofZ hl (by decide +kernel) (by show 1 + (1 + ((if (v2.category == 2) = true then 2 else 1) + 0)) ≤ 3; rw [hc_v2]; decide) (fun _ C N hNx => z_Pre_checkIndex C N hNx hB  hf)

def f_Str_checkIndex (μ : me_M) (v0 : Int32) (v1 : Int32) : Option Unit :=
  me_bd (f_Pre_checkIndex μ v0 v1) (fun r2 =>
  some ())
set_option maxHeartbeats 4000000 in
set_option maxRecDepth 100000 in
theorem z_Str_checkIndex {X : me_X} {B : me_B} {sz : Nat} (C : me_C X B RJ0 cJ0_checkIndex_df160 2 none) {μ : me_M} {v0 : Int32} {v1 : Int32}   {r : Unit} (N : me_En X B sz (B, μ, .ok (none)) 1 22 0 0) (hNx : me_Nx X) (hB : me_St B)   (hf : f_Str_checkIndex μ v0 v1 = some r) : me_Z X B 0 0 μ 0 [(0, me_i v0), (1, me_i v1)] [] := by
  unfold f_Str_checkIndex at hf
  refine me_iload_n C 0 dJ0_checkIndex_df160_0 rfl rfl ?_
  refine me_iload_n C 1 dJ0_checkIndex_df160_1 rfl rfl ?_
  refine me_gsio C fl_Str_1053 dJ0_checkIndex_df160_2 (fun z1 hz1 => ?_)
  obtain ⟨r2, h_r2, hf⟩ := me_bs hf
  refine me_callS C N  (As := [me_i v0, me_i v1, .inl z1]) (st := []) 0 0 (c_Pre_checkIndex hB (me_cat1 hz1) h_r2) ms_Pre_checkIndex ml_Str_1059 dJ0_checkIndex_df160_5 rfl rfl ⟨by decide, by decide⟩ ⟨by decide, by decide, by decide, by decide⟩ (Nat.le_of_ble_eq_true rfl) ?_
  refine me_pop C rfl dJ0_checkIndex_df160_8 ?_
  exact me_vret C N dJ0_checkIndex_df160_9 (by cases hf; rfl) (by decide) (by decide)
theorem c_Str_checkIndex {B : me_B} (hB : me_St B) {μ : me_M} {v0 : Int32} {v1 : Int32} {r : Unit}  (hf : f_Str_checkIndex μ v0 v1 = some r) : ∀ l E z, l.stackTraces = false → me_Met l yJ0_checkIndex_df160 cJ0_checkIndex_df160 2 none 1 22 0 0 E B μ z [me_i v0, me_i v1] (B, μ, .ok (none)) :=
  fun _ _ _ hl => me_ofZ hl (by decide +kernel) (Nat.le_of_ble_eq_true rfl) (fun _ C N hNx => z_Str_checkIndex C N hNx hB  hf)

def f_La1_charAt (μ : me_M) (v0 : Nat) (v1 : Int32) : Option Int32 :=
  me_bd (f_Str_checkIndex μ v1 (Int32.ofNat (me_sb v0).length)) (fun r1 =>
  me_gd (me_inb v1 (me_sb v0).length) (
  me_gd (me_nr .char (me_i2c' (((me_sb v0).getD (me_ix v1) 0) &&& (255 : Int32)))) (
  some (me_i2c' (((me_sb v0).getD (me_ix v1) 0) &&& (255 : Int32))))))
set_option maxHeartbeats 4000000 in
set_option maxRecDepth 100000 in
theorem z_La1_charAt {X : me_X} {B : me_B} {sz : Nat} (C : me_C X B RJ1 cJ1_charAt_3b067 2 (some .char)) {μ : me_M} {v0 : Nat} {v1 : Int32}   {r : Int32} (N : me_En X B sz (B, μ, .ok (some (me_i r))) 2 43 0 0) (hNx : me_Nx X) (hB : me_St B)  (h_v0 : v0 < 3) (hf : f_La1_charAt μ v0 v1 = some r) : me_Z X B 0 0 μ 0 [(0, .inl (.ref (B.1 201 v0))), (1, me_i v1)] [] := by
  unfold f_La1_charAt at hf
  refine me_iload_n C 1 dJ1_charAt_3b067_0 rfl rfl ?_
  refine me_aload_n C 0 (Or.inr (Or.inr ⟨_, rfl⟩)) dJ1_charAt_3b067_1 rfl rfl ?_
  refine me_slen C h_v0 dJ1_charAt_3b067_2 ?_
  obtain ⟨r1, h_r1, hf⟩ := me_bs hf
  refine me_callS0 C N  (As := [me_i v1, me_i (Int32.ofNat (me_sb v0).length)]) (st := []) 0 0 (c_Str_checkIndex hB h_r1) ms_Str_checkIndex ml_La1_9 dJ1_charAt_3b067_3 rfl rfl ⟨by decide, by decide⟩ ⟨by decide, by decide, by decide, by decide⟩ (Nat.le_of_ble_eq_true rfl) ?_
  refine me_aload_n C 0 (Or.inr (Or.inr ⟨_, rfl⟩)) dJ1_charAt_3b067_6 rfl rfl ?_
  refine me_iload_n C 1 dJ1_charAt_3b067_7 rfl rfl ?_
  obtain ⟨g2, hf⟩ := me_gs hf
  refine me_sbl C h_v0 g2 dJ1_charAt_3b067_8 ?_
  refine me_sipush C (v := 255) dJ1_charAt_3b067_9 (by decide) ?_
  refine me_iand C dJ1_charAt_3b067_12 ?_
  refine me_i2c C dJ1_charAt_3b067_13 ?_
  obtain ⟨g3, hf⟩ := me_gs hf
  exact me_iret C N dJ1_charAt_3b067_14 g3 (by cases hf; rfl) (by decide) (by decide)
theorem c_La1_charAt {B : me_B} (hB : me_St B) {μ : me_M} {v0 : Nat} {v1 : Int32} {r : Int32} (h_v0 : v0 < 3) (hf : f_La1_charAt μ v0 v1 = some r) : ∀ l E z, l.stackTraces = false → me_Met l yJ1_charAt_3b067 cJ1_charAt_3b067 2 (some .char) 2 43 0 0 E B μ z [.inl (.ref (B.1 201 v0)), me_i v1] (B, μ, .ok (some (me_i r))) :=
  fun _ _ _ hl => me_ofZ hl (by decide +kernel) (Nat.le_of_ble_eq_true rfl) (fun _ C N hNx => z_La1_charAt C N hNx hB h_v0 hf)

def f_Str_charAt (μ : me_M) (v0 : Nat) (v1 : Int32) : Option Int32 :=
  me_bd (f_Str_isLatin1 μ v0) (fun r1 =>
  if r1 = 0 then
  (none)
  else
  (me_bd (f_La1_charAt μ v0 v1) (fun r3 =>
  me_gd (me_nr .char r3) (
  some r3))))
set_option maxHeartbeats 4000000 in
set_option maxRecDepth 100000 in
theorem z_Str_charAt {X : me_X} {B : me_B} {sz : Nat} (C : me_C X B RJ0 cJ0_charAt_5068e 2 (some .char)) {μ : me_M} {v0 : Nat} {v1 : Int32}   {r : Int32} (N : me_En X B sz (B, μ, .ok (some (me_i r))) 3 64 0 0) (hNx : me_Nx X) (hB : me_St B)  (h_v0 : v0 < 3) (hf : f_Str_charAt μ v0 v1 = some r) : me_Z X B 0 0 μ 0 [(0, .inl (.ref (B.1 200 v0))), (1, me_i v1)] [] := by
  unfold f_Str_charAt at hf
  refine me_aload_n C 0 (Or.inr (Or.inr ⟨_, rfl⟩)) dJ0_charAt_5068e_0 rfl rfl ?_
  obtain ⟨r1, h_r1, hf⟩ := me_bs hf
  refine me_callG C N h_v0 (As := []) (st := []) 0 0 (c_Str_isLatin1 hB h_v0 h_r1) mv_Str_isLatin1 ml_Str_492 rfl dJ0_charAt_5068e_1 rfl rfl ⟨by decide, by decide⟩ ⟨by decide, by decide, by decide, by decide⟩ (Nat.le_of_ble_eq_true rfl) ?_
  refine me_if_eq C (tgt := 16) dJ0_charAt_5068e_4 (by decide) (fun c2 => ?_) (fun c2 => ?_)
  · replace hf := me_ip c2 hf
    cases hf
  · replace hf := me_in c2 hf
    refine me_aload_n C 0 (Or.inr (Or.inr ⟨_, rfl⟩)) dJ0_charAt_5068e_7 rfl rfl ?_
    refine me_getval C h_v0 fl_Str_9 dJ0_charAt_5068e_8 ?_
    refine me_iload_n C 1 dJ0_charAt_5068e_11 rfl rfl ?_
    obtain ⟨r3, h_r3, hf⟩ := me_bs hf
    refine me_callS C N  (As := [.inl (.ref (B.1 201 v0)), me_i v1]) (st := []) 0 0 (c_La1_charAt hB h_v0 h_r3) ms_La1_charAt ml_Str_495 dJ0_charAt_5068e_12 rfl rfl ⟨by decide, by decide⟩ ⟨by decide, by decide, by decide, by decide⟩ (Nat.le_of_ble_eq_true rfl) ?_
    obtain ⟨g4, hf⟩ := me_gs hf
    exact me_iret C N dJ0_charAt_5068e_15 g4 (by cases hf; rfl) (by decide) (by decide)
theorem c_Str_charAt {B : me_B} (hB : me_St B) {μ : me_M} {v0 : Nat} {v1 : Int32} {r : Int32} (h_v0 : v0 < 3) (hf : f_Str_charAt μ v0 v1 = some r) : ∀ l E z, l.stackTraces = false → me_Met l yJ0_charAt_5068e cJ0_charAt_5068e 2 (some .char) 3 64 0 0 E B μ z [.inl (.ref (B.1 200 v0)), me_i v1] (B, μ, .ok (some (me_i r))) :=
  fun _ _ _ hl => me_ofZ hl (by decide +kernel) (Nat.le_of_ble_eq_true rfl) (fun _ C N hNx => z_Str_charAt C N hNx hB h_v0 hf)

def f_Y_direction (μ : me_M) (v1 : Int32) (v2 : Int32) : Option (Except Nat Int32) :=
  me_bd (f_Y_needNodes μ v1 v2) (fun r1 =>
  me_xb r1 (fun r1 =>
  me_bd (f_Ways_heading μ v1 v2 (0 : Int32)) (fun r2 =>
  if r2 < 0 then
  (some (.ok (99 : Int32)))
  else
  (if (5 : Int32) ≤ r2 then
  (some (.ok (99 : Int32)))
  else
  (me_bd (f_Str_charAt μ 1 r2) (fun r5 =>
  me_gd (me_nr .char r5) (
  some (.ok r5))))))))
set_option maxHeartbeats 4000000 in
set_option maxRecDepth 100000 in
theorem z_Y_direction {X : me_X} {B : me_B} {sz : Nat} (C : me_C X B RX11 cX11_direction 4 (some .char)) {μ : me_M} {v1 : Int32} {v2 : Int32}   {r : Except Nat Int32} (N : me_En X B sz (B, μ, me_xc (fun v => some (me_i v)) r) 8 133 2 12) (hNx : me_Nx X) (hB : me_St B)   (hf : f_Y_direction μ v1 v2 = some r) : me_Z X B 0 0 μ 0 [(0, me_r 0 0), (1, me_i v1), (2, me_i v2)] [] := by
  unfold f_Y_direction at hf
  refine me_aload_n C 0 (Or.inr (Or.inl ⟨_, rfl⟩)) dX11_direction_0 rfl rfl ?_
  refine me_iload_n C 1 dX11_direction_1 rfl rfl ?_
  refine me_iload_n C 2 dX11_direction_2 rfl rfl ?_
  obtain ⟨r1, h_r1, hf⟩ := me_bs hf
  rcases r1 with r1 | r1
  · replace hf := me_xbe hf
    refine me_callVE C N  (As := [me_i v1, me_i v2]) (st := []) 2 12 (c_Y_needNodes hB h_r1) mv_Y_needNodes ml_Y_84 rfl rfl dX11_direction_3 rfl rfl ⟨by decide, by decide⟩ ⟨by decide, by decide, by decide, by decide⟩ (Nat.le_of_ble_eq_true rfl) ?_
    exact me_outX C N hNx (by cases hf; rfl) (by decide) (by decide)
  replace hf := me_xbo hf
  refine me_callV0 C N  (As := [me_i v1, me_i v2]) (st := []) 2 12 (c_Y_needNodes hB h_r1) mv_Y_needNodes ml_Y_84 rfl rfl dX11_direction_3 rfl rfl ⟨by decide, by decide⟩ ⟨by decide, by decide, by decide, by decide⟩ (Nat.le_of_ble_eq_true rfl) ?_
  refine me_aload_n C 0 (Or.inr (Or.inl ⟨_, rfl⟩)) dX11_direction_6 rfl rfl ?_
  refine me_getr C hB 5 (k' := 27) (i' := 0) fg_Y_49 dX11_direction_7 rfl rfl ?_
  refine me_iload_n C 1 dX11_direction_10 rfl rfl ?_
  refine me_iload_n C 2 dX11_direction_11 rfl rfl ?_
  refine me_iconst C (v := 0) dX11_direction_12 (by decide) ?_
  obtain ⟨r2, h_r2, hf⟩ := me_bs hf
  refine me_callV C N  (As := [me_i v1, me_i v2, me_i (0 : Int32)]) (st := []) 2 12 (c_Ways_heading hB h_r2) mv_Ways_heading ml_Y_284 rfl rfl dX11_direction_13 rfl rfl ⟨by decide, by decide⟩ ⟨by decide, by decide, by decide, by decide⟩ (Nat.le_of_ble_eq_true rfl) ?_
  refine me_istore_n C 3 dX11_direction_16 rfl (by decide) (L' := [(3, me_i r2), (0, me_r 0 0), (1, me_i v1), (2, me_i v2)]) rfl ?_
  refine me_iload_n C 3 dX11_direction_17 rfl rfl ?_
  refine me_if_lt C (tgt := 35) dX11_direction_18 (by decide) (fun c3 => ?_) (fun c3 => ?_)
  · replace hf := me_ip c3 hf
    refine me_bipush C (v := 99) dX11_direction_35 (by decide) ?_
    exact me_iret C N dX11_direction_37 (by decide +kernel) (by cases hf; rfl) (by decide) (by decide)
  · replace hf := me_in c3 hf
    refine me_iload_n C 3 dX11_direction_21 rfl rfl ?_
    refine me_iconst C (v := 5) dX11_direction_22 (by decide) ?_
    refine me_icmp_ge C (tgt := 35) dX11_direction_23 (by decide) (fun c4 => ?_) (fun c4 => ?_)
    · replace hf := me_ip c4 hf
      refine me_bipush C (v := 99) dX11_direction_35 (by decide) ?_
      exact me_iret C N dX11_direction_37 (by decide +kernel) (by cases hf; rfl) (by decide) (by decide)
    · replace hf := me_in c4 hf
      refine me_ldcS C sx_Y_243 dX11_direction_26 ?_
      refine me_iload_n C 3 dX11_direction_28 rfl rfl ?_
      obtain ⟨r5, h_r5, hf⟩ := me_bs hf
      refine me_callG C N (by decide) (As := [me_i r2]) (st := []) 2 12 (c_Str_charAt hB (by decide) h_r5) mv_Str_charAt ml_Y_288 rfl dX11_direction_29 rfl rfl ⟨by decide, by decide⟩ ⟨by decide, by decide, by decide, by decide⟩ (Nat.le_of_ble_eq_true rfl) ?_
      refine me_goto C (tgt := 37) dX11_direction_32 (by decide) ?_
      obtain ⟨g6, hf⟩ := me_gs hf
      exact me_iret C N dX11_direction_37 g6 (by cases hf; rfl) (by decide) (by decide)
theorem c_Y_direction {B : me_B} (hB : me_St B) {μ : me_M} {v1 : Int32} {v2 : Int32} {r : Except Nat Int32}  (hf : f_Y_direction μ v1 v2 = some r) : ∀ l E z, l.stackTraces = false → me_Met l yX11_direction cX11_direction 4 (some .char) 8 133 2 12 E B μ z [me_r 0 0, me_i v1, me_i v2] (B, μ, me_xc (fun v => some (me_i v)) r) :=
  fun _ _ _ hl => me_ofZ hl (by decide +kernel) (Nat.le_of_ble_eq_true rfl) (fun _ C N hNx => z_Y_direction C N hNx hB  hf)

def f_Y_isNumberOf (μ : me_M) (v1 : Int32) (v2 : Int32) : Option Int32 :=
  if v1 = (100 : Int32) then
  (me_bd (f_Net_hasNode μ v2) (fun r2 =>
  me_gd (me_nr .boolean r2) (
  some r2)))
  else if v1 = (106 : Int32) then
  (if v2 < 0 then
  (some (0 : Int32))
  else
  (if (12 : Int32) ≤ v2 then
  (some (0 : Int32))
  else
  (some (1 : Int32))))
  else if v1 = (108 : Int32) then
  (if v2 < 0 then
  (some (0 : Int32))
  else
  (if (8 : Int32) ≤ v2 then
  (some (0 : Int32))
  else
  (some (1 : Int32))))
  else if v1 = (114 : Int32) then
  (me_bd (f_Net_hasNode μ v2) (fun r11 =>
  me_gd (me_nr .boolean r11) (
  some r11)))
  else if v1 = (115 : Int32) then
  (if v2 < 0 then
  (some (0 : Int32))
  else
  (if (8 : Int32) ≤ v2 then
  (some (0 : Int32))
  else
  (some (1 : Int32))))
  else (some (1 : Int32))
set_option maxHeartbeats 4000000 in
set_option maxRecDepth 100000 in
theorem z_Y_isNumberOf {X : me_X} {B : me_B} {sz : Nat} (C : me_C X B RX11 cX11_isNumberOf 3 (some .boolean)) {μ : me_M} {v1 : Int32} {v2 : Int32}   {r : Int32} (N : me_En X B sz (B, μ, .ok (some (me_i r))) 1 21 0 0) (hNx : me_Nx X) (hB : me_St B)   (hf : f_Y_isNumberOf μ v1 v2 = some r) : me_Z X B 0 0 μ 0 [(0, me_r 0 0), (1, me_i v1), (2, me_i v2)] [] := by
  unfold f_Y_isNumberOf at hf
  refine me_iload_n C 1 dX11_isNumberOf_0 rfl rfl ?_
  by_cases c1 : v1 = (100 : Int32)
  · refine me_loo C (67) (tgt := 68) dX11_isNumberOf_1 (by decide) (by rw [c1]; decide +kernel) (by decide) ?_
    replace hf := me_ip c1 hf
    refine me_aload_n C 0 (Or.inr (Or.inl ⟨_, rfl⟩)) dX11_isNumberOf_68 rfl rfl ?_
    refine me_getr C hB 0 (k' := 1) (i' := 0) fg_Y_10 dX11_isNumberOf_69 rfl rfl ?_
    refine me_iload_n C 2 dX11_isNumberOf_72 rfl rfl ?_
    obtain ⟨r2, h_r2, hf⟩ := me_bs hf
    refine me_callV C N  (As := [me_i v2]) (st := []) 0 0 (c_Net_hasNode hB h_r2) mv_Net_hasNode ml_Y_419 rfl rfl dX11_isNumberOf_73 rfl rfl ⟨by decide, by decide⟩ ⟨by decide, by decide, by decide, by decide⟩ (Nat.le_of_ble_eq_true rfl) ?_
    obtain ⟨g3, hf⟩ := me_gs hf
    exact me_iret C N dX11_isNumberOf_76 g3 (by cases hf; rfl) (by decide) (by decide)
  replace hf := me_in c1 hf
  by_cases c4 : v1 = (106 : Int32)
  · refine me_loo C (76) (tgt := 77) dX11_isNumberOf_1 (by decide) (by rw [c4]; decide +kernel) (by decide) ?_
    replace hf := me_ip c4 hf
    refine me_iload_n C 2 dX11_isNumberOf_77 rfl rfl ?_
    refine me_if_lt C (tgt := 91) dX11_isNumberOf_78 (by decide) (fun c5 => ?_) (fun c5 => ?_)
    · replace hf := me_ip c5 hf
      refine me_iconst C (v := 0) dX11_isNumberOf_91 (by decide) ?_
      exact me_iret C N dX11_isNumberOf_92 (by decide +kernel) (by cases hf; rfl) (by decide) (by decide)
    · replace hf := me_in c5 hf
      refine me_iload_n C 2 dX11_isNumberOf_81 rfl rfl ?_
      refine me_bipush C (v := 12) dX11_isNumberOf_82 (by decide) ?_
      refine me_icmp_ge C (tgt := 91) dX11_isNumberOf_84 (by decide) (fun c6 => ?_) (fun c6 => ?_)
      · replace hf := me_ip c6 hf
        refine me_iconst C (v := 0) dX11_isNumberOf_91 (by decide) ?_
        exact me_iret C N dX11_isNumberOf_92 (by decide +kernel) (by cases hf; rfl) (by decide) (by decide)
      · replace hf := me_in c6 hf
        refine me_iconst C (v := 1) dX11_isNumberOf_87 (by decide) ?_
        refine me_goto C (tgt := 92) dX11_isNumberOf_88 (by decide) ?_
        exact me_iret C N dX11_isNumberOf_92 (by decide +kernel) (by cases hf; rfl) (by decide) (by decide)
  replace hf := me_in c4 hf
  by_cases c7 : v1 = (108 : Int32)
  · refine me_loo C (51) (tgt := 52) dX11_isNumberOf_1 (by decide) (by rw [c7]; decide +kernel) (by decide) ?_
    replace hf := me_ip c7 hf
    refine me_iload_n C 2 dX11_isNumberOf_52 rfl rfl ?_
    refine me_if_lt C (tgt := 66) dX11_isNumberOf_53 (by decide) (fun c8 => ?_) (fun c8 => ?_)
    · replace hf := me_ip c8 hf
      refine me_iconst C (v := 0) dX11_isNumberOf_66 (by decide) ?_
      exact me_iret C N dX11_isNumberOf_67 (by decide +kernel) (by cases hf; rfl) (by decide) (by decide)
    · replace hf := me_in c8 hf
      refine me_iload_n C 2 dX11_isNumberOf_56 rfl rfl ?_
      refine me_bipush C (v := 8) dX11_isNumberOf_57 (by decide) ?_
      refine me_icmp_ge C (tgt := 66) dX11_isNumberOf_59 (by decide) (fun c9 => ?_) (fun c9 => ?_)
      · replace hf := me_ip c9 hf
        refine me_iconst C (v := 0) dX11_isNumberOf_66 (by decide) ?_
        exact me_iret C N dX11_isNumberOf_67 (by decide +kernel) (by cases hf; rfl) (by decide) (by decide)
      · replace hf := me_in c9 hf
        refine me_iconst C (v := 1) dX11_isNumberOf_62 (by decide) ?_
        refine me_goto C (tgt := 67) dX11_isNumberOf_63 (by decide) ?_
        exact me_iret C N dX11_isNumberOf_67 (by decide +kernel) (by cases hf; rfl) (by decide) (by decide)
  replace hf := me_in c7 hf
  by_cases c10 : v1 = (114 : Int32)
  · refine me_loo C (67) (tgt := 68) dX11_isNumberOf_1 (by decide) (by rw [c10]; decide +kernel) (by decide) ?_
    replace hf := me_ip c10 hf
    refine me_aload_n C 0 (Or.inr (Or.inl ⟨_, rfl⟩)) dX11_isNumberOf_68 rfl rfl ?_
    refine me_getr C hB 0 (k' := 1) (i' := 0) fg_Y_10 dX11_isNumberOf_69 rfl rfl ?_
    refine me_iload_n C 2 dX11_isNumberOf_72 rfl rfl ?_
    obtain ⟨r11, h_r11, hf⟩ := me_bs hf
    refine me_callV C N  (As := [me_i v2]) (st := []) 0 0 (c_Net_hasNode hB h_r11) mv_Net_hasNode ml_Y_419 rfl rfl dX11_isNumberOf_73 rfl rfl ⟨by decide, by decide⟩ ⟨by decide, by decide, by decide, by decide⟩ (Nat.le_of_ble_eq_true rfl) ?_
    obtain ⟨g12, hf⟩ := me_gs hf
    exact me_iret C N dX11_isNumberOf_76 g12 (by cases hf; rfl) (by decide) (by decide)
  replace hf := me_in c10 hf
  by_cases c13 : v1 = (115 : Int32)
  · refine me_loo C (51) (tgt := 52) dX11_isNumberOf_1 (by decide) (by rw [c13]; decide +kernel) (by decide) ?_
    replace hf := me_ip c13 hf
    refine me_iload_n C 2 dX11_isNumberOf_52 rfl rfl ?_
    refine me_if_lt C (tgt := 66) dX11_isNumberOf_53 (by decide) (fun c14 => ?_) (fun c14 => ?_)
    · replace hf := me_ip c14 hf
      refine me_iconst C (v := 0) dX11_isNumberOf_66 (by decide) ?_
      exact me_iret C N dX11_isNumberOf_67 (by decide +kernel) (by cases hf; rfl) (by decide) (by decide)
    · replace hf := me_in c14 hf
      refine me_iload_n C 2 dX11_isNumberOf_56 rfl rfl ?_
      refine me_bipush C (v := 8) dX11_isNumberOf_57 (by decide) ?_
      refine me_icmp_ge C (tgt := 66) dX11_isNumberOf_59 (by decide) (fun c15 => ?_) (fun c15 => ?_)
      · replace hf := me_ip c15 hf
        refine me_iconst C (v := 0) dX11_isNumberOf_66 (by decide) ?_
        exact me_iret C N dX11_isNumberOf_67 (by decide +kernel) (by cases hf; rfl) (by decide) (by decide)
      · replace hf := me_in c15 hf
        refine me_iconst C (v := 1) dX11_isNumberOf_62 (by decide) ?_
        refine me_goto C (tgt := 67) dX11_isNumberOf_63 (by decide) ?_
        exact me_iret C N dX11_isNumberOf_67 (by decide +kernel) (by cases hf; rfl) (by decide) (by decide)
  replace hf := me_in c13 hf
  refine me_looD C [100, 106, 108, 114, 115] (tgt := 93) dX11_isNumberOf_1 (by decide) (by decide +kernel) ⟨c1, c4, c7, c10, c13, trivial⟩ (by decide) ?_
  refine me_iconst C (v := 1) dX11_isNumberOf_93 (by decide) ?_
  exact me_iret C N dX11_isNumberOf_94 (by decide +kernel) (by cases hf; rfl) (by decide) (by decide)
theorem c_Y_isNumberOf {B : me_B} (hB : me_St B) {μ : me_M} {v1 : Int32} {v2 : Int32} {r : Int32}  (hf : f_Y_isNumberOf μ v1 v2 = some r) : ∀ l E z, l.stackTraces = false → me_Met l yX11_isNumberOf cX11_isNumberOf 3 (some .boolean) 1 21 0 0 E B μ z [me_r 0 0, me_i v1, me_i v2] (B, μ, .ok (some (me_i r))) :=
  fun _ _ _ hl => me_ofZ hl (by decide +kernel) (Nat.le_of_ble_eq_true rfl) (fun _ C N hNx => z_Y_isNumberOf C N hNx hB  hf)

def f_Y_program_b24 (μ : me_M) : Option (me_M × (Except Nat Int32)) :=
  some (μ, .error 2)
set_option maxHeartbeats 4000000 in
set_option maxRecDepth 100000 in
theorem z_Y_program_b24 {X : me_X} {B : me_B} {sz : Nat} (C : me_C X B RX11 cX11_program 5 (some .int)) {μ : me_M}    {r : me_M × (Except Nat Int32)} (N : me_En X B sz (B, r.1, me_xc (fun v => some (me_i v)) r.2) 7 111 2 12) (hNx : me_Nx X) (hB : me_St B)   (hf : f_Y_program_b24 μ = some r) : me_Z X B 1 6 μ 24 [] [] := by
  unfold f_Y_program_b24 at hf
  exact me_throwW C N hNx 2 cl_Y_109 ie_2 sr_Y_298 tw_Y_113 ft_2 dX11_program_24 dX11_program_27 dX11_program_28 dX11_program_31 dX11_program_34 ⟨by decide, by decide⟩ (Nat.le_of_ble_eq_true rfl) ⟨by decide, by decide⟩ (by cases hf; rfl)
def f_Y_program_b61 (μ : me_M) : Option (me_M × (Except Nat Int32)) :=
  some (μ, .error 3)
set_option maxHeartbeats 4000000 in
set_option maxRecDepth 100000 in
theorem z_Y_program_b61 {X : me_X} {B : me_B} {sz : Nat} (C : me_C X B RX11 cX11_program 5 (some .int)) {μ : me_M}    {r : me_M × (Except Nat Int32)} (N : me_En X B sz (B, r.1, me_xc (fun v => some (me_i v)) r.2) 7 111 2 12) (hNx : me_Nx X) (hB : me_St B)   (hf : f_Y_program_b61 μ = some r) : me_Z X B 1 6 μ 61 [] [] := by
  unfold f_Y_program_b61 at hf
  exact me_throwW C N hNx 3 cl_Y_303 ie_3 sr_Y_305 tw_Y_307 ft_3 dX11_program_61 dX11_program_64 dX11_program_65 dX11_program_68 dX11_program_71 ⟨by decide, by decide⟩ (Nat.le_of_ble_eq_true rfl) ⟨by decide, by decide⟩ (by cases hf; rfl)
def f_Y_program (μ : me_M) (v1 : Int32) (v2 : Int32) (v3 : Int32) : Option (me_M × (Except Nat Int32)) :=
  me_bd (f_Y_needNode μ v1) (fun r1 =>
  me_xb2 r1 μ (fun r1 =>
  me_bd (f_Str_indexOf1 μ 2 v2) (fun r2 =>
  if r2 < 0 then
  (f_Y_program_b24 μ)
  else
  (me_bd (f_Y_isNumberOf μ v2 v3) (fun r4 =>
  if r4 = 0 then
  (f_Y_program_b24 μ)
  else
  (me_gd (me_inb v1 16) (
  if (12 : Int32) ≤ (μ 22 (me_ix v1) 5) then
  (f_Y_program_b61 μ)
  else
  (me_bd (f_Core_isBusy μ (me_ix v1)) (fun r8 =>
  if r8 = 0 then
  (me_b2 (f_Core_addInstruction μ (me_ix v1) v2 v3) (fun μ11 r10 =>
  some (μ11, .ok (μ11 22 (me_ix v1) 5))))
  else
  (f_Y_program_b61 μ))))))))))
set_option maxHeartbeats 4000000 in
set_option maxRecDepth 100000 in
theorem z_Y_program {X : me_X} {B : me_B} {sz : Nat} (C : me_C X B RX11 cX11_program 5 (some .int)) {μ : me_M} {v1 : Int32} {v2 : Int32} {v3 : Int32}   {r : me_M × (Except Nat Int32)} (N : me_En X B sz (B, r.1, me_xc (fun v => some (me_i v)) r.2) 7 111 2 12) (hNx : me_Nx X) (hB : me_St B)   (hf : f_Y_program μ v1 v2 v3 = some r) : me_Z X B 0 0 μ 0 [(0, me_r 0 0), (1, me_i v1), (2, me_i v2), (3, me_i v3)] [] := by
  unfold f_Y_program at hf
  refine me_aload_n C 0 (Or.inr (Or.inl ⟨_, rfl⟩)) dX11_program_0 rfl rfl ?_
  refine me_iload_n C 1 dX11_program_1 rfl rfl ?_
  obtain ⟨r1, h_r1, hf⟩ := me_bs hf
  rcases r1 with r1 | r1
  · replace hf := me_xb2e hf
    refine me_callVE C N  (As := [me_i v1]) (st := []) 1 6 (c_Y_needNode hB h_r1) mv_Y_needNode ml_Y_103 rfl rfl dX11_program_2 rfl rfl ⟨by decide, by decide⟩ ⟨by decide, by decide, by decide, by decide⟩ (Nat.le_of_ble_eq_true rfl) ?_
    exact me_outX C N hNx (by cases hf; rfl) (by decide) (by decide)
  replace hf := me_xb2o hf
  refine me_callV0 C N  (As := [me_i v1]) (st := []) 1 6 (c_Y_needNode hB h_r1) mv_Y_needNode ml_Y_103 rfl rfl dX11_program_2 rfl rfl ⟨by decide, by decide⟩ ⟨by decide, by decide, by decide, by decide⟩ (Nat.le_of_ble_eq_true rfl) ?_
  refine me_ldcSw C sx_Y_292 dX11_program_5 ?_
  refine me_iload_n C 2 dX11_program_8 rfl rfl ?_
  obtain ⟨r2, h_r2, hf⟩ := me_bs hf
  refine me_callG C N (by decide) (As := [me_i v2]) (st := []) 1 6 (c_Str_indexOf1 hB (by decide) h_r2) mv_Str_indexOf1 ml_Y_215 rfl dX11_program_9 rfl rfl ⟨by decide, by decide⟩ ⟨by decide, by decide, by decide, by decide⟩ (Nat.le_of_ble_eq_true rfl) ?_
  refine me_if_lt C (tgt := 24) dX11_program_12 (by decide) (fun c3 => ?_) (fun c3 => ?_)
  · replace hf := me_ip c3 hf
    refine me_dropI [] [] rfl ?_
    exact z_Y_program_b24 C N hNx hB hf
  · replace hf := me_in c3 hf
    refine me_aload_n C 0 (Or.inr (Or.inl ⟨_, rfl⟩)) dX11_program_15 rfl rfl ?_
    refine me_iload_n C 2 dX11_program_16 rfl rfl ?_
    refine me_iload_n C 3 dX11_program_17 rfl rfl ?_
    obtain ⟨r4, h_r4, hf⟩ := me_bs hf
    refine me_callV C N  (As := [me_i v2, me_i v3]) (st := []) 1 6 (c_Y_isNumberOf hB h_r4) mv_Y_isNumberOf ml_Y_294 rfl rfl dX11_program_18 rfl rfl ⟨by decide, by decide⟩ ⟨by decide, by decide, by decide, by decide⟩ (Nat.le_of_ble_eq_true rfl) ?_
    refine me_if_ne C (tgt := 35) dX11_program_21 (by decide) (fun c5 => ?_) (fun c5 => ?_)
    · replace hf := me_in c5 hf
      refine me_aload_n C 0 (Or.inr (Or.inl ⟨_, rfl⟩)) dX11_program_35 rfl rfl ?_
      refine me_getr C hB 4 (k' := 21) (i' := 0) fg_Y_40 dX11_program_36 rfl rfl ?_
      refine me_iload_n C 1 dX11_program_39 rfl rfl ?_
      obtain ⟨g6, hf⟩ := me_gs hf
      refine me_aald C hB (k' := 22) (i' := (me_ix v1)) rfl (fun _ => rfl) rfl g6 dX11_program_40 rfl ?_
      refine me_astore C (Or.inr (Or.inl ⟨_, rfl⟩)) dX11_program_41 (by decide) (L' := [(4, me_r 22 (me_ix v1)), (0, me_r 0 0), (1, me_i v1), (2, me_i v2), (3, me_i v3)]) rfl ?_
      refine me_aload C (Or.inr (Or.inl ⟨_, rfl⟩)) dX11_program_43 rfl ?_
      refine me_geti C 5 fg_Y_300 dX11_program_45 rfl ?_
      refine me_bipush C (v := 12) dX11_program_48 (by decide) ?_
      refine me_icmp_ge C (tgt := 61) dX11_program_50 (by decide) (fun c7 => ?_) (fun c7 => ?_)
      · replace hf := me_ip c7 hf
        refine me_dropI [] [] rfl ?_
        exact z_Y_program_b61 C N hNx hB hf
      · replace hf := me_in c7 hf
        refine me_aload C (Or.inr (Or.inl ⟨_, rfl⟩)) dX11_program_53 rfl ?_
        obtain ⟨r8, h_r8, hf⟩ := me_bs hf
        refine me_callV C N  (As := []) (st := []) 1 6 (c_Core_isBusy hB h_r8) mv_Core_isBusy ml_Y_267 rfl rfl dX11_program_55 rfl rfl ⟨by decide, by decide⟩ ⟨by decide, by decide, by decide, by decide⟩ (Nat.le_of_ble_eq_true rfl) ?_
        refine me_if_eq C (tgt := 72) dX11_program_58 (by decide) (fun c9 => ?_) (fun c9 => ?_)
        · replace hf := me_ip c9 hf
          refine me_aload C (Or.inr (Or.inl ⟨_, rfl⟩)) dX11_program_72 rfl ?_
          refine me_iload_n C 2 dX11_program_74 rfl rfl ?_
          refine me_iload_n C 3 dX11_program_75 rfl rfl ?_
          obtain ⟨μ11, r10, h_r10, hf⟩ := me_bs2 hf
          refine me_callV0 C N  (As := [me_i v2, me_i v3]) (st := []) 1 6 (c_Core_addInstruction hB h_r10) mv_Core_addInstruction ml_Y_308 rfl rfl dX11_program_76 rfl rfl ⟨by decide, by decide⟩ ⟨by decide, by decide, by decide, by decide⟩ (Nat.le_of_ble_eq_true rfl) ?_
          refine me_aload C (Or.inr (Or.inl ⟨_, rfl⟩)) dX11_program_79 rfl ?_
          refine me_geti C 5 fg_Y_300 dX11_program_81 rfl ?_
          exact me_iret C N dX11_program_84 (me_nri _) (by cases hf; rfl) (by decide) (by decide)
        · replace hf := me_in c9 hf
          refine me_dropI [] [] rfl ?_
          exact z_Y_program_b61 C N hNx hB hf
    · replace hf := me_ip c5 hf
      refine me_dropI [] [] rfl ?_
      exact z_Y_program_b24 C N hNx hB hf
theorem c_Y_program {B : me_B} (hB : me_St B) {μ : me_M} {v1 : Int32} {v2 : Int32} {v3 : Int32} {μ' : me_M} {r : Except Nat Int32}  (hf : f_Y_program μ v1 v2 v3 = some (μ', r)) : ∀ l E z, l.stackTraces = false → me_Met l yX11_program cX11_program 5 (some .int) 7 111 2 12 E B μ z [me_r 0 0, me_i v1, me_i v2, me_i v3] (B, μ', me_xc (fun v => some (me_i v)) r) :=
  fun _ _ _ hl => me_ofZ hl (by decide +kernel) (Nat.le_of_ble_eq_true rfl) (fun _ C N hNx => z_Y_program C N hNx hB  hf)

def f_Y_needCoreAtRest (μ : me_M) (v1 : Int32) : Option (Except Nat Unit) :=
  me_gd (me_inb v1 16) (
  me_bd (f_Core_isBusy μ (me_ix v1)) (fun r2 =>
  if r2 = 0 then
  (some (.ok ()))
  else
  (some (.error 3))))
set_option maxHeartbeats 4000000 in
set_option maxRecDepth 100000 in
theorem z_Y_needCoreAtRest {X : me_X} {B : me_B} {sz : Nat} (C : me_C X B RX11 cX11_needCoreAtRest 2 none) {μ : me_M} {v1 : Int32}   {r : Except Nat Unit} (N : me_En X B sz (B, μ, me_xc (fun _ => none) r) 6 90 1 6) (hNx : me_Nx X) (hB : me_St B)   (hf : f_Y_needCoreAtRest μ v1 = some r) : me_Z X B 0 0 μ 0 [(0, me_r 0 0), (1, me_i v1)] [] := by
  unfold f_Y_needCoreAtRest at hf
  refine me_aload_n C 0 (Or.inr (Or.inl ⟨_, rfl⟩)) dX11_needCoreAtRest_0 rfl rfl ?_
  refine me_getr C hB 4 (k' := 21) (i' := 0) fg_Y_40 dX11_needCoreAtRest_1 rfl rfl ?_
  refine me_iload_n C 1 dX11_needCoreAtRest_4 rfl rfl ?_
  obtain ⟨g1, hf⟩ := me_gs hf
  refine me_aald C hB (k' := 22) (i' := (me_ix v1)) rfl (fun _ => rfl) rfl g1 dX11_needCoreAtRest_5 rfl ?_
  obtain ⟨r2, h_r2, hf⟩ := me_bs hf
  refine me_callV C N  (As := []) (st := []) 0 0 (c_Core_isBusy hB h_r2) mv_Core_isBusy ml_Y_267 rfl rfl dX11_needCoreAtRest_6 rfl rfl ⟨by decide, by decide⟩ ⟨by decide, by decide, by decide, by decide⟩ (Nat.le_of_ble_eq_true rfl) ?_
  refine me_if_eq C (tgt := 23) dX11_needCoreAtRest_9 (by decide) (fun c3 => ?_) (fun c3 => ?_)
  · replace hf := me_ip c3 hf
    exact me_vret C N dX11_needCoreAtRest_23 (by cases hf; rfl) (by decide) (by decide)
  · replace hf := me_in c3 hf
    exact me_throwW C N hNx 3 cl_Y_303 ie_3 sr_Y_439 tw_Y_307 ft_3 dX11_needCoreAtRest_12 dX11_needCoreAtRest_15 dX11_needCoreAtRest_16 dX11_needCoreAtRest_19 dX11_needCoreAtRest_22 ⟨by decide, by decide⟩ (Nat.le_of_ble_eq_true rfl) ⟨by decide, by decide⟩ (by cases hf; rfl)
theorem c_Y_needCoreAtRest {B : me_B} (hB : me_St B) {μ : me_M} {v1 : Int32} {r : Except Nat Unit}  (hf : f_Y_needCoreAtRest μ v1 = some r) : ∀ l E z, l.stackTraces = false → me_Met l yX11_needCoreAtRest cX11_needCoreAtRest 2 none 6 90 1 6 E B μ z [me_r 0 0, me_i v1] (B, μ, me_xc (fun _ => none) r) :=
  fun _ _ _ hl => me_ofZ hl (by decide +kernel) (Nat.le_of_ble_eq_true rfl) (fun _ C N hNx => z_Y_needCoreAtRest C N hNx hB  hf)

def f_Y_clear (μ : me_M) (v1 : Int32) : Option (me_M × (Except Nat Int32)) :=
  me_bd (f_Y_needNode μ v1) (fun r1 =>
  me_xb2 r1 μ (fun r1 =>
  me_bd (f_Y_needCoreAtRest μ v1) (fun r2 =>
  me_xb2 r2 μ (fun r2 =>
  me_gd (me_inb v1 16) (
  me_lt ((μ 22 (me_ix v1) 5)) (fun x4 =>
  me_gd (me_inb v1 16) (
  me_lt (me_up μ 22 (me_ix v1) 5 (0 : Int32)) (fun μ6 =>
  some (μ6, .ok x4)))))))))
set_option maxHeartbeats 4000000 in
set_option maxRecDepth 100000 in
theorem z_Y_clear {X : me_X} {B : me_B} {sz : Nat} (C : me_C X B RX11 cX11_clear 3 (some .int)) {μ : me_M} {v1 : Int32}   {r : me_M × (Except Nat Int32)} (N : me_En X B sz (B, r.1, me_xc (fun v => some (me_i v)) r.2) 7 111 2 12) (hNx : me_Nx X) (hB : me_St B)   (hf : f_Y_clear μ v1 = some r) : me_Z X B 0 0 μ 0 [(0, me_r 0 0), (1, me_i v1)] [] := by
  unfold f_Y_clear at hf
  refine me_aload_n C 0 (Or.inr (Or.inl ⟨_, rfl⟩)) dX11_clear_0 rfl rfl ?_
  refine me_iload_n C 1 dX11_clear_1 rfl rfl ?_
  obtain ⟨r1, h_r1, hf⟩ := me_bs hf
  rcases r1 with r1 | r1
  · replace hf := me_xb2e hf
    refine me_callVE C N  (As := [me_i v1]) (st := []) 1 6 (c_Y_needNode hB h_r1) mv_Y_needNode ml_Y_103 rfl rfl dX11_clear_2 rfl rfl ⟨by decide, by decide⟩ ⟨by decide, by decide, by decide, by decide⟩ (Nat.le_of_ble_eq_true rfl) ?_
    exact me_outX C N hNx (by cases hf; rfl) (by decide) (by decide)
  replace hf := me_xb2o hf
  refine me_callV0 C N  (As := [me_i v1]) (st := []) 1 6 (c_Y_needNode hB h_r1) mv_Y_needNode ml_Y_103 rfl rfl dX11_clear_2 rfl rfl ⟨by decide, by decide⟩ ⟨by decide, by decide, by decide, by decide⟩ (Nat.le_of_ble_eq_true rfl) ?_
  refine me_aload_n C 0 (Or.inr (Or.inl ⟨_, rfl⟩)) dX11_clear_5 rfl rfl ?_
  refine me_iload_n C 1 dX11_clear_6 rfl rfl ?_
  obtain ⟨r2, h_r2, hf⟩ := me_bs hf
  rcases r2 with r2 | r2
  · replace hf := me_xb2e hf
    refine me_callVE C N  (As := [me_i v1]) (st := []) 2 12 (c_Y_needCoreAtRest hB h_r2) mv_Y_needCoreAtRest ml_Y_312 rfl rfl dX11_clear_7 rfl rfl ⟨by decide, by decide⟩ ⟨by decide, by decide, by decide, by decide⟩ (Nat.le_of_ble_eq_true rfl) ?_
    exact me_outX C N hNx (by cases hf; rfl) (by decide) (by decide)
  replace hf := me_xb2o hf
  refine me_callV0 C N  (As := [me_i v1]) (st := []) 2 12 (c_Y_needCoreAtRest hB h_r2) mv_Y_needCoreAtRest ml_Y_312 rfl rfl dX11_clear_7 rfl rfl ⟨by decide, by decide⟩ ⟨by decide, by decide, by decide, by decide⟩ (Nat.le_of_ble_eq_true rfl) ?_
  refine me_aload_n C 0 (Or.inr (Or.inl ⟨_, rfl⟩)) dX11_clear_10 rfl rfl ?_
  refine me_getr C hB 4 (k' := 21) (i' := 0) fg_Y_40 dX11_clear_11 rfl rfl ?_
  refine me_iload_n C 1 dX11_clear_14 rfl rfl ?_
  obtain ⟨g3, hf⟩ := me_gs hf
  refine me_aald C hB (k' := 22) (i' := (me_ix v1)) rfl (fun _ => rfl) rfl g3 dX11_clear_15 rfl ?_
  refine me_geti C 5 fg_Y_300 dX11_clear_16 rfl ?_
  obtain ⟨x4, e_x4, hf⟩ := me_lts hf
  refine me_nm e_x4 ?_
  refine me_istore_n C 2 dX11_clear_19 rfl (by decide) (L' := [(2, me_i x4), (0, me_r 0 0), (1, me_i v1)]) rfl ?_
  refine me_aload_n C 0 (Or.inr (Or.inl ⟨_, rfl⟩)) dX11_clear_20 rfl rfl ?_
  refine me_getr C hB 4 (k' := 21) (i' := 0) fg_Y_40 dX11_clear_21 rfl rfl ?_
  refine me_iload_n C 1 dX11_clear_24 rfl rfl ?_
  obtain ⟨g5, hf⟩ := me_gs hf
  refine me_aald C hB (k' := 22) (i' := (me_ix v1)) rfl (fun _ => rfl) rfl g5 dX11_clear_25 rfl ?_
  refine me_iconst C (v := 0) dX11_clear_26 (by decide) ?_
  obtain ⟨μ6, e_μ6, hf⟩ := me_lts hf
  refine me_puti C 5 fw_Y_300 dX11_clear_27 rfl (me_nri _) e_μ6 ?_
  refine me_iload_n C 2 dX11_clear_30 rfl rfl ?_
  exact me_iret C N dX11_clear_31 (me_nri _) (by cases hf; rfl) (by decide) (by decide)
theorem c_Y_clear {B : me_B} (hB : me_St B) {μ : me_M} {v1 : Int32} {μ' : me_M} {r : Except Nat Int32}  (hf : f_Y_clear μ v1 = some (μ', r)) : ∀ l E z, l.stackTraces = false → me_Met l yX11_clear cX11_clear 3 (some .int) 7 111 2 12 E B μ z [me_r 0 0, me_i v1] (B, μ', me_xc (fun v => some (me_i v)) r) :=
  fun _ _ _ hl => me_ofZ hl (by decide +kernel) (Nat.le_of_ble_eq_true rfl) (fun _ C N hNx => z_Y_clear C N hNx hB  hf)

def f_Y_start (μ : me_M) (v1 : Int32) : Option (me_M × (Except Nat Int32)) :=
  me_bd (f_Y_needNode μ v1) (fun r1 =>
  me_xb2 r1 μ (fun r1 =>
  me_gd (me_inb v1 16) (
  if (μ 22 (me_ix v1) 5) = 0 then
  (some (μ, .error 4))
  else
  (me_bd (f_Y_needCoreAtRest μ v1) (fun r4 =>
  me_xb2 r4 μ (fun r4 =>
  me_gd (me_inb v1 16) (
  me_b2 (f_Core_begin μ (me_ix v1)) (fun μ7 r6 =>
  me_bd (f_Works_countBusy μ7) (fun r8 =>
  some (μ7, .ok r8))))))))))
set_option maxHeartbeats 4000000 in
set_option maxRecDepth 100000 in
theorem z_Y_start {X : me_X} {B : me_B} {sz : Nat} (C : me_C X B RX11 cX11_start 2 (some .int)) {μ : me_M} {v1 : Int32}   {r : me_M × (Except Nat Int32)} (N : me_En X B sz (B, r.1, me_xc (fun v => some (me_i v)) r.2) 7 111 2 12) (hNx : me_Nx X) (hB : me_St B)   (hf : f_Y_start μ v1 = some r) : me_Z X B 0 0 μ 0 [(0, me_r 0 0), (1, me_i v1)] [] := by
  unfold f_Y_start at hf
  refine me_aload_n C 0 (Or.inr (Or.inl ⟨_, rfl⟩)) dX11_start_0 rfl rfl ?_
  refine me_iload_n C 1 dX11_start_1 rfl rfl ?_
  obtain ⟨r1, h_r1, hf⟩ := me_bs hf
  rcases r1 with r1 | r1
  · replace hf := me_xb2e hf
    refine me_callVE C N  (As := [me_i v1]) (st := []) 1 6 (c_Y_needNode hB h_r1) mv_Y_needNode ml_Y_103 rfl rfl dX11_start_2 rfl rfl ⟨by decide, by decide⟩ ⟨by decide, by decide, by decide, by decide⟩ (Nat.le_of_ble_eq_true rfl) ?_
    exact me_outX C N hNx (by cases hf; rfl) (by decide) (by decide)
  replace hf := me_xb2o hf
  refine me_callV0 C N  (As := [me_i v1]) (st := []) 1 6 (c_Y_needNode hB h_r1) mv_Y_needNode ml_Y_103 rfl rfl dX11_start_2 rfl rfl ⟨by decide, by decide⟩ ⟨by decide, by decide, by decide, by decide⟩ (Nat.le_of_ble_eq_true rfl) ?_
  refine me_aload_n C 0 (Or.inr (Or.inl ⟨_, rfl⟩)) dX11_start_5 rfl rfl ?_
  refine me_getr C hB 4 (k' := 21) (i' := 0) fg_Y_40 dX11_start_6 rfl rfl ?_
  refine me_iload_n C 1 dX11_start_9 rfl rfl ?_
  obtain ⟨g2, hf⟩ := me_gs hf
  refine me_aald C hB (k' := 22) (i' := (me_ix v1)) rfl (fun _ => rfl) rfl g2 dX11_start_10 rfl ?_
  refine me_geti C 5 fg_Y_300 dX11_start_11 rfl ?_
  refine me_if_ne C (tgt := 28) dX11_start_14 (by decide) (fun c3 => ?_) (fun c3 => ?_)
  · replace hf := me_in c3 hf
    refine me_aload_n C 0 (Or.inr (Or.inl ⟨_, rfl⟩)) dX11_start_28 rfl rfl ?_
    refine me_iload_n C 1 dX11_start_29 rfl rfl ?_
    obtain ⟨r4, h_r4, hf⟩ := me_bs hf
    rcases r4 with r4 | r4
    · replace hf := me_xb2e hf
      refine me_callVE C N  (As := [me_i v1]) (st := []) 2 12 (c_Y_needCoreAtRest hB h_r4) mv_Y_needCoreAtRest ml_Y_312 rfl rfl dX11_start_30 rfl rfl ⟨by decide, by decide⟩ ⟨by decide, by decide, by decide, by decide⟩ (Nat.le_of_ble_eq_true rfl) ?_
      exact me_outX C N hNx (by cases hf; rfl) (by decide) (by decide)
    replace hf := me_xb2o hf
    refine me_callV0 C N  (As := [me_i v1]) (st := []) 2 12 (c_Y_needCoreAtRest hB h_r4) mv_Y_needCoreAtRest ml_Y_312 rfl rfl dX11_start_30 rfl rfl ⟨by decide, by decide⟩ ⟨by decide, by decide, by decide, by decide⟩ (Nat.le_of_ble_eq_true rfl) ?_
    refine me_aload_n C 0 (Or.inr (Or.inl ⟨_, rfl⟩)) dX11_start_33 rfl rfl ?_
    refine me_getr C hB 4 (k' := 21) (i' := 0) fg_Y_40 dX11_start_34 rfl rfl ?_
    refine me_iload_n C 1 dX11_start_37 rfl rfl ?_
    obtain ⟨g5, hf⟩ := me_gs hf
    refine me_aald C hB (k' := 22) (i' := (me_ix v1)) rfl (fun _ => rfl) rfl g5 dX11_start_38 rfl ?_
    obtain ⟨μ7, r6, h_r6, hf⟩ := me_bs2 hf
    refine me_callV0 C N  (As := []) (st := []) 2 12 (c_Core_begin hB h_r6) mv_Core_begin ml_Y_317 rfl rfl dX11_start_39 rfl rfl ⟨by decide, by decide⟩ ⟨by decide, by decide, by decide, by decide⟩ (Nat.le_of_ble_eq_true rfl) ?_
    refine me_aload_n C 0 (Or.inr (Or.inl ⟨_, rfl⟩)) dX11_start_42 rfl rfl ?_
    refine me_getr C hB 7 (k' := 31) (i' := 0) fg_Y_67 dX11_start_43 rfl rfl ?_
    obtain ⟨r8, h_r8, hf⟩ := me_bs hf
    refine me_callV C N  (As := []) (st := []) 2 12 (c_Works_countBusy hB h_r8) mv_Works_countBusy ml_Y_320 rfl rfl dX11_start_46 rfl rfl ⟨by decide, by decide⟩ ⟨by decide, by decide, by decide, by decide⟩ (Nat.le_of_ble_eq_true rfl) ?_
    exact me_iret C N dX11_start_49 (me_nri _) (by cases hf; rfl) (by decide) (by decide)
  · replace hf := me_ip c3 hf
    exact me_throwW C N hNx 4 cl_Y_251 ie_4 sr_Y_315 tw_Y_255 ft_4 dX11_start_17 dX11_start_20 dX11_start_21 dX11_start_24 dX11_start_27 ⟨by decide, by decide⟩ (Nat.le_of_ble_eq_true rfl) ⟨by decide, by decide⟩ (by cases hf; rfl)
theorem c_Y_start {B : me_B} (hB : me_St B) {μ : me_M} {v1 : Int32} {μ' : me_M} {r : Except Nat Int32}  (hf : f_Y_start μ v1 = some (μ', r)) : ∀ l E z, l.stackTraces = false → me_Met l yX11_start cX11_start 2 (some .int) 7 111 2 12 E B μ z [me_r 0 0, me_i v1] (B, μ', me_xc (fun v => some (me_i v)) r) :=
  fun _ _ _ hl => me_ofZ hl (by decide +kernel) (Nat.le_of_ble_eq_true rfl) (fun _ C N hNx => z_Y_start C N hNx hB  hf)

def f_Y_core (μ : me_M) (v1 : Int32) : Option (Except Nat Int32) :=
  me_bd (f_Y_needNode μ v1) (fun r1 =>
  me_xb r1 (fun r1 =>
  me_gd (me_inb v1 16) (
  me_gd (me_nr .char (μ 22 (me_ix v1) 7)) (
  some (.ok (μ 22 (me_ix v1) 7))))))
set_option maxHeartbeats 4000000 in
set_option maxRecDepth 100000 in
theorem z_Y_core {X : me_X} {B : me_B} {sz : Nat} (C : me_C X B RX11 cX11_core 2 (some .char)) {μ : me_M} {v1 : Int32}   {r : Except Nat Int32} (N : me_En X B sz (B, μ, me_xc (fun v => some (me_i v)) r) 7 111 1 6) (hNx : me_Nx X) (hB : me_St B)   (hf : f_Y_core μ v1 = some r) : me_Z X B 0 0 μ 0 [(0, me_r 0 0), (1, me_i v1)] [] := by
  unfold f_Y_core at hf
  refine me_aload_n C 0 (Or.inr (Or.inl ⟨_, rfl⟩)) dX11_core_0 rfl rfl ?_
  refine me_iload_n C 1 dX11_core_1 rfl rfl ?_
  obtain ⟨r1, h_r1, hf⟩ := me_bs hf
  rcases r1 with r1 | r1
  · replace hf := me_xbe hf
    refine me_callVE C N  (As := [me_i v1]) (st := []) 1 6 (c_Y_needNode hB h_r1) mv_Y_needNode ml_Y_103 rfl rfl dX11_core_2 rfl rfl ⟨by decide, by decide⟩ ⟨by decide, by decide, by decide, by decide⟩ (Nat.le_of_ble_eq_true rfl) ?_
    exact me_outX C N hNx (by cases hf; rfl) (by decide) (by decide)
  replace hf := me_xbo hf
  refine me_callV0 C N  (As := [me_i v1]) (st := []) 1 6 (c_Y_needNode hB h_r1) mv_Y_needNode ml_Y_103 rfl rfl dX11_core_2 rfl rfl ⟨by decide, by decide⟩ ⟨by decide, by decide, by decide, by decide⟩ (Nat.le_of_ble_eq_true rfl) ?_
  refine me_aload_n C 0 (Or.inr (Or.inl ⟨_, rfl⟩)) dX11_core_5 rfl rfl ?_
  refine me_getr C hB 4 (k' := 21) (i' := 0) fg_Y_40 dX11_core_6 rfl rfl ?_
  refine me_iload_n C 1 dX11_core_9 rfl rfl ?_
  obtain ⟨g2, hf⟩ := me_gs hf
  refine me_aald C hB (k' := 22) (i' := (me_ix v1)) rfl (fun _ => rfl) rfl g2 dX11_core_10 rfl ?_
  refine me_geti C 7 fg_Y_323 dX11_core_11 rfl ?_
  obtain ⟨g3, hf⟩ := me_gs hf
  exact me_iret C N dX11_core_14 g3 (by cases hf; rfl) (by decide) (by decide)
theorem c_Y_core {B : me_B} (hB : me_St B) {μ : me_M} {v1 : Int32} {r : Except Nat Int32}  (hf : f_Y_core μ v1 = some r) : ∀ l E z, l.stackTraces = false → me_Met l yX11_core cX11_core 2 (some .char) 7 111 1 6 E B μ z [me_r 0 0, me_i v1] (B, μ, me_xc (fun v => some (me_i v)) r) :=
  fun _ _ _ hl => me_ofZ hl (by decide +kernel) (Nat.le_of_ble_eq_true rfl) (fun _ C N hNx => z_Y_core C N hNx hB  hf)

def f_Y_fault (μ : me_M) (v1 : Int32) : Option (Except Nat Int32) :=
  me_bd (f_Y_needNode μ v1) (fun r1 =>
  me_xb r1 (fun r1 =>
  me_gd (me_inb v1 16) (
  if (μ 22 (me_ix v1) 7) = (120 : Int32) then
  (me_gd (me_inb v1 16) (
  me_gd (me_nr .char (μ 22 (me_ix v1) 8)) (
  some (.ok (μ 22 (me_ix v1) 8)))))
  else
  (some (.error 5)))))
set_option maxHeartbeats 4000000 in
set_option maxRecDepth 100000 in
theorem z_Y_fault {X : me_X} {B : me_B} {sz : Nat} (C : me_C X B RX11 cX11_fault 2 (some .char)) {μ : me_M} {v1 : Int32}   {r : Except Nat Int32} (N : me_En X B sz (B, μ, me_xc (fun v => some (me_i v)) r) 7 111 2 12) (hNx : me_Nx X) (hB : me_St B)   (hf : f_Y_fault μ v1 = some r) : me_Z X B 0 0 μ 0 [(0, me_r 0 0), (1, me_i v1)] [] := by
  unfold f_Y_fault at hf
  refine me_aload_n C 0 (Or.inr (Or.inl ⟨_, rfl⟩)) dX11_fault_0 rfl rfl ?_
  refine me_iload_n C 1 dX11_fault_1 rfl rfl ?_
  obtain ⟨r1, h_r1, hf⟩ := me_bs hf
  rcases r1 with r1 | r1
  · replace hf := me_xbe hf
    refine me_callVE C N  (As := [me_i v1]) (st := []) 1 6 (c_Y_needNode hB h_r1) mv_Y_needNode ml_Y_103 rfl rfl dX11_fault_2 rfl rfl ⟨by decide, by decide⟩ ⟨by decide, by decide, by decide, by decide⟩ (Nat.le_of_ble_eq_true rfl) ?_
    exact me_outX C N hNx (by cases hf; rfl) (by decide) (by decide)
  replace hf := me_xbo hf
  refine me_callV0 C N  (As := [me_i v1]) (st := []) 1 6 (c_Y_needNode hB h_r1) mv_Y_needNode ml_Y_103 rfl rfl dX11_fault_2 rfl rfl ⟨by decide, by decide⟩ ⟨by decide, by decide, by decide, by decide⟩ (Nat.le_of_ble_eq_true rfl) ?_
  refine me_aload_n C 0 (Or.inr (Or.inl ⟨_, rfl⟩)) dX11_fault_5 rfl rfl ?_
  refine me_getr C hB 4 (k' := 21) (i' := 0) fg_Y_40 dX11_fault_6 rfl rfl ?_
  refine me_iload_n C 1 dX11_fault_9 rfl rfl ?_
  obtain ⟨g2, hf⟩ := me_gs hf
  refine me_aald C hB (k' := 22) (i' := (me_ix v1)) rfl (fun _ => rfl) rfl g2 dX11_fault_10 rfl ?_
  refine me_geti C 7 fg_Y_323 dX11_fault_11 rfl ?_
  refine me_bipush C (v := 120) dX11_fault_14 (by decide) ?_
  refine me_icmp_eq C (tgt := 30) dX11_fault_16 (by decide) (fun c3 => ?_) (fun c3 => ?_)
  · replace hf := me_ip c3 hf
    refine me_aload_n C 0 (Or.inr (Or.inl ⟨_, rfl⟩)) dX11_fault_30 rfl rfl ?_
    refine me_getr C hB 4 (k' := 21) (i' := 0) fg_Y_40 dX11_fault_31 rfl rfl ?_
    refine me_iload_n C 1 dX11_fault_34 rfl rfl ?_
    obtain ⟨g4, hf⟩ := me_gs hf
    refine me_aald C hB (k' := 22) (i' := (me_ix v1)) rfl (fun _ => rfl) rfl g4 dX11_fault_35 rfl ?_
    refine me_geti C 8 fg_Y_326 dX11_fault_36 rfl ?_
    obtain ⟨g5, hf⟩ := me_gs hf
    exact me_iret C N dX11_fault_39 g5 (by cases hf; rfl) (by decide) (by decide)
  · replace hf := me_in c3 hf
    exact me_throwNW C N hNx 5 cl_Y_146 ie_5 sr_Y_324 tw_Y_150 rfl dX11_fault_19 dX11_fault_22 dX11_fault_23 dX11_fault_26 dX11_fault_29 ⟨by decide, by decide⟩ (Nat.le_of_ble_eq_true rfl) ⟨by decide, by decide⟩ (by cases hf; rfl)
theorem c_Y_fault {B : me_B} (hB : me_St B) {μ : me_M} {v1 : Int32} {r : Except Nat Int32}  (hf : f_Y_fault μ v1 = some r) : ∀ l E z, l.stackTraces = false → me_Met l yX11_fault cX11_fault 2 (some .char) 7 111 2 12 E B μ z [me_r 0 0, me_i v1] (B, μ, me_xc (fun v => some (me_i v)) r) :=
  fun _ _ _ hl => me_ofZ hl (by decide +kernel) (Nat.le_of_ble_eq_true rfl) (fun _ C N hNx => z_Y_fault C N hNx hB  hf)

def f_Y_memory (μ : me_M) (v1 : Int32) (v2 : Int32) : Option (Except Nat Int32) :=
  me_bd (f_Y_needNode μ v1) (fun r1 =>
  me_xb r1 (fun r1 =>
  me_bd (f_Y_needRange μ v2 (0 : Int32) (7 : Int32)) (fun r2 =>
  me_xb r2 (fun r2 =>
  me_gd (me_inb v1 16) (
  me_gd (me_inb v2 8) (
  some (.ok (μ 23 (me_ix v1) (me_ix v2)))))))))
set_option maxHeartbeats 4000000 in
set_option maxRecDepth 100000 in
theorem z_Y_memory {X : me_X} {B : me_B} {sz : Nat} (C : me_C X B RX11 cX11_memory 3 (some .int)) {μ : me_M} {v1 : Int32} {v2 : Int32}   {r : Except Nat Int32} (N : me_En X B sz (B, μ, me_xc (fun v => some (me_i v)) r) 7 113 2 12) (hNx : me_Nx X) (hB : me_St B)   (hf : f_Y_memory μ v1 v2 = some r) : me_Z X B 0 0 μ 0 [(0, me_r 0 0), (1, me_i v1), (2, me_i v2)] [] := by
  unfold f_Y_memory at hf
  refine me_aload_n C 0 (Or.inr (Or.inl ⟨_, rfl⟩)) dX11_memory_0 rfl rfl ?_
  refine me_iload_n C 1 dX11_memory_1 rfl rfl ?_
  obtain ⟨r1, h_r1, hf⟩ := me_bs hf
  rcases r1 with r1 | r1
  · replace hf := me_xbe hf
    refine me_callVE C N  (As := [me_i v1]) (st := []) 1 6 (c_Y_needNode hB h_r1) mv_Y_needNode ml_Y_103 rfl rfl dX11_memory_2 rfl rfl ⟨by decide, by decide⟩ ⟨by decide, by decide, by decide, by decide⟩ (Nat.le_of_ble_eq_true rfl) ?_
    exact me_outX C N hNx (by cases hf; rfl) (by decide) (by decide)
  replace hf := me_xbo hf
  refine me_callV0 C N  (As := [me_i v1]) (st := []) 1 6 (c_Y_needNode hB h_r1) mv_Y_needNode ml_Y_103 rfl rfl dX11_memory_2 rfl rfl ⟨by decide, by decide⟩ ⟨by decide, by decide, by decide, by decide⟩ (Nat.le_of_ble_eq_true rfl) ?_
  refine me_aload_n C 0 (Or.inr (Or.inl ⟨_, rfl⟩)) dX11_memory_5 rfl rfl ?_
  refine me_iload_n C 2 dX11_memory_6 rfl rfl ?_
  refine me_iconst C (v := 0) dX11_memory_7 (by decide) ?_
  refine me_bipush C (v := 7) dX11_memory_8 (by decide) ?_
  obtain ⟨r2, h_r2, hf⟩ := me_bs hf
  rcases r2 with r2 | r2
  · replace hf := me_xbe hf
    refine me_callVE C N  (As := [me_i v2, me_i (0 : Int32), me_i (7 : Int32)]) (st := []) 2 12 (c_Y_needRange hB h_r2) mv_Y_needRange ml_Y_87 rfl rfl dX11_memory_10 rfl rfl ⟨by decide, by decide⟩ ⟨by decide, by decide, by decide, by decide⟩ (Nat.le_of_ble_eq_true rfl) ?_
    exact me_outX C N hNx (by cases hf; rfl) (by decide) (by decide)
  replace hf := me_xbo hf
  refine me_callV0 C N  (As := [me_i v2, me_i (0 : Int32), me_i (7 : Int32)]) (st := []) 2 12 (c_Y_needRange hB h_r2) mv_Y_needRange ml_Y_87 rfl rfl dX11_memory_10 rfl rfl ⟨by decide, by decide⟩ ⟨by decide, by decide, by decide, by decide⟩ (Nat.le_of_ble_eq_true rfl) ?_
  refine me_aload_n C 0 (Or.inr (Or.inl ⟨_, rfl⟩)) dX11_memory_13 rfl rfl ?_
  refine me_getr C hB 4 (k' := 21) (i' := 0) fg_Y_40 dX11_memory_14 rfl rfl ?_
  refine me_iload_n C 1 dX11_memory_17 rfl rfl ?_
  obtain ⟨g3, hf⟩ := me_gs hf
  refine me_aald C hB (k' := 22) (i' := (me_ix v1)) rfl (fun _ => rfl) rfl g3 dX11_memory_18 rfl ?_
  refine me_getr C hB 0 (k' := 23) (i' := (me_ix v1)) fg_Y_329 dX11_memory_19 rfl rfl ?_
  refine me_iload_n C 2 dX11_memory_22 rfl rfl ?_
  obtain ⟨g4, hf⟩ := me_gs hf
  refine me_iald C rfl (fun _ => rfl) g4 dX11_memory_23 ?_
  exact me_iret C N dX11_memory_24 (me_nri _) (by cases hf; rfl) (by decide) (by decide)
theorem c_Y_memory {B : me_B} (hB : me_St B) {μ : me_M} {v1 : Int32} {v2 : Int32} {r : Except Nat Int32}  (hf : f_Y_memory μ v1 v2 = some r) : ∀ l E z, l.stackTraces = false → me_Met l yX11_memory cX11_memory 3 (some .int) 7 113 2 12 E B μ z [me_r 0 0, me_i v1, me_i v2] (B, μ, me_xc (fun v => some (me_i v)) r) :=
  fun _ _ _ hl => me_ofZ hl (by decide +kernel) (Nat.le_of_ble_eq_true rfl) (fun _ C N hNx => z_Y_memory C N hNx hB  hf)

def f_Y_set (μ : me_M) (v1 : Int32) (v2 : Int32) (v3 : Int32) : Option (me_M × (Except Nat Int32)) :=
  me_bd (f_Y_needNode μ v1) (fun r1 =>
  me_xb2 r1 μ (fun r1 =>
  me_bd (f_Y_needRange μ v2 (0 : Int32) (7 : Int32)) (fun r2 =>
  me_xb2 r2 μ (fun r2 =>
  me_gd (me_inb v1 16) (
  me_gd (me_inb v2 8) (
  me_lt ((μ 23 (me_ix v1) (me_ix v2))) (fun x5 =>
  me_gd (me_inb v1 16) (
  me_gd (me_inb v2 8) (
  me_lt (me_up μ 23 (me_ix v1) (me_ix v2) v3) (fun μ8 =>
  some (μ8, .ok x5)))))))))))
set_option maxHeartbeats 4000000 in
set_option maxRecDepth 100000 in
theorem z_Y_set {X : me_X} {B : me_B} {sz : Nat} (C : me_C X B RX11 cX11_set 5 (some .int)) {μ : me_M} {v1 : Int32} {v2 : Int32} {v3 : Int32}   {r : me_M × (Except Nat Int32)} (N : me_En X B sz (B, r.1, me_xc (fun v => some (me_i v)) r.2) 7 113 2 12) (hNx : me_Nx X) (hB : me_St B)   (hf : f_Y_set μ v1 v2 v3 = some r) : me_Z X B 0 0 μ 0 [(0, me_r 0 0), (1, me_i v1), (2, me_i v2), (3, me_i v3)] [] := by
  unfold f_Y_set at hf
  refine me_aload_n C 0 (Or.inr (Or.inl ⟨_, rfl⟩)) dX11_set_0 rfl rfl ?_
  refine me_iload_n C 1 dX11_set_1 rfl rfl ?_
  obtain ⟨r1, h_r1, hf⟩ := me_bs hf
  rcases r1 with r1 | r1
  · replace hf := me_xb2e hf
    refine me_callVE C N  (As := [me_i v1]) (st := []) 1 6 (c_Y_needNode hB h_r1) mv_Y_needNode ml_Y_103 rfl rfl dX11_set_2 rfl rfl ⟨by decide, by decide⟩ ⟨by decide, by decide, by decide, by decide⟩ (Nat.le_of_ble_eq_true rfl) ?_
    exact me_outX C N hNx (by cases hf; rfl) (by decide) (by decide)
  replace hf := me_xb2o hf
  refine me_callV0 C N  (As := [me_i v1]) (st := []) 1 6 (c_Y_needNode hB h_r1) mv_Y_needNode ml_Y_103 rfl rfl dX11_set_2 rfl rfl ⟨by decide, by decide⟩ ⟨by decide, by decide, by decide, by decide⟩ (Nat.le_of_ble_eq_true rfl) ?_
  refine me_aload_n C 0 (Or.inr (Or.inl ⟨_, rfl⟩)) dX11_set_5 rfl rfl ?_
  refine me_iload_n C 2 dX11_set_6 rfl rfl ?_
  refine me_iconst C (v := 0) dX11_set_7 (by decide) ?_
  refine me_bipush C (v := 7) dX11_set_8 (by decide) ?_
  obtain ⟨r2, h_r2, hf⟩ := me_bs hf
  rcases r2 with r2 | r2
  · replace hf := me_xb2e hf
    refine me_callVE C N  (As := [me_i v2, me_i (0 : Int32), me_i (7 : Int32)]) (st := []) 2 12 (c_Y_needRange hB h_r2) mv_Y_needRange ml_Y_87 rfl rfl dX11_set_10 rfl rfl ⟨by decide, by decide⟩ ⟨by decide, by decide, by decide, by decide⟩ (Nat.le_of_ble_eq_true rfl) ?_
    exact me_outX C N hNx (by cases hf; rfl) (by decide) (by decide)
  replace hf := me_xb2o hf
  refine me_callV0 C N  (As := [me_i v2, me_i (0 : Int32), me_i (7 : Int32)]) (st := []) 2 12 (c_Y_needRange hB h_r2) mv_Y_needRange ml_Y_87 rfl rfl dX11_set_10 rfl rfl ⟨by decide, by decide⟩ ⟨by decide, by decide, by decide, by decide⟩ (Nat.le_of_ble_eq_true rfl) ?_
  refine me_aload_n C 0 (Or.inr (Or.inl ⟨_, rfl⟩)) dX11_set_13 rfl rfl ?_
  refine me_getr C hB 4 (k' := 21) (i' := 0) fg_Y_40 dX11_set_14 rfl rfl ?_
  refine me_iload_n C 1 dX11_set_17 rfl rfl ?_
  obtain ⟨g3, hf⟩ := me_gs hf
  refine me_aald C hB (k' := 22) (i' := (me_ix v1)) rfl (fun _ => rfl) rfl g3 dX11_set_18 rfl ?_
  refine me_getr C hB 0 (k' := 23) (i' := (me_ix v1)) fg_Y_329 dX11_set_19 rfl rfl ?_
  refine me_iload_n C 2 dX11_set_22 rfl rfl ?_
  obtain ⟨g4, hf⟩ := me_gs hf
  refine me_iald C rfl (fun _ => rfl) g4 dX11_set_23 ?_
  obtain ⟨x5, e_x5, hf⟩ := me_lts hf
  refine me_nm e_x5 ?_
  refine me_istore C dX11_set_24 (by decide) (L' := [(4, me_i x5), (0, me_r 0 0), (1, me_i v1), (2, me_i v2), (3, me_i v3)]) rfl ?_
  refine me_aload_n C 0 (Or.inr (Or.inl ⟨_, rfl⟩)) dX11_set_26 rfl rfl ?_
  refine me_getr C hB 4 (k' := 21) (i' := 0) fg_Y_40 dX11_set_27 rfl rfl ?_
  refine me_iload_n C 1 dX11_set_30 rfl rfl ?_
  obtain ⟨g6, hf⟩ := me_gs hf
  refine me_aald C hB (k' := 22) (i' := (me_ix v1)) rfl (fun _ => rfl) rfl g6 dX11_set_31 rfl ?_
  refine me_getr C hB 0 (k' := 23) (i' := (me_ix v1)) fg_Y_329 dX11_set_32 rfl rfl ?_
  refine me_iload_n C 2 dX11_set_35 rfl rfl ?_
  refine me_iload_n C 3 dX11_set_36 rfl rfl ?_
  obtain ⟨g7, hf⟩ := me_gs hf
  obtain ⟨μ8, e_μ8, hf⟩ := me_lts hf
  refine me_iast C rfl (fun _ => rfl) g7 dX11_set_37 e_μ8 ?_
  refine me_iload C dX11_set_38 rfl ?_
  exact me_iret C N dX11_set_40 (me_nri _) (by cases hf; rfl) (by decide) (by decide)
theorem c_Y_set {B : me_B} (hB : me_St B) {μ : me_M} {v1 : Int32} {v2 : Int32} {v3 : Int32} {μ' : me_M} {r : Except Nat Int32}  (hf : f_Y_set μ v1 v2 v3 = some (μ', r)) : ∀ l E z, l.stackTraces = false → me_Met l yX11_set cX11_set 5 (some .int) 7 113 2 12 E B μ z [me_r 0 0, me_i v1, me_i v2, me_i v3] (B, μ', me_xc (fun v => some (me_i v)) r) :=
  fun _ _ _ hl => me_ofZ hl (by decide +kernel) (Nat.le_of_ble_eq_true rfl) (fun _ C N hNx => z_Y_set C N hNx hB  hf)
