/-! WALKS: M_mayGo, M_isLink, M_leadsTo, M_leads, M_direction, M_task, M_isNoTask, M_traffic, M_stepsOf, M_costNow, M_cost, M_exchange, M_swap -/
theorem dX12_mayGo_0 : decode cX12_mayGo 0 = .ok (.aload_n 0, 1) := by decide +kernel
theorem dX12_mayGo_1 : decode cX12_mayGo 1 = .ok (.getfield 19, 3) := by decide +kernel
theorem dX12_mayGo_4 : decode cX12_mayGo 4 = .ok (.bipush 116, 2) := by decide +kernel
theorem dX12_mayGo_6 : decode cX12_mayGo 6 = .ok (.if_icmp .eq 20, 3) := by decide +kernel
theorem dX12_mayGo_9 : decode cX12_mayGo 9 = .ok (.aload_n 0, 1) := by decide +kernel
theorem dX12_mayGo_10 : decode cX12_mayGo 10 = .ok (.iload_n 1, 1) := by decide +kernel
theorem dX12_mayGo_11 : decode cX12_mayGo 11 = .ok (.iload_n 2, 1) := by decide +kernel
theorem dX12_mayGo_12 : decode cX12_mayGo 12 = .ok (.iconst 0, 1) := by decide +kernel
theorem dX12_mayGo_13 : decode cX12_mayGo 13 = .ok (.invokevirtual 225, 3) := by decide +kernel
theorem dX12_mayGo_16 : decode cX12_mayGo 16 = .ok (.iload_n 3, 1) := by decide +kernel
theorem dX12_mayGo_17 : decode cX12_mayGo 17 = .ok (.if_icmp .ne 7, 3) := by decide +kernel
theorem dX12_mayGo_20 : decode cX12_mayGo 20 = .ok (.iconst 1, 1) := by decide +kernel
theorem dX12_mayGo_21 : decode cX12_mayGo 21 = .ok (.goto 4, 3) := by decide +kernel
theorem dX12_mayGo_24 : decode cX12_mayGo 24 = .ok (.iconst 0, 1) := by decide +kernel
theorem dX12_mayGo_25 : decode cX12_mayGo 25 = .ok (.ireturn, 1) := by decide +kernel
theorem dX12_mayGo_26 : decode cX12_mayGo 26 = .ok (.aload_n 0, 1) := by decide +kernel
theorem dX12_mayGo_27 : decode cX12_mayGo 27 = .ok (.iload_n 1, 1) := by decide +kernel
theorem dX12_mayGo_28 : decode cX12_mayGo 28 = .ok (.iload_n 2, 1) := by decide +kernel
theorem dX12_mayGo_29 : decode cX12_mayGo 29 = .ok (.iconst 1, 1) := by decide +kernel
theorem dX12_mayGo_30 : decode cX12_mayGo 30 = .ok (.invokevirtual 205, 3) := by decide +kernel
theorem dX12_mayGo_33 : decode cX12_mayGo 33 = .ok (.istore 4, 2) := by decide +kernel
theorem dX12_mayGo_35 : decode cX12_mayGo 35 = .ok (.aload_n 0, 1) := by decide +kernel
theorem dX12_mayGo_36 : decode cX12_mayGo 36 = .ok (.iload_n 1, 1) := by decide +kernel
theorem dX12_mayGo_37 : decode cX12_mayGo 37 = .ok (.iload_n 2, 1) := by decide +kernel
theorem dX12_mayGo_38 : decode cX12_mayGo 38 = .ok (.iconst 0, 1) := by decide +kernel
theorem dX12_mayGo_39 : decode cX12_mayGo 39 = .ok (.invokevirtual 205, 3) := by decide +kernel
theorem dX12_mayGo_42 : decode cX12_mayGo 42 = .ok (.istore 5, 2) := by decide +kernel
theorem dX12_mayGo_44 : decode cX12_mayGo 44 = .ok (.iload 4, 2) := by decide +kernel
theorem dX12_mayGo_46 : decode cX12_mayGo 46 = .ok (.iconst 1, 1) := by decide +kernel
theorem dX12_mayGo_47 : decode cX12_mayGo 47 = .ok (.if_icmp .ne 16, 3) := by decide +kernel
theorem dX12_mayGo_50 : decode cX12_mayGo 50 = .ok (.iload_n 3, 1) := by decide +kernel
theorem dX12_mayGo_51 : decode cX12_mayGo 51 = .ok (.iconst 1, 1) := by decide +kernel
theorem dX12_mayGo_52 : decode cX12_mayGo 52 = .ok (.if_icmp .ne 7, 3) := by decide +kernel
theorem dX12_mayGo_55 : decode cX12_mayGo 55 = .ok (.iconst 1, 1) := by decide +kernel
theorem dX12_mayGo_56 : decode cX12_mayGo 56 = .ok (.goto 29, 3) := by decide +kernel
theorem dX12_mayGo_59 : decode cX12_mayGo 59 = .ok (.iconst 0, 1) := by decide +kernel
theorem dX12_mayGo_60 : decode cX12_mayGo 60 = .ok (.goto 25, 3) := by decide +kernel
theorem dX12_mayGo_63 : decode cX12_mayGo 63 = .ok (.iload_n 3, 1) := by decide +kernel
theorem dX12_mayGo_64 : decode cX12_mayGo 64 = .ok (.iload 4, 2) := by decide +kernel
theorem dX12_mayGo_66 : decode cX12_mayGo 66 = .ok (.if_icmp .eq 9, 3) := by decide +kernel
theorem dX12_mayGo_69 : decode cX12_mayGo 69 = .ok (.iload_n 3, 1) := by decide +kernel
theorem dX12_mayGo_70 : decode cX12_mayGo 70 = .ok (.iload 5, 2) := by decide +kernel
theorem dX12_mayGo_72 : decode cX12_mayGo 72 = .ok (.if_icmp .ne 12, 3) := by decide +kernel
theorem dX12_mayGo_75 : decode cX12_mayGo 75 = .ok (.iload_n 3, 1) := by decide +kernel
theorem dX12_mayGo_76 : decode cX12_mayGo 76 = .ok (.iconst (-1), 1) := by decide +kernel
theorem dX12_mayGo_77 : decode cX12_mayGo 77 = .ok (.if_icmp .eq 7, 3) := by decide +kernel
theorem dX12_mayGo_80 : decode cX12_mayGo 80 = .ok (.iconst 1, 1) := by decide +kernel
theorem dX12_mayGo_81 : decode cX12_mayGo 81 = .ok (.goto 4, 3) := by decide +kernel
theorem dX12_mayGo_84 : decode cX12_mayGo 84 = .ok (.iconst 0, 1) := by decide +kernel
theorem dX12_mayGo_85 : decode cX12_mayGo 85 = .ok (.ireturn, 1) := by decide +kernel
theorem dX12_isLink_0 : decode cX12_isLink 0 = .ok (.aload_n 0, 1) := by decide +kernel
theorem dX12_isLink_1 : decode cX12_isLink 1 = .ok (.iload_n 1, 1) := by decide +kernel
theorem dX12_isLink_2 : decode cX12_isLink 2 = .ok (.iload_n 2, 1) := by decide +kernel
theorem dX12_isLink_3 : decode cX12_isLink 3 = .ok (.invokevirtual 199, 3) := by decide +kernel
theorem dX12_isLink_6 : decode cX12_isLink 6 = .ok (.iconst (-1), 1) := by decide +kernel
theorem dX12_isLink_7 : decode cX12_isLink 7 = .ok (.if_icmp .eq 18, 3) := by decide +kernel
theorem dX12_isLink_10 : decode cX12_isLink 10 = .ok (.aload_n 0, 1) := by decide +kernel
theorem dX12_isLink_11 : decode cX12_isLink 11 = .ok (.getfield 92, 3) := by decide +kernel
theorem dX12_isLink_14 : decode cX12_isLink 14 = .ok (.iload_n 1, 1) := by decide +kernel
theorem dX12_isLink_15 : decode cX12_isLink 15 = .ok (.aaload, 1) := by decide +kernel
theorem dX12_isLink_16 : decode cX12_isLink 16 = .ok (.iload_n 2, 1) := by decide +kernel
theorem dX12_isLink_17 : decode cX12_isLink 17 = .ok (.baload, 1) := by decide +kernel
theorem dX12_isLink_18 : decode cX12_isLink 18 = .ok (.ifCond .ne 7, 3) := by decide +kernel
theorem dX12_isLink_21 : decode cX12_isLink 21 = .ok (.iconst 1, 1) := by decide +kernel
theorem dX12_isLink_22 : decode cX12_isLink 22 = .ok (.goto 4, 3) := by decide +kernel
theorem dX12_isLink_25 : decode cX12_isLink 25 = .ok (.iconst 0, 1) := by decide +kernel
theorem dX12_isLink_26 : decode cX12_isLink 26 = .ok (.ireturn, 1) := by decide +kernel
theorem dX12_leadsTo_0 : decode cX12_leadsTo 0 = .ok (.aload_n 0, 1) := by decide +kernel
theorem dX12_leadsTo_1 : decode cX12_leadsTo 1 = .ok (.iload_n 1, 1) := by decide +kernel
theorem dX12_leadsTo_2 : decode cX12_leadsTo 2 = .ok (.iload_n 2, 1) := by decide +kernel
theorem dX12_leadsTo_3 : decode cX12_leadsTo 3 = .ok (.invokevirtual 199, 3) := by decide +kernel
theorem dX12_leadsTo_6 : decode cX12_leadsTo 6 = .ok (.istore 4, 2) := by decide +kernel
theorem dX12_leadsTo_8 : decode cX12_leadsTo 8 = .ok (.iconst 0, 1) := by decide +kernel
theorem dX12_leadsTo_9 : decode cX12_leadsTo 9 = .ok (.istore 5, 2) := by decide +kernel
theorem dX12_leadsTo_11 : decode cX12_leadsTo 11 = .ok (.iconst 0, 1) := by decide +kernel
theorem dX12_leadsTo_12 : decode cX12_leadsTo 12 = .ok (.istore 6, 2) := by decide +kernel
theorem dX12_leadsTo_14 : decode cX12_leadsTo 14 = .ok (.iload 6, 2) := by decide +kernel
theorem dX12_leadsTo_16 : decode cX12_leadsTo 16 = .ok (.aload_n 0, 1) := by decide +kernel
theorem dX12_leadsTo_17 : decode cX12_leadsTo 17 = .ok (.invokevirtual 144, 3) := by decide +kernel
theorem dX12_leadsTo_20 : decode cX12_leadsTo 20 = .ok (.if_icmp .ge 42, 3) := by decide +kernel
theorem dX12_leadsTo_23 : decode cX12_leadsTo 23 = .ok (.iload 5, 2) := by decide +kernel
theorem dX12_leadsTo_25 : decode cX12_leadsTo 25 = .ok (.aload_n 0, 1) := by decide +kernel
theorem dX12_leadsTo_26 : decode cX12_leadsTo 26 = .ok (.iload_n 1, 1) := by decide +kernel
theorem dX12_leadsTo_27 : decode cX12_leadsTo 27 = .ok (.iload 6, 2) := by decide +kernel
theorem dX12_leadsTo_29 : decode cX12_leadsTo 29 = .ok (.iload_n 2, 1) := by decide +kernel
theorem dX12_leadsTo_30 : decode cX12_leadsTo 30 = .ok (.invokevirtual 295, 3) := by decide +kernel
theorem dX12_leadsTo_33 : decode cX12_leadsTo 33 = .ok (.ifCond .eq 19, 3) := by decide +kernel
theorem dX12_leadsTo_36 : decode cX12_leadsTo 36 = .ok (.aload_n 0, 1) := by decide +kernel
theorem dX12_leadsTo_37 : decode cX12_leadsTo 37 = .ok (.iload 4, 2) := by decide +kernel
theorem dX12_leadsTo_39 : decode cX12_leadsTo 39 = .ok (.iload 6, 2) := by decide +kernel
theorem dX12_leadsTo_41 : decode cX12_leadsTo 41 = .ok (.iload_n 3, 1) := by decide +kernel
theorem dX12_leadsTo_42 : decode cX12_leadsTo 42 = .ok (.invokevirtual 295, 3) := by decide +kernel
theorem dX12_leadsTo_45 : decode cX12_leadsTo 45 = .ok (.ifCond .eq 7, 3) := by decide +kernel
theorem dX12_leadsTo_48 : decode cX12_leadsTo 48 = .ok (.iconst 1, 1) := by decide +kernel
theorem dX12_leadsTo_49 : decode cX12_leadsTo 49 = .ok (.goto 4, 3) := by decide +kernel
theorem dX12_leadsTo_52 : decode cX12_leadsTo 52 = .ok (.iconst 0, 1) := by decide +kernel
theorem dX12_leadsTo_53 : decode cX12_leadsTo 53 = .ok (.ior, 1) := by decide +kernel
theorem dX12_leadsTo_54 : decode cX12_leadsTo 54 = .ok (.istore 5, 2) := by decide +kernel
theorem dX12_leadsTo_56 : decode cX12_leadsTo 56 = .ok (.iinc 6 1, 3) := by decide +kernel
theorem dX12_leadsTo_59 : decode cX12_leadsTo 59 = .ok (.goto (-45), 3) := by decide +kernel
theorem dX12_leadsTo_62 : decode cX12_leadsTo 62 = .ok (.iload 5, 2) := by decide +kernel
theorem dX12_leadsTo_64 : decode cX12_leadsTo 64 = .ok (.ireturn, 1) := by decide +kernel
theorem dX12_leads_0 : decode cX12_leads 0 = .ok (.aload_n 0, 1) := by decide +kernel
theorem dX12_leads_1 : decode cX12_leads 1 = .ok (.iconst 0, 1) := by decide +kernel
theorem dX12_leads_2 : decode cX12_leads 2 = .ok (.putfield 141, 3) := by decide +kernel
theorem dX12_leads_5 : decode cX12_leads 5 = .ok (.iconst 0, 1) := by decide +kernel
theorem dX12_leads_6 : decode cX12_leads 6 = .ok (.istore_n 1, 1) := by decide +kernel
theorem dX12_leads_7 : decode cX12_leads 7 = .ok (.iconst 0, 1) := by decide +kernel
theorem dX12_leads_8 : decode cX12_leads 8 = .ok (.istore_n 2, 1) := by decide +kernel
theorem dX12_leads_9 : decode cX12_leads 9 = .ok (.iload_n 2, 1) := by decide +kernel
theorem dX12_leads_10 : decode cX12_leads 10 = .ok (.aload_n 0, 1) := by decide +kernel
theorem dX12_leads_11 : decode cX12_leads 11 = .ok (.invokevirtual 144, 3) := by decide +kernel
theorem dX12_leads_14 : decode cX12_leads 14 = .ok (.if_icmp .ge 80, 3) := by decide +kernel
theorem dX12_leads_17 : decode cX12_leads 17 = .ok (.iconst 0, 1) := by decide +kernel
theorem dX12_leads_18 : decode cX12_leads 18 = .ok (.istore_n 3, 1) := by decide +kernel
theorem dX12_leads_19 : decode cX12_leads 19 = .ok (.iload_n 3, 1) := by decide +kernel
theorem dX12_leads_20 : decode cX12_leads 20 = .ok (.iconst 4, 1) := by decide +kernel
theorem dX12_leads_21 : decode cX12_leads 21 = .ok (.if_icmp .ge 67, 3) := by decide +kernel
theorem dX12_leads_24 : decode cX12_leads 24 = .ok (.iconst 0, 1) := by decide +kernel
theorem dX12_leads_25 : decode cX12_leads 25 = .ok (.istore 4, 2) := by decide +kernel
theorem dX12_leads_27 : decode cX12_leads 27 = .ok (.iload 4, 2) := by decide +kernel
theorem dX12_leads_29 : decode cX12_leads 29 = .ok (.iconst 4, 1) := by decide +kernel
theorem dX12_leads_30 : decode cX12_leads 30 = .ok (.if_icmp .ge 52, 3) := by decide +kernel
theorem dX12_leads_33 : decode cX12_leads 33 = .ok (.aload_n 0, 1) := by decide +kernel
theorem dX12_leads_34 : decode cX12_leads 34 = .ok (.iload_n 2, 1) := by decide +kernel
theorem dX12_leads_35 : decode cX12_leads 35 = .ok (.iload_n 3, 1) := by decide +kernel
theorem dX12_leads_36 : decode cX12_leads 36 = .ok (.invokevirtual 298, 3) := by decide +kernel
theorem dX12_leads_39 : decode cX12_leads 39 = .ok (.ifCond .eq 43, 3) := by decide +kernel
theorem dX12_leads_42 : decode cX12_leads 42 = .ok (.iload_n 1, 1) := by decide +kernel
theorem dX12_leads_43 : decode cX12_leads 43 = .ok (.aload_n 0, 1) := by decide +kernel
theorem dX12_leads_44 : decode cX12_leads 44 = .ok (.aload_n 0, 1) := by decide +kernel
theorem dX12_leads_45 : decode cX12_leads 45 = .ok (.iload_n 2, 1) := by decide +kernel
theorem dX12_leads_46 : decode cX12_leads 46 = .ok (.iload_n 3, 1) := by decide +kernel
theorem dX12_leads_47 : decode cX12_leads 47 = .ok (.invokevirtual 199, 3) := by decide +kernel
theorem dX12_leads_50 : decode cX12_leads 50 = .ok (.iload 4, 2) := by decide +kernel
theorem dX12_leads_52 : decode cX12_leads 52 = .ok (.invokevirtual 298, 3) := by decide +kernel
theorem dX12_leads_55 : decode cX12_leads 55 = .ok (.ifCond .eq 18, 3) := by decide +kernel
theorem dX12_leads_58 : decode cX12_leads 58 = .ok (.aload_n 0, 1) := by decide +kernel
theorem dX12_leads_59 : decode cX12_leads 59 = .ok (.iload_n 2, 1) := by decide +kernel
theorem dX12_leads_60 : decode cX12_leads 60 = .ok (.iload_n 3, 1) := by decide +kernel
theorem dX12_leads_61 : decode cX12_leads 61 = .ok (.iload 4, 2) := by decide +kernel
theorem dX12_leads_63 : decode cX12_leads 63 = .ok (.invokevirtual 301, 3) := by decide +kernel
theorem dX12_leads_66 : decode cX12_leads 66 = .ok (.ifCond .eq 7, 3) := by decide +kernel
theorem dX12_leads_69 : decode cX12_leads 69 = .ok (.iconst 1, 1) := by decide +kernel
theorem dX12_leads_70 : decode cX12_leads 70 = .ok (.goto 4, 3) := by decide +kernel
theorem dX12_leads_73 : decode cX12_leads 73 = .ok (.iconst 0, 1) := by decide +kernel
theorem dX12_leads_74 : decode cX12_leads 74 = .ok (.iadd, 1) := by decide +kernel
theorem dX12_leads_75 : decode cX12_leads 75 = .ok (.istore_n 1, 1) := by decide +kernel
theorem dX12_leads_76 : decode cX12_leads 76 = .ok (.iinc 4 1, 3) := by decide +kernel
theorem dX12_leads_79 : decode cX12_leads 79 = .ok (.goto (-52), 3) := by decide +kernel
theorem dX12_leads_82 : decode cX12_leads 82 = .ok (.iinc 3 1, 3) := by decide +kernel
theorem dX12_leads_85 : decode cX12_leads 85 = .ok (.goto (-66), 3) := by decide +kernel
theorem dX12_leads_88 : decode cX12_leads 88 = .ok (.iinc 2 1, 3) := by decide +kernel
theorem dX12_leads_91 : decode cX12_leads 91 = .ok (.goto (-82), 3) := by decide +kernel
theorem dX12_leads_94 : decode cX12_leads 94 = .ok (.iload_n 1, 1) := by decide +kernel
theorem dX12_leads_95 : decode cX12_leads 95 = .ok (.ireturn, 1) := by decide +kernel
theorem dX12_direction_0 : decode cX12_direction 0 = .ok (.aload_n 0, 1) := by decide +kernel
theorem dX12_direction_1 : decode cX12_direction 1 = .ok (.aload_n 0, 1) := by decide +kernel
theorem dX12_direction_2 : decode cX12_direction 2 = .ok (.iload_n 1, 1) := by decide +kernel
theorem dX12_direction_3 : decode cX12_direction 3 = .ok (.invokevirtual 165, 3) := by decide +kernel
theorem dX12_direction_6 : decode cX12_direction 6 = .ok (.ifCond .ne 11, 3) := by decide +kernel
theorem dX12_direction_9 : decode cX12_direction 9 = .ok (.aload_n 0, 1) := by decide +kernel
theorem dX12_direction_10 : decode cX12_direction 10 = .ok (.iload_n 2, 1) := by decide +kernel
theorem dX12_direction_11 : decode cX12_direction 11 = .ok (.invokevirtual 165, 3) := by decide +kernel
theorem dX12_direction_14 : decode cX12_direction 14 = .ok (.ifCond .eq 7, 3) := by decide +kernel
theorem dX12_direction_17 : decode cX12_direction 17 = .ok (.iconst 1, 1) := by decide +kernel
theorem dX12_direction_18 : decode cX12_direction 18 = .ok (.goto 4, 3) := by decide +kernel
theorem dX12_direction_21 : decode cX12_direction 21 = .ok (.iconst 0, 1) := by decide +kernel
theorem dX12_direction_22 : decode cX12_direction 22 = .ok (.iconst 1, 1) := by decide +kernel
theorem dX12_direction_23 : decode cX12_direction 23 = .ok (.invokevirtual 155, 3) := by decide +kernel
theorem dX12_direction_26 : decode cX12_direction 26 = .ok (.ifCond .eq 8, 3) := by decide +kernel
theorem dX12_direction_29 : decode cX12_direction 29 = .ok (.bipush 32, 2) := by decide +kernel
theorem dX12_direction_31 : decode cX12_direction 31 = .ok (.goto 16, 3) := by decide +kernel
theorem dX12_direction_34 : decode cX12_direction 34 = .ok (.ldc_w 289, 3) := by decide +kernel
theorem dX12_direction_37 : decode cX12_direction 37 = .ok (.aload_n 0, 1) := by decide +kernel
theorem dX12_direction_38 : decode cX12_direction 38 = .ok (.iload_n 1, 1) := by decide +kernel
theorem dX12_direction_39 : decode cX12_direction 39 = .ok (.iload_n 2, 1) := by decide +kernel
theorem dX12_direction_40 : decode cX12_direction 40 = .ok (.iconst 0, 1) := by decide +kernel
theorem dX12_direction_41 : decode cX12_direction 41 = .ok (.invokevirtual 225, 3) := by decide +kernel
theorem dX12_direction_44 : decode cX12_direction 44 = .ok (.invokevirtual 304, 3) := by decide +kernel
theorem dX12_direction_47 : decode cX12_direction 47 = .ok (.ireturn, 1) := by decide +kernel
theorem dX12_task_0 : decode cX12_task 0 = .ok (.aload_n 0, 1) := by decide +kernel
theorem dX12_task_1 : decode cX12_task 1 = .ok (.aload_n 0, 1) := by decide +kernel
theorem dX12_task_2 : decode cX12_task 2 = .ok (.iload_n 1, 1) := by decide +kernel
theorem dX12_task_3 : decode cX12_task 3 = .ok (.invokevirtual 165, 3) := by decide +kernel
theorem dX12_task_6 : decode cX12_task 6 = .ok (.iconst 1, 1) := by decide +kernel
theorem dX12_task_7 : decode cX12_task 7 = .ok (.invokevirtual 155, 3) := by decide +kernel
theorem dX12_task_10 : decode cX12_task 10 = .ok (.ifCond .ne 25, 3) := by decide +kernel
theorem dX12_task_13 : decode cX12_task 13 = .ok (.aload_n 0, 1) := by decide +kernel
theorem dX12_task_14 : decode cX12_task 14 = .ok (.aload_n 0, 1) := by decide +kernel
theorem dX12_task_15 : decode cX12_task 15 = .ok (.getfield 159, 3) := by decide +kernel
theorem dX12_task_18 : decode cX12_task 18 = .ok (.bipush 8, 2) := by decide +kernel
theorem dX12_task_20 : decode cX12_task 20 = .ok (.if_icmp .ne 7, 3) := by decide +kernel
theorem dX12_task_23 : decode cX12_task 23 = .ok (.iconst 1, 1) := by decide +kernel
theorem dX12_task_24 : decode cX12_task 24 = .ok (.goto 4, 3) := by decide +kernel
theorem dX12_task_27 : decode cX12_task 27 = .ok (.iconst 0, 1) := by decide +kernel
theorem dX12_task_28 : decode cX12_task 28 = .ok (.iconst 2, 1) := by decide +kernel
theorem dX12_task_29 : decode cX12_task 29 = .ok (.invokevirtual 155, 3) := by decide +kernel
theorem dX12_task_32 : decode cX12_task 32 = .ok (.ifCond .eq 5, 3) := by decide +kernel
theorem dX12_task_35 : decode cX12_task 35 = .ok (.iconst 0, 1) := by decide +kernel
theorem dX12_task_36 : decode cX12_task 36 = .ok (.ireturn, 1) := by decide +kernel
theorem dX12_task_37 : decode cX12_task 37 = .ok (.aload_n 0, 1) := by decide +kernel
theorem dX12_task_38 : decode cX12_task 38 = .ok (.getfield 132, 3) := by decide +kernel
theorem dX12_task_41 : decode cX12_task 41 = .ok (.aload_n 0, 1) := by decide +kernel
theorem dX12_task_42 : decode cX12_task 42 = .ok (.getfield 159, 3) := by decide +kernel
theorem dX12_task_45 : decode cX12_task 45 = .ok (.iload_n 1, 1) := by decide +kernel
theorem dX12_task_46 : decode cX12_task 46 = .ok (.iastore, 1) := by decide +kernel
theorem dX12_task_47 : decode cX12_task 47 = .ok (.aload_n 0, 1) := by decide +kernel
theorem dX12_task_48 : decode cX12_task 48 = .ok (.dup, 1) := by decide +kernel
theorem dX12_task_49 : decode cX12_task 49 = .ok (.getfield 159, 3) := by decide +kernel
theorem dX12_task_52 : decode cX12_task 52 = .ok (.iconst 1, 1) := by decide +kernel
theorem dX12_task_53 : decode cX12_task 53 = .ok (.iadd, 1) := by decide +kernel
theorem dX12_task_54 : decode cX12_task 54 = .ok (.putfield 159, 3) := by decide +kernel
theorem dX12_task_57 : decode cX12_task 57 = .ok (.aload_n 0, 1) := by decide +kernel
theorem dX12_task_58 : decode cX12_task 58 = .ok (.getfield 159, 3) := by decide +kernel
theorem dX12_task_61 : decode cX12_task 61 = .ok (.iconst 1, 1) := by decide +kernel
theorem dX12_task_62 : decode cX12_task 62 = .ok (.isub, 1) := by decide +kernel
theorem dX12_task_63 : decode cX12_task 63 = .ok (.ireturn, 1) := by decide +kernel
theorem dX12_isNoTask_0 : decode cX12_isNoTask 0 = .ok (.iload_n 1, 1) := by decide +kernel
theorem dX12_isNoTask_1 : decode cX12_isNoTask 1 = .ok (.iconst 0, 1) := by decide +kernel
theorem dX12_isNoTask_2 : decode cX12_isNoTask 2 = .ok (.aload_n 0, 1) := by decide +kernel
theorem dX12_isNoTask_3 : decode cX12_isNoTask 3 = .ok (.getfield 159, 3) := by decide +kernel
theorem dX12_isNoTask_6 : decode cX12_isNoTask 6 = .ok (.iconst 1, 1) := by decide +kernel
theorem dX12_isNoTask_7 : decode cX12_isNoTask 7 = .ok (.isub, 1) := by decide +kernel
theorem dX12_isNoTask_8 : decode cX12_isNoTask 8 = .ok (.invokestatic 148, 3) := by decide +kernel
theorem dX12_isNoTask_11 : decode cX12_isNoTask 11 = .ok (.ifCond .ne 7, 3) := by decide +kernel
theorem dX12_isNoTask_14 : decode cX12_isNoTask 14 = .ok (.iconst 1, 1) := by decide +kernel
theorem dX12_isNoTask_15 : decode cX12_isNoTask 15 = .ok (.goto 4, 3) := by decide +kernel
theorem dX12_isNoTask_18 : decode cX12_isNoTask 18 = .ok (.iconst 0, 1) := by decide +kernel
theorem dX12_isNoTask_19 : decode cX12_isNoTask 19 = .ok (.ireturn, 1) := by decide +kernel
theorem dX12_traffic_0 : decode cX12_traffic 0 = .ok (.aload_n 0, 1) := by decide +kernel
theorem dX12_traffic_1 : decode cX12_traffic 1 = .ok (.aload_n 0, 1) := by decide +kernel
theorem dX12_traffic_2 : decode cX12_traffic 2 = .ok (.iload_n 1, 1) := by decide +kernel
theorem dX12_traffic_3 : decode cX12_traffic 3 = .ok (.invokevirtual 308, 3) := by decide +kernel
theorem dX12_traffic_6 : decode cX12_traffic 6 = .ok (.ifCond .ne 11, 3) := by decide +kernel
theorem dX12_traffic_9 : decode cX12_traffic 9 = .ok (.aload_n 0, 1) := by decide +kernel
theorem dX12_traffic_10 : decode cX12_traffic 10 = .ok (.iload_n 2, 1) := by decide +kernel
theorem dX12_traffic_11 : decode cX12_traffic 11 = .ok (.invokevirtual 308, 3) := by decide +kernel
theorem dX12_traffic_14 : decode cX12_traffic 14 = .ok (.ifCond .eq 7, 3) := by decide +kernel
theorem dX12_traffic_17 : decode cX12_traffic 17 = .ok (.iconst 1, 1) := by decide +kernel
theorem dX12_traffic_18 : decode cX12_traffic 18 = .ok (.goto 4, 3) := by decide +kernel
theorem dX12_traffic_21 : decode cX12_traffic 21 = .ok (.iconst 0, 1) := by decide +kernel
theorem dX12_traffic_22 : decode cX12_traffic 22 = .ok (.iconst 1, 1) := by decide +kernel
theorem dX12_traffic_23 : decode cX12_traffic 23 = .ok (.invokevirtual 155, 3) := by decide +kernel
theorem dX12_traffic_26 : decode cX12_traffic 26 = .ok (.ifCond .ne 31, 3) := by decide +kernel
theorem dX12_traffic_29 : decode cX12_traffic 29 = .ok (.aload_n 0, 1) := by decide +kernel
theorem dX12_traffic_30 : decode cX12_traffic 30 = .ok (.iload_n 1, 1) := by decide +kernel
theorem dX12_traffic_31 : decode cX12_traffic 31 = .ok (.iload_n 2, 1) := by decide +kernel
theorem dX12_traffic_32 : decode cX12_traffic 32 = .ok (.if_icmp .eq 13, 3) := by decide +kernel
theorem dX12_traffic_35 : decode cX12_traffic 35 = .ok (.iload_n 3, 1) := by decide +kernel
theorem dX12_traffic_36 : decode cX12_traffic 36 = .ok (.iconst 0, 1) := by decide +kernel
theorem dX12_traffic_37 : decode cX12_traffic 37 = .ok (.bipush 99, 2) := by decide +kernel
theorem dX12_traffic_39 : decode cX12_traffic 39 = .ok (.invokestatic 148, 3) := by decide +kernel
theorem dX12_traffic_42 : decode cX12_traffic 42 = .ok (.ifCond .ne 7, 3) := by decide +kernel
theorem dX12_traffic_45 : decode cX12_traffic 45 = .ok (.iconst 1, 1) := by decide +kernel
theorem dX12_traffic_46 : decode cX12_traffic 46 = .ok (.goto 4, 3) := by decide +kernel
theorem dX12_traffic_49 : decode cX12_traffic 49 = .ok (.iconst 0, 1) := by decide +kernel
theorem dX12_traffic_50 : decode cX12_traffic 50 = .ok (.iconst 2, 1) := by decide +kernel
theorem dX12_traffic_51 : decode cX12_traffic 51 = .ok (.invokevirtual 155, 3) := by decide +kernel
theorem dX12_traffic_54 : decode cX12_traffic 54 = .ok (.ifCond .eq 5, 3) := by decide +kernel
theorem dX12_traffic_57 : decode cX12_traffic 57 = .ok (.iconst 0, 1) := by decide +kernel
theorem dX12_traffic_58 : decode cX12_traffic 58 = .ok (.ireturn, 1) := by decide +kernel
theorem dX12_traffic_59 : decode cX12_traffic 59 = .ok (.aload_n 0, 1) := by decide +kernel
theorem dX12_traffic_60 : decode cX12_traffic 60 = .ok (.getfield 135, 3) := by decide +kernel
theorem dX12_traffic_63 : decode cX12_traffic 63 = .ok (.iload_n 1, 1) := by decide +kernel
theorem dX12_traffic_64 : decode cX12_traffic 64 = .ok (.aaload, 1) := by decide +kernel
theorem dX12_traffic_65 : decode cX12_traffic 65 = .ok (.iload_n 2, 1) := by decide +kernel
theorem dX12_traffic_66 : decode cX12_traffic 66 = .ok (.iaload, 1) := by decide +kernel
theorem dX12_traffic_67 : decode cX12_traffic 67 = .ok (.istore 4, 2) := by decide +kernel
theorem dX12_traffic_69 : decode cX12_traffic 69 = .ok (.aload_n 0, 1) := by decide +kernel
theorem dX12_traffic_70 : decode cX12_traffic 70 = .ok (.getfield 135, 3) := by decide +kernel
theorem dX12_traffic_73 : decode cX12_traffic 73 = .ok (.iload_n 1, 1) := by decide +kernel
theorem dX12_traffic_74 : decode cX12_traffic 74 = .ok (.aaload, 1) := by decide +kernel
theorem dX12_traffic_75 : decode cX12_traffic 75 = .ok (.iload_n 2, 1) := by decide +kernel
theorem dX12_traffic_76 : decode cX12_traffic 76 = .ok (.iload_n 3, 1) := by decide +kernel
theorem dX12_traffic_77 : decode cX12_traffic 77 = .ok (.iastore, 1) := by decide +kernel
theorem dX12_traffic_78 : decode cX12_traffic 78 = .ok (.aload_n 0, 1) := by decide +kernel
theorem dX12_traffic_79 : decode cX12_traffic 79 = .ok (.getfield 135, 3) := by decide +kernel
theorem dX12_traffic_82 : decode cX12_traffic 82 = .ok (.iload_n 2, 1) := by decide +kernel
theorem dX12_traffic_83 : decode cX12_traffic 83 = .ok (.aaload, 1) := by decide +kernel
theorem dX12_traffic_84 : decode cX12_traffic 84 = .ok (.iload_n 1, 1) := by decide +kernel
theorem dX12_traffic_85 : decode cX12_traffic 85 = .ok (.iload_n 3, 1) := by decide +kernel
theorem dX12_traffic_86 : decode cX12_traffic 86 = .ok (.iastore, 1) := by decide +kernel
theorem dX12_traffic_87 : decode cX12_traffic 87 = .ok (.iload 4, 2) := by decide +kernel
theorem dX12_traffic_89 : decode cX12_traffic 89 = .ok (.ireturn, 1) := by decide +kernel
theorem dX12_stepsOf_0 : decode cX12_stepsOf 0 = .ok (.iload_n 1, 1) := by decide +kernel
theorem dX12_stepsOf_1 : decode cX12_stepsOf 1 = .ok (.aload_n 0, 1) := by decide +kernel
theorem dX12_stepsOf_2 : decode cX12_stepsOf 2 = .ok (.getfield 7, 3) := by decide +kernel
theorem dX12_stepsOf_5 : decode cX12_stepsOf 5 = .ok (.irem, 1) := by decide +kernel
theorem dX12_stepsOf_6 : decode cX12_stepsOf 6 = .ok (.iload_n 2, 1) := by decide +kernel
theorem dX12_stepsOf_7 : decode cX12_stepsOf 7 = .ok (.aload_n 0, 1) := by decide +kernel
theorem dX12_stepsOf_8 : decode cX12_stepsOf 8 = .ok (.getfield 7, 3) := by decide +kernel
theorem dX12_stepsOf_11 : decode cX12_stepsOf 11 = .ok (.irem, 1) := by decide +kernel
theorem dX12_stepsOf_12 : decode cX12_stepsOf 12 = .ok (.isub, 1) := by decide +kernel
theorem dX12_stepsOf_13 : decode cX12_stepsOf 13 = .ok (.invokestatic 311, 3) := by decide +kernel
theorem dX12_stepsOf_16 : decode cX12_stepsOf 16 = .ok (.iload_n 1, 1) := by decide +kernel
theorem dX12_stepsOf_17 : decode cX12_stepsOf 17 = .ok (.aload_n 0, 1) := by decide +kernel
theorem dX12_stepsOf_18 : decode cX12_stepsOf 18 = .ok (.getfield 7, 3) := by decide +kernel
theorem dX12_stepsOf_21 : decode cX12_stepsOf 21 = .ok (.idiv, 1) := by decide +kernel
theorem dX12_stepsOf_22 : decode cX12_stepsOf 22 = .ok (.iload_n 2, 1) := by decide +kernel
theorem dX12_stepsOf_23 : decode cX12_stepsOf 23 = .ok (.aload_n 0, 1) := by decide +kernel
theorem dX12_stepsOf_24 : decode cX12_stepsOf 24 = .ok (.getfield 7, 3) := by decide +kernel
theorem dX12_stepsOf_27 : decode cX12_stepsOf 27 = .ok (.idiv, 1) := by decide +kernel
theorem dX12_stepsOf_28 : decode cX12_stepsOf 28 = .ok (.isub, 1) := by decide +kernel
theorem dX12_stepsOf_29 : decode cX12_stepsOf 29 = .ok (.invokestatic 311, 3) := by decide +kernel
theorem dX12_stepsOf_32 : decode cX12_stepsOf 32 = .ok (.iadd, 1) := by decide +kernel
theorem dX12_stepsOf_33 : decode cX12_stepsOf 33 = .ok (.ireturn, 1) := by decide +kernel
theorem dX12_costNow_0 : decode cX12_costNow 0 = .ok (.iconst 0, 1) := by decide +kernel
theorem dX12_costNow_1 : decode cX12_costNow 1 = .ok (.istore_n 1, 1) := by decide +kernel
theorem dX12_costNow_2 : decode cX12_costNow 2 = .ok (.iconst 0, 1) := by decide +kernel
theorem dX12_costNow_3 : decode cX12_costNow 3 = .ok (.istore_n 2, 1) := by decide +kernel
theorem dX12_costNow_4 : decode cX12_costNow 4 = .ok (.iload_n 2, 1) := by decide +kernel
theorem dX12_costNow_5 : decode cX12_costNow 5 = .ok (.aload_n 0, 1) := by decide +kernel
theorem dX12_costNow_6 : decode cX12_costNow 6 = .ok (.getfield 159, 3) := by decide +kernel
theorem dX12_costNow_9 : decode cX12_costNow 9 = .ok (.if_icmp .ge 50, 3) := by decide +kernel
theorem dX12_costNow_12 : decode cX12_costNow 12 = .ok (.iconst 0, 1) := by decide +kernel
theorem dX12_costNow_13 : decode cX12_costNow 13 = .ok (.istore_n 3, 1) := by decide +kernel
theorem dX12_costNow_14 : decode cX12_costNow 14 = .ok (.iload_n 3, 1) := by decide +kernel
theorem dX12_costNow_15 : decode cX12_costNow 15 = .ok (.iload_n 2, 1) := by decide +kernel
theorem dX12_costNow_16 : decode cX12_costNow 16 = .ok (.if_icmp .ge 37, 3) := by decide +kernel
theorem dX12_costNow_19 : decode cX12_costNow 19 = .ok (.iload_n 1, 1) := by decide +kernel
theorem dX12_costNow_20 : decode cX12_costNow 20 = .ok (.aload_n 0, 1) := by decide +kernel
theorem dX12_costNow_21 : decode cX12_costNow 21 = .ok (.getfield 135, 3) := by decide +kernel
theorem dX12_costNow_24 : decode cX12_costNow 24 = .ok (.iload_n 2, 1) := by decide +kernel
theorem dX12_costNow_25 : decode cX12_costNow 25 = .ok (.aaload, 1) := by decide +kernel
theorem dX12_costNow_26 : decode cX12_costNow 26 = .ok (.iload_n 3, 1) := by decide +kernel
theorem dX12_costNow_27 : decode cX12_costNow 27 = .ok (.iaload, 1) := by decide +kernel
theorem dX12_costNow_28 : decode cX12_costNow 28 = .ok (.aload_n 0, 1) := by decide +kernel
theorem dX12_costNow_29 : decode cX12_costNow 29 = .ok (.aload_n 0, 1) := by decide +kernel
theorem dX12_costNow_30 : decode cX12_costNow 30 = .ok (.getfield 132, 3) := by decide +kernel
theorem dX12_costNow_33 : decode cX12_costNow 33 = .ok (.iload_n 2, 1) := by decide +kernel
theorem dX12_costNow_34 : decode cX12_costNow 34 = .ok (.iaload, 1) := by decide +kernel
theorem dX12_costNow_35 : decode cX12_costNow 35 = .ok (.aload_n 0, 1) := by decide +kernel
theorem dX12_costNow_36 : decode cX12_costNow 36 = .ok (.getfield 132, 3) := by decide +kernel
theorem dX12_costNow_39 : decode cX12_costNow 39 = .ok (.iload_n 3, 1) := by decide +kernel
theorem dX12_costNow_40 : decode cX12_costNow 40 = .ok (.iaload, 1) := by decide +kernel
theorem dX12_costNow_41 : decode cX12_costNow 41 = .ok (.invokevirtual 316, 3) := by decide +kernel
theorem dX12_costNow_44 : decode cX12_costNow 44 = .ok (.imul, 1) := by decide +kernel
theorem dX12_costNow_45 : decode cX12_costNow 45 = .ok (.iadd, 1) := by decide +kernel
theorem dX12_costNow_46 : decode cX12_costNow 46 = .ok (.istore_n 1, 1) := by decide +kernel
theorem dX12_costNow_47 : decode cX12_costNow 47 = .ok (.iinc 3 1, 3) := by decide +kernel
theorem dX12_costNow_50 : decode cX12_costNow 50 = .ok (.goto (-36), 3) := by decide +kernel
theorem dX12_costNow_53 : decode cX12_costNow 53 = .ok (.iinc 2 1, 3) := by decide +kernel
theorem dX12_costNow_56 : decode cX12_costNow 56 = .ok (.goto (-52), 3) := by decide +kernel
theorem dX12_costNow_59 : decode cX12_costNow 59 = .ok (.iload_n 1, 1) := by decide +kernel
theorem dX12_costNow_60 : decode cX12_costNow 60 = .ok (.ireturn, 1) := by decide +kernel
theorem dX12_cost_0 : decode cX12_cost 0 = .ok (.aload_n 0, 1) := by decide +kernel
theorem dX12_cost_1 : decode cX12_cost 1 = .ok (.iconst 0, 1) := by decide +kernel
theorem dX12_cost_2 : decode cX12_cost 2 = .ok (.putfield 141, 3) := by decide +kernel
theorem dX12_cost_5 : decode cX12_cost 5 = .ok (.aload_n 0, 1) := by decide +kernel
theorem dX12_cost_6 : decode cX12_cost 6 = .ok (.invokevirtual 319, 3) := by decide +kernel
theorem dX12_cost_9 : decode cX12_cost 9 = .ok (.ireturn, 1) := by decide +kernel
theorem dX12_exchange_0 : decode cX12_exchange 0 = .ok (.aload_n 0, 1) := by decide +kernel
theorem dX12_exchange_1 : decode cX12_exchange 1 = .ok (.getfield 132, 3) := by decide +kernel
theorem dX12_exchange_4 : decode cX12_exchange 4 = .ok (.iload_n 1, 1) := by decide +kernel
theorem dX12_exchange_5 : decode cX12_exchange 5 = .ok (.iaload, 1) := by decide +kernel
theorem dX12_exchange_6 : decode cX12_exchange 6 = .ok (.istore_n 3, 1) := by decide +kernel
theorem dX12_exchange_7 : decode cX12_exchange 7 = .ok (.aload_n 0, 1) := by decide +kernel
theorem dX12_exchange_8 : decode cX12_exchange 8 = .ok (.getfield 132, 3) := by decide +kernel
theorem dX12_exchange_11 : decode cX12_exchange 11 = .ok (.iload_n 1, 1) := by decide +kernel
theorem dX12_exchange_12 : decode cX12_exchange 12 = .ok (.aload_n 0, 1) := by decide +kernel
theorem dX12_exchange_13 : decode cX12_exchange 13 = .ok (.getfield 132, 3) := by decide +kernel
theorem dX12_exchange_16 : decode cX12_exchange 16 = .ok (.iload_n 2, 1) := by decide +kernel
theorem dX12_exchange_17 : decode cX12_exchange 17 = .ok (.iaload, 1) := by decide +kernel
theorem dX12_exchange_18 : decode cX12_exchange 18 = .ok (.iastore, 1) := by decide +kernel
theorem dX12_exchange_19 : decode cX12_exchange 19 = .ok (.aload_n 0, 1) := by decide +kernel
theorem dX12_exchange_20 : decode cX12_exchange 20 = .ok (.getfield 132, 3) := by decide +kernel
theorem dX12_exchange_23 : decode cX12_exchange 23 = .ok (.iload_n 2, 1) := by decide +kernel
theorem dX12_exchange_24 : decode cX12_exchange 24 = .ok (.iload_n 3, 1) := by decide +kernel
theorem dX12_exchange_25 : decode cX12_exchange 25 = .ok (.iastore, 1) := by decide +kernel
theorem dX12_exchange_26 : decode cX12_exchange 26 = .ok (.return_, 1) := by decide +kernel
theorem dX12_swap_0 : decode cX12_swap 0 = .ok (.aload_n 0, 1) := by decide +kernel
theorem dX12_swap_1 : decode cX12_swap 1 = .ok (.invokevirtual 319, 3) := by decide +kernel
theorem dX12_swap_4 : decode cX12_swap 4 = .ok (.istore_n 1, 1) := by decide +kernel
theorem dX12_swap_5 : decode cX12_swap 5 = .ok (.iconst 0, 1) := by decide +kernel
theorem dX12_swap_6 : decode cX12_swap 6 = .ok (.istore_n 2, 1) := by decide +kernel
theorem dX12_swap_7 : decode cX12_swap 7 = .ok (.iconst (-1), 1) := by decide +kernel
theorem dX12_swap_8 : decode cX12_swap 8 = .ok (.istore_n 3, 1) := by decide +kernel
theorem dX12_swap_9 : decode cX12_swap 9 = .ok (.iconst (-1), 1) := by decide +kernel
theorem dX12_swap_10 : decode cX12_swap 10 = .ok (.istore 4, 2) := by decide +kernel
theorem dX12_swap_12 : decode cX12_swap 12 = .ok (.iconst 0, 1) := by decide +kernel
theorem dX12_swap_13 : decode cX12_swap 13 = .ok (.istore 5, 2) := by decide +kernel
theorem dX12_swap_15 : decode cX12_swap 15 = .ok (.iload 5, 2) := by decide +kernel
theorem dX12_swap_17 : decode cX12_swap 17 = .ok (.aload_n 0, 1) := by decide +kernel
theorem dX12_swap_18 : decode cX12_swap 18 = .ok (.getfield 159, 3) := by decide +kernel
theorem dX12_swap_21 : decode cX12_swap 21 = .ok (.if_icmp .ge 89, 3) := by decide +kernel
theorem dX12_swap_24 : decode cX12_swap 24 = .ok (.iload 5, 2) := by decide +kernel
theorem dX12_swap_26 : decode cX12_swap 26 = .ok (.iconst 1, 1) := by decide +kernel
theorem dX12_swap_27 : decode cX12_swap 27 = .ok (.iadd, 1) := by decide +kernel
theorem dX12_swap_28 : decode cX12_swap 28 = .ok (.istore 6, 2) := by decide +kernel
theorem dX12_swap_30 : decode cX12_swap 30 = .ok (.iload 6, 2) := by decide +kernel
theorem dX12_swap_32 : decode cX12_swap 32 = .ok (.aload_n 0, 1) := by decide +kernel
theorem dX12_swap_33 : decode cX12_swap 33 = .ok (.getfield 159, 3) := by decide +kernel
theorem dX12_swap_36 : decode cX12_swap 36 = .ok (.if_icmp .ge 68, 3) := by decide +kernel
theorem dX12_swap_39 : decode cX12_swap 39 = .ok (.aload_n 0, 1) := by decide +kernel
theorem dX12_swap_40 : decode cX12_swap 40 = .ok (.iload 5, 2) := by decide +kernel
theorem dX12_swap_42 : decode cX12_swap 42 = .ok (.iload 6, 2) := by decide +kernel
theorem dX12_swap_44 : decode cX12_swap 44 = .ok (.invokevirtual 322, 3) := by decide +kernel
theorem dX12_swap_47 : decode cX12_swap 47 = .ok (.iload_n 1, 1) := by decide +kernel
theorem dX12_swap_48 : decode cX12_swap 48 = .ok (.aload_n 0, 1) := by decide +kernel
theorem dX12_swap_49 : decode cX12_swap 49 = .ok (.invokevirtual 319, 3) := by decide +kernel
theorem dX12_swap_52 : decode cX12_swap 52 = .ok (.isub, 1) := by decide +kernel
theorem dX12_swap_53 : decode cX12_swap 53 = .ok (.istore 7, 2) := by decide +kernel
theorem dX12_swap_55 : decode cX12_swap 55 = .ok (.aload_n 0, 1) := by decide +kernel
theorem dX12_swap_56 : decode cX12_swap 56 = .ok (.iload 5, 2) := by decide +kernel
theorem dX12_swap_58 : decode cX12_swap 58 = .ok (.iload 6, 2) := by decide +kernel
theorem dX12_swap_60 : decode cX12_swap 60 = .ok (.invokevirtual 322, 3) := by decide +kernel
theorem dX12_swap_63 : decode cX12_swap 63 = .ok (.iload 7, 2) := by decide +kernel
theorem dX12_swap_65 : decode cX12_swap 65 = .ok (.iload_n 2, 1) := by decide +kernel
theorem dX12_swap_66 : decode cX12_swap 66 = .ok (.if_icmp .le 8, 3) := by decide +kernel
theorem dX12_swap_69 : decode cX12_swap 69 = .ok (.iload 5, 2) := by decide +kernel
theorem dX12_swap_71 : decode cX12_swap 71 = .ok (.goto 4, 3) := by decide +kernel
theorem dX12_swap_74 : decode cX12_swap 74 = .ok (.iload_n 3, 1) := by decide +kernel
theorem dX12_swap_75 : decode cX12_swap 75 = .ok (.istore_n 3, 1) := by decide +kernel
theorem dX12_swap_76 : decode cX12_swap 76 = .ok (.iload 7, 2) := by decide +kernel
theorem dX12_swap_78 : decode cX12_swap 78 = .ok (.iload_n 2, 1) := by decide +kernel
theorem dX12_swap_79 : decode cX12_swap 79 = .ok (.if_icmp .le 8, 3) := by decide +kernel
theorem dX12_swap_82 : decode cX12_swap 82 = .ok (.iload 6, 2) := by decide +kernel
theorem dX12_swap_84 : decode cX12_swap 84 = .ok (.goto 5, 3) := by decide +kernel
theorem dX12_swap_87 : decode cX12_swap 87 = .ok (.iload 4, 2) := by decide +kernel
theorem dX12_swap_89 : decode cX12_swap 89 = .ok (.istore 4, 2) := by decide +kernel
theorem dX12_swap_91 : decode cX12_swap 91 = .ok (.iload_n 2, 1) := by decide +kernel
theorem dX12_swap_92 : decode cX12_swap 92 = .ok (.iload 7, 2) := by decide +kernel
theorem dX12_swap_94 : decode cX12_swap 94 = .ok (.invokestatic 325, 3) := by decide +kernel
theorem dX12_swap_97 : decode cX12_swap 97 = .ok (.istore_n 2, 1) := by decide +kernel
theorem dX12_swap_98 : decode cX12_swap 98 = .ok (.iinc 6 1, 3) := by decide +kernel
theorem dX12_swap_101 : decode cX12_swap 101 = .ok (.goto (-71), 3) := by decide +kernel
theorem dX12_swap_104 : decode cX12_swap 104 = .ok (.iinc 5 1, 3) := by decide +kernel
theorem dX12_swap_107 : decode cX12_swap 107 = .ok (.goto (-92), 3) := by decide +kernel
theorem dX12_swap_110 : decode cX12_swap 110 = .ok (.aload_n 0, 1) := by decide +kernel
theorem dX12_swap_111 : decode cX12_swap 111 = .ok (.iload_n 2, 1) := by decide +kernel
theorem dX12_swap_112 : decode cX12_swap 112 = .ok (.ifCond .ne 7, 3) := by decide +kernel
theorem dX12_swap_115 : decode cX12_swap 115 = .ok (.iconst 1, 1) := by decide +kernel
theorem dX12_swap_116 : decode cX12_swap 116 = .ok (.goto 4, 3) := by decide +kernel
theorem dX12_swap_119 : decode cX12_swap 119 = .ok (.iconst 0, 1) := by decide +kernel
theorem dX12_swap_120 : decode cX12_swap 120 = .ok (.iconst 1, 1) := by decide +kernel
theorem dX12_swap_121 : decode cX12_swap 121 = .ok (.invokevirtual 155, 3) := by decide +kernel
theorem dX12_swap_124 : decode cX12_swap 124 = .ok (.ifCond .eq 5, 3) := by decide +kernel
theorem dX12_swap_127 : decode cX12_swap 127 = .ok (.iconst 0, 1) := by decide +kernel
theorem dX12_swap_128 : decode cX12_swap 128 = .ok (.ireturn, 1) := by decide +kernel
theorem dX12_swap_129 : decode cX12_swap 129 = .ok (.aload_n 0, 1) := by decide +kernel
theorem dX12_swap_130 : decode cX12_swap 130 = .ok (.iload_n 3, 1) := by decide +kernel
theorem dX12_swap_131 : decode cX12_swap 131 = .ok (.iload 4, 2) := by decide +kernel
theorem dX12_swap_133 : decode cX12_swap 133 = .ok (.invokevirtual 322, 3) := by decide +kernel
theorem dX12_swap_136 : decode cX12_swap 136 = .ok (.iload_n 2, 1) := by decide +kernel
theorem dX12_swap_137 : decode cX12_swap 137 = .ok (.ireturn, 1) := by decide +kernel
def f_M_mayGo_b75 (μ : me_M) (v3 : Int32) : Option Int32 :=
  if v3 = (-1 : Int32) then
  (some (0 : Int32))
  else
  (some (1 : Int32))
set_option maxHeartbeats 4000000 in
set_option maxRecDepth 100000 in
theorem z_M_mayGo_b75 {X : me_X} {B : me_B} {sz : Nat} (C : me_C X B RX12 cX12_mayGo 6 (some .boolean)) {μ : me_M} {v3 : Int32}   {r : Int32} (N : me_En X B sz (B, μ, .ok (some (me_i r))) 3 75 0 0) (hNx : me_Nx X) (hB : me_St B)   (hf : f_M_mayGo_b75 μ v3 = some r) : me_Z X B 0 0 μ 75 [(3, me_i v3)] [] := by
  unfold f_M_mayGo_b75 at hf
  refine me_iload_n C 3 dX12_mayGo_75 rfl rfl ?_
  refine me_iconst C (v := -1) dX12_mayGo_76 (by decide) ?_
  refine me_icmp_eq C (tgt := 84) dX12_mayGo_77 (by decide) (fun c1 => ?_) (fun c1 => ?_)
  · replace hf := me_ip c1 hf
    refine me_iconst C (v := 0) dX12_mayGo_84 (by decide) ?_
    exact me_iret C N dX12_mayGo_85 (by decide +kernel) (by cases hf; rfl) (by decide) (by decide)
  · replace hf := me_in c1 hf
    refine me_iconst C (v := 1) dX12_mayGo_80 (by decide) ?_
    refine me_goto C (tgt := 85) dX12_mayGo_81 (by decide) ?_
    exact me_iret C N dX12_mayGo_85 (by decide +kernel) (by cases hf; rfl) (by decide) (by decide)
def f_M_mayGo (μ : me_M) (v1 : Int32) (v2 : Int32) (v3 : Int32) : Option Int32 :=
  if (μ 36 0 3) = (116 : Int32) then
  (me_bd (f_M_along μ v1 v2 (1 : Int32)) (fun r2 =>
  me_bd (f_M_along μ v1 v2 (0 : Int32)) (fun r3 =>
  if r2 = (1 : Int32) then
  (if v3 = (1 : Int32) then
  (some (1 : Int32))
  else
  (some (0 : Int32)))
  else
  (if v3 = r2 then
  (f_M_mayGo_b75 μ v3)
  else
  (if v3 = r3 then
  (f_M_mayGo_b75 μ v3)
  else
  (some (0 : Int32)))))))
  else
  (me_bd (f_M_sideOf μ v1 v2 (0 : Int32)) (fun r8 =>
  if r8 = v3 then
  (some (1 : Int32))
  else
  (some (0 : Int32))))
set_option maxHeartbeats 4000000 in
set_option maxRecDepth 100000 in
theorem z_M_mayGo {X : me_X} {B : me_B} {sz : Nat} (C : me_C X B RX12 cX12_mayGo 6 (some .boolean)) {μ : me_M} {v1 : Int32} {v2 : Int32} {v3 : Int32}   {r : Int32} (N : me_En X B sz (B, μ, .ok (some (me_i r))) 3 75 0 0) (hNx : me_Nx X) (hB : me_St B)   (hf : f_M_mayGo μ v1 v2 v3 = some r) : me_Z X B 0 0 μ 0 [(0, me_r 36 0), (1, me_i v1), (2, me_i v2), (3, me_i v3)] [] := by
  unfold f_M_mayGo at hf
  refine me_aload_n C 0 (Or.inr (Or.inl ⟨_, rfl⟩)) dX12_mayGo_0 rfl rfl ?_
  refine me_geti C 3 fg_M_19 dX12_mayGo_1 rfl ?_
  refine me_bipush C (v := 116) dX12_mayGo_4 (by decide) ?_
  refine me_icmp_eq C (tgt := 26) dX12_mayGo_6 (by decide) (fun c1 => ?_) (fun c1 => ?_)
  · replace hf := me_ip c1 hf
    refine me_aload_n C 0 (Or.inr (Or.inl ⟨_, rfl⟩)) dX12_mayGo_26 rfl rfl ?_
    refine me_iload_n C 1 dX12_mayGo_27 rfl rfl ?_
    refine me_iload_n C 2 dX12_mayGo_28 rfl rfl ?_
    refine me_iconst C (v := 1) dX12_mayGo_29 (by decide) ?_
    obtain ⟨r2, h_r2, hf⟩ := me_bs hf
    refine me_callV C N  (As := [me_i v1, me_i v2, me_i (1 : Int32)]) (st := []) 0 0 (c_M_along hB h_r2) mv_M_along ml_M_205 rfl rfl dX12_mayGo_30 rfl rfl ⟨by decide, by decide⟩ ⟨by decide, by decide, by decide, by decide⟩ (Nat.le_of_ble_eq_true rfl) ?_
    refine me_istore C dX12_mayGo_33 (by decide) (L' := [(4, me_i r2), (0, me_r 36 0), (1, me_i v1), (2, me_i v2), (3, me_i v3)]) rfl ?_
    refine me_aload_n C 0 (Or.inr (Or.inl ⟨_, rfl⟩)) dX12_mayGo_35 rfl rfl ?_
    refine me_iload_n C 1 dX12_mayGo_36 rfl rfl ?_
    refine me_iload_n C 2 dX12_mayGo_37 rfl rfl ?_
    refine me_iconst C (v := 0) dX12_mayGo_38 (by decide) ?_
    obtain ⟨r3, h_r3, hf⟩ := me_bs hf
    refine me_callV C N  (As := [me_i v1, me_i v2, me_i (0 : Int32)]) (st := []) 0 0 (c_M_along hB h_r3) mv_M_along ml_M_205 rfl rfl dX12_mayGo_39 rfl rfl ⟨by decide, by decide⟩ ⟨by decide, by decide, by decide, by decide⟩ (Nat.le_of_ble_eq_true rfl) ?_
    refine me_istore C dX12_mayGo_42 (by decide) (L' := [(5, me_i r3), (4, me_i r2), (0, me_r 36 0), (1, me_i v1), (2, me_i v2), (3, me_i v3)]) rfl ?_
    refine me_iload C dX12_mayGo_44 rfl ?_
    refine me_iconst C (v := 1) dX12_mayGo_46 (by decide) ?_
    refine me_icmp_ne C (tgt := 63) dX12_mayGo_47 (by decide) (fun c4 => ?_) (fun c4 => ?_)
    · replace hf := me_in c4 hf
      refine me_iload_n C 3 dX12_mayGo_63 rfl rfl ?_
      refine me_iload C dX12_mayGo_64 rfl ?_
      refine me_icmp_eq C (tgt := 75) dX12_mayGo_66 (by decide) (fun c5 => ?_) (fun c5 => ?_)
      · replace hf := me_ip c5 hf
        refine me_dropI [(3, me_i v3)] [5] rfl ?_
        exact z_M_mayGo_b75 C N hNx hB hf
      · replace hf := me_in c5 hf
        refine me_iload_n C 3 dX12_mayGo_69 rfl rfl ?_
        refine me_iload C dX12_mayGo_70 rfl ?_
        refine me_icmp_ne C (tgt := 84) dX12_mayGo_72 (by decide) (fun c6 => ?_) (fun c6 => ?_)
        · replace hf := me_in c6 hf
          refine me_iconst C (v := 0) dX12_mayGo_84 (by decide) ?_
          exact me_iret C N dX12_mayGo_85 (by decide +kernel) (by cases hf; rfl) (by decide) (by decide)
        · replace hf := me_ip c6 hf
          refine me_dropI [(3, me_i v3)] [5] rfl ?_
          exact z_M_mayGo_b75 C N hNx hB hf
    · replace hf := me_ip c4 hf
      refine me_iload_n C 3 dX12_mayGo_50 rfl rfl ?_
      refine me_iconst C (v := 1) dX12_mayGo_51 (by decide) ?_
      refine me_icmp_ne C (tgt := 59) dX12_mayGo_52 (by decide) (fun c7 => ?_) (fun c7 => ?_)
      · replace hf := me_in c7 hf
        refine me_iconst C (v := 0) dX12_mayGo_59 (by decide) ?_
        refine me_goto C (tgt := 85) dX12_mayGo_60 (by decide) ?_
        exact me_iret C N dX12_mayGo_85 (by decide +kernel) (by cases hf; rfl) (by decide) (by decide)
      · replace hf := me_ip c7 hf
        refine me_iconst C (v := 1) dX12_mayGo_55 (by decide) ?_
        refine me_goto C (tgt := 85) dX12_mayGo_56 (by decide) ?_
        exact me_iret C N dX12_mayGo_85 (by decide +kernel) (by cases hf; rfl) (by decide) (by decide)
  · replace hf := me_in c1 hf
    refine me_aload_n C 0 (Or.inr (Or.inl ⟨_, rfl⟩)) dX12_mayGo_9 rfl rfl ?_
    refine me_iload_n C 1 dX12_mayGo_10 rfl rfl ?_
    refine me_iload_n C 2 dX12_mayGo_11 rfl rfl ?_
    refine me_iconst C (v := 0) dX12_mayGo_12 (by decide) ?_
    obtain ⟨r8, h_r8, hf⟩ := me_bs hf
    refine me_callV C N  (As := [me_i v1, me_i v2, me_i (0 : Int32)]) (st := []) 0 0 (c_M_sideOf hB h_r8) mv_M_sideOf ml_M_225 rfl rfl dX12_mayGo_13 rfl rfl ⟨by decide, by decide⟩ ⟨by decide, by decide, by decide, by decide⟩ (Nat.le_of_ble_eq_true rfl) ?_
    refine me_iload_n C 3 dX12_mayGo_16 rfl rfl ?_
    refine me_icmp_ne C (tgt := 24) dX12_mayGo_17 (by decide) (fun c9 => ?_) (fun c9 => ?_)
    · replace hf := me_in c9 hf
      refine me_iconst C (v := 0) dX12_mayGo_24 (by decide) ?_
      exact me_iret C N dX12_mayGo_25 (by decide +kernel) (by cases hf; rfl) (by decide) (by decide)
    · replace hf := me_ip c9 hf
      refine me_iconst C (v := 1) dX12_mayGo_20 (by decide) ?_
      refine me_goto C (tgt := 25) dX12_mayGo_21 (by decide) ?_
      exact me_iret C N dX12_mayGo_25 (by decide +kernel) (by cases hf; rfl) (by decide) (by decide)
theorem c_M_mayGo {B : me_B} (hB : me_St B) {μ : me_M} {v1 : Int32} {v2 : Int32} {v3 : Int32} {r : Int32}  (hf : f_M_mayGo μ v1 v2 v3 = some r) : ∀ l E z, l.stackTraces = false → me_Met l yX12_mayGo cX12_mayGo 6 (some .boolean) 3 75 0 0 E B μ z [me_r 36 0, me_i v1, me_i v2, me_i v3] (B, μ, .ok (some (me_i r))) :=
  fun _ _ _ hl => me_ofZ hl (by decide +kernel) (Nat.le_of_ble_eq_true rfl) (fun _ C N hNx => z_M_mayGo C N hNx hB  hf)

def f_M_isLink (μ : me_M) (v1 : Int32) (v2 : Int32) : Option Int32 :=
  me_bd (f_M_beside μ v1 v2) (fun r1 =>
  if r1 = (-1 : Int32) then
  (some (0 : Int32))
  else
  (me_gd (me_inb v1 16) (
  me_gd (me_inb v2 5) (
  if (μ 74 (me_ix v1) (me_ix v2)) = 0 then
  (some (1 : Int32))
  else
  (some (0 : Int32))))))
set_option maxHeartbeats 4000000 in
set_option maxRecDepth 100000 in
theorem z_M_isLink {X : me_X} {B : me_B} {sz : Nat} (C : me_C X B RX12 cX12_isLink 3 (some .boolean)) {μ : me_M} {v1 : Int32} {v2 : Int32}   {r : Int32} (N : me_En X B sz (B, μ, .ok (some (me_i r))) 1 24 0 0) (hNx : me_Nx X) (hB : me_St B)   (hf : f_M_isLink μ v1 v2 = some r) : me_Z X B 0 0 μ 0 [(0, me_r 36 0), (1, me_i v1), (2, me_i v2)] [] := by
  unfold f_M_isLink at hf
  refine me_aload_n C 0 (Or.inr (Or.inl ⟨_, rfl⟩)) dX12_isLink_0 rfl rfl ?_
  refine me_iload_n C 1 dX12_isLink_1 rfl rfl ?_
  refine me_iload_n C 2 dX12_isLink_2 rfl rfl ?_
  obtain ⟨r1, h_r1, hf⟩ := me_bs hf
  refine me_callV C N  (As := [me_i v1, me_i v2]) (st := []) 0 0 (c_M_beside hB h_r1) mv_M_beside ml_M_199 rfl rfl dX12_isLink_3 rfl rfl ⟨by decide, by decide⟩ ⟨by decide, by decide, by decide, by decide⟩ (Nat.le_of_ble_eq_true rfl) ?_
  refine me_iconst C (v := -1) dX12_isLink_6 (by decide) ?_
  refine me_icmp_eq C (tgt := 25) dX12_isLink_7 (by decide) (fun c2 => ?_) (fun c2 => ?_)
  · replace hf := me_ip c2 hf
    refine me_iconst C (v := 0) dX12_isLink_25 (by decide) ?_
    exact me_iret C N dX12_isLink_26 (by decide +kernel) (by cases hf; rfl) (by decide) (by decide)
  · replace hf := me_in c2 hf
    refine me_aload_n C 0 (Or.inr (Or.inl ⟨_, rfl⟩)) dX12_isLink_10 rfl rfl ?_
    refine me_getr C hB 27 (k' := 73) (i' := 0) fg_M_92 dX12_isLink_11 rfl rfl ?_
    refine me_iload_n C 1 dX12_isLink_14 rfl rfl ?_
    obtain ⟨g3, hf⟩ := me_gs hf
    refine me_aald C hB (k' := 74) (i' := (me_ix v1)) rfl (fun _ => rfl) rfl g3 dX12_isLink_15 rfl ?_
    refine me_iload_n C 2 dX12_isLink_16 rfl rfl ?_
    obtain ⟨g4, hf⟩ := me_gs hf
    refine me_zald C rfl (fun _ => rfl) g4 dX12_isLink_17 ?_
    refine me_if_ne C (tgt := 25) dX12_isLink_18 (by decide) (fun c5 => ?_) (fun c5 => ?_)
    · replace hf := me_in c5 hf
      refine me_iconst C (v := 0) dX12_isLink_25 (by decide) ?_
      exact me_iret C N dX12_isLink_26 (by decide +kernel) (by cases hf; rfl) (by decide) (by decide)
    · replace hf := me_ip c5 hf
      refine me_iconst C (v := 1) dX12_isLink_21 (by decide) ?_
      refine me_goto C (tgt := 26) dX12_isLink_22 (by decide) ?_
      exact me_iret C N dX12_isLink_26 (by decide +kernel) (by cases hf; rfl) (by decide) (by decide)
theorem c_M_isLink {B : me_B} (hB : me_St B) {μ : me_M} {v1 : Int32} {v2 : Int32} {r : Int32}  (hf : f_M_isLink μ v1 v2 = some r) : ∀ l E z, l.stackTraces = false → me_Met l yX12_isLink cX12_isLink 3 (some .boolean) 1 24 0 0 E B μ z [me_r 36 0, me_i v1, me_i v2] (B, μ, .ok (some (me_i r))) :=
  fun _ _ _ hl => me_ofZ hl (by decide +kernel) (Nat.le_of_ble_eq_true rfl) (fun _ C N hNx => z_M_isLink C N hNx hB  hf)

def f_M_leadsTo_b52 (μ : me_M) (K14 : Int32 → Int32 → Int32 → Int32 → Int32 → Int32 → Option Int32) (v1 : Int32) (v2 : Int32) (v3 : Int32) (v4 : Int32) (v6 : Int32) (s0 : Int32) : Option Int32 :=
  me_lt ((s0 ||| (0 : Int32))) (fun x1 =>
  me_lt (me_inc v6 (1)) (fun x2 =>
  K14 v1 v2 v3 v4 x1 x2))
set_option maxHeartbeats 4000000 in
set_option maxRecDepth 100000 in
theorem z_M_leadsTo_b52 {X : me_X} {B : me_B} {sz : Nat} (C : me_C X B RX12 cX12_leadsTo 7 (some .boolean)) {μ : me_M} {v1 : Int32} {v2 : Int32} {v3 : Int32} {v4 : Int32} {v6 : Int32} {s0 : Int32}  {K14 : Int32 → Int32 → Int32 → Int32 → Int32 → Int32 → Option Int32} {r : Int32} (N : me_En X B sz (B, μ, .ok (some (me_i r))) 4 100 0 0) (hNx : me_Nx X) (hB : me_St B) (hK14 : ∀ (v1 : Int32) (v2 : Int32) (v3 : Int32) (v4 : Int32) (v5 : Int32) (v6 : Int32), K14 v1 v2 v3 v4 v5 v6 = some r → me_Z X B 0 0 μ 14 [(0, me_r 36 0), (1, me_i v1), (2, me_i v2), (3, me_i v3), (4, me_i v4), (5, me_i v5), (6, me_i v6)] [])  (hf : f_M_leadsTo_b52 μ K14 v1 v2 v3 v4 v6 s0 = some r) : me_Z X B 0 0 μ 52 [(0, me_r 36 0), (1, me_i v1), (2, me_i v2), (3, me_i v3), (4, me_i v4), (6, me_i v6)] [me_i s0] := by
  unfold f_M_leadsTo_b52 at hf
  refine me_iconst C (v := 0) dX12_leadsTo_52 (by decide) ?_
  refine me_ior C dX12_leadsTo_53 ?_
  obtain ⟨x1, e_x1, hf⟩ := me_lts hf
  refine me_nm e_x1 ?_
  refine me_istore C dX12_leadsTo_54 (by decide) (L' := [(5, me_i x1), (0, me_r 36 0), (1, me_i v1), (2, me_i v2), (3, me_i v3), (4, me_i v4), (6, me_i v6)]) rfl ?_
  obtain ⟨x2, e_x2, hf⟩ := me_lts hf
  refine me_iinc C (v := x2) (L' := [(6, me_i x2), (5, me_i x1), (0, me_r 36 0), (1, me_i v1), (2, me_i v2), (3, me_i v3), (4, me_i v4)]) dX12_leadsTo_56 rfl e_x2.symm (by decide) rfl ?_
  refine me_goto C (tgt := 14) dX12_leadsTo_59 (by decide) ?_
  refine me_dropI [(0, me_r 36 0), (1, me_i v1), (2, me_i v2), (3, me_i v3), (4, me_i v4), (5, me_i x1), (6, me_i x2)] [2, 3, 4, 5, 6, 1, 0] rfl ?_
  exact hK14 v1 v2 v3 v4 x1 x2 hf
def f_M_leadsTo_b14 (μ : me_M) (K14 : Int32 → Int32 → Int32 → Int32 → Int32 → Int32 → Option Int32) (v1 : Int32) (v2 : Int32) (v3 : Int32) (v4 : Int32) (v5 : Int32) (v6 : Int32) : Option Int32 :=
  me_bd (f_M_nodes μ) (fun r1 =>
  if r1 ≤ v6 then
  (me_gd (me_nr .boolean v5) (
  some v5))
  else
  (me_bd (f_M_mayGo μ v1 v6 v2) (fun r4 =>
  if r4 = 0 then
  (f_M_leadsTo_b52 μ K14 v1 v2 v3 v4 v6 v5)
  else
  (me_bd (f_M_mayGo μ v4 v6 v3) (fun r6 =>
  if r6 = 0 then
  (f_M_leadsTo_b52 μ K14 v1 v2 v3 v4 v6 v5)
  else
  (me_lt ((v5 ||| (1 : Int32))) (fun x8 =>
  me_lt (me_inc v6 (1)) (fun x9 =>
  K14 v1 v2 v3 v4 x8 x9))))))))
set_option maxHeartbeats 4000000 in
set_option maxRecDepth 100000 in
theorem z_M_leadsTo_b14 {X : me_X} {B : me_B} {sz : Nat} (C : me_C X B RX12 cX12_leadsTo 7 (some .boolean)) {μ : me_M} {v1 : Int32} {v2 : Int32} {v3 : Int32} {v4 : Int32} {v5 : Int32} {v6 : Int32}  {K14 : Int32 → Int32 → Int32 → Int32 → Int32 → Int32 → Option Int32} {r : Int32} (N : me_En X B sz (B, μ, .ok (some (me_i r))) 4 100 0 0) (hNx : me_Nx X) (hB : me_St B) (hK14 : ∀ (v1 : Int32) (v2 : Int32) (v3 : Int32) (v4 : Int32) (v5 : Int32) (v6 : Int32), K14 v1 v2 v3 v4 v5 v6 = some r → me_Z X B 0 0 μ 14 [(0, me_r 36 0), (1, me_i v1), (2, me_i v2), (3, me_i v3), (4, me_i v4), (5, me_i v5), (6, me_i v6)] [])  (hf : f_M_leadsTo_b14 μ K14 v1 v2 v3 v4 v5 v6 = some r) : me_Z X B 0 0 μ 14 [(0, me_r 36 0), (1, me_i v1), (2, me_i v2), (3, me_i v3), (4, me_i v4), (5, me_i v5), (6, me_i v6)] [] := by
  unfold f_M_leadsTo_b14 at hf
  refine me_iload C dX12_leadsTo_14 rfl ?_
  refine me_aload_n C 0 (Or.inr (Or.inl ⟨_, rfl⟩)) dX12_leadsTo_16 rfl rfl ?_
  obtain ⟨r1, h_r1, hf⟩ := me_bs hf
  refine me_callV C N  (As := []) (st := [me_i v6]) 0 0 (c_M_nodes hB h_r1) mv_M_nodes ml_M_144 rfl rfl dX12_leadsTo_17 rfl rfl ⟨by decide, by decide⟩ ⟨by decide, by decide, by decide, by decide⟩ (Nat.le_of_ble_eq_true rfl) ?_
  refine me_icmp_ge C (tgt := 62) dX12_leadsTo_20 (by decide) (fun c2 => ?_) (fun c2 => ?_)
  · replace hf := me_ip c2 hf
    refine me_iload C dX12_leadsTo_62 rfl ?_
    obtain ⟨g3, hf⟩ := me_gs hf
    exact me_iret C N dX12_leadsTo_64 g3 (by cases hf; rfl) (by decide) (by decide)
  · replace hf := me_in c2 hf
    refine me_iload C dX12_leadsTo_23 rfl ?_
    refine me_aload_n C 0 (Or.inr (Or.inl ⟨_, rfl⟩)) dX12_leadsTo_25 rfl rfl ?_
    refine me_iload_n C 1 dX12_leadsTo_26 rfl rfl ?_
    refine me_iload C dX12_leadsTo_27 rfl ?_
    refine me_iload_n C 2 dX12_leadsTo_29 rfl rfl ?_
    obtain ⟨r4, h_r4, hf⟩ := me_bs hf
    refine me_callV C N  (As := [me_i v1, me_i v6, me_i v2]) (st := [me_i v5]) 0 0 (c_M_mayGo hB h_r4) mv_M_mayGo ml_M_295 rfl rfl dX12_leadsTo_30 rfl rfl ⟨by decide, by decide⟩ ⟨by decide, by decide, by decide, by decide⟩ (Nat.le_of_ble_eq_true rfl) ?_
    refine me_if_eq C (tgt := 52) dX12_leadsTo_33 (by decide) (fun c5 => ?_) (fun c5 => ?_)
    · replace hf := me_ip c5 hf
      refine me_dropI [(0, me_r 36 0), (1, me_i v1), (2, me_i v2), (3, me_i v3), (4, me_i v4), (6, me_i v6)] [0, 1, 2, 3, 4, 6] rfl ?_
      exact z_M_leadsTo_b52 C N hNx hB hK14 hf
    · replace hf := me_in c5 hf
      refine me_aload_n C 0 (Or.inr (Or.inl ⟨_, rfl⟩)) dX12_leadsTo_36 rfl rfl ?_
      refine me_iload C dX12_leadsTo_37 rfl ?_
      refine me_iload C dX12_leadsTo_39 rfl ?_
      refine me_iload_n C 3 dX12_leadsTo_41 rfl rfl ?_
      obtain ⟨r6, h_r6, hf⟩ := me_bs hf
      refine me_callV C N  (As := [me_i v4, me_i v6, me_i v3]) (st := [me_i v5]) 0 0 (c_M_mayGo hB h_r6) mv_M_mayGo ml_M_295 rfl rfl dX12_leadsTo_42 rfl rfl ⟨by decide, by decide⟩ ⟨by decide, by decide, by decide, by decide⟩ (Nat.le_of_ble_eq_true rfl) ?_
      refine me_if_eq C (tgt := 52) dX12_leadsTo_45 (by decide) (fun c7 => ?_) (fun c7 => ?_)
      · replace hf := me_ip c7 hf
        refine me_dropI [(0, me_r 36 0), (1, me_i v1), (2, me_i v2), (3, me_i v3), (4, me_i v4), (6, me_i v6)] [0, 1, 2, 3, 4, 6] rfl ?_
        exact z_M_leadsTo_b52 C N hNx hB hK14 hf
      · replace hf := me_in c7 hf
        refine me_iconst C (v := 1) dX12_leadsTo_48 (by decide) ?_
        refine me_goto C (tgt := 53) dX12_leadsTo_49 (by decide) ?_
        refine me_ior C dX12_leadsTo_53 ?_
        obtain ⟨x8, e_x8, hf⟩ := me_lts hf
        refine me_nm e_x8 ?_
        refine me_istore C dX12_leadsTo_54 (by decide) (L' := [(5, me_i x8), (0, me_r 36 0), (1, me_i v1), (2, me_i v2), (3, me_i v3), (4, me_i v4), (6, me_i v6)]) rfl ?_
        obtain ⟨x9, e_x9, hf⟩ := me_lts hf
        refine me_iinc C (v := x9) (L' := [(6, me_i x9), (5, me_i x8), (0, me_r 36 0), (1, me_i v1), (2, me_i v2), (3, me_i v3), (4, me_i v4)]) dX12_leadsTo_56 rfl e_x9.symm (by decide) rfl ?_
        refine me_goto C (tgt := 14) dX12_leadsTo_59 (by decide) ?_
        refine me_dropI [(0, me_r 36 0), (1, me_i v1), (2, me_i v2), (3, me_i v3), (4, me_i v4), (5, me_i x8), (6, me_i x9)] [2, 3, 4, 5, 6, 1, 0] rfl ?_
        exact hK14 v1 v2 v3 v4 x8 x9 hf
def f_M_leadsTo_h14 (μ : me_M) : Nat → Int32 → Int32 → Int32 → Int32 → Int32 → Int32 → Option Int32
  | 0, _, _, _, _, _, _ => none
  | n + 1, v1, v2, v3, v4, v5, v6 => f_M_leadsTo_b14 μ (f_M_leadsTo_h14 μ n) v1 v2 v3 v4 v5 v6
set_option maxHeartbeats 4000000 in
set_option maxRecDepth 100000 in
theorem z_M_leadsTo_h14 {X : me_X} {B : me_B} {sz : Nat} (C : me_C X B RX12 cX12_leadsTo 7 (some .boolean)) {μ : me_M}  {r : Int32} (N : me_En X B sz (B, μ, .ok (some (me_i r))) 4 100 0 0) (hNx : me_Nx X) (hB : me_St B)  : ∀ (n : Nat) (v1 : Int32) (v2 : Int32) (v3 : Int32) (v4 : Int32) (v5 : Int32) (v6 : Int32), f_M_leadsTo_h14 μ n v1 v2 v3 v4 v5 v6 = some r → me_Z X B 0 0 μ 14 [(0, me_r 36 0), (1, me_i v1), (2, me_i v2), (3, me_i v3), (4, me_i v4), (5, me_i v5), (6, me_i v6)] [] := by
  intro n
  induction n with
  | zero => intro v1 v2 v3 v4 v5 v6  h; exact absurd (show (none : Option Int32) = some r from h) (fun q => by cases q)
  | succ n ih => intro v1 v2 v3 v4 v5 v6  h; exact z_M_leadsTo_b14 C N hNx hB  (K14 := f_M_leadsTo_h14 μ n) ih  h
def f_M_leadsTo (μ : me_M) (v1 : Int32) (v2 : Int32) (v3 : Int32) : Option Int32 :=
  me_bd (f_M_beside μ v1 v2) (fun r1 =>
  f_M_leadsTo_h14 μ me_FU v1 v2 v3 r1 (0 : Int32) (0 : Int32))
set_option maxHeartbeats 4000000 in
set_option maxRecDepth 100000 in
theorem z_M_leadsTo {X : me_X} {B : me_B} {sz : Nat} (C : me_C X B RX12 cX12_leadsTo 7 (some .boolean)) {μ : me_M} {v1 : Int32} {v2 : Int32} {v3 : Int32}   {r : Int32} (N : me_En X B sz (B, μ, .ok (some (me_i r))) 4 100 0 0) (hNx : me_Nx X) (hB : me_St B)   (hf : f_M_leadsTo μ v1 v2 v3 = some r) : me_Z X B 0 0 μ 0 [(0, me_r 36 0), (1, me_i v1), (2, me_i v2), (3, me_i v3)] [] := by
  unfold f_M_leadsTo at hf
  refine me_aload_n C 0 (Or.inr (Or.inl ⟨_, rfl⟩)) dX12_leadsTo_0 rfl rfl ?_
  refine me_iload_n C 1 dX12_leadsTo_1 rfl rfl ?_
  refine me_iload_n C 2 dX12_leadsTo_2 rfl rfl ?_
  obtain ⟨r1, h_r1, hf⟩ := me_bs hf
  refine me_callV C N  (As := [me_i v1, me_i v2]) (st := []) 0 0 (c_M_beside hB h_r1) mv_M_beside ml_M_199 rfl rfl dX12_leadsTo_3 rfl rfl ⟨by decide, by decide⟩ ⟨by decide, by decide, by decide, by decide⟩ (Nat.le_of_ble_eq_true rfl) ?_
  refine me_istore C dX12_leadsTo_6 (by decide) (L' := [(4, me_i r1), (0, me_r 36 0), (1, me_i v1), (2, me_i v2), (3, me_i v3)]) rfl ?_
  refine me_iconst C (v := 0) dX12_leadsTo_8 (by decide) ?_
  refine me_istore C dX12_leadsTo_9 (by decide) (L' := [(5, me_i (0 : Int32)), (4, me_i r1), (0, me_r 36 0), (1, me_i v1), (2, me_i v2), (3, me_i v3)]) rfl ?_
  refine me_iconst C (v := 0) dX12_leadsTo_11 (by decide) ?_
  refine me_istore C dX12_leadsTo_12 (by decide) (L' := [(6, me_i (0 : Int32)), (5, me_i (0 : Int32)), (4, me_i r1), (0, me_r 36 0), (1, me_i v1), (2, me_i v2), (3, me_i v3)]) rfl ?_
  refine me_dropI [(0, me_r 36 0), (1, me_i v1), (2, me_i v2), (3, me_i v3), (4, me_i r1), (5, me_i (0 : Int32)), (6, me_i (0 : Int32))] [3, 4, 5, 6, 2, 1, 0] rfl ?_
  exact z_M_leadsTo_h14 C N hNx hB me_FU v1 v2 v3 r1 (0 : Int32) (0 : Int32) hf
theorem c_M_leadsTo {B : me_B} (hB : me_St B) {μ : me_M} {v1 : Int32} {v2 : Int32} {v3 : Int32} {r : Int32}  (hf : f_M_leadsTo μ v1 v2 v3 = some r) : ∀ l E z, l.stackTraces = false → me_Met l yX12_leadsTo cX12_leadsTo 7 (some .boolean) 4 100 0 0 E B μ z [me_r 36 0, me_i v1, me_i v2, me_i v3] (B, μ, .ok (some (me_i r))) :=
  fun _ _ _ hl => me_ofZ hl (by decide +kernel) (Nat.le_of_ble_eq_true rfl) (fun _ C N hNx => z_M_leadsTo C N hNx hB  hf)

def f_M_leads_b73 (K9 : me_M → Int32 → Int32 → Option (me_M × Int32)) (K19 : me_M → Int32 → Int32 → Int32 → Option (me_M × Int32)) (K27 : me_M → Int32 → Int32 → Int32 → Int32 → Option (me_M × Int32)) (μ : me_M) (v2 : Int32) (v3 : Int32) (v4 : Int32) (s0 : Int32) : Option (me_M × Int32) :=
  me_lt ((s0 + (0 : Int32))) (fun x1 =>
  me_lt (me_inc v4 (1)) (fun x2 =>
  K27 μ x1 v2 v3 x2))
set_option maxHeartbeats 4000000 in
set_option maxRecDepth 100000 in
theorem z_M_leads_b73 {X : me_X} {B : me_B} {sz : Nat} (C : me_C X B RX12 cX12_leads 5 (some .int)) {μ : me_M} {v2 : Int32} {v3 : Int32} {v4 : Int32} {s0 : Int32}  {K9 : me_M → Int32 → Int32 → Option (me_M × Int32)} {K19 : me_M → Int32 → Int32 → Int32 → Option (me_M × Int32)} {K27 : me_M → Int32 → Int32 → Int32 → Int32 → Option (me_M × Int32)} {r : me_M × Int32} (N : me_En X B sz (B, r.1, .ok (some (me_i r.2))) 5 126 0 0) (hNx : me_Nx X) (hB : me_St B) (hK9 : ∀ (μ : me_M) (v1 : Int32) (v2 : Int32), K9 μ v1 v2 = some r → me_Z X B 0 0 μ 9 [(0, me_r 36 0), (1, me_i v1), (2, me_i v2)] []) (hK19 : ∀ (μ : me_M) (v1 : Int32) (v2 : Int32) (v3 : Int32), K19 μ v1 v2 v3 = some r → me_Z X B 0 0 μ 19 [(0, me_r 36 0), (1, me_i v1), (2, me_i v2), (3, me_i v3)] []) (hK27 : ∀ (μ : me_M) (v1 : Int32) (v2 : Int32) (v3 : Int32) (v4 : Int32), K27 μ v1 v2 v3 v4 = some r → me_Z X B 0 0 μ 27 [(0, me_r 36 0), (1, me_i v1), (2, me_i v2), (3, me_i v3), (4, me_i v4)] [])  (hf : f_M_leads_b73 K9 K19 K27 μ v2 v3 v4 s0 = some r) : me_Z X B 0 0 μ 73 [(0, me_r 36 0), (2, me_i v2), (3, me_i v3), (4, me_i v4)] [me_i s0] := by
  unfold f_M_leads_b73 at hf
  refine me_iconst C (v := 0) dX12_leads_73 (by decide) ?_
  refine me_iadd C dX12_leads_74 ?_
  obtain ⟨x1, e_x1, hf⟩ := me_lts hf
  refine me_nm e_x1 ?_
  refine me_istore_n C 1 dX12_leads_75 rfl (by decide) (L' := [(1, me_i x1), (0, me_r 36 0), (2, me_i v2), (3, me_i v3), (4, me_i v4)]) rfl ?_
  obtain ⟨x2, e_x2, hf⟩ := me_lts hf
  refine me_iinc C (v := x2) (L' := [(4, me_i x2), (1, me_i x1), (0, me_r 36 0), (2, me_i v2), (3, me_i v3)]) dX12_leads_76 rfl e_x2.symm (by decide) rfl ?_
  refine me_goto C (tgt := 27) dX12_leads_79 (by decide) ?_
  refine me_dropI [(0, me_r 36 0), (1, me_i x1), (2, me_i v2), (3, me_i v3), (4, me_i x2)] [2, 1, 3, 4, 0] rfl ?_
  exact hK27 μ x1 v2 v3 x2 hf
def f_M_leads_b27 (K9 : me_M → Int32 → Int32 → Option (me_M × Int32)) (K19 : me_M → Int32 → Int32 → Int32 → Option (me_M × Int32)) (K27 : me_M → Int32 → Int32 → Int32 → Int32 → Option (me_M × Int32)) (μ : me_M) (v1 : Int32) (v2 : Int32) (v3 : Int32) (v4 : Int32) : Option (me_M × Int32) :=
  if (4 : Int32) ≤ v4 then
  (me_lt (me_inc v3 (1)) (fun x2 =>
  K19 μ v1 v2 x2))
  else
  (me_bd (f_M_isLink μ v2 v3) (fun r3 =>
  if r3 = 0 then
  (me_lt (me_inc v3 (1)) (fun x5 =>
  K19 μ v1 v2 x5))
  else
  (me_bd (f_M_beside μ v2 v3) (fun r6 =>
  me_bd (f_M_isLink μ r6 v4) (fun r7 =>
  if r7 = 0 then
  (f_M_leads_b73 K9 K19 K27 μ v2 v3 v4 v1)
  else
  (me_bd (f_M_leadsTo μ v2 v3 v4) (fun r9 =>
  if r9 = 0 then
  (f_M_leads_b73 K9 K19 K27 μ v2 v3 v4 v1)
  else
  (me_lt ((v1 + (1 : Int32))) (fun x11 =>
  me_lt (me_inc v4 (1)) (fun x12 =>
  K27 μ x11 v2 v3 x12))))))))))
set_option maxHeartbeats 4000000 in
set_option maxRecDepth 100000 in
theorem z_M_leads_b27 {X : me_X} {B : me_B} {sz : Nat} (C : me_C X B RX12 cX12_leads 5 (some .int)) {μ : me_M} {v1 : Int32} {v2 : Int32} {v3 : Int32} {v4 : Int32}  {K9 : me_M → Int32 → Int32 → Option (me_M × Int32)} {K19 : me_M → Int32 → Int32 → Int32 → Option (me_M × Int32)} {K27 : me_M → Int32 → Int32 → Int32 → Int32 → Option (me_M × Int32)} {r : me_M × Int32} (N : me_En X B sz (B, r.1, .ok (some (me_i r.2))) 5 126 0 0) (hNx : me_Nx X) (hB : me_St B) (hK9 : ∀ (μ : me_M) (v1 : Int32) (v2 : Int32), K9 μ v1 v2 = some r → me_Z X B 0 0 μ 9 [(0, me_r 36 0), (1, me_i v1), (2, me_i v2)] []) (hK19 : ∀ (μ : me_M) (v1 : Int32) (v2 : Int32) (v3 : Int32), K19 μ v1 v2 v3 = some r → me_Z X B 0 0 μ 19 [(0, me_r 36 0), (1, me_i v1), (2, me_i v2), (3, me_i v3)] []) (hK27 : ∀ (μ : me_M) (v1 : Int32) (v2 : Int32) (v3 : Int32) (v4 : Int32), K27 μ v1 v2 v3 v4 = some r → me_Z X B 0 0 μ 27 [(0, me_r 36 0), (1, me_i v1), (2, me_i v2), (3, me_i v3), (4, me_i v4)] [])  (hf : f_M_leads_b27 K9 K19 K27 μ v1 v2 v3 v4 = some r) : me_Z X B 0 0 μ 27 [(0, me_r 36 0), (1, me_i v1), (2, me_i v2), (3, me_i v3), (4, me_i v4)] [] := by
  unfold f_M_leads_b27 at hf
  refine me_iload C dX12_leads_27 rfl ?_
  refine me_iconst C (v := 4) dX12_leads_29 (by decide) ?_
  refine me_icmp_ge C (tgt := 82) dX12_leads_30 (by decide) (fun c1 => ?_) (fun c1 => ?_)
  · replace hf := me_ip c1 hf
    obtain ⟨x2, e_x2, hf⟩ := me_lts hf
    refine me_iinc C (v := x2) (L' := [(3, me_i x2), (0, me_r 36 0), (1, me_i v1), (2, me_i v2), (4, me_i v4)]) dX12_leads_82 rfl e_x2.symm (by decide) rfl ?_
    refine me_goto C (tgt := 19) dX12_leads_85 (by decide) ?_
    refine me_dropI [(0, me_r 36 0), (1, me_i v1), (2, me_i v2), (3, me_i x2)] [1, 2, 3, 0] rfl ?_
    exact hK19 μ v1 v2 x2 hf
  · replace hf := me_in c1 hf
    refine me_aload_n C 0 (Or.inr (Or.inl ⟨_, rfl⟩)) dX12_leads_33 rfl rfl ?_
    refine me_iload_n C 2 dX12_leads_34 rfl rfl ?_
    refine me_iload_n C 3 dX12_leads_35 rfl rfl ?_
    obtain ⟨r3, h_r3, hf⟩ := me_bs hf
    refine me_callV C N  (As := [me_i v2, me_i v3]) (st := []) 0 0 (c_M_isLink hB h_r3) mv_M_isLink ml_M_298 rfl rfl dX12_leads_36 rfl rfl ⟨by decide, by decide⟩ ⟨by decide, by decide, by decide, by decide⟩ (Nat.le_of_ble_eq_true rfl) ?_
    refine me_if_eq C (tgt := 82) dX12_leads_39 (by decide) (fun c4 => ?_) (fun c4 => ?_)
    · replace hf := me_ip c4 hf
      obtain ⟨x5, e_x5, hf⟩ := me_lts hf
      refine me_iinc C (v := x5) (L' := [(3, me_i x5), (0, me_r 36 0), (1, me_i v1), (2, me_i v2), (4, me_i v4)]) dX12_leads_82 rfl e_x5.symm (by decide) rfl ?_
      refine me_goto C (tgt := 19) dX12_leads_85 (by decide) ?_
      refine me_dropI [(0, me_r 36 0), (1, me_i v1), (2, me_i v2), (3, me_i x5)] [1, 2, 3, 0] rfl ?_
      exact hK19 μ v1 v2 x5 hf
    · replace hf := me_in c4 hf
      refine me_iload_n C 1 dX12_leads_42 rfl rfl ?_
      refine me_aload_n C 0 (Or.inr (Or.inl ⟨_, rfl⟩)) dX12_leads_43 rfl rfl ?_
      refine me_aload_n C 0 (Or.inr (Or.inl ⟨_, rfl⟩)) dX12_leads_44 rfl rfl ?_
      refine me_iload_n C 2 dX12_leads_45 rfl rfl ?_
      refine me_iload_n C 3 dX12_leads_46 rfl rfl ?_
      obtain ⟨r6, h_r6, hf⟩ := me_bs hf
      refine me_callV C N  (As := [me_i v2, me_i v3]) (st := [me_r 36 0, me_i v1]) 0 0 (c_M_beside hB h_r6) mv_M_beside ml_M_199 rfl rfl dX12_leads_47 rfl rfl ⟨by decide, by decide⟩ ⟨by decide, by decide, by decide, by decide⟩ (Nat.le_of_ble_eq_true rfl) ?_
      refine me_iload C dX12_leads_50 rfl ?_
      obtain ⟨r7, h_r7, hf⟩ := me_bs hf
      refine me_callV C N  (As := [me_i r6, me_i v4]) (st := [me_i v1]) 0 0 (c_M_isLink hB h_r7) mv_M_isLink ml_M_298 rfl rfl dX12_leads_52 rfl rfl ⟨by decide, by decide⟩ ⟨by decide, by decide, by decide, by decide⟩ (Nat.le_of_ble_eq_true rfl) ?_
      refine me_if_eq C (tgt := 73) dX12_leads_55 (by decide) (fun c8 => ?_) (fun c8 => ?_)
      · replace hf := me_ip c8 hf
        refine me_dropI [(0, me_r 36 0), (2, me_i v2), (3, me_i v3), (4, me_i v4)] [0, 2, 3, 4] rfl ?_
        exact z_M_leads_b73 C N hNx hB hK9 hK19 hK27 hf
      · replace hf := me_in c8 hf
        refine me_aload_n C 0 (Or.inr (Or.inl ⟨_, rfl⟩)) dX12_leads_58 rfl rfl ?_
        refine me_iload_n C 2 dX12_leads_59 rfl rfl ?_
        refine me_iload_n C 3 dX12_leads_60 rfl rfl ?_
        refine me_iload C dX12_leads_61 rfl ?_
        obtain ⟨r9, h_r9, hf⟩ := me_bs hf
        refine me_callV C N  (As := [me_i v2, me_i v3, me_i v4]) (st := [me_i v1]) 0 0 (c_M_leadsTo hB h_r9) mv_M_leadsTo ml_M_301 rfl rfl dX12_leads_63 rfl rfl ⟨by decide, by decide⟩ ⟨by decide, by decide, by decide, by decide⟩ (Nat.le_of_ble_eq_true rfl) ?_
        refine me_if_eq C (tgt := 73) dX12_leads_66 (by decide) (fun c10 => ?_) (fun c10 => ?_)
        · replace hf := me_ip c10 hf
          refine me_dropI [(0, me_r 36 0), (2, me_i v2), (3, me_i v3), (4, me_i v4)] [0, 2, 3, 4] rfl ?_
          exact z_M_leads_b73 C N hNx hB hK9 hK19 hK27 hf
        · replace hf := me_in c10 hf
          refine me_iconst C (v := 1) dX12_leads_69 (by decide) ?_
          refine me_goto C (tgt := 74) dX12_leads_70 (by decide) ?_
          refine me_iadd C dX12_leads_74 ?_
          obtain ⟨x11, e_x11, hf⟩ := me_lts hf
          refine me_nm e_x11 ?_
          refine me_istore_n C 1 dX12_leads_75 rfl (by decide) (L' := [(1, me_i x11), (0, me_r 36 0), (2, me_i v2), (3, me_i v3), (4, me_i v4)]) rfl ?_
          obtain ⟨x12, e_x12, hf⟩ := me_lts hf
          refine me_iinc C (v := x12) (L' := [(4, me_i x12), (1, me_i x11), (0, me_r 36 0), (2, me_i v2), (3, me_i v3)]) dX12_leads_76 rfl e_x12.symm (by decide) rfl ?_
          refine me_goto C (tgt := 27) dX12_leads_79 (by decide) ?_
          refine me_dropI [(0, me_r 36 0), (1, me_i x11), (2, me_i v2), (3, me_i v3), (4, me_i x12)] [2, 1, 3, 4, 0] rfl ?_
          exact hK27 μ x11 v2 v3 x12 hf
def f_M_leads_h27 (K9 : me_M → Int32 → Int32 → Option (me_M × Int32)) (K19 : me_M → Int32 → Int32 → Int32 → Option (me_M × Int32)) : Nat → me_M → Int32 → Int32 → Int32 → Int32 → Option (me_M × Int32)
  | 0, _, _, _, _, _ => none
  | n + 1, μ, v1, v2, v3, v4 => f_M_leads_b27 K9 K19 (f_M_leads_h27 K9 K19 n) μ v1 v2 v3 v4
set_option maxHeartbeats 4000000 in
set_option maxRecDepth 100000 in
theorem z_M_leads_h27 {X : me_X} {B : me_B} {sz : Nat} (C : me_C X B RX12 cX12_leads 5 (some .int)) {K9 : me_M → Int32 → Int32 → Option (me_M × Int32)} {K19 : me_M → Int32 → Int32 → Int32 → Option (me_M × Int32)} {r : me_M × Int32} (N : me_En X B sz (B, r.1, .ok (some (me_i r.2))) 5 126 0 0) (hNx : me_Nx X) (hB : me_St B) (hK9 : ∀ (μ : me_M) (v1 : Int32) (v2 : Int32), K9 μ v1 v2 = some r → me_Z X B 0 0 μ 9 [(0, me_r 36 0), (1, me_i v1), (2, me_i v2)] []) (hK19 : ∀ (μ : me_M) (v1 : Int32) (v2 : Int32) (v3 : Int32), K19 μ v1 v2 v3 = some r → me_Z X B 0 0 μ 19 [(0, me_r 36 0), (1, me_i v1), (2, me_i v2), (3, me_i v3)] []) : ∀ (n : Nat) (μ : me_M) (v1 : Int32) (v2 : Int32) (v3 : Int32) (v4 : Int32), f_M_leads_h27 K9 K19 n μ v1 v2 v3 v4 = some r → me_Z X B 0 0 μ 27 [(0, me_r 36 0), (1, me_i v1), (2, me_i v2), (3, me_i v3), (4, me_i v4)] [] := by
  intro n
  induction n with
  | zero => intro μ v1 v2 v3 v4  h; exact absurd (show (none : Option (me_M × Int32)) = some r from h) (fun q => by cases q)
  | succ n ih => intro μ v1 v2 v3 v4  h; exact z_M_leads_b27 C N hNx hB hK9 hK19 (K27 := f_M_leads_h27 K9 K19 n) ih  h
def f_M_leads_b19 (K9 : me_M → Int32 → Int32 → Option (me_M × Int32)) (K19 : me_M → Int32 → Int32 → Int32 → Option (me_M × Int32)) (μ : me_M) (v1 : Int32) (v2 : Int32) (v3 : Int32) : Option (me_M × Int32) :=
  if (4 : Int32) ≤ v3 then
  (me_lt (me_inc v2 (1)) (fun x2 =>
  K9 μ v1 x2))
  else
  (f_M_leads_h27 K9 K19 me_FU μ v1 v2 v3 (0 : Int32))
set_option maxHeartbeats 4000000 in
set_option maxRecDepth 100000 in
theorem z_M_leads_b19 {X : me_X} {B : me_B} {sz : Nat} (C : me_C X B RX12 cX12_leads 5 (some .int)) {μ : me_M} {v1 : Int32} {v2 : Int32} {v3 : Int32}  {K9 : me_M → Int32 → Int32 → Option (me_M × Int32)} {K19 : me_M → Int32 → Int32 → Int32 → Option (me_M × Int32)} {r : me_M × Int32} (N : me_En X B sz (B, r.1, .ok (some (me_i r.2))) 5 126 0 0) (hNx : me_Nx X) (hB : me_St B) (hK9 : ∀ (μ : me_M) (v1 : Int32) (v2 : Int32), K9 μ v1 v2 = some r → me_Z X B 0 0 μ 9 [(0, me_r 36 0), (1, me_i v1), (2, me_i v2)] []) (hK19 : ∀ (μ : me_M) (v1 : Int32) (v2 : Int32) (v3 : Int32), K19 μ v1 v2 v3 = some r → me_Z X B 0 0 μ 19 [(0, me_r 36 0), (1, me_i v1), (2, me_i v2), (3, me_i v3)] [])  (hf : f_M_leads_b19 K9 K19 μ v1 v2 v3 = some r) : me_Z X B 0 0 μ 19 [(0, me_r 36 0), (1, me_i v1), (2, me_i v2), (3, me_i v3)] [] := by
  unfold f_M_leads_b19 at hf
  refine me_iload_n C 3 dX12_leads_19 rfl rfl ?_
  refine me_iconst C (v := 4) dX12_leads_20 (by decide) ?_
  refine me_icmp_ge C (tgt := 88) dX12_leads_21 (by decide) (fun c1 => ?_) (fun c1 => ?_)
  · replace hf := me_ip c1 hf
    obtain ⟨x2, e_x2, hf⟩ := me_lts hf
    refine me_iinc C (v := x2) (L' := [(2, me_i x2), (0, me_r 36 0), (1, me_i v1), (3, me_i v3)]) dX12_leads_88 rfl e_x2.symm (by decide) rfl ?_
    refine me_goto C (tgt := 9) dX12_leads_91 (by decide) ?_
    refine me_dropI [(0, me_r 36 0), (1, me_i v1), (2, me_i x2)] [1, 2, 0] rfl ?_
    exact hK9 μ v1 x2 hf
  · replace hf := me_in c1 hf
    refine me_iconst C (v := 0) dX12_leads_24 (by decide) ?_
    refine me_istore C dX12_leads_25 (by decide) (L' := [(4, me_i (0 : Int32)), (0, me_r 36 0), (1, me_i v1), (2, me_i v2), (3, me_i v3)]) rfl ?_
    refine me_dropI [(0, me_r 36 0), (1, me_i v1), (2, me_i v2), (3, me_i v3), (4, me_i (0 : Int32))] [1, 2, 3, 4, 0] rfl ?_
    exact z_M_leads_h27 C N hNx hB hK9 hK19 me_FU μ v1 v2 v3 (0 : Int32) hf
def f_M_leads_h19 (K9 : me_M → Int32 → Int32 → Option (me_M × Int32)) : Nat → me_M → Int32 → Int32 → Int32 → Option (me_M × Int32)
  | 0, _, _, _, _ => none
  | n + 1, μ, v1, v2, v3 => f_M_leads_b19 K9 (f_M_leads_h19 K9 n) μ v1 v2 v3
set_option maxHeartbeats 4000000 in
set_option maxRecDepth 100000 in
theorem z_M_leads_h19 {X : me_X} {B : me_B} {sz : Nat} (C : me_C X B RX12 cX12_leads 5 (some .int)) {K9 : me_M → Int32 → Int32 → Option (me_M × Int32)} {r : me_M × Int32} (N : me_En X B sz (B, r.1, .ok (some (me_i r.2))) 5 126 0 0) (hNx : me_Nx X) (hB : me_St B) (hK9 : ∀ (μ : me_M) (v1 : Int32) (v2 : Int32), K9 μ v1 v2 = some r → me_Z X B 0 0 μ 9 [(0, me_r 36 0), (1, me_i v1), (2, me_i v2)] []) : ∀ (n : Nat) (μ : me_M) (v1 : Int32) (v2 : Int32) (v3 : Int32), f_M_leads_h19 K9 n μ v1 v2 v3 = some r → me_Z X B 0 0 μ 19 [(0, me_r 36 0), (1, me_i v1), (2, me_i v2), (3, me_i v3)] [] := by
  intro n
  induction n with
  | zero => intro μ v1 v2 v3  h; exact absurd (show (none : Option (me_M × Int32)) = some r from h) (fun q => by cases q)
  | succ n ih => intro μ v1 v2 v3  h; exact z_M_leads_b19 C N hNx hB hK9 (K19 := f_M_leads_h19 K9 n) ih  h
def f_M_leads_b9 (K9 : me_M → Int32 → Int32 → Option (me_M × Int32)) (μ : me_M) (v1 : Int32) (v2 : Int32) : Option (me_M × Int32) :=
  me_bd (f_M_nodes μ) (fun r1 =>
  if r1 ≤ v2 then
  (some (μ, v1))
  else
  (f_M_leads_h19 K9 me_FU μ v1 v2 (0 : Int32)))
set_option maxHeartbeats 4000000 in
set_option maxRecDepth 100000 in
theorem z_M_leads_b9 {X : me_X} {B : me_B} {sz : Nat} (C : me_C X B RX12 cX12_leads 5 (some .int)) {μ : me_M} {v1 : Int32} {v2 : Int32}  {K9 : me_M → Int32 → Int32 → Option (me_M × Int32)} {r : me_M × Int32} (N : me_En X B sz (B, r.1, .ok (some (me_i r.2))) 5 126 0 0) (hNx : me_Nx X) (hB : me_St B) (hK9 : ∀ (μ : me_M) (v1 : Int32) (v2 : Int32), K9 μ v1 v2 = some r → me_Z X B 0 0 μ 9 [(0, me_r 36 0), (1, me_i v1), (2, me_i v2)] [])  (hf : f_M_leads_b9 K9 μ v1 v2 = some r) : me_Z X B 0 0 μ 9 [(0, me_r 36 0), (1, me_i v1), (2, me_i v2)] [] := by
  unfold f_M_leads_b9 at hf
  refine me_iload_n C 2 dX12_leads_9 rfl rfl ?_
  refine me_aload_n C 0 (Or.inr (Or.inl ⟨_, rfl⟩)) dX12_leads_10 rfl rfl ?_
  obtain ⟨r1, h_r1, hf⟩ := me_bs hf
  refine me_callV C N  (As := []) (st := [me_i v2]) 0 0 (c_M_nodes hB h_r1) mv_M_nodes ml_M_144 rfl rfl dX12_leads_11 rfl rfl ⟨by decide, by decide⟩ ⟨by decide, by decide, by decide, by decide⟩ (Nat.le_of_ble_eq_true rfl) ?_
  refine me_icmp_ge C (tgt := 94) dX12_leads_14 (by decide) (fun c2 => ?_) (fun c2 => ?_)
  · replace hf := me_ip c2 hf
    refine me_iload_n C 1 dX12_leads_94 rfl rfl ?_
    exact me_iret C N dX12_leads_95 (me_nri _) (by cases hf; rfl) (by decide) (by decide)
  · replace hf := me_in c2 hf
    refine me_iconst C (v := 0) dX12_leads_17 (by decide) ?_
    refine me_istore_n C 3 dX12_leads_18 rfl (by decide) (L' := [(3, me_i (0 : Int32)), (0, me_r 36 0), (1, me_i v1), (2, me_i v2)]) rfl ?_
    refine me_dropI [(0, me_r 36 0), (1, me_i v1), (2, me_i v2), (3, me_i (0 : Int32))] [1, 2, 3, 0] rfl ?_
    exact z_M_leads_h19 C N hNx hB hK9 me_FU μ v1 v2 (0 : Int32) hf
def f_M_leads_h9  : Nat → me_M → Int32 → Int32 → Option (me_M × Int32)
  | 0, _, _, _ => none
  | n + 1, μ, v1, v2 => f_M_leads_b9 (f_M_leads_h9 n) μ v1 v2
set_option maxHeartbeats 4000000 in
set_option maxRecDepth 100000 in
theorem z_M_leads_h9 {X : me_X} {B : me_B} {sz : Nat} (C : me_C X B RX12 cX12_leads 5 (some .int))  {r : me_M × Int32} (N : me_En X B sz (B, r.1, .ok (some (me_i r.2))) 5 126 0 0) (hNx : me_Nx X) (hB : me_St B)  : ∀ (n : Nat) (μ : me_M) (v1 : Int32) (v2 : Int32), f_M_leads_h9 n μ v1 v2 = some r → me_Z X B 0 0 μ 9 [(0, me_r 36 0), (1, me_i v1), (2, me_i v2)] [] := by
  intro n
  induction n with
  | zero => intro μ v1 v2  h; exact absurd (show (none : Option (me_M × Int32)) = some r from h) (fun q => by cases q)
  | succ n ih => intro μ v1 v2  h; exact z_M_leads_b9 C N hNx hB  (K9 := f_M_leads_h9 n) ih  h
def f_M_leads (μ : me_M) : Option (me_M × Int32) :=
  me_lt (me_up μ 36 0 42 (0 : Int32)) (fun μ1 =>
  f_M_leads_h9 me_FU μ1 (0 : Int32) (0 : Int32))
set_option maxHeartbeats 4000000 in
set_option maxRecDepth 100000 in
theorem z_M_leads {X : me_X} {B : me_B} {sz : Nat} (C : me_C X B RX12 cX12_leads 5 (some .int)) {μ : me_M}    {r : me_M × Int32} (N : me_En X B sz (B, r.1, .ok (some (me_i r.2))) 5 126 0 0) (hNx : me_Nx X) (hB : me_St B)   (hf : f_M_leads μ = some r) : me_Z X B 0 0 μ 0 [(0, me_r 36 0)] [] := by
  unfold f_M_leads at hf
  refine me_aload_n C 0 (Or.inr (Or.inl ⟨_, rfl⟩)) dX12_leads_0 rfl rfl ?_
  refine me_iconst C (v := 0) dX12_leads_1 (by decide) ?_
  obtain ⟨μ1, e_μ1, hf⟩ := me_lts hf
  refine me_puti C 42 fw_M_141 dX12_leads_2 rfl (me_nri _) e_μ1 ?_
  refine me_iconst C (v := 0) dX12_leads_5 (by decide) ?_
  refine me_istore_n C 1 dX12_leads_6 rfl (by decide) (L' := [(1, me_i (0 : Int32)), (0, me_r 36 0)]) rfl ?_
  refine me_iconst C (v := 0) dX12_leads_7 (by decide) ?_
  refine me_istore_n C 2 dX12_leads_8 rfl (by decide) (L' := [(2, me_i (0 : Int32)), (1, me_i (0 : Int32)), (0, me_r 36 0)]) rfl ?_
  refine me_dropI [(0, me_r 36 0), (1, me_i (0 : Int32)), (2, me_i (0 : Int32))] [2, 1, 0] rfl ?_
  exact z_M_leads_h9 C N hNx hB me_FU μ1 (0 : Int32) (0 : Int32) hf
theorem c_M_leads {B : me_B} (hB : me_St B) {μ : me_M}  {μ' : me_M} {r : Int32}  (hf : f_M_leads μ = some (μ', r)) : ∀ l E z, l.stackTraces = false → me_Met l yX12_leads cX12_leads 5 (some .int) 5 126 0 0 E B μ z [me_r 36 0] (B, μ', .ok (some (me_i r))) :=
  fun _ _ _ hl => me_ofZ hl (by decide +kernel) (Nat.le_of_ble_eq_true rfl) (fun _ C N hNx => z_M_leads C N hNx hB  hf)

def f_M_direction_b22 (μ : me_M) (v1 : Int32) (v2 : Int32) (s0 : Int32) : Option (me_M × Int32) :=
  me_b2 (f_M_isThrown μ s0 (1 : Int32)) (fun μ2 r1 =>
  if r1 = 0 then
  (me_bd (f_M_sideOf μ2 v1 v2 (0 : Int32)) (fun r4 =>
  me_bd (f_Str_charAt μ2 1 r4) (fun r5 =>
  me_gd (me_nr .char r5) (
  some (μ2, r5)))))
  else
  (some (μ2, (32 : Int32))))
set_option maxHeartbeats 4000000 in
set_option maxRecDepth 100000 in
theorem z_M_direction_b22 {X : me_X} {B : me_B} {sz : Nat} (C : me_C X B RX12 cX12_direction 3 (some .char)) {μ : me_M} {v1 : Int32} {v2 : Int32} {s0 : Int32}   {r : me_M × Int32} (N : me_En X B sz (B, r.1, .ok (some (me_i r.2))) 4 85 0 0) (hNx : me_Nx X) (hB : me_St B)   (hf : f_M_direction_b22 μ v1 v2 s0 = some r) : me_Z X B 0 0 μ 22 [(0, me_r 36 0), (1, me_i v1), (2, me_i v2)] [me_i s0, me_r 36 0] := by
  unfold f_M_direction_b22 at hf
  refine me_iconst C (v := 1) dX12_direction_22 (by decide) ?_
  obtain ⟨μ2, r1, h_r1, hf⟩ := me_bs2 hf
  refine me_callV C N  (As := [me_i s0, me_i (1 : Int32)]) (st := []) 0 0 (c_M_isThrown hB h_r1) mv_M_isThrown ml_M_155 rfl rfl dX12_direction_23 rfl rfl ⟨by decide, by decide⟩ ⟨by decide, by decide, by decide, by decide⟩ (Nat.le_of_ble_eq_true rfl) ?_
  refine me_if_eq C (tgt := 34) dX12_direction_26 (by decide) (fun c3 => ?_) (fun c3 => ?_)
  · replace hf := me_ip c3 hf
    refine me_ldcSw C sx_M_289 dX12_direction_34 ?_
    refine me_aload_n C 0 (Or.inr (Or.inl ⟨_, rfl⟩)) dX12_direction_37 rfl rfl ?_
    refine me_iload_n C 1 dX12_direction_38 rfl rfl ?_
    refine me_iload_n C 2 dX12_direction_39 rfl rfl ?_
    refine me_iconst C (v := 0) dX12_direction_40 (by decide) ?_
    obtain ⟨r4, h_r4, hf⟩ := me_bs hf
    refine me_callV C N  (As := [me_i v1, me_i v2, me_i (0 : Int32)]) (st := [.inl (.ref (B.1 200 1))]) 0 0 (c_M_sideOf hB h_r4) mv_M_sideOf ml_M_225 rfl rfl dX12_direction_41 rfl rfl ⟨by decide, by decide⟩ ⟨by decide, by decide, by decide, by decide⟩ (Nat.le_of_ble_eq_true rfl) ?_
    obtain ⟨r5, h_r5, hf⟩ := me_bs hf
    refine me_callG C N (by decide) (As := [me_i r4]) (st := []) 0 0 (c_Str_charAt hB (by decide) h_r5) mv_Str_charAt ml_M_304 rfl dX12_direction_44 rfl rfl ⟨by decide, by decide⟩ ⟨by decide, by decide, by decide, by decide⟩ (Nat.le_of_ble_eq_true rfl) ?_
    obtain ⟨g6, hf⟩ := me_gs hf
    exact me_iret C N dX12_direction_47 g6 (by cases hf; rfl) (by decide) (by decide)
  · replace hf := me_in c3 hf
    refine me_bipush C (v := 32) dX12_direction_29 (by decide) ?_
    refine me_goto C (tgt := 47) dX12_direction_31 (by decide) ?_
    exact me_iret C N dX12_direction_47 (by decide +kernel) (by cases hf; rfl) (by decide) (by decide)
def f_M_direction_b17 (μ : me_M) (v1 : Int32) (v2 : Int32) : Option (me_M × Int32) :=
  f_M_direction_b22 μ v1 v2 (1 : Int32)
set_option maxHeartbeats 4000000 in
set_option maxRecDepth 100000 in
theorem z_M_direction_b17 {X : me_X} {B : me_B} {sz : Nat} (C : me_C X B RX12 cX12_direction 3 (some .char)) {μ : me_M} {v1 : Int32} {v2 : Int32}   {r : me_M × Int32} (N : me_En X B sz (B, r.1, .ok (some (me_i r.2))) 4 85 0 0) (hNx : me_Nx X) (hB : me_St B)   (hf : f_M_direction_b17 μ v1 v2 = some r) : me_Z X B 0 0 μ 17 [(0, me_r 36 0), (1, me_i v1), (2, me_i v2)] [me_r 36 0] := by
  unfold f_M_direction_b17 at hf
  refine me_iconst C (v := 1) dX12_direction_17 (by decide) ?_
  refine me_goto C (tgt := 22) dX12_direction_18 (by decide) ?_
  refine me_dropI [(0, me_r 36 0), (1, me_i v1), (2, me_i v2)] [0, 1, 2] rfl ?_
  exact z_M_direction_b22 C N hNx hB hf
def f_M_direction (μ : me_M) (v1 : Int32) (v2 : Int32) : Option (me_M × Int32) :=
  me_bd (f_M_isNoNode μ v1) (fun r1 =>
  if r1 = 0 then
  (me_bd (f_M_isNoNode μ v2) (fun r3 =>
  if r3 = 0 then
  (f_M_direction_b22 μ v1 v2 (0 : Int32))
  else
  (f_M_direction_b17 μ v1 v2)))
  else
  (f_M_direction_b17 μ v1 v2))
set_option maxHeartbeats 4000000 in
set_option maxRecDepth 100000 in
theorem z_M_direction {X : me_X} {B : me_B} {sz : Nat} (C : me_C X B RX12 cX12_direction 3 (some .char)) {μ : me_M} {v1 : Int32} {v2 : Int32}   {r : me_M × Int32} (N : me_En X B sz (B, r.1, .ok (some (me_i r.2))) 4 85 0 0) (hNx : me_Nx X) (hB : me_St B)   (hf : f_M_direction μ v1 v2 = some r) : me_Z X B 0 0 μ 0 [(0, me_r 36 0), (1, me_i v1), (2, me_i v2)] [] := by
  unfold f_M_direction at hf
  refine me_aload_n C 0 (Or.inr (Or.inl ⟨_, rfl⟩)) dX12_direction_0 rfl rfl ?_
  refine me_aload_n C 0 (Or.inr (Or.inl ⟨_, rfl⟩)) dX12_direction_1 rfl rfl ?_
  refine me_iload_n C 1 dX12_direction_2 rfl rfl ?_
  obtain ⟨r1, h_r1, hf⟩ := me_bs hf
  refine me_callV C N  (As := [me_i v1]) (st := [me_r 36 0]) 0 0 (c_M_isNoNode hB h_r1) mv_M_isNoNode ml_M_165 rfl rfl dX12_direction_3 rfl rfl ⟨by decide, by decide⟩ ⟨by decide, by decide, by decide, by decide⟩ (Nat.le_of_ble_eq_true rfl) ?_
  refine me_if_ne C (tgt := 17) dX12_direction_6 (by decide) (fun c2 => ?_) (fun c2 => ?_)
  · replace hf := me_in c2 hf
    refine me_dropI [(0, me_r 36 0), (1, me_i v1), (2, me_i v2)] [0, 1, 2] rfl ?_
    exact z_M_direction_b17 C N hNx hB hf
  · replace hf := me_ip c2 hf
    refine me_aload_n C 0 (Or.inr (Or.inl ⟨_, rfl⟩)) dX12_direction_9 rfl rfl ?_
    refine me_iload_n C 2 dX12_direction_10 rfl rfl ?_
    obtain ⟨r3, h_r3, hf⟩ := me_bs hf
    refine me_callV C N  (As := [me_i v2]) (st := [me_r 36 0]) 0 0 (c_M_isNoNode hB h_r3) mv_M_isNoNode ml_M_165 rfl rfl dX12_direction_11 rfl rfl ⟨by decide, by decide⟩ ⟨by decide, by decide, by decide, by decide⟩ (Nat.le_of_ble_eq_true rfl) ?_
    refine me_if_eq C (tgt := 21) dX12_direction_14 (by decide) (fun c4 => ?_) (fun c4 => ?_)
    · replace hf := me_ip c4 hf
      refine me_iconst C (v := 0) dX12_direction_21 (by decide) ?_
      refine me_dropI [(0, me_r 36 0), (1, me_i v1), (2, me_i v2)] [0, 1, 2] rfl ?_
      exact z_M_direction_b22 C N hNx hB hf
    · replace hf := me_in c4 hf
      refine me_dropI [(0, me_r 36 0), (1, me_i v1), (2, me_i v2)] [0, 1, 2] rfl ?_
      exact z_M_direction_b17 C N hNx hB hf
theorem c_M_direction {B : me_B} (hB : me_St B) {μ : me_M} {v1 : Int32} {v2 : Int32} {μ' : me_M} {r : Int32}  (hf : f_M_direction μ v1 v2 = some (μ', r)) : ∀ l E z, l.stackTraces = false → me_Met l yX12_direction cX12_direction 3 (some .char) 4 85 0 0 E B μ z [me_r 36 0, me_i v1, me_i v2] (B, μ', .ok (some (me_i r))) :=
  fun _ _ _ hl => me_ofZ hl (by decide +kernel) (Nat.le_of_ble_eq_true rfl) (fun _ C N hNx => z_M_direction C N hNx hB  hf)

def f_M_task_b28 (μ : me_M) (v1 : Int32) (s0 : Int32) : Option (me_M × Int32) :=
  me_b2 (f_M_isThrown μ s0 (2 : Int32)) (fun μ2 r1 =>
  if r1 = 0 then
  (me_gd (me_inb (μ2 36 0 41) 8) (
  me_lt (me_up μ2 92 0 (me_ix (μ2 36 0 41)) v1) (fun μ5 =>
  me_lt (me_up μ5 36 0 41 ((μ5 36 0 41) + (1 : Int32))) (fun μ6 =>
  some (μ6, ((μ6 36 0 41) - (1 : Int32)))))))
  else
  (some (μ2, (0 : Int32))))
set_option maxHeartbeats 4000000 in
set_option maxRecDepth 100000 in
theorem z_M_task_b28 {X : me_X} {B : me_B} {sz : Nat} (C : me_C X B RX12 cX12_task 2 (some .int)) {μ : me_M} {v1 : Int32} {s0 : Int32}   {r : me_M × Int32} (N : me_En X B sz (B, r.1, .ok (some (me_i r.2))) 2 43 0 0) (hNx : me_Nx X) (hB : me_St B)   (hf : f_M_task_b28 μ v1 s0 = some r) : me_Z X B 0 0 μ 28 [(0, me_r 36 0), (1, me_i v1)] [me_i s0, me_r 36 0] := by
  unfold f_M_task_b28 at hf
  refine me_iconst C (v := 2) dX12_task_28 (by decide) ?_
  obtain ⟨μ2, r1, h_r1, hf⟩ := me_bs2 hf
  refine me_callV C N  (As := [me_i s0, me_i (2 : Int32)]) (st := []) 0 0 (c_M_isThrown hB h_r1) mv_M_isThrown ml_M_155 rfl rfl dX12_task_29 rfl rfl ⟨by decide, by decide⟩ ⟨by decide, by decide, by decide, by decide⟩ (Nat.le_of_ble_eq_true rfl) ?_
  refine me_if_eq C (tgt := 37) dX12_task_32 (by decide) (fun c3 => ?_) (fun c3 => ?_)
  · replace hf := me_ip c3 hf
    refine me_aload_n C 0 (Or.inr (Or.inl ⟨_, rfl⟩)) dX12_task_37 rfl rfl ?_
    refine me_getr C hB 39 (k' := 92) (i' := 0) fg_M_132 dX12_task_38 rfl rfl ?_
    refine me_aload_n C 0 (Or.inr (Or.inl ⟨_, rfl⟩)) dX12_task_41 rfl rfl ?_
    refine me_geti C 41 fg_M_159 dX12_task_42 rfl ?_
    refine me_iload_n C 1 dX12_task_45 rfl rfl ?_
    obtain ⟨g4, hf⟩ := me_gs hf
    obtain ⟨μ5, e_μ5, hf⟩ := me_lts hf
    refine me_iast C rfl (fun _ => rfl) g4 dX12_task_46 e_μ5 ?_
    refine me_aload_n C 0 (Or.inr (Or.inl ⟨_, rfl⟩)) dX12_task_47 rfl rfl ?_
    refine me_dup C rfl dX12_task_48 ?_
    refine me_geti C 41 fg_M_159 dX12_task_49 rfl ?_
    refine me_iconst C (v := 1) dX12_task_52 (by decide) ?_
    refine me_iadd C dX12_task_53 ?_
    obtain ⟨μ6, e_μ6, hf⟩ := me_lts hf
    refine me_puti C 41 fw_M_159 dX12_task_54 rfl (me_nri _) e_μ6 ?_
    refine me_aload_n C 0 (Or.inr (Or.inl ⟨_, rfl⟩)) dX12_task_57 rfl rfl ?_
    refine me_geti C 41 fg_M_159 dX12_task_58 rfl ?_
    refine me_iconst C (v := 1) dX12_task_61 (by decide) ?_
    refine me_isub C dX12_task_62 ?_
    exact me_iret C N dX12_task_63 (me_nri _) (by cases hf; rfl) (by decide) (by decide)
  · replace hf := me_in c3 hf
    refine me_iconst C (v := 0) dX12_task_35 (by decide) ?_
    exact me_iret C N dX12_task_36 (me_nri _) (by cases hf; rfl) (by decide) (by decide)
def f_M_task (μ : me_M) (v1 : Int32) : Option (me_M × Int32) :=
  me_bd (f_M_isNoNode μ v1) (fun r1 =>
  me_b2 (f_M_isThrown μ r1 (1 : Int32)) (fun μ3 r2 =>
  if r2 = 0 then
  (if (μ3 36 0 41) = (8 : Int32) then
  (f_M_task_b28 μ3 v1 (1 : Int32))
  else
  (f_M_task_b28 μ3 v1 (0 : Int32)))
  else
  (some (μ3, (0 : Int32)))))
set_option maxHeartbeats 4000000 in
set_option maxRecDepth 100000 in
theorem z_M_task {X : me_X} {B : me_B} {sz : Nat} (C : me_C X B RX12 cX12_task 2 (some .int)) {μ : me_M} {v1 : Int32}   {r : me_M × Int32} (N : me_En X B sz (B, r.1, .ok (some (me_i r.2))) 2 43 0 0) (hNx : me_Nx X) (hB : me_St B)   (hf : f_M_task μ v1 = some r) : me_Z X B 0 0 μ 0 [(0, me_r 36 0), (1, me_i v1)] [] := by
  unfold f_M_task at hf
  refine me_aload_n C 0 (Or.inr (Or.inl ⟨_, rfl⟩)) dX12_task_0 rfl rfl ?_
  refine me_aload_n C 0 (Or.inr (Or.inl ⟨_, rfl⟩)) dX12_task_1 rfl rfl ?_
  refine me_iload_n C 1 dX12_task_2 rfl rfl ?_
  obtain ⟨r1, h_r1, hf⟩ := me_bs hf
  refine me_callV C N  (As := [me_i v1]) (st := [me_r 36 0]) 0 0 (c_M_isNoNode hB h_r1) mv_M_isNoNode ml_M_165 rfl rfl dX12_task_3 rfl rfl ⟨by decide, by decide⟩ ⟨by decide, by decide, by decide, by decide⟩ (Nat.le_of_ble_eq_true rfl) ?_
  refine me_iconst C (v := 1) dX12_task_6 (by decide) ?_
  obtain ⟨μ3, r2, h_r2, hf⟩ := me_bs2 hf
  refine me_callV C N  (As := [me_i r1, me_i (1 : Int32)]) (st := []) 0 0 (c_M_isThrown hB h_r2) mv_M_isThrown ml_M_155 rfl rfl dX12_task_7 rfl rfl ⟨by decide, by decide⟩ ⟨by decide, by decide, by decide, by decide⟩ (Nat.le_of_ble_eq_true rfl) ?_
  refine me_if_ne C (tgt := 35) dX12_task_10 (by decide) (fun c4 => ?_) (fun c4 => ?_)
  · replace hf := me_in c4 hf
    refine me_iconst C (v := 0) dX12_task_35 (by decide) ?_
    exact me_iret C N dX12_task_36 (me_nri _) (by cases hf; rfl) (by decide) (by decide)
  · replace hf := me_ip c4 hf
    refine me_aload_n C 0 (Or.inr (Or.inl ⟨_, rfl⟩)) dX12_task_13 rfl rfl ?_
    refine me_aload_n C 0 (Or.inr (Or.inl ⟨_, rfl⟩)) dX12_task_14 rfl rfl ?_
    refine me_geti C 41 fg_M_159 dX12_task_15 rfl ?_
    refine me_bipush C (v := 8) dX12_task_18 (by decide) ?_
    refine me_icmp_ne C (tgt := 27) dX12_task_20 (by decide) (fun c5 => ?_) (fun c5 => ?_)
    · replace hf := me_in c5 hf
      refine me_iconst C (v := 0) dX12_task_27 (by decide) ?_
      refine me_dropI [(0, me_r 36 0), (1, me_i v1)] [0, 1] rfl ?_
      exact z_M_task_b28 C N hNx hB hf
    · replace hf := me_ip c5 hf
      refine me_iconst C (v := 1) dX12_task_23 (by decide) ?_
      refine me_goto C (tgt := 28) dX12_task_24 (by decide) ?_
      refine me_dropI [(0, me_r 36 0), (1, me_i v1)] [0, 1] rfl ?_
      exact z_M_task_b28 C N hNx hB hf
theorem c_M_task {B : me_B} (hB : me_St B) {μ : me_M} {v1 : Int32} {μ' : me_M} {r : Int32}  (hf : f_M_task μ v1 = some (μ', r)) : ∀ l E z, l.stackTraces = false → me_Met l yX12_task cX12_task 2 (some .int) 2 43 0 0 E B μ z [me_r 36 0, me_i v1] (B, μ', .ok (some (me_i r))) :=
  fun _ _ _ hl => me_ofZ hl (by decide +kernel) (Nat.le_of_ble_eq_true rfl) (fun _ C N hNx => z_M_task C N hNx hB  hf)

def f_M_isNoTask (μ : me_M) (v1 : Int32) : Option Int32 :=
  me_bd (f_M_isIn μ v1 (0 : Int32) ((μ 36 0 41) - (1 : Int32))) (fun r1 =>
  if r1 = 0 then
  (some (1 : Int32))
  else
  (some (0 : Int32)))
set_option maxHeartbeats 4000000 in
set_option maxRecDepth 100000 in
theorem z_M_isNoTask {X : me_X} {B : me_B} {sz : Nat} (C : me_C X B RX12 cX12_isNoTask 2 (some .boolean)) {μ : me_M} {v1 : Int32}   {r : Int32} (N : me_En X B sz (B, μ, .ok (some (me_i r))) 1 22 0 0) (hNx : me_Nx X) (hB : me_St B)   (hf : f_M_isNoTask μ v1 = some r) : me_Z X B 0 0 μ 0 [(0, me_r 36 0), (1, me_i v1)] [] := by
  unfold f_M_isNoTask at hf
  refine me_iload_n C 1 dX12_isNoTask_0 rfl rfl ?_
  refine me_iconst C (v := 0) dX12_isNoTask_1 (by decide) ?_
  refine me_aload_n C 0 (Or.inr (Or.inl ⟨_, rfl⟩)) dX12_isNoTask_2 rfl rfl ?_
  refine me_geti C 41 fg_M_159 dX12_isNoTask_3 rfl ?_
  refine me_iconst C (v := 1) dX12_isNoTask_6 (by decide) ?_
  refine me_isub C dX12_isNoTask_7 ?_
  obtain ⟨r1, h_r1, hf⟩ := me_bs hf
  refine me_callS C N  (As := [me_i v1, me_i (0 : Int32), me_i ((μ 36 0 41) - (1 : Int32))]) (st := []) 0 0 (c_M_isIn hB h_r1) ms_M_isIn ml_M_148 dX12_isNoTask_8 rfl rfl ⟨by decide, by decide⟩ ⟨by decide, by decide, by decide, by decide⟩ (Nat.le_of_ble_eq_true rfl) ?_
  refine me_if_ne C (tgt := 18) dX12_isNoTask_11 (by decide) (fun c2 => ?_) (fun c2 => ?_)
  · replace hf := me_in c2 hf
    refine me_iconst C (v := 0) dX12_isNoTask_18 (by decide) ?_
    exact me_iret C N dX12_isNoTask_19 (by decide +kernel) (by cases hf; rfl) (by decide) (by decide)
  · replace hf := me_ip c2 hf
    refine me_iconst C (v := 1) dX12_isNoTask_14 (by decide) ?_
    refine me_goto C (tgt := 19) dX12_isNoTask_15 (by decide) ?_
    exact me_iret C N dX12_isNoTask_19 (by decide +kernel) (by cases hf; rfl) (by decide) (by decide)
theorem c_M_isNoTask {B : me_B} (hB : me_St B) {μ : me_M} {v1 : Int32} {r : Int32}  (hf : f_M_isNoTask μ v1 = some r) : ∀ l E z, l.stackTraces = false → me_Met l yX12_isNoTask cX12_isNoTask 2 (some .boolean) 1 22 0 0 E B μ z [me_r 36 0, me_i v1] (B, μ, .ok (some (me_i r))) :=
  fun _ _ _ hl => me_ofZ hl (by decide +kernel) (Nat.le_of_ble_eq_true rfl) (fun _ C N hNx => z_M_isNoTask C N hNx hB  hf)

def f_M_traffic_b50 (μ : me_M) (v1 : Int32) (v2 : Int32) (v3 : Int32) (s0 : Int32) : Option (me_M × Int32) :=
  me_b2 (f_M_isThrown μ s0 (2 : Int32)) (fun μ2 r1 =>
  if r1 = 0 then
  (me_gd (me_inb v1 8) (
  me_gd (me_inb v2 8) (
  me_lt ((μ2 84 (me_ix v1) (me_ix v2))) (fun x6 =>
  me_gd (me_inb v1 8) (
  me_gd (me_inb v2 8) (
  me_lt (me_up μ2 84 (me_ix v1) (me_ix v2) v3) (fun μ9 =>
  me_gd (me_inb v2 8) (
  me_gd (me_inb v1 8) (
  me_lt (me_up μ9 84 (me_ix v2) (me_ix v1) v3) (fun μ12 =>
  some (μ12, x6)))))))))))
  else
  (some (μ2, (0 : Int32))))
set_option maxHeartbeats 4000000 in
set_option maxRecDepth 100000 in
theorem z_M_traffic_b50 {X : me_X} {B : me_B} {sz : Nat} (C : me_C X B RX12 cX12_traffic 5 (some .int)) {μ : me_M} {v1 : Int32} {v2 : Int32} {v3 : Int32} {s0 : Int32}   {r : me_M × Int32} (N : me_En X B sz (B, r.1, .ok (some (me_i r.2))) 2 43 0 0) (hNx : me_Nx X) (hB : me_St B)   (hf : f_M_traffic_b50 μ v1 v2 v3 s0 = some r) : me_Z X B 0 0 μ 50 [(0, me_r 36 0), (1, me_i v1), (2, me_i v2), (3, me_i v3)] [me_i s0, me_r 36 0] := by
  unfold f_M_traffic_b50 at hf
  refine me_iconst C (v := 2) dX12_traffic_50 (by decide) ?_
  obtain ⟨μ2, r1, h_r1, hf⟩ := me_bs2 hf
  refine me_callV C N  (As := [me_i s0, me_i (2 : Int32)]) (st := []) 0 0 (c_M_isThrown hB h_r1) mv_M_isThrown ml_M_155 rfl rfl dX12_traffic_51 rfl rfl ⟨by decide, by decide⟩ ⟨by decide, by decide, by decide, by decide⟩ (Nat.le_of_ble_eq_true rfl) ?_
  refine me_if_eq C (tgt := 59) dX12_traffic_54 (by decide) (fun c3 => ?_) (fun c3 => ?_)
  · replace hf := me_ip c3 hf
    refine me_aload_n C 0 (Or.inr (Or.inl ⟨_, rfl⟩)) dX12_traffic_59 rfl rfl ?_
    refine me_getr C hB 40 (k' := 83) (i' := 0) fg_M_135 dX12_traffic_60 rfl rfl ?_
    refine me_iload_n C 1 dX12_traffic_63 rfl rfl ?_
    obtain ⟨g4, hf⟩ := me_gs hf
    refine me_aald C hB (k' := 84) (i' := (me_ix v1)) rfl (fun _ => rfl) rfl g4 dX12_traffic_64 rfl ?_
    refine me_iload_n C 2 dX12_traffic_65 rfl rfl ?_
    obtain ⟨g5, hf⟩ := me_gs hf
    refine me_iald C rfl (fun _ => rfl) g5 dX12_traffic_66 ?_
    obtain ⟨x6, e_x6, hf⟩ := me_lts hf
    refine me_nm e_x6 ?_
    refine me_istore C dX12_traffic_67 (by decide) (L' := [(4, me_i x6), (0, me_r 36 0), (1, me_i v1), (2, me_i v2), (3, me_i v3)]) rfl ?_
    refine me_aload_n C 0 (Or.inr (Or.inl ⟨_, rfl⟩)) dX12_traffic_69 rfl rfl ?_
    refine me_getr C hB 40 (k' := 83) (i' := 0) fg_M_135 dX12_traffic_70 rfl rfl ?_
    refine me_iload_n C 1 dX12_traffic_73 rfl rfl ?_
    obtain ⟨g7, hf⟩ := me_gs hf
    refine me_aald C hB (k' := 84) (i' := (me_ix v1)) rfl (fun _ => rfl) rfl g7 dX12_traffic_74 rfl ?_
    refine me_iload_n C 2 dX12_traffic_75 rfl rfl ?_
    refine me_iload_n C 3 dX12_traffic_76 rfl rfl ?_
    obtain ⟨g8, hf⟩ := me_gs hf
    obtain ⟨μ9, e_μ9, hf⟩ := me_lts hf
    refine me_iast C rfl (fun _ => rfl) g8 dX12_traffic_77 e_μ9 ?_
    refine me_aload_n C 0 (Or.inr (Or.inl ⟨_, rfl⟩)) dX12_traffic_78 rfl rfl ?_
    refine me_getr C hB 40 (k' := 83) (i' := 0) fg_M_135 dX12_traffic_79 rfl rfl ?_
    refine me_iload_n C 2 dX12_traffic_82 rfl rfl ?_
    obtain ⟨g10, hf⟩ := me_gs hf
    refine me_aald C hB (k' := 84) (i' := (me_ix v2)) rfl (fun _ => rfl) rfl g10 dX12_traffic_83 rfl ?_
    refine me_iload_n C 1 dX12_traffic_84 rfl rfl ?_
    refine me_iload_n C 3 dX12_traffic_85 rfl rfl ?_
    obtain ⟨g11, hf⟩ := me_gs hf
    obtain ⟨μ12, e_μ12, hf⟩ := me_lts hf
    refine me_iast C rfl (fun _ => rfl) g11 dX12_traffic_86 e_μ12 ?_
    refine me_iload C dX12_traffic_87 rfl ?_
    exact me_iret C N dX12_traffic_89 (me_nri _) (by cases hf; rfl) (by decide) (by decide)
  · replace hf := me_in c3 hf
    refine me_iconst C (v := 0) dX12_traffic_57 (by decide) ?_
    exact me_iret C N dX12_traffic_58 (me_nri _) (by cases hf; rfl) (by decide) (by decide)
def f_M_traffic_b45 (μ : me_M) (v1 : Int32) (v2 : Int32) (v3 : Int32) : Option (me_M × Int32) :=
  f_M_traffic_b50 μ v1 v2 v3 (1 : Int32)
set_option maxHeartbeats 4000000 in
set_option maxRecDepth 100000 in
theorem z_M_traffic_b45 {X : me_X} {B : me_B} {sz : Nat} (C : me_C X B RX12 cX12_traffic 5 (some .int)) {μ : me_M} {v1 : Int32} {v2 : Int32} {v3 : Int32}   {r : me_M × Int32} (N : me_En X B sz (B, r.1, .ok (some (me_i r.2))) 2 43 0 0) (hNx : me_Nx X) (hB : me_St B)   (hf : f_M_traffic_b45 μ v1 v2 v3 = some r) : me_Z X B 0 0 μ 45 [(0, me_r 36 0), (1, me_i v1), (2, me_i v2), (3, me_i v3)] [me_r 36 0] := by
  unfold f_M_traffic_b45 at hf
  refine me_iconst C (v := 1) dX12_traffic_45 (by decide) ?_
  refine me_goto C (tgt := 50) dX12_traffic_46 (by decide) ?_
  refine me_dropI [(0, me_r 36 0), (1, me_i v1), (2, me_i v2), (3, me_i v3)] [0, 1, 2, 3] rfl ?_
  exact z_M_traffic_b50 C N hNx hB hf
def f_M_traffic_b22 (μ : me_M) (v1 : Int32) (v2 : Int32) (v3 : Int32) (s0 : Int32) : Option (me_M × Int32) :=
  me_b2 (f_M_isThrown μ s0 (1 : Int32)) (fun μ2 r1 =>
  if r1 = 0 then
  (if v1 = v2 then
  (f_M_traffic_b45 μ2 v1 v2 v3)
  else
  (me_bd (f_M_isIn μ2 v3 (0 : Int32) (99 : Int32)) (fun r5 =>
  if r5 = 0 then
  (f_M_traffic_b45 μ2 v1 v2 v3)
  else
  (f_M_traffic_b50 μ2 v1 v2 v3 (0 : Int32)))))
  else
  (some (μ2, (0 : Int32))))
set_option maxHeartbeats 4000000 in
set_option maxRecDepth 100000 in
theorem z_M_traffic_b22 {X : me_X} {B : me_B} {sz : Nat} (C : me_C X B RX12 cX12_traffic 5 (some .int)) {μ : me_M} {v1 : Int32} {v2 : Int32} {v3 : Int32} {s0 : Int32}   {r : me_M × Int32} (N : me_En X B sz (B, r.1, .ok (some (me_i r.2))) 2 43 0 0) (hNx : me_Nx X) (hB : me_St B)   (hf : f_M_traffic_b22 μ v1 v2 v3 s0 = some r) : me_Z X B 0 0 μ 22 [(0, me_r 36 0), (1, me_i v1), (2, me_i v2), (3, me_i v3)] [me_i s0, me_r 36 0] := by
  unfold f_M_traffic_b22 at hf
  refine me_iconst C (v := 1) dX12_traffic_22 (by decide) ?_
  obtain ⟨μ2, r1, h_r1, hf⟩ := me_bs2 hf
  refine me_callV C N  (As := [me_i s0, me_i (1 : Int32)]) (st := []) 0 0 (c_M_isThrown hB h_r1) mv_M_isThrown ml_M_155 rfl rfl dX12_traffic_23 rfl rfl ⟨by decide, by decide⟩ ⟨by decide, by decide, by decide, by decide⟩ (Nat.le_of_ble_eq_true rfl) ?_
  refine me_if_ne C (tgt := 57) dX12_traffic_26 (by decide) (fun c3 => ?_) (fun c3 => ?_)
  · replace hf := me_in c3 hf
    refine me_iconst C (v := 0) dX12_traffic_57 (by decide) ?_
    exact me_iret C N dX12_traffic_58 (me_nri _) (by cases hf; rfl) (by decide) (by decide)
  · replace hf := me_ip c3 hf
    refine me_aload_n C 0 (Or.inr (Or.inl ⟨_, rfl⟩)) dX12_traffic_29 rfl rfl ?_
    refine me_iload_n C 1 dX12_traffic_30 rfl rfl ?_
    refine me_iload_n C 2 dX12_traffic_31 rfl rfl ?_
    refine me_icmp_eq C (tgt := 45) dX12_traffic_32 (by decide) (fun c4 => ?_) (fun c4 => ?_)
    · replace hf := me_ip c4 hf
      refine me_dropI [(0, me_r 36 0), (1, me_i v1), (2, me_i v2), (3, me_i v3)] [0, 1, 2, 3] rfl ?_
      exact z_M_traffic_b45 C N hNx hB hf
    · replace hf := me_in c4 hf
      refine me_iload_n C 3 dX12_traffic_35 rfl rfl ?_
      refine me_iconst C (v := 0) dX12_traffic_36 (by decide) ?_
      refine me_bipush C (v := 99) dX12_traffic_37 (by decide) ?_
      obtain ⟨r5, h_r5, hf⟩ := me_bs hf
      refine me_callS C N  (As := [me_i v3, me_i (0 : Int32), me_i (99 : Int32)]) (st := [me_r 36 0]) 0 0 (c_M_isIn hB h_r5) ms_M_isIn ml_M_148 dX12_traffic_39 rfl rfl ⟨by decide, by decide⟩ ⟨by decide, by decide, by decide, by decide⟩ (Nat.le_of_ble_eq_true rfl) ?_
      refine me_if_ne C (tgt := 49) dX12_traffic_42 (by decide) (fun c6 => ?_) (fun c6 => ?_)
      · replace hf := me_in c6 hf
        refine me_iconst C (v := 0) dX12_traffic_49 (by decide) ?_
        refine me_dropI [(0, me_r 36 0), (1, me_i v1), (2, me_i v2), (3, me_i v3)] [0, 1, 2, 3] rfl ?_
        exact z_M_traffic_b50 C N hNx hB hf
      · replace hf := me_ip c6 hf
        refine me_dropI [(0, me_r 36 0), (1, me_i v1), (2, me_i v2), (3, me_i v3)] [0, 1, 2, 3] rfl ?_
        exact z_M_traffic_b45 C N hNx hB hf
def f_M_traffic_b17 (μ : me_M) (v1 : Int32) (v2 : Int32) (v3 : Int32) : Option (me_M × Int32) :=
  f_M_traffic_b22 μ v1 v2 v3 (1 : Int32)
set_option maxHeartbeats 4000000 in
set_option maxRecDepth 100000 in
theorem z_M_traffic_b17 {X : me_X} {B : me_B} {sz : Nat} (C : me_C X B RX12 cX12_traffic 5 (some .int)) {μ : me_M} {v1 : Int32} {v2 : Int32} {v3 : Int32}   {r : me_M × Int32} (N : me_En X B sz (B, r.1, .ok (some (me_i r.2))) 2 43 0 0) (hNx : me_Nx X) (hB : me_St B)   (hf : f_M_traffic_b17 μ v1 v2 v3 = some r) : me_Z X B 0 0 μ 17 [(0, me_r 36 0), (1, me_i v1), (2, me_i v2), (3, me_i v3)] [me_r 36 0] := by
  unfold f_M_traffic_b17 at hf
  refine me_iconst C (v := 1) dX12_traffic_17 (by decide) ?_
  refine me_goto C (tgt := 22) dX12_traffic_18 (by decide) ?_
  refine me_dropI [(0, me_r 36 0), (1, me_i v1), (2, me_i v2), (3, me_i v3)] [0, 1, 2, 3] rfl ?_
  exact z_M_traffic_b22 C N hNx hB hf
def f_M_traffic (μ : me_M) (v1 : Int32) (v2 : Int32) (v3 : Int32) : Option (me_M × Int32) :=
  me_bd (f_M_isNoTask μ v1) (fun r1 =>
  if r1 = 0 then
  (me_bd (f_M_isNoTask μ v2) (fun r3 =>
  if r3 = 0 then
  (f_M_traffic_b22 μ v1 v2 v3 (0 : Int32))
  else
  (f_M_traffic_b17 μ v1 v2 v3)))
  else
  (f_M_traffic_b17 μ v1 v2 v3))
set_option maxHeartbeats 4000000 in
set_option maxRecDepth 100000 in
theorem z_M_traffic {X : me_X} {B : me_B} {sz : Nat} (C : me_C X B RX12 cX12_traffic 5 (some .int)) {μ : me_M} {v1 : Int32} {v2 : Int32} {v3 : Int32}   {r : me_M × Int32} (N : me_En X B sz (B, r.1, .ok (some (me_i r.2))) 2 43 0 0) (hNx : me_Nx X) (hB : me_St B)   (hf : f_M_traffic μ v1 v2 v3 = some r) : me_Z X B 0 0 μ 0 [(0, me_r 36 0), (1, me_i v1), (2, me_i v2), (3, me_i v3)] [] := by
  unfold f_M_traffic at hf
  refine me_aload_n C 0 (Or.inr (Or.inl ⟨_, rfl⟩)) dX12_traffic_0 rfl rfl ?_
  refine me_aload_n C 0 (Or.inr (Or.inl ⟨_, rfl⟩)) dX12_traffic_1 rfl rfl ?_
  refine me_iload_n C 1 dX12_traffic_2 rfl rfl ?_
  obtain ⟨r1, h_r1, hf⟩ := me_bs hf
  refine me_callV C N  (As := [me_i v1]) (st := [me_r 36 0]) 0 0 (c_M_isNoTask hB h_r1) mv_M_isNoTask ml_M_308 rfl rfl dX12_traffic_3 rfl rfl ⟨by decide, by decide⟩ ⟨by decide, by decide, by decide, by decide⟩ (Nat.le_of_ble_eq_true rfl) ?_
  refine me_if_ne C (tgt := 17) dX12_traffic_6 (by decide) (fun c2 => ?_) (fun c2 => ?_)
  · replace hf := me_in c2 hf
    refine me_dropI [(0, me_r 36 0), (1, me_i v1), (2, me_i v2), (3, me_i v3)] [0, 1, 2, 3] rfl ?_
    exact z_M_traffic_b17 C N hNx hB hf
  · replace hf := me_ip c2 hf
    refine me_aload_n C 0 (Or.inr (Or.inl ⟨_, rfl⟩)) dX12_traffic_9 rfl rfl ?_
    refine me_iload_n C 2 dX12_traffic_10 rfl rfl ?_
    obtain ⟨r3, h_r3, hf⟩ := me_bs hf
    refine me_callV C N  (As := [me_i v2]) (st := [me_r 36 0]) 0 0 (c_M_isNoTask hB h_r3) mv_M_isNoTask ml_M_308 rfl rfl dX12_traffic_11 rfl rfl ⟨by decide, by decide⟩ ⟨by decide, by decide, by decide, by decide⟩ (Nat.le_of_ble_eq_true rfl) ?_
    refine me_if_eq C (tgt := 21) dX12_traffic_14 (by decide) (fun c4 => ?_) (fun c4 => ?_)
    · replace hf := me_ip c4 hf
      refine me_iconst C (v := 0) dX12_traffic_21 (by decide) ?_
      refine me_dropI [(0, me_r 36 0), (1, me_i v1), (2, me_i v2), (3, me_i v3)] [0, 1, 2, 3] rfl ?_
      exact z_M_traffic_b22 C N hNx hB hf
    · replace hf := me_in c4 hf
      refine me_dropI [(0, me_r 36 0), (1, me_i v1), (2, me_i v2), (3, me_i v3)] [0, 1, 2, 3] rfl ?_
      exact z_M_traffic_b17 C N hNx hB hf
theorem c_M_traffic {B : me_B} (hB : me_St B) {μ : me_M} {v1 : Int32} {v2 : Int32} {v3 : Int32} {μ' : me_M} {r : Int32}  (hf : f_M_traffic μ v1 v2 v3 = some (μ', r)) : ∀ l E z, l.stackTraces = false → me_Met l yX12_traffic cX12_traffic 5 (some .int) 2 43 0 0 E B μ z [me_r 36 0, me_i v1, me_i v2, me_i v3] (B, μ', .ok (some (me_i r))) :=
  fun _ _ _ hl => me_ofZ hl (by decide +kernel) (Nat.le_of_ble_eq_true rfl) (fun _ C N hNx => z_M_traffic C N hNx hB  hf)

def f_M_stepsOf (μ : me_M) (v1 : Int32) (v2 : Int32) : Option Int32 :=
  me_gd (me_nz (μ 36 0 0)) (
  me_gd (me_nz (μ 36 0 0)) (
  me_gd (me_nz (μ 36 0 0)) (
  me_gd (me_nz (μ 36 0 0)) (
  some ((me_abs' ((me_rem v1 (μ 36 0 0)) - (me_rem v2 (μ 36 0 0)))) + (me_abs' ((v1 / (μ 36 0 0)) - (v2 / (μ 36 0 0)))))))))
set_option maxHeartbeats 4000000 in
set_option maxRecDepth 100000 in
theorem z_M_stepsOf {X : me_X} {B : me_B} {sz : Nat} (C : me_C X B RX12 cX12_stepsOf 3 (some .int)) {μ : me_M} {v1 : Int32} {v2 : Int32}   {r : Int32} (N : me_En X B sz (B, μ, .ok (some (me_i r))) 1 24 0 0) (hNx : me_Nx X) (hB : me_St B)   (hf : f_M_stepsOf μ v1 v2 = some r) : me_Z X B 0 0 μ 0 [(0, me_r 36 0), (1, me_i v1), (2, me_i v2)] [] := by
  unfold f_M_stepsOf at hf
  refine me_iload_n C 1 dX12_stepsOf_0 rfl rfl ?_
  refine me_aload_n C 0 (Or.inr (Or.inl ⟨_, rfl⟩)) dX12_stepsOf_1 rfl rfl ?_
  refine me_geti C 0 fg_M_7 dX12_stepsOf_2 rfl ?_
  obtain ⟨g1, hf⟩ := me_gs hf
  refine me_irem C dX12_stepsOf_5 (me_nzs g1) ?_
  refine me_iload_n C 2 dX12_stepsOf_6 rfl rfl ?_
  refine me_aload_n C 0 (Or.inr (Or.inl ⟨_, rfl⟩)) dX12_stepsOf_7 rfl rfl ?_
  refine me_geti C 0 fg_M_7 dX12_stepsOf_8 rfl ?_
  obtain ⟨g2, hf⟩ := me_gs hf
  refine me_irem C dX12_stepsOf_11 (me_nzs g2) ?_
  refine me_isub C dX12_stepsOf_12 ?_
  refine me_mabs C N bl_M_311 dX12_stepsOf_13 ⟨by decide, by decide⟩ (Nat.le_of_ble_eq_true rfl) (by decide) (by decide) ?_
  refine me_iload_n C 1 dX12_stepsOf_16 rfl rfl ?_
  refine me_aload_n C 0 (Or.inr (Or.inl ⟨_, rfl⟩)) dX12_stepsOf_17 rfl rfl ?_
  refine me_geti C 0 fg_M_7 dX12_stepsOf_18 rfl ?_
  obtain ⟨g3, hf⟩ := me_gs hf
  refine me_idiv C dX12_stepsOf_21 (me_nzs g3) ?_
  refine me_iload_n C 2 dX12_stepsOf_22 rfl rfl ?_
  refine me_aload_n C 0 (Or.inr (Or.inl ⟨_, rfl⟩)) dX12_stepsOf_23 rfl rfl ?_
  refine me_geti C 0 fg_M_7 dX12_stepsOf_24 rfl ?_
  obtain ⟨g4, hf⟩ := me_gs hf
  refine me_idiv C dX12_stepsOf_27 (me_nzs g4) ?_
  refine me_isub C dX12_stepsOf_28 ?_
  refine me_mabs C N bl_M_311 dX12_stepsOf_29 ⟨by decide, by decide⟩ (Nat.le_of_ble_eq_true rfl) (by decide) (by decide) ?_
  refine me_iadd C dX12_stepsOf_32 ?_
  exact me_iret C N dX12_stepsOf_33 (me_nri _) (by cases hf; rfl) (by decide) (by decide)
theorem c_M_stepsOf {B : me_B} (hB : me_St B) {μ : me_M} {v1 : Int32} {v2 : Int32} {r : Int32}  (hf : f_M_stepsOf μ v1 v2 = some r) : ∀ l E z, l.stackTraces = false → me_Met l yX12_stepsOf cX12_stepsOf 3 (some .int) 1 24 0 0 E B μ z [me_r 36 0, me_i v1, me_i v2] (B, μ, .ok (some (me_i r))) :=
  fun _ _ _ hl => me_ofZ hl (by decide +kernel) (Nat.le_of_ble_eq_true rfl) (fun _ C N hNx => z_M_stepsOf C N hNx hB  hf)

def f_M_costNow_b14 (μ : me_M) (K4 : Int32 → Int32 → Option Int32) (K14 : Int32 → Int32 → Int32 → Option Int32) (v1 : Int32) (v2 : Int32) (v3 : Int32) : Option Int32 :=
  if v2 ≤ v3 then
  (me_lt (me_inc v2 (1)) (fun x2 =>
  K4 v1 x2))
  else
  (me_gd (me_inb v2 8) (
  me_gd (me_inb v3 8) (
  me_gd (me_inb v2 8) (
  me_gd (me_inb v3 8) (
  me_bd (f_M_stepsOf μ (μ 92 0 (me_ix v2)) (μ 92 0 (me_ix v3))) (fun r7 =>
  me_lt ((v1 + ((μ 84 (me_ix v2) (me_ix v3)) * r7))) (fun x8 =>
  me_lt (me_inc v3 (1)) (fun x9 =>
  K14 x8 v2 x9))))))))
set_option maxHeartbeats 4000000 in
set_option maxRecDepth 100000 in
theorem z_M_costNow_b14 {X : me_X} {B : me_B} {sz : Nat} (C : me_C X B RX12 cX12_costNow 4 (some .int)) {μ : me_M} {v1 : Int32} {v2 : Int32} {v3 : Int32}  {K4 : Int32 → Int32 → Option Int32} {K14 : Int32 → Int32 → Int32 → Option Int32} {r : Int32} (N : me_En X B sz (B, μ, .ok (some (me_i r))) 2 46 0 0) (hNx : me_Nx X) (hB : me_St B) (hK4 : ∀ (v1 : Int32) (v2 : Int32), K4 v1 v2 = some r → me_Z X B 0 0 μ 4 [(0, me_r 36 0), (1, me_i v1), (2, me_i v2)] []) (hK14 : ∀ (v1 : Int32) (v2 : Int32) (v3 : Int32), K14 v1 v2 v3 = some r → me_Z X B 0 0 μ 14 [(0, me_r 36 0), (1, me_i v1), (2, me_i v2), (3, me_i v3)] [])  (hf : f_M_costNow_b14 μ K4 K14 v1 v2 v3 = some r) : me_Z X B 0 0 μ 14 [(0, me_r 36 0), (1, me_i v1), (2, me_i v2), (3, me_i v3)] [] := by
  unfold f_M_costNow_b14 at hf
  refine me_iload_n C 3 dX12_costNow_14 rfl rfl ?_
  refine me_iload_n C 2 dX12_costNow_15 rfl rfl ?_
  refine me_icmp_ge C (tgt := 53) dX12_costNow_16 (by decide) (fun c1 => ?_) (fun c1 => ?_)
  · replace hf := me_ip c1 hf
    obtain ⟨x2, e_x2, hf⟩ := me_lts hf
    refine me_iinc C (v := x2) (L' := [(2, me_i x2), (0, me_r 36 0), (1, me_i v1), (3, me_i v3)]) dX12_costNow_53 rfl e_x2.symm (by decide) rfl ?_
    refine me_goto C (tgt := 4) dX12_costNow_56 (by decide) ?_
    refine me_dropI [(0, me_r 36 0), (1, me_i v1), (2, me_i x2)] [1, 2, 0] rfl ?_
    exact hK4 v1 x2 hf
  · replace hf := me_in c1 hf
    refine me_iload_n C 1 dX12_costNow_19 rfl rfl ?_
    refine me_aload_n C 0 (Or.inr (Or.inl ⟨_, rfl⟩)) dX12_costNow_20 rfl rfl ?_
    refine me_getr C hB 40 (k' := 83) (i' := 0) fg_M_135 dX12_costNow_21 rfl rfl ?_
    refine me_iload_n C 2 dX12_costNow_24 rfl rfl ?_
    obtain ⟨g3, hf⟩ := me_gs hf
    refine me_aald C hB (k' := 84) (i' := (me_ix v2)) rfl (fun _ => rfl) rfl g3 dX12_costNow_25 rfl ?_
    refine me_iload_n C 3 dX12_costNow_26 rfl rfl ?_
    obtain ⟨g4, hf⟩ := me_gs hf
    refine me_iald C rfl (fun _ => rfl) g4 dX12_costNow_27 ?_
    refine me_aload_n C 0 (Or.inr (Or.inl ⟨_, rfl⟩)) dX12_costNow_28 rfl rfl ?_
    refine me_aload_n C 0 (Or.inr (Or.inl ⟨_, rfl⟩)) dX12_costNow_29 rfl rfl ?_
    refine me_getr C hB 39 (k' := 92) (i' := 0) fg_M_132 dX12_costNow_30 rfl rfl ?_
    refine me_iload_n C 2 dX12_costNow_33 rfl rfl ?_
    obtain ⟨g5, hf⟩ := me_gs hf
    refine me_iald C rfl (fun _ => rfl) g5 dX12_costNow_34 ?_
    refine me_aload_n C 0 (Or.inr (Or.inl ⟨_, rfl⟩)) dX12_costNow_35 rfl rfl ?_
    refine me_getr C hB 39 (k' := 92) (i' := 0) fg_M_132 dX12_costNow_36 rfl rfl ?_
    refine me_iload_n C 3 dX12_costNow_39 rfl rfl ?_
    obtain ⟨g6, hf⟩ := me_gs hf
    refine me_iald C rfl (fun _ => rfl) g6 dX12_costNow_40 ?_
    obtain ⟨r7, h_r7, hf⟩ := me_bs hf
    refine me_callV C N  (As := [me_i (μ 92 0 (me_ix v2)), me_i (μ 92 0 (me_ix v3))]) (st := [me_i (μ 84 (me_ix v2) (me_ix v3)), me_i v1]) 0 0 (c_M_stepsOf hB h_r7) mv_M_stepsOf ml_M_316 rfl rfl dX12_costNow_41 rfl rfl ⟨by decide, by decide⟩ ⟨by decide, by decide, by decide, by decide⟩ (Nat.le_of_ble_eq_true rfl) ?_
    refine me_imul C dX12_costNow_44 ?_
    refine me_iadd C dX12_costNow_45 ?_
    obtain ⟨x8, e_x8, hf⟩ := me_lts hf
    refine me_nm e_x8 ?_
    refine me_istore_n C 1 dX12_costNow_46 rfl (by decide) (L' := [(1, me_i x8), (0, me_r 36 0), (2, me_i v2), (3, me_i v3)]) rfl ?_
    obtain ⟨x9, e_x9, hf⟩ := me_lts hf
    refine me_iinc C (v := x9) (L' := [(3, me_i x9), (1, me_i x8), (0, me_r 36 0), (2, me_i v2)]) dX12_costNow_47 rfl e_x9.symm (by decide) rfl ?_
    refine me_goto C (tgt := 14) dX12_costNow_50 (by decide) ?_
    refine me_dropI [(0, me_r 36 0), (1, me_i x8), (2, me_i v2), (3, me_i x9)] [2, 1, 3, 0] rfl ?_
    exact hK14 x8 v2 x9 hf
def f_M_costNow_h14 (μ : me_M) (K4 : Int32 → Int32 → Option Int32) : Nat → Int32 → Int32 → Int32 → Option Int32
  | 0, _, _, _ => none
  | n + 1, v1, v2, v3 => f_M_costNow_b14 μ K4 (f_M_costNow_h14 μ K4 n) v1 v2 v3
set_option maxHeartbeats 4000000 in
set_option maxRecDepth 100000 in
theorem z_M_costNow_h14 {X : me_X} {B : me_B} {sz : Nat} (C : me_C X B RX12 cX12_costNow 4 (some .int)) {μ : me_M} {K4 : Int32 → Int32 → Option Int32} {r : Int32} (N : me_En X B sz (B, μ, .ok (some (me_i r))) 2 46 0 0) (hNx : me_Nx X) (hB : me_St B) (hK4 : ∀ (v1 : Int32) (v2 : Int32), K4 v1 v2 = some r → me_Z X B 0 0 μ 4 [(0, me_r 36 0), (1, me_i v1), (2, me_i v2)] []) : ∀ (n : Nat) (v1 : Int32) (v2 : Int32) (v3 : Int32), f_M_costNow_h14 μ K4 n v1 v2 v3 = some r → me_Z X B 0 0 μ 14 [(0, me_r 36 0), (1, me_i v1), (2, me_i v2), (3, me_i v3)] [] := by
  intro n
  induction n with
  | zero => intro v1 v2 v3  h; exact absurd (show (none : Option Int32) = some r from h) (fun q => by cases q)
  | succ n ih => intro v1 v2 v3  h; exact z_M_costNow_b14 C N hNx hB hK4 (K14 := f_M_costNow_h14 μ K4 n) ih  h
def f_M_costNow_b4 (μ : me_M) (K4 : Int32 → Int32 → Option Int32) (v1 : Int32) (v2 : Int32) : Option Int32 :=
  if (μ 36 0 41) ≤ v2 then
  (some v1)
  else
  (f_M_costNow_h14 μ K4 me_FU v1 v2 (0 : Int32))
set_option maxHeartbeats 4000000 in
set_option maxRecDepth 100000 in
theorem z_M_costNow_b4 {X : me_X} {B : me_B} {sz : Nat} (C : me_C X B RX12 cX12_costNow 4 (some .int)) {μ : me_M} {v1 : Int32} {v2 : Int32}  {K4 : Int32 → Int32 → Option Int32} {r : Int32} (N : me_En X B sz (B, μ, .ok (some (me_i r))) 2 46 0 0) (hNx : me_Nx X) (hB : me_St B) (hK4 : ∀ (v1 : Int32) (v2 : Int32), K4 v1 v2 = some r → me_Z X B 0 0 μ 4 [(0, me_r 36 0), (1, me_i v1), (2, me_i v2)] [])  (hf : f_M_costNow_b4 μ K4 v1 v2 = some r) : me_Z X B 0 0 μ 4 [(0, me_r 36 0), (1, me_i v1), (2, me_i v2)] [] := by
  unfold f_M_costNow_b4 at hf
  refine me_iload_n C 2 dX12_costNow_4 rfl rfl ?_
  refine me_aload_n C 0 (Or.inr (Or.inl ⟨_, rfl⟩)) dX12_costNow_5 rfl rfl ?_
  refine me_geti C 41 fg_M_159 dX12_costNow_6 rfl ?_
  refine me_icmp_ge C (tgt := 59) dX12_costNow_9 (by decide) (fun c1 => ?_) (fun c1 => ?_)
  · replace hf := me_ip c1 hf
    refine me_iload_n C 1 dX12_costNow_59 rfl rfl ?_
    exact me_iret C N dX12_costNow_60 (me_nri _) (by cases hf; rfl) (by decide) (by decide)
  · replace hf := me_in c1 hf
    refine me_iconst C (v := 0) dX12_costNow_12 (by decide) ?_
    refine me_istore_n C 3 dX12_costNow_13 rfl (by decide) (L' := [(3, me_i (0 : Int32)), (0, me_r 36 0), (1, me_i v1), (2, me_i v2)]) rfl ?_
    refine me_dropI [(0, me_r 36 0), (1, me_i v1), (2, me_i v2), (3, me_i (0 : Int32))] [1, 2, 3, 0] rfl ?_
    exact z_M_costNow_h14 C N hNx hB hK4 me_FU v1 v2 (0 : Int32) hf
def f_M_costNow_h4 (μ : me_M) : Nat → Int32 → Int32 → Option Int32
  | 0, _, _ => none
  | n + 1, v1, v2 => f_M_costNow_b4 μ (f_M_costNow_h4 μ n) v1 v2
set_option maxHeartbeats 4000000 in
set_option maxRecDepth 100000 in
theorem z_M_costNow_h4 {X : me_X} {B : me_B} {sz : Nat} (C : me_C X B RX12 cX12_costNow 4 (some .int)) {μ : me_M}  {r : Int32} (N : me_En X B sz (B, μ, .ok (some (me_i r))) 2 46 0 0) (hNx : me_Nx X) (hB : me_St B)  : ∀ (n : Nat) (v1 : Int32) (v2 : Int32), f_M_costNow_h4 μ n v1 v2 = some r → me_Z X B 0 0 μ 4 [(0, me_r 36 0), (1, me_i v1), (2, me_i v2)] [] := by
  intro n
  induction n with
  | zero => intro v1 v2  h; exact absurd (show (none : Option Int32) = some r from h) (fun q => by cases q)
  | succ n ih => intro v1 v2  h; exact z_M_costNow_b4 C N hNx hB  (K4 := f_M_costNow_h4 μ n) ih  h
def f_M_costNow (μ : me_M) : Option Int32 :=
  f_M_costNow_h4 μ me_FU (0 : Int32) (0 : Int32)
set_option maxHeartbeats 4000000 in
set_option maxRecDepth 100000 in
theorem z_M_costNow {X : me_X} {B : me_B} {sz : Nat} (C : me_C X B RX12 cX12_costNow 4 (some .int)) {μ : me_M}    {r : Int32} (N : me_En X B sz (B, μ, .ok (some (me_i r))) 2 46 0 0) (hNx : me_Nx X) (hB : me_St B)   (hf : f_M_costNow μ = some r) : me_Z X B 0 0 μ 0 [(0, me_r 36 0)] [] := by
  unfold f_M_costNow at hf
  refine me_iconst C (v := 0) dX12_costNow_0 (by decide) ?_
  refine me_istore_n C 1 dX12_costNow_1 rfl (by decide) (L' := [(1, me_i (0 : Int32)), (0, me_r 36 0)]) rfl ?_
  refine me_iconst C (v := 0) dX12_costNow_2 (by decide) ?_
  refine me_istore_n C 2 dX12_costNow_3 rfl (by decide) (L' := [(2, me_i (0 : Int32)), (1, me_i (0 : Int32)), (0, me_r 36 0)]) rfl ?_
  refine me_dropI [(0, me_r 36 0), (1, me_i (0 : Int32)), (2, me_i (0 : Int32))] [2, 1, 0] rfl ?_
  exact z_M_costNow_h4 C N hNx hB me_FU (0 : Int32) (0 : Int32) hf
theorem c_M_costNow {B : me_B} (hB : me_St B) {μ : me_M}  {r : Int32}  (hf : f_M_costNow μ = some r) : ∀ l E z, l.stackTraces = false → me_Met l yX12_costNow cX12_costNow 4 (some .int) 2 46 0 0 E B μ z [me_r 36 0] (B, μ, .ok (some (me_i r))) :=
  fun _ _ _ hl => me_ofZ hl (by decide +kernel) (Nat.le_of_ble_eq_true rfl) (fun _ C N hNx => z_M_costNow C N hNx hB  hf)

def f_M_cost (μ : me_M) : Option (me_M × Int32) :=
  me_lt (me_up μ 36 0 42 (0 : Int32)) (fun μ1 =>
  me_bd (f_M_costNow μ1) (fun r2 =>
  some (μ1, r2)))
set_option maxHeartbeats 4000000 in
set_option maxRecDepth 100000 in
theorem z_M_cost {X : me_X} {B : me_B} {sz : Nat} (C : me_C X B RX12 cX12_cost 1 (some .int)) {μ : me_M}    {r : me_M × Int32} (N : me_En X B sz (B, r.1, .ok (some (me_i r.2))) 3 69 0 0) (hNx : me_Nx X) (hB : me_St B)   (hf : f_M_cost μ = some r) : me_Z X B 0 0 μ 0 [(0, me_r 36 0)] [] := by
  unfold f_M_cost at hf
  refine me_aload_n C 0 (Or.inr (Or.inl ⟨_, rfl⟩)) dX12_cost_0 rfl rfl ?_
  refine me_iconst C (v := 0) dX12_cost_1 (by decide) ?_
  obtain ⟨μ1, e_μ1, hf⟩ := me_lts hf
  refine me_puti C 42 fw_M_141 dX12_cost_2 rfl (me_nri _) e_μ1 ?_
  refine me_aload_n C 0 (Or.inr (Or.inl ⟨_, rfl⟩)) dX12_cost_5 rfl rfl ?_
  obtain ⟨r2, h_r2, hf⟩ := me_bs hf
  refine me_callV C N  (As := []) (st := []) 0 0 (c_M_costNow hB h_r2) mv_M_costNow ml_M_319 rfl rfl dX12_cost_6 rfl rfl ⟨by decide, by decide⟩ ⟨by decide, by decide, by decide, by decide⟩ (Nat.le_of_ble_eq_true rfl) ?_
  exact me_iret C N dX12_cost_9 (me_nri _) (by cases hf; rfl) (by decide) (by decide)
theorem c_M_cost {B : me_B} (hB : me_St B) {μ : me_M}  {μ' : me_M} {r : Int32}  (hf : f_M_cost μ = some (μ', r)) : ∀ l E z, l.stackTraces = false → me_Met l yX12_cost cX12_cost 1 (some .int) 3 69 0 0 E B μ z [me_r 36 0] (B, μ', .ok (some (me_i r))) :=
  fun _ _ _ hl => me_ofZ hl (by decide +kernel) (Nat.le_of_ble_eq_true rfl) (fun _ C N hNx => z_M_cost C N hNx hB  hf)

def f_M_exchange (μ : me_M) (v1 : Int32) (v2 : Int32) : Option (me_M × Unit) :=
  me_gd (me_inb v1 8) (
  me_lt ((μ 92 0 (me_ix v1))) (fun x2 =>
  me_gd (me_inb v2 8) (
  me_gd (me_inb v1 8) (
  me_lt (me_up μ 92 0 (me_ix v1) (μ 92 0 (me_ix v2))) (fun μ5 =>
  me_gd (me_inb v2 8) (
  me_lt (me_up μ5 92 0 (me_ix v2) x2) (fun μ7 =>
  some (μ7, ()))))))))
set_option maxHeartbeats 4000000 in
set_option maxRecDepth 100000 in
theorem z_M_exchange {X : me_X} {B : me_B} {sz : Nat} (C : me_C X B RX12 cX12_exchange 4 none) {μ : me_M} {v1 : Int32} {v2 : Int32}   {r : me_M × Unit} (N : me_En X B sz (B, r.1, .ok (none)) 0 0 0 0) (hNx : me_Nx X) (hB : me_St B)   (hf : f_M_exchange μ v1 v2 = some r) : me_Z X B 0 0 μ 0 [(0, me_r 36 0), (1, me_i v1), (2, me_i v2)] [] := by
  unfold f_M_exchange at hf
  refine me_aload_n C 0 (Or.inr (Or.inl ⟨_, rfl⟩)) dX12_exchange_0 rfl rfl ?_
  refine me_getr C hB 39 (k' := 92) (i' := 0) fg_M_132 dX12_exchange_1 rfl rfl ?_
  refine me_iload_n C 1 dX12_exchange_4 rfl rfl ?_
  obtain ⟨g1, hf⟩ := me_gs hf
  refine me_iald C rfl (fun _ => rfl) g1 dX12_exchange_5 ?_
  obtain ⟨x2, e_x2, hf⟩ := me_lts hf
  refine me_nm e_x2 ?_
  refine me_istore_n C 3 dX12_exchange_6 rfl (by decide) (L' := [(3, me_i x2), (0, me_r 36 0), (1, me_i v1), (2, me_i v2)]) rfl ?_
  refine me_aload_n C 0 (Or.inr (Or.inl ⟨_, rfl⟩)) dX12_exchange_7 rfl rfl ?_
  refine me_getr C hB 39 (k' := 92) (i' := 0) fg_M_132 dX12_exchange_8 rfl rfl ?_
  refine me_iload_n C 1 dX12_exchange_11 rfl rfl ?_
  refine me_aload_n C 0 (Or.inr (Or.inl ⟨_, rfl⟩)) dX12_exchange_12 rfl rfl ?_
  refine me_getr C hB 39 (k' := 92) (i' := 0) fg_M_132 dX12_exchange_13 rfl rfl ?_
  refine me_iload_n C 2 dX12_exchange_16 rfl rfl ?_
  obtain ⟨g3, hf⟩ := me_gs hf
  refine me_iald C rfl (fun _ => rfl) g3 dX12_exchange_17 ?_
  obtain ⟨g4, hf⟩ := me_gs hf
  obtain ⟨μ5, e_μ5, hf⟩ := me_lts hf
  refine me_iast C rfl (fun _ => rfl) g4 dX12_exchange_18 e_μ5 ?_
  refine me_aload_n C 0 (Or.inr (Or.inl ⟨_, rfl⟩)) dX12_exchange_19 rfl rfl ?_
  refine me_getr C hB 39 (k' := 92) (i' := 0) fg_M_132 dX12_exchange_20 rfl rfl ?_
  refine me_iload_n C 2 dX12_exchange_23 rfl rfl ?_
  refine me_iload_n C 3 dX12_exchange_24 rfl rfl ?_
  obtain ⟨g6, hf⟩ := me_gs hf
  obtain ⟨μ7, e_μ7, hf⟩ := me_lts hf
  refine me_iast C rfl (fun _ => rfl) g6 dX12_exchange_25 e_μ7 ?_
  exact me_vret C N dX12_exchange_26 (by cases hf; rfl) (by decide) (by decide)
theorem c_M_exchange {B : me_B} (hB : me_St B) {μ : me_M} {v1 : Int32} {v2 : Int32} {μ' : me_M} {r : Unit}  (hf : f_M_exchange μ v1 v2 = some (μ', r)) : ∀ l E z, l.stackTraces = false → me_Met l yX12_exchange cX12_exchange 4 none 0 0 0 0 E B μ z [me_r 36 0, me_i v1, me_i v2] (B, μ', .ok (none)) :=
  fun _ _ _ hl => me_ofZ hl (by decide +kernel) (Nat.le_of_ble_eq_true rfl) (fun _ C N hNx => z_M_exchange C N hNx hB  hf)

def f_M_swap_b89 (K15 : me_M → Int32 → Int32 → Int32 → Int32 → Int32 → Option (me_M × Int32)) (K30 : me_M → Int32 → Int32 → Int32 → Int32 → Int32 → Int32 → Option (me_M × Int32)) (μ : me_M) (v1 : Int32) (v2 : Int32) (v3 : Int32) (v5 : Int32) (v6 : Int32) (v7 : Int32) (s0 : Int32) : Option (me_M × Int32) :=
  me_lt ((me_max' v2 v7)) (fun x1 =>
  me_lt (me_inc v6 (1)) (fun x2 =>
  K30 μ v1 x1 v3 s0 v5 x2))
set_option maxHeartbeats 4000000 in
set_option maxRecDepth 100000 in
theorem z_M_swap_b89 {X : me_X} {B : me_B} {sz : Nat} (C : me_C X B RX12 cX12_swap 8 (some .int)) {μ : me_M} {v1 : Int32} {v2 : Int32} {v3 : Int32} {v5 : Int32} {v6 : Int32} {v7 : Int32} {s0 : Int32}  {K15 : me_M → Int32 → Int32 → Int32 → Int32 → Int32 → Option (me_M × Int32)} {K30 : me_M → Int32 → Int32 → Int32 → Int32 → Int32 → Int32 → Option (me_M × Int32)} {r : me_M × Int32} (N : me_En X B sz (B, r.1, .ok (some (me_i r.2))) 3 69 0 0) (hNx : me_Nx X) (hB : me_St B) (hK15 : ∀ (μ : me_M) (v1 : Int32) (v2 : Int32) (v3 : Int32) (v4 : Int32) (v5 : Int32), K15 μ v1 v2 v3 v4 v5 = some r → me_Z X B 0 0 μ 15 [(0, me_r 36 0), (1, me_i v1), (2, me_i v2), (3, me_i v3), (4, me_i v4), (5, me_i v5)] []) (hK30 : ∀ (μ : me_M) (v1 : Int32) (v2 : Int32) (v3 : Int32) (v4 : Int32) (v5 : Int32) (v6 : Int32), K30 μ v1 v2 v3 v4 v5 v6 = some r → me_Z X B 0 0 μ 30 [(0, me_r 36 0), (1, me_i v1), (2, me_i v2), (3, me_i v3), (4, me_i v4), (5, me_i v5), (6, me_i v6)] [])  (hf : f_M_swap_b89 K15 K30 μ v1 v2 v3 v5 v6 v7 s0 = some r) : me_Z X B 0 0 μ 89 [(0, me_r 36 0), (1, me_i v1), (2, me_i v2), (3, me_i v3), (5, me_i v5), (6, me_i v6), (7, me_i v7)] [me_i s0] := by
  unfold f_M_swap_b89 at hf
  refine me_istore C dX12_swap_89 (by decide) (L' := [(4, me_i s0), (0, me_r 36 0), (1, me_i v1), (2, me_i v2), (3, me_i v3), (5, me_i v5), (6, me_i v6), (7, me_i v7)]) rfl ?_
  refine me_iload_n C 2 dX12_swap_91 rfl rfl ?_
  refine me_iload C dX12_swap_92 rfl ?_
  refine me_mmax C N bl_M_325 dX12_swap_94 ⟨by decide, by decide⟩ (Nat.le_of_ble_eq_true rfl) (by decide) (by decide) ?_
  obtain ⟨x1, e_x1, hf⟩ := me_lts hf
  refine me_nm e_x1 ?_
  refine me_istore_n C 2 dX12_swap_97 rfl (by decide) (L' := [(2, me_i x1), (4, me_i s0), (0, me_r 36 0), (1, me_i v1), (3, me_i v3), (5, me_i v5), (6, me_i v6), (7, me_i v7)]) rfl ?_
  obtain ⟨x2, e_x2, hf⟩ := me_lts hf
  refine me_iinc C (v := x2) (L' := [(6, me_i x2), (2, me_i x1), (4, me_i s0), (0, me_r 36 0), (1, me_i v1), (3, me_i v3), (5, me_i v5), (7, me_i v7)]) dX12_swap_98 rfl e_x2.symm (by decide) rfl ?_
  refine me_goto C (tgt := 30) dX12_swap_101 (by decide) ?_
  refine me_dropI [(0, me_r 36 0), (1, me_i v1), (2, me_i x1), (3, me_i v3), (4, me_i s0), (5, me_i v5), (6, me_i x2)] [3, 4, 1, 5, 2, 6, 0] rfl ?_
  exact hK30 μ v1 x1 v3 s0 v5 x2 hf
def f_M_swap_b75 (K15 : me_M → Int32 → Int32 → Int32 → Int32 → Int32 → Option (me_M × Int32)) (K30 : me_M → Int32 → Int32 → Int32 → Int32 → Int32 → Int32 → Option (me_M × Int32)) (μ : me_M) (v1 : Int32) (v2 : Int32) (v4 : Int32) (v5 : Int32) (v6 : Int32) (v7 : Int32) (s0 : Int32) : Option (me_M × Int32) :=
  if v7 ≤ v2 then
  (f_M_swap_b89 K15 K30 μ v1 v2 s0 v5 v6 v7 v4)
  else
  (f_M_swap_b89 K15 K30 μ v1 v2 s0 v5 v6 v7 v6)
set_option maxHeartbeats 4000000 in
set_option maxRecDepth 100000 in
theorem z_M_swap_b75 {X : me_X} {B : me_B} {sz : Nat} (C : me_C X B RX12 cX12_swap 8 (some .int)) {μ : me_M} {v1 : Int32} {v2 : Int32} {v4 : Int32} {v5 : Int32} {v6 : Int32} {v7 : Int32} {s0 : Int32}  {K15 : me_M → Int32 → Int32 → Int32 → Int32 → Int32 → Option (me_M × Int32)} {K30 : me_M → Int32 → Int32 → Int32 → Int32 → Int32 → Int32 → Option (me_M × Int32)} {r : me_M × Int32} (N : me_En X B sz (B, r.1, .ok (some (me_i r.2))) 3 69 0 0) (hNx : me_Nx X) (hB : me_St B) (hK15 : ∀ (μ : me_M) (v1 : Int32) (v2 : Int32) (v3 : Int32) (v4 : Int32) (v5 : Int32), K15 μ v1 v2 v3 v4 v5 = some r → me_Z X B 0 0 μ 15 [(0, me_r 36 0), (1, me_i v1), (2, me_i v2), (3, me_i v3), (4, me_i v4), (5, me_i v5)] []) (hK30 : ∀ (μ : me_M) (v1 : Int32) (v2 : Int32) (v3 : Int32) (v4 : Int32) (v5 : Int32) (v6 : Int32), K30 μ v1 v2 v3 v4 v5 v6 = some r → me_Z X B 0 0 μ 30 [(0, me_r 36 0), (1, me_i v1), (2, me_i v2), (3, me_i v3), (4, me_i v4), (5, me_i v5), (6, me_i v6)] [])  (hf : f_M_swap_b75 K15 K30 μ v1 v2 v4 v5 v6 v7 s0 = some r) : me_Z X B 0 0 μ 75 [(0, me_r 36 0), (1, me_i v1), (2, me_i v2), (4, me_i v4), (5, me_i v5), (6, me_i v6), (7, me_i v7)] [me_i s0] := by
  unfold f_M_swap_b75 at hf
  refine me_istore_n C 3 dX12_swap_75 rfl (by decide) (L' := [(3, me_i s0), (0, me_r 36 0), (1, me_i v1), (2, me_i v2), (4, me_i v4), (5, me_i v5), (6, me_i v6), (7, me_i v7)]) rfl ?_
  refine me_iload C dX12_swap_76 rfl ?_
  refine me_iload_n C 2 dX12_swap_78 rfl rfl ?_
  refine me_icmp_le C (tgt := 87) dX12_swap_79 (by decide) (fun c1 => ?_) (fun c1 => ?_)
  · replace hf := me_ip c1 hf
    refine me_iload C dX12_swap_87 rfl ?_
    refine me_dropI [(0, me_r 36 0), (1, me_i v1), (2, me_i v2), (3, me_i s0), (5, me_i v5), (6, me_i v6), (7, me_i v7)] [1, 2, 3, 0, 5, 6, 7] rfl ?_
    exact z_M_swap_b89 C N hNx hB hK15 hK30 hf
  · replace hf := me_in c1 hf
    refine me_iload C dX12_swap_82 rfl ?_
    refine me_goto C (tgt := 89) dX12_swap_84 (by decide) ?_
    refine me_dropI [(0, me_r 36 0), (1, me_i v1), (2, me_i v2), (3, me_i s0), (5, me_i v5), (6, me_i v6), (7, me_i v7)] [1, 2, 3, 0, 5, 6, 7] rfl ?_
    exact z_M_swap_b89 C N hNx hB hK15 hK30 hf
def f_M_swap_b30 (K15 : me_M → Int32 → Int32 → Int32 → Int32 → Int32 → Option (me_M × Int32)) (K30 : me_M → Int32 → Int32 → Int32 → Int32 → Int32 → Int32 → Option (me_M × Int32)) (μ : me_M) (v1 : Int32) (v2 : Int32) (v3 : Int32) (v4 : Int32) (v5 : Int32) (v6 : Int32) : Option (me_M × Int32) :=
  if (μ 36 0 41) ≤ v6 then
  (me_lt (me_inc v5 (1)) (fun x2 =>
  K15 μ v1 v2 v3 v4 x2))
  else
  (me_b2 (f_M_exchange μ v5 v6) (fun μ4 r3 =>
  me_bd (f_M_costNow μ4) (fun r5 =>
  me_lt ((v1 - r5)) (fun x6 =>
  me_b2 (f_M_exchange μ4 v5 v6) (fun μ8 r7 =>
  if x6 ≤ v2 then
  (f_M_swap_b75 K15 K30 μ8 v1 v2 v4 v5 v6 x6 v3)
  else
  (f_M_swap_b75 K15 K30 μ8 v1 v2 v4 v5 v6 x6 v5))))))
set_option maxHeartbeats 4000000 in
set_option maxRecDepth 100000 in
theorem z_M_swap_b30 {X : me_X} {B : me_B} {sz : Nat} (C : me_C X B RX12 cX12_swap 8 (some .int)) {μ : me_M} {v1 : Int32} {v2 : Int32} {v3 : Int32} {v4 : Int32} {v5 : Int32} {v6 : Int32}  {K15 : me_M → Int32 → Int32 → Int32 → Int32 → Int32 → Option (me_M × Int32)} {K30 : me_M → Int32 → Int32 → Int32 → Int32 → Int32 → Int32 → Option (me_M × Int32)} {r : me_M × Int32} (N : me_En X B sz (B, r.1, .ok (some (me_i r.2))) 3 69 0 0) (hNx : me_Nx X) (hB : me_St B) (hK15 : ∀ (μ : me_M) (v1 : Int32) (v2 : Int32) (v3 : Int32) (v4 : Int32) (v5 : Int32), K15 μ v1 v2 v3 v4 v5 = some r → me_Z X B 0 0 μ 15 [(0, me_r 36 0), (1, me_i v1), (2, me_i v2), (3, me_i v3), (4, me_i v4), (5, me_i v5)] []) (hK30 : ∀ (μ : me_M) (v1 : Int32) (v2 : Int32) (v3 : Int32) (v4 : Int32) (v5 : Int32) (v6 : Int32), K30 μ v1 v2 v3 v4 v5 v6 = some r → me_Z X B 0 0 μ 30 [(0, me_r 36 0), (1, me_i v1), (2, me_i v2), (3, me_i v3), (4, me_i v4), (5, me_i v5), (6, me_i v6)] [])  (hf : f_M_swap_b30 K15 K30 μ v1 v2 v3 v4 v5 v6 = some r) : me_Z X B 0 0 μ 30 [(0, me_r 36 0), (1, me_i v1), (2, me_i v2), (3, me_i v3), (4, me_i v4), (5, me_i v5), (6, me_i v6)] [] := by
  unfold f_M_swap_b30 at hf
  refine me_iload C dX12_swap_30 rfl ?_
  refine me_aload_n C 0 (Or.inr (Or.inl ⟨_, rfl⟩)) dX12_swap_32 rfl rfl ?_
  refine me_geti C 41 fg_M_159 dX12_swap_33 rfl ?_
  refine me_icmp_ge C (tgt := 104) dX12_swap_36 (by decide) (fun c1 => ?_) (fun c1 => ?_)
  · replace hf := me_ip c1 hf
    obtain ⟨x2, e_x2, hf⟩ := me_lts hf
    refine me_iinc C (v := x2) (L' := [(5, me_i x2), (0, me_r 36 0), (1, me_i v1), (2, me_i v2), (3, me_i v3), (4, me_i v4), (6, me_i v6)]) dX12_swap_104 rfl e_x2.symm (by decide) rfl ?_
    refine me_goto C (tgt := 15) dX12_swap_107 (by decide) ?_
    refine me_dropI [(0, me_r 36 0), (1, me_i v1), (2, me_i v2), (3, me_i v3), (4, me_i v4), (5, me_i x2)] [1, 2, 3, 4, 5, 0] rfl ?_
    exact hK15 μ v1 v2 v3 v4 x2 hf
  · replace hf := me_in c1 hf
    refine me_aload_n C 0 (Or.inr (Or.inl ⟨_, rfl⟩)) dX12_swap_39 rfl rfl ?_
    refine me_iload C dX12_swap_40 rfl ?_
    refine me_iload C dX12_swap_42 rfl ?_
    obtain ⟨μ4, r3, h_r3, hf⟩ := me_bs2 hf
    refine me_callV0 C N  (As := [me_i v5, me_i v6]) (st := []) 0 0 (c_M_exchange hB h_r3) mv_M_exchange ml_M_322 rfl rfl dX12_swap_44 rfl rfl ⟨by decide, by decide⟩ ⟨by decide, by decide, by decide, by decide⟩ (Nat.le_of_ble_eq_true rfl) ?_
    refine me_iload_n C 1 dX12_swap_47 rfl rfl ?_
    refine me_aload_n C 0 (Or.inr (Or.inl ⟨_, rfl⟩)) dX12_swap_48 rfl rfl ?_
    obtain ⟨r5, h_r5, hf⟩ := me_bs hf
    refine me_callV C N  (As := []) (st := [me_i v1]) 0 0 (c_M_costNow hB h_r5) mv_M_costNow ml_M_319 rfl rfl dX12_swap_49 rfl rfl ⟨by decide, by decide⟩ ⟨by decide, by decide, by decide, by decide⟩ (Nat.le_of_ble_eq_true rfl) ?_
    refine me_isub C dX12_swap_52 ?_
    obtain ⟨x6, e_x6, hf⟩ := me_lts hf
    refine me_nm e_x6 ?_
    refine me_istore C dX12_swap_53 (by decide) (L' := [(7, me_i x6), (0, me_r 36 0), (1, me_i v1), (2, me_i v2), (3, me_i v3), (4, me_i v4), (5, me_i v5), (6, me_i v6)]) rfl ?_
    refine me_aload_n C 0 (Or.inr (Or.inl ⟨_, rfl⟩)) dX12_swap_55 rfl rfl ?_
    refine me_iload C dX12_swap_56 rfl ?_
    refine me_iload C dX12_swap_58 rfl ?_
    obtain ⟨μ8, r7, h_r7, hf⟩ := me_bs2 hf
    refine me_callV0 C N  (As := [me_i v5, me_i v6]) (st := []) 0 0 (c_M_exchange hB h_r7) mv_M_exchange ml_M_322 rfl rfl dX12_swap_60 rfl rfl ⟨by decide, by decide⟩ ⟨by decide, by decide, by decide, by decide⟩ (Nat.le_of_ble_eq_true rfl) ?_
    refine me_iload C dX12_swap_63 rfl ?_
    refine me_iload_n C 2 dX12_swap_65 rfl rfl ?_
    refine me_icmp_le C (tgt := 74) dX12_swap_66 (by decide) (fun c9 => ?_) (fun c9 => ?_)
    · replace hf := me_ip c9 hf
      refine me_iload_n C 3 dX12_swap_74 rfl rfl ?_
      refine me_dropI [(0, me_r 36 0), (1, me_i v1), (2, me_i v2), (4, me_i v4), (5, me_i v5), (6, me_i v6), (7, me_i x6)] [1, 2, 3, 5, 6, 7, 0] rfl ?_
      exact z_M_swap_b75 C N hNx hB hK15 hK30 hf
    · replace hf := me_in c9 hf
      refine me_iload C dX12_swap_69 rfl ?_
      refine me_goto C (tgt := 75) dX12_swap_71 (by decide) ?_
      refine me_dropI [(0, me_r 36 0), (1, me_i v1), (2, me_i v2), (4, me_i v4), (5, me_i v5), (6, me_i v6), (7, me_i x6)] [1, 2, 3, 5, 6, 7, 0] rfl ?_
      exact z_M_swap_b75 C N hNx hB hK15 hK30 hf
def f_M_swap_h30 (K15 : me_M → Int32 → Int32 → Int32 → Int32 → Int32 → Option (me_M × Int32)) : Nat → me_M → Int32 → Int32 → Int32 → Int32 → Int32 → Int32 → Option (me_M × Int32)
  | 0, _, _, _, _, _, _, _ => none
  | n + 1, μ, v1, v2, v3, v4, v5, v6 => f_M_swap_b30 K15 (f_M_swap_h30 K15 n) μ v1 v2 v3 v4 v5 v6
set_option maxHeartbeats 4000000 in
set_option maxRecDepth 100000 in
theorem z_M_swap_h30 {X : me_X} {B : me_B} {sz : Nat} (C : me_C X B RX12 cX12_swap 8 (some .int)) {K15 : me_M → Int32 → Int32 → Int32 → Int32 → Int32 → Option (me_M × Int32)} {r : me_M × Int32} (N : me_En X B sz (B, r.1, .ok (some (me_i r.2))) 3 69 0 0) (hNx : me_Nx X) (hB : me_St B) (hK15 : ∀ (μ : me_M) (v1 : Int32) (v2 : Int32) (v3 : Int32) (v4 : Int32) (v5 : Int32), K15 μ v1 v2 v3 v4 v5 = some r → me_Z X B 0 0 μ 15 [(0, me_r 36 0), (1, me_i v1), (2, me_i v2), (3, me_i v3), (4, me_i v4), (5, me_i v5)] []) : ∀ (n : Nat) (μ : me_M) (v1 : Int32) (v2 : Int32) (v3 : Int32) (v4 : Int32) (v5 : Int32) (v6 : Int32), f_M_swap_h30 K15 n μ v1 v2 v3 v4 v5 v6 = some r → me_Z X B 0 0 μ 30 [(0, me_r 36 0), (1, me_i v1), (2, me_i v2), (3, me_i v3), (4, me_i v4), (5, me_i v5), (6, me_i v6)] [] := by
  intro n
  induction n with
  | zero => intro μ v1 v2 v3 v4 v5 v6  h; exact absurd (show (none : Option (me_M × Int32)) = some r from h) (fun q => by cases q)
  | succ n ih => intro μ v1 v2 v3 v4 v5 v6  h; exact z_M_swap_b30 C N hNx hB hK15 (K30 := f_M_swap_h30 K15 n) ih  h
def f_M_swap_b120 (μ : me_M) (v2 : Int32) (v3 : Int32) (v4 : Int32) (s0 : Int32) : Option (me_M × Int32) :=
  me_b2 (f_M_isThrown μ s0 (1 : Int32)) (fun μ2 r1 =>
  if r1 = 0 then
  (me_b2 (f_M_exchange μ2 v3 v4) (fun μ5 r4 =>
  some (μ5, v2)))
  else
  (some (μ2, (0 : Int32))))
set_option maxHeartbeats 4000000 in
set_option maxRecDepth 100000 in
theorem z_M_swap_b120 {X : me_X} {B : me_B} {sz : Nat} (C : me_C X B RX12 cX12_swap 8 (some .int)) {μ : me_M} {v2 : Int32} {v3 : Int32} {v4 : Int32} {s0 : Int32}   {r : me_M × Int32} (N : me_En X B sz (B, r.1, .ok (some (me_i r.2))) 3 69 0 0) (hNx : me_Nx X) (hB : me_St B)   (hf : f_M_swap_b120 μ v2 v3 v4 s0 = some r) : me_Z X B 0 0 μ 120 [(0, me_r 36 0), (2, me_i v2), (3, me_i v3), (4, me_i v4)] [me_i s0, me_r 36 0] := by
  unfold f_M_swap_b120 at hf
  refine me_iconst C (v := 1) dX12_swap_120 (by decide) ?_
  obtain ⟨μ2, r1, h_r1, hf⟩ := me_bs2 hf
  refine me_callV C N  (As := [me_i s0, me_i (1 : Int32)]) (st := []) 0 0 (c_M_isThrown hB h_r1) mv_M_isThrown ml_M_155 rfl rfl dX12_swap_121 rfl rfl ⟨by decide, by decide⟩ ⟨by decide, by decide, by decide, by decide⟩ (Nat.le_of_ble_eq_true rfl) ?_
  refine me_if_eq C (tgt := 129) dX12_swap_124 (by decide) (fun c3 => ?_) (fun c3 => ?_)
  · replace hf := me_ip c3 hf
    refine me_aload_n C 0 (Or.inr (Or.inl ⟨_, rfl⟩)) dX12_swap_129 rfl rfl ?_
    refine me_iload_n C 3 dX12_swap_130 rfl rfl ?_
    refine me_iload C dX12_swap_131 rfl ?_
    obtain ⟨μ5, r4, h_r4, hf⟩ := me_bs2 hf
    refine me_callV0 C N  (As := [me_i v3, me_i v4]) (st := []) 0 0 (c_M_exchange hB h_r4) mv_M_exchange ml_M_322 rfl rfl dX12_swap_133 rfl rfl ⟨by decide, by decide⟩ ⟨by decide, by decide, by decide, by decide⟩ (Nat.le_of_ble_eq_true rfl) ?_
    refine me_iload_n C 2 dX12_swap_136 rfl rfl ?_
    exact me_iret C N dX12_swap_137 (me_nri _) (by cases hf; rfl) (by decide) (by decide)
  · replace hf := me_in c3 hf
    refine me_iconst C (v := 0) dX12_swap_127 (by decide) ?_
    exact me_iret C N dX12_swap_128 (me_nri _) (by cases hf; rfl) (by decide) (by decide)
def f_M_swap_b15 (K15 : me_M → Int32 → Int32 → Int32 → Int32 → Int32 → Option (me_M × Int32)) (μ : me_M) (v1 : Int32) (v2 : Int32) (v3 : Int32) (v4 : Int32) (v5 : Int32) : Option (me_M × Int32) :=
  if (μ 36 0 41) ≤ v5 then
  (if v2 = 0 then
  (f_M_swap_b120 μ v2 v3 v4 (1 : Int32))
  else
  (f_M_swap_b120 μ v2 v3 v4 (0 : Int32)))
  else
  (me_lt ((v5 + (1 : Int32))) (fun x3 =>
  f_M_swap_h30 K15 me_FU μ v1 v2 v3 v4 v5 x3))
set_option maxHeartbeats 4000000 in
set_option maxRecDepth 100000 in
theorem z_M_swap_b15 {X : me_X} {B : me_B} {sz : Nat} (C : me_C X B RX12 cX12_swap 8 (some .int)) {μ : me_M} {v1 : Int32} {v2 : Int32} {v3 : Int32} {v4 : Int32} {v5 : Int32}  {K15 : me_M → Int32 → Int32 → Int32 → Int32 → Int32 → Option (me_M × Int32)} {r : me_M × Int32} (N : me_En X B sz (B, r.1, .ok (some (me_i r.2))) 3 69 0 0) (hNx : me_Nx X) (hB : me_St B) (hK15 : ∀ (μ : me_M) (v1 : Int32) (v2 : Int32) (v3 : Int32) (v4 : Int32) (v5 : Int32), K15 μ v1 v2 v3 v4 v5 = some r → me_Z X B 0 0 μ 15 [(0, me_r 36 0), (1, me_i v1), (2, me_i v2), (3, me_i v3), (4, me_i v4), (5, me_i v5)] [])  (hf : f_M_swap_b15 K15 μ v1 v2 v3 v4 v5 = some r) : me_Z X B 0 0 μ 15 [(0, me_r 36 0), (1, me_i v1), (2, me_i v2), (3, me_i v3), (4, me_i v4), (5, me_i v5)] [] := by
  unfold f_M_swap_b15 at hf
  refine me_iload C dX12_swap_15 rfl ?_
  refine me_aload_n C 0 (Or.inr (Or.inl ⟨_, rfl⟩)) dX12_swap_17 rfl rfl ?_
  refine me_geti C 41 fg_M_159 dX12_swap_18 rfl ?_
  refine me_icmp_ge C (tgt := 110) dX12_swap_21 (by decide) (fun c1 => ?_) (fun c1 => ?_)
  · replace hf := me_ip c1 hf
    refine me_aload_n C 0 (Or.inr (Or.inl ⟨_, rfl⟩)) dX12_swap_110 rfl rfl ?_
    refine me_iload_n C 2 dX12_swap_111 rfl rfl ?_
    refine me_if_ne C (tgt := 119) dX12_swap_112 (by decide) (fun c2 => ?_) (fun c2 => ?_)
    · replace hf := me_in c2 hf
      refine me_iconst C (v := 0) dX12_swap_119 (by decide) ?_
      refine me_dropI [(0, me_r 36 0), (2, me_i v2), (3, me_i v3), (4, me_i v4)] [0, 2, 3, 4] rfl ?_
      exact z_M_swap_b120 C N hNx hB hf
    · replace hf := me_ip c2 hf
      refine me_iconst C (v := 1) dX12_swap_115 (by decide) ?_
      refine me_goto C (tgt := 120) dX12_swap_116 (by decide) ?_
      refine me_dropI [(0, me_r 36 0), (2, me_i v2), (3, me_i v3), (4, me_i v4)] [0, 2, 3, 4] rfl ?_
      exact z_M_swap_b120 C N hNx hB hf
  · replace hf := me_in c1 hf
    refine me_iload C dX12_swap_24 rfl ?_
    refine me_iconst C (v := 1) dX12_swap_26 (by decide) ?_
    refine me_iadd C dX12_swap_27 ?_
    obtain ⟨x3, e_x3, hf⟩ := me_lts hf
    refine me_nm e_x3 ?_
    refine me_istore C dX12_swap_28 (by decide) (L' := [(6, me_i x3), (0, me_r 36 0), (1, me_i v1), (2, me_i v2), (3, me_i v3), (4, me_i v4), (5, me_i v5)]) rfl ?_
    refine me_dropI [(0, me_r 36 0), (1, me_i v1), (2, me_i v2), (3, me_i v3), (4, me_i v4), (5, me_i v5), (6, me_i x3)] [1, 2, 3, 4, 5, 6, 0] rfl ?_
    exact z_M_swap_h30 C N hNx hB hK15 me_FU μ v1 v2 v3 v4 v5 x3 hf
def f_M_swap_h15  : Nat → me_M → Int32 → Int32 → Int32 → Int32 → Int32 → Option (me_M × Int32)
  | 0, _, _, _, _, _, _ => none
  | n + 1, μ, v1, v2, v3, v4, v5 => f_M_swap_b15 (f_M_swap_h15 n) μ v1 v2 v3 v4 v5
set_option maxHeartbeats 4000000 in
set_option maxRecDepth 100000 in
theorem z_M_swap_h15 {X : me_X} {B : me_B} {sz : Nat} (C : me_C X B RX12 cX12_swap 8 (some .int))  {r : me_M × Int32} (N : me_En X B sz (B, r.1, .ok (some (me_i r.2))) 3 69 0 0) (hNx : me_Nx X) (hB : me_St B)  : ∀ (n : Nat) (μ : me_M) (v1 : Int32) (v2 : Int32) (v3 : Int32) (v4 : Int32) (v5 : Int32), f_M_swap_h15 n μ v1 v2 v3 v4 v5 = some r → me_Z X B 0 0 μ 15 [(0, me_r 36 0), (1, me_i v1), (2, me_i v2), (3, me_i v3), (4, me_i v4), (5, me_i v5)] [] := by
  intro n
  induction n with
  | zero => intro μ v1 v2 v3 v4 v5  h; exact absurd (show (none : Option (me_M × Int32)) = some r from h) (fun q => by cases q)
  | succ n ih => intro μ v1 v2 v3 v4 v5  h; exact z_M_swap_b15 C N hNx hB  (K15 := f_M_swap_h15 n) ih  h
def f_M_swap (μ : me_M) : Option (me_M × Int32) :=
  me_bd (f_M_costNow μ) (fun r1 =>
  f_M_swap_h15 me_FU μ r1 (0 : Int32) (-1 : Int32) (-1 : Int32) (0 : Int32))
set_option maxHeartbeats 4000000 in
set_option maxRecDepth 100000 in
theorem z_M_swap {X : me_X} {B : me_B} {sz : Nat} (C : me_C X B RX12 cX12_swap 8 (some .int)) {μ : me_M}    {r : me_M × Int32} (N : me_En X B sz (B, r.1, .ok (some (me_i r.2))) 3 69 0 0) (hNx : me_Nx X) (hB : me_St B)   (hf : f_M_swap μ = some r) : me_Z X B 0 0 μ 0 [(0, me_r 36 0)] [] := by
  unfold f_M_swap at hf
  refine me_aload_n C 0 (Or.inr (Or.inl ⟨_, rfl⟩)) dX12_swap_0 rfl rfl ?_
  obtain ⟨r1, h_r1, hf⟩ := me_bs hf
  refine me_callV C N  (As := []) (st := []) 0 0 (c_M_costNow hB h_r1) mv_M_costNow ml_M_319 rfl rfl dX12_swap_1 rfl rfl ⟨by decide, by decide⟩ ⟨by decide, by decide, by decide, by decide⟩ (Nat.le_of_ble_eq_true rfl) ?_
  refine me_istore_n C 1 dX12_swap_4 rfl (by decide) (L' := [(1, me_i r1), (0, me_r 36 0)]) rfl ?_
  refine me_iconst C (v := 0) dX12_swap_5 (by decide) ?_
  refine me_istore_n C 2 dX12_swap_6 rfl (by decide) (L' := [(2, me_i (0 : Int32)), (1, me_i r1), (0, me_r 36 0)]) rfl ?_
  refine me_iconst C (v := -1) dX12_swap_7 (by decide) ?_
  refine me_istore_n C 3 dX12_swap_8 rfl (by decide) (L' := [(3, me_i (-1 : Int32)), (2, me_i (0 : Int32)), (1, me_i r1), (0, me_r 36 0)]) rfl ?_
  refine me_iconst C (v := -1) dX12_swap_9 (by decide) ?_
  refine me_istore C dX12_swap_10 (by decide) (L' := [(4, me_i (-1 : Int32)), (3, me_i (-1 : Int32)), (2, me_i (0 : Int32)), (1, me_i r1), (0, me_r 36 0)]) rfl ?_
  refine me_iconst C (v := 0) dX12_swap_12 (by decide) ?_
  refine me_istore C dX12_swap_13 (by decide) (L' := [(5, me_i (0 : Int32)), (4, me_i (-1 : Int32)), (3, me_i (-1 : Int32)), (2, me_i (0 : Int32)), (1, me_i r1), (0, me_r 36 0)]) rfl ?_
  refine me_dropI [(0, me_r 36 0), (1, me_i r1), (2, me_i (0 : Int32)), (3, me_i (-1 : Int32)), (4, me_i (-1 : Int32)), (5, me_i (0 : Int32))] [5, 4, 3, 2, 1, 0] rfl ?_
  exact z_M_swap_h15 C N hNx hB me_FU μ r1 (0 : Int32) (-1 : Int32) (-1 : Int32) (0 : Int32) hf
theorem c_M_swap {B : me_B} (hB : me_St B) {μ : me_M}  {μ' : me_M} {r : Int32}  (hf : f_M_swap μ = some (μ', r)) : ∀ l E z, l.stackTraces = false → me_Met l yX12_swap cX12_swap 8 (some .int) 3 69 0 0 E B μ z [me_r 36 0] (B, μ', .ok (some (me_i r))) :=
  fun _ _ _ hl => me_ofZ hl (by decide +kernel) (Nat.le_of_ble_eq_true rfl) (fun _ C N hNx => z_M_swap C N hNx hB  hf)
