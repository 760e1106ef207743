/-! WALKS: M_lying, M_receive, M_isOpen, M_along, M_sideOf, M_adds, M_drops -/
theorem dX12_lying_0 : decode cX12_lying 0 = .ok (.aload_n 0, 1) := by decide +kernel
theorem dX12_lying_1 : decode cX12_lying 1 = .ok (.aload_n 0, 1) := by decide +kernel
theorem dX12_lying_2 : decode cX12_lying 2 = .ok (.iload_n 1, 1) := by decide +kernel
theorem dX12_lying_3 : decode cX12_lying 3 = .ok (.invokevirtual 165, 3) := by decide +kernel
theorem dX12_lying_6 : decode cX12_lying 6 = .ok (.ifCond .ne 11, 3) := by decide +kernel
theorem dX12_lying_9 : decode cX12_lying 9 = .ok (.aload_n 0, 1) := by decide +kernel
theorem dX12_lying_10 : decode cX12_lying 10 = .ok (.iload_n 2, 1) := by decide +kernel
theorem dX12_lying_11 : decode cX12_lying 11 = .ok (.invokevirtual 165, 3) := by decide +kernel
theorem dX12_lying_14 : decode cX12_lying 14 = .ok (.ifCond .eq 7, 3) := by decide +kernel
theorem dX12_lying_17 : decode cX12_lying 17 = .ok (.iconst 1, 1) := by decide +kernel
theorem dX12_lying_18 : decode cX12_lying 18 = .ok (.goto 4, 3) := by decide +kernel
theorem dX12_lying_21 : decode cX12_lying 21 = .ok (.iconst 0, 1) := by decide +kernel
theorem dX12_lying_22 : decode cX12_lying 22 = .ok (.iconst 1, 1) := by decide +kernel
theorem dX12_lying_23 : decode cX12_lying 23 = .ok (.invokevirtual 155, 3) := by decide +kernel
theorem dX12_lying_26 : decode cX12_lying 26 = .ok (.ifCond .eq 5, 3) := by decide +kernel
theorem dX12_lying_29 : decode cX12_lying 29 = .ok (.iconst 0, 1) := by decide +kernel
theorem dX12_lying_30 : decode cX12_lying 30 = .ok (.ireturn, 1) := by decide +kernel
theorem dX12_lying_31 : decode cX12_lying 31 = .ok (.iconst 0, 1) := by decide +kernel
theorem dX12_lying_32 : decode cX12_lying 32 = .ok (.istore_n 3, 1) := by decide +kernel
theorem dX12_lying_33 : decode cX12_lying 33 = .ok (.iconst 0, 1) := by decide +kernel
theorem dX12_lying_34 : decode cX12_lying 34 = .ok (.istore 4, 2) := by decide +kernel
theorem dX12_lying_36 : decode cX12_lying 36 = .ok (.iload 4, 2) := by decide +kernel
theorem dX12_lying_38 : decode cX12_lying 38 = .ok (.aload_n 0, 1) := by decide +kernel
theorem dX12_lying_39 : decode cX12_lying 39 = .ok (.getfield 152, 3) := by decide +kernel
theorem dX12_lying_42 : decode cX12_lying 42 = .ok (.if_icmp .ge 28, 3) := by decide +kernel
theorem dX12_lying_45 : decode cX12_lying 45 = .ok (.iload_n 3, 1) := by decide +kernel
theorem dX12_lying_46 : decode cX12_lying 46 = .ok (.aload_n 0, 1) := by decide +kernel
theorem dX12_lying_47 : decode cX12_lying 47 = .ok (.iload 4, 2) := by decide +kernel
theorem dX12_lying_49 : decode cX12_lying 49 = .ok (.iload_n 1, 1) := by decide +kernel
theorem dX12_lying_50 : decode cX12_lying 50 = .ok (.iload_n 2, 1) := by decide +kernel
theorem dX12_lying_51 : decode cX12_lying 51 = .ok (.invokevirtual 192, 3) := by decide +kernel
theorem dX12_lying_54 : decode cX12_lying 54 = .ok (.ifCond .eq 7, 3) := by decide +kernel
theorem dX12_lying_57 : decode cX12_lying 57 = .ok (.iconst 1, 1) := by decide +kernel
theorem dX12_lying_58 : decode cX12_lying 58 = .ok (.goto 4, 3) := by decide +kernel
theorem dX12_lying_61 : decode cX12_lying 61 = .ok (.iconst 0, 1) := by decide +kernel
theorem dX12_lying_62 : decode cX12_lying 62 = .ok (.iadd, 1) := by decide +kernel
theorem dX12_lying_63 : decode cX12_lying 63 = .ok (.istore_n 3, 1) := by decide +kernel
theorem dX12_lying_64 : decode cX12_lying 64 = .ok (.iinc 4 1, 3) := by decide +kernel
theorem dX12_lying_67 : decode cX12_lying 67 = .ok (.goto (-31), 3) := by decide +kernel
theorem dX12_lying_70 : decode cX12_lying 70 = .ok (.iload_n 3, 1) := by decide +kernel
theorem dX12_lying_71 : decode cX12_lying 71 = .ok (.ireturn, 1) := by decide +kernel
theorem dX12_receive_0 : decode cX12_receive 0 = .ok (.aload_n 0, 1) := by decide +kernel
theorem dX12_receive_1 : decode cX12_receive 1 = .ok (.aload_n 0, 1) := by decide +kernel
theorem dX12_receive_2 : decode cX12_receive 2 = .ok (.iload_n 1, 1) := by decide +kernel
theorem dX12_receive_3 : decode cX12_receive 3 = .ok (.invokevirtual 165, 3) := by decide +kernel
theorem dX12_receive_6 : decode cX12_receive 6 = .ok (.ifCond .ne 11, 3) := by decide +kernel
theorem dX12_receive_9 : decode cX12_receive 9 = .ok (.aload_n 0, 1) := by decide +kernel
theorem dX12_receive_10 : decode cX12_receive 10 = .ok (.iload_n 2, 1) := by decide +kernel
theorem dX12_receive_11 : decode cX12_receive 11 = .ok (.invokevirtual 165, 3) := by decide +kernel
theorem dX12_receive_14 : decode cX12_receive 14 = .ok (.ifCond .eq 7, 3) := by decide +kernel
theorem dX12_receive_17 : decode cX12_receive 17 = .ok (.iconst 1, 1) := by decide +kernel
theorem dX12_receive_18 : decode cX12_receive 18 = .ok (.goto 4, 3) := by decide +kernel
theorem dX12_receive_21 : decode cX12_receive 21 = .ok (.iconst 0, 1) := by decide +kernel
theorem dX12_receive_22 : decode cX12_receive 22 = .ok (.iconst 1, 1) := by decide +kernel
theorem dX12_receive_23 : decode cX12_receive 23 = .ok (.invokevirtual 155, 3) := by decide +kernel
theorem dX12_receive_26 : decode cX12_receive 26 = .ok (.ifCond .eq 5, 3) := by decide +kernel
theorem dX12_receive_29 : decode cX12_receive 29 = .ok (.iconst 0, 1) := by decide +kernel
theorem dX12_receive_30 : decode cX12_receive 30 = .ok (.ireturn, 1) := by decide +kernel
theorem dX12_receive_31 : decode cX12_receive 31 = .ok (.aload_n 0, 1) := by decide +kernel
theorem dX12_receive_32 : decode cX12_receive 32 = .ok (.iload_n 1, 1) := by decide +kernel
theorem dX12_receive_33 : decode cX12_receive 33 = .ok (.iload_n 2, 1) := by decide +kernel
theorem dX12_receive_34 : decode cX12_receive 34 = .ok (.invokevirtual 195, 3) := by decide +kernel
theorem dX12_receive_37 : decode cX12_receive 37 = .ok (.istore_n 3, 1) := by decide +kernel
theorem dX12_receive_38 : decode cX12_receive 38 = .ok (.aload_n 0, 1) := by decide +kernel
theorem dX12_receive_39 : decode cX12_receive 39 = .ok (.iload_n 3, 1) := by decide +kernel
theorem dX12_receive_40 : decode cX12_receive 40 = .ok (.iconst (-1), 1) := by decide +kernel
theorem dX12_receive_41 : decode cX12_receive 41 = .ok (.if_icmp .ne 7, 3) := by decide +kernel
theorem dX12_receive_44 : decode cX12_receive 44 = .ok (.iconst 1, 1) := by decide +kernel
theorem dX12_receive_45 : decode cX12_receive 45 = .ok (.goto 4, 3) := by decide +kernel
theorem dX12_receive_48 : decode cX12_receive 48 = .ok (.iconst 0, 1) := by decide +kernel
theorem dX12_receive_49 : decode cX12_receive 49 = .ok (.iconst 2, 1) := by decide +kernel
theorem dX12_receive_50 : decode cX12_receive 50 = .ok (.invokevirtual 155, 3) := by decide +kernel
theorem dX12_receive_53 : decode cX12_receive 53 = .ok (.ifCond .eq 5, 3) := by decide +kernel
theorem dX12_receive_56 : decode cX12_receive 56 = .ok (.iconst 0, 1) := by decide +kernel
theorem dX12_receive_57 : decode cX12_receive 57 = .ok (.ireturn, 1) := by decide +kernel
theorem dX12_receive_58 : decode cX12_receive 58 = .ok (.aload_n 0, 1) := by decide +kernel
theorem dX12_receive_59 : decode cX12_receive 59 = .ok (.getfield 27, 3) := by decide +kernel
theorem dX12_receive_62 : decode cX12_receive 62 = .ok (.iload_n 3, 1) := by decide +kernel
theorem dX12_receive_63 : decode cX12_receive 63 = .ok (.bipush 114, 2) := by decide +kernel
theorem dX12_receive_65 : decode cX12_receive 65 = .ok (.castore, 1) := by decide +kernel
theorem dX12_receive_66 : decode cX12_receive 66 = .ok (.iload_n 3, 1) := by decide +kernel
theorem dX12_receive_67 : decode cX12_receive 67 = .ok (.ireturn, 1) := by decide +kernel
theorem dX12_isOpen_0 : decode cX12_isOpen 0 = .ok (.aload_n 0, 1) := by decide +kernel
theorem dX12_isOpen_1 : decode cX12_isOpen 1 = .ok (.iload_n 1, 1) := by decide +kernel
theorem dX12_isOpen_2 : decode cX12_isOpen 2 = .ok (.iload_n 2, 1) := by decide +kernel
theorem dX12_isOpen_3 : decode cX12_isOpen 3 = .ok (.invokevirtual 199, 3) := by decide +kernel
theorem dX12_isOpen_6 : decode cX12_isOpen 6 = .ok (.istore 4, 2) := by decide +kernel
theorem dX12_isOpen_8 : decode cX12_isOpen 8 = .ok (.aload_n 0, 1) := by decide +kernel
theorem dX12_isOpen_9 : decode cX12_isOpen 9 = .ok (.getfield 78, 3) := by decide +kernel
theorem dX12_isOpen_12 : decode cX12_isOpen 12 = .ok (.iload 4, 2) := by decide +kernel
theorem dX12_isOpen_14 : decode cX12_isOpen 14 = .ok (.aaload, 1) := by decide +kernel
theorem dX12_isOpen_15 : decode cX12_isOpen 15 = .ok (.iload_n 3, 1) := by decide +kernel
theorem dX12_isOpen_16 : decode cX12_isOpen 16 = .ok (.aaload, 1) := by decide +kernel
theorem dX12_isOpen_17 : decode cX12_isOpen 17 = .ok (.getstatic 202, 3) := by decide +kernel
theorem dX12_isOpen_20 : decode cX12_isOpen 20 = .ok (.iload_n 2, 1) := by decide +kernel
theorem dX12_isOpen_21 : decode cX12_isOpen 21 = .ok (.iaload, 1) := by decide +kernel
theorem dX12_isOpen_22 : decode cX12_isOpen 22 = .ok (.iaload, 1) := by decide +kernel
theorem dX12_isOpen_23 : decode cX12_isOpen 23 = .ok (.iconst (-1), 1) := by decide +kernel
theorem dX12_isOpen_24 : decode cX12_isOpen 24 = .ok (.if_icmp .ne 29, 3) := by decide +kernel
theorem dX12_isOpen_27 : decode cX12_isOpen 27 = .ok (.aload_n 0, 1) := by decide +kernel
theorem dX12_isOpen_28 : decode cX12_isOpen 28 = .ok (.getfield 75, 3) := by decide +kernel
theorem dX12_isOpen_31 : decode cX12_isOpen 31 = .ok (.iload 4, 2) := by decide +kernel
theorem dX12_isOpen_33 : decode cX12_isOpen 33 = .ok (.aaload, 1) := by decide +kernel
theorem dX12_isOpen_34 : decode cX12_isOpen 34 = .ok (.iload_n 3, 1) := by decide +kernel
theorem dX12_isOpen_35 : decode cX12_isOpen 35 = .ok (.aaload, 1) := by decide +kernel
theorem dX12_isOpen_36 : decode cX12_isOpen 36 = .ok (.getstatic 202, 3) := by decide +kernel
theorem dX12_isOpen_39 : decode cX12_isOpen 39 = .ok (.iload_n 2, 1) := by decide +kernel
theorem dX12_isOpen_40 : decode cX12_isOpen 40 = .ok (.iaload, 1) := by decide +kernel
theorem dX12_isOpen_41 : decode cX12_isOpen 41 = .ok (.iaload, 1) := by decide +kernel
theorem dX12_isOpen_42 : decode cX12_isOpen 42 = .ok (.aload_n 0, 1) := by decide +kernel
theorem dX12_isOpen_43 : decode cX12_isOpen 43 = .ok (.getfield 16, 3) := by decide +kernel
theorem dX12_isOpen_46 : decode cX12_isOpen 46 = .ok (.if_icmp .ge 7, 3) := by decide +kernel
theorem dX12_isOpen_49 : decode cX12_isOpen 49 = .ok (.iconst 1, 1) := by decide +kernel
theorem dX12_isOpen_50 : decode cX12_isOpen 50 = .ok (.goto 4, 3) := by decide +kernel
theorem dX12_isOpen_53 : decode cX12_isOpen 53 = .ok (.iconst 0, 1) := by decide +kernel
theorem dX12_isOpen_54 : decode cX12_isOpen 54 = .ok (.ireturn, 1) := by decide +kernel
theorem dX12_along_0 : decode cX12_along 0 = .ok (.iload_n 3, 1) := by decide +kernel
theorem dX12_along_1 : decode cX12_along 1 = .ok (.ifCond .eq 38, 3) := by decide +kernel
theorem dX12_along_4 : decode cX12_along 4 = .ok (.iload_n 2, 1) := by decide +kernel
theorem dX12_along_5 : decode cX12_along 5 = .ok (.aload_n 0, 1) := by decide +kernel
theorem dX12_along_6 : decode cX12_along 6 = .ok (.getfield 7, 3) := by decide +kernel
theorem dX12_along_9 : decode cX12_along 9 = .ok (.irem, 1) := by decide +kernel
theorem dX12_along_10 : decode cX12_along 10 = .ok (.iload_n 1, 1) := by decide +kernel
theorem dX12_along_11 : decode cX12_along 11 = .ok (.aload_n 0, 1) := by decide +kernel
theorem dX12_along_12 : decode cX12_along 12 = .ok (.getfield 7, 3) := by decide +kernel
theorem dX12_along_15 : decode cX12_along 15 = .ok (.irem, 1) := by decide +kernel
theorem dX12_along_16 : decode cX12_along 16 = .ok (.isub, 1) := by decide +kernel
theorem dX12_along_17 : decode cX12_along 17 = .ok (.istore 4, 2) := by decide +kernel
theorem dX12_along_19 : decode cX12_along 19 = .ok (.iload 4, 2) := by decide +kernel
theorem dX12_along_21 : decode cX12_along 21 = .ok (.ifCond .le 7, 3) := by decide +kernel
theorem dX12_along_24 : decode cX12_along 24 = .ok (.iconst 0, 1) := by decide +kernel
theorem dX12_along_25 : decode cX12_along 25 = .ok (.goto 13, 3) := by decide +kernel
theorem dX12_along_28 : decode cX12_along 28 = .ok (.iload 4, 2) := by decide +kernel
theorem dX12_along_30 : decode cX12_along 30 = .ok (.ifCond .ge 7, 3) := by decide +kernel
theorem dX12_along_33 : decode cX12_along 33 = .ok (.iconst 1, 1) := by decide +kernel
theorem dX12_along_34 : decode cX12_along 34 = .ok (.goto 4, 3) := by decide +kernel
theorem dX12_along_37 : decode cX12_along 37 = .ok (.iconst (-1), 1) := by decide +kernel
theorem dX12_along_38 : decode cX12_along 38 = .ok (.ireturn, 1) := by decide +kernel
theorem dX12_along_39 : decode cX12_along 39 = .ok (.iload_n 2, 1) := by decide +kernel
theorem dX12_along_40 : decode cX12_along 40 = .ok (.aload_n 0, 1) := by decide +kernel
theorem dX12_along_41 : decode cX12_along 41 = .ok (.getfield 7, 3) := by decide +kernel
theorem dX12_along_44 : decode cX12_along 44 = .ok (.idiv, 1) := by decide +kernel
theorem dX12_along_45 : decode cX12_along 45 = .ok (.iload_n 1, 1) := by decide +kernel
theorem dX12_along_46 : decode cX12_along 46 = .ok (.aload_n 0, 1) := by decide +kernel
theorem dX12_along_47 : decode cX12_along 47 = .ok (.getfield 7, 3) := by decide +kernel
theorem dX12_along_50 : decode cX12_along 50 = .ok (.idiv, 1) := by decide +kernel
theorem dX12_along_51 : decode cX12_along 51 = .ok (.isub, 1) := by decide +kernel
theorem dX12_along_52 : decode cX12_along 52 = .ok (.istore 4, 2) := by decide +kernel
theorem dX12_along_54 : decode cX12_along 54 = .ok (.iload 4, 2) := by decide +kernel
theorem dX12_along_56 : decode cX12_along 56 = .ok (.ifCond .le 7, 3) := by decide +kernel
theorem dX12_along_59 : decode cX12_along 59 = .ok (.iconst 2, 1) := by decide +kernel
theorem dX12_along_60 : decode cX12_along 60 = .ok (.goto 13, 3) := by decide +kernel
theorem dX12_along_63 : decode cX12_along 63 = .ok (.iload 4, 2) := by decide +kernel
theorem dX12_along_65 : decode cX12_along 65 = .ok (.ifCond .ge 7, 3) := by decide +kernel
theorem dX12_along_68 : decode cX12_along 68 = .ok (.iconst 3, 1) := by decide +kernel
theorem dX12_along_69 : decode cX12_along 69 = .ok (.goto 4, 3) := by decide +kernel
theorem dX12_along_72 : decode cX12_along 72 = .ok (.iconst (-1), 1) := by decide +kernel
theorem dX12_along_73 : decode cX12_along 73 = .ok (.ireturn, 1) := by decide +kernel
theorem dX12_sideOf_0 : decode cX12_sideOf 0 = .ok (.aload_n 0, 1) := by decide +kernel
theorem dX12_sideOf_1 : decode cX12_sideOf 1 = .ok (.iload_n 1, 1) := by decide +kernel
theorem dX12_sideOf_2 : decode cX12_sideOf 2 = .ok (.iload_n 2, 1) := by decide +kernel
theorem dX12_sideOf_3 : decode cX12_sideOf 3 = .ok (.iconst 1, 1) := by decide +kernel
theorem dX12_sideOf_4 : decode cX12_sideOf 4 = .ok (.invokevirtual 205, 3) := by decide +kernel
theorem dX12_sideOf_7 : decode cX12_sideOf 7 = .ok (.istore 4, 2) := by decide +kernel
theorem dX12_sideOf_9 : decode cX12_sideOf 9 = .ok (.aload_n 0, 1) := by decide +kernel
theorem dX12_sideOf_10 : decode cX12_sideOf 10 = .ok (.iload_n 1, 1) := by decide +kernel
theorem dX12_sideOf_11 : decode cX12_sideOf 11 = .ok (.iload_n 2, 1) := by decide +kernel
theorem dX12_sideOf_12 : decode cX12_sideOf 12 = .ok (.iconst 0, 1) := by decide +kernel
theorem dX12_sideOf_13 : decode cX12_sideOf 13 = .ok (.invokevirtual 205, 3) := by decide +kernel
theorem dX12_sideOf_16 : decode cX12_sideOf 16 = .ok (.istore 5, 2) := by decide +kernel
theorem dX12_sideOf_18 : decode cX12_sideOf 18 = .ok (.iload 4, 2) := by decide +kernel
theorem dX12_sideOf_20 : decode cX12_sideOf 20 = .ok (.iconst (-1), 1) := by decide +kernel
theorem dX12_sideOf_21 : decode cX12_sideOf 21 = .ok (.if_icmp .ne 11, 3) := by decide +kernel
theorem dX12_sideOf_24 : decode cX12_sideOf 24 = .ok (.iload 5, 2) := by decide +kernel
theorem dX12_sideOf_26 : decode cX12_sideOf 26 = .ok (.iconst (-1), 1) := by decide +kernel
theorem dX12_sideOf_27 : decode cX12_sideOf 27 = .ok (.if_icmp .ne 5, 3) := by decide +kernel
theorem dX12_sideOf_30 : decode cX12_sideOf 30 = .ok (.iconst 4, 1) := by decide +kernel
theorem dX12_sideOf_31 : decode cX12_sideOf 31 = .ok (.ireturn, 1) := by decide +kernel
theorem dX12_sideOf_32 : decode cX12_sideOf 32 = .ok (.aload_n 0, 1) := by decide +kernel
theorem dX12_sideOf_33 : decode cX12_sideOf 33 = .ok (.getfield 19, 3) := by decide +kernel
theorem dX12_sideOf_36 : decode cX12_sideOf 36 = .ok (.bipush 116, 2) := by decide +kernel
theorem dX12_sideOf_38 : decode cX12_sideOf 38 = .ok (.if_icmp .eq 42, 3) := by decide +kernel
theorem dX12_sideOf_41 : decode cX12_sideOf 41 = .ok (.aload_n 0, 1) := by decide +kernel
theorem dX12_sideOf_42 : decode cX12_sideOf 42 = .ok (.getfield 19, 3) := by decide +kernel
theorem dX12_sideOf_45 : decode cX12_sideOf 45 = .ok (.bipush 120, 2) := by decide +kernel
theorem dX12_sideOf_47 : decode cX12_sideOf 47 = .ok (.if_icmp .ne 19, 3) := by decide +kernel
theorem dX12_sideOf_50 : decode cX12_sideOf 50 = .ok (.iload 4, 2) := by decide +kernel
theorem dX12_sideOf_52 : decode cX12_sideOf 52 = .ok (.iconst (-1), 1) := by decide +kernel
theorem dX12_sideOf_53 : decode cX12_sideOf 53 = .ok (.if_icmp .ne 8, 3) := by decide +kernel
theorem dX12_sideOf_56 : decode cX12_sideOf 56 = .ok (.iload 5, 2) := by decide +kernel
theorem dX12_sideOf_58 : decode cX12_sideOf 58 = .ok (.goto 21, 3) := by decide +kernel
theorem dX12_sideOf_61 : decode cX12_sideOf 61 = .ok (.iload 4, 2) := by decide +kernel
theorem dX12_sideOf_63 : decode cX12_sideOf 63 = .ok (.goto 16, 3) := by decide +kernel
theorem dX12_sideOf_66 : decode cX12_sideOf 66 = .ok (.iload 5, 2) := by decide +kernel
theorem dX12_sideOf_68 : decode cX12_sideOf 68 = .ok (.iconst (-1), 1) := by decide +kernel
theorem dX12_sideOf_69 : decode cX12_sideOf 69 = .ok (.if_icmp .ne 8, 3) := by decide +kernel
theorem dX12_sideOf_72 : decode cX12_sideOf 72 = .ok (.iload 4, 2) := by decide +kernel
theorem dX12_sideOf_74 : decode cX12_sideOf 74 = .ok (.goto 5, 3) := by decide +kernel
theorem dX12_sideOf_77 : decode cX12_sideOf 77 = .ok (.iload 5, 2) := by decide +kernel
theorem dX12_sideOf_79 : decode cX12_sideOf 79 = .ok (.ireturn, 1) := by decide +kernel
theorem dX12_sideOf_80 : decode cX12_sideOf 80 = .ok (.iload 4, 2) := by decide +kernel
theorem dX12_sideOf_82 : decode cX12_sideOf 82 = .ok (.iconst 1, 1) := by decide +kernel
theorem dX12_sideOf_83 : decode cX12_sideOf 83 = .ok (.if_icmp .eq 15, 3) := by decide +kernel
theorem dX12_sideOf_86 : decode cX12_sideOf 86 = .ok (.iload 4, 2) := by decide +kernel
theorem dX12_sideOf_88 : decode cX12_sideOf 88 = .ok (.iconst (-1), 1) := by decide +kernel
theorem dX12_sideOf_89 : decode cX12_sideOf 89 = .ok (.if_icmp .eq 9, 3) := by decide +kernel
theorem dX12_sideOf_92 : decode cX12_sideOf 92 = .ok (.iload 5, 2) := by decide +kernel
theorem dX12_sideOf_94 : decode cX12_sideOf 94 = .ok (.iconst (-1), 1) := by decide +kernel
theorem dX12_sideOf_95 : decode cX12_sideOf 95 = .ok (.if_icmp .ne 17, 3) := by decide +kernel
theorem dX12_sideOf_98 : decode cX12_sideOf 98 = .ok (.iload 4, 2) := by decide +kernel
theorem dX12_sideOf_100 : decode cX12_sideOf 100 = .ok (.iconst (-1), 1) := by decide +kernel
theorem dX12_sideOf_101 : decode cX12_sideOf 101 = .ok (.if_icmp .ne 8, 3) := by decide +kernel
theorem dX12_sideOf_104 : decode cX12_sideOf 104 = .ok (.iload 5, 2) := by decide +kernel
theorem dX12_sideOf_106 : decode cX12_sideOf 106 = .ok (.goto 5, 3) := by decide +kernel
theorem dX12_sideOf_109 : decode cX12_sideOf 109 = .ok (.iload 4, 2) := by decide +kernel
theorem dX12_sideOf_111 : decode cX12_sideOf 111 = .ok (.ireturn, 1) := by decide +kernel
theorem dX12_sideOf_112 : decode cX12_sideOf 112 = .ok (.aload_n 0, 1) := by decide +kernel
theorem dX12_sideOf_113 : decode cX12_sideOf 113 = .ok (.getfield 92, 3) := by decide +kernel
theorem dX12_sideOf_116 : decode cX12_sideOf 116 = .ok (.iload_n 1, 1) := by decide +kernel
theorem dX12_sideOf_117 : decode cX12_sideOf 117 = .ok (.aaload, 1) := by decide +kernel
theorem dX12_sideOf_118 : decode cX12_sideOf 118 = .ok (.iload 4, 2) := by decide +kernel
theorem dX12_sideOf_120 : decode cX12_sideOf 120 = .ok (.baload, 1) := by decide +kernel
theorem dX12_sideOf_121 : decode cX12_sideOf 121 = .ok (.ifCond .ne 7, 3) := by decide +kernel
theorem dX12_sideOf_124 : decode cX12_sideOf 124 = .ok (.iconst 1, 1) := by decide +kernel
theorem dX12_sideOf_125 : decode cX12_sideOf 125 = .ok (.goto 4, 3) := by decide +kernel
theorem dX12_sideOf_128 : decode cX12_sideOf 128 = .ok (.iconst 0, 1) := by decide +kernel
theorem dX12_sideOf_129 : decode cX12_sideOf 129 = .ok (.istore 6, 2) := by decide +kernel
theorem dX12_sideOf_131 : decode cX12_sideOf 131 = .ok (.aload_n 0, 1) := by decide +kernel
theorem dX12_sideOf_132 : decode cX12_sideOf 132 = .ok (.getfield 92, 3) := by decide +kernel
theorem dX12_sideOf_135 : decode cX12_sideOf 135 = .ok (.iload_n 1, 1) := by decide +kernel
theorem dX12_sideOf_136 : decode cX12_sideOf 136 = .ok (.aaload, 1) := by decide +kernel
theorem dX12_sideOf_137 : decode cX12_sideOf 137 = .ok (.iload 5, 2) := by decide +kernel
theorem dX12_sideOf_139 : decode cX12_sideOf 139 = .ok (.baload, 1) := by decide +kernel
theorem dX12_sideOf_140 : decode cX12_sideOf 140 = .ok (.ifCond .ne 7, 3) := by decide +kernel
theorem dX12_sideOf_143 : decode cX12_sideOf 143 = .ok (.iconst 1, 1) := by decide +kernel
theorem dX12_sideOf_144 : decode cX12_sideOf 144 = .ok (.goto 4, 3) := by decide +kernel
theorem dX12_sideOf_147 : decode cX12_sideOf 147 = .ok (.iconst 0, 1) := by decide +kernel
theorem dX12_sideOf_148 : decode cX12_sideOf 148 = .ok (.istore 7, 2) := by decide +kernel
theorem dX12_sideOf_150 : decode cX12_sideOf 150 = .ok (.iload 6, 2) := by decide +kernel
theorem dX12_sideOf_152 : decode cX12_sideOf 152 = .ok (.ifCond .eq 17, 3) := by decide +kernel
theorem dX12_sideOf_155 : decode cX12_sideOf 155 = .ok (.aload_n 0, 1) := by decide +kernel
theorem dX12_sideOf_156 : decode cX12_sideOf 156 = .ok (.iload_n 1, 1) := by decide +kernel
theorem dX12_sideOf_157 : decode cX12_sideOf 157 = .ok (.iload 4, 2) := by decide +kernel
theorem dX12_sideOf_159 : decode cX12_sideOf 159 = .ok (.iload_n 3, 1) := by decide +kernel
theorem dX12_sideOf_160 : decode cX12_sideOf 160 = .ok (.invokevirtual 208, 3) := by decide +kernel
theorem dX12_sideOf_163 : decode cX12_sideOf 163 = .ok (.ifCond .eq 6, 3) := by decide +kernel
theorem dX12_sideOf_166 : decode cX12_sideOf 166 = .ok (.iload 4, 2) := by decide +kernel
theorem dX12_sideOf_168 : decode cX12_sideOf 168 = .ok (.ireturn, 1) := by decide +kernel
theorem dX12_sideOf_169 : decode cX12_sideOf 169 = .ok (.iload 7, 2) := by decide +kernel
theorem dX12_sideOf_171 : decode cX12_sideOf 171 = .ok (.ifCond .eq 19, 3) := by decide +kernel
theorem dX12_sideOf_174 : decode cX12_sideOf 174 = .ok (.aload_n 0, 1) := by decide +kernel
theorem dX12_sideOf_175 : decode cX12_sideOf 175 = .ok (.iload_n 1, 1) := by decide +kernel
theorem dX12_sideOf_176 : decode cX12_sideOf 176 = .ok (.iload 5, 2) := by decide +kernel
theorem dX12_sideOf_178 : decode cX12_sideOf 178 = .ok (.iload_n 3, 1) := by decide +kernel
theorem dX12_sideOf_179 : decode cX12_sideOf 179 = .ok (.invokevirtual 208, 3) := by decide +kernel
theorem dX12_sideOf_182 : decode cX12_sideOf 182 = .ok (.ifCond .eq 8, 3) := by decide +kernel
theorem dX12_sideOf_185 : decode cX12_sideOf 185 = .ok (.iload 5, 2) := by decide +kernel
theorem dX12_sideOf_187 : decode cX12_sideOf 187 = .ok (.goto 25, 3) := by decide +kernel
theorem dX12_sideOf_190 : decode cX12_sideOf 190 = .ok (.iload 6, 2) := by decide +kernel
theorem dX12_sideOf_192 : decode cX12_sideOf 192 = .ok (.ifCond .eq 8, 3) := by decide +kernel
theorem dX12_sideOf_195 : decode cX12_sideOf 195 = .ok (.iload 4, 2) := by decide +kernel
theorem dX12_sideOf_197 : decode cX12_sideOf 197 = .ok (.goto 15, 3) := by decide +kernel
theorem dX12_sideOf_200 : decode cX12_sideOf 200 = .ok (.iload 7, 2) := by decide +kernel
theorem dX12_sideOf_202 : decode cX12_sideOf 202 = .ok (.ifCond .eq 8, 3) := by decide +kernel
theorem dX12_sideOf_205 : decode cX12_sideOf 205 = .ok (.iload 5, 2) := by decide +kernel
theorem dX12_sideOf_207 : decode cX12_sideOf 207 = .ok (.goto 5, 3) := by decide +kernel
theorem dX12_sideOf_210 : decode cX12_sideOf 210 = .ok (.iload 4, 2) := by decide +kernel
theorem dX12_sideOf_212 : decode cX12_sideOf 212 = .ok (.ireturn, 1) := by decide +kernel
theorem dX12_adds_0 : decode cX12_adds 0 = .ok (.aload_n 0, 1) := by decide +kernel
theorem dX12_adds_1 : decode cX12_adds 1 = .ok (.getfield 75, 3) := by decide +kernel
theorem dX12_adds_4 : decode cX12_adds 4 = .ok (.iload_n 1, 1) := by decide +kernel
theorem dX12_adds_5 : decode cX12_adds 5 = .ok (.aaload, 1) := by decide +kernel
theorem dX12_adds_6 : decode cX12_adds 6 = .ok (.iload_n 2, 1) := by decide +kernel
theorem dX12_adds_7 : decode cX12_adds 7 = .ok (.aaload, 1) := by decide +kernel
theorem dX12_adds_8 : decode cX12_adds 8 = .ok (.iload_n 3, 1) := by decide +kernel
theorem dX12_adds_9 : decode cX12_adds 9 = .ok (.iaload, 1) := by decide +kernel
theorem dX12_adds_10 : decode cX12_adds 10 = .ok (.istore 5, 2) := by decide +kernel
theorem dX12_adds_12 : decode cX12_adds 12 = .ok (.aload_n 0, 1) := by decide +kernel
theorem dX12_adds_13 : decode cX12_adds 13 = .ok (.getfield 67, 3) := by decide +kernel
theorem dX12_adds_16 : decode cX12_adds 16 = .ok (.iload_n 1, 1) := by decide +kernel
theorem dX12_adds_17 : decode cX12_adds 17 = .ok (.aaload, 1) := by decide +kernel
theorem dX12_adds_18 : decode cX12_adds 18 = .ok (.iload_n 2, 1) := by decide +kernel
theorem dX12_adds_19 : decode cX12_adds 19 = .ok (.aaload, 1) := by decide +kernel
theorem dX12_adds_20 : decode cX12_adds 20 = .ok (.iload_n 3, 1) := by decide +kernel
theorem dX12_adds_21 : decode cX12_adds 21 = .ok (.aaload, 1) := by decide +kernel
theorem dX12_adds_22 : decode cX12_adds 22 = .ok (.iload 5, 2) := by decide +kernel
theorem dX12_adds_24 : decode cX12_adds 24 = .ok (.iload 4, 2) := by decide +kernel
theorem dX12_adds_26 : decode cX12_adds 26 = .ok (.iastore, 1) := by decide +kernel
theorem dX12_adds_27 : decode cX12_adds 27 = .ok (.aload_n 0, 1) := by decide +kernel
theorem dX12_adds_28 : decode cX12_adds 28 = .ok (.getfield 70, 3) := by decide +kernel
theorem dX12_adds_31 : decode cX12_adds 31 = .ok (.iload_n 1, 1) := by decide +kernel
theorem dX12_adds_32 : decode cX12_adds 32 = .ok (.aaload, 1) := by decide +kernel
theorem dX12_adds_33 : decode cX12_adds 33 = .ok (.iload_n 2, 1) := by decide +kernel
theorem dX12_adds_34 : decode cX12_adds 34 = .ok (.aaload, 1) := by decide +kernel
theorem dX12_adds_35 : decode cX12_adds 35 = .ok (.iload_n 3, 1) := by decide +kernel
theorem dX12_adds_36 : decode cX12_adds 36 = .ok (.aaload, 1) := by decide +kernel
theorem dX12_adds_37 : decode cX12_adds 37 = .ok (.iload 5, 2) := by decide +kernel
theorem dX12_adds_39 : decode cX12_adds 39 = .ok (.aload_n 0, 1) := by decide +kernel
theorem dX12_adds_40 : decode cX12_adds 40 = .ok (.getfield 162, 3) := by decide +kernel
theorem dX12_adds_43 : decode cX12_adds 43 = .ok (.iconst 1, 1) := by decide +kernel
theorem dX12_adds_44 : decode cX12_adds 44 = .ok (.iadd, 1) := by decide +kernel
theorem dX12_adds_45 : decode cX12_adds 45 = .ok (.iastore, 1) := by decide +kernel
theorem dX12_adds_46 : decode cX12_adds 46 = .ok (.aload_n 0, 1) := by decide +kernel
theorem dX12_adds_47 : decode cX12_adds 47 = .ok (.getfield 75, 3) := by decide +kernel
theorem dX12_adds_50 : decode cX12_adds 50 = .ok (.iload_n 1, 1) := by decide +kernel
theorem dX12_adds_51 : decode cX12_adds 51 = .ok (.aaload, 1) := by decide +kernel
theorem dX12_adds_52 : decode cX12_adds 52 = .ok (.iload_n 2, 1) := by decide +kernel
theorem dX12_adds_53 : decode cX12_adds 53 = .ok (.aaload, 1) := by decide +kernel
theorem dX12_adds_54 : decode cX12_adds 54 = .ok (.iload_n 3, 1) := by decide +kernel
theorem dX12_adds_55 : decode cX12_adds 55 = .ok (.dup2, 1) := by decide +kernel
theorem dX12_adds_56 : decode cX12_adds 56 = .ok (.iaload, 1) := by decide +kernel
theorem dX12_adds_57 : decode cX12_adds 57 = .ok (.iconst 1, 1) := by decide +kernel
theorem dX12_adds_58 : decode cX12_adds 58 = .ok (.iadd, 1) := by decide +kernel
theorem dX12_adds_59 : decode cX12_adds 59 = .ok (.iastore, 1) := by decide +kernel
theorem dX12_adds_60 : decode cX12_adds 60 = .ok (.aload_n 0, 1) := by decide +kernel
theorem dX12_adds_61 : decode cX12_adds 61 = .ok (.iconst 1, 1) := by decide +kernel
theorem dX12_adds_62 : decode cX12_adds 62 = .ok (.putfield 211, 3) := by decide +kernel
theorem dX12_adds_65 : decode cX12_adds 65 = .ok (.return_, 1) := by decide +kernel
theorem dX12_drops_0 : decode cX12_drops 0 = .ok (.aload_n 0, 1) := by decide +kernel
theorem dX12_drops_1 : decode cX12_drops 1 = .ok (.getfield 75, 3) := by decide +kernel
theorem dX12_drops_4 : decode cX12_drops 4 = .ok (.iload_n 1, 1) := by decide +kernel
theorem dX12_drops_5 : decode cX12_drops 5 = .ok (.aaload, 1) := by decide +kernel
theorem dX12_drops_6 : decode cX12_drops 6 = .ok (.iload_n 2, 1) := by decide +kernel
theorem dX12_drops_7 : decode cX12_drops 7 = .ok (.aaload, 1) := by decide +kernel
theorem dX12_drops_8 : decode cX12_drops 8 = .ok (.iload_n 3, 1) := by decide +kernel
theorem dX12_drops_9 : decode cX12_drops 9 = .ok (.iaload, 1) := by decide +kernel
theorem dX12_drops_10 : decode cX12_drops 10 = .ok (.iload 4, 2) := by decide +kernel
theorem dX12_drops_12 : decode cX12_drops 12 = .ok (.isub, 1) := by decide +kernel
theorem dX12_drops_13 : decode cX12_drops 13 = .ok (.iconst 1, 1) := by decide +kernel
theorem dX12_drops_14 : decode cX12_drops 14 = .ok (.isub, 1) := by decide +kernel
theorem dX12_drops_15 : decode cX12_drops 15 = .ok (.istore 5, 2) := by decide +kernel
theorem dX12_drops_17 : decode cX12_drops 17 = .ok (.aload_n 0, 1) := by decide +kernel
theorem dX12_drops_18 : decode cX12_drops 18 = .ok (.getfield 67, 3) := by decide +kernel
theorem dX12_drops_21 : decode cX12_drops 21 = .ok (.iload_n 1, 1) := by decide +kernel
theorem dX12_drops_22 : decode cX12_drops 22 = .ok (.aaload, 1) := by decide +kernel
theorem dX12_drops_23 : decode cX12_drops 23 = .ok (.iload_n 2, 1) := by decide +kernel
theorem dX12_drops_24 : decode cX12_drops 24 = .ok (.aaload, 1) := by decide +kernel
theorem dX12_drops_25 : decode cX12_drops 25 = .ok (.iload_n 3, 1) := by decide +kernel
theorem dX12_drops_26 : decode cX12_drops 26 = .ok (.aaload, 1) := by decide +kernel
theorem dX12_drops_27 : decode cX12_drops 27 = .ok (.iload 4, 2) := by decide +kernel
theorem dX12_drops_29 : decode cX12_drops 29 = .ok (.iconst 1, 1) := by decide +kernel
theorem dX12_drops_30 : decode cX12_drops 30 = .ok (.iadd, 1) := by decide +kernel
theorem dX12_drops_31 : decode cX12_drops 31 = .ok (.aload_n 0, 1) := by decide +kernel
theorem dX12_drops_32 : decode cX12_drops 32 = .ok (.getfield 67, 3) := by decide +kernel
theorem dX12_drops_35 : decode cX12_drops 35 = .ok (.iload_n 1, 1) := by decide +kernel
theorem dX12_drops_36 : decode cX12_drops 36 = .ok (.aaload, 1) := by decide +kernel
theorem dX12_drops_37 : decode cX12_drops 37 = .ok (.iload_n 2, 1) := by decide +kernel
theorem dX12_drops_38 : decode cX12_drops 38 = .ok (.aaload, 1) := by decide +kernel
theorem dX12_drops_39 : decode cX12_drops 39 = .ok (.iload_n 3, 1) := by decide +kernel
theorem dX12_drops_40 : decode cX12_drops 40 = .ok (.aaload, 1) := by decide +kernel
theorem dX12_drops_41 : decode cX12_drops 41 = .ok (.iload 4, 2) := by decide +kernel
theorem dX12_drops_43 : decode cX12_drops 43 = .ok (.iload 5, 2) := by decide +kernel
theorem dX12_drops_45 : decode cX12_drops 45 = .ok (.invokestatic 215, 3) := by decide +kernel
theorem dX12_drops_48 : decode cX12_drops 48 = .ok (.aload_n 0, 1) := by decide +kernel
theorem dX12_drops_49 : decode cX12_drops 49 = .ok (.getfield 70, 3) := by decide +kernel
theorem dX12_drops_52 : decode cX12_drops 52 = .ok (.iload_n 1, 1) := by decide +kernel
theorem dX12_drops_53 : decode cX12_drops 53 = .ok (.aaload, 1) := by decide +kernel
theorem dX12_drops_54 : decode cX12_drops 54 = .ok (.iload_n 2, 1) := by decide +kernel
theorem dX12_drops_55 : decode cX12_drops 55 = .ok (.aaload, 1) := by decide +kernel
theorem dX12_drops_56 : decode cX12_drops 56 = .ok (.iload_n 3, 1) := by decide +kernel
theorem dX12_drops_57 : decode cX12_drops 57 = .ok (.aaload, 1) := by decide +kernel
theorem dX12_drops_58 : decode cX12_drops 58 = .ok (.iload 4, 2) := by decide +kernel
theorem dX12_drops_60 : decode cX12_drops 60 = .ok (.iconst 1, 1) := by decide +kernel
theorem dX12_drops_61 : decode cX12_drops 61 = .ok (.iadd, 1) := by decide +kernel
theorem dX12_drops_62 : decode cX12_drops 62 = .ok (.aload_n 0, 1) := by decide +kernel
theorem dX12_drops_63 : decode cX12_drops 63 = .ok (.getfield 70, 3) := by decide +kernel
theorem dX12_drops_66 : decode cX12_drops 66 = .ok (.iload_n 1, 1) := by decide +kernel
theorem dX12_drops_67 : decode cX12_drops 67 = .ok (.aaload, 1) := by decide +kernel
theorem dX12_drops_68 : decode cX12_drops 68 = .ok (.iload_n 2, 1) := by decide +kernel
theorem dX12_drops_69 : decode cX12_drops 69 = .ok (.aaload, 1) := by decide +kernel
theorem dX12_drops_70 : decode cX12_drops 70 = .ok (.iload_n 3, 1) := by decide +kernel
theorem dX12_drops_71 : decode cX12_drops 71 = .ok (.aaload, 1) := by decide +kernel
theorem dX12_drops_72 : decode cX12_drops 72 = .ok (.iload 4, 2) := by decide +kernel
theorem dX12_drops_74 : decode cX12_drops 74 = .ok (.iload 5, 2) := by decide +kernel
theorem dX12_drops_76 : decode cX12_drops 76 = .ok (.invokestatic 215, 3) := by decide +kernel
theorem dX12_drops_79 : decode cX12_drops 79 = .ok (.aload_n 0, 1) := by decide +kernel
theorem dX12_drops_80 : decode cX12_drops 80 = .ok (.getfield 75, 3) := by decide +kernel
theorem dX12_drops_83 : decode cX12_drops 83 = .ok (.iload_n 1, 1) := by decide +kernel
theorem dX12_drops_84 : decode cX12_drops 84 = .ok (.aaload, 1) := by decide +kernel
theorem dX12_drops_85 : decode cX12_drops 85 = .ok (.iload_n 2, 1) := by decide +kernel
theorem dX12_drops_86 : decode cX12_drops 86 = .ok (.aaload, 1) := by decide +kernel
theorem dX12_drops_87 : decode cX12_drops 87 = .ok (.iload_n 3, 1) := by decide +kernel
theorem dX12_drops_88 : decode cX12_drops 88 = .ok (.dup2, 1) := by decide +kernel
theorem dX12_drops_89 : decode cX12_drops 89 = .ok (.iaload, 1) := by decide +kernel
theorem dX12_drops_90 : decode cX12_drops 90 = .ok (.iconst 1, 1) := by decide +kernel
theorem dX12_drops_91 : decode cX12_drops 91 = .ok (.isub, 1) := by decide +kernel
theorem dX12_drops_92 : decode cX12_drops 92 = .ok (.iastore, 1) := by decide +kernel
theorem dX12_drops_93 : decode cX12_drops 93 = .ok (.return_, 1) := by decide +kernel
def f_M_lying_b36 (K36 : me_M → Int32 → Int32 → Int32 → Int32 → Option (me_M × Int32)) (μ : me_M) (v1 : Int32) (v2 : Int32) (v3 : Int32) (v4 : Int32) : Option (me_M × Int32) :=
  if (μ 36 0 19) ≤ v4 then
  (some (μ, v3))
  else
  (me_bd (f_M_isLying μ v4 v1 v2) (fun r2 =>
  if r2 = 0 then
  (me_lt ((v3 + (0 : Int32))) (fun x4 =>
  me_lt (me_inc v4 (1)) (fun x5 =>
  K36 μ v1 v2 x4 x5)))
  else
  (me_lt ((v3 + (1 : Int32))) (fun x6 =>
  me_lt (me_inc v4 (1)) (fun x7 =>
  K36 μ v1 v2 x6 x7)))))
set_option maxHeartbeats 4000000 in
set_option maxRecDepth 100000 in
theorem z_M_lying_b36 {X : me_X} {B : me_B} {sz : Nat} (C : me_C X B RX12 cX12_lying 5 (some .int)) {μ : me_M} {v1 : Int32} {v2 : Int32} {v3 : Int32} {v4 : Int32}  {K36 : me_M → Int32 → Int32 → Int32 → Int32 → Option (me_M × Int32)} {r : me_M × Int32} (N : me_En X B sz (B, r.1, .ok (some (me_i r.2))) 2 43 0 0) (hNx : me_Nx X) (hB : me_St B) (hK36 : ∀ (μ : me_M) (v1 : Int32) (v2 : Int32) (v3 : Int32) (v4 : Int32), K36 μ v1 v2 v3 v4 = some r → me_Z X B 0 0 μ 36 [(0, me_r 36 0), (1, me_i v1), (2, me_i v2), (3, me_i v3), (4, me_i v4)] [])  (hf : f_M_lying_b36 K36 μ v1 v2 v3 v4 = some r) : me_Z X B 0 0 μ 36 [(0, me_r 36 0), (1, me_i v1), (2, me_i v2), (3, me_i v3), (4, me_i v4)] [] := by
  unfold f_M_lying_b36 at hf
  refine me_iload C dX12_lying_36 rfl ?_
  refine me_aload_n C 0 (Or.inr (Or.inl ⟨_, rfl⟩)) dX12_lying_38 rfl rfl ?_
  refine me_geti C 19 fg_M_152 dX12_lying_39 rfl ?_
  refine me_icmp_ge C (tgt := 70) dX12_lying_42 (by decide) (fun c1 => ?_) (fun c1 => ?_)
  · replace hf := me_ip c1 hf
    refine me_iload_n C 3 dX12_lying_70 rfl rfl ?_
    exact me_iret C N dX12_lying_71 (me_nri _) (by cases hf; rfl) (by decide) (by decide)
  · replace hf := me_in c1 hf
    refine me_iload_n C 3 dX12_lying_45 rfl rfl ?_
    refine me_aload_n C 0 (Or.inr (Or.inl ⟨_, rfl⟩)) dX12_lying_46 rfl rfl ?_
    refine me_iload C dX12_lying_47 rfl ?_
    refine me_iload_n C 1 dX12_lying_49 rfl rfl ?_
    refine me_iload_n C 2 dX12_lying_50 rfl rfl ?_
    obtain ⟨r2, h_r2, hf⟩ := me_bs hf
    refine me_callV C N  (As := [me_i v4, me_i v1, me_i v2]) (st := [me_i v3]) 0 0 (c_M_isLying hB h_r2) mv_M_isLying ml_M_192 rfl rfl dX12_lying_51 rfl rfl ⟨by decide, by decide⟩ ⟨by decide, by decide, by decide, by decide⟩ (Nat.le_of_ble_eq_true rfl) ?_
    refine me_if_eq C (tgt := 61) dX12_lying_54 (by decide) (fun c3 => ?_) (fun c3 => ?_)
    · replace hf := me_ip c3 hf
      refine me_iconst C (v := 0) dX12_lying_61 (by decide) ?_
      refine me_iadd C dX12_lying_62 ?_
      obtain ⟨x4, e_x4, hf⟩ := me_lts hf
      refine me_nm e_x4 ?_
      refine me_istore_n C 3 dX12_lying_63 rfl (by decide) (L' := [(3, me_i x4), (0, me_r 36 0), (1, me_i v1), (2, me_i v2), (4, me_i v4)]) rfl ?_
      obtain ⟨x5, e_x5, hf⟩ := me_lts hf
      refine me_iinc C (v := x5) (L' := [(4, me_i x5), (3, me_i x4), (0, me_r 36 0), (1, me_i v1), (2, me_i v2)]) dX12_lying_64 rfl e_x5.symm (by decide) rfl ?_
      refine me_goto C (tgt := 36) dX12_lying_67 (by decide) ?_
      refine me_dropI [(0, me_r 36 0), (1, me_i v1), (2, me_i v2), (3, me_i x4), (4, me_i x5)] [2, 3, 4, 1, 0] rfl ?_
      exact hK36 μ v1 v2 x4 x5 hf
    · replace hf := me_in c3 hf
      refine me_iconst C (v := 1) dX12_lying_57 (by decide) ?_
      refine me_goto C (tgt := 62) dX12_lying_58 (by decide) ?_
      refine me_iadd C dX12_lying_62 ?_
      obtain ⟨x6, e_x6, hf⟩ := me_lts hf
      refine me_nm e_x6 ?_
      refine me_istore_n C 3 dX12_lying_63 rfl (by decide) (L' := [(3, me_i x6), (0, me_r 36 0), (1, me_i v1), (2, me_i v2), (4, me_i v4)]) rfl ?_
      obtain ⟨x7, e_x7, hf⟩ := me_lts hf
      refine me_iinc C (v := x7) (L' := [(4, me_i x7), (3, me_i x6), (0, me_r 36 0), (1, me_i v1), (2, me_i v2)]) dX12_lying_64 rfl e_x7.symm (by decide) rfl ?_
      refine me_goto C (tgt := 36) dX12_lying_67 (by decide) ?_
      refine me_dropI [(0, me_r 36 0), (1, me_i v1), (2, me_i v2), (3, me_i x6), (4, me_i x7)] [2, 3, 4, 1, 0] rfl ?_
      exact hK36 μ v1 v2 x6 x7 hf
def f_M_lying_h36  : Nat → me_M → Int32 → Int32 → Int32 → Int32 → Option (me_M × Int32)
  | 0, _, _, _, _, _ => none
  | n + 1, μ, v1, v2, v3, v4 => f_M_lying_b36 (f_M_lying_h36 n) μ v1 v2 v3 v4
set_option maxHeartbeats 4000000 in
set_option maxRecDepth 100000 in
theorem z_M_lying_h36 {X : me_X} {B : me_B} {sz : Nat} (C : me_C X B RX12 cX12_lying 5 (some .int))  {r : me_M × Int32} (N : me_En X B sz (B, r.1, .ok (some (me_i r.2))) 2 43 0 0) (hNx : me_Nx X) (hB : me_St B)  : ∀ (n : Nat) (μ : me_M) (v1 : Int32) (v2 : Int32) (v3 : Int32) (v4 : Int32), f_M_lying_h36 n μ v1 v2 v3 v4 = some r → me_Z X B 0 0 μ 36 [(0, me_r 36 0), (1, me_i v1), (2, me_i v2), (3, me_i v3), (4, me_i v4)] [] := by
  intro n
  induction n with
  | zero => intro μ v1 v2 v3 v4  h; exact absurd (show (none : Option (me_M × Int32)) = some r from h) (fun q => by cases q)
  | succ n ih => intro μ v1 v2 v3 v4  h; exact z_M_lying_b36 C N hNx hB  (K36 := f_M_lying_h36 n) ih  h
def f_M_lying_b22 (μ : me_M) (v1 : Int32) (v2 : Int32) (s0 : Int32) : Option (me_M × Int32) :=
  me_b2 (f_M_isThrown μ s0 (1 : Int32)) (fun μ2 r1 =>
  if r1 = 0 then
  (f_M_lying_h36 me_FU μ2 v1 v2 (0 : Int32) (0 : Int32))
  else
  (some (μ2, (0 : Int32))))
set_option maxHeartbeats 4000000 in
set_option maxRecDepth 100000 in
theorem z_M_lying_b22 {X : me_X} {B : me_B} {sz : Nat} (C : me_C X B RX12 cX12_lying 5 (some .int)) {μ : me_M} {v1 : Int32} {v2 : Int32} {s0 : Int32}   {r : me_M × Int32} (N : me_En X B sz (B, r.1, .ok (some (me_i r.2))) 2 43 0 0) (hNx : me_Nx X) (hB : me_St B)   (hf : f_M_lying_b22 μ v1 v2 s0 = some r) : me_Z X B 0 0 μ 22 [(0, me_r 36 0), (1, me_i v1), (2, me_i v2)] [me_i s0, me_r 36 0] := by
  unfold f_M_lying_b22 at hf
  refine me_iconst C (v := 1) dX12_lying_22 (by decide) ?_
  obtain ⟨μ2, r1, h_r1, hf⟩ := me_bs2 hf
  refine me_callV C N  (As := [me_i s0, me_i (1 : Int32)]) (st := []) 0 0 (c_M_isThrown hB h_r1) mv_M_isThrown ml_M_155 rfl rfl dX12_lying_23 rfl rfl ⟨by decide, by decide⟩ ⟨by decide, by decide, by decide, by decide⟩ (Nat.le_of_ble_eq_true rfl) ?_
  refine me_if_eq C (tgt := 31) dX12_lying_26 (by decide) (fun c3 => ?_) (fun c3 => ?_)
  · replace hf := me_ip c3 hf
    refine me_iconst C (v := 0) dX12_lying_31 (by decide) ?_
    refine me_istore_n C 3 dX12_lying_32 rfl (by decide) (L' := [(3, me_i (0 : Int32)), (0, me_r 36 0), (1, me_i v1), (2, me_i v2)]) rfl ?_
    refine me_iconst C (v := 0) dX12_lying_33 (by decide) ?_
    refine me_istore C dX12_lying_34 (by decide) (L' := [(4, me_i (0 : Int32)), (3, me_i (0 : Int32)), (0, me_r 36 0), (1, me_i v1), (2, me_i v2)]) rfl ?_
    refine me_dropI [(0, me_r 36 0), (1, me_i v1), (2, me_i v2), (3, me_i (0 : Int32)), (4, me_i (0 : Int32))] [2, 3, 4, 1, 0] rfl ?_
    exact z_M_lying_h36 C N hNx hB me_FU μ2 v1 v2 (0 : Int32) (0 : Int32) hf
  · replace hf := me_in c3 hf
    refine me_iconst C (v := 0) dX12_lying_29 (by decide) ?_
    exact me_iret C N dX12_lying_30 (me_nri _) (by cases hf; rfl) (by decide) (by decide)
def f_M_lying_b17 (μ : me_M) (v1 : Int32) (v2 : Int32) : Option (me_M × Int32) :=
  f_M_lying_b22 μ v1 v2 (1 : Int32)
set_option maxHeartbeats 4000000 in
set_option maxRecDepth 100000 in
theorem z_M_lying_b17 {X : me_X} {B : me_B} {sz : Nat} (C : me_C X B RX12 cX12_lying 5 (some .int)) {μ : me_M} {v1 : Int32} {v2 : Int32}   {r : me_M × Int32} (N : me_En X B sz (B, r.1, .ok (some (me_i r.2))) 2 43 0 0) (hNx : me_Nx X) (hB : me_St B)   (hf : f_M_lying_b17 μ v1 v2 = some r) : me_Z X B 0 0 μ 17 [(0, me_r 36 0), (1, me_i v1), (2, me_i v2)] [me_r 36 0] := by
  unfold f_M_lying_b17 at hf
  refine me_iconst C (v := 1) dX12_lying_17 (by decide) ?_
  refine me_goto C (tgt := 22) dX12_lying_18 (by decide) ?_
  refine me_dropI [(0, me_r 36 0), (1, me_i v1), (2, me_i v2)] [0, 1, 2] rfl ?_
  exact z_M_lying_b22 C N hNx hB hf
def f_M_lying (μ : me_M) (v1 : Int32) (v2 : Int32) : Option (me_M × Int32) :=
  me_bd (f_M_isNoNode μ v1) (fun r1 =>
  if r1 = 0 then
  (me_bd (f_M_isNoNode μ v2) (fun r3 =>
  if r3 = 0 then
  (f_M_lying_b22 μ v1 v2 (0 : Int32))
  else
  (f_M_lying_b17 μ v1 v2)))
  else
  (f_M_lying_b17 μ v1 v2))
set_option maxHeartbeats 4000000 in
set_option maxRecDepth 100000 in
theorem z_M_lying {X : me_X} {B : me_B} {sz : Nat} (C : me_C X B RX12 cX12_lying 5 (some .int)) {μ : me_M} {v1 : Int32} {v2 : Int32}   {r : me_M × Int32} (N : me_En X B sz (B, r.1, .ok (some (me_i r.2))) 2 43 0 0) (hNx : me_Nx X) (hB : me_St B)   (hf : f_M_lying μ v1 v2 = some r) : me_Z X B 0 0 μ 0 [(0, me_r 36 0), (1, me_i v1), (2, me_i v2)] [] := by
  unfold f_M_lying at hf
  refine me_aload_n C 0 (Or.inr (Or.inl ⟨_, rfl⟩)) dX12_lying_0 rfl rfl ?_
  refine me_aload_n C 0 (Or.inr (Or.inl ⟨_, rfl⟩)) dX12_lying_1 rfl rfl ?_
  refine me_iload_n C 1 dX12_lying_2 rfl rfl ?_
  obtain ⟨r1, h_r1, hf⟩ := me_bs hf
  refine me_callV C N  (As := [me_i v1]) (st := [me_r 36 0]) 0 0 (c_M_isNoNode hB h_r1) mv_M_isNoNode ml_M_165 rfl rfl dX12_lying_3 rfl rfl ⟨by decide, by decide⟩ ⟨by decide, by decide, by decide, by decide⟩ (Nat.le_of_ble_eq_true rfl) ?_
  refine me_if_ne C (tgt := 17) dX12_lying_6 (by decide) (fun c2 => ?_) (fun c2 => ?_)
  · replace hf := me_in c2 hf
    refine me_dropI [(0, me_r 36 0), (1, me_i v1), (2, me_i v2)] [0, 1, 2] rfl ?_
    exact z_M_lying_b17 C N hNx hB hf
  · replace hf := me_ip c2 hf
    refine me_aload_n C 0 (Or.inr (Or.inl ⟨_, rfl⟩)) dX12_lying_9 rfl rfl ?_
    refine me_iload_n C 2 dX12_lying_10 rfl rfl ?_
    obtain ⟨r3, h_r3, hf⟩ := me_bs hf
    refine me_callV C N  (As := [me_i v2]) (st := [me_r 36 0]) 0 0 (c_M_isNoNode hB h_r3) mv_M_isNoNode ml_M_165 rfl rfl dX12_lying_11 rfl rfl ⟨by decide, by decide⟩ ⟨by decide, by decide, by decide, by decide⟩ (Nat.le_of_ble_eq_true rfl) ?_
    refine me_if_eq C (tgt := 21) dX12_lying_14 (by decide) (fun c4 => ?_) (fun c4 => ?_)
    · replace hf := me_ip c4 hf
      refine me_iconst C (v := 0) dX12_lying_21 (by decide) ?_
      refine me_dropI [(0, me_r 36 0), (1, me_i v1), (2, me_i v2)] [0, 1, 2] rfl ?_
      exact z_M_lying_b22 C N hNx hB hf
    · replace hf := me_in c4 hf
      refine me_dropI [(0, me_r 36 0), (1, me_i v1), (2, me_i v2)] [0, 1, 2] rfl ?_
      exact z_M_lying_b17 C N hNx hB hf
theorem c_M_lying {B : me_B} (hB : me_St B) {μ : me_M} {v1 : Int32} {v2 : Int32} {μ' : me_M} {r : Int32}  (hf : f_M_lying μ v1 v2 = some (μ', r)) : ∀ l E z, l.stackTraces = false → me_Met l yX12_lying cX12_lying 5 (some .int) 2 43 0 0 E B μ z [me_r 36 0, me_i v1, me_i v2] (B, μ', .ok (some (me_i r))) :=
  fun _ _ _ hl => me_ofZ hl (by decide +kernel) (Nat.le_of_ble_eq_true rfl) (fun _ C N hNx => z_M_lying C N hNx hB  hf)

def f_M_receive_b49 (μ : me_M) (v3 : Int32) (s0 : Int32) : Option (me_M × Int32) :=
  me_b2 (f_M_isThrown μ s0 (2 : Int32)) (fun μ2 r1 =>
  if r1 = 0 then
  (me_gd (me_inb v3 200) (
  me_lt (me_up μ2 38 0 (me_ix v3) (vp_nar .char (114 : Int32))) (fun μ5 =>
  some (μ5, v3))))
  else
  (some (μ2, (0 : Int32))))
set_option maxHeartbeats 4000000 in
set_option maxRecDepth 100000 in
theorem z_M_receive_b49 {X : me_X} {B : me_B} {sz : Nat} (C : me_C X B RX12 cX12_receive 4 (some .int)) {μ : me_M} {v3 : Int32} {s0 : Int32}   {r : me_M × Int32} (N : me_En X B sz (B, r.1, .ok (some (me_i r.2))) 2 47 0 0) (hNx : me_Nx X) (hB : me_St B)   (hf : f_M_receive_b49 μ v3 s0 = some r) : me_Z X B 0 0 μ 49 [(0, me_r 36 0), (3, me_i v3)] [me_i s0, me_r 36 0] := by
  unfold f_M_receive_b49 at hf
  refine me_iconst C (v := 2) dX12_receive_49 (by decide) ?_
  obtain ⟨μ2, r1, h_r1, hf⟩ := me_bs2 hf
  refine me_callV C N  (As := [me_i s0, me_i (2 : Int32)]) (st := []) 0 0 (c_M_isThrown hB h_r1) mv_M_isThrown ml_M_155 rfl rfl dX12_receive_50 rfl rfl ⟨by decide, by decide⟩ ⟨by decide, by decide, by decide, by decide⟩ (Nat.le_of_ble_eq_true rfl) ?_
  refine me_if_eq C (tgt := 58) dX12_receive_53 (by decide) (fun c3 => ?_) (fun c3 => ?_)
  · replace hf := me_ip c3 hf
    refine me_aload_n C 0 (Or.inr (Or.inl ⟨_, rfl⟩)) dX12_receive_58 rfl rfl ?_
    refine me_getr C hB 7 (k' := 38) (i' := 0) fg_M_27 dX12_receive_59 rfl rfl ?_
    refine me_iload_n C 3 dX12_receive_62 rfl rfl ?_
    refine me_bipush C (v := 114) dX12_receive_63 (by decide) ?_
    obtain ⟨g4, hf⟩ := me_gs hf
    obtain ⟨μ5, e_μ5, hf⟩ := me_lts hf
    refine me_cast C rfl (fun _ => rfl) g4 dX12_receive_65 e_μ5 ?_
    refine me_iload_n C 3 dX12_receive_66 rfl rfl ?_
    exact me_iret C N dX12_receive_67 (me_nri _) (by cases hf; rfl) (by decide) (by decide)
  · replace hf := me_in c3 hf
    refine me_iconst C (v := 0) dX12_receive_56 (by decide) ?_
    exact me_iret C N dX12_receive_57 (me_nri _) (by cases hf; rfl) (by decide) (by decide)
def f_M_receive_b22 (μ : me_M) (v1 : Int32) (v2 : Int32) (s0 : Int32) : Option (me_M × Int32) :=
  me_b2 (f_M_isThrown μ s0 (1 : Int32)) (fun μ2 r1 =>
  if r1 = 0 then
  (me_bd (f_M_firstLying μ2 v1 v2) (fun r4 =>
  if r4 = (-1 : Int32) then
  (f_M_receive_b49 μ2 r4 (1 : Int32))
  else
  (f_M_receive_b49 μ2 r4 (0 : Int32))))
  else
  (some (μ2, (0 : Int32))))
set_option maxHeartbeats 4000000 in
set_option maxRecDepth 100000 in
theorem z_M_receive_b22 {X : me_X} {B : me_B} {sz : Nat} (C : me_C X B RX12 cX12_receive 4 (some .int)) {μ : me_M} {v1 : Int32} {v2 : Int32} {s0 : Int32}   {r : me_M × Int32} (N : me_En X B sz (B, r.1, .ok (some (me_i r.2))) 2 47 0 0) (hNx : me_Nx X) (hB : me_St B)   (hf : f_M_receive_b22 μ v1 v2 s0 = some r) : me_Z X B 0 0 μ 22 [(0, me_r 36 0), (1, me_i v1), (2, me_i v2)] [me_i s0, me_r 36 0] := by
  unfold f_M_receive_b22 at hf
  refine me_iconst C (v := 1) dX12_receive_22 (by decide) ?_
  obtain ⟨μ2, r1, h_r1, hf⟩ := me_bs2 hf
  refine me_callV C N  (As := [me_i s0, me_i (1 : Int32)]) (st := []) 0 0 (c_M_isThrown hB h_r1) mv_M_isThrown ml_M_155 rfl rfl dX12_receive_23 rfl rfl ⟨by decide, by decide⟩ ⟨by decide, by decide, by decide, by decide⟩ (Nat.le_of_ble_eq_true rfl) ?_
  refine me_if_eq C (tgt := 31) dX12_receive_26 (by decide) (fun c3 => ?_) (fun c3 => ?_)
  · replace hf := me_ip c3 hf
    refine me_aload_n C 0 (Or.inr (Or.inl ⟨_, rfl⟩)) dX12_receive_31 rfl rfl ?_
    refine me_iload_n C 1 dX12_receive_32 rfl rfl ?_
    refine me_iload_n C 2 dX12_receive_33 rfl rfl ?_
    obtain ⟨r4, h_r4, hf⟩ := me_bs hf
    refine me_callV C N  (As := [me_i v1, me_i v2]) (st := []) 0 0 (c_M_firstLying hB h_r4) mv_M_firstLying ml_M_195 rfl rfl dX12_receive_34 rfl rfl ⟨by decide, by decide⟩ ⟨by decide, by decide, by decide, by decide⟩ (Nat.le_of_ble_eq_true rfl) ?_
    refine me_istore_n C 3 dX12_receive_37 rfl (by decide) (L' := [(3, me_i r4), (0, me_r 36 0), (1, me_i v1), (2, me_i v2)]) rfl ?_
    refine me_aload_n C 0 (Or.inr (Or.inl ⟨_, rfl⟩)) dX12_receive_38 rfl rfl ?_
    refine me_iload_n C 3 dX12_receive_39 rfl rfl ?_
    refine me_iconst C (v := -1) dX12_receive_40 (by decide) ?_
    refine me_icmp_ne C (tgt := 48) dX12_receive_41 (by decide) (fun c5 => ?_) (fun c5 => ?_)
    · replace hf := me_in c5 hf
      refine me_iconst C (v := 0) dX12_receive_48 (by decide) ?_
      refine me_dropI [(0, me_r 36 0), (3, me_i r4)] [1, 0] rfl ?_
      exact z_M_receive_b49 C N hNx hB hf
    · replace hf := me_ip c5 hf
      refine me_iconst C (v := 1) dX12_receive_44 (by decide) ?_
      refine me_goto C (tgt := 49) dX12_receive_45 (by decide) ?_
      refine me_dropI [(0, me_r 36 0), (3, me_i r4)] [1, 0] rfl ?_
      exact z_M_receive_b49 C N hNx hB hf
  · replace hf := me_in c3 hf
    refine me_iconst C (v := 0) dX12_receive_29 (by decide) ?_
    exact me_iret C N dX12_receive_30 (me_nri _) (by cases hf; rfl) (by decide) (by decide)
def f_M_receive_b17 (μ : me_M) (v1 : Int32) (v2 : Int32) : Option (me_M × Int32) :=
  f_M_receive_b22 μ v1 v2 (1 : Int32)
set_option maxHeartbeats 4000000 in
set_option maxRecDepth 100000 in
theorem z_M_receive_b17 {X : me_X} {B : me_B} {sz : Nat} (C : me_C X B RX12 cX12_receive 4 (some .int)) {μ : me_M} {v1 : Int32} {v2 : Int32}   {r : me_M × Int32} (N : me_En X B sz (B, r.1, .ok (some (me_i r.2))) 2 47 0 0) (hNx : me_Nx X) (hB : me_St B)   (hf : f_M_receive_b17 μ v1 v2 = some r) : me_Z X B 0 0 μ 17 [(0, me_r 36 0), (1, me_i v1), (2, me_i v2)] [me_r 36 0] := by
  unfold f_M_receive_b17 at hf
  refine me_iconst C (v := 1) dX12_receive_17 (by decide) ?_
  refine me_goto C (tgt := 22) dX12_receive_18 (by decide) ?_
  refine me_dropI [(0, me_r 36 0), (1, me_i v1), (2, me_i v2)] [0, 1, 2] rfl ?_
  exact z_M_receive_b22 C N hNx hB hf
def f_M_receive (μ : me_M) (v1 : Int32) (v2 : Int32) : Option (me_M × Int32) :=
  me_bd (f_M_isNoNode μ v1) (fun r1 =>
  if r1 = 0 then
  (me_bd (f_M_isNoNode μ v2) (fun r3 =>
  if r3 = 0 then
  (f_M_receive_b22 μ v1 v2 (0 : Int32))
  else
  (f_M_receive_b17 μ v1 v2)))
  else
  (f_M_receive_b17 μ v1 v2))
set_option maxHeartbeats 4000000 in
set_option maxRecDepth 100000 in
theorem z_M_receive {X : me_X} {B : me_B} {sz : Nat} (C : me_C X B RX12 cX12_receive 4 (some .int)) {μ : me_M} {v1 : Int32} {v2 : Int32}   {r : me_M × Int32} (N : me_En X B sz (B, r.1, .ok (some (me_i r.2))) 2 47 0 0) (hNx : me_Nx X) (hB : me_St B)   (hf : f_M_receive μ v1 v2 = some r) : me_Z X B 0 0 μ 0 [(0, me_r 36 0), (1, me_i v1), (2, me_i v2)] [] := by
  unfold f_M_receive at hf
  refine me_aload_n C 0 (Or.inr (Or.inl ⟨_, rfl⟩)) dX12_receive_0 rfl rfl ?_
  refine me_aload_n C 0 (Or.inr (Or.inl ⟨_, rfl⟩)) dX12_receive_1 rfl rfl ?_
  refine me_iload_n C 1 dX12_receive_2 rfl rfl ?_
  obtain ⟨r1, h_r1, hf⟩ := me_bs hf
  refine me_callV C N  (As := [me_i v1]) (st := [me_r 36 0]) 0 0 (c_M_isNoNode hB h_r1) mv_M_isNoNode ml_M_165 rfl rfl dX12_receive_3 rfl rfl ⟨by decide, by decide⟩ ⟨by decide, by decide, by decide, by decide⟩ (Nat.le_of_ble_eq_true rfl) ?_
  refine me_if_ne C (tgt := 17) dX12_receive_6 (by decide) (fun c2 => ?_) (fun c2 => ?_)
  · replace hf := me_in c2 hf
    refine me_dropI [(0, me_r 36 0), (1, me_i v1), (2, me_i v2)] [0, 1, 2] rfl ?_
    exact z_M_receive_b17 C N hNx hB hf
  · replace hf := me_ip c2 hf
    refine me_aload_n C 0 (Or.inr (Or.inl ⟨_, rfl⟩)) dX12_receive_9 rfl rfl ?_
    refine me_iload_n C 2 dX12_receive_10 rfl rfl ?_
    obtain ⟨r3, h_r3, hf⟩ := me_bs hf
    refine me_callV C N  (As := [me_i v2]) (st := [me_r 36 0]) 0 0 (c_M_isNoNode hB h_r3) mv_M_isNoNode ml_M_165 rfl rfl dX12_receive_11 rfl rfl ⟨by decide, by decide⟩ ⟨by decide, by decide, by decide, by decide⟩ (Nat.le_of_ble_eq_true rfl) ?_
    refine me_if_eq C (tgt := 21) dX12_receive_14 (by decide) (fun c4 => ?_) (fun c4 => ?_)
    · replace hf := me_ip c4 hf
      refine me_iconst C (v := 0) dX12_receive_21 (by decide) ?_
      refine me_dropI [(0, me_r 36 0), (1, me_i v1), (2, me_i v2)] [0, 1, 2] rfl ?_
      exact z_M_receive_b22 C N hNx hB hf
    · replace hf := me_in c4 hf
      refine me_dropI [(0, me_r 36 0), (1, me_i v1), (2, me_i v2)] [0, 1, 2] rfl ?_
      exact z_M_receive_b17 C N hNx hB hf
theorem c_M_receive {B : me_B} (hB : me_St B) {μ : me_M} {v1 : Int32} {v2 : Int32} {μ' : me_M} {r : Int32}  (hf : f_M_receive μ v1 v2 = some (μ', r)) : ∀ l E z, l.stackTraces = false → me_Met l yX12_receive cX12_receive 4 (some .int) 2 47 0 0 E B μ z [me_r 36 0, me_i v1, me_i v2] (B, μ', .ok (some (me_i r))) :=
  fun _ _ _ hl => me_ofZ hl (by decide +kernel) (Nat.le_of_ble_eq_true rfl) (fun _ C N hNx => z_M_receive C N hNx hB  hf)

def f_M_isOpen (μ : me_M) (v1 : Int32) (v2 : Int32) (v3 : Int32) : Option Int32 :=
  me_bd (f_M_beside μ v1 v2) (fun r1 =>
  me_gd (me_inb r1 16) (
  me_gd (me_inb v3 2) (
  me_gd (me_inb v2 4) (
  me_gd (me_inb (me_opn (me_ix v2)) 5) (
  if (μ 63 (2 * (me_ix r1) + (me_ix v3)) (me_ix (me_opn (me_ix v2)))) = (-1 : Int32) then
  (me_gd (me_inb r1 16) (
  me_gd (me_inb v3 2) (
  me_gd (me_inb v2 4) (
  me_gd (me_inb (me_opn (me_ix v2)) 5) (
  if (μ 36 0 2) ≤ (μ 60 (2 * (me_ix r1) + (me_ix v3)) (me_ix (me_opn (me_ix v2)))) then
  (some (0 : Int32))
  else
  (some (1 : Int32)))))))
  else
  (some (0 : Int32)))))))
set_option maxHeartbeats 4000000 in
set_option maxRecDepth 100000 in
theorem z_M_isOpen {X : me_X} {B : me_B} {sz : Nat} (C : me_C X B RX12 cX12_isOpen 5 (some .boolean)) {μ : me_M} {v1 : Int32} {v2 : Int32} {v3 : Int32}   {r : Int32} (N : me_En X B sz (B, μ, .ok (some (me_i r))) 1 24 0 0) (hNx : me_Nx X) (hB : me_St B)   (hf : f_M_isOpen μ v1 v2 v3 = some r) : me_Z X B 0 0 μ 0 [(0, me_r 36 0), (1, me_i v1), (2, me_i v2), (3, me_i v3)] [] := by
  unfold f_M_isOpen at hf
  refine me_aload_n C 0 (Or.inr (Or.inl ⟨_, rfl⟩)) dX12_isOpen_0 rfl rfl ?_
  refine me_iload_n C 1 dX12_isOpen_1 rfl rfl ?_
  refine me_iload_n C 2 dX12_isOpen_2 rfl rfl ?_
  obtain ⟨r1, h_r1, hf⟩ := me_bs hf
  refine me_callV C N  (As := [me_i v1, me_i v2]) (st := []) 0 0 (c_M_beside hB h_r1) mv_M_beside ml_M_199 rfl rfl dX12_isOpen_3 rfl rfl ⟨by decide, by decide⟩ ⟨by decide, by decide, by decide, by decide⟩ (Nat.le_of_ble_eq_true rfl) ?_
  refine me_istore C dX12_isOpen_6 (by decide) (L' := [(4, me_i r1), (0, me_r 36 0), (1, me_i v1), (2, me_i v2), (3, me_i v3)]) rfl ?_
  refine me_aload_n C 0 (Or.inr (Or.inl ⟨_, rfl⟩)) dX12_isOpen_8 rfl rfl ?_
  refine me_getr C hB 23 (k' := 61) (i' := 0) fg_M_78 dX12_isOpen_9 rfl rfl ?_
  refine me_iload C dX12_isOpen_12 rfl ?_
  obtain ⟨g2, hf⟩ := me_gs hf
  refine me_aald C hB (k' := 62) (i' := (me_ix r1)) rfl (fun _ => rfl) rfl g2 dX12_isOpen_14 rfl ?_
  refine me_iload_n C 3 dX12_isOpen_15 rfl rfl ?_
  obtain ⟨g3, hf⟩ := me_gs hf
  refine me_aald C hB (k' := 63) (i' := 2 * (me_ix r1) + (me_ix v3)) rfl (fun _ => rfl) rfl g3 dX12_isOpen_16 rfl ?_
  refine me_oppg C fl_M_202 dX12_isOpen_17 ?_
  refine me_iload_n C 2 dX12_isOpen_20 rfl rfl ?_
  obtain ⟨g4, hf⟩ := me_gs hf
  refine me_oppl C g4 dX12_isOpen_21 ?_
  obtain ⟨g5, hf⟩ := me_gs hf
  refine me_iald C rfl (fun _ => rfl) g5 dX12_isOpen_22 ?_
  refine me_iconst C (v := -1) dX12_isOpen_23 (by decide) ?_
  refine me_icmp_ne C (tgt := 53) dX12_isOpen_24 (by decide) (fun c6 => ?_) (fun c6 => ?_)
  · replace hf := me_in c6 hf
    refine me_iconst C (v := 0) dX12_isOpen_53 (by decide) ?_
    exact me_iret C N dX12_isOpen_54 (by decide +kernel) (by cases hf; rfl) (by decide) (by decide)
  · replace hf := me_ip c6 hf
    refine me_aload_n C 0 (Or.inr (Or.inl ⟨_, rfl⟩)) dX12_isOpen_27 rfl rfl ?_
    refine me_getr C hB 22 (k' := 58) (i' := 0) fg_M_75 dX12_isOpen_28 rfl rfl ?_
    refine me_iload C dX12_isOpen_31 rfl ?_
    obtain ⟨g7, hf⟩ := me_gs hf
    refine me_aald C hB (k' := 59) (i' := (me_ix r1)) rfl (fun _ => rfl) rfl g7 dX12_isOpen_33 rfl ?_
    refine me_iload_n C 3 dX12_isOpen_34 rfl rfl ?_
    obtain ⟨g8, hf⟩ := me_gs hf
    refine me_aald C hB (k' := 60) (i' := 2 * (me_ix r1) + (me_ix v3)) rfl (fun _ => rfl) rfl g8 dX12_isOpen_35 rfl ?_
    refine me_oppg C fl_M_202 dX12_isOpen_36 ?_
    refine me_iload_n C 2 dX12_isOpen_39 rfl rfl ?_
    obtain ⟨g9, hf⟩ := me_gs hf
    refine me_oppl C g9 dX12_isOpen_40 ?_
    obtain ⟨g10, hf⟩ := me_gs hf
    refine me_iald C rfl (fun _ => rfl) g10 dX12_isOpen_41 ?_
    refine me_aload_n C 0 (Or.inr (Or.inl ⟨_, rfl⟩)) dX12_isOpen_42 rfl rfl ?_
    refine me_geti C 2 fg_M_16 dX12_isOpen_43 rfl ?_
    refine me_icmp_ge C (tgt := 53) dX12_isOpen_46 (by decide) (fun c11 => ?_) (fun c11 => ?_)
    · replace hf := me_ip c11 hf
      refine me_iconst C (v := 0) dX12_isOpen_53 (by decide) ?_
      exact me_iret C N dX12_isOpen_54 (by decide +kernel) (by cases hf; rfl) (by decide) (by decide)
    · replace hf := me_in c11 hf
      refine me_iconst C (v := 1) dX12_isOpen_49 (by decide) ?_
      refine me_goto C (tgt := 54) dX12_isOpen_50 (by decide) ?_
      exact me_iret C N dX12_isOpen_54 (by decide +kernel) (by cases hf; rfl) (by decide) (by decide)
theorem c_M_isOpen {B : me_B} (hB : me_St B) {μ : me_M} {v1 : Int32} {v2 : Int32} {v3 : Int32} {r : Int32}  (hf : f_M_isOpen μ v1 v2 v3 = some r) : ∀ l E z, l.stackTraces = false → me_Met l yX12_isOpen cX12_isOpen 5 (some .boolean) 1 24 0 0 E B μ z [me_r 36 0, me_i v1, me_i v2, me_i v3] (B, μ, .ok (some (me_i r))) :=
  fun _ _ _ hl => me_ofZ hl (by decide +kernel) (Nat.le_of_ble_eq_true rfl) (fun _ C N hNx => z_M_isOpen C N hNx hB  hf)

def f_M_along (μ : me_M) (v1 : Int32) (v2 : Int32) (v3 : Int32) : Option Int32 :=
  if v3 = 0 then
  (me_gd (me_nz (μ 36 0 0)) (
  me_gd (me_nz (μ 36 0 0)) (
  me_lt (((v2 / (μ 36 0 0)) - (v1 / (μ 36 0 0)))) (fun x4 =>
  if x4 ≤ 0 then
  (if 0 ≤ x4 then
  (some (-1 : Int32))
  else
  (some (3 : Int32)))
  else
  (some (2 : Int32))))))
  else
  (me_gd (me_nz (μ 36 0 0)) (
  me_gd (me_nz (μ 36 0 0)) (
  me_lt (((me_rem v2 (μ 36 0 0)) - (me_rem v1 (μ 36 0 0)))) (fun x9 =>
  if x9 ≤ 0 then
  (if 0 ≤ x9 then
  (some (-1 : Int32))
  else
  (some (1 : Int32)))
  else
  (some (0 : Int32))))))
set_option maxHeartbeats 4000000 in
set_option maxRecDepth 100000 in
theorem z_M_along {X : me_X} {B : me_B} {sz : Nat} (C : me_C X B RX12 cX12_along 5 (some .int)) {μ : me_M} {v1 : Int32} {v2 : Int32} {v3 : Int32}   {r : Int32} (N : me_En X B sz (B, μ, .ok (some (me_i r))) 0 0 0 0) (hNx : me_Nx X) (hB : me_St B)   (hf : f_M_along μ v1 v2 v3 = some r) : me_Z X B 0 0 μ 0 [(0, me_r 36 0), (1, me_i v1), (2, me_i v2), (3, me_i v3)] [] := by
  unfold f_M_along at hf
  refine me_iload_n C 3 dX12_along_0 rfl rfl ?_
  refine me_if_eq C (tgt := 39) dX12_along_1 (by decide) (fun c1 => ?_) (fun c1 => ?_)
  · replace hf := me_ip c1 hf
    refine me_iload_n C 2 dX12_along_39 rfl rfl ?_
    refine me_aload_n C 0 (Or.inr (Or.inl ⟨_, rfl⟩)) dX12_along_40 rfl rfl ?_
    refine me_geti C 0 fg_M_7 dX12_along_41 rfl ?_
    obtain ⟨g2, hf⟩ := me_gs hf
    refine me_idiv C dX12_along_44 (me_nzs g2) ?_
    refine me_iload_n C 1 dX12_along_45 rfl rfl ?_
    refine me_aload_n C 0 (Or.inr (Or.inl ⟨_, rfl⟩)) dX12_along_46 rfl rfl ?_
    refine me_geti C 0 fg_M_7 dX12_along_47 rfl ?_
    obtain ⟨g3, hf⟩ := me_gs hf
    refine me_idiv C dX12_along_50 (me_nzs g3) ?_
    refine me_isub C dX12_along_51 ?_
    obtain ⟨x4, e_x4, hf⟩ := me_lts hf
    refine me_nm e_x4 ?_
    refine me_istore C dX12_along_52 (by decide) (L' := [(4, me_i x4), (0, me_r 36 0), (1, me_i v1), (2, me_i v2), (3, me_i v3)]) rfl ?_
    refine me_iload C dX12_along_54 rfl ?_
    refine me_if_le C (tgt := 63) dX12_along_56 (by decide) (fun c5 => ?_) (fun c5 => ?_)
    · replace hf := me_ip c5 hf
      refine me_iload C dX12_along_63 rfl ?_
      refine me_if_ge C (tgt := 72) dX12_along_65 (by decide) (fun c6 => ?_) (fun c6 => ?_)
      · replace hf := me_ip c6 hf
        refine me_iconst C (v := -1) dX12_along_72 (by decide) ?_
        exact me_iret C N dX12_along_73 (me_nri _) (by cases hf; rfl) (by decide) (by decide)
      · replace hf := me_in c6 hf
        refine me_iconst C (v := 3) dX12_along_68 (by decide) ?_
        refine me_goto C (tgt := 73) dX12_along_69 (by decide) ?_
        exact me_iret C N dX12_along_73 (me_nri _) (by cases hf; rfl) (by decide) (by decide)
    · replace hf := me_in c5 hf
      refine me_iconst C (v := 2) dX12_along_59 (by decide) ?_
      refine me_goto C (tgt := 73) dX12_along_60 (by decide) ?_
      exact me_iret C N dX12_along_73 (me_nri _) (by cases hf; rfl) (by decide) (by decide)
  · replace hf := me_in c1 hf
    refine me_iload_n C 2 dX12_along_4 rfl rfl ?_
    refine me_aload_n C 0 (Or.inr (Or.inl ⟨_, rfl⟩)) dX12_along_5 rfl rfl ?_
    refine me_geti C 0 fg_M_7 dX12_along_6 rfl ?_
    obtain ⟨g7, hf⟩ := me_gs hf
    refine me_irem C dX12_along_9 (me_nzs g7) ?_
    refine me_iload_n C 1 dX12_along_10 rfl rfl ?_
    refine me_aload_n C 0 (Or.inr (Or.inl ⟨_, rfl⟩)) dX12_along_11 rfl rfl ?_
    refine me_geti C 0 fg_M_7 dX12_along_12 rfl ?_
    obtain ⟨g8, hf⟩ := me_gs hf
    refine me_irem C dX12_along_15 (me_nzs g8) ?_
    refine me_isub C dX12_along_16 ?_
    obtain ⟨x9, e_x9, hf⟩ := me_lts hf
    refine me_nm e_x9 ?_
    refine me_istore C dX12_along_17 (by decide) (L' := [(4, me_i x9), (0, me_r 36 0), (1, me_i v1), (2, me_i v2), (3, me_i v3)]) rfl ?_
    refine me_iload C dX12_along_19 rfl ?_
    refine me_if_le C (tgt := 28) dX12_along_21 (by decide) (fun c10 => ?_) (fun c10 => ?_)
    · replace hf := me_ip c10 hf
      refine me_iload C dX12_along_28 rfl ?_
      refine me_if_ge C (tgt := 37) dX12_along_30 (by decide) (fun c11 => ?_) (fun c11 => ?_)
      · replace hf := me_ip c11 hf
        refine me_iconst C (v := -1) dX12_along_37 (by decide) ?_
        exact me_iret C N dX12_along_38 (me_nri _) (by cases hf; rfl) (by decide) (by decide)
      · replace hf := me_in c11 hf
        refine me_iconst C (v := 1) dX12_along_33 (by decide) ?_
        refine me_goto C (tgt := 38) dX12_along_34 (by decide) ?_
        exact me_iret C N dX12_along_38 (me_nri _) (by cases hf; rfl) (by decide) (by decide)
    · replace hf := me_in c10 hf
      refine me_iconst C (v := 0) dX12_along_24 (by decide) ?_
      refine me_goto C (tgt := 38) dX12_along_25 (by decide) ?_
      exact me_iret C N dX12_along_38 (me_nri _) (by cases hf; rfl) (by decide) (by decide)
theorem c_M_along {B : me_B} (hB : me_St B) {μ : me_M} {v1 : Int32} {v2 : Int32} {v3 : Int32} {r : Int32}  (hf : f_M_along μ v1 v2 v3 = some r) : ∀ l E z, l.stackTraces = false → me_Met l yX12_along cX12_along 5 (some .int) 0 0 0 0 E B μ z [me_r 36 0, me_i v1, me_i v2, me_i v3] (B, μ, .ok (some (me_i r))) :=
  fun _ _ _ hl => me_ofZ hl (by decide +kernel) (Nat.le_of_ble_eq_true rfl) (fun _ C N hNx => z_M_along C N hNx hB  hf)

def f_M_sideOf_b98 (μ : me_M) (v4 : Int32) (v5 : Int32) : Option Int32 :=
  if v4 = (-1 : Int32) then
  (some v5)
  else
  (some v4)
set_option maxHeartbeats 4000000 in
set_option maxRecDepth 100000 in
theorem z_M_sideOf_b98 {X : me_X} {B : me_B} {sz : Nat} (C : me_C X B RX12 cX12_sideOf 8 (some .int)) {μ : me_M} {v4 : Int32} {v5 : Int32}   {r : Int32} (N : me_En X B sz (B, μ, .ok (some (me_i r))) 2 48 0 0) (hNx : me_Nx X) (hB : me_St B)   (hf : f_M_sideOf_b98 μ v4 v5 = some r) : me_Z X B 0 0 μ 98 [(4, me_i v4), (5, me_i v5)] [] := by
  unfold f_M_sideOf_b98 at hf
  refine me_iload C dX12_sideOf_98 rfl ?_
  refine me_iconst C (v := -1) dX12_sideOf_100 (by decide) ?_
  refine me_icmp_ne C (tgt := 109) dX12_sideOf_101 (by decide) (fun c1 => ?_) (fun c1 => ?_)
  · replace hf := me_in c1 hf
    refine me_iload C dX12_sideOf_109 rfl ?_
    exact me_iret C N dX12_sideOf_111 (me_nri _) (by cases hf; rfl) (by decide) (by decide)
  · replace hf := me_ip c1 hf
    refine me_iload C dX12_sideOf_104 rfl ?_
    refine me_goto C (tgt := 111) dX12_sideOf_106 (by decide) ?_
    exact me_iret C N dX12_sideOf_111 (me_nri _) (by cases hf; rfl) (by decide) (by decide)
def f_M_sideOf_b190 (μ : me_M) (v4 : Int32) (v5 : Int32) (v6 : Int32) (v7 : Int32) : Option Int32 :=
  if v6 = 0 then
  (if v7 = 0 then
  (some v4)
  else
  (some v5))
  else
  (some v4)
set_option maxHeartbeats 4000000 in
set_option maxRecDepth 100000 in
theorem z_M_sideOf_b190 {X : me_X} {B : me_B} {sz : Nat} (C : me_C X B RX12 cX12_sideOf 8 (some .int)) {μ : me_M} {v4 : Int32} {v5 : Int32} {v6 : Int32} {v7 : Int32}   {r : Int32} (N : me_En X B sz (B, μ, .ok (some (me_i r))) 2 48 0 0) (hNx : me_Nx X) (hB : me_St B)   (hf : f_M_sideOf_b190 μ v4 v5 v6 v7 = some r) : me_Z X B 0 0 μ 190 [(4, me_i v4), (5, me_i v5), (6, me_i v6), (7, me_i v7)] [] := by
  unfold f_M_sideOf_b190 at hf
  refine me_iload C dX12_sideOf_190 rfl ?_
  refine me_if_eq C (tgt := 200) dX12_sideOf_192 (by decide) (fun c1 => ?_) (fun c1 => ?_)
  · replace hf := me_ip c1 hf
    refine me_iload C dX12_sideOf_200 rfl ?_
    refine me_if_eq C (tgt := 210) dX12_sideOf_202 (by decide) (fun c2 => ?_) (fun c2 => ?_)
    · replace hf := me_ip c2 hf
      refine me_iload C dX12_sideOf_210 rfl ?_
      exact me_iret C N dX12_sideOf_212 (me_nri _) (by cases hf; rfl) (by decide) (by decide)
    · replace hf := me_in c2 hf
      refine me_iload C dX12_sideOf_205 rfl ?_
      refine me_goto C (tgt := 212) dX12_sideOf_207 (by decide) ?_
      exact me_iret C N dX12_sideOf_212 (me_nri _) (by cases hf; rfl) (by decide) (by decide)
  · replace hf := me_in c1 hf
    refine me_iload C dX12_sideOf_195 rfl ?_
    refine me_goto C (tgt := 212) dX12_sideOf_197 (by decide) ?_
    exact me_iret C N dX12_sideOf_212 (me_nri _) (by cases hf; rfl) (by decide) (by decide)
def f_M_sideOf_b169 (μ : me_M) (v1 : Int32) (v3 : Int32) (v4 : Int32) (v5 : Int32) (v6 : Int32) (v7 : Int32) : Option Int32 :=
  if v7 = 0 then
  (f_M_sideOf_b190 μ v4 v5 v6 v7)
  else
  (me_bd (f_M_isOpen μ v1 v5 v3) (fun r2 =>
  if r2 = 0 then
  (f_M_sideOf_b190 μ v4 v5 v6 v7)
  else
  (some v5)))
set_option maxHeartbeats 4000000 in
set_option maxRecDepth 100000 in
theorem z_M_sideOf_b169 {X : me_X} {B : me_B} {sz : Nat} (C : me_C X B RX12 cX12_sideOf 8 (some .int)) {μ : me_M} {v1 : Int32} {v3 : Int32} {v4 : Int32} {v5 : Int32} {v6 : Int32} {v7 : Int32}   {r : Int32} (N : me_En X B sz (B, μ, .ok (some (me_i r))) 2 48 0 0) (hNx : me_Nx X) (hB : me_St B)   (hf : f_M_sideOf_b169 μ v1 v3 v4 v5 v6 v7 = some r) : me_Z X B 0 0 μ 169 [(0, me_r 36 0), (1, me_i v1), (3, me_i v3), (4, me_i v4), (5, me_i v5), (6, me_i v6), (7, me_i v7)] [] := by
  unfold f_M_sideOf_b169 at hf
  refine me_iload C dX12_sideOf_169 rfl ?_
  refine me_if_eq C (tgt := 190) dX12_sideOf_171 (by decide) (fun c1 => ?_) (fun c1 => ?_)
  · replace hf := me_ip c1 hf
    refine me_dropI [(4, me_i v4), (5, me_i v5), (6, me_i v6), (7, me_i v7)] [3, 4, 5, 6] rfl ?_
    exact z_M_sideOf_b190 C N hNx hB hf
  · replace hf := me_in c1 hf
    refine me_aload_n C 0 (Or.inr (Or.inl ⟨_, rfl⟩)) dX12_sideOf_174 rfl rfl ?_
    refine me_iload_n C 1 dX12_sideOf_175 rfl rfl ?_
    refine me_iload C dX12_sideOf_176 rfl ?_
    refine me_iload_n C 3 dX12_sideOf_178 rfl rfl ?_
    obtain ⟨r2, h_r2, hf⟩ := me_bs hf
    refine me_callV C N  (As := [me_i v1, me_i v5, me_i v3]) (st := []) 0 0 (c_M_isOpen hB h_r2) mv_M_isOpen ml_M_208 rfl rfl dX12_sideOf_179 rfl rfl ⟨by decide, by decide⟩ ⟨by decide, by decide, by decide, by decide⟩ (Nat.le_of_ble_eq_true rfl) ?_
    refine me_if_eq C (tgt := 190) dX12_sideOf_182 (by decide) (fun c3 => ?_) (fun c3 => ?_)
    · replace hf := me_ip c3 hf
      refine me_dropI [(4, me_i v4), (5, me_i v5), (6, me_i v6), (7, me_i v7)] [3, 4, 5, 6] rfl ?_
      exact z_M_sideOf_b190 C N hNx hB hf
    · replace hf := me_in c3 hf
      refine me_iload C dX12_sideOf_185 rfl ?_
      refine me_goto C (tgt := 212) dX12_sideOf_187 (by decide) ?_
      exact me_iret C N dX12_sideOf_212 (me_nri _) (by cases hf; rfl) (by decide) (by decide)
def f_M_sideOf_b148 (μ : me_M) (v1 : Int32) (v3 : Int32) (v4 : Int32) (v5 : Int32) (v6 : Int32) (s0 : Int32) : Option Int32 :=
  if v6 = 0 then
  (f_M_sideOf_b169 μ v1 v3 v4 v5 v6 s0)
  else
  (me_bd (f_M_isOpen μ v1 v4 v3) (fun r2 =>
  if r2 = 0 then
  (f_M_sideOf_b169 μ v1 v3 v4 v5 v6 s0)
  else
  (some v4)))
set_option maxHeartbeats 4000000 in
set_option maxRecDepth 100000 in
theorem z_M_sideOf_b148 {X : me_X} {B : me_B} {sz : Nat} (C : me_C X B RX12 cX12_sideOf 8 (some .int)) {μ : me_M} {v1 : Int32} {v3 : Int32} {v4 : Int32} {v5 : Int32} {v6 : Int32} {s0 : Int32}   {r : Int32} (N : me_En X B sz (B, μ, .ok (some (me_i r))) 2 48 0 0) (hNx : me_Nx X) (hB : me_St B)   (hf : f_M_sideOf_b148 μ v1 v3 v4 v5 v6 s0 = some r) : me_Z X B 0 0 μ 148 [(0, me_r 36 0), (1, me_i v1), (3, me_i v3), (4, me_i v4), (5, me_i v5), (6, me_i v6)] [me_i s0] := by
  unfold f_M_sideOf_b148 at hf
  refine me_istore C dX12_sideOf_148 (by decide) (L' := [(7, me_i s0), (0, me_r 36 0), (1, me_i v1), (3, me_i v3), (4, me_i v4), (5, me_i v5), (6, me_i v6)]) rfl ?_
  refine me_iload C dX12_sideOf_150 rfl ?_
  refine me_if_eq C (tgt := 169) dX12_sideOf_152 (by decide) (fun c1 => ?_) (fun c1 => ?_)
  · replace hf := me_ip c1 hf
    refine me_dropI [(0, me_r 36 0), (1, me_i v1), (3, me_i v3), (4, me_i v4), (5, me_i v5), (6, me_i v6), (7, me_i s0)] [1, 2, 3, 4, 5, 6, 0] rfl ?_
    exact z_M_sideOf_b169 C N hNx hB hf
  · replace hf := me_in c1 hf
    refine me_aload_n C 0 (Or.inr (Or.inl ⟨_, rfl⟩)) dX12_sideOf_155 rfl rfl ?_
    refine me_iload_n C 1 dX12_sideOf_156 rfl rfl ?_
    refine me_iload C dX12_sideOf_157 rfl ?_
    refine me_iload_n C 3 dX12_sideOf_159 rfl rfl ?_
    obtain ⟨r2, h_r2, hf⟩ := me_bs hf
    refine me_callV C N  (As := [me_i v1, me_i v4, me_i v3]) (st := []) 0 0 (c_M_isOpen hB h_r2) mv_M_isOpen ml_M_208 rfl rfl dX12_sideOf_160 rfl rfl ⟨by decide, by decide⟩ ⟨by decide, by decide, by decide, by decide⟩ (Nat.le_of_ble_eq_true rfl) ?_
    refine me_if_eq C (tgt := 169) dX12_sideOf_163 (by decide) (fun c3 => ?_) (fun c3 => ?_)
    · replace hf := me_ip c3 hf
      refine me_dropI [(0, me_r 36 0), (1, me_i v1), (3, me_i v3), (4, me_i v4), (5, me_i v5), (6, me_i v6), (7, me_i s0)] [1, 2, 3, 4, 5, 6, 0] rfl ?_
      exact z_M_sideOf_b169 C N hNx hB hf
    · replace hf := me_in c3 hf
      refine me_iload C dX12_sideOf_166 rfl ?_
      exact me_iret C N dX12_sideOf_168 (me_nri _) (by cases hf; rfl) (by decide) (by decide)
def f_M_sideOf_b129 (μ : me_M) (v1 : Int32) (v3 : Int32) (v4 : Int32) (v5 : Int32) (s0 : Int32) : Option Int32 :=
  me_gd (me_inb v1 16) (
  me_gd (me_inb v5 5) (
  if (μ 74 (me_ix v1) (me_ix v5)) = 0 then
  (f_M_sideOf_b148 μ v1 v3 v4 v5 s0 (1 : Int32))
  else
  (f_M_sideOf_b148 μ v1 v3 v4 v5 s0 (0 : Int32))))
set_option maxHeartbeats 4000000 in
set_option maxRecDepth 100000 in
theorem z_M_sideOf_b129 {X : me_X} {B : me_B} {sz : Nat} (C : me_C X B RX12 cX12_sideOf 8 (some .int)) {μ : me_M} {v1 : Int32} {v3 : Int32} {v4 : Int32} {v5 : Int32} {s0 : Int32}   {r : Int32} (N : me_En X B sz (B, μ, .ok (some (me_i r))) 2 48 0 0) (hNx : me_Nx X) (hB : me_St B)   (hf : f_M_sideOf_b129 μ v1 v3 v4 v5 s0 = some r) : me_Z X B 0 0 μ 129 [(0, me_r 36 0), (1, me_i v1), (3, me_i v3), (4, me_i v4), (5, me_i v5)] [me_i s0] := by
  unfold f_M_sideOf_b129 at hf
  refine me_istore C dX12_sideOf_129 (by decide) (L' := [(6, me_i s0), (0, me_r 36 0), (1, me_i v1), (3, me_i v3), (4, me_i v4), (5, me_i v5)]) rfl ?_
  refine me_aload_n C 0 (Or.inr (Or.inl ⟨_, rfl⟩)) dX12_sideOf_131 rfl rfl ?_
  refine me_getr C hB 27 (k' := 73) (i' := 0) fg_M_92 dX12_sideOf_132 rfl rfl ?_
  refine me_iload_n C 1 dX12_sideOf_135 rfl rfl ?_
  obtain ⟨g1, hf⟩ := me_gs hf
  refine me_aald C hB (k' := 74) (i' := (me_ix v1)) rfl (fun _ => rfl) rfl g1 dX12_sideOf_136 rfl ?_
  refine me_iload C dX12_sideOf_137 rfl ?_
  obtain ⟨g2, hf⟩ := me_gs hf
  refine me_zald C rfl (fun _ => rfl) g2 dX12_sideOf_139 ?_
  refine me_if_ne C (tgt := 147) dX12_sideOf_140 (by decide) (fun c3 => ?_) (fun c3 => ?_)
  · replace hf := me_in c3 hf
    refine me_iconst C (v := 0) dX12_sideOf_147 (by decide) ?_
    refine me_dropI [(0, me_r 36 0), (1, me_i v1), (3, me_i v3), (4, me_i v4), (5, me_i v5), (6, me_i s0)] [1, 2, 3, 4, 5, 0] rfl ?_
    exact z_M_sideOf_b148 C N hNx hB hf
  · replace hf := me_ip c3 hf
    refine me_iconst C (v := 1) dX12_sideOf_143 (by decide) ?_
    refine me_goto C (tgt := 148) dX12_sideOf_144 (by decide) ?_
    refine me_dropI [(0, me_r 36 0), (1, me_i v1), (3, me_i v3), (4, me_i v4), (5, me_i v5), (6, me_i s0)] [1, 2, 3, 4, 5, 0] rfl ?_
    exact z_M_sideOf_b148 C N hNx hB hf
def f_M_sideOf_b32 (μ : me_M) (v1 : Int32) (v3 : Int32) (v4 : Int32) (v5 : Int32) : Option Int32 :=
  if (μ 36 0 3) = (116 : Int32) then
  (if v4 = (1 : Int32) then
  (f_M_sideOf_b98 μ v4 v5)
  else
  (if v4 = (-1 : Int32) then
  (f_M_sideOf_b98 μ v4 v5)
  else
  (if v5 = (-1 : Int32) then
  (f_M_sideOf_b98 μ v4 v5)
  else
  (me_gd (me_inb v1 16) (
  me_gd (me_inb v4 5) (
  if (μ 74 (me_ix v1) (me_ix v4)) = 0 then
  (f_M_sideOf_b129 μ v1 v3 v4 v5 (1 : Int32))
  else
  (f_M_sideOf_b129 μ v1 v3 v4 v5 (0 : Int32))))))))
  else
  (if (μ 36 0 3) = (120 : Int32) then
  (if v4 = (-1 : Int32) then
  (some v5)
  else
  (some v4))
  else
  (if v5 = (-1 : Int32) then
  (some v4)
  else
  (some v5)))
set_option maxHeartbeats 4000000 in
set_option maxRecDepth 100000 in
theorem z_M_sideOf_b32 {X : me_X} {B : me_B} {sz : Nat} (C : me_C X B RX12 cX12_sideOf 8 (some .int)) {μ : me_M} {v1 : Int32} {v3 : Int32} {v4 : Int32} {v5 : Int32}   {r : Int32} (N : me_En X B sz (B, μ, .ok (some (me_i r))) 2 48 0 0) (hNx : me_Nx X) (hB : me_St B)   (hf : f_M_sideOf_b32 μ v1 v3 v4 v5 = some r) : me_Z X B 0 0 μ 32 [(0, me_r 36 0), (1, me_i v1), (3, me_i v3), (4, me_i v4), (5, me_i v5)] [] := by
  unfold f_M_sideOf_b32 at hf
  refine me_aload_n C 0 (Or.inr (Or.inl ⟨_, rfl⟩)) dX12_sideOf_32 rfl rfl ?_
  refine me_geti C 3 fg_M_19 dX12_sideOf_33 rfl ?_
  refine me_bipush C (v := 116) dX12_sideOf_36 (by decide) ?_
  refine me_icmp_eq C (tgt := 80) dX12_sideOf_38 (by decide) (fun c1 => ?_) (fun c1 => ?_)
  · replace hf := me_ip c1 hf
    refine me_iload C dX12_sideOf_80 rfl ?_
    refine me_iconst C (v := 1) dX12_sideOf_82 (by decide) ?_
    refine me_icmp_eq C (tgt := 98) dX12_sideOf_83 (by decide) (fun c2 => ?_) (fun c2 => ?_)
    · replace hf := me_ip c2 hf
      refine me_dropI [(4, me_i v4), (5, me_i v5)] [3, 4] rfl ?_
      exact z_M_sideOf_b98 C N hNx hB hf
    · replace hf := me_in c2 hf
      refine me_iload C dX12_sideOf_86 rfl ?_
      refine me_iconst C (v := -1) dX12_sideOf_88 (by decide) ?_
      refine me_icmp_eq C (tgt := 98) dX12_sideOf_89 (by decide) (fun c3 => ?_) (fun c3 => ?_)
      · replace hf := me_ip c3 hf
        refine me_dropI [(4, me_i v4), (5, me_i v5)] [3, 4] rfl ?_
        exact z_M_sideOf_b98 C N hNx hB hf
      · replace hf := me_in c3 hf
        refine me_iload C dX12_sideOf_92 rfl ?_
        refine me_iconst C (v := -1) dX12_sideOf_94 (by decide) ?_
        refine me_icmp_ne C (tgt := 112) dX12_sideOf_95 (by decide) (fun c4 => ?_) (fun c4 => ?_)
        · replace hf := me_in c4 hf
          refine me_aload_n C 0 (Or.inr (Or.inl ⟨_, rfl⟩)) dX12_sideOf_112 rfl rfl ?_
          refine me_getr C hB 27 (k' := 73) (i' := 0) fg_M_92 dX12_sideOf_113 rfl rfl ?_
          refine me_iload_n C 1 dX12_sideOf_116 rfl rfl ?_
          obtain ⟨g5, hf⟩ := me_gs hf
          refine me_aald C hB (k' := 74) (i' := (me_ix v1)) rfl (fun _ => rfl) rfl g5 dX12_sideOf_117 rfl ?_
          refine me_iload C dX12_sideOf_118 rfl ?_
          obtain ⟨g6, hf⟩ := me_gs hf
          refine me_zald C rfl (fun _ => rfl) g6 dX12_sideOf_120 ?_
          refine me_if_ne C (tgt := 128) dX12_sideOf_121 (by decide) (fun c7 => ?_) (fun c7 => ?_)
          · replace hf := me_in c7 hf
            refine me_iconst C (v := 0) dX12_sideOf_128 (by decide) ?_
            refine me_dropI [(0, me_r 36 0), (1, me_i v1), (3, me_i v3), (4, me_i v4), (5, me_i v5)] [0, 1, 2, 3, 4] rfl ?_
            exact z_M_sideOf_b129 C N hNx hB hf
          · replace hf := me_ip c7 hf
            refine me_iconst C (v := 1) dX12_sideOf_124 (by decide) ?_
            refine me_goto C (tgt := 129) dX12_sideOf_125 (by decide) ?_
            refine me_dropI [(0, me_r 36 0), (1, me_i v1), (3, me_i v3), (4, me_i v4), (5, me_i v5)] [0, 1, 2, 3, 4] rfl ?_
            exact z_M_sideOf_b129 C N hNx hB hf
        · replace hf := me_ip c4 hf
          refine me_dropI [(4, me_i v4), (5, me_i v5)] [3, 4] rfl ?_
          exact z_M_sideOf_b98 C N hNx hB hf
  · replace hf := me_in c1 hf
    refine me_aload_n C 0 (Or.inr (Or.inl ⟨_, rfl⟩)) dX12_sideOf_41 rfl rfl ?_
    refine me_geti C 3 fg_M_19 dX12_sideOf_42 rfl ?_
    refine me_bipush C (v := 120) dX12_sideOf_45 (by decide) ?_
    refine me_icmp_ne C (tgt := 66) dX12_sideOf_47 (by decide) (fun c8 => ?_) (fun c8 => ?_)
    · replace hf := me_in c8 hf
      refine me_iload C dX12_sideOf_66 rfl ?_
      refine me_iconst C (v := -1) dX12_sideOf_68 (by decide) ?_
      refine me_icmp_ne C (tgt := 77) dX12_sideOf_69 (by decide) (fun c9 => ?_) (fun c9 => ?_)
      · replace hf := me_in c9 hf
        refine me_iload C dX12_sideOf_77 rfl ?_
        exact me_iret C N dX12_sideOf_79 (me_nri _) (by cases hf; rfl) (by decide) (by decide)
      · replace hf := me_ip c9 hf
        refine me_iload C dX12_sideOf_72 rfl ?_
        refine me_goto C (tgt := 79) dX12_sideOf_74 (by decide) ?_
        exact me_iret C N dX12_sideOf_79 (me_nri _) (by cases hf; rfl) (by decide) (by decide)
    · replace hf := me_ip c8 hf
      refine me_iload C dX12_sideOf_50 rfl ?_
      refine me_iconst C (v := -1) dX12_sideOf_52 (by decide) ?_
      refine me_icmp_ne C (tgt := 61) dX12_sideOf_53 (by decide) (fun c10 => ?_) (fun c10 => ?_)
      · replace hf := me_in c10 hf
        refine me_iload C dX12_sideOf_61 rfl ?_
        refine me_goto C (tgt := 79) dX12_sideOf_63 (by decide) ?_
        exact me_iret C N dX12_sideOf_79 (me_nri _) (by cases hf; rfl) (by decide) (by decide)
      · replace hf := me_ip c10 hf
        refine me_iload C dX12_sideOf_56 rfl ?_
        refine me_goto C (tgt := 79) dX12_sideOf_58 (by decide) ?_
        exact me_iret C N dX12_sideOf_79 (me_nri _) (by cases hf; rfl) (by decide) (by decide)
def f_M_sideOf (μ : me_M) (v1 : Int32) (v2 : Int32) (v3 : Int32) : Option Int32 :=
  me_bd (f_M_along μ v1 v2 (1 : Int32)) (fun r1 =>
  me_bd (f_M_along μ v1 v2 (0 : Int32)) (fun r2 =>
  if r1 = (-1 : Int32) then
  (if r2 = (-1 : Int32) then
  (some (4 : Int32))
  else
  (f_M_sideOf_b32 μ v1 v3 r1 r2))
  else
  (f_M_sideOf_b32 μ v1 v3 r1 r2)))
set_option maxHeartbeats 4000000 in
set_option maxRecDepth 100000 in
theorem z_M_sideOf {X : me_X} {B : me_B} {sz : Nat} (C : me_C X B RX12 cX12_sideOf 8 (some .int)) {μ : me_M} {v1 : Int32} {v2 : Int32} {v3 : Int32}   {r : Int32} (N : me_En X B sz (B, μ, .ok (some (me_i r))) 2 48 0 0) (hNx : me_Nx X) (hB : me_St B)   (hf : f_M_sideOf μ v1 v2 v3 = some r) : me_Z X B 0 0 μ 0 [(0, me_r 36 0), (1, me_i v1), (2, me_i v2), (3, me_i v3)] [] := by
  unfold f_M_sideOf at hf
  refine me_aload_n C 0 (Or.inr (Or.inl ⟨_, rfl⟩)) dX12_sideOf_0 rfl rfl ?_
  refine me_iload_n C 1 dX12_sideOf_1 rfl rfl ?_
  refine me_iload_n C 2 dX12_sideOf_2 rfl rfl ?_
  refine me_iconst C (v := 1) dX12_sideOf_3 (by decide) ?_
  obtain ⟨r1, h_r1, hf⟩ := me_bs hf
  refine me_callV C N  (As := [me_i v1, me_i v2, me_i (1 : Int32)]) (st := []) 0 0 (c_M_along hB h_r1) mv_M_along ml_M_205 rfl rfl dX12_sideOf_4 rfl rfl ⟨by decide, by decide⟩ ⟨by decide, by decide, by decide, by decide⟩ (Nat.le_of_ble_eq_true rfl) ?_
  refine me_istore C dX12_sideOf_7 (by decide) (L' := [(4, me_i r1), (0, me_r 36 0), (1, me_i v1), (2, me_i v2), (3, me_i v3)]) rfl ?_
  refine me_aload_n C 0 (Or.inr (Or.inl ⟨_, rfl⟩)) dX12_sideOf_9 rfl rfl ?_
  refine me_iload_n C 1 dX12_sideOf_10 rfl rfl ?_
  refine me_iload_n C 2 dX12_sideOf_11 rfl rfl ?_
  refine me_iconst C (v := 0) dX12_sideOf_12 (by decide) ?_
  obtain ⟨r2, h_r2, hf⟩ := me_bs hf
  refine me_callV C N  (As := [me_i v1, me_i v2, me_i (0 : Int32)]) (st := []) 0 0 (c_M_along hB h_r2) mv_M_along ml_M_205 rfl rfl dX12_sideOf_13 rfl rfl ⟨by decide, by decide⟩ ⟨by decide, by decide, by decide, by decide⟩ (Nat.le_of_ble_eq_true rfl) ?_
  refine me_istore C dX12_sideOf_16 (by decide) (L' := [(5, me_i r2), (4, me_i r1), (0, me_r 36 0), (1, me_i v1), (2, me_i v2), (3, me_i v3)]) rfl ?_
  refine me_iload C dX12_sideOf_18 rfl ?_
  refine me_iconst C (v := -1) dX12_sideOf_20 (by decide) ?_
  refine me_icmp_ne C (tgt := 32) dX12_sideOf_21 (by decide) (fun c3 => ?_) (fun c3 => ?_)
  · replace hf := me_in c3 hf
    refine me_dropI [(0, me_r 36 0), (1, me_i v1), (3, me_i v3), (4, me_i r1), (5, me_i r2)] [2, 3, 5, 1, 0] rfl ?_
    exact z_M_sideOf_b32 C N hNx hB hf
  · replace hf := me_ip c3 hf
    refine me_iload C dX12_sideOf_24 rfl ?_
    refine me_iconst C (v := -1) dX12_sideOf_26 (by decide) ?_
    refine me_icmp_ne C (tgt := 32) dX12_sideOf_27 (by decide) (fun c4 => ?_) (fun c4 => ?_)
    · replace hf := me_in c4 hf
      refine me_dropI [(0, me_r 36 0), (1, me_i v1), (3, me_i v3), (4, me_i r1), (5, me_i r2)] [2, 3, 5, 1, 0] rfl ?_
      exact z_M_sideOf_b32 C N hNx hB hf
    · replace hf := me_ip c4 hf
      refine me_iconst C (v := 4) dX12_sideOf_30 (by decide) ?_
      exact me_iret C N dX12_sideOf_31 (me_nri _) (by cases hf; rfl) (by decide) (by decide)
theorem c_M_sideOf {B : me_B} (hB : me_St B) {μ : me_M} {v1 : Int32} {v2 : Int32} {v3 : Int32} {r : Int32}  (hf : f_M_sideOf μ v1 v2 v3 = some r) : ∀ l E z, l.stackTraces = false → me_Met l yX12_sideOf cX12_sideOf 8 (some .int) 2 48 0 0 E B μ z [me_r 36 0, me_i v1, me_i v2, me_i v3] (B, μ, .ok (some (me_i r))) :=
  fun _ _ _ hl => me_ofZ hl (by decide +kernel) (Nat.le_of_ble_eq_true rfl) (fun _ C N hNx => z_M_sideOf C N hNx hB  hf)

def f_M_adds (μ : me_M) (v1 : Int32) (v2 : Int32) (v3 : Int32) (v4 : Int32) : Option (me_M × Unit) :=
  me_gd (me_inb v1 16) (
  me_gd (me_inb v2 2) (
  me_gd (me_inb v3 5) (
  me_lt ((μ 60 (2 * (me_ix v1) + (me_ix v2)) (me_ix v3))) (fun x4 =>
  me_gd (me_inb v1 16) (
  me_gd (me_inb v2 2) (
  me_gd (me_inb v3 5) (
  me_gd (me_inb x4 4) (
  me_lt (me_up μ 53 (5 * (2 * (me_ix v1) + (me_ix v2)) + (me_ix v3)) (me_ix x4) v4) (fun μ9 =>
  me_gd (me_inb v1 16) (
  me_gd (me_inb v2 2) (
  me_gd (me_inb v3 5) (
  me_gd (me_inb x4 4) (
  me_lt (me_up μ9 57 (5 * (2 * (me_ix v1) + (me_ix v2)) + (me_ix v3)) (me_ix x4) ((μ9 36 0 4) + (1 : Int32))) (fun μ14 =>
  me_gd (me_inb v1 16) (
  me_gd (me_inb v2 2) (
  me_gd (me_inb v3 5) (
  me_gd (me_inb v3 5) (
  me_lt (me_up μ14 60 (2 * (me_ix v1) + (me_ix v2)) (me_ix v3) ((μ14 60 (2 * (me_ix v1) + (me_ix v2)) (me_ix v3)) + (1 : Int32))) (fun μ19 =>
  me_lt (me_up μ19 36 0 5 (1 : Int32)) (fun μ20 =>
  some (μ20, ())))))))))))))))))))))
set_option maxHeartbeats 4000000 in
set_option maxRecDepth 100000 in
theorem z_M_adds {X : me_X} {B : me_B} {sz : Nat} (C : me_C X B RX12 cX12_adds 6 none) {μ : me_M} {v1 : Int32} {v2 : Int32} {v3 : Int32} {v4 : Int32}   {r : me_M × Unit} (N : me_En X B sz (B, r.1, .ok (none)) 0 0 0 0) (hNx : me_Nx X) (hB : me_St B)   (hf : f_M_adds μ v1 v2 v3 v4 = some r) : me_Z X B 0 0 μ 0 [(0, me_r 36 0), (1, me_i v1), (2, me_i v2), (3, me_i v3), (4, me_i v4)] [] := by
  unfold f_M_adds at hf
  refine me_aload_n C 0 (Or.inr (Or.inl ⟨_, rfl⟩)) dX12_adds_0 rfl rfl ?_
  refine me_getr C hB 22 (k' := 58) (i' := 0) fg_M_75 dX12_adds_1 rfl rfl ?_
  refine me_iload_n C 1 dX12_adds_4 rfl rfl ?_
  obtain ⟨g1, hf⟩ := me_gs hf
  refine me_aald C hB (k' := 59) (i' := (me_ix v1)) rfl (fun _ => rfl) rfl g1 dX12_adds_5 rfl ?_
  refine me_iload_n C 2 dX12_adds_6 rfl rfl ?_
  obtain ⟨g2, hf⟩ := me_gs hf
  refine me_aald C hB (k' := 60) (i' := 2 * (me_ix v1) + (me_ix v2)) rfl (fun _ => rfl) rfl g2 dX12_adds_7 rfl ?_
  refine me_iload_n C 3 dX12_adds_8 rfl rfl ?_
  obtain ⟨g3, hf⟩ := me_gs hf
  refine me_iald C rfl (fun _ => rfl) g3 dX12_adds_9 ?_
  obtain ⟨x4, e_x4, hf⟩ := me_lts hf
  refine me_nm e_x4 ?_
  refine me_istore C dX12_adds_10 (by decide) (L' := [(5, me_i x4), (0, me_r 36 0), (1, me_i v1), (2, me_i v2), (3, me_i v3), (4, me_i v4)]) rfl ?_
  refine me_aload_n C 0 (Or.inr (Or.inl ⟨_, rfl⟩)) dX12_adds_12 rfl rfl ?_
  refine me_getr C hB 20 (k' := 50) (i' := 0) fg_M_67 dX12_adds_13 rfl rfl ?_
  refine me_iload_n C 1 dX12_adds_16 rfl rfl ?_
  obtain ⟨g5, hf⟩ := me_gs hf
  refine me_aald C hB (k' := 51) (i' := (me_ix v1)) rfl (fun _ => rfl) rfl g5 dX12_adds_17 rfl ?_
  refine me_iload_n C 2 dX12_adds_18 rfl rfl ?_
  obtain ⟨g6, hf⟩ := me_gs hf
  refine me_aald C hB (k' := 52) (i' := 2 * (me_ix v1) + (me_ix v2)) rfl (fun _ => rfl) rfl g6 dX12_adds_19 rfl ?_
  refine me_iload_n C 3 dX12_adds_20 rfl rfl ?_
  obtain ⟨g7, hf⟩ := me_gs hf
  refine me_aald C hB (k' := 53) (i' := 5 * (2 * (me_ix v1) + (me_ix v2)) + (me_ix v3)) rfl (fun _ => rfl) rfl g7 dX12_adds_21 rfl ?_
  refine me_iload C dX12_adds_22 rfl ?_
  refine me_iload C dX12_adds_24 rfl ?_
  obtain ⟨g8, hf⟩ := me_gs hf
  obtain ⟨μ9, e_μ9, hf⟩ := me_lts hf
  refine me_iast C rfl (fun _ => rfl) g8 dX12_adds_26 e_μ9 ?_
  refine me_aload_n C 0 (Or.inr (Or.inl ⟨_, rfl⟩)) dX12_adds_27 rfl rfl ?_
  refine me_getr C hB 21 (k' := 54) (i' := 0) fg_M_70 dX12_adds_28 rfl rfl ?_
  refine me_iload_n C 1 dX12_adds_31 rfl rfl ?_
  obtain ⟨g10, hf⟩ := me_gs hf
  refine me_aald C hB (k' := 55) (i' := (me_ix v1)) rfl (fun _ => rfl) rfl g10 dX12_adds_32 rfl ?_
  refine me_iload_n C 2 dX12_adds_33 rfl rfl ?_
  obtain ⟨g11, hf⟩ := me_gs hf
  refine me_aald C hB (k' := 56) (i' := 2 * (me_ix v1) + (me_ix v2)) rfl (fun _ => rfl) rfl g11 dX12_adds_34 rfl ?_
  refine me_iload_n C 3 dX12_adds_35 rfl rfl ?_
  obtain ⟨g12, hf⟩ := me_gs hf
  refine me_aald C hB (k' := 57) (i' := 5 * (2 * (me_ix v1) + (me_ix v2)) + (me_ix v3)) rfl (fun _ => rfl) rfl g12 dX12_adds_36 rfl ?_
  refine me_iload C dX12_adds_37 rfl ?_
  refine me_aload_n C 0 (Or.inr (Or.inl ⟨_, rfl⟩)) dX12_adds_39 rfl rfl ?_
  refine me_geti C 4 fg_M_162 dX12_adds_40 rfl ?_
  refine me_iconst C (v := 1) dX12_adds_43 (by decide) ?_
  refine me_iadd C dX12_adds_44 ?_
  obtain ⟨g13, hf⟩ := me_gs hf
  obtain ⟨μ14, e_μ14, hf⟩ := me_lts hf
  refine me_iast C rfl (fun _ => rfl) g13 dX12_adds_45 e_μ14 ?_
  refine me_aload_n C 0 (Or.inr (Or.inl ⟨_, rfl⟩)) dX12_adds_46 rfl rfl ?_
  refine me_getr C hB 22 (k' := 58) (i' := 0) fg_M_75 dX12_adds_47 rfl rfl ?_
  refine me_iload_n C 1 dX12_adds_50 rfl rfl ?_
  obtain ⟨g15, hf⟩ := me_gs hf
  refine me_aald C hB (k' := 59) (i' := (me_ix v1)) rfl (fun _ => rfl) rfl g15 dX12_adds_51 rfl ?_
  refine me_iload_n C 2 dX12_adds_52 rfl rfl ?_
  obtain ⟨g16, hf⟩ := me_gs hf
  refine me_aald C hB (k' := 60) (i' := 2 * (me_ix v1) + (me_ix v2)) rfl (fun _ => rfl) rfl g16 dX12_adds_53 rfl ?_
  refine me_iload_n C 3 dX12_adds_54 rfl rfl ?_
  refine me_dup2 C rfl rfl dX12_adds_55 ?_
  obtain ⟨g17, hf⟩ := me_gs hf
  refine me_iald C rfl (fun _ => rfl) g17 dX12_adds_56 ?_
  refine me_iconst C (v := 1) dX12_adds_57 (by decide) ?_
  refine me_iadd C dX12_adds_58 ?_
  obtain ⟨g18, hf⟩ := me_gs hf
  obtain ⟨μ19, e_μ19, hf⟩ := me_lts hf
  refine me_iast C rfl (fun _ => rfl) g18 dX12_adds_59 e_μ19 ?_
  refine me_aload_n C 0 (Or.inr (Or.inl ⟨_, rfl⟩)) dX12_adds_60 rfl rfl ?_
  refine me_iconst C (v := 1) dX12_adds_61 (by decide) ?_
  obtain ⟨μ20, e_μ20, hf⟩ := me_lts hf
  refine me_puti C 5 fw_M_211 dX12_adds_62 rfl (by decide +kernel) e_μ20 ?_
  exact me_vret C N dX12_adds_65 (by cases hf; rfl) (by decide) (by decide)
theorem c_M_adds {B : me_B} (hB : me_St B) {μ : me_M} {v1 : Int32} {v2 : Int32} {v3 : Int32} {v4 : Int32} {μ' : me_M} {r : Unit}  (hf : f_M_adds μ v1 v2 v3 v4 = some (μ', r)) : ∀ l E z, l.stackTraces = false → me_Met l yX12_adds cX12_adds 6 none 0 0 0 0 E B μ z [me_r 36 0, me_i v1, me_i v2, me_i v3, me_i v4] (B, μ', .ok (none)) :=
  fun _ _ _ hl => me_ofZ hl (by decide +kernel) (Nat.le_of_ble_eq_true rfl) (fun _ C N hNx => z_M_adds C N hNx hB  hf)

def f_M_drops (μ : me_M) (v1 : Int32) (v2 : Int32) (v3 : Int32) (v4 : Int32) : Option (me_M × Unit) :=
  me_gd (me_inb v1 16) (
  me_gd (me_inb v2 2) (
  me_gd (me_inb v3 5) (
  me_lt ((((μ 60 (2 * (me_ix v1) + (me_ix v2)) (me_ix v3)) - v4) - (1 : Int32))) (fun x4 =>
  me_gd (me_inb v1 16) (
  me_gd (me_inb v2 2) (
  me_gd (me_inb v3 5) (
  me_gd (me_inb v1 16) (
  me_gd (me_inb v2 2) (
  me_gd (me_inb v3 5) (
  me_gd (me_cpok (v4 + (1 : Int32)) v4 x4 4) (
  me_lt (me_cpy μ 53 (5 * (2 * (me_ix v1) + (me_ix v2)) + (me_ix v3)) (v4 + (1 : Int32)) v4 x4) (fun μ12 =>
  me_gd (me_inb v1 16) (
  me_gd (me_inb v2 2) (
  me_gd (me_inb v3 5) (
  me_gd (me_inb v1 16) (
  me_gd (me_inb v2 2) (
  me_gd (me_inb v3 5) (
  me_gd (me_cpok (v4 + (1 : Int32)) v4 x4 4) (
  me_lt (me_cpy μ12 57 (5 * (2 * (me_ix v1) + (me_ix v2)) + (me_ix v3)) (v4 + (1 : Int32)) v4 x4) (fun μ20 =>
  me_gd (me_inb v1 16) (
  me_gd (me_inb v2 2) (
  me_gd (me_inb v3 5) (
  me_gd (me_inb v3 5) (
  me_lt (me_up μ20 60 (2 * (me_ix v1) + (me_ix v2)) (me_ix v3) ((μ20 60 (2 * (me_ix v1) + (me_ix v2)) (me_ix v3)) - (1 : Int32))) (fun μ25 =>
  some (μ25, ()))))))))))))))))))))))))))
set_option maxHeartbeats 4000000 in
set_option maxRecDepth 100000 in
theorem z_M_drops {X : me_X} {B : me_B} {sz : Nat} (C : me_C X B RX12 cX12_drops 6 none) {μ : me_M} {v1 : Int32} {v2 : Int32} {v3 : Int32} {v4 : Int32}   {r : me_M × Unit} (N : me_En X B sz (B, r.1, .ok (none)) 1 40 0 0) (hNx : me_Nx X) (hB : me_St B)   (hf : f_M_drops μ v1 v2 v3 v4 = some r) : me_Z X B 0 0 μ 0 [(0, me_r 36 0), (1, me_i v1), (2, me_i v2), (3, me_i v3), (4, me_i v4)] [] := by
  unfold f_M_drops at hf
  refine me_aload_n C 0 (Or.inr (Or.inl ⟨_, rfl⟩)) dX12_drops_0 rfl rfl ?_
  refine me_getr C hB 22 (k' := 58) (i' := 0) fg_M_75 dX12_drops_1 rfl rfl ?_
  refine me_iload_n C 1 dX12_drops_4 rfl rfl ?_
  obtain ⟨g1, hf⟩ := me_gs hf
  refine me_aald C hB (k' := 59) (i' := (me_ix v1)) rfl (fun _ => rfl) rfl g1 dX12_drops_5 rfl ?_
  refine me_iload_n C 2 dX12_drops_6 rfl rfl ?_
  obtain ⟨g2, hf⟩ := me_gs hf
  refine me_aald C hB (k' := 60) (i' := 2 * (me_ix v1) + (me_ix v2)) rfl (fun _ => rfl) rfl g2 dX12_drops_7 rfl ?_
  refine me_iload_n C 3 dX12_drops_8 rfl rfl ?_
  obtain ⟨g3, hf⟩ := me_gs hf
  refine me_iald C rfl (fun _ => rfl) g3 dX12_drops_9 ?_
  refine me_iload C dX12_drops_10 rfl ?_
  refine me_isub C dX12_drops_12 ?_
  refine me_iconst C (v := 1) dX12_drops_13 (by decide) ?_
  refine me_isub C dX12_drops_14 ?_
  obtain ⟨x4, e_x4, hf⟩ := me_lts hf
  refine me_nm e_x4 ?_
  refine me_istore C dX12_drops_15 (by decide) (L' := [(5, me_i x4), (0, me_r 36 0), (1, me_i v1), (2, me_i v2), (3, me_i v3), (4, me_i v4)]) rfl ?_
  refine me_aload_n C 0 (Or.inr (Or.inl ⟨_, rfl⟩)) dX12_drops_17 rfl rfl ?_
  refine me_getr C hB 20 (k' := 50) (i' := 0) fg_M_67 dX12_drops_18 rfl rfl ?_
  refine me_iload_n C 1 dX12_drops_21 rfl rfl ?_
  obtain ⟨g5, hf⟩ := me_gs hf
  refine me_aald C hB (k' := 51) (i' := (me_ix v1)) rfl (fun _ => rfl) rfl g5 dX12_drops_22 rfl ?_
  refine me_iload_n C 2 dX12_drops_23 rfl rfl ?_
  obtain ⟨g6, hf⟩ := me_gs hf
  refine me_aald C hB (k' := 52) (i' := 2 * (me_ix v1) + (me_ix v2)) rfl (fun _ => rfl) rfl g6 dX12_drops_24 rfl ?_
  refine me_iload_n C 3 dX12_drops_25 rfl rfl ?_
  obtain ⟨g7, hf⟩ := me_gs hf
  refine me_aald C hB (k' := 53) (i' := 5 * (2 * (me_ix v1) + (me_ix v2)) + (me_ix v3)) rfl (fun _ => rfl) rfl g7 dX12_drops_26 rfl ?_
  refine me_iload C dX12_drops_27 rfl ?_
  refine me_iconst C (v := 1) dX12_drops_29 (by decide) ?_
  refine me_iadd C dX12_drops_30 ?_
  refine me_aload_n C 0 (Or.inr (Or.inl ⟨_, rfl⟩)) dX12_drops_31 rfl rfl ?_
  refine me_getr C hB 20 (k' := 50) (i' := 0) fg_M_67 dX12_drops_32 rfl rfl ?_
  refine me_iload_n C 1 dX12_drops_35 rfl rfl ?_
  obtain ⟨g8, hf⟩ := me_gs hf
  refine me_aald C hB (k' := 51) (i' := (me_ix v1)) rfl (fun _ => rfl) rfl g8 dX12_drops_36 rfl ?_
  refine me_iload_n C 2 dX12_drops_37 rfl rfl ?_
  obtain ⟨g9, hf⟩ := me_gs hf
  refine me_aald C hB (k' := 52) (i' := 2 * (me_ix v1) + (me_ix v2)) rfl (fun _ => rfl) rfl g9 dX12_drops_38 rfl ?_
  refine me_iload_n C 3 dX12_drops_39 rfl rfl ?_
  obtain ⟨g10, hf⟩ := me_gs hf
  refine me_aald C hB (k' := 53) (i' := 5 * (2 * (me_ix v1) + (me_ix v2)) + (me_ix v3)) rfl (fun _ => rfl) rfl g10 dX12_drops_40 rfl ?_
  refine me_iload C dX12_drops_41 rfl ?_
  refine me_iload C dX12_drops_43 rfl ?_
  obtain ⟨g11, hf⟩ := me_gs hf
  obtain ⟨μ12, e_μ12, hf⟩ := me_lts hf
  refine me_acopy C N rfl (fun _ => rfl) g11 bl_M_215 dX12_drops_45 ⟨by decide, by decide⟩ (Nat.le_of_ble_eq_true rfl) (by decide) (by decide) e_μ12 ?_
  refine me_aload_n C 0 (Or.inr (Or.inl ⟨_, rfl⟩)) dX12_drops_48 rfl rfl ?_
  refine me_getr C hB 21 (k' := 54) (i' := 0) fg_M_70 dX12_drops_49 rfl rfl ?_
  refine me_iload_n C 1 dX12_drops_52 rfl rfl ?_
  obtain ⟨g13, hf⟩ := me_gs hf
  refine me_aald C hB (k' := 55) (i' := (me_ix v1)) rfl (fun _ => rfl) rfl g13 dX12_drops_53 rfl ?_
  refine me_iload_n C 2 dX12_drops_54 rfl rfl ?_
  obtain ⟨g14, hf⟩ := me_gs hf
  refine me_aald C hB (k' := 56) (i' := 2 * (me_ix v1) + (me_ix v2)) rfl (fun _ => rfl) rfl g14 dX12_drops_55 rfl ?_
  refine me_iload_n C 3 dX12_drops_56 rfl rfl ?_
  obtain ⟨g15, hf⟩ := me_gs hf
  refine me_aald C hB (k' := 57) (i' := 5 * (2 * (me_ix v1) + (me_ix v2)) + (me_ix v3)) rfl (fun _ => rfl) rfl g15 dX12_drops_57 rfl ?_
  refine me_iload C dX12_drops_58 rfl ?_
  refine me_iconst C (v := 1) dX12_drops_60 (by decide) ?_
  refine me_iadd C dX12_drops_61 ?_
  refine me_aload_n C 0 (Or.inr (Or.inl ⟨_, rfl⟩)) dX12_drops_62 rfl rfl ?_
  refine me_getr C hB 21 (k' := 54) (i' := 0) fg_M_70 dX12_drops_63 rfl rfl ?_
  refine me_iload_n C 1 dX12_drops_66 rfl rfl ?_
  obtain ⟨g16, hf⟩ := me_gs hf
  refine me_aald C hB (k' := 55) (i' := (me_ix v1)) rfl (fun _ => rfl) rfl g16 dX12_drops_67 rfl ?_
  refine me_iload_n C 2 dX12_drops_68 rfl rfl ?_
  obtain ⟨g17, hf⟩ := me_gs hf
  refine me_aald C hB (k' := 56) (i' := 2 * (me_ix v1) + (me_ix v2)) rfl (fun _ => rfl) rfl g17 dX12_drops_69 rfl ?_
  refine me_iload_n C 3 dX12_drops_70 rfl rfl ?_
  obtain ⟨g18, hf⟩ := me_gs hf
  refine me_aald C hB (k' := 57) (i' := 5 * (2 * (me_ix v1) + (me_ix v2)) + (me_ix v3)) rfl (fun _ => rfl) rfl g18 dX12_drops_71 rfl ?_
  refine me_iload C dX12_drops_72 rfl ?_
  refine me_iload C dX12_drops_74 rfl ?_
  obtain ⟨g19, hf⟩ := me_gs hf
  obtain ⟨μ20, e_μ20, hf⟩ := me_lts hf
  refine me_acopy C N rfl (fun _ => rfl) g19 bl_M_215 dX12_drops_76 ⟨by decide, by decide⟩ (Nat.le_of_ble_eq_true rfl) (by decide) (by decide) e_μ20 ?_
  refine me_aload_n C 0 (Or.inr (Or.inl ⟨_, rfl⟩)) dX12_drops_79 rfl rfl ?_
  refine me_getr C hB 22 (k' := 58) (i' := 0) fg_M_75 dX12_drops_80 rfl rfl ?_
  refine me_iload_n C 1 dX12_drops_83 rfl rfl ?_
  obtain ⟨g21, hf⟩ := me_gs hf
  refine me_aald C hB (k' := 59) (i' := (me_ix v1)) rfl (fun _ => rfl) rfl g21 dX12_drops_84 rfl ?_
  refine me_iload_n C 2 dX12_drops_85 rfl rfl ?_
  obtain ⟨g22, hf⟩ := me_gs hf
  refine me_aald C hB (k' := 60) (i' := 2 * (me_ix v1) + (me_ix v2)) rfl (fun _ => rfl) rfl g22 dX12_drops_86 rfl ?_
  refine me_iload_n C 3 dX12_drops_87 rfl rfl ?_
  refine me_dup2 C rfl rfl dX12_drops_88 ?_
  obtain ⟨g23, hf⟩ := me_gs hf
  refine me_iald C rfl (fun _ => rfl) g23 dX12_drops_89 ?_
  refine me_iconst C (v := 1) dX12_drops_90 (by decide) ?_
  refine me_isub C dX12_drops_91 ?_
  obtain ⟨g24, hf⟩ := me_gs hf
  obtain ⟨μ25, e_μ25, hf⟩ := me_lts hf
  refine me_iast C rfl (fun _ => rfl) g24 dX12_drops_92 e_μ25 ?_
  exact me_vret C N dX12_drops_93 (by cases hf; rfl) (by decide) (by decide)
theorem c_M_drops {B : me_B} (hB : me_St B) {μ : me_M} {v1 : Int32} {v2 : Int32} {v3 : Int32} {v4 : Int32} {μ' : me_M} {r : Unit}  (hf : f_M_drops μ v1 v2 v3 v4 = some (μ', r)) : ∀ l E z, l.stackTraces = false → me_Met l yX12_drops cX12_drops 6 none 1 40 0 0 E B μ z [me_r 36 0, me_i v1, me_i v2, me_i v3, me_i v4] (B, μ', .ok (none)) :=
  fun _ _ _ hl => me_ofZ hl (by decide +kernel) (Nat.le_of_ble_eq_true rfl) (fun _ C N hNx => z_M_drops C N hNx hB  hf)
