/-! WALKS: Post_reset, Post_hasRoom, Post_liesAt, Post_countLying, Post_firstLying, Post_countLost, Post_countDelivered, Post_sumOfTimes, Row_reset, Router_reset, Router_setPlaces, Router_isIdle, Ways_couldGo, Ways_onwardOf, Ways_trace, Int_bitCount -/
theorem dX6_reset_0 : decode cX6_reset 0 = .ok (.aload_n 0, 1) := by decide +kernel
theorem dX6_reset_1 : decode cX6_reset 1 = .ok (.iconst 0, 1) := by decide +kernel
theorem dX6_reset_2 : decode cX6_reset 2 = .ok (.putfield 20, 3) := by decide +kernel
theorem dX6_reset_5 : decode cX6_reset 5 = .ok (.aload_n 0, 1) := by decide +kernel
theorem dX6_reset_6 : decode cX6_reset 6 = .ok (.iconst 0, 1) := by decide +kernel
theorem dX6_reset_7 : decode cX6_reset 7 = .ok (.putfield 24, 3) := by decide +kernel
theorem dX6_reset_10 : decode cX6_reset 10 = .ok (.return_, 1) := by decide +kernel
theorem dX6_hasRoom_0 : decode cX6_hasRoom 0 = .ok (.aload_n 0, 1) := by decide +kernel
theorem dX6_hasRoom_1 : decode cX6_hasRoom 1 = .ok (.getfield 20, 3) := by decide +kernel
theorem dX6_hasRoom_4 : decode cX6_hasRoom 4 = .ok (.aload_n 0, 1) := by decide +kernel
theorem dX6_hasRoom_5 : decode cX6_hasRoom 5 = .ok (.getfield 24, 3) := by decide +kernel
theorem dX6_hasRoom_8 : decode cX6_hasRoom 8 = .ok (.iadd, 1) := by decide +kernel
theorem dX6_hasRoom_9 : decode cX6_hasRoom 9 = .ok (.iload_n 1, 1) := by decide +kernel
theorem dX6_hasRoom_10 : decode cX6_hasRoom 10 = .ok (.iadd, 1) := by decide +kernel
theorem dX6_hasRoom_11 : decode cX6_hasRoom 11 = .ok (.sipush 200, 3) := by decide +kernel
theorem dX6_hasRoom_14 : decode cX6_hasRoom 14 = .ok (.if_icmp .gt 7, 3) := by decide +kernel
theorem dX6_hasRoom_17 : decode cX6_hasRoom 17 = .ok (.iconst 1, 1) := by decide +kernel
theorem dX6_hasRoom_18 : decode cX6_hasRoom 18 = .ok (.goto 4, 3) := by decide +kernel
theorem dX6_hasRoom_21 : decode cX6_hasRoom 21 = .ok (.iconst 0, 1) := by decide +kernel
theorem dX6_hasRoom_22 : decode cX6_hasRoom 22 = .ok (.ireturn, 1) := by decide +kernel
theorem dX6_liesAt_0 : decode cX6_liesAt 0 = .ok (.aload_n 1, 1) := by decide +kernel
theorem dX6_liesAt_1 : decode cX6_liesAt 1 = .ok (.getfield 27, 3) := by decide +kernel
theorem dX6_liesAt_4 : decode cX6_liesAt 4 = .ok (.bipush 109, 2) := by decide +kernel
theorem dX6_liesAt_6 : decode cX6_liesAt 6 = .ok (.if_icmp .ne 32, 3) := by decide +kernel
theorem dX6_liesAt_9 : decode cX6_liesAt 9 = .ok (.aload_n 1, 1) := by decide +kernel
theorem dX6_liesAt_10 : decode cX6_liesAt 10 = .ok (.getfield 31, 3) := by decide +kernel
theorem dX6_liesAt_13 : decode cX6_liesAt 13 = .ok (.bipush 100, 2) := by decide +kernel
theorem dX6_liesAt_15 : decode cX6_liesAt 15 = .ok (.if_icmp .ne 23, 3) := by decide +kernel
theorem dX6_liesAt_18 : decode cX6_liesAt 18 = .ok (.aload_n 1, 1) := by decide +kernel
theorem dX6_liesAt_19 : decode cX6_liesAt 19 = .ok (.getfield 37, 3) := by decide +kernel
theorem dX6_liesAt_22 : decode cX6_liesAt 22 = .ok (.iload_n 2, 1) := by decide +kernel
theorem dX6_liesAt_23 : decode cX6_liesAt 23 = .ok (.if_icmp .ne 15, 3) := by decide +kernel
theorem dX6_liesAt_26 : decode cX6_liesAt 26 = .ok (.aload_n 1, 1) := by decide +kernel
theorem dX6_liesAt_27 : decode cX6_liesAt 27 = .ok (.getfield 34, 3) := by decide +kernel
theorem dX6_liesAt_30 : decode cX6_liesAt 30 = .ok (.iload_n 3, 1) := by decide +kernel
theorem dX6_liesAt_31 : decode cX6_liesAt 31 = .ok (.if_icmp .ne 7, 3) := by decide +kernel
theorem dX6_liesAt_34 : decode cX6_liesAt 34 = .ok (.iconst 1, 1) := by decide +kernel
theorem dX6_liesAt_35 : decode cX6_liesAt 35 = .ok (.goto 4, 3) := by decide +kernel
theorem dX6_liesAt_38 : decode cX6_liesAt 38 = .ok (.iconst 0, 1) := by decide +kernel
theorem dX6_liesAt_39 : decode cX6_liesAt 39 = .ok (.ireturn, 1) := by decide +kernel
theorem dX6_countLying_0 : decode cX6_countLying 0 = .ok (.iconst 0, 1) := by decide +kernel
theorem dX6_countLying_1 : decode cX6_countLying 1 = .ok (.istore_n 3, 1) := by decide +kernel
theorem dX6_countLying_2 : decode cX6_countLying 2 = .ok (.iconst 0, 1) := by decide +kernel
theorem dX6_countLying_3 : decode cX6_countLying 3 = .ok (.istore 4, 2) := by decide +kernel
theorem dX6_countLying_5 : decode cX6_countLying 5 = .ok (.iload 4, 2) := by decide +kernel
theorem dX6_countLying_7 : decode cX6_countLying 7 = .ok (.aload_n 0, 1) := by decide +kernel
theorem dX6_countLying_8 : decode cX6_countLying 8 = .ok (.getfield 20, 3) := by decide +kernel
theorem dX6_countLying_11 : decode cX6_countLying 11 = .ok (.if_icmp .ge 28, 3) := by decide +kernel
theorem dX6_countLying_14 : decode cX6_countLying 14 = .ok (.aload_n 0, 1) := by decide +kernel
theorem dX6_countLying_15 : decode cX6_countLying 15 = .ok (.aload_n 0, 1) := by decide +kernel
theorem dX6_countLying_16 : decode cX6_countLying 16 = .ok (.getfield 11, 3) := by decide +kernel
theorem dX6_countLying_19 : decode cX6_countLying 19 = .ok (.iload 4, 2) := by decide +kernel
theorem dX6_countLying_21 : decode cX6_countLying 21 = .ok (.aaload, 1) := by decide +kernel
theorem dX6_countLying_22 : decode cX6_countLying 22 = .ok (.iload_n 1, 1) := by decide +kernel
theorem dX6_countLying_23 : decode cX6_countLying 23 = .ok (.iload_n 2, 1) := by decide +kernel
theorem dX6_countLying_24 : decode cX6_countLying 24 = .ok (.invokevirtual 73, 3) := by decide +kernel
theorem dX6_countLying_27 : decode cX6_countLying 27 = .ok (.ifCond .eq 6, 3) := by decide +kernel
theorem dX6_countLying_30 : decode cX6_countLying 30 = .ok (.iinc 3 1, 3) := by decide +kernel
theorem dX6_countLying_33 : decode cX6_countLying 33 = .ok (.iinc 4 1, 3) := by decide +kernel
theorem dX6_countLying_36 : decode cX6_countLying 36 = .ok (.goto (-31), 3) := by decide +kernel
theorem dX6_countLying_39 : decode cX6_countLying 39 = .ok (.iload_n 3, 1) := by decide +kernel
theorem dX6_countLying_40 : decode cX6_countLying 40 = .ok (.ireturn, 1) := by decide +kernel
theorem dX6_firstLying_0 : decode cX6_firstLying 0 = .ok (.aconst_null, 1) := by decide +kernel
theorem dX6_firstLying_1 : decode cX6_firstLying 1 = .ok (.astore_n 3, 1) := by decide +kernel
theorem dX6_firstLying_2 : decode cX6_firstLying 2 = .ok (.iconst 0, 1) := by decide +kernel
theorem dX6_firstLying_3 : decode cX6_firstLying 3 = .ok (.istore 4, 2) := by decide +kernel
theorem dX6_firstLying_5 : decode cX6_firstLying 5 = .ok (.iload 4, 2) := by decide +kernel
theorem dX6_firstLying_7 : decode cX6_firstLying 7 = .ok (.aload_n 0, 1) := by decide +kernel
theorem dX6_firstLying_8 : decode cX6_firstLying 8 = .ok (.getfield 20, 3) := by decide +kernel
theorem dX6_firstLying_11 : decode cX6_firstLying 11 = .ok (.if_icmp .ge 48, 3) := by decide +kernel
theorem dX6_firstLying_14 : decode cX6_firstLying 14 = .ok (.aload_n 0, 1) := by decide +kernel
theorem dX6_firstLying_15 : decode cX6_firstLying 15 = .ok (.getfield 11, 3) := by decide +kernel
theorem dX6_firstLying_18 : decode cX6_firstLying 18 = .ok (.iload 4, 2) := by decide +kernel
theorem dX6_firstLying_20 : decode cX6_firstLying 20 = .ok (.aaload, 1) := by decide +kernel
theorem dX6_firstLying_21 : decode cX6_firstLying 21 = .ok (.astore 5, 2) := by decide +kernel
theorem dX6_firstLying_23 : decode cX6_firstLying 23 = .ok (.aload_n 0, 1) := by decide +kernel
theorem dX6_firstLying_24 : decode cX6_firstLying 24 = .ok (.aload 5, 2) := by decide +kernel
theorem dX6_firstLying_26 : decode cX6_firstLying 26 = .ok (.iload_n 1, 1) := by decide +kernel
theorem dX6_firstLying_27 : decode cX6_firstLying 27 = .ok (.iload_n 2, 1) := by decide +kernel
theorem dX6_firstLying_28 : decode cX6_firstLying 28 = .ok (.invokevirtual 73, 3) := by decide +kernel
theorem dX6_firstLying_31 : decode cX6_firstLying 31 = .ok (.ifCond .eq 22, 3) := by decide +kernel
theorem dX6_firstLying_34 : decode cX6_firstLying 34 = .ok (.aload_n 3, 1) := by decide +kernel
theorem dX6_firstLying_35 : decode cX6_firstLying 35 = .ok (.ifnull 15, 3) := by decide +kernel
theorem dX6_firstLying_38 : decode cX6_firstLying 38 = .ok (.aload 5, 2) := by decide +kernel
theorem dX6_firstLying_40 : decode cX6_firstLying 40 = .ok (.getfield 58, 3) := by decide +kernel
theorem dX6_firstLying_43 : decode cX6_firstLying 43 = .ok (.aload_n 3, 1) := by decide +kernel
theorem dX6_firstLying_44 : decode cX6_firstLying 44 = .ok (.getfield 58, 3) := by decide +kernel
theorem dX6_firstLying_47 : decode cX6_firstLying 47 = .ok (.if_icmp .ge 6, 3) := by decide +kernel
theorem dX6_firstLying_50 : decode cX6_firstLying 50 = .ok (.aload 5, 2) := by decide +kernel
theorem dX6_firstLying_52 : decode cX6_firstLying 52 = .ok (.astore_n 3, 1) := by decide +kernel
theorem dX6_firstLying_53 : decode cX6_firstLying 53 = .ok (.iinc 4 1, 3) := by decide +kernel
theorem dX6_firstLying_56 : decode cX6_firstLying 56 = .ok (.goto (-51), 3) := by decide +kernel
theorem dX6_firstLying_59 : decode cX6_firstLying 59 = .ok (.aload_n 3, 1) := by decide +kernel
theorem dX6_firstLying_60 : decode cX6_firstLying 60 = .ok (.areturn, 1) := by decide +kernel
theorem dX6_countLost_0 : decode cX6_countLost 0 = .ok (.iconst 0, 1) := by decide +kernel
theorem dX6_countLost_1 : decode cX6_countLost 1 = .ok (.istore_n 1, 1) := by decide +kernel
theorem dX6_countLost_2 : decode cX6_countLost 2 = .ok (.iconst 0, 1) := by decide +kernel
theorem dX6_countLost_3 : decode cX6_countLost 3 = .ok (.istore_n 2, 1) := by decide +kernel
theorem dX6_countLost_4 : decode cX6_countLost 4 = .ok (.iload_n 2, 1) := by decide +kernel
theorem dX6_countLost_5 : decode cX6_countLost 5 = .ok (.aload_n 0, 1) := by decide +kernel
theorem dX6_countLost_6 : decode cX6_countLost 6 = .ok (.getfield 20, 3) := by decide +kernel
theorem dX6_countLost_9 : decode cX6_countLost 9 = .ok (.if_icmp .ge 26, 3) := by decide +kernel
theorem dX6_countLost_12 : decode cX6_countLost 12 = .ok (.aload_n 0, 1) := by decide +kernel
theorem dX6_countLost_13 : decode cX6_countLost 13 = .ok (.getfield 11, 3) := by decide +kernel
theorem dX6_countLost_16 : decode cX6_countLost 16 = .ok (.iload_n 2, 1) := by decide +kernel
theorem dX6_countLost_17 : decode cX6_countLost 17 = .ok (.aaload, 1) := by decide +kernel
theorem dX6_countLost_18 : decode cX6_countLost 18 = .ok (.getfield 31, 3) := by decide +kernel
theorem dX6_countLost_21 : decode cX6_countLost 21 = .ok (.bipush 108, 2) := by decide +kernel
theorem dX6_countLost_23 : decode cX6_countLost 23 = .ok (.if_icmp .ne 6, 3) := by decide +kernel
theorem dX6_countLost_26 : decode cX6_countLost 26 = .ok (.iinc 1 1, 3) := by decide +kernel
theorem dX6_countLost_29 : decode cX6_countLost 29 = .ok (.iinc 2 1, 3) := by decide +kernel
theorem dX6_countLost_32 : decode cX6_countLost 32 = .ok (.goto (-28), 3) := by decide +kernel
theorem dX6_countLost_35 : decode cX6_countLost 35 = .ok (.iload_n 1, 1) := by decide +kernel
theorem dX6_countLost_36 : decode cX6_countLost 36 = .ok (.ireturn, 1) := by decide +kernel
theorem dX6_countDelivered_0 : decode cX6_countDelivered 0 = .ok (.iconst 0, 1) := by decide +kernel
theorem dX6_countDelivered_1 : decode cX6_countDelivered 1 = .ok (.istore_n 1, 1) := by decide +kernel
theorem dX6_countDelivered_2 : decode cX6_countDelivered 2 = .ok (.iconst 0, 1) := by decide +kernel
theorem dX6_countDelivered_3 : decode cX6_countDelivered 3 = .ok (.istore_n 2, 1) := by decide +kernel
theorem dX6_countDelivered_4 : decode cX6_countDelivered 4 = .ok (.iload_n 2, 1) := by decide +kernel
theorem dX6_countDelivered_5 : decode cX6_countDelivered 5 = .ok (.aload_n 0, 1) := by decide +kernel
theorem dX6_countDelivered_6 : decode cX6_countDelivered 6 = .ok (.getfield 20, 3) := by decide +kernel
theorem dX6_countDelivered_9 : decode cX6_countDelivered 9 = .ok (.if_icmp .ge 24, 3) := by decide +kernel
theorem dX6_countDelivered_12 : decode cX6_countDelivered 12 = .ok (.aload_n 0, 1) := by decide +kernel
theorem dX6_countDelivered_13 : decode cX6_countDelivered 13 = .ok (.getfield 11, 3) := by decide +kernel
theorem dX6_countDelivered_16 : decode cX6_countDelivered 16 = .ok (.iload_n 2, 1) := by decide +kernel
theorem dX6_countDelivered_17 : decode cX6_countDelivered 17 = .ok (.aaload, 1) := by decide +kernel
theorem dX6_countDelivered_18 : decode cX6_countDelivered 18 = .ok (.invokevirtual 77, 3) := by decide +kernel
theorem dX6_countDelivered_21 : decode cX6_countDelivered 21 = .ok (.ifCond .eq 6, 3) := by decide +kernel
theorem dX6_countDelivered_24 : decode cX6_countDelivered 24 = .ok (.iinc 1 1, 3) := by decide +kernel
theorem dX6_countDelivered_27 : decode cX6_countDelivered 27 = .ok (.iinc 2 1, 3) := by decide +kernel
theorem dX6_countDelivered_30 : decode cX6_countDelivered 30 = .ok (.goto (-26), 3) := by decide +kernel
theorem dX6_countDelivered_33 : decode cX6_countDelivered 33 = .ok (.iload_n 1, 1) := by decide +kernel
theorem dX6_countDelivered_34 : decode cX6_countDelivered 34 = .ok (.ireturn, 1) := by decide +kernel
theorem dX6_sumOfTimes_0 : decode cX6_sumOfTimes 0 = .ok (.iconst 0, 1) := by decide +kernel
theorem dX6_sumOfTimes_1 : decode cX6_sumOfTimes 1 = .ok (.istore_n 1, 1) := by decide +kernel
theorem dX6_sumOfTimes_2 : decode cX6_sumOfTimes 2 = .ok (.iconst 0, 1) := by decide +kernel
theorem dX6_sumOfTimes_3 : decode cX6_sumOfTimes 3 = .ok (.istore_n 2, 1) := by decide +kernel
theorem dX6_sumOfTimes_4 : decode cX6_sumOfTimes 4 = .ok (.iload_n 2, 1) := by decide +kernel
theorem dX6_sumOfTimes_5 : decode cX6_sumOfTimes 5 = .ok (.aload_n 0, 1) := by decide +kernel
theorem dX6_sumOfTimes_6 : decode cX6_sumOfTimes 6 = .ok (.getfield 20, 3) := by decide +kernel
theorem dX6_sumOfTimes_9 : decode cX6_sumOfTimes 9 = .ok (.if_icmp .ge 33, 3) := by decide +kernel
theorem dX6_sumOfTimes_12 : decode cX6_sumOfTimes 12 = .ok (.aload_n 0, 1) := by decide +kernel
theorem dX6_sumOfTimes_13 : decode cX6_sumOfTimes 13 = .ok (.getfield 11, 3) := by decide +kernel
theorem dX6_sumOfTimes_16 : decode cX6_sumOfTimes 16 = .ok (.iload_n 2, 1) := by decide +kernel
theorem dX6_sumOfTimes_17 : decode cX6_sumOfTimes 17 = .ok (.aaload, 1) := by decide +kernel
theorem dX6_sumOfTimes_18 : decode cX6_sumOfTimes 18 = .ok (.invokevirtual 77, 3) := by decide +kernel
theorem dX6_sumOfTimes_21 : decode cX6_sumOfTimes 21 = .ok (.ifCond .eq 15, 3) := by decide +kernel
theorem dX6_sumOfTimes_24 : decode cX6_sumOfTimes 24 = .ok (.iload_n 1, 1) := by decide +kernel
theorem dX6_sumOfTimes_25 : decode cX6_sumOfTimes 25 = .ok (.aload_n 0, 1) := by decide +kernel
theorem dX6_sumOfTimes_26 : decode cX6_sumOfTimes 26 = .ok (.getfield 11, 3) := by decide +kernel
theorem dX6_sumOfTimes_29 : decode cX6_sumOfTimes 29 = .ok (.iload_n 2, 1) := by decide +kernel
theorem dX6_sumOfTimes_30 : decode cX6_sumOfTimes 30 = .ok (.aaload, 1) := by decide +kernel
theorem dX6_sumOfTimes_31 : decode cX6_sumOfTimes 31 = .ok (.invokevirtual 81, 3) := by decide +kernel
theorem dX6_sumOfTimes_34 : decode cX6_sumOfTimes 34 = .ok (.iadd, 1) := by decide +kernel
theorem dX6_sumOfTimes_35 : decode cX6_sumOfTimes 35 = .ok (.istore_n 1, 1) := by decide +kernel
theorem dX6_sumOfTimes_36 : decode cX6_sumOfTimes 36 = .ok (.iinc 2 1, 3) := by decide +kernel
theorem dX6_sumOfTimes_39 : decode cX6_sumOfTimes 39 = .ok (.goto (-35), 3) := by decide +kernel
theorem dX6_sumOfTimes_42 : decode cX6_sumOfTimes 42 = .ok (.iload_n 1, 1) := by decide +kernel
theorem dX6_sumOfTimes_43 : decode cX6_sumOfTimes 43 = .ok (.ireturn, 1) := by decide +kernel
theorem dX8_reset_0 : decode cX8_reset 0 = .ok (.aload_n 0, 1) := by decide +kernel
theorem dX8_reset_1 : decode cX8_reset 1 = .ok (.iconst 0, 1) := by decide +kernel
theorem dX8_reset_2 : decode cX8_reset 2 = .ok (.putfield 21, 3) := by decide +kernel
theorem dX8_reset_5 : decode cX8_reset 5 = .ok (.aload_n 0, 1) := by decide +kernel
theorem dX8_reset_6 : decode cX8_reset 6 = .ok (.iconst (-1), 1) := by decide +kernel
theorem dX8_reset_7 : decode cX8_reset 7 = .ok (.putfield 25, 3) := by decide +kernel
theorem dX8_reset_10 : decode cX8_reset 10 = .ok (.aload_n 0, 1) := by decide +kernel
theorem dX8_reset_11 : decode cX8_reset 11 = .ok (.iconst (-1), 1) := by decide +kernel
theorem dX8_reset_12 : decode cX8_reset 12 = .ok (.putfield 28, 3) := by decide +kernel
theorem dX8_reset_15 : decode cX8_reset 15 = .ok (.aload_n 0, 1) := by decide +kernel
theorem dX8_reset_16 : decode cX8_reset 16 = .ok (.iconst 0, 1) := by decide +kernel
theorem dX8_reset_17 : decode cX8_reset 17 = .ok (.putfield 31, 3) := by decide +kernel
theorem dX8_reset_20 : decode cX8_reset 20 = .ok (.return_, 1) := by decide +kernel
theorem dX7_reset_0 : decode cX7_reset 0 = .ok (.iconst 0, 1) := by decide +kernel
theorem dX7_reset_1 : decode cX7_reset 1 = .ok (.istore_n 1, 1) := by decide +kernel
theorem dX7_reset_2 : decode cX7_reset 2 = .ok (.iload_n 1, 1) := by decide +kernel
theorem dX7_reset_3 : decode cX7_reset 3 = .ok (.aload_n 0, 1) := by decide +kernel
theorem dX7_reset_4 : decode cX7_reset 4 = .ok (.getfield 11, 3) := by decide +kernel
theorem dX7_reset_7 : decode cX7_reset 7 = .ok (.arraylength, 1) := by decide +kernel
theorem dX7_reset_8 : decode cX7_reset 8 = .ok (.if_icmp .ge 25, 3) := by decide +kernel
theorem dX7_reset_11 : decode cX7_reset 11 = .ok (.aload_n 0, 1) := by decide +kernel
theorem dX7_reset_12 : decode cX7_reset 12 = .ok (.getfield 11, 3) := by decide +kernel
theorem dX7_reset_15 : decode cX7_reset 15 = .ok (.iload_n 1, 1) := by decide +kernel
theorem dX7_reset_16 : decode cX7_reset 16 = .ok (.aaload, 1) := by decide +kernel
theorem dX7_reset_17 : decode cX7_reset 17 = .ok (.invokevirtual 25, 3) := by decide +kernel
theorem dX7_reset_20 : decode cX7_reset 20 = .ok (.aload_n 0, 1) := by decide +kernel
theorem dX7_reset_21 : decode cX7_reset 21 = .ok (.getfield 17, 3) := by decide +kernel
theorem dX7_reset_24 : decode cX7_reset 24 = .ok (.iload_n 1, 1) := by decide +kernel
theorem dX7_reset_25 : decode cX7_reset 25 = .ok (.iconst 0, 1) := by decide +kernel
theorem dX7_reset_26 : decode cX7_reset 26 = .ok (.iastore, 1) := by decide +kernel
theorem dX7_reset_27 : decode cX7_reset 27 = .ok (.iinc 1 1, 3) := by decide +kernel
theorem dX7_reset_30 : decode cX7_reset 30 = .ok (.goto (-28), 3) := by decide +kernel
theorem dX7_reset_33 : decode cX7_reset 33 = .ok (.aload_n 0, 1) := by decide +kernel
theorem dX7_reset_34 : decode cX7_reset 34 = .ok (.getfield 21, 3) := by decide +kernel
theorem dX7_reset_37 : decode cX7_reset 37 = .ok (.iconst 0, 1) := by decide +kernel
theorem dX7_reset_38 : decode cX7_reset 38 = .ok (.iconst 0, 1) := by decide +kernel
theorem dX7_reset_39 : decode cX7_reset 39 = .ok (.iastore, 1) := by decide +kernel
theorem dX7_reset_40 : decode cX7_reset 40 = .ok (.aload_n 0, 1) := by decide +kernel
theorem dX7_reset_41 : decode cX7_reset 41 = .ok (.getfield 21, 3) := by decide +kernel
theorem dX7_reset_44 : decode cX7_reset 44 = .ok (.iconst 1, 1) := by decide +kernel
theorem dX7_reset_45 : decode cX7_reset 45 = .ok (.iconst 0, 1) := by decide +kernel
theorem dX7_reset_46 : decode cX7_reset 46 = .ok (.iastore, 1) := by decide +kernel
theorem dX7_reset_47 : decode cX7_reset 47 = .ok (.aload_n 0, 1) := by decide +kernel
theorem dX7_reset_48 : decode cX7_reset 48 = .ok (.iconst 1, 1) := by decide +kernel
theorem dX7_reset_49 : decode cX7_reset 49 = .ok (.putfield 28, 3) := by decide +kernel
theorem dX7_reset_52 : decode cX7_reset 52 = .ok (.aload_n 0, 1) := by decide +kernel
theorem dX7_reset_53 : decode cX7_reset 53 = .ok (.iconst 0, 1) := by decide +kernel
theorem dX7_reset_54 : decode cX7_reset 54 = .ok (.putfield 32, 3) := by decide +kernel
theorem dX7_reset_57 : decode cX7_reset 57 = .ok (.return_, 1) := by decide +kernel
theorem dX7_setPlaces_0 : decode cX7_setPlaces 0 = .ok (.iconst 0, 1) := by decide +kernel
theorem dX7_setPlaces_1 : decode cX7_setPlaces 1 = .ok (.istore_n 2, 1) := by decide +kernel
theorem dX7_setPlaces_2 : decode cX7_setPlaces 2 = .ok (.iload_n 2, 1) := by decide +kernel
theorem dX7_setPlaces_3 : decode cX7_setPlaces 3 = .ok (.aload_n 0, 1) := by decide +kernel
theorem dX7_setPlaces_4 : decode cX7_setPlaces 4 = .ok (.getfield 11, 3) := by decide +kernel
theorem dX7_setPlaces_7 : decode cX7_setPlaces 7 = .ok (.arraylength, 1) := by decide +kernel
theorem dX7_setPlaces_8 : decode cX7_setPlaces 8 = .ok (.if_icmp .ge 19, 3) := by decide +kernel
theorem dX7_setPlaces_11 : decode cX7_setPlaces 11 = .ok (.aload_n 0, 1) := by decide +kernel
theorem dX7_setPlaces_12 : decode cX7_setPlaces 12 = .ok (.getfield 11, 3) := by decide +kernel
theorem dX7_setPlaces_15 : decode cX7_setPlaces 15 = .ok (.iload_n 2, 1) := by decide +kernel
theorem dX7_setPlaces_16 : decode cX7_setPlaces 16 = .ok (.aaload, 1) := by decide +kernel
theorem dX7_setPlaces_17 : decode cX7_setPlaces 17 = .ok (.iload_n 1, 1) := by decide +kernel
theorem dX7_setPlaces_18 : decode cX7_setPlaces 18 = .ok (.putfield 35, 3) := by decide +kernel
theorem dX7_setPlaces_21 : decode cX7_setPlaces 21 = .ok (.iinc 2 1, 3) := by decide +kernel
theorem dX7_setPlaces_24 : decode cX7_setPlaces 24 = .ok (.goto (-22), 3) := by decide +kernel
theorem dX7_setPlaces_27 : decode cX7_setPlaces 27 = .ok (.return_, 1) := by decide +kernel
theorem dX7_isIdle_0 : decode cX7_isIdle 0 = .ok (.iconst 0, 1) := by decide +kernel
theorem dX7_isIdle_1 : decode cX7_isIdle 1 = .ok (.istore_n 1, 1) := by decide +kernel
theorem dX7_isIdle_2 : decode cX7_isIdle 2 = .ok (.iload_n 1, 1) := by decide +kernel
theorem dX7_isIdle_3 : decode cX7_isIdle 3 = .ok (.aload_n 0, 1) := by decide +kernel
theorem dX7_isIdle_4 : decode cX7_isIdle 4 = .ok (.getfield 11, 3) := by decide +kernel
theorem dX7_isIdle_7 : decode cX7_isIdle 7 = .ok (.arraylength, 1) := by decide +kernel
theorem dX7_isIdle_8 : decode cX7_isIdle 8 = .ok (.if_icmp .ge 36, 3) := by decide +kernel
theorem dX7_isIdle_11 : decode cX7_isIdle 11 = .ok (.aload_n 0, 1) := by decide +kernel
theorem dX7_isIdle_12 : decode cX7_isIdle 12 = .ok (.getfield 11, 3) := by decide +kernel
theorem dX7_isIdle_15 : decode cX7_isIdle 15 = .ok (.iload_n 1, 1) := by decide +kernel
theorem dX7_isIdle_16 : decode cX7_isIdle 16 = .ok (.aaload, 1) := by decide +kernel
theorem dX7_isIdle_17 : decode cX7_isIdle 17 = .ok (.getfield 39, 3) := by decide +kernel
theorem dX7_isIdle_20 : decode cX7_isIdle 20 = .ok (.ifCond .gt 16, 3) := by decide +kernel
theorem dX7_isIdle_23 : decode cX7_isIdle 23 = .ok (.aload_n 0, 1) := by decide +kernel
theorem dX7_isIdle_24 : decode cX7_isIdle 24 = .ok (.getfield 11, 3) := by decide +kernel
theorem dX7_isIdle_27 : decode cX7_isIdle 27 = .ok (.iload_n 1, 1) := by decide +kernel
theorem dX7_isIdle_28 : decode cX7_isIdle 28 = .ok (.aaload, 1) := by decide +kernel
theorem dX7_isIdle_29 : decode cX7_isIdle 29 = .ok (.getfield 42, 3) := by decide +kernel
theorem dX7_isIdle_32 : decode cX7_isIdle 32 = .ok (.iconst (-1), 1) := by decide +kernel
theorem dX7_isIdle_33 : decode cX7_isIdle 33 = .ok (.if_icmp .eq 5, 3) := by decide +kernel
theorem dX7_isIdle_36 : decode cX7_isIdle 36 = .ok (.iconst 0, 1) := by decide +kernel
theorem dX7_isIdle_37 : decode cX7_isIdle 37 = .ok (.ireturn, 1) := by decide +kernel
theorem dX7_isIdle_38 : decode cX7_isIdle 38 = .ok (.iinc 1 1, 3) := by decide +kernel
theorem dX7_isIdle_41 : decode cX7_isIdle 41 = .ok (.goto (-39), 3) := by decide +kernel
theorem dX7_isIdle_44 : decode cX7_isIdle 44 = .ok (.iconst 1, 1) := by decide +kernel
theorem dX7_isIdle_45 : decode cX7_isIdle 45 = .ok (.ireturn, 1) := by decide +kernel
theorem dX9_couldGo_0 : decode cX9_couldGo 0 = .ok (.iload_n 1, 1) := by decide +kernel
theorem dX9_couldGo_1 : decode cX9_couldGo 1 = .ok (.iload_n 2, 1) := by decide +kernel
theorem dX9_couldGo_2 : decode cX9_couldGo 2 = .ok (.if_icmp .eq 18, 3) := by decide +kernel
theorem dX9_couldGo_5 : decode cX9_couldGo 5 = .ok (.aload_n 0, 1) := by decide +kernel
theorem dX9_couldGo_6 : decode cX9_couldGo 6 = .ok (.getfield 23, 3) := by decide +kernel
theorem dX9_couldGo_9 : decode cX9_couldGo 9 = .ok (.iload_n 1, 1) := by decide +kernel
theorem dX9_couldGo_10 : decode cX9_couldGo 10 = .ok (.iconst 4, 1) := by decide +kernel
theorem dX9_couldGo_11 : decode cX9_couldGo 11 = .ok (.imul, 1) := by decide +kernel
theorem dX9_couldGo_12 : decode cX9_couldGo 12 = .ok (.iload_n 3, 1) := by decide +kernel
theorem dX9_couldGo_13 : decode cX9_couldGo 13 = .ok (.iadd, 1) := by decide +kernel
theorem dX9_couldGo_14 : decode cX9_couldGo 14 = .ok (.invokevirtual 48, 3) := by decide +kernel
theorem dX9_couldGo_17 : decode cX9_couldGo 17 = .ok (.ifCond .ne 5, 3) := by decide +kernel
theorem dX9_couldGo_20 : decode cX9_couldGo 20 = .ok (.iconst 0, 1) := by decide +kernel
theorem dX9_couldGo_21 : decode cX9_couldGo 21 = .ok (.ireturn, 1) := by decide +kernel
theorem dX9_couldGo_22 : decode cX9_couldGo 22 = .ok (.aload_n 0, 1) := by decide +kernel
theorem dX9_couldGo_23 : decode cX9_couldGo 23 = .ok (.getfield 23, 3) := by decide +kernel
theorem dX9_couldGo_26 : decode cX9_couldGo 26 = .ok (.iload_n 1, 1) := by decide +kernel
theorem dX9_couldGo_27 : decode cX9_couldGo 27 = .ok (.iload_n 2, 1) := by decide +kernel
theorem dX9_couldGo_28 : decode cX9_couldGo 28 = .ok (.invokevirtual 35, 3) := by decide +kernel
theorem dX9_couldGo_31 : decode cX9_couldGo 31 = .ok (.istore 4, 2) := by decide +kernel
theorem dX9_couldGo_33 : decode cX9_couldGo 33 = .ok (.aload_n 0, 1) := by decide +kernel
theorem dX9_couldGo_34 : decode cX9_couldGo 34 = .ok (.getfield 19, 3) := by decide +kernel
theorem dX9_couldGo_37 : decode cX9_couldGo 37 = .ok (.bipush 116, 2) := by decide +kernel
theorem dX9_couldGo_39 : decode cX9_couldGo 39 = .ok (.if_icmp .ne 9, 3) := by decide +kernel
theorem dX9_couldGo_42 : decode cX9_couldGo 42 = .ok (.iload 4, 2) := by decide +kernel
theorem dX9_couldGo_44 : decode cX9_couldGo 44 = .ok (.iconst 1, 1) := by decide +kernel
theorem dX9_couldGo_45 : decode cX9_couldGo 45 = .ok (.if_icmp .ne 20, 3) := by decide +kernel
theorem dX9_couldGo_48 : decode cX9_couldGo 48 = .ok (.aload_n 0, 1) := by decide +kernel
theorem dX9_couldGo_49 : decode cX9_couldGo 49 = .ok (.iload_n 1, 1) := by decide +kernel
theorem dX9_couldGo_50 : decode cX9_couldGo 50 = .ok (.iload_n 2, 1) := by decide +kernel
theorem dX9_couldGo_51 : decode cX9_couldGo 51 = .ok (.iconst 0, 1) := by decide +kernel
theorem dX9_couldGo_52 : decode cX9_couldGo 52 = .ok (.invokevirtual 78, 3) := by decide +kernel
theorem dX9_couldGo_55 : decode cX9_couldGo 55 = .ok (.iload_n 3, 1) := by decide +kernel
theorem dX9_couldGo_56 : decode cX9_couldGo 56 = .ok (.if_icmp .ne 7, 3) := by decide +kernel
theorem dX9_couldGo_59 : decode cX9_couldGo 59 = .ok (.iconst 1, 1) := by decide +kernel
theorem dX9_couldGo_60 : decode cX9_couldGo 60 = .ok (.goto 4, 3) := by decide +kernel
theorem dX9_couldGo_63 : decode cX9_couldGo 63 = .ok (.iconst 0, 1) := by decide +kernel
theorem dX9_couldGo_64 : decode cX9_couldGo 64 = .ok (.ireturn, 1) := by decide +kernel
theorem dX9_couldGo_65 : decode cX9_couldGo 65 = .ok (.iload_n 3, 1) := by decide +kernel
theorem dX9_couldGo_66 : decode cX9_couldGo 66 = .ok (.iload 4, 2) := by decide +kernel
theorem dX9_couldGo_68 : decode cX9_couldGo 68 = .ok (.if_icmp .eq 16, 3) := by decide +kernel
theorem dX9_couldGo_71 : decode cX9_couldGo 71 = .ok (.iload_n 3, 1) := by decide +kernel
theorem dX9_couldGo_72 : decode cX9_couldGo 72 = .ok (.aload_n 0, 1) := by decide +kernel
theorem dX9_couldGo_73 : decode cX9_couldGo 73 = .ok (.getfield 23, 3) := by decide +kernel
theorem dX9_couldGo_76 : decode cX9_couldGo 76 = .ok (.iload_n 1, 1) := by decide +kernel
theorem dX9_couldGo_77 : decode cX9_couldGo 77 = .ok (.iload_n 2, 1) := by decide +kernel
theorem dX9_couldGo_78 : decode cX9_couldGo 78 = .ok (.invokevirtual 41, 3) := by decide +kernel
theorem dX9_couldGo_81 : decode cX9_couldGo 81 = .ok (.if_icmp .ne 7, 3) := by decide +kernel
theorem dX9_couldGo_84 : decode cX9_couldGo 84 = .ok (.iconst 1, 1) := by decide +kernel
theorem dX9_couldGo_85 : decode cX9_couldGo 85 = .ok (.goto 4, 3) := by decide +kernel
theorem dX9_couldGo_88 : decode cX9_couldGo 88 = .ok (.iconst 0, 1) := by decide +kernel
theorem dX9_couldGo_89 : decode cX9_couldGo 89 = .ok (.ireturn, 1) := by decide +kernel
theorem dX9_onwardOf_0 : decode cX9_onwardOf 0 = .ok (.aload_n 0, 1) := by decide +kernel
theorem dX9_onwardOf_1 : decode cX9_onwardOf 1 = .ok (.getfield 23, 3) := by decide +kernel
theorem dX9_onwardOf_4 : decode cX9_onwardOf 4 = .ok (.getfield 52, 3) := by decide +kernel
theorem dX9_onwardOf_7 : decode cX9_onwardOf 7 = .ok (.iload_n 1, 1) := by decide +kernel
theorem dX9_onwardOf_8 : decode cX9_onwardOf 8 = .ok (.iconst 4, 1) := by decide +kernel
theorem dX9_onwardOf_9 : decode cX9_onwardOf 9 = .ok (.imul, 1) := by decide +kernel
theorem dX9_onwardOf_10 : decode cX9_onwardOf 10 = .ok (.iload_n 2, 1) := by decide +kernel
theorem dX9_onwardOf_11 : decode cX9_onwardOf 11 = .ok (.iadd, 1) := by decide +kernel
theorem dX9_onwardOf_12 : decode cX9_onwardOf 12 = .ok (.iaload, 1) := by decide +kernel
theorem dX9_onwardOf_13 : decode cX9_onwardOf 13 = .ok (.istore_n 3, 1) := by decide +kernel
theorem dX9_onwardOf_14 : decode cX9_onwardOf 14 = .ok (.iconst 0, 1) := by decide +kernel
theorem dX9_onwardOf_15 : decode cX9_onwardOf 15 = .ok (.istore 4, 2) := by decide +kernel
theorem dX9_onwardOf_17 : decode cX9_onwardOf 17 = .ok (.iconst 0, 1) := by decide +kernel
theorem dX9_onwardOf_18 : decode cX9_onwardOf 18 = .ok (.istore 5, 2) := by decide +kernel
theorem dX9_onwardOf_20 : decode cX9_onwardOf 20 = .ok (.iload 5, 2) := by decide +kernel
theorem dX9_onwardOf_22 : decode cX9_onwardOf 22 = .ok (.aload_n 0, 1) := by decide +kernel
theorem dX9_onwardOf_23 : decode cX9_onwardOf 23 = .ok (.getfield 23, 3) := by decide +kernel
theorem dX9_onwardOf_26 : decode cX9_onwardOf 26 = .ok (.getfield 87, 3) := by decide +kernel
theorem dX9_onwardOf_29 : decode cX9_onwardOf 29 = .ok (.if_icmp .ge 60, 3) := by decide +kernel
theorem dX9_onwardOf_32 : decode cX9_onwardOf 32 = .ok (.aload_n 0, 1) := by decide +kernel
theorem dX9_onwardOf_33 : decode cX9_onwardOf 33 = .ok (.iload_n 1, 1) := by decide +kernel
theorem dX9_onwardOf_34 : decode cX9_onwardOf 34 = .ok (.iload 5, 2) := by decide +kernel
theorem dX9_onwardOf_36 : decode cX9_onwardOf 36 = .ok (.iload_n 2, 1) := by decide +kernel
theorem dX9_onwardOf_37 : decode cX9_onwardOf 37 = .ok (.invokevirtual 90, 3) := by decide +kernel
theorem dX9_onwardOf_40 : decode cX9_onwardOf 40 = .ok (.ifCond .eq 43, 3) := by decide +kernel
theorem dX9_onwardOf_43 : decode cX9_onwardOf 43 = .ok (.iconst 0, 1) := by decide +kernel
theorem dX9_onwardOf_44 : decode cX9_onwardOf 44 = .ok (.istore 6, 2) := by decide +kernel
theorem dX9_onwardOf_46 : decode cX9_onwardOf 46 = .ok (.iload 6, 2) := by decide +kernel
theorem dX9_onwardOf_48 : decode cX9_onwardOf 48 = .ok (.iconst 4, 1) := by decide +kernel
theorem dX9_onwardOf_49 : decode cX9_onwardOf 49 = .ok (.if_icmp .ge 34, 3) := by decide +kernel
theorem dX9_onwardOf_52 : decode cX9_onwardOf 52 = .ok (.iload 4, 2) := by decide +kernel
theorem dX9_onwardOf_54 : decode cX9_onwardOf 54 = .ok (.aload_n 0, 1) := by decide +kernel
theorem dX9_onwardOf_55 : decode cX9_onwardOf 55 = .ok (.iload_n 3, 1) := by decide +kernel
theorem dX9_onwardOf_56 : decode cX9_onwardOf 56 = .ok (.iload 5, 2) := by decide +kernel
theorem dX9_onwardOf_58 : decode cX9_onwardOf 58 = .ok (.iload 6, 2) := by decide +kernel
theorem dX9_onwardOf_60 : decode cX9_onwardOf 60 = .ok (.invokevirtual 90, 3) := by decide +kernel
theorem dX9_onwardOf_63 : decode cX9_onwardOf 63 = .ok (.ifCond .eq 10, 3) := by decide +kernel
theorem dX9_onwardOf_66 : decode cX9_onwardOf 66 = .ok (.iconst 1, 1) := by decide +kernel
theorem dX9_onwardOf_67 : decode cX9_onwardOf 67 = .ok (.iload 6, 2) := by decide +kernel
theorem dX9_onwardOf_69 : decode cX9_onwardOf 69 = .ok (.ishl, 1) := by decide +kernel
theorem dX9_onwardOf_70 : decode cX9_onwardOf 70 = .ok (.goto 4, 3) := by decide +kernel
theorem dX9_onwardOf_73 : decode cX9_onwardOf 73 = .ok (.iconst 0, 1) := by decide +kernel
theorem dX9_onwardOf_74 : decode cX9_onwardOf 74 = .ok (.ior, 1) := by decide +kernel
theorem dX9_onwardOf_75 : decode cX9_onwardOf 75 = .ok (.istore 4, 2) := by decide +kernel
theorem dX9_onwardOf_77 : decode cX9_onwardOf 77 = .ok (.iinc 6 1, 3) := by decide +kernel
theorem dX9_onwardOf_80 : decode cX9_onwardOf 80 = .ok (.goto (-34), 3) := by decide +kernel
theorem dX9_onwardOf_83 : decode cX9_onwardOf 83 = .ok (.iinc 5 1, 3) := by decide +kernel
theorem dX9_onwardOf_86 : decode cX9_onwardOf 86 = .ok (.goto (-66), 3) := by decide +kernel
theorem dX9_onwardOf_89 : decode cX9_onwardOf 89 = .ok (.iload 4, 2) := by decide +kernel
theorem dX9_onwardOf_91 : decode cX9_onwardOf 91 = .ok (.ireturn, 1) := by decide +kernel
theorem dX9_trace_0 : decode cX9_trace 0 = .ok (.iconst 0, 1) := by decide +kernel
theorem dX9_trace_1 : decode cX9_trace 1 = .ok (.istore_n 1, 1) := by decide +kernel
theorem dX9_trace_2 : decode cX9_trace 2 = .ok (.iload_n 1, 1) := by decide +kernel
theorem dX9_trace_3 : decode cX9_trace 3 = .ok (.bipush 16, 2) := by decide +kernel
theorem dX9_trace_5 : decode cX9_trace 5 = .ok (.if_icmp .ge 78, 3) := by decide +kernel
theorem dX9_trace_8 : decode cX9_trace 8 = .ok (.iconst 0, 1) := by decide +kernel
theorem dX9_trace_9 : decode cX9_trace 9 = .ok (.istore_n 2, 1) := by decide +kernel
theorem dX9_trace_10 : decode cX9_trace 10 = .ok (.iload_n 2, 1) := by decide +kernel
theorem dX9_trace_11 : decode cX9_trace 11 = .ok (.iconst 4, 1) := by decide +kernel
theorem dX9_trace_12 : decode cX9_trace 12 = .ok (.if_icmp .ge 65, 3) := by decide +kernel
theorem dX9_trace_15 : decode cX9_trace 15 = .ok (.aload_n 0, 1) := by decide +kernel
theorem dX9_trace_16 : decode cX9_trace 16 = .ok (.getfield 23, 3) := by decide +kernel
theorem dX9_trace_19 : decode cX9_trace 19 = .ok (.iload_n 1, 1) := by decide +kernel
theorem dX9_trace_20 : decode cX9_trace 20 = .ok (.invokevirtual 81, 3) := by decide +kernel
theorem dX9_trace_23 : decode cX9_trace 23 = .ok (.ifCond .eq 22, 3) := by decide +kernel
theorem dX9_trace_26 : decode cX9_trace 26 = .ok (.aload_n 0, 1) := by decide +kernel
theorem dX9_trace_27 : decode cX9_trace 27 = .ok (.getfield 23, 3) := by decide +kernel
theorem dX9_trace_30 : decode cX9_trace 30 = .ok (.iload_n 1, 1) := by decide +kernel
theorem dX9_trace_31 : decode cX9_trace 31 = .ok (.iconst 4, 1) := by decide +kernel
theorem dX9_trace_32 : decode cX9_trace 32 = .ok (.imul, 1) := by decide +kernel
theorem dX9_trace_33 : decode cX9_trace 33 = .ok (.iload_n 2, 1) := by decide +kernel
theorem dX9_trace_34 : decode cX9_trace 34 = .ok (.iadd, 1) := by decide +kernel
theorem dX9_trace_35 : decode cX9_trace 35 = .ok (.invokevirtual 48, 3) := by decide +kernel
theorem dX9_trace_38 : decode cX9_trace 38 = .ok (.ifCond .eq 7, 3) := by decide +kernel
theorem dX9_trace_41 : decode cX9_trace 41 = .ok (.iconst 1, 1) := by decide +kernel
theorem dX9_trace_42 : decode cX9_trace 42 = .ok (.goto 4, 3) := by decide +kernel
theorem dX9_trace_45 : decode cX9_trace 45 = .ok (.iconst 0, 1) := by decide +kernel
theorem dX9_trace_46 : decode cX9_trace 46 = .ok (.istore_n 3, 1) := by decide +kernel
theorem dX9_trace_47 : decode cX9_trace 47 = .ok (.aload_n 0, 1) := by decide +kernel
theorem dX9_trace_48 : decode cX9_trace 48 = .ok (.getfield 9, 3) := by decide +kernel
theorem dX9_trace_51 : decode cX9_trace 51 = .ok (.iload_n 1, 1) := by decide +kernel
theorem dX9_trace_52 : decode cX9_trace 52 = .ok (.iconst 4, 1) := by decide +kernel
theorem dX9_trace_53 : decode cX9_trace 53 = .ok (.imul, 1) := by decide +kernel
theorem dX9_trace_54 : decode cX9_trace 54 = .ok (.iload_n 2, 1) := by decide +kernel
theorem dX9_trace_55 : decode cX9_trace 55 = .ok (.iadd, 1) := by decide +kernel
theorem dX9_trace_56 : decode cX9_trace 56 = .ok (.iload_n 3, 1) := by decide +kernel
theorem dX9_trace_57 : decode cX9_trace 57 = .ok (.ifCond .eq 12, 3) := by decide +kernel
theorem dX9_trace_60 : decode cX9_trace 60 = .ok (.aload_n 0, 1) := by decide +kernel
theorem dX9_trace_61 : decode cX9_trace 61 = .ok (.iload_n 1, 1) := by decide +kernel
theorem dX9_trace_62 : decode cX9_trace 62 = .ok (.iload_n 2, 1) := by decide +kernel
theorem dX9_trace_63 : decode cX9_trace 63 = .ok (.invokevirtual 84, 3) := by decide +kernel
theorem dX9_trace_66 : decode cX9_trace 66 = .ok (.goto 4, 3) := by decide +kernel
theorem dX9_trace_69 : decode cX9_trace 69 = .ok (.iconst 0, 1) := by decide +kernel
theorem dX9_trace_70 : decode cX9_trace 70 = .ok (.iastore, 1) := by decide +kernel
theorem dX9_trace_71 : decode cX9_trace 71 = .ok (.iinc 2 1, 3) := by decide +kernel
theorem dX9_trace_74 : decode cX9_trace 74 = .ok (.goto (-64), 3) := by decide +kernel
theorem dX9_trace_77 : decode cX9_trace 77 = .ok (.iinc 1 1, 3) := by decide +kernel
theorem dX9_trace_80 : decode cX9_trace 80 = .ok (.goto (-78), 3) := by decide +kernel
theorem dX9_trace_83 : decode cX9_trace 83 = .ok (.return_, 1) := by decide +kernel
theorem dJ6_bitCount_0f7a4_0 : decode cJ6_bitCount_0f7a4 0 = .ok (.iload_n 0, 1) := by decide +kernel
theorem dJ6_bitCount_0f7a4_1 : decode cJ6_bitCount_0f7a4 1 = .ok (.iload_n 0, 1) := by decide +kernel
theorem dJ6_bitCount_0f7a4_2 : decode cJ6_bitCount_0f7a4 2 = .ok (.iconst 1, 1) := by decide +kernel
theorem dJ6_bitCount_0f7a4_3 : decode cJ6_bitCount_0f7a4 3 = .ok (.iushr, 1) := by decide +kernel
theorem dJ6_bitCount_0f7a4_4 : decode cJ6_bitCount_0f7a4 4 = .ok (.ldc_w 265, 3) := by decide +kernel
theorem dJ6_bitCount_0f7a4_7 : decode cJ6_bitCount_0f7a4 7 = .ok (.iand, 1) := by decide +kernel
theorem dJ6_bitCount_0f7a4_8 : decode cJ6_bitCount_0f7a4 8 = .ok (.isub, 1) := by decide +kernel
theorem dJ6_bitCount_0f7a4_9 : decode cJ6_bitCount_0f7a4 9 = .ok (.istore_n 0, 1) := by decide +kernel
theorem dJ6_bitCount_0f7a4_10 : decode cJ6_bitCount_0f7a4 10 = .ok (.iload_n 0, 1) := by decide +kernel
theorem dJ6_bitCount_0f7a4_11 : decode cJ6_bitCount_0f7a4 11 = .ok (.ldc_w 266, 3) := by decide +kernel
theorem dJ6_bitCount_0f7a4_14 : decode cJ6_bitCount_0f7a4 14 = .ok (.iand, 1) := by decide +kernel
theorem dJ6_bitCount_0f7a4_15 : decode cJ6_bitCount_0f7a4 15 = .ok (.iload_n 0, 1) := by decide +kernel
theorem dJ6_bitCount_0f7a4_16 : decode cJ6_bitCount_0f7a4 16 = .ok (.iconst 2, 1) := by decide +kernel
theorem dJ6_bitCount_0f7a4_17 : decode cJ6_bitCount_0f7a4 17 = .ok (.iushr, 1) := by decide +kernel
theorem dJ6_bitCount_0f7a4_18 : decode cJ6_bitCount_0f7a4 18 = .ok (.ldc_w 266, 3) := by decide +kernel
theorem dJ6_bitCount_0f7a4_21 : decode cJ6_bitCount_0f7a4 21 = .ok (.iand, 1) := by decide +kernel
theorem dJ6_bitCount_0f7a4_22 : decode cJ6_bitCount_0f7a4 22 = .ok (.iadd, 1) := by decide +kernel
theorem dJ6_bitCount_0f7a4_23 : decode cJ6_bitCount_0f7a4 23 = .ok (.istore_n 0, 1) := by decide +kernel
theorem dJ6_bitCount_0f7a4_24 : decode cJ6_bitCount_0f7a4 24 = .ok (.iload_n 0, 1) := by decide +kernel
theorem dJ6_bitCount_0f7a4_25 : decode cJ6_bitCount_0f7a4 25 = .ok (.iload_n 0, 1) := by decide +kernel
theorem dJ6_bitCount_0f7a4_26 : decode cJ6_bitCount_0f7a4 26 = .ok (.iconst 4, 1) := by decide +kernel
theorem dJ6_bitCount_0f7a4_27 : decode cJ6_bitCount_0f7a4 27 = .ok (.iushr, 1) := by decide +kernel
theorem dJ6_bitCount_0f7a4_28 : decode cJ6_bitCount_0f7a4 28 = .ok (.iadd, 1) := by decide +kernel
theorem dJ6_bitCount_0f7a4_29 : decode cJ6_bitCount_0f7a4 29 = .ok (.ldc_w 267, 3) := by decide +kernel
theorem dJ6_bitCount_0f7a4_32 : decode cJ6_bitCount_0f7a4 32 = .ok (.iand, 1) := by decide +kernel
theorem dJ6_bitCount_0f7a4_33 : decode cJ6_bitCount_0f7a4 33 = .ok (.istore_n 0, 1) := by decide +kernel
theorem dJ6_bitCount_0f7a4_34 : decode cJ6_bitCount_0f7a4 34 = .ok (.iload_n 0, 1) := by decide +kernel
theorem dJ6_bitCount_0f7a4_35 : decode cJ6_bitCount_0f7a4 35 = .ok (.iload_n 0, 1) := by decide +kernel
theorem dJ6_bitCount_0f7a4_36 : decode cJ6_bitCount_0f7a4 36 = .ok (.bipush 8, 2) := by decide +kernel
theorem dJ6_bitCount_0f7a4_38 : decode cJ6_bitCount_0f7a4 38 = .ok (.iushr, 1) := by decide +kernel
theorem dJ6_bitCount_0f7a4_39 : decode cJ6_bitCount_0f7a4 39 = .ok (.iadd, 1) := by decide +kernel
theorem dJ6_bitCount_0f7a4_40 : decode cJ6_bitCount_0f7a4 40 = .ok (.istore_n 0, 1) := by decide +kernel
theorem dJ6_bitCount_0f7a4_41 : decode cJ6_bitCount_0f7a4 41 = .ok (.iload_n 0, 1) := by decide +kernel
theorem dJ6_bitCount_0f7a4_42 : decode cJ6_bitCount_0f7a4 42 = .ok (.iload_n 0, 1) := by decide +kernel
theorem dJ6_bitCount_0f7a4_43 : decode cJ6_bitCount_0f7a4 43 = .ok (.bipush 16, 2) := by decide +kernel
theorem dJ6_bitCount_0f7a4_45 : decode cJ6_bitCount_0f7a4 45 = .ok (.iushr, 1) := by decide +kernel
theorem dJ6_bitCount_0f7a4_46 : decode cJ6_bitCount_0f7a4 46 = .ok (.iadd, 1) := by decide +kernel
theorem dJ6_bitCount_0f7a4_47 : decode cJ6_bitCount_0f7a4 47 = .ok (.istore_n 0, 1) := by decide +kernel
theorem dJ6_bitCount_0f7a4_48 : decode cJ6_bitCount_0f7a4 48 = .ok (.iload_n 0, 1) := by decide +kernel
theorem dJ6_bitCount_0f7a4_49 : decode cJ6_bitCount_0f7a4 49 = .ok (.bipush 63, 2) := by decide +kernel
theorem dJ6_bitCount_0f7a4_51 : decode cJ6_bitCount_0f7a4 51 = .ok (.iand, 1) := by decide +kernel
theorem dJ6_bitCount_0f7a4_52 : decode cJ6_bitCount_0f7a4 52 = .ok (.ireturn, 1) := by decide +kernel
def f_Post_reset (μ : me_M) : Option (me_M × Unit) :=
  me_lt (me_up μ 6 0 1 (0 : Int32)) (fun μ1 =>
  me_lt (me_up μ1 6 0 2 (0 : Int32)) (fun μ2 =>
  some (μ2, ())))
set_option maxHeartbeats 4000000 in
set_option maxRecDepth 100000 in
theorem z_Post_reset {X : me_X} {B : me_B} {sz : Nat} (C : me_C X B RX6 cX6_reset 1 none) {μ : me_M}    {r : me_M × Unit} (N : me_En X B sz (B, r.1, .ok (none)) 0 0 0 0) (hNx : me_Nx X) (hB : me_St B)   (hf : f_Post_reset μ = some r) : me_Z X B 0 0 μ 0 [(0, me_r 6 0)] [] := by
  unfold f_Post_reset at hf
  refine me_aload_n C 0 (Or.inr (Or.inl ⟨_, rfl⟩)) dX6_reset_0 rfl rfl ?_
  refine me_iconst C (v := 0) dX6_reset_1 (by decide) ?_
  obtain ⟨μ1, e_μ1, hf⟩ := me_lts hf
  refine me_puti C 1 fw_Post_20 dX6_reset_2 rfl (me_nri _) e_μ1 ?_
  refine me_aload_n C 0 (Or.inr (Or.inl ⟨_, rfl⟩)) dX6_reset_5 rfl rfl ?_
  refine me_iconst C (v := 0) dX6_reset_6 (by decide) ?_
  obtain ⟨μ2, e_μ2, hf⟩ := me_lts hf
  refine me_puti C 2 fw_Post_24 dX6_reset_7 rfl (me_nri _) e_μ2 ?_
  exact me_vret C N dX6_reset_10 (by cases hf; rfl) (by decide) (by decide)
theorem c_Post_reset {B : me_B} (hB : me_St B) {μ : me_M}  {μ' : me_M} {r : Unit}  (hf : f_Post_reset μ = some (μ', r)) : ∀ l E z, l.stackTraces = false → me_Met l yX6_reset cX6_reset 1 none 0 0 0 0 E B μ z [me_r 6 0] (B, μ', .ok (none)) :=
  fun _ _ _ hl => me_ofZ hl (by decide +kernel) (Nat.le_of_ble_eq_true rfl) (fun _ C N hNx => z_Post_reset C N hNx hB  hf)

def f_Post_hasRoom (μ : me_M) (v1 : Int32) : Option Int32 :=
  if (200 : Int32) < (((μ 6 0 1) + (μ 6 0 2)) + v1) then
  (some (0 : Int32))
  else
  (some (1 : Int32))
set_option maxHeartbeats 4000000 in
set_option maxRecDepth 100000 in
theorem z_Post_hasRoom {X : me_X} {B : me_B} {sz : Nat} (C : me_C X B RX6 cX6_hasRoom 2 (some .boolean)) {μ : me_M} {v1 : Int32}   {r : Int32} (N : me_En X B sz (B, μ, .ok (some (me_i r))) 0 0 0 0) (hNx : me_Nx X) (hB : me_St B)   (hf : f_Post_hasRoom μ v1 = some r) : me_Z X B 0 0 μ 0 [(0, me_r 6 0), (1, me_i v1)] [] := by
  unfold f_Post_hasRoom at hf
  refine me_aload_n C 0 (Or.inr (Or.inl ⟨_, rfl⟩)) dX6_hasRoom_0 rfl rfl ?_
  refine me_geti C 1 fg_Post_20 dX6_hasRoom_1 rfl ?_
  refine me_aload_n C 0 (Or.inr (Or.inl ⟨_, rfl⟩)) dX6_hasRoom_4 rfl rfl ?_
  refine me_geti C 2 fg_Post_24 dX6_hasRoom_5 rfl ?_
  refine me_iadd C dX6_hasRoom_8 ?_
  refine me_iload_n C 1 dX6_hasRoom_9 rfl rfl ?_
  refine me_iadd C dX6_hasRoom_10 ?_
  refine me_sipush C (v := 200) dX6_hasRoom_11 (by decide) ?_
  refine me_icmp_gt C (tgt := 21) dX6_hasRoom_14 (by decide) (fun c1 => ?_) (fun c1 => ?_)
  · replace hf := me_ip c1 hf
    refine me_iconst C (v := 0) dX6_hasRoom_21 (by decide) ?_
    exact me_iret C N dX6_hasRoom_22 (by decide +kernel) (by cases hf; rfl) (by decide) (by decide)
  · replace hf := me_in c1 hf
    refine me_iconst C (v := 1) dX6_hasRoom_17 (by decide) ?_
    refine me_goto C (tgt := 22) dX6_hasRoom_18 (by decide) ?_
    exact me_iret C N dX6_hasRoom_22 (by decide +kernel) (by cases hf; rfl) (by decide) (by decide)
theorem c_Post_hasRoom {B : me_B} (hB : me_St B) {μ : me_M} {v1 : Int32} {r : Int32}  (hf : f_Post_hasRoom μ v1 = some r) : ∀ l E z, l.stackTraces = false → me_Met l yX6_hasRoom cX6_hasRoom 2 (some .boolean) 0 0 0 0 E B μ z [me_r 6 0, me_i v1] (B, μ, .ok (some (me_i r))) :=
  fun _ _ _ hl => me_ofZ hl (by decide +kernel) (Nat.le_of_ble_eq_true rfl) (fun _ C N hNx => z_Post_hasRoom C N hNx hB  hf)

def f_Post_liesAt (μ : me_M) (v1 : Nat) (v2 : Int32) (v3 : Int32) : Option Int32 :=
  if (μ 8 v1 1) = (109 : Int32) then
  (if (μ 8 v1 2) = (100 : Int32) then
  (if (μ 8 v1 4) = v2 then
  (if (μ 8 v1 3) = v3 then
  (some (1 : Int32))
  else
  (some (0 : Int32)))
  else
  (some (0 : Int32)))
  else
  (some (0 : Int32)))
  else
  (some (0 : Int32))
set_option maxHeartbeats 4000000 in
set_option maxRecDepth 100000 in
theorem z_Post_liesAt {X : me_X} {B : me_B} {sz : Nat} (C : me_C X B RX6 cX6_liesAt 4 (some .boolean)) {μ : me_M} {v1 : Nat} {v2 : Int32} {v3 : Int32}   {r : Int32} (N : me_En X B sz (B, μ, .ok (some (me_i r))) 0 0 0 0) (hNx : me_Nx X) (hB : me_St B)   (hf : f_Post_liesAt μ v1 v2 v3 = some r) : me_Z X B 0 0 μ 0 [(0, me_r 6 0), (1, me_r 8 v1), (2, me_i v2), (3, me_i v3)] [] := by
  unfold f_Post_liesAt at hf
  refine me_aload_n C 1 (Or.inr (Or.inl ⟨_, rfl⟩)) dX6_liesAt_0 rfl rfl ?_
  refine me_geti C 1 fg_Post_27 dX6_liesAt_1 rfl ?_
  refine me_bipush C (v := 109) dX6_liesAt_4 (by decide) ?_
  refine me_icmp_ne C (tgt := 38) dX6_liesAt_6 (by decide) (fun c1 => ?_) (fun c1 => ?_)
  · replace hf := me_in c1 hf
    refine me_iconst C (v := 0) dX6_liesAt_38 (by decide) ?_
    exact me_iret C N dX6_liesAt_39 (by decide +kernel) (by cases hf; rfl) (by decide) (by decide)
  · replace hf := me_ip c1 hf
    refine me_aload_n C 1 (Or.inr (Or.inl ⟨_, rfl⟩)) dX6_liesAt_9 rfl rfl ?_
    refine me_geti C 2 fg_Post_31 dX6_liesAt_10 rfl ?_
    refine me_bipush C (v := 100) dX6_liesAt_13 (by decide) ?_
    refine me_icmp_ne C (tgt := 38) dX6_liesAt_15 (by decide) (fun c2 => ?_) (fun c2 => ?_)
    · replace hf := me_in c2 hf
      refine me_iconst C (v := 0) dX6_liesAt_38 (by decide) ?_
      exact me_iret C N dX6_liesAt_39 (by decide +kernel) (by cases hf; rfl) (by decide) (by decide)
    · replace hf := me_ip c2 hf
      refine me_aload_n C 1 (Or.inr (Or.inl ⟨_, rfl⟩)) dX6_liesAt_18 rfl rfl ?_
      refine me_geti C 4 fg_Post_37 dX6_liesAt_19 rfl ?_
      refine me_iload_n C 2 dX6_liesAt_22 rfl rfl ?_
      refine me_icmp_ne C (tgt := 38) dX6_liesAt_23 (by decide) (fun c3 => ?_) (fun c3 => ?_)
      · replace hf := me_in c3 hf
        refine me_iconst C (v := 0) dX6_liesAt_38 (by decide) ?_
        exact me_iret C N dX6_liesAt_39 (by decide +kernel) (by cases hf; rfl) (by decide) (by decide)
      · replace hf := me_ip c3 hf
        refine me_aload_n C 1 (Or.inr (Or.inl ⟨_, rfl⟩)) dX6_liesAt_26 rfl rfl ?_
        refine me_geti C 3 fg_Post_34 dX6_liesAt_27 rfl ?_
        refine me_iload_n C 3 dX6_liesAt_30 rfl rfl ?_
        refine me_icmp_ne C (tgt := 38) dX6_liesAt_31 (by decide) (fun c4 => ?_) (fun c4 => ?_)
        · replace hf := me_in c4 hf
          refine me_iconst C (v := 0) dX6_liesAt_38 (by decide) ?_
          exact me_iret C N dX6_liesAt_39 (by decide +kernel) (by cases hf; rfl) (by decide) (by decide)
        · replace hf := me_ip c4 hf
          refine me_iconst C (v := 1) dX6_liesAt_34 (by decide) ?_
          refine me_goto C (tgt := 39) dX6_liesAt_35 (by decide) ?_
          exact me_iret C N dX6_liesAt_39 (by decide +kernel) (by cases hf; rfl) (by decide) (by decide)
theorem c_Post_liesAt {B : me_B} (hB : me_St B) {μ : me_M} {v1 : Nat} {v2 : Int32} {v3 : Int32} {r : Int32}  (hf : f_Post_liesAt μ v1 v2 v3 = some r) : ∀ l E z, l.stackTraces = false → me_Met l yX6_liesAt cX6_liesAt 4 (some .boolean) 0 0 0 0 E B μ z [me_r 6 0, me_r 8 v1, me_i v2, me_i v3] (B, μ, .ok (some (me_i r))) :=
  fun _ _ _ hl => me_ofZ hl (by decide +kernel) (Nat.le_of_ble_eq_true rfl) (fun _ C N hNx => z_Post_liesAt C N hNx hB  hf)

def f_Post_countLying_b5 (μ : me_M) (K5 : Int32 → Int32 → Int32 → Int32 → Option Int32) (v1 : Int32) (v2 : Int32) (v3 : Int32) (v4 : Int32) : Option Int32 :=
  if (μ 6 0 1) ≤ v4 then
  (some v3)
  else
  (me_gd (me_inb v4 200) (
  me_bd (f_Post_liesAt μ (me_ix v4) v1 v2) (fun r3 =>
  if r3 = 0 then
  (me_lt (me_inc v4 (1)) (fun x5 =>
  K5 v1 v2 v3 x5))
  else
  (me_lt (me_inc v3 (1)) (fun x6 =>
  me_lt (me_inc v4 (1)) (fun x7 =>
  K5 v1 v2 x6 x7))))))
set_option maxHeartbeats 4000000 in
set_option maxRecDepth 100000 in
theorem z_Post_countLying_b5 {X : me_X} {B : me_B} {sz : Nat} (C : me_C X B RX6 cX6_countLying 5 (some .int)) {μ : me_M} {v1 : Int32} {v2 : Int32} {v3 : Int32} {v4 : Int32}  {K5 : Int32 → Int32 → Int32 → Int32 → Option Int32} {r : Int32} (N : me_En X B sz (B, μ, .ok (some (me_i r))) 1 23 0 0) (hNx : me_Nx X) (hB : me_St B) (hK5 : ∀ (v1 : Int32) (v2 : Int32) (v3 : Int32) (v4 : Int32), K5 v1 v2 v3 v4 = some r → me_Z X B 0 0 μ 5 [(0, me_r 6 0), (1, me_i v1), (2, me_i v2), (3, me_i v3), (4, me_i v4)] [])  (hf : f_Post_countLying_b5 μ K5 v1 v2 v3 v4 = some r) : me_Z X B 0 0 μ 5 [(0, me_r 6 0), (1, me_i v1), (2, me_i v2), (3, me_i v3), (4, me_i v4)] [] := by
  unfold f_Post_countLying_b5 at hf
  refine me_iload C dX6_countLying_5 rfl ?_
  refine me_aload_n C 0 (Or.inr (Or.inl ⟨_, rfl⟩)) dX6_countLying_7 rfl rfl ?_
  refine me_geti C 1 fg_Post_20 dX6_countLying_8 rfl ?_
  refine me_icmp_ge C (tgt := 39) dX6_countLying_11 (by decide) (fun c1 => ?_) (fun c1 => ?_)
  · replace hf := me_ip c1 hf
    refine me_iload_n C 3 dX6_countLying_39 rfl rfl ?_
    exact me_iret C N dX6_countLying_40 (me_nri _) (by cases hf; rfl) (by decide) (by decide)
  · replace hf := me_in c1 hf
    refine me_aload_n C 0 (Or.inr (Or.inl ⟨_, rfl⟩)) dX6_countLying_14 rfl rfl ?_
    refine me_aload_n C 0 (Or.inr (Or.inl ⟨_, rfl⟩)) dX6_countLying_15 rfl rfl ?_
    refine me_getr C hB 0 (k' := 7) (i' := 0) fg_Post_11 dX6_countLying_16 rfl rfl ?_
    refine me_iload C dX6_countLying_19 rfl ?_
    obtain ⟨g2, hf⟩ := me_gs hf
    refine me_aald C hB (k' := 8) (i' := (me_ix v4)) rfl (fun _ => rfl) rfl g2 dX6_countLying_21 rfl ?_
    refine me_iload_n C 1 dX6_countLying_22 rfl rfl ?_
    refine me_iload_n C 2 dX6_countLying_23 rfl rfl ?_
    obtain ⟨r3, h_r3, hf⟩ := me_bs hf
    refine me_callV C N  (As := [me_r 8 (me_ix v4), me_i v1, me_i v2]) (st := []) 0 0 (c_Post_liesAt hB h_r3) mv_Post_liesAt ml_Post_73 rfl rfl dX6_countLying_24 rfl rfl ⟨by decide, by decide⟩ ⟨by decide, by decide, by decide, by decide⟩ (Nat.le_of_ble_eq_true rfl) ?_
    refine me_if_eq C (tgt := 33) dX6_countLying_27 (by decide) (fun c4 => ?_) (fun c4 => ?_)
    · replace hf := me_ip c4 hf
      obtain ⟨x5, e_x5, hf⟩ := me_lts hf
      refine me_iinc C (v := x5) (L' := [(4, me_i x5), (0, me_r 6 0), (1, me_i v1), (2, me_i v2), (3, me_i v3)]) dX6_countLying_33 rfl e_x5.symm (by decide) rfl ?_
      refine me_goto C (tgt := 5) dX6_countLying_36 (by decide) ?_
      refine me_dropI [(0, me_r 6 0), (1, me_i v1), (2, me_i v2), (3, me_i v3), (4, me_i x5)] [1, 2, 3, 4, 0] rfl ?_
      exact hK5 v1 v2 v3 x5 hf
    · replace hf := me_in c4 hf
      obtain ⟨x6, e_x6, hf⟩ := me_lts hf
      refine me_iinc C (v := x6) (L' := [(3, me_i x6), (0, me_r 6 0), (1, me_i v1), (2, me_i v2), (4, me_i v4)]) dX6_countLying_30 rfl e_x6.symm (by decide) rfl ?_
      obtain ⟨x7, e_x7, hf⟩ := me_lts hf
      refine me_iinc C (v := x7) (L' := [(4, me_i x7), (3, me_i x6), (0, me_r 6 0), (1, me_i v1), (2, me_i v2)]) dX6_countLying_33 rfl e_x7.symm (by decide) rfl ?_
      refine me_goto C (tgt := 5) dX6_countLying_36 (by decide) ?_
      refine me_dropI [(0, me_r 6 0), (1, me_i v1), (2, me_i v2), (3, me_i x6), (4, me_i x7)] [2, 3, 4, 1, 0] rfl ?_
      exact hK5 v1 v2 x6 x7 hf
def f_Post_countLying_h5 (μ : me_M) : Nat → Int32 → Int32 → Int32 → Int32 → Option Int32
  | 0, _, _, _, _ => none
  | n + 1, v1, v2, v3, v4 => f_Post_countLying_b5 μ (f_Post_countLying_h5 μ n) v1 v2 v3 v4
set_option maxHeartbeats 4000000 in
set_option maxRecDepth 100000 in
theorem z_Post_countLying_h5 {X : me_X} {B : me_B} {sz : Nat} (C : me_C X B RX6 cX6_countLying 5 (some .int)) {μ : me_M}  {r : Int32} (N : me_En X B sz (B, μ, .ok (some (me_i r))) 1 23 0 0) (hNx : me_Nx X) (hB : me_St B)  : ∀ (n : Nat) (v1 : Int32) (v2 : Int32) (v3 : Int32) (v4 : Int32), f_Post_countLying_h5 μ n v1 v2 v3 v4 = some r → me_Z X B 0 0 μ 5 [(0, me_r 6 0), (1, me_i v1), (2, me_i v2), (3, me_i v3), (4, me_i v4)] [] := by
  intro n
  induction n with
  | zero => intro v1 v2 v3 v4  h; exact absurd (show (none : Option Int32) = some r from h) (fun q => by cases q)
  | succ n ih => intro v1 v2 v3 v4  h; exact z_Post_countLying_b5 C N hNx hB  (K5 := f_Post_countLying_h5 μ n) ih  h
def f_Post_countLying (μ : me_M) (v1 : Int32) (v2 : Int32) : Option Int32 :=
  f_Post_countLying_h5 μ me_FU v1 v2 (0 : Int32) (0 : Int32)
set_option maxHeartbeats 4000000 in
set_option maxRecDepth 100000 in
theorem z_Post_countLying {X : me_X} {B : me_B} {sz : Nat} (C : me_C X B RX6 cX6_countLying 5 (some .int)) {μ : me_M} {v1 : Int32} {v2 : Int32}   {r : Int32} (N : me_En X B sz (B, μ, .ok (some (me_i r))) 1 23 0 0) (hNx : me_Nx X) (hB : me_St B)   (hf : f_Post_countLying μ v1 v2 = some r) : me_Z X B 0 0 μ 0 [(0, me_r 6 0), (1, me_i v1), (2, me_i v2)] [] := by
  unfold f_Post_countLying at hf
  refine me_iconst C (v := 0) dX6_countLying_0 (by decide) ?_
  refine me_istore_n C 3 dX6_countLying_1 rfl (by decide) (L' := [(3, me_i (0 : Int32)), (0, me_r 6 0), (1, me_i v1), (2, me_i v2)]) rfl ?_
  refine me_iconst C (v := 0) dX6_countLying_2 (by decide) ?_
  refine me_istore C dX6_countLying_3 (by decide) (L' := [(4, me_i (0 : Int32)), (3, me_i (0 : Int32)), (0, me_r 6 0), (1, me_i v1), (2, me_i v2)]) rfl ?_
  refine me_dropI [(0, me_r 6 0), (1, me_i v1), (2, me_i v2), (3, me_i (0 : Int32)), (4, me_i (0 : Int32))] [2, 3, 4, 1, 0] rfl ?_
  exact z_Post_countLying_h5 C N hNx hB me_FU v1 v2 (0 : Int32) (0 : Int32) hf
theorem c_Post_countLying {B : me_B} (hB : me_St B) {μ : me_M} {v1 : Int32} {v2 : Int32} {r : Int32}  (hf : f_Post_countLying μ v1 v2 = some r) : ∀ l E z, l.stackTraces = false → me_Met l yX6_countLying cX6_countLying 5 (some .int) 1 23 0 0 E B μ z [me_r 6 0, me_i v1, me_i v2] (B, μ, .ok (some (me_i r))) :=
  fun _ _ _ hl => me_ofZ hl (by decide +kernel) (Nat.le_of_ble_eq_true rfl) (fun _ C N hNx => z_Post_countLying C N hNx hB  hf)

def f_Post_firstLying_b50 (μ : me_M) (K5 : Int32 → Int32 → Option Nat → Int32 → Option (Option Nat)) (v1 : Int32) (v2 : Int32) (v4 : Int32) (v5 : Nat) : Option (Option Nat) :=
  me_lt (me_inc v4 (1)) (fun x1 =>
  K5 v1 v2 (some v5) x1)
set_option maxHeartbeats 4000000 in
set_option maxRecDepth 100000 in
theorem z_Post_firstLying_b50 {X : me_X} {B : me_B} {sz : Nat} (C : me_C X B RX6 cX6_firstLying 6 (some (.object "Meshyard$Packet"))) {μ : me_M} {v1 : Int32} {v2 : Int32} {v4 : Int32} {v5 : Nat}  {K5 : Int32 → Int32 → Option Nat → Int32 → Option (Option Nat)} {r : Option Nat} (N : me_En X B sz (B, μ, .ok (some (me_q 8 r))) 1 23 0 0) (hNx : me_Nx X) (hB : me_St B) (hK5 : ∀ (v1 : Int32) (v2 : Int32) (v3 : Option Nat) (v4 : Int32), K5 v1 v2 v3 v4 = some r → me_Z X B 0 0 μ 5 [(0, me_r 6 0), (1, me_i v1), (2, me_i v2), (3, me_q 8 v3), (4, me_i v4)] [])  (hf : f_Post_firstLying_b50 μ K5 v1 v2 v4 v5 = some r) : me_Z X B 0 0 μ 50 [(0, me_r 6 0), (1, me_i v1), (2, me_i v2), (4, me_i v4), (5, me_r 8 v5)] [] := by
  unfold f_Post_firstLying_b50 at hf
  refine me_aload C (Or.inr (Or.inl ⟨_, rfl⟩)) dX6_firstLying_50 rfl ?_
  refine me_astore_n C 3 (Or.inr (Or.inl ⟨_, rfl⟩)) dX6_firstLying_52 rfl (by decide) (L' := [(3, me_r 8 v5), (0, me_r 6 0), (1, me_i v1), (2, me_i v2), (4, me_i v4), (5, me_r 8 v5)]) rfl ?_
  obtain ⟨x1, e_x1, hf⟩ := me_lts hf
  refine me_iinc C (v := x1) (L' := [(4, me_i x1), (3, me_r 8 v5), (0, me_r 6 0), (1, me_i v1), (2, me_i v2), (5, me_r 8 v5)]) dX6_firstLying_53 rfl e_x1.symm (by decide) rfl ?_
  refine me_goto C (tgt := 5) dX6_firstLying_56 (by decide) ?_
  refine me_dropI [(0, me_r 6 0), (1, me_i v1), (2, me_i v2), (3, me_q 8 (some v5)), (4, me_i x1)] [2, 3, 4, 1, 0] rfl ?_
  exact hK5 v1 v2 (some v5) x1 hf
def f_Post_firstLying_b5 (μ : me_M) (K5 : Int32 → Int32 → Option Nat → Int32 → Option (Option Nat)) (v1 : Int32) (v2 : Int32) (v3 : Option Nat) (v4 : Int32) : Option (Option Nat) :=
  if (μ 6 0 1) ≤ v4 then
  (me_oq v3
  (some none)
  (fun i2 => some (some i2)))
  else
  (me_gd (me_inb v4 200) (
  me_bd (f_Post_liesAt μ (me_ix v4) v1 v2) (fun r4 =>
  if r4 = 0 then
  (me_lt (me_inc v4 (1)) (fun x6 =>
  K5 v1 v2 v3 x6))
  else
  (me_oq v3
  (f_Post_firstLying_b50 μ K5 v1 v2 v4 (me_ix v4))
  (fun i7 => if (μ 8 i7 11) ≤ (μ 8 (me_ix v4) 11) then
  (me_lt (me_inc v4 (1)) (fun x9 =>
  K5 v1 v2 (some i7) x9))
  else
  (f_Post_firstLying_b50 μ K5 v1 v2 v4 (me_ix v4)))))))
set_option maxHeartbeats 4000000 in
set_option maxRecDepth 100000 in
theorem z_Post_firstLying_b5 {X : me_X} {B : me_B} {sz : Nat} (C : me_C X B RX6 cX6_firstLying 6 (some (.object "Meshyard$Packet"))) {μ : me_M} {v1 : Int32} {v2 : Int32} {v3 : Option Nat} {v4 : Int32}  {K5 : Int32 → Int32 → Option Nat → Int32 → Option (Option Nat)} {r : Option Nat} (N : me_En X B sz (B, μ, .ok (some (me_q 8 r))) 1 23 0 0) (hNx : me_Nx X) (hB : me_St B) (hK5 : ∀ (v1 : Int32) (v2 : Int32) (v3 : Option Nat) (v4 : Int32), K5 v1 v2 v3 v4 = some r → me_Z X B 0 0 μ 5 [(0, me_r 6 0), (1, me_i v1), (2, me_i v2), (3, me_q 8 v3), (4, me_i v4)] [])  (hf : f_Post_firstLying_b5 μ K5 v1 v2 v3 v4 = some r) : me_Z X B 0 0 μ 5 [(0, me_r 6 0), (1, me_i v1), (2, me_i v2), (3, me_q 8 v3), (4, me_i v4)] [] := by
  unfold f_Post_firstLying_b5 at hf
  refine me_iload C dX6_firstLying_5 rfl ?_
  refine me_aload_n C 0 (Or.inr (Or.inl ⟨_, rfl⟩)) dX6_firstLying_7 rfl rfl ?_
  refine me_geti C 1 fg_Post_20 dX6_firstLying_8 rfl ?_
  refine me_icmp_ge C (tgt := 59) dX6_firstLying_11 (by decide) (fun c1 => ?_) (fun c1 => ?_)
  · replace hf := me_ip c1 hf
    rcases v3 with _ | i2
    · replace hf := me_oqn hf
      refine me_aload_n C 3 (Or.inl rfl) dX6_firstLying_59 rfl rfl ?_
      exact me_aret C N (Or.inl rfl) dX6_firstLying_60 (by cases hf; rfl) (by decide) (by decide)
    · replace hf := me_oqs hf
      refine me_aload_n C 3 (Or.inr (Or.inl ⟨_, rfl⟩)) dX6_firstLying_59 rfl rfl ?_
      exact me_aret C N (Or.inr ⟨_, rfl⟩) dX6_firstLying_60 (by cases hf; rfl) (by decide) (by decide)
  · replace hf := me_in c1 hf
    refine me_aload_n C 0 (Or.inr (Or.inl ⟨_, rfl⟩)) dX6_firstLying_14 rfl rfl ?_
    refine me_getr C hB 0 (k' := 7) (i' := 0) fg_Post_11 dX6_firstLying_15 rfl rfl ?_
    refine me_iload C dX6_firstLying_18 rfl ?_
    obtain ⟨g3, hf⟩ := me_gs hf
    refine me_aald C hB (k' := 8) (i' := (me_ix v4)) rfl (fun _ => rfl) rfl g3 dX6_firstLying_20 rfl ?_
    refine me_astore C (Or.inr (Or.inl ⟨_, rfl⟩)) dX6_firstLying_21 (by decide) (L' := [(5, me_r 8 (me_ix v4)), (0, me_r 6 0), (1, me_i v1), (2, me_i v2), (3, me_q 8 v3), (4, me_i v4)]) (by cases v3 <;> rfl) ?_
    refine me_aload_n C 0 (Or.inr (Or.inl ⟨_, rfl⟩)) dX6_firstLying_23 rfl rfl ?_
    refine me_aload C (Or.inr (Or.inl ⟨_, rfl⟩)) dX6_firstLying_24 rfl ?_
    refine me_iload_n C 1 dX6_firstLying_26 rfl rfl ?_
    refine me_iload_n C 2 dX6_firstLying_27 rfl rfl ?_
    obtain ⟨r4, h_r4, hf⟩ := me_bs hf
    refine me_callV C N  (As := [me_r 8 (me_ix v4), me_i v1, me_i v2]) (st := []) 0 0 (c_Post_liesAt hB h_r4) mv_Post_liesAt ml_Post_73 rfl rfl dX6_firstLying_28 rfl rfl ⟨by decide, by decide⟩ ⟨by decide, by decide, by decide, by decide⟩ (Nat.le_of_ble_eq_true rfl) ?_
    refine me_if_eq C (tgt := 53) dX6_firstLying_31 (by decide) (fun c5 => ?_) (fun c5 => ?_)
    · replace hf := me_ip c5 hf
      obtain ⟨x6, e_x6, hf⟩ := me_lts hf
      refine me_iinc C (v := x6) (L' := [(4, me_i x6), (5, me_r 8 (me_ix v4)), (0, me_r 6 0), (1, me_i v1), (2, me_i v2), (3, me_q 8 v3)]) dX6_firstLying_53 rfl e_x6.symm (by decide) (by cases v3 <;> rfl) ?_
      refine me_goto C (tgt := 5) dX6_firstLying_56 (by decide) ?_
      refine me_dropI [(0, me_r 6 0), (1, me_i v1), (2, me_i v2), (3, me_q 8 v3), (4, me_i x6)] [2, 3, 4, 5, 0] rfl ?_
      exact hK5 v1 v2 v3 x6 hf
    · replace hf := me_in c5 hf
      rcases v3 with _ | i7
      · replace hf := me_oqn hf
        refine me_aload_n C 3 (Or.inl rfl) dX6_firstLying_34 rfl rfl ?_
        refine me_ifnull_n C (tgt := 50) dX6_firstLying_35 (by decide) ?_
        refine me_dropI [(0, me_r 6 0), (1, me_i v1), (2, me_i v2), (4, me_i v4), (5, me_r 8 (me_ix v4))] [1, 2, 3, 5, 0] rfl ?_
        exact z_Post_firstLying_b50 C N hNx hB hK5 hf
      · replace hf := me_oqs hf
        refine me_aload_n C 3 (Or.inr (Or.inl ⟨_, rfl⟩)) dX6_firstLying_34 rfl rfl ?_
        refine me_ifnull_r C dX6_firstLying_35 ?_
        refine me_aload C (Or.inr (Or.inl ⟨_, rfl⟩)) dX6_firstLying_38 rfl ?_
        refine me_geti C 11 fg_Post_58 dX6_firstLying_40 rfl ?_
        refine me_aload_n C 3 (Or.inr (Or.inl ⟨_, rfl⟩)) dX6_firstLying_43 rfl rfl ?_
        refine me_geti C 11 fg_Post_58 dX6_firstLying_44 rfl ?_
        refine me_icmp_ge C (tgt := 53) dX6_firstLying_47 (by decide) (fun c8 => ?_) (fun c8 => ?_)
        · replace hf := me_ip c8 hf
          obtain ⟨x9, e_x9, hf⟩ := me_lts hf
          refine me_iinc C (v := x9) (L' := [(4, me_i x9), (5, me_r 8 (me_ix v4)), (0, me_r 6 0), (1, me_i v1), (2, me_i v2), (3, me_r 8 i7)]) dX6_firstLying_53 rfl e_x9.symm (by decide) rfl ?_
          refine me_goto C (tgt := 5) dX6_firstLying_56 (by decide) ?_
          refine me_dropI [(0, me_r 6 0), (1, me_i v1), (2, me_i v2), (3, me_q 8 (some i7)), (4, me_i x9)] [2, 3, 4, 5, 0] rfl ?_
          exact hK5 v1 v2 (some i7) x9 hf
        · replace hf := me_in c8 hf
          refine me_dropI [(0, me_r 6 0), (1, me_i v1), (2, me_i v2), (4, me_i v4), (5, me_r 8 (me_ix v4))] [1, 2, 3, 5, 0] rfl ?_
          exact z_Post_firstLying_b50 C N hNx hB hK5 hf
def f_Post_firstLying_h5 (μ : me_M) : Nat → Int32 → Int32 → Option Nat → Int32 → Option (Option Nat)
  | 0, _, _, _, _ => none
  | n + 1, v1, v2, v3, v4 => f_Post_firstLying_b5 μ (f_Post_firstLying_h5 μ n) v1 v2 v3 v4
set_option maxHeartbeats 4000000 in
set_option maxRecDepth 100000 in
theorem z_Post_firstLying_h5 {X : me_X} {B : me_B} {sz : Nat} (C : me_C X B RX6 cX6_firstLying 6 (some (.object "Meshyard$Packet"))) {μ : me_M}  {r : Option Nat} (N : me_En X B sz (B, μ, .ok (some (me_q 8 r))) 1 23 0 0) (hNx : me_Nx X) (hB : me_St B)  : ∀ (n : Nat) (v1 : Int32) (v2 : Int32) (v3 : Option Nat) (v4 : Int32), f_Post_firstLying_h5 μ n v1 v2 v3 v4 = some r → me_Z X B 0 0 μ 5 [(0, me_r 6 0), (1, me_i v1), (2, me_i v2), (3, me_q 8 v3), (4, me_i v4)] [] := by
  intro n
  induction n with
  | zero => intro v1 v2 v3 v4  h; exact absurd (show (none : Option (Option Nat)) = some r from h) (fun q => by cases q)
  | succ n ih => intro v1 v2 v3 v4  h; exact z_Post_firstLying_b5 C N hNx hB  (K5 := f_Post_firstLying_h5 μ n) ih  h
def f_Post_firstLying (μ : me_M) (v1 : Int32) (v2 : Int32) : Option (Option Nat) :=
  f_Post_firstLying_h5 μ me_FU v1 v2 none (0 : Int32)
set_option maxHeartbeats 4000000 in
set_option maxRecDepth 100000 in
theorem z_Post_firstLying {X : me_X} {B : me_B} {sz : Nat} (C : me_C X B RX6 cX6_firstLying 6 (some (.object "Meshyard$Packet"))) {μ : me_M} {v1 : Int32} {v2 : Int32}   {r : Option Nat} (N : me_En X B sz (B, μ, .ok (some (me_q 8 r))) 1 23 0 0) (hNx : me_Nx X) (hB : me_St B)   (hf : f_Post_firstLying μ v1 v2 = some r) : me_Z X B 0 0 μ 0 [(0, me_r 6 0), (1, me_i v1), (2, me_i v2)] [] := by
  unfold f_Post_firstLying at hf
  refine me_null C dX6_firstLying_0 ?_
  refine me_astore_n C 3 (Or.inl rfl) dX6_firstLying_1 rfl (by decide) (L' := [(3, me_n), (0, me_r 6 0), (1, me_i v1), (2, me_i v2)]) rfl ?_
  refine me_iconst C (v := 0) dX6_firstLying_2 (by decide) ?_
  refine me_istore C dX6_firstLying_3 (by decide) (L' := [(4, me_i (0 : Int32)), (3, me_n), (0, me_r 6 0), (1, me_i v1), (2, me_i v2)]) rfl ?_
  refine me_dropI [(0, me_r 6 0), (1, me_i v1), (2, me_i v2), (3, me_q 8 none), (4, me_i (0 : Int32))] [2, 3, 4, 1, 0] rfl ?_
  exact z_Post_firstLying_h5 C N hNx hB me_FU v1 v2 none (0 : Int32) hf
theorem c_Post_firstLying {B : me_B} (hB : me_St B) {μ : me_M} {v1 : Int32} {v2 : Int32} {r : Option Nat}  (hf : f_Post_firstLying μ v1 v2 = some r) : ∀ l E z, l.stackTraces = false → me_Met l yX6_firstLying cX6_firstLying 6 (some (.object "Meshyard$Packet")) 1 23 0 0 E B μ z [me_r 6 0, me_i v1, me_i v2] (B, μ, .ok (some (me_q 8 r))) :=
  fun _ _ _ hl => me_ofZ hl (by decide +kernel) (Nat.le_of_ble_eq_true rfl) (fun _ C N hNx => z_Post_firstLying C N hNx hB  hf)

def f_Post_countLost_b4 (μ : me_M) (K4 : Int32 → Int32 → Option Int32) (v1 : Int32) (v2 : Int32) : Option Int32 :=
  if (μ 6 0 1) ≤ v2 then
  (some v1)
  else
  (me_gd (me_inb v2 200) (
  if (μ 8 (me_ix v2) 2) = (108 : Int32) then
  (me_lt (me_inc v1 (1)) (fun x5 =>
  me_lt (me_inc v2 (1)) (fun x6 =>
  K4 x5 x6)))
  else
  (me_lt (me_inc v2 (1)) (fun x4 =>
  K4 v1 x4))))
set_option maxHeartbeats 4000000 in
set_option maxRecDepth 100000 in
theorem z_Post_countLost_b4 {X : me_X} {B : me_B} {sz : Nat} (C : me_C X B RX6 cX6_countLost 3 (some .int)) {μ : me_M} {v1 : Int32} {v2 : Int32}  {K4 : Int32 → Int32 → Option Int32} {r : Int32} (N : me_En X B sz (B, μ, .ok (some (me_i r))) 0 0 0 0) (hNx : me_Nx X) (hB : me_St B) (hK4 : ∀ (v1 : Int32) (v2 : Int32), K4 v1 v2 = some r → me_Z X B 0 0 μ 4 [(0, me_r 6 0), (1, me_i v1), (2, me_i v2)] [])  (hf : f_Post_countLost_b4 μ K4 v1 v2 = some r) : me_Z X B 0 0 μ 4 [(0, me_r 6 0), (1, me_i v1), (2, me_i v2)] [] := by
  unfold f_Post_countLost_b4 at hf
  refine me_iload_n C 2 dX6_countLost_4 rfl rfl ?_
  refine me_aload_n C 0 (Or.inr (Or.inl ⟨_, rfl⟩)) dX6_countLost_5 rfl rfl ?_
  refine me_geti C 1 fg_Post_20 dX6_countLost_6 rfl ?_
  refine me_icmp_ge C (tgt := 35) dX6_countLost_9 (by decide) (fun c1 => ?_) (fun c1 => ?_)
  · replace hf := me_ip c1 hf
    refine me_iload_n C 1 dX6_countLost_35 rfl rfl ?_
    exact me_iret C N dX6_countLost_36 (me_nri _) (by cases hf; rfl) (by decide) (by decide)
  · replace hf := me_in c1 hf
    refine me_aload_n C 0 (Or.inr (Or.inl ⟨_, rfl⟩)) dX6_countLost_12 rfl rfl ?_
    refine me_getr C hB 0 (k' := 7) (i' := 0) fg_Post_11 dX6_countLost_13 rfl rfl ?_
    refine me_iload_n C 2 dX6_countLost_16 rfl rfl ?_
    obtain ⟨g2, hf⟩ := me_gs hf
    refine me_aald C hB (k' := 8) (i' := (me_ix v2)) rfl (fun _ => rfl) rfl g2 dX6_countLost_17 rfl ?_
    refine me_geti C 2 fg_Post_31 dX6_countLost_18 rfl ?_
    refine me_bipush C (v := 108) dX6_countLost_21 (by decide) ?_
    refine me_icmp_ne C (tgt := 29) dX6_countLost_23 (by decide) (fun c3 => ?_) (fun c3 => ?_)
    · replace hf := me_in c3 hf
      obtain ⟨x4, e_x4, hf⟩ := me_lts hf
      refine me_iinc C (v := x4) (L' := [(2, me_i x4), (0, me_r 6 0), (1, me_i v1)]) dX6_countLost_29 rfl e_x4.symm (by decide) rfl ?_
      refine me_goto C (tgt := 4) dX6_countLost_32 (by decide) ?_
      refine me_dropI [(0, me_r 6 0), (1, me_i v1), (2, me_i x4)] [1, 2, 0] rfl ?_
      exact hK4 v1 x4 hf
    · replace hf := me_ip c3 hf
      obtain ⟨x5, e_x5, hf⟩ := me_lts hf
      refine me_iinc C (v := x5) (L' := [(1, me_i x5), (0, me_r 6 0), (2, me_i v2)]) dX6_countLost_26 rfl e_x5.symm (by decide) rfl ?_
      obtain ⟨x6, e_x6, hf⟩ := me_lts hf
      refine me_iinc C (v := x6) (L' := [(2, me_i x6), (1, me_i x5), (0, me_r 6 0)]) dX6_countLost_29 rfl e_x6.symm (by decide) rfl ?_
      refine me_goto C (tgt := 4) dX6_countLost_32 (by decide) ?_
      refine me_dropI [(0, me_r 6 0), (1, me_i x5), (2, me_i x6)] [2, 1, 0] rfl ?_
      exact hK4 x5 x6 hf
def f_Post_countLost_h4 (μ : me_M) : Nat → Int32 → Int32 → Option Int32
  | 0, _, _ => none
  | n + 1, v1, v2 => f_Post_countLost_b4 μ (f_Post_countLost_h4 μ n) v1 v2
set_option maxHeartbeats 4000000 in
set_option maxRecDepth 100000 in
theorem z_Post_countLost_h4 {X : me_X} {B : me_B} {sz : Nat} (C : me_C X B RX6 cX6_countLost 3 (some .int)) {μ : me_M}  {r : Int32} (N : me_En X B sz (B, μ, .ok (some (me_i r))) 0 0 0 0) (hNx : me_Nx X) (hB : me_St B)  : ∀ (n : Nat) (v1 : Int32) (v2 : Int32), f_Post_countLost_h4 μ n v1 v2 = some r → me_Z X B 0 0 μ 4 [(0, me_r 6 0), (1, me_i v1), (2, me_i v2)] [] := by
  intro n
  induction n with
  | zero => intro v1 v2  h; exact absurd (show (none : Option Int32) = some r from h) (fun q => by cases q)
  | succ n ih => intro v1 v2  h; exact z_Post_countLost_b4 C N hNx hB  (K4 := f_Post_countLost_h4 μ n) ih  h
def f_Post_countLost (μ : me_M) : Option Int32 :=
  f_Post_countLost_h4 μ me_FU (0 : Int32) (0 : Int32)
set_option maxHeartbeats 4000000 in
set_option maxRecDepth 100000 in
theorem z_Post_countLost {X : me_X} {B : me_B} {sz : Nat} (C : me_C X B RX6 cX6_countLost 3 (some .int)) {μ : me_M}    {r : Int32} (N : me_En X B sz (B, μ, .ok (some (me_i r))) 0 0 0 0) (hNx : me_Nx X) (hB : me_St B)   (hf : f_Post_countLost μ = some r) : me_Z X B 0 0 μ 0 [(0, me_r 6 0)] [] := by
  unfold f_Post_countLost at hf
  refine me_iconst C (v := 0) dX6_countLost_0 (by decide) ?_
  refine me_istore_n C 1 dX6_countLost_1 rfl (by decide) (L' := [(1, me_i (0 : Int32)), (0, me_r 6 0)]) rfl ?_
  refine me_iconst C (v := 0) dX6_countLost_2 (by decide) ?_
  refine me_istore_n C 2 dX6_countLost_3 rfl (by decide) (L' := [(2, me_i (0 : Int32)), (1, me_i (0 : Int32)), (0, me_r 6 0)]) rfl ?_
  refine me_dropI [(0, me_r 6 0), (1, me_i (0 : Int32)), (2, me_i (0 : Int32))] [2, 1, 0] rfl ?_
  exact z_Post_countLost_h4 C N hNx hB me_FU (0 : Int32) (0 : Int32) hf
theorem c_Post_countLost {B : me_B} (hB : me_St B) {μ : me_M}  {r : Int32}  (hf : f_Post_countLost μ = some r) : ∀ l E z, l.stackTraces = false → me_Met l yX6_countLost cX6_countLost 3 (some .int) 0 0 0 0 E B μ z [me_r 6 0] (B, μ, .ok (some (me_i r))) :=
  fun _ _ _ hl => me_ofZ hl (by decide +kernel) (Nat.le_of_ble_eq_true rfl) (fun _ C N hNx => z_Post_countLost C N hNx hB  hf)

def f_Post_countDelivered_b4 (μ : me_M) (K4 : Int32 → Int32 → Option Int32) (v1 : Int32) (v2 : Int32) : Option Int32 :=
  if (μ 6 0 1) ≤ v2 then
  (some v1)
  else
  (me_gd (me_inb v2 200) (
  me_bd (f_Packet_wasDelivered μ (me_ix v2)) (fun r3 =>
  if r3 = 0 then
  (me_lt (me_inc v2 (1)) (fun x5 =>
  K4 v1 x5))
  else
  (me_lt (me_inc v1 (1)) (fun x6 =>
  me_lt (me_inc v2 (1)) (fun x7 =>
  K4 x6 x7))))))
set_option maxHeartbeats 4000000 in
set_option maxRecDepth 100000 in
theorem z_Post_countDelivered_b4 {X : me_X} {B : me_B} {sz : Nat} (C : me_C X B RX6 cX6_countDelivered 3 (some .int)) {μ : me_M} {v1 : Int32} {v2 : Int32}  {K4 : Int32 → Int32 → Option Int32} {r : Int32} (N : me_En X B sz (B, μ, .ok (some (me_i r))) 1 20 0 0) (hNx : me_Nx X) (hB : me_St B) (hK4 : ∀ (v1 : Int32) (v2 : Int32), K4 v1 v2 = some r → me_Z X B 0 0 μ 4 [(0, me_r 6 0), (1, me_i v1), (2, me_i v2)] [])  (hf : f_Post_countDelivered_b4 μ K4 v1 v2 = some r) : me_Z X B 0 0 μ 4 [(0, me_r 6 0), (1, me_i v1), (2, me_i v2)] [] := by
  unfold f_Post_countDelivered_b4 at hf
  refine me_iload_n C 2 dX6_countDelivered_4 rfl rfl ?_
  refine me_aload_n C 0 (Or.inr (Or.inl ⟨_, rfl⟩)) dX6_countDelivered_5 rfl rfl ?_
  refine me_geti C 1 fg_Post_20 dX6_countDelivered_6 rfl ?_
  refine me_icmp_ge C (tgt := 33) dX6_countDelivered_9 (by decide) (fun c1 => ?_) (fun c1 => ?_)
  · replace hf := me_ip c1 hf
    refine me_iload_n C 1 dX6_countDelivered_33 rfl rfl ?_
    exact me_iret C N dX6_countDelivered_34 (me_nri _) (by cases hf; rfl) (by decide) (by decide)
  · replace hf := me_in c1 hf
    refine me_aload_n C 0 (Or.inr (Or.inl ⟨_, rfl⟩)) dX6_countDelivered_12 rfl rfl ?_
    refine me_getr C hB 0 (k' := 7) (i' := 0) fg_Post_11 dX6_countDelivered_13 rfl rfl ?_
    refine me_iload_n C 2 dX6_countDelivered_16 rfl rfl ?_
    obtain ⟨g2, hf⟩ := me_gs hf
    refine me_aald C hB (k' := 8) (i' := (me_ix v2)) rfl (fun _ => rfl) rfl g2 dX6_countDelivered_17 rfl ?_
    obtain ⟨r3, h_r3, hf⟩ := me_bs hf
    refine me_callV C N  (As := []) (st := []) 0 0 (c_Packet_wasDelivered hB h_r3) mv_Packet_wasDelivered ml_Post_77 rfl rfl dX6_countDelivered_18 rfl rfl ⟨by decide, by decide⟩ ⟨by decide, by decide, by decide, by decide⟩ (Nat.le_of_ble_eq_true rfl) ?_
    refine me_if_eq C (tgt := 27) dX6_countDelivered_21 (by decide) (fun c4 => ?_) (fun c4 => ?_)
    · replace hf := me_ip c4 hf
      obtain ⟨x5, e_x5, hf⟩ := me_lts hf
      refine me_iinc C (v := x5) (L' := [(2, me_i x5), (0, me_r 6 0), (1, me_i v1)]) dX6_countDelivered_27 rfl e_x5.symm (by decide) rfl ?_
      refine me_goto C (tgt := 4) dX6_countDelivered_30 (by decide) ?_
      refine me_dropI [(0, me_r 6 0), (1, me_i v1), (2, me_i x5)] [1, 2, 0] rfl ?_
      exact hK4 v1 x5 hf
    · replace hf := me_in c4 hf
      obtain ⟨x6, e_x6, hf⟩ := me_lts hf
      refine me_iinc C (v := x6) (L' := [(1, me_i x6), (0, me_r 6 0), (2, me_i v2)]) dX6_countDelivered_24 rfl e_x6.symm (by decide) rfl ?_
      obtain ⟨x7, e_x7, hf⟩ := me_lts hf
      refine me_iinc C (v := x7) (L' := [(2, me_i x7), (1, me_i x6), (0, me_r 6 0)]) dX6_countDelivered_27 rfl e_x7.symm (by decide) rfl ?_
      refine me_goto C (tgt := 4) dX6_countDelivered_30 (by decide) ?_
      refine me_dropI [(0, me_r 6 0), (1, me_i x6), (2, me_i x7)] [2, 1, 0] rfl ?_
      exact hK4 x6 x7 hf
def f_Post_countDelivered_h4 (μ : me_M) : Nat → Int32 → Int32 → Option Int32
  | 0, _, _ => none
  | n + 1, v1, v2 => f_Post_countDelivered_b4 μ (f_Post_countDelivered_h4 μ n) v1 v2
set_option maxHeartbeats 4000000 in
set_option maxRecDepth 100000 in
theorem z_Post_countDelivered_h4 {X : me_X} {B : me_B} {sz : Nat} (C : me_C X B RX6 cX6_countDelivered 3 (some .int)) {μ : me_M}  {r : Int32} (N : me_En X B sz (B, μ, .ok (some (me_i r))) 1 20 0 0) (hNx : me_Nx X) (hB : me_St B)  : ∀ (n : Nat) (v1 : Int32) (v2 : Int32), f_Post_countDelivered_h4 μ n v1 v2 = some r → me_Z X B 0 0 μ 4 [(0, me_r 6 0), (1, me_i v1), (2, me_i v2)] [] := by
  intro n
  induction n with
  | zero => intro v1 v2  h; exact absurd (show (none : Option Int32) = some r from h) (fun q => by cases q)
  | succ n ih => intro v1 v2  h; exact z_Post_countDelivered_b4 C N hNx hB  (K4 := f_Post_countDelivered_h4 μ n) ih  h
def f_Post_countDelivered (μ : me_M) : Option Int32 :=
  f_Post_countDelivered_h4 μ me_FU (0 : Int32) (0 : Int32)
set_option maxHeartbeats 4000000 in
set_option maxRecDepth 100000 in
theorem z_Post_countDelivered {X : me_X} {B : me_B} {sz : Nat} (C : me_C X B RX6 cX6_countDelivered 3 (some .int)) {μ : me_M}    {r : Int32} (N : me_En X B sz (B, μ, .ok (some (me_i r))) 1 20 0 0) (hNx : me_Nx X) (hB : me_St B)   (hf : f_Post_countDelivered μ = some r) : me_Z X B 0 0 μ 0 [(0, me_r 6 0)] [] := by
  unfold f_Post_countDelivered at hf
  refine me_iconst C (v := 0) dX6_countDelivered_0 (by decide) ?_
  refine me_istore_n C 1 dX6_countDelivered_1 rfl (by decide) (L' := [(1, me_i (0 : Int32)), (0, me_r 6 0)]) rfl ?_
  refine me_iconst C (v := 0) dX6_countDelivered_2 (by decide) ?_
  refine me_istore_n C 2 dX6_countDelivered_3 rfl (by decide) (L' := [(2, me_i (0 : Int32)), (1, me_i (0 : Int32)), (0, me_r 6 0)]) rfl ?_
  refine me_dropI [(0, me_r 6 0), (1, me_i (0 : Int32)), (2, me_i (0 : Int32))] [2, 1, 0] rfl ?_
  exact z_Post_countDelivered_h4 C N hNx hB me_FU (0 : Int32) (0 : Int32) hf
theorem c_Post_countDelivered {B : me_B} (hB : me_St B) {μ : me_M}  {r : Int32}  (hf : f_Post_countDelivered μ = some r) : ∀ l E z, l.stackTraces = false → me_Met l yX6_countDelivered cX6_countDelivered 3 (some .int) 1 20 0 0 E B μ z [me_r 6 0] (B, μ, .ok (some (me_i r))) :=
  fun _ _ _ hl => me_ofZ hl (by decide +kernel) (Nat.le_of_ble_eq_true rfl) (fun _ C N hNx => z_Post_countDelivered C N hNx hB  hf)

def f_Post_sumOfTimes_b4 (μ : me_M) (K4 : Int32 → Int32 → Option Int32) (v1 : Int32) (v2 : Int32) : Option Int32 :=
  if (μ 6 0 1) ≤ v2 then
  (some v1)
  else
  (me_gd (me_inb v2 200) (
  me_bd (f_Packet_wasDelivered μ (me_ix v2)) (fun r3 =>
  if r3 = 0 then
  (me_lt (me_inc v2 (1)) (fun x5 =>
  K4 v1 x5))
  else
  (me_gd (me_inb v2 200) (
  me_bd (f_Packet_beatsTaken μ (me_ix v2)) (fun r7 =>
  me_lt ((v1 + r7)) (fun x8 =>
  me_lt (me_inc v2 (1)) (fun x9 =>
  K4 x8 x9))))))))
set_option maxHeartbeats 4000000 in
set_option maxRecDepth 100000 in
theorem z_Post_sumOfTimes_b4 {X : me_X} {B : me_B} {sz : Nat} (C : me_C X B RX6 cX6_sumOfTimes 3 (some .int)) {μ : me_M} {v1 : Int32} {v2 : Int32}  {K4 : Int32 → Int32 → Option Int32} {r : Int32} (N : me_En X B sz (B, μ, .ok (some (me_i r))) 1 20 0 0) (hNx : me_Nx X) (hB : me_St B) (hK4 : ∀ (v1 : Int32) (v2 : Int32), K4 v1 v2 = some r → me_Z X B 0 0 μ 4 [(0, me_r 6 0), (1, me_i v1), (2, me_i v2)] [])  (hf : f_Post_sumOfTimes_b4 μ K4 v1 v2 = some r) : me_Z X B 0 0 μ 4 [(0, me_r 6 0), (1, me_i v1), (2, me_i v2)] [] := by
  unfold f_Post_sumOfTimes_b4 at hf
  refine me_iload_n C 2 dX6_sumOfTimes_4 rfl rfl ?_
  refine me_aload_n C 0 (Or.inr (Or.inl ⟨_, rfl⟩)) dX6_sumOfTimes_5 rfl rfl ?_
  refine me_geti C 1 fg_Post_20 dX6_sumOfTimes_6 rfl ?_
  refine me_icmp_ge C (tgt := 42) dX6_sumOfTimes_9 (by decide) (fun c1 => ?_) (fun c1 => ?_)
  · replace hf := me_ip c1 hf
    refine me_iload_n C 1 dX6_sumOfTimes_42 rfl rfl ?_
    exact me_iret C N dX6_sumOfTimes_43 (me_nri _) (by cases hf; rfl) (by decide) (by decide)
  · replace hf := me_in c1 hf
    refine me_aload_n C 0 (Or.inr (Or.inl ⟨_, rfl⟩)) dX6_sumOfTimes_12 rfl rfl ?_
    refine me_getr C hB 0 (k' := 7) (i' := 0) fg_Post_11 dX6_sumOfTimes_13 rfl rfl ?_
    refine me_iload_n C 2 dX6_sumOfTimes_16 rfl rfl ?_
    obtain ⟨g2, hf⟩ := me_gs hf
    refine me_aald C hB (k' := 8) (i' := (me_ix v2)) rfl (fun _ => rfl) rfl g2 dX6_sumOfTimes_17 rfl ?_
    obtain ⟨r3, h_r3, hf⟩ := me_bs hf
    refine me_callV C N  (As := []) (st := []) 0 0 (c_Packet_wasDelivered hB h_r3) mv_Packet_wasDelivered ml_Post_77 rfl rfl dX6_sumOfTimes_18 rfl rfl ⟨by decide, by decide⟩ ⟨by decide, by decide, by decide, by decide⟩ (Nat.le_of_ble_eq_true rfl) ?_
    refine me_if_eq C (tgt := 36) dX6_sumOfTimes_21 (by decide) (fun c4 => ?_) (fun c4 => ?_)
    · replace hf := me_ip c4 hf
      obtain ⟨x5, e_x5, hf⟩ := me_lts hf
      refine me_iinc C (v := x5) (L' := [(2, me_i x5), (0, me_r 6 0), (1, me_i v1)]) dX6_sumOfTimes_36 rfl e_x5.symm (by decide) rfl ?_
      refine me_goto C (tgt := 4) dX6_sumOfTimes_39 (by decide) ?_
      refine me_dropI [(0, me_r 6 0), (1, me_i v1), (2, me_i x5)] [1, 2, 0] rfl ?_
      exact hK4 v1 x5 hf
    · replace hf := me_in c4 hf
      refine me_iload_n C 1 dX6_sumOfTimes_24 rfl rfl ?_
      refine me_aload_n C 0 (Or.inr (Or.inl ⟨_, rfl⟩)) dX6_sumOfTimes_25 rfl rfl ?_
      refine me_getr C hB 0 (k' := 7) (i' := 0) fg_Post_11 dX6_sumOfTimes_26 rfl rfl ?_
      refine me_iload_n C 2 dX6_sumOfTimes_29 rfl rfl ?_
      obtain ⟨g6, hf⟩ := me_gs hf
      refine me_aald C hB (k' := 8) (i' := (me_ix v2)) rfl (fun _ => rfl) rfl g6 dX6_sumOfTimes_30 rfl ?_
      obtain ⟨r7, h_r7, hf⟩ := me_bs hf
      refine me_callV C N  (As := []) (st := [me_i v1]) 0 0 (c_Packet_beatsTaken hB h_r7) mv_Packet_beatsTaken ml_Post_81 rfl rfl dX6_sumOfTimes_31 rfl rfl ⟨by decide, by decide⟩ ⟨by decide, by decide, by decide, by decide⟩ (Nat.le_of_ble_eq_true rfl) ?_
      refine me_iadd C dX6_sumOfTimes_34 ?_
      obtain ⟨x8, e_x8, hf⟩ := me_lts hf
      refine me_nm e_x8 ?_
      refine me_istore_n C 1 dX6_sumOfTimes_35 rfl (by decide) (L' := [(1, me_i x8), (0, me_r 6 0), (2, me_i v2)]) rfl ?_
      obtain ⟨x9, e_x9, hf⟩ := me_lts hf
      refine me_iinc C (v := x9) (L' := [(2, me_i x9), (1, me_i x8), (0, me_r 6 0)]) dX6_sumOfTimes_36 rfl e_x9.symm (by decide) rfl ?_
      refine me_goto C (tgt := 4) dX6_sumOfTimes_39 (by decide) ?_
      refine me_dropI [(0, me_r 6 0), (1, me_i x8), (2, me_i x9)] [2, 1, 0] rfl ?_
      exact hK4 x8 x9 hf
def f_Post_sumOfTimes_h4 (μ : me_M) : Nat → Int32 → Int32 → Option Int32
  | 0, _, _ => none
  | n + 1, v1, v2 => f_Post_sumOfTimes_b4 μ (f_Post_sumOfTimes_h4 μ n) v1 v2
set_option maxHeartbeats 4000000 in
set_option maxRecDepth 100000 in
theorem z_Post_sumOfTimes_h4 {X : me_X} {B : me_B} {sz : Nat} (C : me_C X B RX6 cX6_sumOfTimes 3 (some .int)) {μ : me_M}  {r : Int32} (N : me_En X B sz (B, μ, .ok (some (me_i r))) 1 20 0 0) (hNx : me_Nx X) (hB : me_St B)  : ∀ (n : Nat) (v1 : Int32) (v2 : Int32), f_Post_sumOfTimes_h4 μ n v1 v2 = some r → me_Z X B 0 0 μ 4 [(0, me_r 6 0), (1, me_i v1), (2, me_i v2)] [] := by
  intro n
  induction n with
  | zero => intro v1 v2  h; exact absurd (show (none : Option Int32) = some r from h) (fun q => by cases q)
  | succ n ih => intro v1 v2  h; exact z_Post_sumOfTimes_b4 C N hNx hB  (K4 := f_Post_sumOfTimes_h4 μ n) ih  h
def f_Post_sumOfTimes (μ : me_M) : Option Int32 :=
  f_Post_sumOfTimes_h4 μ me_FU (0 : Int32) (0 : Int32)
set_option maxHeartbeats 4000000 in
set_option maxRecDepth 100000 in
theorem z_Post_sumOfTimes {X : me_X} {B : me_B} {sz : Nat} (C : me_C X B RX6 cX6_sumOfTimes 3 (some .int)) {μ : me_M}    {r : Int32} (N : me_En X B sz (B, μ, .ok (some (me_i r))) 1 20 0 0) (hNx : me_Nx X) (hB : me_St B)   (hf : f_Post_sumOfTimes μ = some r) : me_Z X B 0 0 μ 0 [(0, me_r 6 0)] [] := by
  unfold f_Post_sumOfTimes at hf
  refine me_iconst C (v := 0) dX6_sumOfTimes_0 (by decide) ?_
  refine me_istore_n C 1 dX6_sumOfTimes_1 rfl (by decide) (L' := [(1, me_i (0 : Int32)), (0, me_r 6 0)]) rfl ?_
  refine me_iconst C (v := 0) dX6_sumOfTimes_2 (by decide) ?_
  refine me_istore_n C 2 dX6_sumOfTimes_3 rfl (by decide) (L' := [(2, me_i (0 : Int32)), (1, me_i (0 : Int32)), (0, me_r 6 0)]) rfl ?_
  refine me_dropI [(0, me_r 6 0), (1, me_i (0 : Int32)), (2, me_i (0 : Int32))] [2, 1, 0] rfl ?_
  exact z_Post_sumOfTimes_h4 C N hNx hB me_FU (0 : Int32) (0 : Int32) hf
theorem c_Post_sumOfTimes {B : me_B} (hB : me_St B) {μ : me_M}  {r : Int32}  (hf : f_Post_sumOfTimes μ = some r) : ∀ l E z, l.stackTraces = false → me_Met l yX6_sumOfTimes cX6_sumOfTimes 3 (some .int) 1 20 0 0 E B μ z [me_r 6 0] (B, μ, .ok (some (me_i r))) :=
  fun _ _ _ hl => me_ofZ hl (by decide +kernel) (Nat.le_of_ble_eq_true rfl) (fun _ C N hNx => z_Post_sumOfTimes C N hNx hB  hf)

def f_Row_reset (μ : me_M) (v0 : Nat) : Option (me_M × Unit) :=
  me_lt (me_up μ 17 v0 3 (0 : Int32)) (fun μ1 =>
  me_lt (me_up μ1 17 v0 5 (-1 : Int32)) (fun μ2 =>
  me_lt (me_up μ2 17 v0 6 (-1 : Int32)) (fun μ3 =>
  me_lt (me_up μ3 17 v0 7 (0 : Int32)) (fun μ4 =>
  some (μ4, ())))))
set_option maxHeartbeats 4000000 in
set_option maxRecDepth 100000 in
theorem z_Row_reset {X : me_X} {B : me_B} {sz : Nat} (C : me_C X B RX8 cX8_reset 1 none) {μ : me_M} {v0 : Nat}   {r : me_M × Unit} (N : me_En X B sz (B, r.1, .ok (none)) 0 0 0 0) (hNx : me_Nx X) (hB : me_St B)   (hf : f_Row_reset μ v0 = some r) : me_Z X B 0 0 μ 0 [(0, me_r 17 v0)] [] := by
  unfold f_Row_reset at hf
  refine me_aload_n C 0 (Or.inr (Or.inl ⟨_, rfl⟩)) dX8_reset_0 rfl rfl ?_
  refine me_iconst C (v := 0) dX8_reset_1 (by decide) ?_
  obtain ⟨μ1, e_μ1, hf⟩ := me_lts hf
  refine me_puti C 3 fw_Row_21 dX8_reset_2 rfl (me_nri _) e_μ1 ?_
  refine me_aload_n C 0 (Or.inr (Or.inl ⟨_, rfl⟩)) dX8_reset_5 rfl rfl ?_
  refine me_iconst C (v := -1) dX8_reset_6 (by decide) ?_
  obtain ⟨μ2, e_μ2, hf⟩ := me_lts hf
  refine me_puti C 5 fw_Row_25 dX8_reset_7 rfl (me_nri _) e_μ2 ?_
  refine me_aload_n C 0 (Or.inr (Or.inl ⟨_, rfl⟩)) dX8_reset_10 rfl rfl ?_
  refine me_iconst C (v := -1) dX8_reset_11 (by decide) ?_
  obtain ⟨μ3, e_μ3, hf⟩ := me_lts hf
  refine me_puti C 6 fw_Row_28 dX8_reset_12 rfl (me_nri _) e_μ3 ?_
  refine me_aload_n C 0 (Or.inr (Or.inl ⟨_, rfl⟩)) dX8_reset_15 rfl rfl ?_
  refine me_iconst C (v := 0) dX8_reset_16 (by decide) ?_
  obtain ⟨μ4, e_μ4, hf⟩ := me_lts hf
  refine me_puti C 7 fw_Row_31 dX8_reset_17 rfl (me_nri _) e_μ4 ?_
  exact me_vret C N dX8_reset_20 (by cases hf; rfl) (by decide) (by decide)
theorem c_Row_reset {B : me_B} (hB : me_St B) {μ : me_M} {v0 : Nat} {μ' : me_M} {r : Unit}  (hf : f_Row_reset μ v0 = some (μ', r)) : ∀ l E z, l.stackTraces = false → me_Met l yX8_reset cX8_reset 1 none 0 0 0 0 E B μ z [me_r 17 v0] (B, μ', .ok (none)) :=
  fun _ _ _ hl => me_ofZ hl (by decide +kernel) (Nat.le_of_ble_eq_true rfl) (fun _ C N hNx => z_Row_reset C N hNx hB  hf)

def f_Router_reset_b2 (K2 : me_M → Nat → Int32 → Option (me_M × Unit)) (μ : me_M) (v0 : Nat) (v1 : Int32) : Option (me_M × Unit) :=
  if (10 : Int32) ≤ v1 then
  (me_lt (me_up μ 16 v0 0 (0 : Int32)) (fun μ2 =>
  me_lt (me_up μ2 16 v0 1 (0 : Int32)) (fun μ3 =>
  me_lt (me_up μ3 13 v0 3 (1 : Int32)) (fun μ4 =>
  me_lt (me_up μ4 13 v0 4 (0 : Int32)) (fun μ5 =>
  some (μ5, ()))))))
  else
  (me_gd (me_inb v1 10) (
  me_b2 (f_Row_reset μ (10 * v0 + (me_ix v1))) (fun μ8 r7 =>
  me_gd (me_inb v1 10) (
  me_lt (me_up μ8 15 v0 (me_ix v1) (0 : Int32)) (fun μ10 =>
  me_lt (me_inc v1 (1)) (fun x11 =>
  K2 μ10 v0 x11))))))
set_option maxHeartbeats 4000000 in
set_option maxRecDepth 100000 in
theorem z_Router_reset_b2 {X : me_X} {B : me_B} {sz : Nat} (C : me_C X B RX7 cX7_reset 2 none) {μ : me_M} {v0 : Nat} {v1 : Int32}  {K2 : me_M → Nat → Int32 → Option (me_M × Unit)} {r : me_M × Unit} (N : me_En X B sz (B, r.1, .ok (none)) 1 20 0 0) (hNx : me_Nx X) (hB : me_St B) (hK2 : ∀ (μ : me_M) (v0 : Nat) (v1 : Int32), K2 μ v0 v1 = some r → me_Z X B 0 0 μ 2 [(0, me_r 13 v0), (1, me_i v1)] [])  (hf : f_Router_reset_b2 K2 μ v0 v1 = some r) : me_Z X B 0 0 μ 2 [(0, me_r 13 v0), (1, me_i v1)] [] := by
  unfold f_Router_reset_b2 at hf
  refine me_iload_n C 1 dX7_reset_2 rfl rfl ?_
  refine me_aload_n C 0 (Or.inr (Or.inl ⟨_, rfl⟩)) dX7_reset_3 rfl rfl ?_
  refine me_getr C hB 0 (k' := 14) (i' := v0) fg_Router_11 dX7_reset_4 rfl rfl ?_
  refine me_alen C (v := 10) rfl (Or.inr rfl) (fun _ => rfl) dX7_reset_7 (by decide) ?_
  refine me_icmp_ge C (tgt := 33) dX7_reset_8 (by decide) (fun c1 => ?_) (fun c1 => ?_)
  · replace hf := me_ip c1 hf
    refine me_aload_n C 0 (Or.inr (Or.inl ⟨_, rfl⟩)) dX7_reset_33 rfl rfl ?_
    refine me_getr C hB 2 (k' := 16) (i' := v0) fg_Router_21 dX7_reset_34 rfl rfl ?_
    refine me_iconst C (v := 0) dX7_reset_37 (by decide) ?_
    refine me_iconst C (v := 0) dX7_reset_38 (by decide) ?_
    obtain ⟨μ2, e_μ2, hf⟩ := me_lts hf
    refine me_iast C rfl (fun _ => rfl) (by decide +kernel) dX7_reset_39 e_μ2 ?_
    refine me_aload_n C 0 (Or.inr (Or.inl ⟨_, rfl⟩)) dX7_reset_40 rfl rfl ?_
    refine me_getr C hB 2 (k' := 16) (i' := v0) fg_Router_21 dX7_reset_41 rfl rfl ?_
    refine me_iconst C (v := 1) dX7_reset_44 (by decide) ?_
    refine me_iconst C (v := 0) dX7_reset_45 (by decide) ?_
    obtain ⟨μ3, e_μ3, hf⟩ := me_lts hf
    refine me_iast C rfl (fun _ => rfl) (by decide +kernel) dX7_reset_46 e_μ3 ?_
    refine me_aload_n C 0 (Or.inr (Or.inl ⟨_, rfl⟩)) dX7_reset_47 rfl rfl ?_
    refine me_iconst C (v := 1) dX7_reset_48 (by decide) ?_
    obtain ⟨μ4, e_μ4, hf⟩ := me_lts hf
    refine me_puti C 3 fw_Router_28 dX7_reset_49 rfl (by decide +kernel) e_μ4 ?_
    refine me_aload_n C 0 (Or.inr (Or.inl ⟨_, rfl⟩)) dX7_reset_52 rfl rfl ?_
    refine me_iconst C (v := 0) dX7_reset_53 (by decide) ?_
    obtain ⟨μ5, e_μ5, hf⟩ := me_lts hf
    refine me_puti C 4 fw_Router_32 dX7_reset_54 rfl (by decide +kernel) e_μ5 ?_
    exact me_vret C N dX7_reset_57 (by cases hf; rfl) (by decide) (by decide)
  · replace hf := me_in c1 hf
    refine me_aload_n C 0 (Or.inr (Or.inl ⟨_, rfl⟩)) dX7_reset_11 rfl rfl ?_
    refine me_getr C hB 0 (k' := 14) (i' := v0) fg_Router_11 dX7_reset_12 rfl rfl ?_
    refine me_iload_n C 1 dX7_reset_15 rfl rfl ?_
    obtain ⟨g6, hf⟩ := me_gs hf
    refine me_aald C hB (k' := 17) (i' := 10 * v0 + (me_ix v1)) rfl (fun _ => rfl) rfl g6 dX7_reset_16 rfl ?_
    obtain ⟨μ8, r7, h_r7, hf⟩ := me_bs2 hf
    refine me_callV0 C N  (As := []) (st := []) 0 0 (c_Row_reset hB h_r7) mv_Row_reset ml_Router_25 rfl rfl dX7_reset_17 rfl rfl ⟨by decide, by decide⟩ ⟨by decide, by decide, by decide, by decide⟩ (Nat.le_of_ble_eq_true rfl) ?_
    refine me_aload_n C 0 (Or.inr (Or.inl ⟨_, rfl⟩)) dX7_reset_20 rfl rfl ?_
    refine me_getr C hB 1 (k' := 15) (i' := v0) fg_Router_17 dX7_reset_21 rfl rfl ?_
    refine me_iload_n C 1 dX7_reset_24 rfl rfl ?_
    refine me_iconst C (v := 0) dX7_reset_25 (by decide) ?_
    obtain ⟨g9, hf⟩ := me_gs hf
    obtain ⟨μ10, e_μ10, hf⟩ := me_lts hf
    refine me_iast C rfl (fun _ => rfl) g9 dX7_reset_26 e_μ10 ?_
    obtain ⟨x11, e_x11, hf⟩ := me_lts hf
    refine me_iinc C (v := x11) (L' := [(1, me_i x11), (0, me_r 13 v0)]) dX7_reset_27 rfl e_x11.symm (by decide) rfl ?_
    refine me_goto C (tgt := 2) dX7_reset_30 (by decide) ?_
    refine me_dropI [(0, me_r 13 v0), (1, me_i x11)] [1, 0] rfl ?_
    exact hK2 μ10 v0 x11 hf
def f_Router_reset_h2  : Nat → me_M → Nat → Int32 → Option (me_M × Unit)
  | 0, _, _, _ => none
  | n + 1, μ, v0, v1 => f_Router_reset_b2 (f_Router_reset_h2 n) μ v0 v1
set_option maxHeartbeats 4000000 in
set_option maxRecDepth 100000 in
theorem z_Router_reset_h2 {X : me_X} {B : me_B} {sz : Nat} (C : me_C X B RX7 cX7_reset 2 none)  {r : me_M × Unit} (N : me_En X B sz (B, r.1, .ok (none)) 1 20 0 0) (hNx : me_Nx X) (hB : me_St B)  : ∀ (n : Nat) (μ : me_M) (v0 : Nat) (v1 : Int32), f_Router_reset_h2 n μ v0 v1 = some r → me_Z X B 0 0 μ 2 [(0, me_r 13 v0), (1, me_i v1)] [] := by
  intro n
  induction n with
  | zero => intro μ v0 v1  h; exact absurd (show (none : Option (me_M × Unit)) = some r from h) (fun q => by cases q)
  | succ n ih => intro μ v0 v1  h; exact z_Router_reset_b2 C N hNx hB  (K2 := f_Router_reset_h2 n) ih  h
def f_Router_reset (μ : me_M) (v0 : Nat) : Option (me_M × Unit) :=
  f_Router_reset_h2 me_FU μ v0 (0 : Int32)
set_option maxHeartbeats 4000000 in
set_option maxRecDepth 100000 in
theorem z_Router_reset {X : me_X} {B : me_B} {sz : Nat} (C : me_C X B RX7 cX7_reset 2 none) {μ : me_M} {v0 : Nat}   {r : me_M × Unit} (N : me_En X B sz (B, r.1, .ok (none)) 1 20 0 0) (hNx : me_Nx X) (hB : me_St B)   (hf : f_Router_reset μ v0 = some r) : me_Z X B 0 0 μ 0 [(0, me_r 13 v0)] [] := by
  unfold f_Router_reset at hf
  refine me_iconst C (v := 0) dX7_reset_0 (by decide) ?_
  refine me_istore_n C 1 dX7_reset_1 rfl (by decide) (L' := [(1, me_i (0 : Int32)), (0, me_r 13 v0)]) rfl ?_
  refine me_dropI [(0, me_r 13 v0), (1, me_i (0 : Int32))] [1, 0] rfl ?_
  exact z_Router_reset_h2 C N hNx hB me_FU μ v0 (0 : Int32) hf
theorem c_Router_reset {B : me_B} (hB : me_St B) {μ : me_M} {v0 : Nat} {μ' : me_M} {r : Unit}  (hf : f_Router_reset μ v0 = some (μ', r)) : ∀ l E z, l.stackTraces = false → me_Met l yX7_reset cX7_reset 2 none 1 20 0 0 E B μ z [me_r 13 v0] (B, μ', .ok (none)) :=
  fun _ _ _ hl => me_ofZ hl (by decide +kernel) (Nat.le_of_ble_eq_true rfl) (fun _ C N hNx => z_Router_reset C N hNx hB  hf)

def f_Router_setPlaces_b2 (K2 : me_M → Nat → Int32 → Int32 → Option (me_M × Unit)) (μ : me_M) (v0 : Nat) (v1 : Int32) (v2 : Int32) : Option (me_M × Unit) :=
  if (10 : Int32) ≤ v2 then
  (some (μ, ()))
  else
  (me_gd (me_inb v2 10) (
  me_lt (me_up μ 17 (10 * v0 + (me_ix v2)) 4 v1) (fun μ3 =>
  me_lt (me_inc v2 (1)) (fun x4 =>
  K2 μ3 v0 v1 x4))))
set_option maxHeartbeats 4000000 in
set_option maxRecDepth 100000 in
theorem z_Router_setPlaces_b2 {X : me_X} {B : me_B} {sz : Nat} (C : me_C X B RX7 cX7_setPlaces 3 none) {μ : me_M} {v0 : Nat} {v1 : Int32} {v2 : Int32}  {K2 : me_M → Nat → Int32 → Int32 → Option (me_M × Unit)} {r : me_M × Unit} (N : me_En X B sz (B, r.1, .ok (none)) 0 0 0 0) (hNx : me_Nx X) (hB : me_St B) (hK2 : ∀ (μ : me_M) (v0 : Nat) (v1 : Int32) (v2 : Int32), K2 μ v0 v1 v2 = some r → me_Z X B 0 0 μ 2 [(0, me_r 13 v0), (1, me_i v1), (2, me_i v2)] [])  (hf : f_Router_setPlaces_b2 K2 μ v0 v1 v2 = some r) : me_Z X B 0 0 μ 2 [(0, me_r 13 v0), (1, me_i v1), (2, me_i v2)] [] := by
  unfold f_Router_setPlaces_b2 at hf
  refine me_iload_n C 2 dX7_setPlaces_2 rfl rfl ?_
  refine me_aload_n C 0 (Or.inr (Or.inl ⟨_, rfl⟩)) dX7_setPlaces_3 rfl rfl ?_
  refine me_getr C hB 0 (k' := 14) (i' := v0) fg_Router_11 dX7_setPlaces_4 rfl rfl ?_
  refine me_alen C (v := 10) rfl (Or.inr rfl) (fun _ => rfl) dX7_setPlaces_7 (by decide) ?_
  refine me_icmp_ge C (tgt := 27) dX7_setPlaces_8 (by decide) (fun c1 => ?_) (fun c1 => ?_)
  · replace hf := me_ip c1 hf
    exact me_vret C N dX7_setPlaces_27 (by cases hf; rfl) (by decide) (by decide)
  · replace hf := me_in c1 hf
    refine me_aload_n C 0 (Or.inr (Or.inl ⟨_, rfl⟩)) dX7_setPlaces_11 rfl rfl ?_
    refine me_getr C hB 0 (k' := 14) (i' := v0) fg_Router_11 dX7_setPlaces_12 rfl rfl ?_
    refine me_iload_n C 2 dX7_setPlaces_15 rfl rfl ?_
    obtain ⟨g2, hf⟩ := me_gs hf
    refine me_aald C hB (k' := 17) (i' := 10 * v0 + (me_ix v2)) rfl (fun _ => rfl) rfl g2 dX7_setPlaces_16 rfl ?_
    refine me_iload_n C 1 dX7_setPlaces_17 rfl rfl ?_
    obtain ⟨μ3, e_μ3, hf⟩ := me_lts hf
    refine me_puti C 4 fw_Router_35 dX7_setPlaces_18 rfl (me_nri _) e_μ3 ?_
    obtain ⟨x4, e_x4, hf⟩ := me_lts hf
    refine me_iinc C (v := x4) (L' := [(2, me_i x4), (0, me_r 13 v0), (1, me_i v1)]) dX7_setPlaces_21 rfl e_x4.symm (by decide) rfl ?_
    refine me_goto C (tgt := 2) dX7_setPlaces_24 (by decide) ?_
    refine me_dropI [(0, me_r 13 v0), (1, me_i v1), (2, me_i x4)] [1, 2, 0] rfl ?_
    exact hK2 μ3 v0 v1 x4 hf
def f_Router_setPlaces_h2  : Nat → me_M → Nat → Int32 → Int32 → Option (me_M × Unit)
  | 0, _, _, _, _ => none
  | n + 1, μ, v0, v1, v2 => f_Router_setPlaces_b2 (f_Router_setPlaces_h2 n) μ v0 v1 v2
set_option maxHeartbeats 4000000 in
set_option maxRecDepth 100000 in
theorem z_Router_setPlaces_h2 {X : me_X} {B : me_B} {sz : Nat} (C : me_C X B RX7 cX7_setPlaces 3 none)  {r : me_M × Unit} (N : me_En X B sz (B, r.1, .ok (none)) 0 0 0 0) (hNx : me_Nx X) (hB : me_St B)  : ∀ (n : Nat) (μ : me_M) (v0 : Nat) (v1 : Int32) (v2 : Int32), f_Router_setPlaces_h2 n μ v0 v1 v2 = some r → me_Z X B 0 0 μ 2 [(0, me_r 13 v0), (1, me_i v1), (2, me_i v2)] [] := by
  intro n
  induction n with
  | zero => intro μ v0 v1 v2  h; exact absurd (show (none : Option (me_M × Unit)) = some r from h) (fun q => by cases q)
  | succ n ih => intro μ v0 v1 v2  h; exact z_Router_setPlaces_b2 C N hNx hB  (K2 := f_Router_setPlaces_h2 n) ih  h
def f_Router_setPlaces (μ : me_M) (v0 : Nat) (v1 : Int32) : Option (me_M × Unit) :=
  f_Router_setPlaces_h2 me_FU μ v0 v1 (0 : Int32)
set_option maxHeartbeats 4000000 in
set_option maxRecDepth 100000 in
theorem z_Router_setPlaces {X : me_X} {B : me_B} {sz : Nat} (C : me_C X B RX7 cX7_setPlaces 3 none) {μ : me_M} {v0 : Nat} {v1 : Int32}   {r : me_M × Unit} (N : me_En X B sz (B, r.1, .ok (none)) 0 0 0 0) (hNx : me_Nx X) (hB : me_St B)   (hf : f_Router_setPlaces μ v0 v1 = some r) : me_Z X B 0 0 μ 0 [(0, me_r 13 v0), (1, me_i v1)] [] := by
  unfold f_Router_setPlaces at hf
  refine me_iconst C (v := 0) dX7_setPlaces_0 (by decide) ?_
  refine me_istore_n C 2 dX7_setPlaces_1 rfl (by decide) (L' := [(2, me_i (0 : Int32)), (0, me_r 13 v0), (1, me_i v1)]) rfl ?_
  refine me_dropI [(0, me_r 13 v0), (1, me_i v1), (2, me_i (0 : Int32))] [1, 2, 0] rfl ?_
  exact z_Router_setPlaces_h2 C N hNx hB me_FU μ v0 v1 (0 : Int32) hf
theorem c_Router_setPlaces {B : me_B} (hB : me_St B) {μ : me_M} {v0 : Nat} {v1 : Int32} {μ' : me_M} {r : Unit}  (hf : f_Router_setPlaces μ v0 v1 = some (μ', r)) : ∀ l E z, l.stackTraces = false → me_Met l yX7_setPlaces cX7_setPlaces 3 none 0 0 0 0 E B μ z [me_r 13 v0, me_i v1] (B, μ', .ok (none)) :=
  fun _ _ _ hl => me_ofZ hl (by decide +kernel) (Nat.le_of_ble_eq_true rfl) (fun _ C N hNx => z_Router_setPlaces C N hNx hB  hf)

def f_Router_isIdle_b2 (μ : me_M) (K2 : Nat → Int32 → Option Int32) (v0 : Nat) (v1 : Int32) : Option Int32 :=
  if (10 : Int32) ≤ v1 then
  (some (1 : Int32))
  else
  (me_gd (me_inb v1 10) (
  if 0 < (μ 17 (10 * v0 + (me_ix v1)) 3) then
  (some (0 : Int32))
  else
  (me_gd (me_inb v1 10) (
  if (μ 17 (10 * v0 + (me_ix v1)) 5) = (-1 : Int32) then
  (me_lt (me_inc v1 (1)) (fun x6 =>
  K2 v0 x6))
  else
  (some (0 : Int32))))))
set_option maxHeartbeats 4000000 in
set_option maxRecDepth 100000 in
theorem z_Router_isIdle_b2 {X : me_X} {B : me_B} {sz : Nat} (C : me_C X B RX7 cX7_isIdle 2 (some .boolean)) {μ : me_M} {v0 : Nat} {v1 : Int32}  {K2 : Nat → Int32 → Option Int32} {r : Int32} (N : me_En X B sz (B, μ, .ok (some (me_i r))) 0 0 0 0) (hNx : me_Nx X) (hB : me_St B) (hK2 : ∀ (v0 : Nat) (v1 : Int32), K2 v0 v1 = some r → me_Z X B 0 0 μ 2 [(0, me_r 13 v0), (1, me_i v1)] [])  (hf : f_Router_isIdle_b2 μ K2 v0 v1 = some r) : me_Z X B 0 0 μ 2 [(0, me_r 13 v0), (1, me_i v1)] [] := by
  unfold f_Router_isIdle_b2 at hf
  refine me_iload_n C 1 dX7_isIdle_2 rfl rfl ?_
  refine me_aload_n C 0 (Or.inr (Or.inl ⟨_, rfl⟩)) dX7_isIdle_3 rfl rfl ?_
  refine me_getr C hB 0 (k' := 14) (i' := v0) fg_Router_11 dX7_isIdle_4 rfl rfl ?_
  refine me_alen C (v := 10) rfl (Or.inr rfl) (fun _ => rfl) dX7_isIdle_7 (by decide) ?_
  refine me_icmp_ge C (tgt := 44) dX7_isIdle_8 (by decide) (fun c1 => ?_) (fun c1 => ?_)
  · replace hf := me_ip c1 hf
    refine me_iconst C (v := 1) dX7_isIdle_44 (by decide) ?_
    exact me_iret C N dX7_isIdle_45 (by decide +kernel) (by cases hf; rfl) (by decide) (by decide)
  · replace hf := me_in c1 hf
    refine me_aload_n C 0 (Or.inr (Or.inl ⟨_, rfl⟩)) dX7_isIdle_11 rfl rfl ?_
    refine me_getr C hB 0 (k' := 14) (i' := v0) fg_Router_11 dX7_isIdle_12 rfl rfl ?_
    refine me_iload_n C 1 dX7_isIdle_15 rfl rfl ?_
    obtain ⟨g2, hf⟩ := me_gs hf
    refine me_aald C hB (k' := 17) (i' := 10 * v0 + (me_ix v1)) rfl (fun _ => rfl) rfl g2 dX7_isIdle_16 rfl ?_
    refine me_geti C 3 fg_Router_39 dX7_isIdle_17 rfl ?_
    refine me_if_gt C (tgt := 36) dX7_isIdle_20 (by decide) (fun c3 => ?_) (fun c3 => ?_)
    · replace hf := me_ip c3 hf
      refine me_iconst C (v := 0) dX7_isIdle_36 (by decide) ?_
      exact me_iret C N dX7_isIdle_37 (by decide +kernel) (by cases hf; rfl) (by decide) (by decide)
    · replace hf := me_in c3 hf
      refine me_aload_n C 0 (Or.inr (Or.inl ⟨_, rfl⟩)) dX7_isIdle_23 rfl rfl ?_
      refine me_getr C hB 0 (k' := 14) (i' := v0) fg_Router_11 dX7_isIdle_24 rfl rfl ?_
      refine me_iload_n C 1 dX7_isIdle_27 rfl rfl ?_
      obtain ⟨g4, hf⟩ := me_gs hf
      refine me_aald C hB (k' := 17) (i' := 10 * v0 + (me_ix v1)) rfl (fun _ => rfl) rfl g4 dX7_isIdle_28 rfl ?_
      refine me_geti C 5 fg_Router_42 dX7_isIdle_29 rfl ?_
      refine me_iconst C (v := -1) dX7_isIdle_32 (by decide) ?_
      refine me_icmp_eq C (tgt := 38) dX7_isIdle_33 (by decide) (fun c5 => ?_) (fun c5 => ?_)
      · replace hf := me_ip c5 hf
        obtain ⟨x6, e_x6, hf⟩ := me_lts hf
        refine me_iinc C (v := x6) (L' := [(1, me_i x6), (0, me_r 13 v0)]) dX7_isIdle_38 rfl e_x6.symm (by decide) rfl ?_
        refine me_goto C (tgt := 2) dX7_isIdle_41 (by decide) ?_
        refine me_dropI [(0, me_r 13 v0), (1, me_i x6)] [1, 0] rfl ?_
        exact hK2 v0 x6 hf
      · replace hf := me_in c5 hf
        refine me_iconst C (v := 0) dX7_isIdle_36 (by decide) ?_
        exact me_iret C N dX7_isIdle_37 (by decide +kernel) (by cases hf; rfl) (by decide) (by decide)
def f_Router_isIdle_h2 (μ : me_M) : Nat → Nat → Int32 → Option Int32
  | 0, _, _ => none
  | n + 1, v0, v1 => f_Router_isIdle_b2 μ (f_Router_isIdle_h2 μ n) v0 v1
set_option maxHeartbeats 4000000 in
set_option maxRecDepth 100000 in
theorem z_Router_isIdle_h2 {X : me_X} {B : me_B} {sz : Nat} (C : me_C X B RX7 cX7_isIdle 2 (some .boolean)) {μ : me_M}  {r : Int32} (N : me_En X B sz (B, μ, .ok (some (me_i r))) 0 0 0 0) (hNx : me_Nx X) (hB : me_St B)  : ∀ (n : Nat) (v0 : Nat) (v1 : Int32), f_Router_isIdle_h2 μ n v0 v1 = some r → me_Z X B 0 0 μ 2 [(0, me_r 13 v0), (1, me_i v1)] [] := by
  intro n
  induction n with
  | zero => intro v0 v1  h; exact absurd (show (none : Option Int32) = some r from h) (fun q => by cases q)
  | succ n ih => intro v0 v1  h; exact z_Router_isIdle_b2 C N hNx hB  (K2 := f_Router_isIdle_h2 μ n) ih  h
def f_Router_isIdle (μ : me_M) (v0 : Nat) : Option Int32 :=
  f_Router_isIdle_h2 μ me_FU v0 (0 : Int32)
set_option maxHeartbeats 4000000 in
set_option maxRecDepth 100000 in
theorem z_Router_isIdle {X : me_X} {B : me_B} {sz : Nat} (C : me_C X B RX7 cX7_isIdle 2 (some .boolean)) {μ : me_M} {v0 : Nat}   {r : Int32} (N : me_En X B sz (B, μ, .ok (some (me_i r))) 0 0 0 0) (hNx : me_Nx X) (hB : me_St B)   (hf : f_Router_isIdle μ v0 = some r) : me_Z X B 0 0 μ 0 [(0, me_r 13 v0)] [] := by
  unfold f_Router_isIdle at hf
  refine me_iconst C (v := 0) dX7_isIdle_0 (by decide) ?_
  refine me_istore_n C 1 dX7_isIdle_1 rfl (by decide) (L' := [(1, me_i (0 : Int32)), (0, me_r 13 v0)]) rfl ?_
  refine me_dropI [(0, me_r 13 v0), (1, me_i (0 : Int32))] [1, 0] rfl ?_
  exact z_Router_isIdle_h2 C N hNx hB me_FU v0 (0 : Int32) hf
theorem c_Router_isIdle {B : me_B} (hB : me_St B) {μ : me_M} {v0 : Nat} {r : Int32}  (hf : f_Router_isIdle μ v0 = some r) : ∀ l E z, l.stackTraces = false → me_Met l yX7_isIdle cX7_isIdle 2 (some .boolean) 0 0 0 0 E B μ z [me_r 13 v0] (B, μ, .ok (some (me_i r))) :=
  fun _ _ _ hl => me_ofZ hl (by decide +kernel) (Nat.le_of_ble_eq_true rfl) (fun _ C N hNx => z_Router_isIdle C N hNx hB  hf)

def f_Ways_couldGo_b48 (μ : me_M) (v1 : Int32) (v2 : Int32) (v3 : Int32) : Option Int32 :=
  me_bd (f_Ways_heading μ v1 v2 (0 : Int32)) (fun r1 =>
  if r1 = v3 then
  (some (1 : Int32))
  else
  (some (0 : Int32)))
set_option maxHeartbeats 4000000 in
set_option maxRecDepth 100000 in
theorem z_Ways_couldGo_b48 {X : me_X} {B : me_B} {sz : Nat} (C : me_C X B RX9 cX9_couldGo 5 (some .boolean)) {μ : me_M} {v1 : Int32} {v2 : Int32} {v3 : Int32}   {r : Int32} (N : me_En X B sz (B, μ, .ok (some (me_i r))) 4 97 0 0) (hNx : me_Nx X) (hB : me_St B)   (hf : f_Ways_couldGo_b48 μ v1 v2 v3 = some r) : me_Z X B 0 0 μ 48 [(0, me_r 27 0), (1, me_i v1), (2, me_i v2), (3, me_i v3)] [] := by
  unfold f_Ways_couldGo_b48 at hf
  refine me_aload_n C 0 (Or.inr (Or.inl ⟨_, rfl⟩)) dX9_couldGo_48 rfl rfl ?_
  refine me_iload_n C 1 dX9_couldGo_49 rfl rfl ?_
  refine me_iload_n C 2 dX9_couldGo_50 rfl rfl ?_
  refine me_iconst C (v := 0) dX9_couldGo_51 (by decide) ?_
  obtain ⟨r1, h_r1, hf⟩ := me_bs hf
  refine me_callV C N  (As := [me_i v1, me_i v2, me_i (0 : Int32)]) (st := []) 0 0 (c_Ways_heading hB h_r1) mv_Ways_heading ml_Ways_78 rfl rfl dX9_couldGo_52 rfl rfl ⟨by decide, by decide⟩ ⟨by decide, by decide, by decide, by decide⟩ (Nat.le_of_ble_eq_true rfl) ?_
  refine me_iload_n C 3 dX9_couldGo_55 rfl rfl ?_
  refine me_icmp_ne C (tgt := 63) dX9_couldGo_56 (by decide) (fun c2 => ?_) (fun c2 => ?_)
  · replace hf := me_in c2 hf
    refine me_iconst C (v := 0) dX9_couldGo_63 (by decide) ?_
    exact me_iret C N dX9_couldGo_64 (by decide +kernel) (by cases hf; rfl) (by decide) (by decide)
  · replace hf := me_ip c2 hf
    refine me_iconst C (v := 1) dX9_couldGo_59 (by decide) ?_
    refine me_goto C (tgt := 64) dX9_couldGo_60 (by decide) ?_
    exact me_iret C N dX9_couldGo_64 (by decide +kernel) (by cases hf; rfl) (by decide) (by decide)
def f_Ways_couldGo_b84 (μ : me_M) : Option Int32 :=
  some (1 : Int32)
set_option maxHeartbeats 4000000 in
set_option maxRecDepth 100000 in
theorem z_Ways_couldGo_b84 {X : me_X} {B : me_B} {sz : Nat} (C : me_C X B RX9 cX9_couldGo 5 (some .boolean)) {μ : me_M}    {r : Int32} (N : me_En X B sz (B, μ, .ok (some (me_i r))) 4 97 0 0) (hNx : me_Nx X) (hB : me_St B)   (hf : f_Ways_couldGo_b84 μ = some r) : me_Z X B 0 0 μ 84 [] [] := by
  unfold f_Ways_couldGo_b84 at hf
  refine me_iconst C (v := 1) dX9_couldGo_84 (by decide) ?_
  refine me_goto C (tgt := 89) dX9_couldGo_85 (by decide) ?_
  exact me_iret C N dX9_couldGo_89 (by decide +kernel) (by cases hf; rfl) (by decide) (by decide)
def f_Ways_couldGo (μ : me_M) (v1 : Int32) (v2 : Int32) (v3 : Int32) : Option Int32 :=
  if v1 = v2 then
  (some (0 : Int32))
  else
  (me_bd (f_Net_isWhole μ ((v1 * (4 : Int32)) + v3)) (fun r2 =>
  if r2 = 0 then
  (some (0 : Int32))
  else
  (me_bd (f_Net_alongX μ v1 v2) (fun r4 =>
  if (μ 27 0 4) = (116 : Int32) then
  (if r4 = (1 : Int32) then
  (f_Ways_couldGo_b48 μ v1 v2 v3)
  else
  (if v3 = r4 then
  (f_Ways_couldGo_b84 μ)
  else
  (me_bd (f_Net_alongY μ v1 v2) (fun r8 =>
  if v3 = r8 then
  (f_Ways_couldGo_b84 μ)
  else
  (some (0 : Int32))))))
  else
  (f_Ways_couldGo_b48 μ v1 v2 v3)))))
set_option maxHeartbeats 4000000 in
set_option maxRecDepth 100000 in
theorem z_Ways_couldGo {X : me_X} {B : me_B} {sz : Nat} (C : me_C X B RX9 cX9_couldGo 5 (some .boolean)) {μ : me_M} {v1 : Int32} {v2 : Int32} {v3 : Int32}   {r : Int32} (N : me_En X B sz (B, μ, .ok (some (me_i r))) 4 97 0 0) (hNx : me_Nx X) (hB : me_St B)   (hf : f_Ways_couldGo μ v1 v2 v3 = some r) : me_Z X B 0 0 μ 0 [(0, me_r 27 0), (1, me_i v1), (2, me_i v2), (3, me_i v3)] [] := by
  unfold f_Ways_couldGo at hf
  refine me_iload_n C 1 dX9_couldGo_0 rfl rfl ?_
  refine me_iload_n C 2 dX9_couldGo_1 rfl rfl ?_
  refine me_icmp_eq C (tgt := 20) dX9_couldGo_2 (by decide) (fun c1 => ?_) (fun c1 => ?_)
  · replace hf := me_ip c1 hf
    refine me_iconst C (v := 0) dX9_couldGo_20 (by decide) ?_
    exact me_iret C N dX9_couldGo_21 (by decide +kernel) (by cases hf; rfl) (by decide) (by decide)
  · replace hf := me_in c1 hf
    refine me_aload_n C 0 (Or.inr (Or.inl ⟨_, rfl⟩)) dX9_couldGo_5 rfl rfl ?_
    refine me_getr C hB 0 (k' := 1) (i' := 0) fg_Ways_23 dX9_couldGo_6 rfl rfl ?_
    refine me_iload_n C 1 dX9_couldGo_9 rfl rfl ?_
    refine me_iconst C (v := 4) dX9_couldGo_10 (by decide) ?_
    refine me_imul C dX9_couldGo_11 ?_
    refine me_iload_n C 3 dX9_couldGo_12 rfl rfl ?_
    refine me_iadd C dX9_couldGo_13 ?_
    obtain ⟨r2, h_r2, hf⟩ := me_bs hf
    refine me_callV C N  (As := [me_i ((v1 * (4 : Int32)) + v3)]) (st := []) 0 0 (c_Net_isWhole hB h_r2) mv_Net_isWhole ml_Ways_48 rfl rfl dX9_couldGo_14 rfl rfl ⟨by decide, by decide⟩ ⟨by decide, by decide, by decide, by decide⟩ (Nat.le_of_ble_eq_true rfl) ?_
    refine me_if_ne C (tgt := 22) dX9_couldGo_17 (by decide) (fun c3 => ?_) (fun c3 => ?_)
    · replace hf := me_in c3 hf
      refine me_aload_n C 0 (Or.inr (Or.inl ⟨_, rfl⟩)) dX9_couldGo_22 rfl rfl ?_
      refine me_getr C hB 0 (k' := 1) (i' := 0) fg_Ways_23 dX9_couldGo_23 rfl rfl ?_
      refine me_iload_n C 1 dX9_couldGo_26 rfl rfl ?_
      refine me_iload_n C 2 dX9_couldGo_27 rfl rfl ?_
      obtain ⟨r4, h_r4, hf⟩ := me_bs hf
      refine me_callV C N  (As := [me_i v1, me_i v2]) (st := []) 0 0 (c_Net_alongX hB h_r4) mv_Net_alongX ml_Ways_35 rfl rfl dX9_couldGo_28 rfl rfl ⟨by decide, by decide⟩ ⟨by decide, by decide, by decide, by decide⟩ (Nat.le_of_ble_eq_true rfl) ?_
      refine me_istore C dX9_couldGo_31 (by decide) (L' := [(4, me_i r4), (0, me_r 27 0), (1, me_i v1), (2, me_i v2), (3, me_i v3)]) rfl ?_
      refine me_aload_n C 0 (Or.inr (Or.inl ⟨_, rfl⟩)) dX9_couldGo_33 rfl rfl ?_
      refine me_geti C 4 fg_Ways_19 dX9_couldGo_34 rfl ?_
      refine me_bipush C (v := 116) dX9_couldGo_37 (by decide) ?_
      refine me_icmp_ne C (tgt := 48) dX9_couldGo_39 (by decide) (fun c5 => ?_) (fun c5 => ?_)
      · replace hf := me_in c5 hf
        refine me_dropI [(0, me_r 27 0), (1, me_i v1), (2, me_i v2), (3, me_i v3)] [1, 2, 3, 4] rfl ?_
        exact z_Ways_couldGo_b48 C N hNx hB hf
      · replace hf := me_ip c5 hf
        refine me_iload C dX9_couldGo_42 rfl ?_
        refine me_iconst C (v := 1) dX9_couldGo_44 (by decide) ?_
        refine me_icmp_ne C (tgt := 65) dX9_couldGo_45 (by decide) (fun c6 => ?_) (fun c6 => ?_)
        · replace hf := me_in c6 hf
          refine me_iload_n C 3 dX9_couldGo_65 rfl rfl ?_
          refine me_iload C dX9_couldGo_66 rfl ?_
          refine me_icmp_eq C (tgt := 84) dX9_couldGo_68 (by decide) (fun c7 => ?_) (fun c7 => ?_)
          · replace hf := me_ip c7 hf
            refine me_dropI [] [] rfl ?_
            exact z_Ways_couldGo_b84 C N hNx hB hf
          · replace hf := me_in c7 hf
            refine me_iload_n C 3 dX9_couldGo_71 rfl rfl ?_
            refine me_aload_n C 0 (Or.inr (Or.inl ⟨_, rfl⟩)) dX9_couldGo_72 rfl rfl ?_
            refine me_getr C hB 0 (k' := 1) (i' := 0) fg_Ways_23 dX9_couldGo_73 rfl rfl ?_
            refine me_iload_n C 1 dX9_couldGo_76 rfl rfl ?_
            refine me_iload_n C 2 dX9_couldGo_77 rfl rfl ?_
            obtain ⟨r8, h_r8, hf⟩ := me_bs hf
            refine me_callV C N  (As := [me_i v1, me_i v2]) (st := [me_i v3]) 0 0 (c_Net_alongY hB h_r8) mv_Net_alongY ml_Ways_41 rfl rfl dX9_couldGo_78 rfl rfl ⟨by decide, by decide⟩ ⟨by decide, by decide, by decide, by decide⟩ (Nat.le_of_ble_eq_true rfl) ?_
            refine me_icmp_ne C (tgt := 88) dX9_couldGo_81 (by decide) (fun c9 => ?_) (fun c9 => ?_)
            · replace hf := me_in c9 hf
              refine me_iconst C (v := 0) dX9_couldGo_88 (by decide) ?_
              exact me_iret C N dX9_couldGo_89 (by decide +kernel) (by cases hf; rfl) (by decide) (by decide)
            · replace hf := me_ip c9 hf
              refine me_dropI [] [] rfl ?_
              exact z_Ways_couldGo_b84 C N hNx hB hf
        · replace hf := me_ip c6 hf
          refine me_dropI [(0, me_r 27 0), (1, me_i v1), (2, me_i v2), (3, me_i v3)] [1, 2, 3, 4] rfl ?_
          exact z_Ways_couldGo_b48 C N hNx hB hf
    · replace hf := me_ip c3 hf
      refine me_iconst C (v := 0) dX9_couldGo_20 (by decide) ?_
      exact me_iret C N dX9_couldGo_21 (by decide +kernel) (by cases hf; rfl) (by decide) (by decide)
theorem c_Ways_couldGo {B : me_B} (hB : me_St B) {μ : me_M} {v1 : Int32} {v2 : Int32} {v3 : Int32} {r : Int32}  (hf : f_Ways_couldGo μ v1 v2 v3 = some r) : ∀ l E z, l.stackTraces = false → me_Met l yX9_couldGo cX9_couldGo 5 (some .boolean) 4 97 0 0 E B μ z [me_r 27 0, me_i v1, me_i v2, me_i v3] (B, μ, .ok (some (me_i r))) :=
  fun _ _ _ hl => me_ofZ hl (by decide +kernel) (Nat.le_of_ble_eq_true rfl) (fun _ C N hNx => z_Ways_couldGo C N hNx hB  hf)

def f_Ways_onwardOf_b46 (μ : me_M) (K20 : Int32 → Int32 → Int32 → Int32 → Int32 → Option Int32) (K46 : Int32 → Int32 → Int32 → Int32 → Int32 → Int32 → Option Int32) (v1 : Int32) (v2 : Int32) (v3 : Int32) (v4 : Int32) (v5 : Int32) (v6 : Int32) : Option Int32 :=
  if (4 : Int32) ≤ v6 then
  (me_lt (me_inc v5 (1)) (fun x2 =>
  K20 v1 v2 v3 v4 x2))
  else
  (me_bd (f_Ways_couldGo μ v3 v5 v6) (fun r3 =>
  if r3 = 0 then
  (me_lt ((v4 ||| (0 : Int32))) (fun x5 =>
  me_lt (me_inc v6 (1)) (fun x6 =>
  K46 v1 v2 v3 x5 v5 x6)))
  else
  (me_lt ((v4 ||| ((1 : Int32) <<< (v6 &&& 31)))) (fun x7 =>
  me_lt (me_inc v6 (1)) (fun x8 =>
  K46 v1 v2 v3 x7 v5 x8)))))
set_option maxHeartbeats 4000000 in
set_option maxRecDepth 100000 in
theorem z_Ways_onwardOf_b46 {X : me_X} {B : me_B} {sz : Nat} (C : me_C X B RX9 cX9_onwardOf 7 (some .int)) {μ : me_M} {v1 : Int32} {v2 : Int32} {v3 : Int32} {v4 : Int32} {v5 : Int32} {v6 : Int32}  {K20 : Int32 → Int32 → Int32 → Int32 → Int32 → Option Int32} {K46 : Int32 → Int32 → Int32 → Int32 → Int32 → Int32 → Option Int32} {r : Int32} (N : me_En X B sz (B, μ, .ok (some (me_i r))) 5 121 0 0) (hNx : me_Nx X) (hB : me_St B) (hK20 : ∀ (v1 : Int32) (v2 : Int32) (v3 : Int32) (v4 : Int32) (v5 : Int32), K20 v1 v2 v3 v4 v5 = some r → me_Z X B 0 0 μ 20 [(0, me_r 27 0), (1, me_i v1), (2, me_i v2), (3, me_i v3), (4, me_i v4), (5, me_i v5)] []) (hK46 : ∀ (v1 : Int32) (v2 : Int32) (v3 : Int32) (v4 : Int32) (v5 : Int32) (v6 : Int32), K46 v1 v2 v3 v4 v5 v6 = some r → me_Z X B 0 0 μ 46 [(0, me_r 27 0), (1, me_i v1), (2, me_i v2), (3, me_i v3), (4, me_i v4), (5, me_i v5), (6, me_i v6)] [])  (hf : f_Ways_onwardOf_b46 μ K20 K46 v1 v2 v3 v4 v5 v6 = some r) : me_Z X B 0 0 μ 46 [(0, me_r 27 0), (1, me_i v1), (2, me_i v2), (3, me_i v3), (4, me_i v4), (5, me_i v5), (6, me_i v6)] [] := by
  unfold f_Ways_onwardOf_b46 at hf
  refine me_iload C dX9_onwardOf_46 rfl ?_
  refine me_iconst C (v := 4) dX9_onwardOf_48 (by decide) ?_
  refine me_icmp_ge C (tgt := 83) dX9_onwardOf_49 (by decide) (fun c1 => ?_) (fun c1 => ?_)
  · replace hf := me_ip c1 hf
    obtain ⟨x2, e_x2, hf⟩ := me_lts hf
    refine me_iinc C (v := x2) (L' := [(5, me_i x2), (0, me_r 27 0), (1, me_i v1), (2, me_i v2), (3, me_i v3), (4, me_i v4), (6, me_i v6)]) dX9_onwardOf_83 rfl e_x2.symm (by decide) rfl ?_
    refine me_goto C (tgt := 20) dX9_onwardOf_86 (by decide) ?_
    refine me_dropI [(0, me_r 27 0), (1, me_i v1), (2, me_i v2), (3, me_i v3), (4, me_i v4), (5, me_i x2)] [1, 2, 3, 4, 5, 0] rfl ?_
    exact hK20 v1 v2 v3 v4 x2 hf
  · replace hf := me_in c1 hf
    refine me_iload C dX9_onwardOf_52 rfl ?_
    refine me_aload_n C 0 (Or.inr (Or.inl ⟨_, rfl⟩)) dX9_onwardOf_54 rfl rfl ?_
    refine me_iload_n C 3 dX9_onwardOf_55 rfl rfl ?_
    refine me_iload C dX9_onwardOf_56 rfl ?_
    refine me_iload C dX9_onwardOf_58 rfl ?_
    obtain ⟨r3, h_r3, hf⟩ := me_bs hf
    refine me_callV C N  (As := [me_i v3, me_i v5, me_i v6]) (st := [me_i v4]) 0 0 (c_Ways_couldGo hB h_r3) mv_Ways_couldGo ml_Ways_90 rfl rfl dX9_onwardOf_60 rfl rfl ⟨by decide, by decide⟩ ⟨by decide, by decide, by decide, by decide⟩ (Nat.le_of_ble_eq_true rfl) ?_
    refine me_if_eq C (tgt := 73) dX9_onwardOf_63 (by decide) (fun c4 => ?_) (fun c4 => ?_)
    · replace hf := me_ip c4 hf
      refine me_iconst C (v := 0) dX9_onwardOf_73 (by decide) ?_
      refine me_ior C dX9_onwardOf_74 ?_
      obtain ⟨x5, e_x5, hf⟩ := me_lts hf
      refine me_nm e_x5 ?_
      refine me_istore C dX9_onwardOf_75 (by decide) (L' := [(4, me_i x5), (0, me_r 27 0), (1, me_i v1), (2, me_i v2), (3, me_i v3), (5, me_i v5), (6, me_i v6)]) rfl ?_
      obtain ⟨x6, e_x6, hf⟩ := me_lts hf
      refine me_iinc C (v := x6) (L' := [(6, me_i x6), (4, me_i x5), (0, me_r 27 0), (1, me_i v1), (2, me_i v2), (3, me_i v3), (5, me_i v5)]) dX9_onwardOf_77 rfl e_x6.symm (by decide) rfl ?_
      refine me_goto C (tgt := 46) dX9_onwardOf_80 (by decide) ?_
      refine me_dropI [(0, me_r 27 0), (1, me_i v1), (2, me_i v2), (3, me_i v3), (4, me_i x5), (5, me_i v5), (6, me_i x6)] [2, 3, 4, 5, 1, 6, 0] rfl ?_
      exact hK46 v1 v2 v3 x5 v5 x6 hf
    · replace hf := me_in c4 hf
      refine me_iconst C (v := 1) dX9_onwardOf_66 (by decide) ?_
      refine me_iload C dX9_onwardOf_67 rfl ?_
      refine me_ishl C dX9_onwardOf_69 ?_
      refine me_goto C (tgt := 74) dX9_onwardOf_70 (by decide) ?_
      refine me_ior C dX9_onwardOf_74 ?_
      obtain ⟨x7, e_x7, hf⟩ := me_lts hf
      refine me_nm e_x7 ?_
      refine me_istore C dX9_onwardOf_75 (by decide) (L' := [(4, me_i x7), (0, me_r 27 0), (1, me_i v1), (2, me_i v2), (3, me_i v3), (5, me_i v5), (6, me_i v6)]) rfl ?_
      obtain ⟨x8, e_x8, hf⟩ := me_lts hf
      refine me_iinc C (v := x8) (L' := [(6, me_i x8), (4, me_i x7), (0, me_r 27 0), (1, me_i v1), (2, me_i v2), (3, me_i v3), (5, me_i v5)]) dX9_onwardOf_77 rfl e_x8.symm (by decide) rfl ?_
      refine me_goto C (tgt := 46) dX9_onwardOf_80 (by decide) ?_
      refine me_dropI [(0, me_r 27 0), (1, me_i v1), (2, me_i v2), (3, me_i v3), (4, me_i x7), (5, me_i v5), (6, me_i x8)] [2, 3, 4, 5, 1, 6, 0] rfl ?_
      exact hK46 v1 v2 v3 x7 v5 x8 hf
def f_Ways_onwardOf_h46 (μ : me_M) (K20 : Int32 → Int32 → Int32 → Int32 → Int32 → Option Int32) : Nat → Int32 → Int32 → Int32 → Int32 → Int32 → Int32 → Option Int32
  | 0, _, _, _, _, _, _ => none
  | n + 1, v1, v2, v3, v4, v5, v6 => f_Ways_onwardOf_b46 μ K20 (f_Ways_onwardOf_h46 μ K20 n) v1 v2 v3 v4 v5 v6
set_option maxHeartbeats 4000000 in
set_option maxRecDepth 100000 in
theorem z_Ways_onwardOf_h46 {X : me_X} {B : me_B} {sz : Nat} (C : me_C X B RX9 cX9_onwardOf 7 (some .int)) {μ : me_M} {K20 : Int32 → Int32 → Int32 → Int32 → Int32 → Option Int32} {r : Int32} (N : me_En X B sz (B, μ, .ok (some (me_i r))) 5 121 0 0) (hNx : me_Nx X) (hB : me_St B) (hK20 : ∀ (v1 : Int32) (v2 : Int32) (v3 : Int32) (v4 : Int32) (v5 : Int32), K20 v1 v2 v3 v4 v5 = some r → me_Z X B 0 0 μ 20 [(0, me_r 27 0), (1, me_i v1), (2, me_i v2), (3, me_i v3), (4, me_i v4), (5, me_i v5)] []) : ∀ (n : Nat) (v1 : Int32) (v2 : Int32) (v3 : Int32) (v4 : Int32) (v5 : Int32) (v6 : Int32), f_Ways_onwardOf_h46 μ K20 n v1 v2 v3 v4 v5 v6 = some r → me_Z X B 0 0 μ 46 [(0, me_r 27 0), (1, me_i v1), (2, me_i v2), (3, me_i v3), (4, me_i v4), (5, me_i v5), (6, me_i v6)] [] := by
  intro n
  induction n with
  | zero => intro v1 v2 v3 v4 v5 v6  h; exact absurd (show (none : Option Int32) = some r from h) (fun q => by cases q)
  | succ n ih => intro v1 v2 v3 v4 v5 v6  h; exact z_Ways_onwardOf_b46 C N hNx hB hK20 (K46 := f_Ways_onwardOf_h46 μ K20 n) ih  h
def f_Ways_onwardOf_b20 (μ : me_M) (K20 : Int32 → Int32 → Int32 → Int32 → Int32 → Option Int32) (v1 : Int32) (v2 : Int32) (v3 : Int32) (v4 : Int32) (v5 : Int32) : Option Int32 :=
  if (μ 1 0 4) ≤ v5 then
  (some v4)
  else
  (me_bd (f_Ways_couldGo μ v1 v5 v2) (fun r2 =>
  if r2 = 0 then
  (me_lt (me_inc v5 (1)) (fun x4 =>
  K20 v1 v2 v3 v4 x4))
  else
  (f_Ways_onwardOf_h46 μ K20 me_FU v1 v2 v3 v4 v5 (0 : Int32))))
set_option maxHeartbeats 4000000 in
set_option maxRecDepth 100000 in
theorem z_Ways_onwardOf_b20 {X : me_X} {B : me_B} {sz : Nat} (C : me_C X B RX9 cX9_onwardOf 7 (some .int)) {μ : me_M} {v1 : Int32} {v2 : Int32} {v3 : Int32} {v4 : Int32} {v5 : Int32}  {K20 : Int32 → Int32 → Int32 → Int32 → Int32 → Option Int32} {r : Int32} (N : me_En X B sz (B, μ, .ok (some (me_i r))) 5 121 0 0) (hNx : me_Nx X) (hB : me_St B) (hK20 : ∀ (v1 : Int32) (v2 : Int32) (v3 : Int32) (v4 : Int32) (v5 : Int32), K20 v1 v2 v3 v4 v5 = some r → me_Z X B 0 0 μ 20 [(0, me_r 27 0), (1, me_i v1), (2, me_i v2), (3, me_i v3), (4, me_i v4), (5, me_i v5)] [])  (hf : f_Ways_onwardOf_b20 μ K20 v1 v2 v3 v4 v5 = some r) : me_Z X B 0 0 μ 20 [(0, me_r 27 0), (1, me_i v1), (2, me_i v2), (3, me_i v3), (4, me_i v4), (5, me_i v5)] [] := by
  unfold f_Ways_onwardOf_b20 at hf
  refine me_iload C dX9_onwardOf_20 rfl ?_
  refine me_aload_n C 0 (Or.inr (Or.inl ⟨_, rfl⟩)) dX9_onwardOf_22 rfl rfl ?_
  refine me_getr C hB 0 (k' := 1) (i' := 0) fg_Ways_23 dX9_onwardOf_23 rfl rfl ?_
  refine me_geti C 4 fg_Ways_87 dX9_onwardOf_26 rfl ?_
  refine me_icmp_ge C (tgt := 89) dX9_onwardOf_29 (by decide) (fun c1 => ?_) (fun c1 => ?_)
  · replace hf := me_ip c1 hf
    refine me_iload C dX9_onwardOf_89 rfl ?_
    exact me_iret C N dX9_onwardOf_91 (me_nri _) (by cases hf; rfl) (by decide) (by decide)
  · replace hf := me_in c1 hf
    refine me_aload_n C 0 (Or.inr (Or.inl ⟨_, rfl⟩)) dX9_onwardOf_32 rfl rfl ?_
    refine me_iload_n C 1 dX9_onwardOf_33 rfl rfl ?_
    refine me_iload C dX9_onwardOf_34 rfl ?_
    refine me_iload_n C 2 dX9_onwardOf_36 rfl rfl ?_
    obtain ⟨r2, h_r2, hf⟩ := me_bs hf
    refine me_callV C N  (As := [me_i v1, me_i v5, me_i v2]) (st := []) 0 0 (c_Ways_couldGo hB h_r2) mv_Ways_couldGo ml_Ways_90 rfl rfl dX9_onwardOf_37 rfl rfl ⟨by decide, by decide⟩ ⟨by decide, by decide, by decide, by decide⟩ (Nat.le_of_ble_eq_true rfl) ?_
    refine me_if_eq C (tgt := 83) dX9_onwardOf_40 (by decide) (fun c3 => ?_) (fun c3 => ?_)
    · replace hf := me_ip c3 hf
      obtain ⟨x4, e_x4, hf⟩ := me_lts hf
      refine me_iinc C (v := x4) (L' := [(5, me_i x4), (0, me_r 27 0), (1, me_i v1), (2, me_i v2), (3, me_i v3), (4, me_i v4)]) dX9_onwardOf_83 rfl e_x4.symm (by decide) rfl ?_
      refine me_goto C (tgt := 20) dX9_onwardOf_86 (by decide) ?_
      refine me_dropI [(0, me_r 27 0), (1, me_i v1), (2, me_i v2), (3, me_i v3), (4, me_i v4), (5, me_i x4)] [1, 2, 3, 4, 5, 0] rfl ?_
      exact hK20 v1 v2 v3 v4 x4 hf
    · replace hf := me_in c3 hf
      refine me_iconst C (v := 0) dX9_onwardOf_43 (by decide) ?_
      refine me_istore C dX9_onwardOf_44 (by decide) (L' := [(6, me_i (0 : Int32)), (0, me_r 27 0), (1, me_i v1), (2, me_i v2), (3, me_i v3), (4, me_i v4), (5, me_i v5)]) rfl ?_
      refine me_dropI [(0, me_r 27 0), (1, me_i v1), (2, me_i v2), (3, me_i v3), (4, me_i v4), (5, me_i v5), (6, me_i (0 : Int32))] [1, 2, 3, 4, 5, 6, 0] rfl ?_
      exact z_Ways_onwardOf_h46 C N hNx hB hK20 me_FU v1 v2 v3 v4 v5 (0 : Int32) hf
def f_Ways_onwardOf_h20 (μ : me_M) : Nat → Int32 → Int32 → Int32 → Int32 → Int32 → Option Int32
  | 0, _, _, _, _, _ => none
  | n + 1, v1, v2, v3, v4, v5 => f_Ways_onwardOf_b20 μ (f_Ways_onwardOf_h20 μ n) v1 v2 v3 v4 v5
set_option maxHeartbeats 4000000 in
set_option maxRecDepth 100000 in
theorem z_Ways_onwardOf_h20 {X : me_X} {B : me_B} {sz : Nat} (C : me_C X B RX9 cX9_onwardOf 7 (some .int)) {μ : me_M}  {r : Int32} (N : me_En X B sz (B, μ, .ok (some (me_i r))) 5 121 0 0) (hNx : me_Nx X) (hB : me_St B)  : ∀ (n : Nat) (v1 : Int32) (v2 : Int32) (v3 : Int32) (v4 : Int32) (v5 : Int32), f_Ways_onwardOf_h20 μ n v1 v2 v3 v4 v5 = some r → me_Z X B 0 0 μ 20 [(0, me_r 27 0), (1, me_i v1), (2, me_i v2), (3, me_i v3), (4, me_i v4), (5, me_i v5)] [] := by
  intro n
  induction n with
  | zero => intro v1 v2 v3 v4 v5  h; exact absurd (show (none : Option Int32) = some r from h) (fun q => by cases q)
  | succ n ih => intro v1 v2 v3 v4 v5  h; exact z_Ways_onwardOf_b20 C N hNx hB  (K20 := f_Ways_onwardOf_h20 μ n) ih  h
def f_Ways_onwardOf (μ : me_M) (v1 : Int32) (v2 : Int32) : Option Int32 :=
  me_gd (me_inb ((v1 * (4 : Int32)) + v2) 64) (
  me_lt ((μ 2 0 (me_ix ((v1 * (4 : Int32)) + v2)))) (fun x2 =>
  f_Ways_onwardOf_h20 μ me_FU v1 v2 x2 (0 : Int32) (0 : Int32)))
set_option maxHeartbeats 4000000 in
set_option maxRecDepth 100000 in
theorem z_Ways_onwardOf {X : me_X} {B : me_B} {sz : Nat} (C : me_C X B RX9 cX9_onwardOf 7 (some .int)) {μ : me_M} {v1 : Int32} {v2 : Int32}   {r : Int32} (N : me_En X B sz (B, μ, .ok (some (me_i r))) 5 121 0 0) (hNx : me_Nx X) (hB : me_St B)   (hf : f_Ways_onwardOf μ v1 v2 = some r) : me_Z X B 0 0 μ 0 [(0, me_r 27 0), (1, me_i v1), (2, me_i v2)] [] := by
  unfold f_Ways_onwardOf at hf
  refine me_aload_n C 0 (Or.inr (Or.inl ⟨_, rfl⟩)) dX9_onwardOf_0 rfl rfl ?_
  refine me_getr C hB 0 (k' := 1) (i' := 0) fg_Ways_23 dX9_onwardOf_1 rfl rfl ?_
  refine me_getr C hB 0 (k' := 2) (i' := 0) fg_Ways_52 dX9_onwardOf_4 rfl rfl ?_
  refine me_iload_n C 1 dX9_onwardOf_7 rfl rfl ?_
  refine me_iconst C (v := 4) dX9_onwardOf_8 (by decide) ?_
  refine me_imul C dX9_onwardOf_9 ?_
  refine me_iload_n C 2 dX9_onwardOf_10 rfl rfl ?_
  refine me_iadd C dX9_onwardOf_11 ?_
  obtain ⟨g1, hf⟩ := me_gs hf
  refine me_iald C rfl (fun _ => rfl) g1 dX9_onwardOf_12 ?_
  obtain ⟨x2, e_x2, hf⟩ := me_lts hf
  refine me_nm e_x2 ?_
  refine me_istore_n C 3 dX9_onwardOf_13 rfl (by decide) (L' := [(3, me_i x2), (0, me_r 27 0), (1, me_i v1), (2, me_i v2)]) rfl ?_
  refine me_iconst C (v := 0) dX9_onwardOf_14 (by decide) ?_
  refine me_istore C dX9_onwardOf_15 (by decide) (L' := [(4, me_i (0 : Int32)), (3, me_i x2), (0, me_r 27 0), (1, me_i v1), (2, me_i v2)]) rfl ?_
  refine me_iconst C (v := 0) dX9_onwardOf_17 (by decide) ?_
  refine me_istore C dX9_onwardOf_18 (by decide) (L' := [(5, me_i (0 : Int32)), (4, me_i (0 : Int32)), (3, me_i x2), (0, me_r 27 0), (1, me_i v1), (2, me_i v2)]) rfl ?_
  refine me_dropI [(0, me_r 27 0), (1, me_i v1), (2, me_i v2), (3, me_i x2), (4, me_i (0 : Int32)), (5, me_i (0 : Int32))] [3, 4, 5, 2, 1, 0] rfl ?_
  exact z_Ways_onwardOf_h20 C N hNx hB me_FU v1 v2 x2 (0 : Int32) (0 : Int32) hf
theorem c_Ways_onwardOf {B : me_B} (hB : me_St B) {μ : me_M} {v1 : Int32} {v2 : Int32} {r : Int32}  (hf : f_Ways_onwardOf μ v1 v2 = some r) : ∀ l E z, l.stackTraces = false → me_Met l yX9_onwardOf cX9_onwardOf 7 (some .int) 5 121 0 0 E B μ z [me_r 27 0, me_i v1, me_i v2] (B, μ, .ok (some (me_i r))) :=
  fun _ _ _ hl => me_ofZ hl (by decide +kernel) (Nat.le_of_ble_eq_true rfl) (fun _ C N hNx => z_Ways_onwardOf C N hNx hB  hf)

def f_Ways_trace_b46 (K2 : me_M → Int32 → Option (me_M × Unit)) (K10 : me_M → Int32 → Int32 → Option (me_M × Unit)) (μ : me_M) (v1 : Int32) (v2 : Int32) (s0 : Int32) : Option (me_M × Unit) :=
  if s0 = 0 then
  (me_gd (me_inb ((v1 * (4 : Int32)) + v2) 64) (
  me_lt (me_up μ 28 0 (me_ix ((v1 * (4 : Int32)) + v2)) (0 : Int32)) (fun μ3 =>
  me_lt (me_inc v2 (1)) (fun x4 =>
  K10 μ3 v1 x4))))
  else
  (me_bd (f_Ways_onwardOf μ v1 v2) (fun r5 =>
  me_gd (me_inb ((v1 * (4 : Int32)) + v2) 64) (
  me_lt (me_up μ 28 0 (me_ix ((v1 * (4 : Int32)) + v2)) r5) (fun μ7 =>
  me_lt (me_inc v2 (1)) (fun x8 =>
  K10 μ7 v1 x8)))))
set_option maxHeartbeats 4000000 in
set_option maxRecDepth 100000 in
theorem z_Ways_trace_b46 {X : me_X} {B : me_B} {sz : Nat} (C : me_C X B RX9 cX9_trace 4 none) {μ : me_M} {v1 : Int32} {v2 : Int32} {s0 : Int32}  {K2 : me_M → Int32 → Option (me_M × Unit)} {K10 : me_M → Int32 → Int32 → Option (me_M × Unit)} {r : me_M × Unit} (N : me_En X B sz (B, r.1, .ok (none)) 6 147 0 0) (hNx : me_Nx X) (hB : me_St B) (hK2 : ∀ (μ : me_M) (v1 : Int32), K2 μ v1 = some r → me_Z X B 0 0 μ 2 [(0, me_r 27 0), (1, me_i v1)] []) (hK10 : ∀ (μ : me_M) (v1 : Int32) (v2 : Int32), K10 μ v1 v2 = some r → me_Z X B 0 0 μ 10 [(0, me_r 27 0), (1, me_i v1), (2, me_i v2)] [])  (hf : f_Ways_trace_b46 K2 K10 μ v1 v2 s0 = some r) : me_Z X B 0 0 μ 46 [(0, me_r 27 0), (1, me_i v1), (2, me_i v2)] [me_i s0] := by
  unfold f_Ways_trace_b46 at hf
  refine me_istore_n C 3 dX9_trace_46 rfl (by decide) (L' := [(3, me_i s0), (0, me_r 27 0), (1, me_i v1), (2, me_i v2)]) rfl ?_
  refine me_aload_n C 0 (Or.inr (Or.inl ⟨_, rfl⟩)) dX9_trace_47 rfl rfl ?_
  refine me_getr C hB 2 (k' := 28) (i' := 0) fg_Ways_9 dX9_trace_48 rfl rfl ?_
  refine me_iload_n C 1 dX9_trace_51 rfl rfl ?_
  refine me_iconst C (v := 4) dX9_trace_52 (by decide) ?_
  refine me_imul C dX9_trace_53 ?_
  refine me_iload_n C 2 dX9_trace_54 rfl rfl ?_
  refine me_iadd C dX9_trace_55 ?_
  refine me_iload_n C 3 dX9_trace_56 rfl rfl ?_
  refine me_if_eq C (tgt := 69) dX9_trace_57 (by decide) (fun c1 => ?_) (fun c1 => ?_)
  · replace hf := me_ip c1 hf
    refine me_iconst C (v := 0) dX9_trace_69 (by decide) ?_
    obtain ⟨g2, hf⟩ := me_gs hf
    obtain ⟨μ3, e_μ3, hf⟩ := me_lts hf
    refine me_iast C rfl (fun _ => rfl) g2 dX9_trace_70 e_μ3 ?_
    obtain ⟨x4, e_x4, hf⟩ := me_lts hf
    refine me_iinc C (v := x4) (L' := [(2, me_i x4), (3, me_i s0), (0, me_r 27 0), (1, me_i v1)]) dX9_trace_71 rfl e_x4.symm (by decide) rfl ?_
    refine me_goto C (tgt := 10) dX9_trace_74 (by decide) ?_
    refine me_dropI [(0, me_r 27 0), (1, me_i v1), (2, me_i x4)] [2, 3, 0] rfl ?_
    exact hK10 μ3 v1 x4 hf
  · replace hf := me_in c1 hf
    refine me_aload_n C 0 (Or.inr (Or.inl ⟨_, rfl⟩)) dX9_trace_60 rfl rfl ?_
    refine me_iload_n C 1 dX9_trace_61 rfl rfl ?_
    refine me_iload_n C 2 dX9_trace_62 rfl rfl ?_
    obtain ⟨r5, h_r5, hf⟩ := me_bs hf
    refine me_callV C N  (As := [me_i v1, me_i v2]) (st := [me_i ((v1 * (4 : Int32)) + v2), me_r 28 0]) 0 0 (c_Ways_onwardOf hB h_r5) mv_Ways_onwardOf ml_Ways_84 rfl rfl dX9_trace_63 rfl rfl ⟨by decide, by decide⟩ ⟨by decide, by decide, by decide, by decide⟩ (Nat.le_of_ble_eq_true rfl) ?_
    refine me_goto C (tgt := 70) dX9_trace_66 (by decide) ?_
    obtain ⟨g6, hf⟩ := me_gs hf
    obtain ⟨μ7, e_μ7, hf⟩ := me_lts hf
    refine me_iast C rfl (fun _ => rfl) g6 dX9_trace_70 e_μ7 ?_
    obtain ⟨x8, e_x8, hf⟩ := me_lts hf
    refine me_iinc C (v := x8) (L' := [(2, me_i x8), (3, me_i s0), (0, me_r 27 0), (1, me_i v1)]) dX9_trace_71 rfl e_x8.symm (by decide) rfl ?_
    refine me_goto C (tgt := 10) dX9_trace_74 (by decide) ?_
    refine me_dropI [(0, me_r 27 0), (1, me_i v1), (2, me_i x8)] [2, 3, 0] rfl ?_
    exact hK10 μ7 v1 x8 hf
def f_Ways_trace_b45 (K2 : me_M → Int32 → Option (me_M × Unit)) (K10 : me_M → Int32 → Int32 → Option (me_M × Unit)) (μ : me_M) (v1 : Int32) (v2 : Int32) : Option (me_M × Unit) :=
  f_Ways_trace_b46 K2 K10 μ v1 v2 (0 : Int32)
set_option maxHeartbeats 4000000 in
set_option maxRecDepth 100000 in
theorem z_Ways_trace_b45 {X : me_X} {B : me_B} {sz : Nat} (C : me_C X B RX9 cX9_trace 4 none) {μ : me_M} {v1 : Int32} {v2 : Int32}  {K2 : me_M → Int32 → Option (me_M × Unit)} {K10 : me_M → Int32 → Int32 → Option (me_M × Unit)} {r : me_M × Unit} (N : me_En X B sz (B, r.1, .ok (none)) 6 147 0 0) (hNx : me_Nx X) (hB : me_St B) (hK2 : ∀ (μ : me_M) (v1 : Int32), K2 μ v1 = some r → me_Z X B 0 0 μ 2 [(0, me_r 27 0), (1, me_i v1)] []) (hK10 : ∀ (μ : me_M) (v1 : Int32) (v2 : Int32), K10 μ v1 v2 = some r → me_Z X B 0 0 μ 10 [(0, me_r 27 0), (1, me_i v1), (2, me_i v2)] [])  (hf : f_Ways_trace_b45 K2 K10 μ v1 v2 = some r) : me_Z X B 0 0 μ 45 [(0, me_r 27 0), (1, me_i v1), (2, me_i v2)] [] := by
  unfold f_Ways_trace_b45 at hf
  refine me_iconst C (v := 0) dX9_trace_45 (by decide) ?_
  refine me_dropI [(0, me_r 27 0), (1, me_i v1), (2, me_i v2)] [0, 1, 2] rfl ?_
  exact z_Ways_trace_b46 C N hNx hB hK2 hK10 hf
def f_Ways_trace_b10 (K2 : me_M → Int32 → Option (me_M × Unit)) (K10 : me_M → Int32 → Int32 → Option (me_M × Unit)) (μ : me_M) (v1 : Int32) (v2 : Int32) : Option (me_M × Unit) :=
  if (4 : Int32) ≤ v2 then
  (me_lt (me_inc v1 (1)) (fun x2 =>
  K2 μ x2))
  else
  (me_bd (f_Net_hasNode μ v1) (fun r3 =>
  if r3 = 0 then
  (f_Ways_trace_b45 K2 K10 μ v1 v2)
  else
  (me_bd (f_Net_isWhole μ ((v1 * (4 : Int32)) + v2)) (fun r5 =>
  if r5 = 0 then
  (f_Ways_trace_b45 K2 K10 μ v1 v2)
  else
  (f_Ways_trace_b46 K2 K10 μ v1 v2 (1 : Int32))))))
set_option maxHeartbeats 4000000 in
set_option maxRecDepth 100000 in
theorem z_Ways_trace_b10 {X : me_X} {B : me_B} {sz : Nat} (C : me_C X B RX9 cX9_trace 4 none) {μ : me_M} {v1 : Int32} {v2 : Int32}  {K2 : me_M → Int32 → Option (me_M × Unit)} {K10 : me_M → Int32 → Int32 → Option (me_M × Unit)} {r : me_M × Unit} (N : me_En X B sz (B, r.1, .ok (none)) 6 147 0 0) (hNx : me_Nx X) (hB : me_St B) (hK2 : ∀ (μ : me_M) (v1 : Int32), K2 μ v1 = some r → me_Z X B 0 0 μ 2 [(0, me_r 27 0), (1, me_i v1)] []) (hK10 : ∀ (μ : me_M) (v1 : Int32) (v2 : Int32), K10 μ v1 v2 = some r → me_Z X B 0 0 μ 10 [(0, me_r 27 0), (1, me_i v1), (2, me_i v2)] [])  (hf : f_Ways_trace_b10 K2 K10 μ v1 v2 = some r) : me_Z X B 0 0 μ 10 [(0, me_r 27 0), (1, me_i v1), (2, me_i v2)] [] := by
  unfold f_Ways_trace_b10 at hf
  refine me_iload_n C 2 dX9_trace_10 rfl rfl ?_
  refine me_iconst C (v := 4) dX9_trace_11 (by decide) ?_
  refine me_icmp_ge C (tgt := 77) dX9_trace_12 (by decide) (fun c1 => ?_) (fun c1 => ?_)
  · replace hf := me_ip c1 hf
    obtain ⟨x2, e_x2, hf⟩ := me_lts hf
    refine me_iinc C (v := x2) (L' := [(1, me_i x2), (0, me_r 27 0), (2, me_i v2)]) dX9_trace_77 rfl e_x2.symm (by decide) rfl ?_
    refine me_goto C (tgt := 2) dX9_trace_80 (by decide) ?_
    refine me_dropI [(0, me_r 27 0), (1, me_i x2)] [1, 0] rfl ?_
    exact hK2 μ x2 hf
  · replace hf := me_in c1 hf
    refine me_aload_n C 0 (Or.inr (Or.inl ⟨_, rfl⟩)) dX9_trace_15 rfl rfl ?_
    refine me_getr C hB 0 (k' := 1) (i' := 0) fg_Ways_23 dX9_trace_16 rfl rfl ?_
    refine me_iload_n C 1 dX9_trace_19 rfl rfl ?_
    obtain ⟨r3, h_r3, hf⟩ := me_bs hf
    refine me_callV C N  (As := [me_i v1]) (st := []) 0 0 (c_Net_hasNode hB h_r3) mv_Net_hasNode ml_Ways_81 rfl rfl dX9_trace_20 rfl rfl ⟨by decide, by decide⟩ ⟨by decide, by decide, by decide, by decide⟩ (Nat.le_of_ble_eq_true rfl) ?_
    refine me_if_eq C (tgt := 45) dX9_trace_23 (by decide) (fun c4 => ?_) (fun c4 => ?_)
    · replace hf := me_ip c4 hf
      refine me_dropI [(0, me_r 27 0), (1, me_i v1), (2, me_i v2)] [0, 1, 2] rfl ?_
      exact z_Ways_trace_b45 C N hNx hB hK2 hK10 hf
    · replace hf := me_in c4 hf
      refine me_aload_n C 0 (Or.inr (Or.inl ⟨_, rfl⟩)) dX9_trace_26 rfl rfl ?_
      refine me_getr C hB 0 (k' := 1) (i' := 0) fg_Ways_23 dX9_trace_27 rfl rfl ?_
      refine me_iload_n C 1 dX9_trace_30 rfl rfl ?_
      refine me_iconst C (v := 4) dX9_trace_31 (by decide) ?_
      refine me_imul C dX9_trace_32 ?_
      refine me_iload_n C 2 dX9_trace_33 rfl rfl ?_
      refine me_iadd C dX9_trace_34 ?_
      obtain ⟨r5, h_r5, hf⟩ := me_bs hf
      refine me_callV C N  (As := [me_i ((v1 * (4 : Int32)) + v2)]) (st := []) 0 0 (c_Net_isWhole hB h_r5) mv_Net_isWhole ml_Ways_48 rfl rfl dX9_trace_35 rfl rfl ⟨by decide, by decide⟩ ⟨by decide, by decide, by decide, by decide⟩ (Nat.le_of_ble_eq_true rfl) ?_
      refine me_if_eq C (tgt := 45) dX9_trace_38 (by decide) (fun c6 => ?_) (fun c6 => ?_)
      · replace hf := me_ip c6 hf
        refine me_dropI [(0, me_r 27 0), (1, me_i v1), (2, me_i v2)] [0, 1, 2] rfl ?_
        exact z_Ways_trace_b45 C N hNx hB hK2 hK10 hf
      · replace hf := me_in c6 hf
        refine me_iconst C (v := 1) dX9_trace_41 (by decide) ?_
        refine me_goto C (tgt := 46) dX9_trace_42 (by decide) ?_
        refine me_dropI [(0, me_r 27 0), (1, me_i v1), (2, me_i v2)] [0, 1, 2] rfl ?_
        exact z_Ways_trace_b46 C N hNx hB hK2 hK10 hf
def f_Ways_trace_h10 (K2 : me_M → Int32 → Option (me_M × Unit)) : Nat → me_M → Int32 → Int32 → Option (me_M × Unit)
  | 0, _, _, _ => none
  | n + 1, μ, v1, v2 => f_Ways_trace_b10 K2 (f_Ways_trace_h10 K2 n) μ v1 v2
set_option maxHeartbeats 4000000 in
set_option maxRecDepth 100000 in
theorem z_Ways_trace_h10 {X : me_X} {B : me_B} {sz : Nat} (C : me_C X B RX9 cX9_trace 4 none) {K2 : me_M → Int32 → Option (me_M × Unit)} {r : me_M × Unit} (N : me_En X B sz (B, r.1, .ok (none)) 6 147 0 0) (hNx : me_Nx X) (hB : me_St B) (hK2 : ∀ (μ : me_M) (v1 : Int32), K2 μ v1 = some r → me_Z X B 0 0 μ 2 [(0, me_r 27 0), (1, me_i v1)] []) : ∀ (n : Nat) (μ : me_M) (v1 : Int32) (v2 : Int32), f_Ways_trace_h10 K2 n μ v1 v2 = some r → me_Z X B 0 0 μ 10 [(0, me_r 27 0), (1, me_i v1), (2, me_i v2)] [] := by
  intro n
  induction n with
  | zero => intro μ v1 v2  h; exact absurd (show (none : Option (me_M × Unit)) = some r from h) (fun q => by cases q)
  | succ n ih => intro μ v1 v2  h; exact z_Ways_trace_b10 C N hNx hB hK2 (K10 := f_Ways_trace_h10 K2 n) ih  h
def f_Ways_trace_b2 (K2 : me_M → Int32 → Option (me_M × Unit)) (μ : me_M) (v1 : Int32) : Option (me_M × Unit) :=
  if (16 : Int32) ≤ v1 then
  (some (μ, ()))
  else
  (f_Ways_trace_h10 K2 me_FU μ v1 (0 : Int32))
set_option maxHeartbeats 4000000 in
set_option maxRecDepth 100000 in
theorem z_Ways_trace_b2 {X : me_X} {B : me_B} {sz : Nat} (C : me_C X B RX9 cX9_trace 4 none) {μ : me_M} {v1 : Int32}  {K2 : me_M → Int32 → Option (me_M × Unit)} {r : me_M × Unit} (N : me_En X B sz (B, r.1, .ok (none)) 6 147 0 0) (hNx : me_Nx X) (hB : me_St B) (hK2 : ∀ (μ : me_M) (v1 : Int32), K2 μ v1 = some r → me_Z X B 0 0 μ 2 [(0, me_r 27 0), (1, me_i v1)] [])  (hf : f_Ways_trace_b2 K2 μ v1 = some r) : me_Z X B 0 0 μ 2 [(0, me_r 27 0), (1, me_i v1)] [] := by
  unfold f_Ways_trace_b2 at hf
  refine me_iload_n C 1 dX9_trace_2 rfl rfl ?_
  refine me_bipush C (v := 16) dX9_trace_3 (by decide) ?_
  refine me_icmp_ge C (tgt := 83) dX9_trace_5 (by decide) (fun c1 => ?_) (fun c1 => ?_)
  · replace hf := me_ip c1 hf
    exact me_vret C N dX9_trace_83 (by cases hf; rfl) (by decide) (by decide)
  · replace hf := me_in c1 hf
    refine me_iconst C (v := 0) dX9_trace_8 (by decide) ?_
    refine me_istore_n C 2 dX9_trace_9 rfl (by decide) (L' := [(2, me_i (0 : Int32)), (0, me_r 27 0), (1, me_i v1)]) rfl ?_
    refine me_dropI [(0, me_r 27 0), (1, me_i v1), (2, me_i (0 : Int32))] [1, 2, 0] rfl ?_
    exact z_Ways_trace_h10 C N hNx hB hK2 me_FU μ v1 (0 : Int32) hf
def f_Ways_trace_h2  : Nat → me_M → Int32 → Option (me_M × Unit)
  | 0, _, _ => none
  | n + 1, μ, v1 => f_Ways_trace_b2 (f_Ways_trace_h2 n) μ v1
set_option maxHeartbeats 4000000 in
set_option maxRecDepth 100000 in
theorem z_Ways_trace_h2 {X : me_X} {B : me_B} {sz : Nat} (C : me_C X B RX9 cX9_trace 4 none)  {r : me_M × Unit} (N : me_En X B sz (B, r.1, .ok (none)) 6 147 0 0) (hNx : me_Nx X) (hB : me_St B)  : ∀ (n : Nat) (μ : me_M) (v1 : Int32), f_Ways_trace_h2 n μ v1 = some r → me_Z X B 0 0 μ 2 [(0, me_r 27 0), (1, me_i v1)] [] := by
  intro n
  induction n with
  | zero => intro μ v1  h; exact absurd (show (none : Option (me_M × Unit)) = some r from h) (fun q => by cases q)
  | succ n ih => intro μ v1  h; exact z_Ways_trace_b2 C N hNx hB  (K2 := f_Ways_trace_h2 n) ih  h
def f_Ways_trace (μ : me_M) : Option (me_M × Unit) :=
  f_Ways_trace_h2 me_FU μ (0 : Int32)
set_option maxHeartbeats 4000000 in
set_option maxRecDepth 100000 in
theorem z_Ways_trace {X : me_X} {B : me_B} {sz : Nat} (C : me_C X B RX9 cX9_trace 4 none) {μ : me_M}    {r : me_M × Unit} (N : me_En X B sz (B, r.1, .ok (none)) 6 147 0 0) (hNx : me_Nx X) (hB : me_St B)   (hf : f_Ways_trace μ = some r) : me_Z X B 0 0 μ 0 [(0, me_r 27 0)] [] := by
  unfold f_Ways_trace at hf
  refine me_iconst C (v := 0) dX9_trace_0 (by decide) ?_
  refine me_istore_n C 1 dX9_trace_1 rfl (by decide) (L' := [(1, me_i (0 : Int32)), (0, me_r 27 0)]) rfl ?_
  refine me_dropI [(0, me_r 27 0), (1, me_i (0 : Int32))] [1, 0] rfl ?_
  exact z_Ways_trace_h2 C N hNx hB me_FU μ (0 : Int32) hf
theorem c_Ways_trace {B : me_B} (hB : me_St B) {μ : me_M}  {μ' : me_M} {r : Unit}  (hf : f_Ways_trace μ = some (μ', r)) : ∀ l E z, l.stackTraces = false → me_Met l yX9_trace cX9_trace 4 none 6 147 0 0 E B μ z [me_r 27 0] (B, μ', .ok (none)) :=
  fun _ _ _ hl => me_ofZ hl (by decide +kernel) (Nat.le_of_ble_eq_true rfl) (fun _ C N hNx => z_Ways_trace C N hNx hB  hf)

def f_Int_bitCount (μ : me_M) (v0 : Int32) : Option Int32 :=
  me_lt ((v0 - ((me_ushr v0 (1 : Int32)) &&& (1431655765 : Int32)))) (fun x1 =>
  me_lt (((x1 &&& (858993459 : Int32)) + ((me_ushr x1 (2 : Int32)) &&& (858993459 : Int32)))) (fun x2 =>
  me_lt (((x2 + (me_ushr x2 (4 : Int32))) &&& (252645135 : Int32))) (fun x3 =>
  me_lt ((x3 + (me_ushr x3 (8 : Int32)))) (fun x4 =>
  me_lt ((x4 + (me_ushr x4 (16 : Int32)))) (fun x5 =>
  some (x5 &&& (63 : Int32)))))))
set_option maxHeartbeats 4000000 in
set_option maxRecDepth 100000 in
theorem z_Int_bitCount {X : me_X} {B : me_B} {sz : Nat} (C : me_C X B RJ6 cJ6_bitCount_0f7a4 1 (some .int)) {μ : me_M} {v0 : Int32}   {r : Int32} (N : me_En X B sz (B, μ, .ok (some (me_i r))) 0 0 0 0) (hNx : me_Nx X) (hB : me_St B)   (hf : f_Int_bitCount μ v0 = some r) : me_Z X B 0 0 μ 0 [(0, me_i v0)] [] := by
  unfold f_Int_bitCount at hf
  refine me_iload_n C 0 dJ6_bitCount_0f7a4_0 rfl rfl ?_
  refine me_iload_n C 0 dJ6_bitCount_0f7a4_1 rfl rfl ?_
  refine me_iconst C (v := 1) dJ6_bitCount_0f7a4_2 (by decide) ?_
  refine me_iushr C dJ6_bitCount_0f7a4_3 ?_
  refine me_ldcw C (v := 1431655765) dJ6_bitCount_0f7a4_4 ci_Int_265 ?_
  refine me_iand C dJ6_bitCount_0f7a4_7 ?_
  refine me_isub C dJ6_bitCount_0f7a4_8 ?_
  obtain ⟨x1, e_x1, hf⟩ := me_lts hf
  refine me_nm e_x1 ?_
  refine me_istore_n C 0 dJ6_bitCount_0f7a4_9 rfl (by decide) (L' := [(0, me_i x1)]) rfl ?_
  refine me_iload_n C 0 dJ6_bitCount_0f7a4_10 rfl rfl ?_
  refine me_ldcw C (v := 858993459) dJ6_bitCount_0f7a4_11 ci_Int_266 ?_
  refine me_iand C dJ6_bitCount_0f7a4_14 ?_
  refine me_iload_n C 0 dJ6_bitCount_0f7a4_15 rfl rfl ?_
  refine me_iconst C (v := 2) dJ6_bitCount_0f7a4_16 (by decide) ?_
  refine me_iushr C dJ6_bitCount_0f7a4_17 ?_
  refine me_ldcw C (v := 858993459) dJ6_bitCount_0f7a4_18 ci_Int_266 ?_
  refine me_iand C dJ6_bitCount_0f7a4_21 ?_
  refine me_iadd C dJ6_bitCount_0f7a4_22 ?_
  obtain ⟨x2, e_x2, hf⟩ := me_lts hf
  refine me_nm e_x2 ?_
  refine me_istore_n C 0 dJ6_bitCount_0f7a4_23 rfl (by decide) (L' := [(0, me_i x2)]) rfl ?_
  refine me_iload_n C 0 dJ6_bitCount_0f7a4_24 rfl rfl ?_
  refine me_iload_n C 0 dJ6_bitCount_0f7a4_25 rfl rfl ?_
  refine me_iconst C (v := 4) dJ6_bitCount_0f7a4_26 (by decide) ?_
  refine me_iushr C dJ6_bitCount_0f7a4_27 ?_
  refine me_iadd C dJ6_bitCount_0f7a4_28 ?_
  refine me_ldcw C (v := 252645135) dJ6_bitCount_0f7a4_29 ci_Int_267 ?_
  refine me_iand C dJ6_bitCount_0f7a4_32 ?_
  obtain ⟨x3, e_x3, hf⟩ := me_lts hf
  refine me_nm e_x3 ?_
  refine me_istore_n C 0 dJ6_bitCount_0f7a4_33 rfl (by decide) (L' := [(0, me_i x3)]) rfl ?_
  refine me_iload_n C 0 dJ6_bitCount_0f7a4_34 rfl rfl ?_
  refine me_iload_n C 0 dJ6_bitCount_0f7a4_35 rfl rfl ?_
  refine me_bipush C (v := 8) dJ6_bitCount_0f7a4_36 (by decide) ?_
  refine me_iushr C dJ6_bitCount_0f7a4_38 ?_
  refine me_iadd C dJ6_bitCount_0f7a4_39 ?_
  obtain ⟨x4, e_x4, hf⟩ := me_lts hf
  refine me_nm e_x4 ?_
  refine me_istore_n C 0 dJ6_bitCount_0f7a4_40 rfl (by decide) (L' := [(0, me_i x4)]) rfl ?_
  refine me_iload_n C 0 dJ6_bitCount_0f7a4_41 rfl rfl ?_
  refine me_iload_n C 0 dJ6_bitCount_0f7a4_42 rfl rfl ?_
  refine me_bipush C (v := 16) dJ6_bitCount_0f7a4_43 (by decide) ?_
  refine me_iushr C dJ6_bitCount_0f7a4_45 ?_
  refine me_iadd C dJ6_bitCount_0f7a4_46 ?_
  obtain ⟨x5, e_x5, hf⟩ := me_lts hf
  refine me_nm e_x5 ?_
  refine me_istore_n C 0 dJ6_bitCount_0f7a4_47 rfl (by decide) (L' := [(0, me_i x5)]) rfl ?_
  refine me_iload_n C 0 dJ6_bitCount_0f7a4_48 rfl rfl ?_
  refine me_bipush C (v := 63) dJ6_bitCount_0f7a4_49 (by decide) ?_
  refine me_iand C dJ6_bitCount_0f7a4_51 ?_
  exact me_iret C N dJ6_bitCount_0f7a4_52 (me_nri _) (by cases hf; rfl) (by decide) (by decide)
theorem c_Int_bitCount {B : me_B} (hB : me_St B) {μ : me_M} {v0 : Int32} {r : Int32}  (hf : f_Int_bitCount μ v0 = some r) : ∀ l E z, l.stackTraces = false → me_Met l yJ6_bitCount_0f7a4 cJ6_bitCount_0f7a4 1 (some .int) 0 0 0 0 E B μ z [me_i v0] (B, μ, .ok (some (me_i r))) :=
  fun _ _ _ hl => me_ofZ hl (by decide +kernel) (Nat.le_of_ble_eq_true rfl) (fun _ C N hNx => z_Int_bitCount C N hNx hB  hf)
