/-! WALKS: Y_beats, Y_beat, Str_isLatin1, Str_coder, Str_length, La1_canEncode, La1_indexOfChar, La1_indexOf, Str_indexOf2, Str_indexOf1, Y_way, Y_places, Y_needRow, Y_row, Y_owner, Y_sleep, Y_isAwake, Y_memory, Y_set, Y_lostShare, Y_packetsAreSound, Y_isSound -/
theorem dX11_beats_0 : decode cX11_beats 0 = .ok (.aload_n 0, 1) := by decide +kernel
theorem dX11_beats_1 : decode cX11_beats 1 = .ok (.iload_n 1, 1) := by decide +kernel
theorem dX11_beats_2 : decode cX11_beats 2 = .ok (.iconst 1, 1) := by decide +kernel
theorem dX11_beats_3 : decode cX11_beats 3 = .ok (.bipush 100, 2) := by decide +kernel
theorem dX11_beats_5 : decode cX11_beats 5 = .ok (.invokevirtual 87, 3) := by decide +kernel
theorem dX11_beats_8 : decode cX11_beats 8 = .ok (.iconst 0, 1) := by decide +kernel
theorem dX11_beats_9 : decode cX11_beats 9 = .ok (.istore_n 2, 1) := by decide +kernel
theorem dX11_beats_10 : decode cX11_beats 10 = .ok (.iload_n 2, 1) := by decide +kernel
theorem dX11_beats_11 : decode cX11_beats 11 = .ok (.iload_n 1, 1) := by decide +kernel
theorem dX11_beats_12 : decode cX11_beats 12 = .ok (.if_icmp .ge 58, 3) := by decide +kernel
theorem dX11_beats_15 : decode cX11_beats 15 = .ok (.aload_n 0, 1) := by decide +kernel
theorem dX11_beats_16 : decode cX11_beats 16 = .ok (.getfield 58, 3) := by decide +kernel
theorem dX11_beats_19 : decode cX11_beats 19 = .ok (.invokevirtual 191, 3) := by decide +kernel
theorem dX11_beats_22 : decode cX11_beats 22 = .ok (.aload_n 0, 1) := by decide +kernel
theorem dX11_beats_23 : decode cX11_beats 23 = .ok (.getfield 67, 3) := by decide +kernel
theorem dX11_beats_26 : decode cX11_beats 26 = .ok (.aload_n 0, 1) := by decide +kernel
theorem dX11_beats_27 : decode cX11_beats 27 = .ok (.getfield 58, 3) := by decide +kernel
theorem dX11_beats_30 : decode cX11_beats 30 = .ok (.getfield 95, 3) := by decide +kernel
theorem dX11_beats_33 : decode cX11_beats 33 = .ok (.invokevirtual 194, 3) := by decide +kernel
theorem dX11_beats_36 : decode cX11_beats 36 = .ok (.aload_n 0, 1) := by decide +kernel
theorem dX11_beats_37 : decode cX11_beats 37 = .ok (.getfield 58, 3) := by decide +kernel
theorem dX11_beats_40 : decode cX11_beats 40 = .ok (.invokevirtual 197, 3) := by decide +kernel
theorem dX11_beats_43 : decode cX11_beats 43 = .ok (.aload_n 0, 1) := by decide +kernel
theorem dX11_beats_44 : decode cX11_beats 44 = .ok (.getfield 58, 3) := by decide +kernel
theorem dX11_beats_47 : decode cX11_beats 47 = .ok (.invokevirtual 200, 3) := by decide +kernel
theorem dX11_beats_50 : decode cX11_beats 50 = .ok (.aload_n 0, 1) := by decide +kernel
theorem dX11_beats_51 : decode cX11_beats 51 = .ok (.getfield 67, 3) := by decide +kernel
theorem dX11_beats_54 : decode cX11_beats 54 = .ok (.invokevirtual 203, 3) := by decide +kernel
theorem dX11_beats_57 : decode cX11_beats 57 = .ok (.aload_n 0, 1) := by decide +kernel
theorem dX11_beats_58 : decode cX11_beats 58 = .ok (.getfield 58, 3) := by decide +kernel
theorem dX11_beats_61 : decode cX11_beats 61 = .ok (.invokevirtual 206, 3) := by decide +kernel
theorem dX11_beats_64 : decode cX11_beats 64 = .ok (.iinc 2 1, 3) := by decide +kernel
theorem dX11_beats_67 : decode cX11_beats 67 = .ok (.goto (-57), 3) := by decide +kernel
theorem dX11_beats_70 : decode cX11_beats 70 = .ok (.aload_n 0, 1) := by decide +kernel
theorem dX11_beats_71 : decode cX11_beats 71 = .ok (.getfield 58, 3) := by decide +kernel
theorem dX11_beats_74 : decode cX11_beats 74 = .ok (.getfield 209, 3) := by decide +kernel
theorem dX11_beats_77 : decode cX11_beats 77 = .ok (.ireturn, 1) := by decide +kernel
theorem dX11_beat_0 : decode cX11_beat 0 = .ok (.aload_n 0, 1) := by decide +kernel
theorem dX11_beat_1 : decode cX11_beat 1 = .ok (.getfield 58, 3) := by decide +kernel
theorem dX11_beat_4 : decode cX11_beat 4 = .ok (.getfield 95, 3) := by decide +kernel
theorem dX11_beat_7 : decode cX11_beat 7 = .ok (.ireturn, 1) := by decide +kernel
theorem dJ0_isLatin1_aae02_0 : decode cJ0_isLatin1_aae02 0 = .ok (.getstatic 38, 3) := by decide +kernel
theorem dJ0_isLatin1_aae02_3 : decode cJ0_isLatin1_aae02 3 = .ok (.ifCond .eq 14, 3) := by decide +kernel
theorem dJ0_isLatin1_aae02_6 : decode cJ0_isLatin1_aae02 6 = .ok (.aload_n 0, 1) := by decide +kernel
theorem dJ0_isLatin1_aae02_7 : decode cJ0_isLatin1_aae02 7 = .ok (.getfield 15, 3) := by decide +kernel
theorem dJ0_isLatin1_aae02_10 : decode cJ0_isLatin1_aae02 10 = .ok (.ifCond .ne 7, 3) := by decide +kernel
theorem dJ0_isLatin1_aae02_13 : decode cJ0_isLatin1_aae02 13 = .ok (.iconst 1, 1) := by decide +kernel
theorem dJ0_isLatin1_aae02_14 : decode cJ0_isLatin1_aae02 14 = .ok (.goto 4, 3) := by decide +kernel
theorem dJ0_isLatin1_aae02_17 : decode cJ0_isLatin1_aae02 17 = .ok (.iconst 0, 1) := by decide +kernel
theorem dJ0_isLatin1_aae02_18 : decode cJ0_isLatin1_aae02 18 = .ok (.ireturn, 1) := by decide +kernel
theorem dJ0_coder_7d493_0 : decode cJ0_coder_7d493 0 = .ok (.getstatic 38, 3) := by decide +kernel
theorem dJ0_coder_7d493_3 : decode cJ0_coder_7d493 3 = .ok (.ifCond .eq 10, 3) := by decide +kernel
theorem dJ0_coder_7d493_6 : decode cJ0_coder_7d493 6 = .ok (.aload_n 0, 1) := by decide +kernel
theorem dJ0_coder_7d493_7 : decode cJ0_coder_7d493 7 = .ok (.getfield 15, 3) := by decide +kernel
theorem dJ0_coder_7d493_10 : decode cJ0_coder_7d493 10 = .ok (.goto 4, 3) := by decide +kernel
theorem dJ0_coder_7d493_13 : decode cJ0_coder_7d493 13 = .ok (.iconst 1, 1) := by decide +kernel
theorem dJ0_coder_7d493_14 : decode cJ0_coder_7d493 14 = .ok (.ireturn, 1) := by decide +kernel
theorem dJ0_length_8abf5_0 : decode cJ0_length_8abf5 0 = .ok (.aload_n 0, 1) := by decide +kernel
theorem dJ0_length_8abf5_1 : decode cJ0_length_8abf5 1 = .ok (.getfield 9, 3) := by decide +kernel
theorem dJ0_length_8abf5_4 : decode cJ0_length_8abf5 4 = .ok (.arraylength, 1) := by decide +kernel
theorem dJ0_length_8abf5_5 : decode cJ0_length_8abf5 5 = .ok (.aload_n 0, 1) := by decide +kernel
theorem dJ0_length_8abf5_6 : decode cJ0_length_8abf5 6 = .ok (.invokevirtual 335, 3) := by decide +kernel
theorem dJ0_length_8abf5_9 : decode cJ0_length_8abf5 9 = .ok (.ishr, 1) := by decide +kernel
theorem dJ0_length_8abf5_10 : decode cJ0_length_8abf5 10 = .ok (.ireturn, 1) := by decide +kernel
theorem dJ1_canEncode_9a6ad_0 : decode cJ1_canEncode_9a6ad 0 = .ok (.iload_n 0, 1) := by decide +kernel
theorem dJ1_canEncode_9a6ad_1 : decode cJ1_canEncode_9a6ad 1 = .ok (.ifCond .lt 14, 3) := by decide +kernel
theorem dJ1_canEncode_9a6ad_4 : decode cJ1_canEncode_9a6ad 4 = .ok (.iload_n 0, 1) := by decide +kernel
theorem dJ1_canEncode_9a6ad_5 : decode cJ1_canEncode_9a6ad 5 = .ok (.sipush 255, 3) := by decide +kernel
theorem dJ1_canEncode_9a6ad_8 : decode cJ1_canEncode_9a6ad 8 = .ok (.if_icmp .gt 7, 3) := by decide +kernel
theorem dJ1_canEncode_9a6ad_11 : decode cJ1_canEncode_9a6ad 11 = .ok (.iconst 1, 1) := by decide +kernel
theorem dJ1_canEncode_9a6ad_12 : decode cJ1_canEncode_9a6ad 12 = .ok (.goto 4, 3) := by decide +kernel
theorem dJ1_canEncode_9a6ad_15 : decode cJ1_canEncode_9a6ad 15 = .ok (.iconst 0, 1) := by decide +kernel
theorem dJ1_canEncode_9a6ad_16 : decode cJ1_canEncode_9a6ad 16 = .ok (.ireturn, 1) := by decide +kernel
theorem dJ1_indexOfChar_4cfef_0 : decode cJ1_indexOfChar_4cfef 0 = .ok (.iload_n 1, 1) := by decide +kernel
theorem dJ1_indexOfChar_4cfef_1 : decode cJ1_indexOfChar_4cfef 1 = .ok (.i2b, 1) := by decide +kernel
theorem dJ1_indexOfChar_4cfef_2 : decode cJ1_indexOfChar_4cfef 2 = .ok (.istore 4, 2) := by decide +kernel
theorem dJ1_indexOfChar_4cfef_4 : decode cJ1_indexOfChar_4cfef 4 = .ok (.iload_n 2, 1) := by decide +kernel
theorem dJ1_indexOfChar_4cfef_5 : decode cJ1_indexOfChar_4cfef 5 = .ok (.istore 5, 2) := by decide +kernel
theorem dJ1_indexOfChar_4cfef_7 : decode cJ1_indexOfChar_4cfef 7 = .ok (.iload 5, 2) := by decide +kernel
theorem dJ1_indexOfChar_4cfef_9 : decode cJ1_indexOfChar_4cfef 9 = .ok (.iload_n 3, 1) := by decide +kernel
theorem dJ1_indexOfChar_4cfef_10 : decode cJ1_indexOfChar_4cfef 10 = .ok (.if_icmp .ge 21, 3) := by decide +kernel
theorem dJ1_indexOfChar_4cfef_13 : decode cJ1_indexOfChar_4cfef 13 = .ok (.aload_n 0, 1) := by decide +kernel
theorem dJ1_indexOfChar_4cfef_14 : decode cJ1_indexOfChar_4cfef 14 = .ok (.iload 5, 2) := by decide +kernel
theorem dJ1_indexOfChar_4cfef_16 : decode cJ1_indexOfChar_4cfef 16 = .ok (.baload, 1) := by decide +kernel
theorem dJ1_indexOfChar_4cfef_17 : decode cJ1_indexOfChar_4cfef 17 = .ok (.iload 4, 2) := by decide +kernel
theorem dJ1_indexOfChar_4cfef_19 : decode cJ1_indexOfChar_4cfef 19 = .ok (.if_icmp .ne 6, 3) := by decide +kernel
theorem dJ1_indexOfChar_4cfef_22 : decode cJ1_indexOfChar_4cfef 22 = .ok (.iload 5, 2) := by decide +kernel
theorem dJ1_indexOfChar_4cfef_24 : decode cJ1_indexOfChar_4cfef 24 = .ok (.ireturn, 1) := by decide +kernel
theorem dJ1_indexOfChar_4cfef_25 : decode cJ1_indexOfChar_4cfef 25 = .ok (.iinc 5 1, 3) := by decide +kernel
theorem dJ1_indexOfChar_4cfef_28 : decode cJ1_indexOfChar_4cfef 28 = .ok (.goto (-21), 3) := by decide +kernel
theorem dJ1_indexOfChar_4cfef_31 : decode cJ1_indexOfChar_4cfef 31 = .ok (.iconst (-1), 1) := by decide +kernel
theorem dJ1_indexOfChar_4cfef_32 : decode cJ1_indexOfChar_4cfef 32 = .ok (.ireturn, 1) := by decide +kernel
theorem dJ1_indexOf_4cfef_0 : decode cJ1_indexOf_4cfef 0 = .ok (.iload_n 1, 1) := by decide +kernel
theorem dJ1_indexOf_4cfef_1 : decode cJ1_indexOf_4cfef 1 = .ok (.invokestatic 88, 3) := by decide +kernel
theorem dJ1_indexOf_4cfef_4 : decode cJ1_indexOf_4cfef 4 = .ok (.ifCond .ne 5, 3) := by decide +kernel
theorem dJ1_indexOf_4cfef_7 : decode cJ1_indexOf_4cfef 7 = .ok (.iconst (-1), 1) := by decide +kernel
theorem dJ1_indexOf_4cfef_8 : decode cJ1_indexOf_4cfef 8 = .ok (.ireturn, 1) := by decide +kernel
theorem dJ1_indexOf_4cfef_9 : decode cJ1_indexOf_4cfef 9 = .ok (.iload_n 2, 1) := by decide +kernel
theorem dJ1_indexOf_4cfef_10 : decode cJ1_indexOf_4cfef 10 = .ok (.iconst 0, 1) := by decide +kernel
theorem dJ1_indexOf_4cfef_11 : decode cJ1_indexOf_4cfef 11 = .ok (.invokestatic 92, 3) := by decide +kernel
theorem dJ1_indexOf_4cfef_14 : decode cJ1_indexOf_4cfef 14 = .ok (.istore_n 2, 1) := by decide +kernel
theorem dJ1_indexOf_4cfef_15 : decode cJ1_indexOf_4cfef 15 = .ok (.iload_n 3, 1) := by decide +kernel
theorem dJ1_indexOf_4cfef_16 : decode cJ1_indexOf_4cfef 16 = .ok (.aload_n 0, 1) := by decide +kernel
theorem dJ1_indexOf_4cfef_17 : decode cJ1_indexOf_4cfef 17 = .ok (.arraylength, 1) := by decide +kernel
theorem dJ1_indexOf_4cfef_18 : decode cJ1_indexOf_4cfef 18 = .ok (.invokestatic 38, 3) := by decide +kernel
theorem dJ1_indexOf_4cfef_21 : decode cJ1_indexOf_4cfef 21 = .ok (.istore_n 3, 1) := by decide +kernel
theorem dJ1_indexOf_4cfef_22 : decode cJ1_indexOf_4cfef 22 = .ok (.iload_n 2, 1) := by decide +kernel
theorem dJ1_indexOf_4cfef_23 : decode cJ1_indexOf_4cfef 23 = .ok (.iload_n 3, 1) := by decide +kernel
theorem dJ1_indexOf_4cfef_24 : decode cJ1_indexOf_4cfef 24 = .ok (.if_icmp .lt 5, 3) := by decide +kernel
theorem dJ1_indexOf_4cfef_27 : decode cJ1_indexOf_4cfef 27 = .ok (.iconst (-1), 1) := by decide +kernel
theorem dJ1_indexOf_4cfef_28 : decode cJ1_indexOf_4cfef 28 = .ok (.ireturn, 1) := by decide +kernel
theorem dJ1_indexOf_4cfef_29 : decode cJ1_indexOf_4cfef 29 = .ok (.aload_n 0, 1) := by decide +kernel
theorem dJ1_indexOf_4cfef_30 : decode cJ1_indexOf_4cfef 30 = .ok (.iload_n 1, 1) := by decide +kernel
theorem dJ1_indexOf_4cfef_31 : decode cJ1_indexOf_4cfef 31 = .ok (.iload_n 2, 1) := by decide +kernel
theorem dJ1_indexOf_4cfef_32 : decode cJ1_indexOf_4cfef 32 = .ok (.iload_n 3, 1) := by decide +kernel
theorem dJ1_indexOf_4cfef_33 : decode cJ1_indexOf_4cfef 33 = .ok (.invokestatic 95, 3) := by decide +kernel
theorem dJ1_indexOf_4cfef_36 : decode cJ1_indexOf_4cfef 36 = .ok (.ireturn, 1) := by decide +kernel
theorem dJ0_indexOf_7cf53_0 : decode cJ0_indexOf_7cf53 0 = .ok (.aload_n 0, 1) := by decide +kernel
theorem dJ0_indexOf_7cf53_1 : decode cJ0_indexOf_7cf53 1 = .ok (.invokevirtual 492, 3) := by decide +kernel
theorem dJ0_indexOf_7cf53_4 : decode cJ0_indexOf_7cf53 4 = .ok (.ifCond .eq 19, 3) := by decide +kernel
theorem dJ0_indexOf_7cf53_7 : decode cJ0_indexOf_7cf53 7 = .ok (.aload_n 0, 1) := by decide +kernel
theorem dJ0_indexOf_7cf53_8 : decode cJ0_indexOf_7cf53 8 = .ok (.getfield 9, 3) := by decide +kernel
theorem dJ0_indexOf_7cf53_11 : decode cJ0_indexOf_7cf53 11 = .ok (.iload_n 1, 1) := by decide +kernel
theorem dJ0_indexOf_7cf53_12 : decode cJ0_indexOf_7cf53 12 = .ok (.iload_n 2, 1) := by decide +kernel
theorem dJ0_indexOf_7cf53_13 : decode cJ0_indexOf_7cf53 13 = .ok (.aload_n 0, 1) := by decide +kernel
theorem dJ0_indexOf_7cf53_14 : decode cJ0_indexOf_7cf53 14 = .ok (.invokevirtual 505, 3) := by decide +kernel
theorem dJ0_indexOf_7cf53_17 : decode cJ0_indexOf_7cf53 17 = .ok (.invokestatic 637, 3) := by decide +kernel
theorem dJ0_indexOf_7cf53_20 : decode cJ0_indexOf_7cf53 20 = .ok (.goto 16, 3) := by decide +kernel
theorem dJ0_indexOf_7cf53_23 : decode cJ0_indexOf_7cf53 23 = .ok (.aload_n 0, 1) := by decide +kernel
theorem dJ0_indexOf_7cf53_36 : decode cJ0_indexOf_7cf53 36 = .ok (.ireturn, 1) := by decide +kernel
theorem dJ0_indexOf_0f7a4_0 : decode cJ0_indexOf_0f7a4 0 = .ok (.aload_n 0, 1) := by decide +kernel
theorem dJ0_indexOf_0f7a4_1 : decode cJ0_indexOf_0f7a4 1 = .ok (.iload_n 1, 1) := by decide +kernel
theorem dJ0_indexOf_0f7a4_2 : decode cJ0_indexOf_0f7a4 2 = .ok (.iconst 0, 1) := by decide +kernel
theorem dJ0_indexOf_0f7a4_3 : decode cJ0_indexOf_0f7a4 3 = .ok (.invokevirtual 633, 3) := by decide +kernel
theorem dJ0_indexOf_0f7a4_6 : decode cJ0_indexOf_0f7a4 6 = .ok (.ireturn, 1) := by decide +kernel
theorem dX11_way_0 : decode cX11_way 0 = .ok (.ldc 213, 2) := by decide +kernel
theorem dX11_way_2 : decode cX11_way 2 = .ok (.iload_n 1, 1) := by decide +kernel
theorem dX11_way_3 : decode cX11_way 3 = .ok (.invokevirtual 215, 3) := by decide +kernel
theorem dX11_way_6 : decode cX11_way 6 = .ok (.ifCond .ge 13, 3) := by decide +kernel
theorem dX11_way_9 : decode cX11_way 9 = .ok (.new 109, 3) := by decide +kernel
theorem dX11_way_12 : decode cX11_way 12 = .ok (.dup, 1) := by decide +kernel
theorem dX11_way_13 : decode cX11_way 13 = .ok (.ldc 220, 2) := by decide +kernel
theorem dX11_way_15 : decode cX11_way 15 = .ok (.invokespecial 113, 3) := by decide +kernel
theorem dX11_way_18 : decode cX11_way 18 = .ok (.athrow, 1) := by decide +kernel
theorem dX11_way_19 : decode cX11_way 19 = .ok (.aload_n 0, 1) := by decide +kernel
theorem dX11_way_20 : decode cX11_way 20 = .ok (.getfield 49, 3) := by decide +kernel
theorem dX11_way_23 : decode cX11_way 23 = .ok (.getfield 222, 3) := by decide +kernel
theorem dX11_way_26 : decode cX11_way 26 = .ok (.istore_n 2, 1) := by decide +kernel
theorem dX11_way_27 : decode cX11_way 27 = .ok (.aload_n 0, 1) := by decide +kernel
theorem dX11_way_28 : decode cX11_way 28 = .ok (.getfield 49, 3) := by decide +kernel
theorem dX11_way_31 : decode cX11_way 31 = .ok (.iload_n 1, 1) := by decide +kernel
theorem dX11_way_32 : decode cX11_way 32 = .ok (.putfield 222, 3) := by decide +kernel
theorem dX11_way_35 : decode cX11_way 35 = .ok (.iload_n 2, 1) := by decide +kernel
theorem dX11_way_36 : decode cX11_way 36 = .ok (.ireturn, 1) := by decide +kernel
theorem dX11_places_0 : decode cX11_places 0 = .ok (.aload_n 0, 1) := by decide +kernel
theorem dX11_places_1 : decode cX11_places 1 = .ok (.iload_n 1, 1) := by decide +kernel
theorem dX11_places_2 : decode cX11_places 2 = .ok (.iconst 1, 1) := by decide +kernel
theorem dX11_places_3 : decode cX11_places 3 = .ok (.iconst 4, 1) := by decide +kernel
theorem dX11_places_4 : decode cX11_places 4 = .ok (.invokevirtual 87, 3) := by decide +kernel
theorem dX11_places_7 : decode cX11_places 7 = .ok (.aload_n 0, 1) := by decide +kernel
theorem dX11_places_8 : decode cX11_places 8 = .ok (.getfield 225, 3) := by decide +kernel
theorem dX11_places_11 : decode cX11_places 11 = .ok (.istore_n 2, 1) := by decide +kernel
theorem dX11_places_12 : decode cX11_places 12 = .ok (.aload_n 0, 1) := by decide +kernel
theorem dX11_places_13 : decode cX11_places 13 = .ok (.iload_n 1, 1) := by decide +kernel
theorem dX11_places_14 : decode cX11_places 14 = .ok (.invokevirtual 228, 3) := by decide +kernel
theorem dX11_places_17 : decode cX11_places 17 = .ok (.iload_n 2, 1) := by decide +kernel
theorem dX11_places_18 : decode cX11_places 18 = .ok (.ireturn, 1) := by decide +kernel
theorem dX11_needRow_0 : decode cX11_needRow 0 = .ok (.ldc 243, 2) := by decide +kernel
theorem dX11_needRow_2 : decode cX11_needRow 2 = .ok (.iload_n 2, 1) := by decide +kernel
theorem dX11_needRow_3 : decode cX11_needRow 3 = .ok (.invokevirtual 215, 3) := by decide +kernel
theorem dX11_needRow_6 : decode cX11_needRow 6 = .ok (.istore 5, 2) := by decide +kernel
theorem dX11_needRow_8 : decode cX11_needRow 8 = .ok (.iload 5, 2) := by decide +kernel
theorem dX11_needRow_10 : decode cX11_needRow 10 = .ok (.ifCond .lt 19, 3) := by decide +kernel
theorem dX11_needRow_13 : decode cX11_needRow 13 = .ok (.iload 5, 2) := by decide +kernel
theorem dX11_needRow_15 : decode cX11_needRow 15 = .ok (.iload 4, 2) := by decide +kernel
theorem dX11_needRow_17 : decode cX11_needRow 17 = .ok (.if_icmp .ge 12, 3) := by decide +kernel
theorem dX11_needRow_20 : decode cX11_needRow 20 = .ok (.iload_n 3, 1) := by decide +kernel
theorem dX11_needRow_21 : decode cX11_needRow 21 = .ok (.ifCond .lt 8, 3) := by decide +kernel
theorem dX11_needRow_24 : decode cX11_needRow 24 = .ok (.iload_n 3, 1) := by decide +kernel
theorem dX11_needRow_25 : decode cX11_needRow 25 = .ok (.iconst 2, 1) := by decide +kernel
theorem dX11_needRow_26 : decode cX11_needRow 26 = .ok (.if_icmp .lt 14, 3) := by decide +kernel
theorem dX11_needRow_29 : decode cX11_needRow 29 = .ok (.new 109, 3) := by decide +kernel
theorem dX11_needRow_32 : decode cX11_needRow 32 = .ok (.dup, 1) := by decide +kernel
theorem dX11_needRow_33 : decode cX11_needRow 33 = .ok (.ldc_w 441, 3) := by decide +kernel
theorem dX11_needRow_36 : decode cX11_needRow 36 = .ok (.invokespecial 113, 3) := by decide +kernel
theorem dX11_needRow_39 : decode cX11_needRow 39 = .ok (.athrow, 1) := by decide +kernel
theorem dX11_needRow_40 : decode cX11_needRow 40 = .ok (.aload_n 0, 1) := by decide +kernel
theorem dX11_needRow_41 : decode cX11_needRow 41 = .ok (.getfield 34, 3) := by decide +kernel
theorem dX11_needRow_44 : decode cX11_needRow 44 = .ok (.iload_n 1, 1) := by decide +kernel
theorem dX11_needRow_45 : decode cX11_needRow 45 = .ok (.aaload, 1) := by decide +kernel
theorem dX11_needRow_46 : decode cX11_needRow 46 = .ok (.getfield 443, 3) := by decide +kernel
theorem dX11_needRow_49 : decode cX11_needRow 49 = .ok (.iload_n 3, 1) := by decide +kernel
theorem dX11_needRow_50 : decode cX11_needRow 50 = .ok (.iconst 5, 1) := by decide +kernel
theorem dX11_needRow_51 : decode cX11_needRow 51 = .ok (.imul, 1) := by decide +kernel
theorem dX11_needRow_52 : decode cX11_needRow 52 = .ok (.iload 5, 2) := by decide +kernel
theorem dX11_needRow_54 : decode cX11_needRow 54 = .ok (.iadd, 1) := by decide +kernel
theorem dX11_needRow_55 : decode cX11_needRow 55 = .ok (.aaload, 1) := by decide +kernel
theorem dX11_needRow_56 : decode cX11_needRow 56 = .ok (.areturn, 1) := by decide +kernel
theorem dX11_row_0 : decode cX11_row 0 = .ok (.aload_n 0, 1) := by decide +kernel
theorem dX11_row_1 : decode cX11_row 1 = .ok (.iload_n 1, 1) := by decide +kernel
theorem dX11_row_2 : decode cX11_row 2 = .ok (.invokevirtual 103, 3) := by decide +kernel
theorem dX11_row_5 : decode cX11_row 5 = .ok (.aload_n 0, 1) := by decide +kernel
theorem dX11_row_6 : decode cX11_row 6 = .ok (.iload_n 1, 1) := by decide +kernel
theorem dX11_row_7 : decode cX11_row 7 = .ok (.iload_n 2, 1) := by decide +kernel
theorem dX11_row_8 : decode cX11_row 8 = .ok (.iload_n 3, 1) := by decide +kernel
theorem dX11_row_9 : decode cX11_row 9 = .ok (.iconst 5, 1) := by decide +kernel
theorem dX11_row_10 : decode cX11_row 10 = .ok (.invokevirtual 231, 3) := by decide +kernel
theorem dX11_row_13 : decode cX11_row 13 = .ok (.getfield 235, 3) := by decide +kernel
theorem dX11_row_16 : decode cX11_row 16 = .ok (.ireturn, 1) := by decide +kernel
theorem dX11_owner_0 : decode cX11_owner 0 = .ok (.aload_n 0, 1) := by decide +kernel
theorem dX11_owner_1 : decode cX11_owner 1 = .ok (.iload_n 1, 1) := by decide +kernel
theorem dX11_owner_2 : decode cX11_owner 2 = .ok (.invokevirtual 103, 3) := by decide +kernel
theorem dX11_owner_5 : decode cX11_owner 5 = .ok (.aload_n 0, 1) := by decide +kernel
theorem dX11_owner_6 : decode cX11_owner 6 = .ok (.iload_n 1, 1) := by decide +kernel
theorem dX11_owner_7 : decode cX11_owner 7 = .ok (.iload_n 2, 1) := by decide +kernel
theorem dX11_owner_8 : decode cX11_owner 8 = .ok (.iload_n 3, 1) := by decide +kernel
theorem dX11_owner_9 : decode cX11_owner 9 = .ok (.iconst 4, 1) := by decide +kernel
theorem dX11_owner_10 : decode cX11_owner 10 = .ok (.invokevirtual 231, 3) := by decide +kernel
theorem dX11_owner_13 : decode cX11_owner 13 = .ok (.getfield 240, 3) := by decide +kernel
theorem dX11_owner_16 : decode cX11_owner 16 = .ok (.ireturn, 1) := by decide +kernel
theorem dX11_sleep_0 : decode cX11_sleep 0 = .ok (.aload_n 0, 1) := by decide +kernel
theorem dX11_sleep_1 : decode cX11_sleep 1 = .ok (.iload_n 1, 1) := by decide +kernel
theorem dX11_sleep_2 : decode cX11_sleep 2 = .ok (.invokevirtual 103, 3) := by decide +kernel
theorem dX11_sleep_5 : decode cX11_sleep 5 = .ok (.aload_n 0, 1) := by decide +kernel
theorem dX11_sleep_6 : decode cX11_sleep 6 = .ok (.getfield 34, 3) := by decide +kernel
theorem dX11_sleep_9 : decode cX11_sleep 9 = .ok (.iload_n 1, 1) := by decide +kernel
theorem dX11_sleep_10 : decode cX11_sleep 10 = .ok (.aaload, 1) := by decide +kernel
theorem dX11_sleep_11 : decode cX11_sleep 11 = .ok (.astore_n 2, 1) := by decide +kernel
theorem dX11_sleep_12 : decode cX11_sleep 12 = .ok (.aload_n 2, 1) := by decide +kernel
theorem dX11_sleep_13 : decode cX11_sleep 13 = .ok (.invokevirtual 264, 3) := by decide +kernel
theorem dX11_sleep_16 : decode cX11_sleep 16 = .ok (.ifCond .eq 15, 3) := by decide +kernel
theorem dX11_sleep_19 : decode cX11_sleep 19 = .ok (.aload_n 0, 1) := by decide +kernel
theorem dX11_sleep_20 : decode cX11_sleep 20 = .ok (.getfield 40, 3) := by decide +kernel
theorem dX11_sleep_23 : decode cX11_sleep 23 = .ok (.iload_n 1, 1) := by decide +kernel
theorem dX11_sleep_24 : decode cX11_sleep 24 = .ok (.aaload, 1) := by decide +kernel
theorem dX11_sleep_25 : decode cX11_sleep 25 = .ok (.invokevirtual 267, 3) := by decide +kernel
theorem dX11_sleep_28 : decode cX11_sleep 28 = .ok (.ifCond .eq 14, 3) := by decide +kernel
theorem dX11_sleep_31 : decode cX11_sleep 31 = .ok (.new 251, 3) := by decide +kernel
theorem dX11_sleep_34 : decode cX11_sleep 34 = .ok (.dup, 1) := by decide +kernel
theorem dX11_sleep_35 : decode cX11_sleep 35 = .ok (.ldc_w 270, 3) := by decide +kernel
theorem dX11_sleep_38 : decode cX11_sleep 38 = .ok (.invokespecial 255, 3) := by decide +kernel
theorem dX11_sleep_41 : decode cX11_sleep 41 = .ok (.athrow, 1) := by decide +kernel
theorem dX11_sleep_42 : decode cX11_sleep 42 = .ok (.aload_n 2, 1) := by decide +kernel
theorem dX11_sleep_43 : decode cX11_sleep 43 = .ok (.getfield 272, 3) := by decide +kernel
theorem dX11_sleep_46 : decode cX11_sleep 46 = .ok (.istore_n 3, 1) := by decide +kernel
theorem dX11_sleep_47 : decode cX11_sleep 47 = .ok (.aload_n 2, 1) := by decide +kernel
theorem dX11_sleep_48 : decode cX11_sleep 48 = .ok (.iconst 0, 1) := by decide +kernel
theorem dX11_sleep_49 : decode cX11_sleep 49 = .ok (.putfield 272, 3) := by decide +kernel
theorem dX11_sleep_52 : decode cX11_sleep 52 = .ok (.iload_n 3, 1) := by decide +kernel
theorem dX11_sleep_53 : decode cX11_sleep 53 = .ok (.ireturn, 1) := by decide +kernel
theorem dX11_isAwake_0 : decode cX11_isAwake 0 = .ok (.aload_n 0, 1) := by decide +kernel
theorem dX11_isAwake_1 : decode cX11_isAwake 1 = .ok (.iload_n 1, 1) := by decide +kernel
theorem dX11_isAwake_2 : decode cX11_isAwake 2 = .ok (.invokevirtual 103, 3) := by decide +kernel
theorem dX11_isAwake_5 : decode cX11_isAwake 5 = .ok (.aload_n 0, 1) := by decide +kernel
theorem dX11_isAwake_6 : decode cX11_isAwake 6 = .ok (.getfield 34, 3) := by decide +kernel
theorem dX11_isAwake_9 : decode cX11_isAwake 9 = .ok (.iload_n 1, 1) := by decide +kernel
theorem dX11_isAwake_10 : decode cX11_isAwake 10 = .ok (.aaload, 1) := by decide +kernel
theorem dX11_isAwake_11 : decode cX11_isAwake 11 = .ok (.getfield 272, 3) := by decide +kernel
theorem dX11_isAwake_14 : decode cX11_isAwake 14 = .ok (.ireturn, 1) := by decide +kernel
theorem dX11_memory_0 : decode cX11_memory 0 = .ok (.aload_n 0, 1) := by decide +kernel
theorem dX11_memory_1 : decode cX11_memory 1 = .ok (.iload_n 1, 1) := by decide +kernel
theorem dX11_memory_2 : decode cX11_memory 2 = .ok (.invokevirtual 103, 3) := by decide +kernel
theorem dX11_memory_5 : decode cX11_memory 5 = .ok (.aload_n 0, 1) := by decide +kernel
theorem dX11_memory_6 : decode cX11_memory 6 = .ok (.iload_n 2, 1) := by decide +kernel
theorem dX11_memory_7 : decode cX11_memory 7 = .ok (.iconst 0, 1) := by decide +kernel
theorem dX11_memory_8 : decode cX11_memory 8 = .ok (.bipush 7, 2) := by decide +kernel
theorem dX11_memory_10 : decode cX11_memory 10 = .ok (.invokevirtual 87, 3) := by decide +kernel
theorem dX11_memory_13 : decode cX11_memory 13 = .ok (.aload_n 0, 1) := by decide +kernel
theorem dX11_memory_14 : decode cX11_memory 14 = .ok (.getfield 40, 3) := by decide +kernel
theorem dX11_memory_17 : decode cX11_memory 17 = .ok (.iload_n 1, 1) := by decide +kernel
theorem dX11_memory_18 : decode cX11_memory 18 = .ok (.aaload, 1) := by decide +kernel
theorem dX11_memory_19 : decode cX11_memory 19 = .ok (.getfield 329, 3) := by decide +kernel
theorem dX11_memory_22 : decode cX11_memory 22 = .ok (.iload_n 2, 1) := by decide +kernel
theorem dX11_memory_23 : decode cX11_memory 23 = .ok (.iaload, 1) := by decide +kernel
theorem dX11_memory_24 : decode cX11_memory 24 = .ok (.ireturn, 1) := by decide +kernel
theorem dX11_set_0 : decode cX11_set 0 = .ok (.aload_n 0, 1) := by decide +kernel
theorem dX11_set_1 : decode cX11_set 1 = .ok (.iload_n 1, 1) := by decide +kernel
theorem dX11_set_2 : decode cX11_set 2 = .ok (.invokevirtual 103, 3) := by decide +kernel
theorem dX11_set_5 : decode cX11_set 5 = .ok (.aload_n 0, 1) := by decide +kernel
theorem dX11_set_6 : decode cX11_set 6 = .ok (.iload_n 2, 1) := by decide +kernel
theorem dX11_set_7 : decode cX11_set 7 = .ok (.iconst 0, 1) := by decide +kernel
theorem dX11_set_8 : decode cX11_set 8 = .ok (.bipush 7, 2) := by decide +kernel
theorem dX11_set_10 : decode cX11_set 10 = .ok (.invokevirtual 87, 3) := by decide +kernel
theorem dX11_set_13 : decode cX11_set 13 = .ok (.aload_n 0, 1) := by decide +kernel
theorem dX11_set_14 : decode cX11_set 14 = .ok (.getfield 40, 3) := by decide +kernel
theorem dX11_set_17 : decode cX11_set 17 = .ok (.iload_n 1, 1) := by decide +kernel
theorem dX11_set_18 : decode cX11_set 18 = .ok (.aaload, 1) := by decide +kernel
theorem dX11_set_19 : decode cX11_set 19 = .ok (.getfield 329, 3) := by decide +kernel
theorem dX11_set_22 : decode cX11_set 22 = .ok (.iload_n 2, 1) := by decide +kernel
theorem dX11_set_23 : decode cX11_set 23 = .ok (.iaload, 1) := by decide +kernel
theorem dX11_set_24 : decode cX11_set 24 = .ok (.istore 4, 2) := by decide +kernel
theorem dX11_set_26 : decode cX11_set 26 = .ok (.aload_n 0, 1) := by decide +kernel
theorem dX11_set_27 : decode cX11_set 27 = .ok (.getfield 40, 3) := by decide +kernel
theorem dX11_set_30 : decode cX11_set 30 = .ok (.iload_n 1, 1) := by decide +kernel
theorem dX11_set_31 : decode cX11_set 31 = .ok (.aaload, 1) := by decide +kernel
theorem dX11_set_32 : decode cX11_set 32 = .ok (.getfield 329, 3) := by decide +kernel
theorem dX11_set_35 : decode cX11_set 35 = .ok (.iload_n 2, 1) := by decide +kernel
theorem dX11_set_36 : decode cX11_set 36 = .ok (.iload_n 3, 1) := by decide +kernel
theorem dX11_set_37 : decode cX11_set 37 = .ok (.iastore, 1) := by decide +kernel
theorem dX11_set_38 : decode cX11_set 38 = .ok (.iload 4, 2) := by decide +kernel
theorem dX11_set_40 : decode cX11_set 40 = .ok (.ireturn, 1) := by decide +kernel
theorem dX11_lostShare_0 : decode cX11_lostShare 0 = .ok (.aload_n 0, 1) := by decide +kernel
theorem dX11_lostShare_1 : decode cX11_lostShare 1 = .ok (.getfield 19, 3) := by decide +kernel
theorem dX11_lostShare_4 : decode cX11_lostShare 4 = .ok (.getfield 175, 3) := by decide +kernel
theorem dX11_lostShare_7 : decode cX11_lostShare 7 = .ok (.ifCond .ne 14, 3) := by decide +kernel
theorem dX11_lostShare_10 : decode cX11_lostShare 10 = .ok (.new 146, 3) := by decide +kernel
theorem dX11_lostShare_13 : decode cX11_lostShare 13 = .ok (.dup, 1) := by decide +kernel
theorem dX11_lostShare_14 : decode cX11_lostShare 14 = .ok (.ldc_w 383, 3) := by decide +kernel
theorem dX11_lostShare_17 : decode cX11_lostShare 17 = .ok (.invokespecial 150, 3) := by decide +kernel
theorem dX11_lostShare_20 : decode cX11_lostShare 20 = .ok (.athrow, 1) := by decide +kernel
theorem dX11_lostShare_21 : decode cX11_lostShare 21 = .ok (.aload_n 0, 1) := by decide +kernel
theorem dX11_lostShare_22 : decode cX11_lostShare 22 = .ok (.getfield 19, 3) := by decide +kernel
theorem dX11_lostShare_25 : decode cX11_lostShare 25 = .ok (.invokevirtual 385, 3) := by decide +kernel
theorem dX11_lostShare_28 : decode cX11_lostShare 28 = .ok (.i2f, 1) := by decide +kernel
theorem dX11_lostShare_29 : decode cX11_lostShare 29 = .ok (.aload_n 0, 1) := by decide +kernel
theorem dX11_lostShare_30 : decode cX11_lostShare 30 = .ok (.getfield 19, 3) := by decide +kernel
theorem dX11_lostShare_33 : decode cX11_lostShare 33 = .ok (.getfield 175, 3) := by decide +kernel
theorem dX11_lostShare_36 : decode cX11_lostShare 36 = .ok (.i2f, 1) := by decide +kernel
theorem dX11_lostShare_37 : decode cX11_lostShare 37 = .ok (.fdiv, 1) := by decide +kernel
theorem dX11_lostShare_38 : decode cX11_lostShare 38 = .ok (.freturn, 1) := by decide +kernel
theorem dX11_packetsAreSound_0 : decode cX11_packetsAreSound 0 = .ok (.iconst 0, 1) := by decide +kernel
theorem dX11_packetsAreSound_1 : decode cX11_packetsAreSound 1 = .ok (.istore_n 1, 1) := by decide +kernel
theorem dX11_packetsAreSound_2 : decode cX11_packetsAreSound 2 = .ok (.iload_n 1, 1) := by decide +kernel
theorem dX11_packetsAreSound_3 : decode cX11_packetsAreSound 3 = .ok (.aload_n 0, 1) := by decide +kernel
theorem dX11_packetsAreSound_4 : decode cX11_packetsAreSound 4 = .ok (.getfield 19, 3) := by decide +kernel
theorem dX11_packetsAreSound_7 : decode cX11_packetsAreSound 7 = .ok (.getfield 175, 3) := by decide +kernel
theorem dX11_packetsAreSound_10 : decode cX11_packetsAreSound 10 = .ok (.if_icmp .ge 47, 3) := by decide +kernel
theorem dX11_packetsAreSound_13 : decode cX11_packetsAreSound 13 = .ok (.aload_n 0, 1) := by decide +kernel
theorem dX11_packetsAreSound_14 : decode cX11_packetsAreSound 14 = .ok (.getfield 19, 3) := by decide +kernel
theorem dX11_packetsAreSound_17 : decode cX11_packetsAreSound 17 = .ok (.getfield 379, 3) := by decide +kernel
theorem dX11_packetsAreSound_20 : decode cX11_packetsAreSound 20 = .ok (.iload_n 1, 1) := by decide +kernel
theorem dX11_packetsAreSound_21 : decode cX11_packetsAreSound 21 = .ok (.aaload, 1) := by decide +kernel
theorem dX11_packetsAreSound_22 : decode cX11_packetsAreSound 22 = .ok (.getfield 151, 3) := by decide +kernel
theorem dX11_packetsAreSound_25 : decode cX11_packetsAreSound 25 = .ok (.bipush 119, 2) := by decide +kernel
theorem dX11_packetsAreSound_27 : decode cX11_packetsAreSound 27 = .ok (.if_icmp .ne 24, 3) := by decide +kernel
theorem dX11_packetsAreSound_30 : decode cX11_packetsAreSound 30 = .ok (.aload_n 0, 1) := by decide +kernel
theorem dX11_packetsAreSound_31 : decode cX11_packetsAreSound 31 = .ok (.getfield 74, 3) := by decide +kernel
theorem dX11_packetsAreSound_34 : decode cX11_packetsAreSound 34 = .ok (.aload_n 0, 1) := by decide +kernel
theorem dX11_packetsAreSound_35 : decode cX11_packetsAreSound 35 = .ok (.getfield 19, 3) := by decide +kernel
theorem dX11_packetsAreSound_38 : decode cX11_packetsAreSound 38 = .ok (.getfield 379, 3) := by decide +kernel
theorem dX11_packetsAreSound_41 : decode cX11_packetsAreSound 41 = .ok (.iload_n 1, 1) := by decide +kernel
theorem dX11_packetsAreSound_42 : decode cX11_packetsAreSound 42 = .ok (.aaload, 1) := by decide +kernel
theorem dX11_packetsAreSound_43 : decode cX11_packetsAreSound 43 = .ok (.invokevirtual 415, 3) := by decide +kernel
theorem dX11_packetsAreSound_46 : decode cX11_packetsAreSound 46 = .ok (.ifCond .ne 5, 3) := by decide +kernel
theorem dX11_packetsAreSound_49 : decode cX11_packetsAreSound 49 = .ok (.iconst 0, 1) := by decide +kernel
theorem dX11_packetsAreSound_50 : decode cX11_packetsAreSound 50 = .ok (.ireturn, 1) := by decide +kernel
theorem dX11_packetsAreSound_51 : decode cX11_packetsAreSound 51 = .ok (.iinc 1 1, 3) := by decide +kernel
theorem dX11_packetsAreSound_54 : decode cX11_packetsAreSound 54 = .ok (.goto (-52), 3) := by decide +kernel
theorem dX11_packetsAreSound_57 : decode cX11_packetsAreSound 57 = .ok (.iconst 1, 1) := by decide +kernel
theorem dX11_packetsAreSound_58 : decode cX11_packetsAreSound 58 = .ok (.ireturn, 1) := by decide +kernel
theorem dX11_isSound_0 : decode cX11_isSound 0 = .ok (.aload_n 0, 1) := by decide +kernel
theorem dX11_isSound_1 : decode cX11_isSound 1 = .ok (.getfield 74, 3) := by decide +kernel
theorem dX11_isSound_4 : decode cX11_isSound 4 = .ok (.invokevirtual 396, 3) := by decide +kernel
theorem dX11_isSound_7 : decode cX11_isSound 7 = .ok (.ifCond .eq 14, 3) := by decide +kernel
theorem dX11_isSound_10 : decode cX11_isSound 10 = .ok (.aload_n 0, 1) := by decide +kernel
theorem dX11_isSound_11 : decode cX11_isSound 11 = .ok (.invokevirtual 399, 3) := by decide +kernel
theorem dX11_isSound_14 : decode cX11_isSound 14 = .ok (.ifCond .eq 7, 3) := by decide +kernel
theorem dX11_isSound_17 : decode cX11_isSound 17 = .ok (.iconst 1, 1) := by decide +kernel
theorem dX11_isSound_18 : decode cX11_isSound 18 = .ok (.goto 4, 3) := by decide +kernel
theorem dX11_isSound_21 : decode cX11_isSound 21 = .ok (.iconst 0, 1) := by decide +kernel
theorem dX11_isSound_22 : decode cX11_isSound 22 = .ok (.ireturn, 1) := by decide +kernel
def f_Y_beats_b10 (K10 : me_M → Int32 → Int32 → Option (me_M × (Except Nat Int32))) (μ : me_M) (v1 : Int32) (v2 : Int32) : Option (me_M × (Except Nat Int32)) :=
  if v1 ≤ v2 then
  (me_gd (me_nr .boolean (μ 30 0 7)) (
  some (μ, .ok (μ 30 0 7))))
  else
  (me_b2 (f_Mover_beginBeat μ) (fun μ4 r3 =>
  me_b2 (f_Works_runCores μ4 (μ4 30 0 5)) (fun μ6 r5 =>
  me_b2 (f_Mover_moveAll μ6) (fun μ8 r7 =>
  me_b2 (f_Mover_putAll μ8) (fun μ10 r9 =>
  me_b2 (f_Works_passBarrier μ10) (fun μ12 r11 =>
  me_b2 (f_Mover_endBeat μ12) (fun μ14 r13 =>
  me_lt (me_inc v2 (1)) (fun x15 =>
  K10 μ14 v1 x15))))))))
set_option maxHeartbeats 4000000 in
set_option maxRecDepth 100000 in
theorem z_Y_beats_b10 {X : me_X} {B : me_B} {sz : Nat} (C : me_C X B RX11 cX11_beats 3 (some .boolean)) {μ : me_M} {v1 : Int32} {v2 : Int32}  {K10 : me_M → Int32 → Int32 → Option (me_M × (Except Nat Int32))} {r : me_M × (Except Nat Int32)} (N : me_En X B sz (B, r.1, me_xc (fun v => some (me_i v)) r.2) 7 172 1 6) (hNx : me_Nx X) (hB : me_St B) (hK10 : ∀ (μ : me_M) (v1 : Int32) (v2 : Int32), K10 μ v1 v2 = some r → me_Z X B 1 6 μ 10 [(0, me_r 0 0), (1, me_i v1), (2, me_i v2)] [])  (hf : f_Y_beats_b10 K10 μ v1 v2 = some r) : me_Z X B 1 6 μ 10 [(0, me_r 0 0), (1, me_i v1), (2, me_i v2)] [] := by
  unfold f_Y_beats_b10 at hf
  refine me_iload_n C 2 dX11_beats_10 rfl rfl ?_
  refine me_iload_n C 1 dX11_beats_11 rfl rfl ?_
  refine me_icmp_ge C (tgt := 70) dX11_beats_12 (by decide) (fun c1 => ?_) (fun c1 => ?_)
  · replace hf := me_ip c1 hf
    refine me_aload_n C 0 (Or.inr (Or.inl ⟨_, rfl⟩)) dX11_beats_70 rfl rfl ?_
    refine me_getr C hB 6 (k' := 30) (i' := 0) fg_Y_58 dX11_beats_71 rfl rfl ?_
    refine me_geti C 7 fg_Y_209 dX11_beats_74 rfl ?_
    obtain ⟨g2, hf⟩ := me_gs hf
    exact me_iret C N dX11_beats_77 g2 (by cases hf; rfl) (by decide) (by decide)
  · replace hf := me_in c1 hf
    refine me_aload_n C 0 (Or.inr (Or.inl ⟨_, rfl⟩)) dX11_beats_15 rfl rfl ?_
    refine me_getr C hB 6 (k' := 30) (i' := 0) fg_Y_58 dX11_beats_16 rfl rfl ?_
    obtain ⟨μ4, r3, h_r3, hf⟩ := me_bs2 hf
    refine me_callV0 C N  (As := []) (st := []) 1 6 (c_Mover_beginBeat hB h_r3) mv_Mover_beginBeat ml_Y_191 rfl rfl dX11_beats_19 rfl rfl ⟨by decide, by decide⟩ ⟨by decide, by decide, by decide, by decide⟩ (Nat.le_of_ble_eq_true rfl) ?_
    refine me_aload_n C 0 (Or.inr (Or.inl ⟨_, rfl⟩)) dX11_beats_22 rfl rfl ?_
    refine me_getr C hB 7 (k' := 31) (i' := 0) fg_Y_67 dX11_beats_23 rfl rfl ?_
    refine me_aload_n C 0 (Or.inr (Or.inl ⟨_, rfl⟩)) dX11_beats_26 rfl rfl ?_
    refine me_getr C hB 6 (k' := 30) (i' := 0) fg_Y_58 dX11_beats_27 rfl rfl ?_
    refine me_geti C 5 fg_Y_95 dX11_beats_30 rfl ?_
    obtain ⟨μ6, r5, h_r5, hf⟩ := me_bs2 hf
    refine me_callV0 C N  (As := [me_i (μ4 30 0 5)]) (st := []) 1 6 (c_Works_runCores hB h_r5) mv_Works_runCores ml_Y_194 rfl rfl dX11_beats_33 rfl rfl ⟨by decide, by decide⟩ ⟨by decide, by decide, by decide, by decide⟩ (Nat.le_of_ble_eq_true rfl) ?_
    refine me_aload_n C 0 (Or.inr (Or.inl ⟨_, rfl⟩)) dX11_beats_36 rfl rfl ?_
    refine me_getr C hB 6 (k' := 30) (i' := 0) fg_Y_58 dX11_beats_37 rfl rfl ?_
    obtain ⟨μ8, r7, h_r7, hf⟩ := me_bs2 hf
    refine me_callV0 C N  (As := []) (st := []) 1 6 (c_Mover_moveAll hB h_r7) mv_Mover_moveAll ml_Y_197 rfl rfl dX11_beats_40 rfl rfl ⟨by decide, by decide⟩ ⟨by decide, by decide, by decide, by decide⟩ (Nat.le_of_ble_eq_true rfl) ?_
    refine me_aload_n C 0 (Or.inr (Or.inl ⟨_, rfl⟩)) dX11_beats_43 rfl rfl ?_
    refine me_getr C hB 6 (k' := 30) (i' := 0) fg_Y_58 dX11_beats_44 rfl rfl ?_
    obtain ⟨μ10, r9, h_r9, hf⟩ := me_bs2 hf
    refine me_callV0 C N  (As := []) (st := []) 1 6 (c_Mover_putAll hB h_r9) mv_Mover_putAll ml_Y_200 rfl rfl dX11_beats_47 rfl rfl ⟨by decide, by decide⟩ ⟨by decide, by decide, by decide, by decide⟩ (Nat.le_of_ble_eq_true rfl) ?_
    refine me_aload_n C 0 (Or.inr (Or.inl ⟨_, rfl⟩)) dX11_beats_50 rfl rfl ?_
    refine me_getr C hB 7 (k' := 31) (i' := 0) fg_Y_67 dX11_beats_51 rfl rfl ?_
    obtain ⟨μ12, r11, h_r11, hf⟩ := me_bs2 hf
    refine me_callV0 C N  (As := []) (st := []) 1 6 (c_Works_passBarrier hB h_r11) mv_Works_passBarrier ml_Y_203 rfl rfl dX11_beats_54 rfl rfl ⟨by decide, by decide⟩ ⟨by decide, by decide, by decide, by decide⟩ (Nat.le_of_ble_eq_true rfl) ?_
    refine me_aload_n C 0 (Or.inr (Or.inl ⟨_, rfl⟩)) dX11_beats_57 rfl rfl ?_
    refine me_getr C hB 6 (k' := 30) (i' := 0) fg_Y_58 dX11_beats_58 rfl rfl ?_
    obtain ⟨μ14, r13, h_r13, hf⟩ := me_bs2 hf
    refine me_callV0 C N  (As := []) (st := []) 1 6 (c_Mover_endBeat hB h_r13) mv_Mover_endBeat ml_Y_206 rfl rfl dX11_beats_61 rfl rfl ⟨by decide, by decide⟩ ⟨by decide, by decide, by decide, by decide⟩ (Nat.le_of_ble_eq_true rfl) ?_
    obtain ⟨x15, e_x15, hf⟩ := me_lts hf
    refine me_iinc C (v := x15) (L' := [(2, me_i x15), (0, me_r 0 0), (1, me_i v1)]) dX11_beats_64 rfl e_x15.symm (by decide) rfl ?_
    refine me_goto C (tgt := 10) dX11_beats_67 (by decide) ?_
    refine me_dropI [(0, me_r 0 0), (1, me_i v1), (2, me_i x15)] [1, 2, 0] rfl ?_
    exact hK10 μ14 v1 x15 hf
def f_Y_beats_h10  : Nat → me_M → Int32 → Int32 → Option (me_M × (Except Nat Int32))
  | 0, _, _, _ => none
  | n + 1, μ, v1, v2 => f_Y_beats_b10 (f_Y_beats_h10 n) μ v1 v2
set_option maxHeartbeats 4000000 in
set_option maxRecDepth 100000 in
theorem z_Y_beats_h10 {X : me_X} {B : me_B} {sz : Nat} (C : me_C X B RX11 cX11_beats 3 (some .boolean))  {r : me_M × (Except Nat Int32)} (N : me_En X B sz (B, r.1, me_xc (fun v => some (me_i v)) r.2) 7 172 1 6) (hNx : me_Nx X) (hB : me_St B)  : ∀ (n : Nat) (μ : me_M) (v1 : Int32) (v2 : Int32), f_Y_beats_h10 n μ v1 v2 = some r → me_Z X B 1 6 μ 10 [(0, me_r 0 0), (1, me_i v1), (2, me_i v2)] [] := by
  intro n
  induction n with
  | zero => intro μ v1 v2  h; exact absurd (show (none : Option (me_M × (Except Nat Int32))) = some r from h) (fun q => by cases q)
  | succ n ih => intro μ v1 v2  h; exact z_Y_beats_b10 C N hNx hB  (K10 := f_Y_beats_h10 n) ih  h
def f_Y_beats (μ : me_M) (v1 : Int32) : Option (me_M × (Except Nat Int32)) :=
  me_bd (f_Y_needRange μ v1 (1 : Int32) (100 : Int32)) (fun r1 =>
  me_xb2 r1 μ (fun r1 =>
  f_Y_beats_h10 me_FU μ v1 (0 : Int32)))
set_option maxHeartbeats 4000000 in
set_option maxRecDepth 100000 in
theorem z_Y_beats {X : me_X} {B : me_B} {sz : Nat} (C : me_C X B RX11 cX11_beats 3 (some .boolean)) {μ : me_M} {v1 : Int32}   {r : me_M × (Except Nat Int32)} (N : me_En X B sz (B, r.1, me_xc (fun v => some (me_i v)) r.2) 7 172 1 6) (hNx : me_Nx X) (hB : me_St B)   (hf : f_Y_beats μ v1 = some r) : me_Z X B 0 0 μ 0 [(0, me_r 0 0), (1, me_i v1)] [] := by
  unfold f_Y_beats at hf
  refine me_aload_n C 0 (Or.inr (Or.inl ⟨_, rfl⟩)) dX11_beats_0 rfl rfl ?_
  refine me_iload_n C 1 dX11_beats_1 rfl rfl ?_
  refine me_iconst C (v := 1) dX11_beats_2 (by decide) ?_
  refine me_bipush C (v := 100) dX11_beats_3 (by decide) ?_
  obtain ⟨r1, h_r1, hf⟩ := me_bs hf
  rcases r1 with r1 | r1
  · replace hf := me_xb2e hf
    refine me_callVE C N  (As := [me_i v1, me_i (1 : Int32), me_i (100 : Int32)]) (st := []) 1 6 (c_Y_needRange hB h_r1) mv_Y_needRange ml_Y_87 rfl rfl dX11_beats_5 rfl rfl ⟨by decide, by decide⟩ ⟨by decide, by decide, by decide, by decide⟩ (Nat.le_of_ble_eq_true rfl) ?_
    exact me_outX C N hNx (by cases hf; rfl) (by decide) (by decide)
  replace hf := me_xb2o hf
  refine me_callV0 C N  (As := [me_i v1, me_i (1 : Int32), me_i (100 : Int32)]) (st := []) 1 6 (c_Y_needRange hB h_r1) mv_Y_needRange ml_Y_87 rfl rfl dX11_beats_5 rfl rfl ⟨by decide, by decide⟩ ⟨by decide, by decide, by decide, by decide⟩ (Nat.le_of_ble_eq_true rfl) ?_
  refine me_iconst C (v := 0) dX11_beats_8 (by decide) ?_
  refine me_istore_n C 2 dX11_beats_9 rfl (by decide) (L' := [(2, me_i (0 : Int32)), (0, me_r 0 0), (1, me_i v1)]) rfl ?_
  refine me_dropI [(0, me_r 0 0), (1, me_i v1), (2, me_i (0 : Int32))] [1, 2, 0] rfl ?_
  exact z_Y_beats_h10 C N hNx hB me_FU μ v1 (0 : Int32) hf
theorem c_Y_beats {B : me_B} (hB : me_St B) {μ : me_M} {v1 : Int32} {μ' : me_M} {r : Except Nat Int32}  (hf : f_Y_beats μ v1 = some (μ', r)) : ∀ l E z, l.stackTraces = false → me_Met l yX11_beats cX11_beats 3 (some .boolean) 7 172 1 6 E B μ z [me_r 0 0, me_i v1] (B, μ', me_xc (fun v => some (me_i v)) r) :=
  fun _ _ _ hl => me_ofZ hl (by decide +kernel) (Nat.le_of_ble_eq_true rfl) (fun _ C N hNx => z_Y_beats C N hNx hB  hf)

def f_Y_beat (μ : me_M) : Option Int32 :=
  some (μ 30 0 5)
set_option maxHeartbeats 4000000 in
set_option maxRecDepth 100000 in
theorem z_Y_beat {X : me_X} {B : me_B} {sz : Nat} (C : me_C X B RX11 cX11_beat 1 (some .int)) {μ : me_M}    {r : Int32} (N : me_En X B sz (B, μ, .ok (some (me_i r))) 0 0 0 0) (hNx : me_Nx X) (hB : me_St B)   (hf : f_Y_beat μ = some r) : me_Z X B 0 0 μ 0 [(0, me_r 0 0)] [] := by
  unfold f_Y_beat at hf
  refine me_aload_n C 0 (Or.inr (Or.inl ⟨_, rfl⟩)) dX11_beat_0 rfl rfl ?_
  refine me_getr C hB 6 (k' := 30) (i' := 0) fg_Y_58 dX11_beat_1 rfl rfl ?_
  refine me_geti C 5 fg_Y_95 dX11_beat_4 rfl ?_
  exact me_iret C N dX11_beat_7 (me_nri _) (by cases hf; rfl) (by decide) (by decide)
theorem c_Y_beat {B : me_B} (hB : me_St B) {μ : me_M}  {r : Int32}  (hf : f_Y_beat μ = some r) : ∀ l E z, l.stackTraces = false → me_Met l yX11_beat cX11_beat 1 (some .int) 0 0 0 0 E B μ z [me_r 0 0] (B, μ, .ok (some (me_i r))) :=
  fun _ _ _ hl => me_ofZ hl (by decide +kernel) (Nat.le_of_ble_eq_true rfl) (fun _ C N hNx => z_Y_beat C N hNx hB  hf)

def f_Str_isLatin1 (μ : me_M) (v0 : Nat) : Option Int32 :=
  some (1 : Int32)
set_option maxHeartbeats 4000000 in
set_option maxRecDepth 100000 in
theorem z_Str_isLatin1 {X : me_X} {B : me_B} {sz : Nat} (C : me_C X B RJ0 cJ0_isLatin1_aae02 1 (some .boolean)) {μ : me_M} {v0 : Nat}   {r : Int32} (N : me_En X B sz (B, μ, .ok (some (me_i r))) 0 0 0 0) (hNx : me_Nx X) (hB : me_St B)  (h_v0 : v0 < 2) (hf : f_Str_isLatin1 μ v0 = some r) : me_Z X B 0 0 μ 0 [(0, .inl (.ref (B.1 200 v0)))] [] := by
  unfold f_Str_isLatin1 at hf
  refine me_gcs C fl_Str_38 dJ0_isLatin1_aae02_0 ?_
  refine me_if_eq C (tgt := 17) dJ0_isLatin1_aae02_3 (by decide) (fun c1 => ?_) (fun c1 => ?_)
  · exact absurd c1 (by decide)
  · refine me_aload_n C 0 (Or.inr (Or.inr ⟨_, rfl⟩)) dJ0_isLatin1_aae02_6 rfl rfl ?_
    refine me_getcod C h_v0 fl_Str_15 dJ0_isLatin1_aae02_7 ?_
    refine me_if_ne C (tgt := 17) dJ0_isLatin1_aae02_10 (by decide) (fun c2 => ?_) (fun c2 => ?_)
    · exact absurd c2 (by decide)
    · refine me_iconst C (v := 1) dJ0_isLatin1_aae02_13 (by decide) ?_
      refine me_goto C (tgt := 18) dJ0_isLatin1_aae02_14 (by decide) ?_
      exact me_iret C N dJ0_isLatin1_aae02_18 (by decide +kernel) (by cases hf; rfl) (by decide) (by decide)
theorem c_Str_isLatin1 {B : me_B} (hB : me_St B) {μ : me_M} {v0 : Nat} {r : Int32} (h_v0 : v0 < 2) (hf : f_Str_isLatin1 μ v0 = some r) : ∀ l E z, l.stackTraces = false → me_Met l yJ0_isLatin1_aae02 cJ0_isLatin1_aae02 1 (some .boolean) 0 0 0 0 E B μ z [.inl (.ref (B.1 200 v0))] (B, μ, .ok (some (me_i r))) :=
  fun _ _ _ hl => me_ofZ hl (by decide +kernel) (Nat.le_of_ble_eq_true rfl) (fun _ C N hNx => z_Str_isLatin1 C N hNx hB h_v0 hf)

def f_Str_coder (μ : me_M) (v0 : Nat) : Option Int32 :=
  some (0 : Int32)
set_option maxHeartbeats 4000000 in
set_option maxRecDepth 100000 in
theorem z_Str_coder {X : me_X} {B : me_B} {sz : Nat} (C : me_C X B RJ0 cJ0_coder_7d493 1 (some .byte)) {μ : me_M} {v0 : Nat}   {r : Int32} (N : me_En X B sz (B, μ, .ok (some (me_i r))) 0 0 0 0) (hNx : me_Nx X) (hB : me_St B)  (h_v0 : v0 < 2) (hf : f_Str_coder μ v0 = some r) : me_Z X B 0 0 μ 0 [(0, .inl (.ref (B.1 200 v0)))] [] := by
  unfold f_Str_coder at hf
  refine me_gcs C fl_Str_38 dJ0_coder_7d493_0 ?_
  refine me_if_eq C (tgt := 13) dJ0_coder_7d493_3 (by decide) (fun c1 => ?_) (fun c1 => ?_)
  · exact absurd c1 (by decide)
  · refine me_aload_n C 0 (Or.inr (Or.inr ⟨_, rfl⟩)) dJ0_coder_7d493_6 rfl rfl ?_
    refine me_getcod C h_v0 fl_Str_15 dJ0_coder_7d493_7 ?_
    refine me_goto C (tgt := 14) dJ0_coder_7d493_10 (by decide) ?_
    exact me_iret C N dJ0_coder_7d493_14 (by decide +kernel) (by cases hf; rfl) (by decide) (by decide)
theorem c_Str_coder {B : me_B} (hB : me_St B) {μ : me_M} {v0 : Nat} {r : Int32} (h_v0 : v0 < 2) (hf : f_Str_coder μ v0 = some r) : ∀ l E z, l.stackTraces = false → me_Met l yJ0_coder_7d493 cJ0_coder_7d493 1 (some .byte) 0 0 0 0 E B μ z [.inl (.ref (B.1 200 v0))] (B, μ, .ok (some (me_i r))) :=
  fun _ _ _ hl => me_ofZ hl (by decide +kernel) (Nat.le_of_ble_eq_true rfl) (fun _ C N hNx => z_Str_coder C N hNx hB h_v0 hf)

def f_Str_length (μ : me_M) (v0 : Nat) : Option Int32 :=
  me_bd (f_Str_coder μ v0) (fun r1 =>
  some ((Int32.ofNat (me_sb v0).length) >>> (r1 &&& 31)))
set_option maxHeartbeats 4000000 in
set_option maxRecDepth 100000 in
theorem z_Str_length {X : me_X} {B : me_B} {sz : Nat} (C : me_C X B RJ0 cJ0_length_8abf5 1 (some .int)) {μ : me_M} {v0 : Nat}   {r : Int32} (N : me_En X B sz (B, μ, .ok (some (me_i r))) 1 20 0 0) (hNx : me_Nx X) (hB : me_St B)  (h_v0 : v0 < 2) (hf : f_Str_length μ v0 = some r) : me_Z X B 0 0 μ 0 [(0, .inl (.ref (B.1 200 v0)))] [] := by
  unfold f_Str_length at hf
  refine me_aload_n C 0 (Or.inr (Or.inr ⟨_, rfl⟩)) dJ0_length_8abf5_0 rfl rfl ?_
  refine me_getval C h_v0 fl_Str_9 dJ0_length_8abf5_1 ?_
  refine me_slen C h_v0 dJ0_length_8abf5_4 ?_
  refine me_aload_n C 0 (Or.inr (Or.inr ⟨_, rfl⟩)) dJ0_length_8abf5_5 rfl rfl ?_
  obtain ⟨r1, h_r1, hf⟩ := me_bs hf
  refine me_callG C N h_v0 (As := []) (st := [me_i (Int32.ofNat (me_sb v0).length)]) 0 0 (c_Str_coder hB h_v0 h_r1) mv_Str_coder ml_Str_335 rfl dJ0_length_8abf5_6 rfl rfl ⟨by decide, by decide⟩ ⟨by decide, by decide, by decide, by decide⟩ (Nat.le_of_ble_eq_true rfl) ?_
  refine me_ishr C dJ0_length_8abf5_9 ?_
  exact me_iret C N dJ0_length_8abf5_10 (me_nri _) (by cases hf; rfl) (by decide) (by decide)
theorem c_Str_length {B : me_B} (hB : me_St B) {μ : me_M} {v0 : Nat} {r : Int32} (h_v0 : v0 < 2) (hf : f_Str_length μ v0 = some r) : ∀ l E z, l.stackTraces = false → me_Met l yJ0_length_8abf5 cJ0_length_8abf5 1 (some .int) 1 20 0 0 E B μ z [.inl (.ref (B.1 200 v0))] (B, μ, .ok (some (me_i r))) :=
  fun _ _ _ hl => me_ofZ hl (by decide +kernel) (Nat.le_of_ble_eq_true rfl) (fun _ C N hNx => z_Str_length C N hNx hB h_v0 hf)

def f_La1_canEncode (μ : me_M) (v0 : Int32) : Option Int32 :=
  if v0 < 0 then
  (some (0 : Int32))
  else
  (if (255 : Int32) < v0 then
  (some (0 : Int32))
  else
  (some (1 : Int32)))
set_option maxHeartbeats 4000000 in
set_option maxRecDepth 100000 in
theorem z_La1_canEncode {X : me_X} {B : me_B} {sz : Nat} (C : me_C X B RJ1 cJ1_canEncode_9a6ad 1 (some .boolean)) {μ : me_M} {v0 : Int32}   {r : Int32} (N : me_En X B sz (B, μ, .ok (some (me_i r))) 0 0 0 0) (hNx : me_Nx X) (hB : me_St B)   (hf : f_La1_canEncode μ v0 = some r) : me_Z X B 0 0 μ 0 [(0, me_i v0)] [] := by
  unfold f_La1_canEncode at hf
  refine me_iload_n C 0 dJ1_canEncode_9a6ad_0 rfl rfl ?_
  refine me_if_lt C (tgt := 15) dJ1_canEncode_9a6ad_1 (by decide) (fun c1 => ?_) (fun c1 => ?_)
  · replace hf := me_ip c1 hf
    refine me_iconst C (v := 0) dJ1_canEncode_9a6ad_15 (by decide) ?_
    exact me_iret C N dJ1_canEncode_9a6ad_16 (by decide +kernel) (by cases hf; rfl) (by decide) (by decide)
  · replace hf := me_in c1 hf
    refine me_iload_n C 0 dJ1_canEncode_9a6ad_4 rfl rfl ?_
    refine me_sipush C (v := 255) dJ1_canEncode_9a6ad_5 (by decide) ?_
    refine me_icmp_gt C (tgt := 15) dJ1_canEncode_9a6ad_8 (by decide) (fun c2 => ?_) (fun c2 => ?_)
    · replace hf := me_ip c2 hf
      refine me_iconst C (v := 0) dJ1_canEncode_9a6ad_15 (by decide) ?_
      exact me_iret C N dJ1_canEncode_9a6ad_16 (by decide +kernel) (by cases hf; rfl) (by decide) (by decide)
    · replace hf := me_in c2 hf
      refine me_iconst C (v := 1) dJ1_canEncode_9a6ad_11 (by decide) ?_
      refine me_goto C (tgt := 16) dJ1_canEncode_9a6ad_12 (by decide) ?_
      exact me_iret C N dJ1_canEncode_9a6ad_16 (by decide +kernel) (by cases hf; rfl) (by decide) (by decide)
theorem c_La1_canEncode {B : me_B} (hB : me_St B) {μ : me_M} {v0 : Int32} {r : Int32}  (hf : f_La1_canEncode μ v0 = some r) : ∀ l E z, l.stackTraces = false → me_Met l yJ1_canEncode_9a6ad cJ1_canEncode_9a6ad 1 (some .boolean) 0 0 0 0 E B μ z [me_i v0] (B, μ, .ok (some (me_i r))) :=
  fun _ _ _ hl => me_ofZ hl (by decide +kernel) (Nat.le_of_ble_eq_true rfl) (fun _ C N hNx => z_La1_canEncode C N hNx hB  hf)

def f_La1_indexOfChar_b7 (μ : me_M) (K7 : Nat → Int32 → Int32 → Int32 → Option Int32) (v0 : Nat) (v3 : Int32) (v4 : Int32) (v5 : Int32) : Option Int32 :=
  if v3 ≤ v5 then
  (some (-1 : Int32))
  else
  (me_gd (me_inb v5 (me_sb v0).length) (
  if ((me_sb v0).getD (me_ix v5) 0) = v4 then
  (some v5)
  else
  (me_lt (me_inc v5 (1)) (fun x4 =>
  K7 v0 v3 v4 x4))))
set_option maxHeartbeats 4000000 in
set_option maxRecDepth 100000 in
theorem z_La1_indexOfChar_b7 {X : me_X} {B : me_B} {sz : Nat} (C : me_C X B RJ1 cJ1_indexOfChar_4cfef 6 (some .int)) {μ : me_M} {v0 : Nat} {v3 : Int32} {v4 : Int32} {v5 : Int32}  {K7 : Nat → Int32 → Int32 → Int32 → Option Int32} {r : Int32} (N : me_En X B sz (B, μ, .ok (some (me_i r))) 0 0 0 0) (hNx : me_Nx X) (hB : me_St B) (hK7 : ∀ (v0 : Nat) (v3 : Int32) (v4 : Int32) (v5 : Int32), v0 < 2 → K7 v0 v3 v4 v5 = some r → me_Z X B 0 0 μ 7 [(0, .inl (.ref (B.1 201 v0))), (3, me_i v3), (4, me_i v4), (5, me_i v5)] []) (h_v0 : v0 < 2) (hf : f_La1_indexOfChar_b7 μ K7 v0 v3 v4 v5 = some r) : me_Z X B 0 0 μ 7 [(0, .inl (.ref (B.1 201 v0))), (3, me_i v3), (4, me_i v4), (5, me_i v5)] [] := by
  unfold f_La1_indexOfChar_b7 at hf
  refine me_iload C dJ1_indexOfChar_4cfef_7 rfl ?_
  refine me_iload_n C 3 dJ1_indexOfChar_4cfef_9 rfl rfl ?_
  refine me_icmp_ge C (tgt := 31) dJ1_indexOfChar_4cfef_10 (by decide) (fun c1 => ?_) (fun c1 => ?_)
  · replace hf := me_ip c1 hf
    refine me_iconst C (v := -1) dJ1_indexOfChar_4cfef_31 (by decide) ?_
    exact me_iret C N dJ1_indexOfChar_4cfef_32 (me_nri _) (by cases hf; rfl) (by decide) (by decide)
  · replace hf := me_in c1 hf
    refine me_aload_n C 0 (Or.inr (Or.inr ⟨_, rfl⟩)) dJ1_indexOfChar_4cfef_13 rfl rfl ?_
    refine me_iload C dJ1_indexOfChar_4cfef_14 rfl ?_
    obtain ⟨g2, hf⟩ := me_gs hf
    refine me_sbl C h_v0 g2 dJ1_indexOfChar_4cfef_16 ?_
    refine me_iload C dJ1_indexOfChar_4cfef_17 rfl ?_
    refine me_icmp_ne C (tgt := 25) dJ1_indexOfChar_4cfef_19 (by decide) (fun c3 => ?_) (fun c3 => ?_)
    · replace hf := me_in c3 hf
      obtain ⟨x4, e_x4, hf⟩ := me_lts hf
      refine me_iinc C (v := x4) (L' := [(5, me_i x4), (0, .inl (.ref (B.1 201 v0))), (3, me_i v3), (4, me_i v4)]) dJ1_indexOfChar_4cfef_25 rfl e_x4.symm (by decide) rfl ?_
      refine me_goto C (tgt := 7) dJ1_indexOfChar_4cfef_28 (by decide) ?_
      refine me_dropI [(0, .inl (.ref (B.1 201 v0))), (3, me_i v3), (4, me_i v4), (5, me_i x4)] [1, 2, 3, 0] rfl ?_
      exact hK7 v0 v3 v4 x4 h_v0 hf
    · replace hf := me_ip c3 hf
      refine me_iload C dJ1_indexOfChar_4cfef_22 rfl ?_
      exact me_iret C N dJ1_indexOfChar_4cfef_24 (me_nri _) (by cases hf; rfl) (by decide) (by decide)
def f_La1_indexOfChar_h7 (μ : me_M) : Nat → Nat → Int32 → Int32 → Int32 → Option Int32
  | 0, _, _, _, _ => none
  | n + 1, v0, v3, v4, v5 => f_La1_indexOfChar_b7 μ (f_La1_indexOfChar_h7 μ n) v0 v3 v4 v5
set_option maxHeartbeats 4000000 in
set_option maxRecDepth 100000 in
theorem z_La1_indexOfChar_h7 {X : me_X} {B : me_B} {sz : Nat} (C : me_C X B RJ1 cJ1_indexOfChar_4cfef 6 (some .int)) {μ : me_M}  {r : Int32} (N : me_En X B sz (B, μ, .ok (some (me_i r))) 0 0 0 0) (hNx : me_Nx X) (hB : me_St B)  : ∀ (n : Nat) (v0 : Nat) (v3 : Int32) (v4 : Int32) (v5 : Int32), v0 < 2 → f_La1_indexOfChar_h7 μ n v0 v3 v4 v5 = some r → me_Z X B 0 0 μ 7 [(0, .inl (.ref (B.1 201 v0))), (3, me_i v3), (4, me_i v4), (5, me_i v5)] [] := by
  intro n
  induction n with
  | zero => intro v0 v3 v4 v5 h_v0 h; exact absurd (show (none : Option Int32) = some r from h) (fun q => by cases q)
  | succ n ih => intro v0 v3 v4 v5 h_v0 h; exact z_La1_indexOfChar_b7 C N hNx hB  (K7 := f_La1_indexOfChar_h7 μ n) ih h_v0 h
def f_La1_indexOfChar (μ : me_M) (v0 : Nat) (v1 : Int32) (v2 : Int32) (v3 : Int32) : Option Int32 :=
  me_lt ((Int8.toInt32 (Int32.toInt8 v1))) (fun x1 =>
  f_La1_indexOfChar_h7 μ me_FU v0 v3 x1 v2)
set_option maxHeartbeats 4000000 in
set_option maxRecDepth 100000 in
theorem z_La1_indexOfChar {X : me_X} {B : me_B} {sz : Nat} (C : me_C X B RJ1 cJ1_indexOfChar_4cfef 6 (some .int)) {μ : me_M} {v0 : Nat} {v1 : Int32} {v2 : Int32} {v3 : Int32}   {r : Int32} (N : me_En X B sz (B, μ, .ok (some (me_i r))) 0 0 0 0) (hNx : me_Nx X) (hB : me_St B)  (h_v0 : v0 < 2) (hf : f_La1_indexOfChar μ v0 v1 v2 v3 = some r) : me_Z X B 0 0 μ 0 [(0, .inl (.ref (B.1 201 v0))), (1, me_i v1), (2, me_i v2), (3, me_i v3)] [] := by
  unfold f_La1_indexOfChar at hf
  refine me_iload_n C 1 dJ1_indexOfChar_4cfef_0 rfl rfl ?_
  refine me_i2b C dJ1_indexOfChar_4cfef_1 ?_
  obtain ⟨x1, e_x1, hf⟩ := me_lts hf
  refine me_nm e_x1 ?_
  refine me_istore C dJ1_indexOfChar_4cfef_2 (by decide) (L' := [(4, me_i x1), (0, .inl (.ref (B.1 201 v0))), (1, me_i v1), (2, me_i v2), (3, me_i v3)]) rfl ?_
  refine me_iload_n C 2 dJ1_indexOfChar_4cfef_4 rfl rfl ?_
  refine me_istore C dJ1_indexOfChar_4cfef_5 (by decide) (L' := [(5, me_i v2), (4, me_i x1), (0, .inl (.ref (B.1 201 v0))), (1, me_i v1), (2, me_i v2), (3, me_i v3)]) rfl ?_
  refine me_dropI [(0, .inl (.ref (B.1 201 v0))), (3, me_i v3), (4, me_i x1), (5, me_i v2)] [2, 5, 1, 0] rfl ?_
  exact z_La1_indexOfChar_h7 C N hNx hB me_FU v0 v3 x1 v2 h_v0 hf
theorem c_La1_indexOfChar {B : me_B} (hB : me_St B) {μ : me_M} {v0 : Nat} {v1 : Int32} {v2 : Int32} {v3 : Int32} {r : Int32} (h_v0 : v0 < 2) (hf : f_La1_indexOfChar μ v0 v1 v2 v3 = some r) : ∀ l E z, l.stackTraces = false → me_Met l yJ1_indexOfChar_4cfef cJ1_indexOfChar_4cfef 6 (some .int) 0 0 0 0 E B μ z [.inl (.ref (B.1 201 v0)), me_i v1, me_i v2, me_i v3] (B, μ, .ok (some (me_i r))) :=
  fun _ _ _ hl => me_ofZ hl (by decide +kernel) (Nat.le_of_ble_eq_true rfl) (fun _ C N hNx => z_La1_indexOfChar C N hNx hB h_v0 hf)

def f_La1_indexOf (μ : me_M) (v0 : Nat) (v1 : Int32) (v2 : Int32) (v3 : Int32) : Option Int32 :=
  me_bd (f_La1_canEncode μ v1) (fun r1 =>
  if r1 = 0 then
  (some (-1 : Int32))
  else
  (me_lt ((me_max' v2 (0 : Int32))) (fun x3 =>
  me_lt ((me_min' v3 (Int32.ofNat (me_sb v0).length))) (fun x4 =>
  if x3 < x4 then
  (me_bd (f_La1_indexOfChar μ v0 v1 x3 x4) (fun r6 =>
  some r6))
  else
  (some (-1 : Int32))))))
set_option maxHeartbeats 4000000 in
set_option maxRecDepth 100000 in
theorem z_La1_indexOf {X : me_X} {B : me_B} {sz : Nat} (C : me_C X B RJ1 cJ1_indexOf_4cfef 4 (some .int)) {μ : me_M} {v0 : Nat} {v1 : Int32} {v2 : Int32} {v3 : Int32}   {r : Int32} (N : me_En X B sz (B, μ, .ok (some (me_i r))) 1 25 0 0) (hNx : me_Nx X) (hB : me_St B)  (h_v0 : v0 < 2) (hf : f_La1_indexOf μ v0 v1 v2 v3 = some r) : me_Z X B 0 0 μ 0 [(0, .inl (.ref (B.1 201 v0))), (1, me_i v1), (2, me_i v2), (3, me_i v3)] [] := by
  unfold f_La1_indexOf at hf
  refine me_iload_n C 1 dJ1_indexOf_4cfef_0 rfl rfl ?_
  obtain ⟨r1, h_r1, hf⟩ := me_bs hf
  refine me_callS C N  (As := [me_i v1]) (st := []) 0 0 (c_La1_canEncode hB h_r1) ms_La1_canEncode ml_La1_88 dJ1_indexOf_4cfef_1 rfl rfl ⟨by decide, by decide⟩ ⟨by decide, by decide, by decide, by decide⟩ (Nat.le_of_ble_eq_true rfl) ?_
  refine me_if_ne C (tgt := 9) dJ1_indexOf_4cfef_4 (by decide) (fun c2 => ?_) (fun c2 => ?_)
  · replace hf := me_in c2 hf
    refine me_iload_n C 2 dJ1_indexOf_4cfef_9 rfl rfl ?_
    refine me_iconst C (v := 0) dJ1_indexOf_4cfef_10 (by decide) ?_
    refine me_mmax C N bl_La1_92 dJ1_indexOf_4cfef_11 ⟨by decide, by decide⟩ (Nat.le_of_ble_eq_true rfl) (by decide) (by decide) ?_
    obtain ⟨x3, e_x3, hf⟩ := me_lts hf
    refine me_nm e_x3 ?_
    refine me_istore_n C 2 dJ1_indexOf_4cfef_14 rfl (by decide) (L' := [(2, me_i x3), (0, .inl (.ref (B.1 201 v0))), (1, me_i v1), (3, me_i v3)]) rfl ?_
    refine me_iload_n C 3 dJ1_indexOf_4cfef_15 rfl rfl ?_
    refine me_aload_n C 0 (Or.inr (Or.inr ⟨_, rfl⟩)) dJ1_indexOf_4cfef_16 rfl rfl ?_
    refine me_slen C h_v0 dJ1_indexOf_4cfef_17 ?_
    refine me_mmin C N bl_La1_38 dJ1_indexOf_4cfef_18 ⟨by decide, by decide⟩ (Nat.le_of_ble_eq_true rfl) (by decide) (by decide) ?_
    obtain ⟨x4, e_x4, hf⟩ := me_lts hf
    refine me_nm e_x4 ?_
    refine me_istore_n C 3 dJ1_indexOf_4cfef_21 rfl (by decide) (L' := [(3, me_i x4), (2, me_i x3), (0, .inl (.ref (B.1 201 v0))), (1, me_i v1)]) rfl ?_
    refine me_iload_n C 2 dJ1_indexOf_4cfef_22 rfl rfl ?_
    refine me_iload_n C 3 dJ1_indexOf_4cfef_23 rfl rfl ?_
    refine me_icmp_lt C (tgt := 29) dJ1_indexOf_4cfef_24 (by decide) (fun c5 => ?_) (fun c5 => ?_)
    · replace hf := me_ip c5 hf
      refine me_aload_n C 0 (Or.inr (Or.inr ⟨_, rfl⟩)) dJ1_indexOf_4cfef_29 rfl rfl ?_
      refine me_iload_n C 1 dJ1_indexOf_4cfef_30 rfl rfl ?_
      refine me_iload_n C 2 dJ1_indexOf_4cfef_31 rfl rfl ?_
      refine me_iload_n C 3 dJ1_indexOf_4cfef_32 rfl rfl ?_
      obtain ⟨r6, h_r6, hf⟩ := me_bs hf
      refine me_callS C N  (As := [.inl (.ref (B.1 201 v0)), me_i v1, me_i x3, me_i x4]) (st := []) 0 0 (c_La1_indexOfChar hB h_v0 h_r6) ms_La1_indexOfChar ml_La1_95 dJ1_indexOf_4cfef_33 rfl rfl ⟨by decide, by decide⟩ ⟨by decide, by decide, by decide, by decide⟩ (Nat.le_of_ble_eq_true rfl) ?_
      exact me_iret C N dJ1_indexOf_4cfef_36 (me_nri _) (by cases hf; rfl) (by decide) (by decide)
    · replace hf := me_in c5 hf
      refine me_iconst C (v := -1) dJ1_indexOf_4cfef_27 (by decide) ?_
      exact me_iret C N dJ1_indexOf_4cfef_28 (me_nri _) (by cases hf; rfl) (by decide) (by decide)
  · replace hf := me_ip c2 hf
    refine me_iconst C (v := -1) dJ1_indexOf_4cfef_7 (by decide) ?_
    exact me_iret C N dJ1_indexOf_4cfef_8 (me_nri _) (by cases hf; rfl) (by decide) (by decide)
theorem c_La1_indexOf {B : me_B} (hB : me_St B) {μ : me_M} {v0 : Nat} {v1 : Int32} {v2 : Int32} {v3 : Int32} {r : Int32} (h_v0 : v0 < 2) (hf : f_La1_indexOf μ v0 v1 v2 v3 = some r) : ∀ l E z, l.stackTraces = false → me_Met l yJ1_indexOf_4cfef cJ1_indexOf_4cfef 4 (some .int) 1 25 0 0 E B μ z [.inl (.ref (B.1 201 v0)), me_i v1, me_i v2, me_i v3] (B, μ, .ok (some (me_i r))) :=
  fun _ _ _ hl => me_ofZ hl (by decide +kernel) (Nat.le_of_ble_eq_true rfl) (fun _ C N hNx => z_La1_indexOf C N hNx hB h_v0 hf)

def f_Str_indexOf2 (μ : me_M) (v0 : Nat) (v1 : Int32) (v2 : Int32) : Option Int32 :=
  me_bd (f_Str_isLatin1 μ v0) (fun r1 =>
  if r1 = 0 then
  (none)
  else
  (me_bd (f_Str_length μ v0) (fun r3 =>
  me_bd (f_La1_indexOf μ v0 v1 v2 r3) (fun r4 =>
  some r4))))
set_option maxHeartbeats 4000000 in
set_option maxRecDepth 100000 in
theorem z_Str_indexOf2 {X : me_X} {B : me_B} {sz : Nat} (C : me_C X B RJ0 cJ0_indexOf_7cf53 3 (some .int)) {μ : me_M} {v0 : Nat} {v1 : Int32} {v2 : Int32}   {r : Int32} (N : me_En X B sz (B, μ, .ok (some (me_i r))) 2 48 0 0) (hNx : me_Nx X) (hB : me_St B)  (h_v0 : v0 < 2) (hf : f_Str_indexOf2 μ v0 v1 v2 = some r) : me_Z X B 0 0 μ 0 [(0, .inl (.ref (B.1 200 v0))), (1, me_i v1), (2, me_i v2)] [] := by
  unfold f_Str_indexOf2 at hf
  refine me_aload_n C 0 (Or.inr (Or.inr ⟨_, rfl⟩)) dJ0_indexOf_7cf53_0 rfl rfl ?_
  obtain ⟨r1, h_r1, hf⟩ := me_bs hf
  refine me_callG C N h_v0 (As := []) (st := []) 0 0 (c_Str_isLatin1 hB h_v0 h_r1) mv_Str_isLatin1 ml_Str_492 rfl dJ0_indexOf_7cf53_1 rfl rfl ⟨by decide, by decide⟩ ⟨by decide, by decide, by decide, by decide⟩ (Nat.le_of_ble_eq_true rfl) ?_
  refine me_if_eq C (tgt := 23) dJ0_indexOf_7cf53_4 (by decide) (fun c2 => ?_) (fun c2 => ?_)
  · replace hf := me_ip c2 hf
    cases hf
  · replace hf := me_in c2 hf
    refine me_aload_n C 0 (Or.inr (Or.inr ⟨_, rfl⟩)) dJ0_indexOf_7cf53_7 rfl rfl ?_
    refine me_getval C h_v0 fl_Str_9 dJ0_indexOf_7cf53_8 ?_
    refine me_iload_n C 1 dJ0_indexOf_7cf53_11 rfl rfl ?_
    refine me_iload_n C 2 dJ0_indexOf_7cf53_12 rfl rfl ?_
    refine me_aload_n C 0 (Or.inr (Or.inr ⟨_, rfl⟩)) dJ0_indexOf_7cf53_13 rfl rfl ?_
    obtain ⟨r3, h_r3, hf⟩ := me_bs hf
    refine me_callG C N h_v0 (As := []) (st := [me_i v2, me_i v1, .inl (.ref (B.1 201 v0))]) 0 0 (c_Str_length hB h_v0 h_r3) mv_Str_length ml_Str_505 rfl dJ0_indexOf_7cf53_14 rfl rfl ⟨by decide, by decide⟩ ⟨by decide, by decide, by decide, by decide⟩ (Nat.le_of_ble_eq_true rfl) ?_
    obtain ⟨r4, h_r4, hf⟩ := me_bs hf
    refine me_callS C N  (As := [.inl (.ref (B.1 201 v0)), me_i v1, me_i v2, me_i r3]) (st := []) 0 0 (c_La1_indexOf hB h_v0 h_r4) ms_La1_indexOf ml_Str_637 dJ0_indexOf_7cf53_17 rfl rfl ⟨by decide, by decide⟩ ⟨by decide, by decide, by decide, by decide⟩ (Nat.le_of_ble_eq_true rfl) ?_
    refine me_goto C (tgt := 36) dJ0_indexOf_7cf53_20 (by decide) ?_
    exact me_iret C N dJ0_indexOf_7cf53_36 (me_nri _) (by cases hf; rfl) (by decide) (by decide)
theorem c_Str_indexOf2 {B : me_B} (hB : me_St B) {μ : me_M} {v0 : Nat} {v1 : Int32} {v2 : Int32} {r : Int32} (h_v0 : v0 < 2) (hf : f_Str_indexOf2 μ v0 v1 v2 = some r) : ∀ l E z, l.stackTraces = false → me_Met l yJ0_indexOf_7cf53 cJ0_indexOf_7cf53 3 (some .int) 2 48 0 0 E B μ z [.inl (.ref (B.1 200 v0)), me_i v1, me_i v2] (B, μ, .ok (some (me_i r))) :=
  fun _ _ _ hl => me_ofZ hl (by decide +kernel) (Nat.le_of_ble_eq_true rfl) (fun _ C N hNx => z_Str_indexOf2 C N hNx hB h_v0 hf)

def f_Str_indexOf1 (μ : me_M) (v0 : Nat) (v1 : Int32) : Option Int32 :=
  me_bd (f_Str_indexOf2 μ v0 v1 (0 : Int32)) (fun r1 =>
  some r1)
set_option maxHeartbeats 4000000 in
set_option maxRecDepth 100000 in
theorem z_Str_indexOf1 {X : me_X} {B : me_B} {sz : Nat} (C : me_C X B RJ0 cJ0_indexOf_0f7a4 2 (some .int)) {μ : me_M} {v0 : Nat} {v1 : Int32}   {r : Int32} (N : me_En X B sz (B, μ, .ok (some (me_i r))) 3 70 0 0) (hNx : me_Nx X) (hB : me_St B)  (h_v0 : v0 < 2) (hf : f_Str_indexOf1 μ v0 v1 = some r) : me_Z X B 0 0 μ 0 [(0, .inl (.ref (B.1 200 v0))), (1, me_i v1)] [] := by
  unfold f_Str_indexOf1 at hf
  refine me_aload_n C 0 (Or.inr (Or.inr ⟨_, rfl⟩)) dJ0_indexOf_0f7a4_0 rfl rfl ?_
  refine me_iload_n C 1 dJ0_indexOf_0f7a4_1 rfl rfl ?_
  refine me_iconst C (v := 0) dJ0_indexOf_0f7a4_2 (by decide) ?_
  obtain ⟨r1, h_r1, hf⟩ := me_bs hf
  refine me_callG C N h_v0 (As := [me_i v1, me_i (0 : Int32)]) (st := []) 0 0 (c_Str_indexOf2 hB h_v0 h_r1) mv_Str_indexOf2 ml_Str_633 rfl dJ0_indexOf_0f7a4_3 rfl rfl ⟨by decide, by decide⟩ ⟨by decide, by decide, by decide, by decide⟩ (Nat.le_of_ble_eq_true rfl) ?_
  exact me_iret C N dJ0_indexOf_0f7a4_6 (me_nri _) (by cases hf; rfl) (by decide) (by decide)
theorem c_Str_indexOf1 {B : me_B} (hB : me_St B) {μ : me_M} {v0 : Nat} {v1 : Int32} {r : Int32} (h_v0 : v0 < 2) (hf : f_Str_indexOf1 μ v0 v1 = some r) : ∀ l E z, l.stackTraces = false → me_Met l yJ0_indexOf_0f7a4 cJ0_indexOf_0f7a4 2 (some .int) 3 70 0 0 E B μ z [.inl (.ref (B.1 200 v0)), me_i v1] (B, μ, .ok (some (me_i r))) :=
  fun _ _ _ hl => me_ofZ hl (by decide +kernel) (Nat.le_of_ble_eq_true rfl) (fun _ C N hNx => z_Str_indexOf1 C N hNx hB h_v0 hf)

def f_Y_way (μ : me_M) (v1 : Int32) : Option (me_M × (Except Nat Int32)) :=
  me_bd (f_Str_indexOf1 μ 0 v1) (fun r1 =>
  if 0 ≤ r1 then
  (me_lt ((μ 27 0 4)) (fun x3 =>
  me_gd (me_nr .char v1) (
  me_lt (me_up μ 27 0 4 v1) (fun μ5 =>
  me_gd (me_nr .char x3) (
  some (μ5, .ok x3))))))
  else
  (some (μ, .error 2)))
set_option maxHeartbeats 4000000 in
set_option maxRecDepth 100000 in
theorem z_Y_way {X : me_X} {B : me_B} {sz : Nat} (C : me_C X B RX11 cX11_way 3 (some .char)) {μ : me_M} {v1 : Int32}   {r : me_M × (Except Nat Int32)} (N : me_En X B sz (B, r.1, me_xc (fun v => some (me_i v)) r.2) 6 91 1 6) (hNx : me_Nx X) (hB : me_St B)   (hf : f_Y_way μ v1 = some r) : me_Z X B 0 0 μ 0 [(0, me_r 0 0), (1, me_i v1)] [] := by
  unfold f_Y_way at hf
  refine me_ldcS C sx_Y_213 dX11_way_0 ?_
  refine me_iload_n C 1 dX11_way_2 rfl rfl ?_
  obtain ⟨r1, h_r1, hf⟩ := me_bs hf
  refine me_callG C N (by decide) (As := [me_i v1]) (st := []) 0 0 (c_Str_indexOf1 hB (by decide) h_r1) mv_Str_indexOf1 ml_Y_215 rfl dX11_way_3 rfl rfl ⟨by decide, by decide⟩ ⟨by decide, by decide, by decide, by decide⟩ (Nat.le_of_ble_eq_true rfl) ?_
  refine me_if_ge C (tgt := 19) dX11_way_6 (by decide) (fun c2 => ?_) (fun c2 => ?_)
  · replace hf := me_ip c2 hf
    refine me_aload_n C 0 (Or.inr (Or.inl ⟨_, rfl⟩)) dX11_way_19 rfl rfl ?_
    refine me_getr C hB 5 (k' := 27) (i' := 0) fg_Y_49 dX11_way_20 rfl rfl ?_
    refine me_geti C 4 fg_Y_222 dX11_way_23 rfl ?_
    obtain ⟨x3, e_x3, hf⟩ := me_lts hf
    refine me_nm e_x3 ?_
    refine me_istore_n C 2 dX11_way_26 rfl (by decide) (L' := [(2, me_i x3), (0, me_r 0 0), (1, me_i v1)]) rfl ?_
    refine me_aload_n C 0 (Or.inr (Or.inl ⟨_, rfl⟩)) dX11_way_27 rfl rfl ?_
    refine me_getr C hB 5 (k' := 27) (i' := 0) fg_Y_49 dX11_way_28 rfl rfl ?_
    refine me_iload_n C 1 dX11_way_31 rfl rfl ?_
    obtain ⟨g4, hf⟩ := me_gs hf
    obtain ⟨μ5, e_μ5, hf⟩ := me_lts hf
    refine me_puti C 4 fw_Y_222 dX11_way_32 rfl g4 e_μ5 ?_
    refine me_iload_n C 2 dX11_way_35 rfl rfl ?_
    obtain ⟨g6, hf⟩ := me_gs hf
    exact me_iret C N dX11_way_36 g6 (by cases hf; rfl) (by decide) (by decide)
  · replace hf := me_in c2 hf
    exact me_throw C N hNx 2 cl_Y_109 ie_2 sr_Y_220 tw_Y_113 ft_2 dX11_way_9 dX11_way_12 dX11_way_13 dX11_way_15 dX11_way_18 ⟨by decide, by decide⟩ (Nat.le_of_ble_eq_true rfl) ⟨by decide, by decide⟩ (by cases hf; rfl)
theorem c_Y_way {B : me_B} (hB : me_St B) {μ : me_M} {v1 : Int32} {μ' : me_M} {r : Except Nat Int32}  (hf : f_Y_way μ v1 = some (μ', r)) : ∀ l E z, l.stackTraces = false → me_Met l yX11_way cX11_way 3 (some .char) 6 91 1 6 E B μ z [me_r 0 0, me_i v1] (B, μ', me_xc (fun v => some (me_i v)) r) :=
  fun _ _ _ hl => me_ofZ hl (by decide +kernel) (Nat.le_of_ble_eq_true rfl) (fun _ C N hNx => z_Y_way C N hNx hB  hf)

def f_Y_places (μ : me_M) (v1 : Int32) : Option (me_M × (Except Nat Int32)) :=
  me_bd (f_Y_needRange μ v1 (1 : Int32) (4 : Int32)) (fun r1 =>
  me_xb2 r1 μ (fun r1 =>
  me_lt ((μ 0 0 9)) (fun x2 =>
  me_b2 (f_Y_setAllPlaces μ v1) (fun μ4 r3 =>
  some (μ4, .ok x2)))))
set_option maxHeartbeats 4000000 in
set_option maxRecDepth 100000 in
theorem z_Y_places {X : me_X} {B : me_B} {sz : Nat} (C : me_C X B RX11 cX11_places 3 (some .int)) {μ : me_M} {v1 : Int32}   {r : me_M × (Except Nat Int32)} (N : me_En X B sz (B, r.1, me_xc (fun v => some (me_i v)) r.2) 7 113 1 6) (hNx : me_Nx X) (hB : me_St B)   (hf : f_Y_places μ v1 = some r) : me_Z X B 0 0 μ 0 [(0, me_r 0 0), (1, me_i v1)] [] := by
  unfold f_Y_places at hf
  refine me_aload_n C 0 (Or.inr (Or.inl ⟨_, rfl⟩)) dX11_places_0 rfl rfl ?_
  refine me_iload_n C 1 dX11_places_1 rfl rfl ?_
  refine me_iconst C (v := 1) dX11_places_2 (by decide) ?_
  refine me_iconst C (v := 4) dX11_places_3 (by decide) ?_
  obtain ⟨r1, h_r1, hf⟩ := me_bs hf
  rcases r1 with r1 | r1
  · replace hf := me_xb2e hf
    refine me_callVE C N  (As := [me_i v1, me_i (1 : Int32), me_i (4 : Int32)]) (st := []) 1 6 (c_Y_needRange hB h_r1) mv_Y_needRange ml_Y_87 rfl rfl dX11_places_4 rfl rfl ⟨by decide, by decide⟩ ⟨by decide, by decide, by decide, by decide⟩ (Nat.le_of_ble_eq_true rfl) ?_
    exact me_outX C N hNx (by cases hf; rfl) (by decide) (by decide)
  replace hf := me_xb2o hf
  refine me_callV0 C N  (As := [me_i v1, me_i (1 : Int32), me_i (4 : Int32)]) (st := []) 1 6 (c_Y_needRange hB h_r1) mv_Y_needRange ml_Y_87 rfl rfl dX11_places_4 rfl rfl ⟨by decide, by decide⟩ ⟨by decide, by decide, by decide, by decide⟩ (Nat.le_of_ble_eq_true rfl) ?_
  refine me_aload_n C 0 (Or.inr (Or.inl ⟨_, rfl⟩)) dX11_places_7 rfl rfl ?_
  refine me_geti C 9 fg_Y_225 dX11_places_8 rfl ?_
  obtain ⟨x2, e_x2, hf⟩ := me_lts hf
  refine me_nm e_x2 ?_
  refine me_istore_n C 2 dX11_places_11 rfl (by decide) (L' := [(2, me_i x2), (0, me_r 0 0), (1, me_i v1)]) rfl ?_
  refine me_aload_n C 0 (Or.inr (Or.inl ⟨_, rfl⟩)) dX11_places_12 rfl rfl ?_
  refine me_iload_n C 1 dX11_places_13 rfl rfl ?_
  obtain ⟨μ4, r3, h_r3, hf⟩ := me_bs2 hf
  refine me_callV0 C N  (As := [me_i v1]) (st := []) 1 6 (c_Y_setAllPlaces hB h_r3) mv_Y_setAllPlaces ml_Y_228 rfl rfl dX11_places_14 rfl rfl ⟨by decide, by decide⟩ ⟨by decide, by decide, by decide, by decide⟩ (Nat.le_of_ble_eq_true rfl) ?_
  refine me_iload_n C 2 dX11_places_17 rfl rfl ?_
  exact me_iret C N dX11_places_18 (me_nri _) (by cases hf; rfl) (by decide) (by decide)
theorem c_Y_places {B : me_B} (hB : me_St B) {μ : me_M} {v1 : Int32} {μ' : me_M} {r : Except Nat Int32}  (hf : f_Y_places μ v1 = some (μ', r)) : ∀ l E z, l.stackTraces = false → me_Met l yX11_places cX11_places 3 (some .int) 7 113 1 6 E B μ z [me_r 0 0, me_i v1] (B, μ', me_xc (fun v => some (me_i v)) r) :=
  fun _ _ _ hl => me_ofZ hl (by decide +kernel) (Nat.le_of_ble_eq_true rfl) (fun _ C N hNx => z_Y_places C N hNx hB  hf)

def f_Y_needRow_b29 (μ : me_M) : Option (Except Nat Nat) :=
  some (.error 2)
set_option maxHeartbeats 4000000 in
set_option maxRecDepth 100000 in
theorem z_Y_needRow_b29 {X : me_X} {B : me_B} {sz : Nat} (C : me_C X B RX11 cX11_needRow 6 (some (.object "Meshyard$Row"))) {μ : me_M}    {r : Except Nat Nat} (N : me_En X B sz (B, μ, me_xc (fun v => some (me_r 17 v)) r) 6 91 1 6) (hNx : me_Nx X) (hB : me_St B)   (hf : f_Y_needRow_b29 μ = some r) : me_Z X B 0 0 μ 29 [] [] := by
  unfold f_Y_needRow_b29 at hf
  exact me_throwW C N hNx 2 cl_Y_109 ie_2 sr_Y_441 tw_Y_113 ft_2 dX11_needRow_29 dX11_needRow_32 dX11_needRow_33 dX11_needRow_36 dX11_needRow_39 ⟨by decide, by decide⟩ (Nat.le_of_ble_eq_true rfl) ⟨by decide, by decide⟩ (by cases hf; rfl)
def f_Y_needRow (μ : me_M) (v1 : Int32) (v2 : Int32) (v3 : Int32) (v4 : Int32) : Option (Except Nat Nat) :=
  me_bd (f_Str_indexOf1 μ 1 v2) (fun r1 =>
  if r1 < 0 then
  (f_Y_needRow_b29 μ)
  else
  (if v4 ≤ r1 then
  (f_Y_needRow_b29 μ)
  else
  (if v3 < 0 then
  (f_Y_needRow_b29 μ)
  else
  (if v3 < (2 : Int32) then
  (me_gd (me_inb v1 16) (
  me_gd (me_inb ((v3 * (5 : Int32)) + r1) 10) (
  some (.ok (10 * (me_ix v1) + (me_ix ((v3 * (5 : Int32)) + r1)))))))
  else
  (f_Y_needRow_b29 μ)))))
set_option maxHeartbeats 4000000 in
set_option maxRecDepth 100000 in
theorem z_Y_needRow {X : me_X} {B : me_B} {sz : Nat} (C : me_C X B RX11 cX11_needRow 6 (some (.object "Meshyard$Row"))) {μ : me_M} {v1 : Int32} {v2 : Int32} {v3 : Int32} {v4 : Int32}   {r : Except Nat Nat} (N : me_En X B sz (B, μ, me_xc (fun v => some (me_r 17 v)) r) 6 91 1 6) (hNx : me_Nx X) (hB : me_St B)   (hf : f_Y_needRow μ v1 v2 v3 v4 = some r) : me_Z X B 0 0 μ 0 [(0, me_r 0 0), (1, me_i v1), (2, me_i v2), (3, me_i v3), (4, me_i v4)] [] := by
  unfold f_Y_needRow at hf
  refine me_ldcS C sx_Y_243 dX11_needRow_0 ?_
  refine me_iload_n C 2 dX11_needRow_2 rfl rfl ?_
  obtain ⟨r1, h_r1, hf⟩ := me_bs hf
  refine me_callG C N (by decide) (As := [me_i v2]) (st := []) 0 0 (c_Str_indexOf1 hB (by decide) h_r1) mv_Str_indexOf1 ml_Y_215 rfl dX11_needRow_3 rfl rfl ⟨by decide, by decide⟩ ⟨by decide, by decide, by decide, by decide⟩ (Nat.le_of_ble_eq_true rfl) ?_
  refine me_istore C dX11_needRow_6 (by decide) (L' := [(5, me_i r1), (0, me_r 0 0), (1, me_i v1), (2, me_i v2), (3, me_i v3), (4, me_i v4)]) rfl ?_
  refine me_iload C dX11_needRow_8 rfl ?_
  refine me_if_lt C (tgt := 29) dX11_needRow_10 (by decide) (fun c2 => ?_) (fun c2 => ?_)
  · replace hf := me_ip c2 hf
    refine me_dropI [] [] rfl ?_
    exact z_Y_needRow_b29 C N hNx hB hf
  · replace hf := me_in c2 hf
    refine me_iload C dX11_needRow_13 rfl ?_
    refine me_iload C dX11_needRow_15 rfl ?_
    refine me_icmp_ge C (tgt := 29) dX11_needRow_17 (by decide) (fun c3 => ?_) (fun c3 => ?_)
    · replace hf := me_ip c3 hf
      refine me_dropI [] [] rfl ?_
      exact z_Y_needRow_b29 C N hNx hB hf
    · replace hf := me_in c3 hf
      refine me_iload_n C 3 dX11_needRow_20 rfl rfl ?_
      refine me_if_lt C (tgt := 29) dX11_needRow_21 (by decide) (fun c4 => ?_) (fun c4 => ?_)
      · replace hf := me_ip c4 hf
        refine me_dropI [] [] rfl ?_
        exact z_Y_needRow_b29 C N hNx hB hf
      · replace hf := me_in c4 hf
        refine me_iload_n C 3 dX11_needRow_24 rfl rfl ?_
        refine me_iconst C (v := 2) dX11_needRow_25 (by decide) ?_
        refine me_icmp_lt C (tgt := 40) dX11_needRow_26 (by decide) (fun c5 => ?_) (fun c5 => ?_)
        · replace hf := me_ip c5 hf
          refine me_aload_n C 0 (Or.inr (Or.inl ⟨_, rfl⟩)) dX11_needRow_40 rfl rfl ?_
          refine me_getr C hB 3 (k' := 12) (i' := 0) fg_Y_34 dX11_needRow_41 rfl rfl ?_
          refine me_iload_n C 1 dX11_needRow_44 rfl rfl ?_
          obtain ⟨g6, hf⟩ := me_gs hf
          refine me_aald C hB (k' := 13) (i' := (me_ix v1)) rfl (fun _ => rfl) rfl g6 dX11_needRow_45 rfl ?_
          refine me_getr C hB 0 (k' := 14) (i' := (me_ix v1)) fg_Y_443 dX11_needRow_46 rfl rfl ?_
          refine me_iload_n C 3 dX11_needRow_49 rfl rfl ?_
          refine me_iconst C (v := 5) dX11_needRow_50 (by decide) ?_
          refine me_imul C dX11_needRow_51 ?_
          refine me_iload C dX11_needRow_52 rfl ?_
          refine me_iadd C dX11_needRow_54 ?_
          obtain ⟨g7, hf⟩ := me_gs hf
          refine me_aald C hB (k' := 17) (i' := 10 * (me_ix v1) + (me_ix ((v3 * (5 : Int32)) + r1))) rfl (fun _ => rfl) rfl g7 dX11_needRow_55 rfl ?_
          exact me_aret C N (Or.inr ⟨_, rfl⟩) dX11_needRow_56 (by cases hf; rfl) (by decide) (by decide)
        · replace hf := me_in c5 hf
          refine me_dropI [] [] rfl ?_
          exact z_Y_needRow_b29 C N hNx hB hf
theorem c_Y_needRow {B : me_B} (hB : me_St B) {μ : me_M} {v1 : Int32} {v2 : Int32} {v3 : Int32} {v4 : Int32} {r : Except Nat Nat}  (hf : f_Y_needRow μ v1 v2 v3 v4 = some r) : ∀ l E z, l.stackTraces = false → me_Met l yX11_needRow cX11_needRow 6 (some (.object "Meshyard$Row")) 6 91 1 6 E B μ z [me_r 0 0, me_i v1, me_i v2, me_i v3, me_i v4] (B, μ, me_xc (fun v => some (me_r 17 v)) r) :=
  fun _ _ _ hl => me_ofZ hl (by decide +kernel) (Nat.le_of_ble_eq_true rfl) (fun _ C N hNx => z_Y_needRow C N hNx hB  hf)

def f_Y_row (μ : me_M) (v1 : Int32) (v2 : Int32) (v3 : Int32) : Option (Except Nat Int32) :=
  me_bd (f_Y_needNode μ v1) (fun r1 =>
  me_xb r1 (fun r1 =>
  me_bd (f_Y_needRow μ v1 v2 v3 (5 : Int32)) (fun r2 =>
  me_xb r2 (fun r2 =>
  some (.ok (μ 17 r2 3))))))
set_option maxHeartbeats 4000000 in
set_option maxRecDepth 100000 in
theorem z_Y_row {X : me_X} {B : me_B} {sz : Nat} (C : me_C X B RX11 cX11_row 4 (some .int)) {μ : me_M} {v1 : Int32} {v2 : Int32} {v3 : Int32}   {r : Except Nat Int32} (N : me_En X B sz (B, μ, me_xc (fun v => some (me_i v)) r) 7 116 2 12) (hNx : me_Nx X) (hB : me_St B)   (hf : f_Y_row μ v1 v2 v3 = some r) : me_Z X B 0 0 μ 0 [(0, me_r 0 0), (1, me_i v1), (2, me_i v2), (3, me_i v3)] [] := by
  unfold f_Y_row at hf
  refine me_aload_n C 0 (Or.inr (Or.inl ⟨_, rfl⟩)) dX11_row_0 rfl rfl ?_
  refine me_iload_n C 1 dX11_row_1 rfl rfl ?_
  obtain ⟨r1, h_r1, hf⟩ := me_bs hf
  rcases r1 with r1 | r1
  · replace hf := me_xbe hf
    refine me_callVE C N  (As := [me_i v1]) (st := []) 1 6 (c_Y_needNode hB h_r1) mv_Y_needNode ml_Y_103 rfl rfl dX11_row_2 rfl rfl ⟨by decide, by decide⟩ ⟨by decide, by decide, by decide, by decide⟩ (Nat.le_of_ble_eq_true rfl) ?_
    exact me_outX C N hNx (by cases hf; rfl) (by decide) (by decide)
  replace hf := me_xbo hf
  refine me_callV0 C N  (As := [me_i v1]) (st := []) 1 6 (c_Y_needNode hB h_r1) mv_Y_needNode ml_Y_103 rfl rfl dX11_row_2 rfl rfl ⟨by decide, by decide⟩ ⟨by decide, by decide, by decide, by decide⟩ (Nat.le_of_ble_eq_true rfl) ?_
  refine me_aload_n C 0 (Or.inr (Or.inl ⟨_, rfl⟩)) dX11_row_5 rfl rfl ?_
  refine me_iload_n C 1 dX11_row_6 rfl rfl ?_
  refine me_iload_n C 2 dX11_row_7 rfl rfl ?_
  refine me_iload_n C 3 dX11_row_8 rfl rfl ?_
  refine me_iconst C (v := 5) dX11_row_9 (by decide) ?_
  obtain ⟨r2, h_r2, hf⟩ := me_bs hf
  rcases r2 with r2 | r2
  · replace hf := me_xbe hf
    refine me_callVE C N  (As := [me_i v1, me_i v2, me_i v3, me_i (5 : Int32)]) (st := []) 2 12 (c_Y_needRow hB h_r2) mv_Y_needRow ml_Y_231 rfl rfl dX11_row_10 rfl rfl ⟨by decide, by decide⟩ ⟨by decide, by decide, by decide, by decide⟩ (Nat.le_of_ble_eq_true rfl) ?_
    exact me_outX C N hNx (by cases hf; rfl) (by decide) (by decide)
  replace hf := me_xbo hf
  refine me_callV C N  (As := [me_i v1, me_i v2, me_i v3, me_i (5 : Int32)]) (st := []) 2 12 (c_Y_needRow hB h_r2) mv_Y_needRow ml_Y_231 rfl rfl dX11_row_10 rfl rfl ⟨by decide, by decide⟩ ⟨by decide, by decide, by decide, by decide⟩ (Nat.le_of_ble_eq_true rfl) ?_
  refine me_geti C 3 fg_Y_235 dX11_row_13 rfl ?_
  exact me_iret C N dX11_row_16 (me_nri _) (by cases hf; rfl) (by decide) (by decide)
theorem c_Y_row {B : me_B} (hB : me_St B) {μ : me_M} {v1 : Int32} {v2 : Int32} {v3 : Int32} {r : Except Nat Int32}  (hf : f_Y_row μ v1 v2 v3 = some r) : ∀ l E z, l.stackTraces = false → me_Met l yX11_row cX11_row 4 (some .int) 7 116 2 12 E B μ z [me_r 0 0, me_i v1, me_i v2, me_i v3] (B, μ, me_xc (fun v => some (me_i v)) r) :=
  fun _ _ _ hl => me_ofZ hl (by decide +kernel) (Nat.le_of_ble_eq_true rfl) (fun _ C N hNx => z_Y_row C N hNx hB  hf)

def f_Y_owner (μ : me_M) (v1 : Int32) (v2 : Int32) (v3 : Int32) : Option (Except Nat Int32) :=
  me_bd (f_Y_needNode μ v1) (fun r1 =>
  me_xb r1 (fun r1 =>
  me_bd (f_Y_needRow μ v1 v2 v3 (4 : Int32)) (fun r2 =>
  me_xb r2 (fun r2 =>
  some (.ok (μ 17 r2 5))))))
set_option maxHeartbeats 4000000 in
set_option maxRecDepth 100000 in
theorem z_Y_owner {X : me_X} {B : me_B} {sz : Nat} (C : me_C X B RX11 cX11_owner 4 (some .int)) {μ : me_M} {v1 : Int32} {v2 : Int32} {v3 : Int32}   {r : Except Nat Int32} (N : me_En X B sz (B, μ, me_xc (fun v => some (me_i v)) r) 7 116 2 12) (hNx : me_Nx X) (hB : me_St B)   (hf : f_Y_owner μ v1 v2 v3 = some r) : me_Z X B 0 0 μ 0 [(0, me_r 0 0), (1, me_i v1), (2, me_i v2), (3, me_i v3)] [] := by
  unfold f_Y_owner at hf
  refine me_aload_n C 0 (Or.inr (Or.inl ⟨_, rfl⟩)) dX11_owner_0 rfl rfl ?_
  refine me_iload_n C 1 dX11_owner_1 rfl rfl ?_
  obtain ⟨r1, h_r1, hf⟩ := me_bs hf
  rcases r1 with r1 | r1
  · replace hf := me_xbe hf
    refine me_callVE C N  (As := [me_i v1]) (st := []) 1 6 (c_Y_needNode hB h_r1) mv_Y_needNode ml_Y_103 rfl rfl dX11_owner_2 rfl rfl ⟨by decide, by decide⟩ ⟨by decide, by decide, by decide, by decide⟩ (Nat.le_of_ble_eq_true rfl) ?_
    exact me_outX C N hNx (by cases hf; rfl) (by decide) (by decide)
  replace hf := me_xbo hf
  refine me_callV0 C N  (As := [me_i v1]) (st := []) 1 6 (c_Y_needNode hB h_r1) mv_Y_needNode ml_Y_103 rfl rfl dX11_owner_2 rfl rfl ⟨by decide, by decide⟩ ⟨by decide, by decide, by decide, by decide⟩ (Nat.le_of_ble_eq_true rfl) ?_
  refine me_aload_n C 0 (Or.inr (Or.inl ⟨_, rfl⟩)) dX11_owner_5 rfl rfl ?_
  refine me_iload_n C 1 dX11_owner_6 rfl rfl ?_
  refine me_iload_n C 2 dX11_owner_7 rfl rfl ?_
  refine me_iload_n C 3 dX11_owner_8 rfl rfl ?_
  refine me_iconst C (v := 4) dX11_owner_9 (by decide) ?_
  obtain ⟨r2, h_r2, hf⟩ := me_bs hf
  rcases r2 with r2 | r2
  · replace hf := me_xbe hf
    refine me_callVE C N  (As := [me_i v1, me_i v2, me_i v3, me_i (4 : Int32)]) (st := []) 2 12 (c_Y_needRow hB h_r2) mv_Y_needRow ml_Y_231 rfl rfl dX11_owner_10 rfl rfl ⟨by decide, by decide⟩ ⟨by decide, by decide, by decide, by decide⟩ (Nat.le_of_ble_eq_true rfl) ?_
    exact me_outX C N hNx (by cases hf; rfl) (by decide) (by decide)
  replace hf := me_xbo hf
  refine me_callV C N  (As := [me_i v1, me_i v2, me_i v3, me_i (4 : Int32)]) (st := []) 2 12 (c_Y_needRow hB h_r2) mv_Y_needRow ml_Y_231 rfl rfl dX11_owner_10 rfl rfl ⟨by decide, by decide⟩ ⟨by decide, by decide, by decide, by decide⟩ (Nat.le_of_ble_eq_true rfl) ?_
  refine me_geti C 5 fg_Y_240 dX11_owner_13 rfl ?_
  exact me_iret C N dX11_owner_16 (me_nri _) (by cases hf; rfl) (by decide) (by decide)
theorem c_Y_owner {B : me_B} (hB : me_St B) {μ : me_M} {v1 : Int32} {v2 : Int32} {v3 : Int32} {r : Except Nat Int32}  (hf : f_Y_owner μ v1 v2 v3 = some r) : ∀ l E z, l.stackTraces = false → me_Met l yX11_owner cX11_owner 4 (some .int) 7 116 2 12 E B μ z [me_r 0 0, me_i v1, me_i v2, me_i v3] (B, μ, me_xc (fun v => some (me_i v)) r) :=
  fun _ _ _ hl => me_ofZ hl (by decide +kernel) (Nat.le_of_ble_eq_true rfl) (fun _ C N hNx => z_Y_owner C N hNx hB  hf)

def f_Y_sleep_b31 (μ : me_M) : Option (me_M × (Except Nat Int32)) :=
  some (μ, .error 4)
set_option maxHeartbeats 4000000 in
set_option maxRecDepth 100000 in
theorem z_Y_sleep_b31 {X : me_X} {B : me_B} {sz : Nat} (C : me_C X B RX11 cX11_sleep 4 (some .boolean)) {μ : me_M}    {r : me_M × (Except Nat Int32)} (N : me_En X B sz (B, r.1, me_xc (fun v => some (me_i v)) r.2) 7 111 2 12) (hNx : me_Nx X) (hB : me_St B)   (hf : f_Y_sleep_b31 μ = some r) : me_Z X B 1 6 μ 31 [] [] := by
  unfold f_Y_sleep_b31 at hf
  exact me_throwW C N hNx 4 cl_Y_251 ie_4 sr_Y_270 tw_Y_255 ft_4 dX11_sleep_31 dX11_sleep_34 dX11_sleep_35 dX11_sleep_38 dX11_sleep_41 ⟨by decide, by decide⟩ (Nat.le_of_ble_eq_true rfl) ⟨by decide, by decide⟩ (by cases hf; rfl)
def f_Y_sleep (μ : me_M) (v1 : Int32) : Option (me_M × (Except Nat Int32)) :=
  me_bd (f_Y_needNode μ v1) (fun r1 =>
  me_xb2 r1 μ (fun r1 =>
  me_gd (me_inb v1 16) (
  me_bd (f_Router_isIdle μ (me_ix v1)) (fun r3 =>
  if r3 = 0 then
  (f_Y_sleep_b31 μ)
  else
  (me_gd (me_inb v1 16) (
  me_bd (f_Core_isBusy μ (me_ix v1)) (fun r6 =>
  if r6 = 0 then
  (me_lt ((μ 13 (me_ix v1) 3)) (fun x8 =>
  me_lt (me_up μ 13 (me_ix v1) 3 (0 : Int32)) (fun μ9 =>
  me_gd (me_nr .boolean x8) (
  some (μ9, .ok x8)))))
  else
  (f_Y_sleep_b31 μ))))))))
set_option maxHeartbeats 4000000 in
set_option maxRecDepth 100000 in
theorem z_Y_sleep {X : me_X} {B : me_B} {sz : Nat} (C : me_C X B RX11 cX11_sleep 4 (some .boolean)) {μ : me_M} {v1 : Int32}   {r : me_M × (Except Nat Int32)} (N : me_En X B sz (B, r.1, me_xc (fun v => some (me_i v)) r.2) 7 111 2 12) (hNx : me_Nx X) (hB : me_St B)   (hf : f_Y_sleep μ v1 = some r) : me_Z X B 0 0 μ 0 [(0, me_r 0 0), (1, me_i v1)] [] := by
  unfold f_Y_sleep at hf
  refine me_aload_n C 0 (Or.inr (Or.inl ⟨_, rfl⟩)) dX11_sleep_0 rfl rfl ?_
  refine me_iload_n C 1 dX11_sleep_1 rfl rfl ?_
  obtain ⟨r1, h_r1, hf⟩ := me_bs hf
  rcases r1 with r1 | r1
  · replace hf := me_xb2e hf
    refine me_callVE C N  (As := [me_i v1]) (st := []) 1 6 (c_Y_needNode hB h_r1) mv_Y_needNode ml_Y_103 rfl rfl dX11_sleep_2 rfl rfl ⟨by decide, by decide⟩ ⟨by decide, by decide, by decide, by decide⟩ (Nat.le_of_ble_eq_true rfl) ?_
    exact me_outX C N hNx (by cases hf; rfl) (by decide) (by decide)
  replace hf := me_xb2o hf
  refine me_callV0 C N  (As := [me_i v1]) (st := []) 1 6 (c_Y_needNode hB h_r1) mv_Y_needNode ml_Y_103 rfl rfl dX11_sleep_2 rfl rfl ⟨by decide, by decide⟩ ⟨by decide, by decide, by decide, by decide⟩ (Nat.le_of_ble_eq_true rfl) ?_
  refine me_aload_n C 0 (Or.inr (Or.inl ⟨_, rfl⟩)) dX11_sleep_5 rfl rfl ?_
  refine me_getr C hB 3 (k' := 12) (i' := 0) fg_Y_34 dX11_sleep_6 rfl rfl ?_
  refine me_iload_n C 1 dX11_sleep_9 rfl rfl ?_
  obtain ⟨g2, hf⟩ := me_gs hf
  refine me_aald C hB (k' := 13) (i' := (me_ix v1)) rfl (fun _ => rfl) rfl g2 dX11_sleep_10 rfl ?_
  refine me_astore_n C 2 (Or.inr (Or.inl ⟨_, rfl⟩)) dX11_sleep_11 rfl (by decide) (L' := [(2, me_r 13 (me_ix v1)), (0, me_r 0 0), (1, me_i v1)]) rfl ?_
  refine me_aload_n C 2 (Or.inr (Or.inl ⟨_, rfl⟩)) dX11_sleep_12 rfl rfl ?_
  obtain ⟨r3, h_r3, hf⟩ := me_bs hf
  refine me_callV C N  (As := []) (st := []) 1 6 (c_Router_isIdle hB h_r3) mv_Router_isIdle ml_Y_264 rfl rfl dX11_sleep_13 rfl rfl ⟨by decide, by decide⟩ ⟨by decide, by decide, by decide, by decide⟩ (Nat.le_of_ble_eq_true rfl) ?_
  refine me_if_eq C (tgt := 31) dX11_sleep_16 (by decide) (fun c4 => ?_) (fun c4 => ?_)
  · replace hf := me_ip c4 hf
    refine me_dropI [] [] rfl ?_
    exact z_Y_sleep_b31 C N hNx hB hf
  · replace hf := me_in c4 hf
    refine me_aload_n C 0 (Or.inr (Or.inl ⟨_, rfl⟩)) dX11_sleep_19 rfl rfl ?_
    refine me_getr C hB 4 (k' := 21) (i' := 0) fg_Y_40 dX11_sleep_20 rfl rfl ?_
    refine me_iload_n C 1 dX11_sleep_23 rfl rfl ?_
    obtain ⟨g5, hf⟩ := me_gs hf
    refine me_aald C hB (k' := 22) (i' := (me_ix v1)) rfl (fun _ => rfl) rfl g5 dX11_sleep_24 rfl ?_
    obtain ⟨r6, h_r6, hf⟩ := me_bs hf
    refine me_callV C N  (As := []) (st := []) 1 6 (c_Core_isBusy hB h_r6) mv_Core_isBusy ml_Y_267 rfl rfl dX11_sleep_25 rfl rfl ⟨by decide, by decide⟩ ⟨by decide, by decide, by decide, by decide⟩ (Nat.le_of_ble_eq_true rfl) ?_
    refine me_if_eq C (tgt := 42) dX11_sleep_28 (by decide) (fun c7 => ?_) (fun c7 => ?_)
    · replace hf := me_ip c7 hf
      refine me_aload_n C 2 (Or.inr (Or.inl ⟨_, rfl⟩)) dX11_sleep_42 rfl rfl ?_
      refine me_geti C 3 fg_Y_272 dX11_sleep_43 rfl ?_
      obtain ⟨x8, e_x8, hf⟩ := me_lts hf
      refine me_nm e_x8 ?_
      refine me_istore_n C 3 dX11_sleep_46 rfl (by decide) (L' := [(3, me_i x8), (2, me_r 13 (me_ix v1)), (0, me_r 0 0), (1, me_i v1)]) rfl ?_
      refine me_aload_n C 2 (Or.inr (Or.inl ⟨_, rfl⟩)) dX11_sleep_47 rfl rfl ?_
      refine me_iconst C (v := 0) dX11_sleep_48 (by decide) ?_
      obtain ⟨μ9, e_μ9, hf⟩ := me_lts hf
      refine me_puti C 3 fw_Y_272 dX11_sleep_49 rfl (by decide +kernel) e_μ9 ?_
      refine me_iload_n C 3 dX11_sleep_52 rfl rfl ?_
      obtain ⟨g10, hf⟩ := me_gs hf
      exact me_iret C N dX11_sleep_53 g10 (by cases hf; rfl) (by decide) (by decide)
    · replace hf := me_in c7 hf
      refine me_dropI [] [] rfl ?_
      exact z_Y_sleep_b31 C N hNx hB hf
theorem c_Y_sleep {B : me_B} (hB : me_St B) {μ : me_M} {v1 : Int32} {μ' : me_M} {r : Except Nat Int32}  (hf : f_Y_sleep μ v1 = some (μ', r)) : ∀ l E z, l.stackTraces = false → me_Met l yX11_sleep cX11_sleep 4 (some .boolean) 7 111 2 12 E B μ z [me_r 0 0, me_i v1] (B, μ', me_xc (fun v => some (me_i v)) r) :=
  fun _ _ _ hl => me_ofZ hl (by decide +kernel) (Nat.le_of_ble_eq_true rfl) (fun _ C N hNx => z_Y_sleep C N hNx hB  hf)

def f_Y_isAwake (μ : me_M) (v1 : Int32) : Option (Except Nat Int32) :=
  me_bd (f_Y_needNode μ v1) (fun r1 =>
  me_xb r1 (fun r1 =>
  me_gd (me_inb v1 16) (
  me_gd (me_nr .boolean (μ 13 (me_ix v1) 3)) (
  some (.ok (μ 13 (me_ix v1) 3))))))
set_option maxHeartbeats 4000000 in
set_option maxRecDepth 100000 in
theorem z_Y_isAwake {X : me_X} {B : me_B} {sz : Nat} (C : me_C X B RX11 cX11_isAwake 2 (some .boolean)) {μ : me_M} {v1 : Int32}   {r : Except Nat Int32} (N : me_En X B sz (B, μ, me_xc (fun v => some (me_i v)) r) 7 111 1 6) (hNx : me_Nx X) (hB : me_St B)   (hf : f_Y_isAwake μ v1 = some r) : me_Z X B 0 0 μ 0 [(0, me_r 0 0), (1, me_i v1)] [] := by
  unfold f_Y_isAwake at hf
  refine me_aload_n C 0 (Or.inr (Or.inl ⟨_, rfl⟩)) dX11_isAwake_0 rfl rfl ?_
  refine me_iload_n C 1 dX11_isAwake_1 rfl rfl ?_
  obtain ⟨r1, h_r1, hf⟩ := me_bs hf
  rcases r1 with r1 | r1
  · replace hf := me_xbe hf
    refine me_callVE C N  (As := [me_i v1]) (st := []) 1 6 (c_Y_needNode hB h_r1) mv_Y_needNode ml_Y_103 rfl rfl dX11_isAwake_2 rfl rfl ⟨by decide, by decide⟩ ⟨by decide, by decide, by decide, by decide⟩ (Nat.le_of_ble_eq_true rfl) ?_
    exact me_outX C N hNx (by cases hf; rfl) (by decide) (by decide)
  replace hf := me_xbo hf
  refine me_callV0 C N  (As := [me_i v1]) (st := []) 1 6 (c_Y_needNode hB h_r1) mv_Y_needNode ml_Y_103 rfl rfl dX11_isAwake_2 rfl rfl ⟨by decide, by decide⟩ ⟨by decide, by decide, by decide, by decide⟩ (Nat.le_of_ble_eq_true rfl) ?_
  refine me_aload_n C 0 (Or.inr (Or.inl ⟨_, rfl⟩)) dX11_isAwake_5 rfl rfl ?_
  refine me_getr C hB 3 (k' := 12) (i' := 0) fg_Y_34 dX11_isAwake_6 rfl rfl ?_
  refine me_iload_n C 1 dX11_isAwake_9 rfl rfl ?_
  obtain ⟨g2, hf⟩ := me_gs hf
  refine me_aald C hB (k' := 13) (i' := (me_ix v1)) rfl (fun _ => rfl) rfl g2 dX11_isAwake_10 rfl ?_
  refine me_geti C 3 fg_Y_272 dX11_isAwake_11 rfl ?_
  obtain ⟨g3, hf⟩ := me_gs hf
  exact me_iret C N dX11_isAwake_14 g3 (by cases hf; rfl) (by decide) (by decide)
theorem c_Y_isAwake {B : me_B} (hB : me_St B) {μ : me_M} {v1 : Int32} {r : Except Nat Int32}  (hf : f_Y_isAwake μ v1 = some r) : ∀ l E z, l.stackTraces = false → me_Met l yX11_isAwake cX11_isAwake 2 (some .boolean) 7 111 1 6 E B μ z [me_r 0 0, me_i v1] (B, μ, me_xc (fun v => some (me_i v)) r) :=
  fun _ _ _ hl => me_ofZ hl (by decide +kernel) (Nat.le_of_ble_eq_true rfl) (fun _ C N hNx => z_Y_isAwake C N hNx hB  hf)

def f_Y_memory (μ : me_M) (v1 : Int32) (v2 : Int32) : Option (Except Nat Int32) :=
  me_bd (f_Y_needNode μ v1) (fun r1 =>
  me_xb r1 (fun r1 =>
  me_bd (f_Y_needRange μ v2 (0 : Int32) (7 : Int32)) (fun r2 =>
  me_xb r2 (fun r2 =>
  me_gd (me_inb v1 16) (
  me_gd (me_inb v2 8) (
  some (.ok (μ 23 (me_ix v1) (me_ix v2)))))))))
set_option maxHeartbeats 4000000 in
set_option maxRecDepth 100000 in
theorem z_Y_memory {X : me_X} {B : me_B} {sz : Nat} (C : me_C X B RX11 cX11_memory 3 (some .int)) {μ : me_M} {v1 : Int32} {v2 : Int32}   {r : Except Nat Int32} (N : me_En X B sz (B, μ, me_xc (fun v => some (me_i v)) r) 7 113 2 12) (hNx : me_Nx X) (hB : me_St B)   (hf : f_Y_memory μ v1 v2 = some r) : me_Z X B 0 0 μ 0 [(0, me_r 0 0), (1, me_i v1), (2, me_i v2)] [] := by
  unfold f_Y_memory at hf
  refine me_aload_n C 0 (Or.inr (Or.inl ⟨_, rfl⟩)) dX11_memory_0 rfl rfl ?_
  refine me_iload_n C 1 dX11_memory_1 rfl rfl ?_
  obtain ⟨r1, h_r1, hf⟩ := me_bs hf
  rcases r1 with r1 | r1
  · replace hf := me_xbe hf
    refine me_callVE C N  (As := [me_i v1]) (st := []) 1 6 (c_Y_needNode hB h_r1) mv_Y_needNode ml_Y_103 rfl rfl dX11_memory_2 rfl rfl ⟨by decide, by decide⟩ ⟨by decide, by decide, by decide, by decide⟩ (Nat.le_of_ble_eq_true rfl) ?_
    exact me_outX C N hNx (by cases hf; rfl) (by decide) (by decide)
  replace hf := me_xbo hf
  refine me_callV0 C N  (As := [me_i v1]) (st := []) 1 6 (c_Y_needNode hB h_r1) mv_Y_needNode ml_Y_103 rfl rfl dX11_memory_2 rfl rfl ⟨by decide, by decide⟩ ⟨by decide, by decide, by decide, by decide⟩ (Nat.le_of_ble_eq_true rfl) ?_
  refine me_aload_n C 0 (Or.inr (Or.inl ⟨_, rfl⟩)) dX11_memory_5 rfl rfl ?_
  refine me_iload_n C 2 dX11_memory_6 rfl rfl ?_
  refine me_iconst C (v := 0) dX11_memory_7 (by decide) ?_
  refine me_bipush C (v := 7) dX11_memory_8 (by decide) ?_
  obtain ⟨r2, h_r2, hf⟩ := me_bs hf
  rcases r2 with r2 | r2
  · replace hf := me_xbe hf
    refine me_callVE C N  (As := [me_i v2, me_i (0 : Int32), me_i (7 : Int32)]) (st := []) 2 12 (c_Y_needRange hB h_r2) mv_Y_needRange ml_Y_87 rfl rfl dX11_memory_10 rfl rfl ⟨by decide, by decide⟩ ⟨by decide, by decide, by decide, by decide⟩ (Nat.le_of_ble_eq_true rfl) ?_
    exact me_outX C N hNx (by cases hf; rfl) (by decide) (by decide)
  replace hf := me_xbo hf
  refine me_callV0 C N  (As := [me_i v2, me_i (0 : Int32), me_i (7 : Int32)]) (st := []) 2 12 (c_Y_needRange hB h_r2) mv_Y_needRange ml_Y_87 rfl rfl dX11_memory_10 rfl rfl ⟨by decide, by decide⟩ ⟨by decide, by decide, by decide, by decide⟩ (Nat.le_of_ble_eq_true rfl) ?_
  refine me_aload_n C 0 (Or.inr (Or.inl ⟨_, rfl⟩)) dX11_memory_13 rfl rfl ?_
  refine me_getr C hB 4 (k' := 21) (i' := 0) fg_Y_40 dX11_memory_14 rfl rfl ?_
  refine me_iload_n C 1 dX11_memory_17 rfl rfl ?_
  obtain ⟨g3, hf⟩ := me_gs hf
  refine me_aald C hB (k' := 22) (i' := (me_ix v1)) rfl (fun _ => rfl) rfl g3 dX11_memory_18 rfl ?_
  refine me_getr C hB 0 (k' := 23) (i' := (me_ix v1)) fg_Y_329 dX11_memory_19 rfl rfl ?_
  refine me_iload_n C 2 dX11_memory_22 rfl rfl ?_
  obtain ⟨g4, hf⟩ := me_gs hf
  refine me_iald C rfl (fun _ => rfl) g4 dX11_memory_23 ?_
  exact me_iret C N dX11_memory_24 (me_nri _) (by cases hf; rfl) (by decide) (by decide)
theorem c_Y_memory {B : me_B} (hB : me_St B) {μ : me_M} {v1 : Int32} {v2 : Int32} {r : Except Nat Int32}  (hf : f_Y_memory μ v1 v2 = some r) : ∀ l E z, l.stackTraces = false → me_Met l yX11_memory cX11_memory 3 (some .int) 7 113 2 12 E B μ z [me_r 0 0, me_i v1, me_i v2] (B, μ, me_xc (fun v => some (me_i v)) r) :=
  fun _ _ _ hl => me_ofZ hl (by decide +kernel) (Nat.le_of_ble_eq_true rfl) (fun _ C N hNx => z_Y_memory C N hNx hB  hf)

def f_Y_set (μ : me_M) (v1 : Int32) (v2 : Int32) (v3 : Int32) : Option (me_M × (Except Nat Int32)) :=
  me_bd (f_Y_needNode μ v1) (fun r1 =>
  me_xb2 r1 μ (fun r1 =>
  me_bd (f_Y_needRange μ v2 (0 : Int32) (7 : Int32)) (fun r2 =>
  me_xb2 r2 μ (fun r2 =>
  me_gd (me_inb v1 16) (
  me_gd (me_inb v2 8) (
  me_lt ((μ 23 (me_ix v1) (me_ix v2))) (fun x5 =>
  me_gd (me_inb v1 16) (
  me_gd (me_inb v2 8) (
  me_lt (me_up μ 23 (me_ix v1) (me_ix v2) v3) (fun μ8 =>
  some (μ8, .ok x5)))))))))))
set_option maxHeartbeats 4000000 in
set_option maxRecDepth 100000 in
theorem z_Y_set {X : me_X} {B : me_B} {sz : Nat} (C : me_C X B RX11 cX11_set 5 (some .int)) {μ : me_M} {v1 : Int32} {v2 : Int32} {v3 : Int32}   {r : me_M × (Except Nat Int32)} (N : me_En X B sz (B, r.1, me_xc (fun v => some (me_i v)) r.2) 7 113 2 12) (hNx : me_Nx X) (hB : me_St B)   (hf : f_Y_set μ v1 v2 v3 = some r) : me_Z X B 0 0 μ 0 [(0, me_r 0 0), (1, me_i v1), (2, me_i v2), (3, me_i v3)] [] := by
  unfold f_Y_set at hf
  refine me_aload_n C 0 (Or.inr (Or.inl ⟨_, rfl⟩)) dX11_set_0 rfl rfl ?_
  refine me_iload_n C 1 dX11_set_1 rfl rfl ?_
  obtain ⟨r1, h_r1, hf⟩ := me_bs hf
  rcases r1 with r1 | r1
  · replace hf := me_xb2e hf
    refine me_callVE C N  (As := [me_i v1]) (st := []) 1 6 (c_Y_needNode hB h_r1) mv_Y_needNode ml_Y_103 rfl rfl dX11_set_2 rfl rfl ⟨by decide, by decide⟩ ⟨by decide, by decide, by decide, by decide⟩ (Nat.le_of_ble_eq_true rfl) ?_
    exact me_outX C N hNx (by cases hf; rfl) (by decide) (by decide)
  replace hf := me_xb2o hf
  refine me_callV0 C N  (As := [me_i v1]) (st := []) 1 6 (c_Y_needNode hB h_r1) mv_Y_needNode ml_Y_103 rfl rfl dX11_set_2 rfl rfl ⟨by decide, by decide⟩ ⟨by decide, by decide, by decide, by decide⟩ (Nat.le_of_ble_eq_true rfl) ?_
  refine me_aload_n C 0 (Or.inr (Or.inl ⟨_, rfl⟩)) dX11_set_5 rfl rfl ?_
  refine me_iload_n C 2 dX11_set_6 rfl rfl ?_
  refine me_iconst C (v := 0) dX11_set_7 (by decide) ?_
  refine me_bipush C (v := 7) dX11_set_8 (by decide) ?_
  obtain ⟨r2, h_r2, hf⟩ := me_bs hf
  rcases r2 with r2 | r2
  · replace hf := me_xb2e hf
    refine me_callVE C N  (As := [me_i v2, me_i (0 : Int32), me_i (7 : Int32)]) (st := []) 2 12 (c_Y_needRange hB h_r2) mv_Y_needRange ml_Y_87 rfl rfl dX11_set_10 rfl rfl ⟨by decide, by decide⟩ ⟨by decide, by decide, by decide, by decide⟩ (Nat.le_of_ble_eq_true rfl) ?_
    exact me_outX C N hNx (by cases hf; rfl) (by decide) (by decide)
  replace hf := me_xb2o hf
  refine me_callV0 C N  (As := [me_i v2, me_i (0 : Int32), me_i (7 : Int32)]) (st := []) 2 12 (c_Y_needRange hB h_r2) mv_Y_needRange ml_Y_87 rfl rfl dX11_set_10 rfl rfl ⟨by decide, by decide⟩ ⟨by decide, by decide, by decide, by decide⟩ (Nat.le_of_ble_eq_true rfl) ?_
  refine me_aload_n C 0 (Or.inr (Or.inl ⟨_, rfl⟩)) dX11_set_13 rfl rfl ?_
  refine me_getr C hB 4 (k' := 21) (i' := 0) fg_Y_40 dX11_set_14 rfl rfl ?_
  refine me_iload_n C 1 dX11_set_17 rfl rfl ?_
  obtain ⟨g3, hf⟩ := me_gs hf
  refine me_aald C hB (k' := 22) (i' := (me_ix v1)) rfl (fun _ => rfl) rfl g3 dX11_set_18 rfl ?_
  refine me_getr C hB 0 (k' := 23) (i' := (me_ix v1)) fg_Y_329 dX11_set_19 rfl rfl ?_
  refine me_iload_n C 2 dX11_set_22 rfl rfl ?_
  obtain ⟨g4, hf⟩ := me_gs hf
  refine me_iald C rfl (fun _ => rfl) g4 dX11_set_23 ?_
  obtain ⟨x5, e_x5, hf⟩ := me_lts hf
  refine me_nm e_x5 ?_
  refine me_istore C dX11_set_24 (by decide) (L' := [(4, me_i x5), (0, me_r 0 0), (1, me_i v1), (2, me_i v2), (3, me_i v3)]) rfl ?_
  refine me_aload_n C 0 (Or.inr (Or.inl ⟨_, rfl⟩)) dX11_set_26 rfl rfl ?_
  refine me_getr C hB 4 (k' := 21) (i' := 0) fg_Y_40 dX11_set_27 rfl rfl ?_
  refine me_iload_n C 1 dX11_set_30 rfl rfl ?_
  obtain ⟨g6, hf⟩ := me_gs hf
  refine me_aald C hB (k' := 22) (i' := (me_ix v1)) rfl (fun _ => rfl) rfl g6 dX11_set_31 rfl ?_
  refine me_getr C hB 0 (k' := 23) (i' := (me_ix v1)) fg_Y_329 dX11_set_32 rfl rfl ?_
  refine me_iload_n C 2 dX11_set_35 rfl rfl ?_
  refine me_iload_n C 3 dX11_set_36 rfl rfl ?_
  obtain ⟨g7, hf⟩ := me_gs hf
  obtain ⟨μ8, e_μ8, hf⟩ := me_lts hf
  refine me_iast C rfl (fun _ => rfl) g7 dX11_set_37 e_μ8 ?_
  refine me_iload C dX11_set_38 rfl ?_
  exact me_iret C N dX11_set_40 (me_nri _) (by cases hf; rfl) (by decide) (by decide)
theorem c_Y_set {B : me_B} (hB : me_St B) {μ : me_M} {v1 : Int32} {v2 : Int32} {v3 : Int32} {μ' : me_M} {r : Except Nat Int32}  (hf : f_Y_set μ v1 v2 v3 = some (μ', r)) : ∀ l E z, l.stackTraces = false → me_Met l yX11_set cX11_set 5 (some .int) 7 113 2 12 E B μ z [me_r 0 0, me_i v1, me_i v2, me_i v3] (B, μ', me_xc (fun v => some (me_i v)) r) :=
  fun _ _ _ hl => me_ofZ hl (by decide +kernel) (Nat.le_of_ble_eq_true rfl) (fun _ C N hNx => z_Y_set C N hNx hB  hf)

def f_Y_lostShare (μ : me_M) : Option (Except Nat UInt32) :=
  if (μ 6 0 1) = 0 then
  (some (.error 5))
  else
  (me_bd (f_Post_countLost μ) (fun r2 =>
  me_gd (me_n32 (FP.fdiv (FP.i2f r2) (FP.i2f (μ 6 0 1)))) (
  some (.ok (FP.fdiv (FP.i2f r2) (FP.i2f (μ 6 0 1)))))))
set_option maxHeartbeats 4000000 in
set_option maxRecDepth 100000 in
theorem z_Y_lostShare {X : me_X} {B : me_B} {sz : Nat} (C : me_C X B RX11 cX11_lostShare 1 (some .float)) {μ : me_M}    {r : Except Nat UInt32} (N : me_En X B sz (B, μ, me_xc (fun v => some (me_f v)) r) 6 90 1 6) (hNx : me_Nx X) (hB : me_St B)   (hf : f_Y_lostShare μ = some r) : me_Z X B 0 0 μ 0 [(0, me_r 0 0)] [] := by
  unfold f_Y_lostShare at hf
  refine me_aload_n C 0 (Or.inr (Or.inl ⟨_, rfl⟩)) dX11_lostShare_0 rfl rfl ?_
  refine me_getr C hB 1 (k' := 6) (i' := 0) fg_Y_19 dX11_lostShare_1 rfl rfl ?_
  refine me_geti C 1 fg_Y_175 dX11_lostShare_4 rfl ?_
  refine me_if_ne C (tgt := 21) dX11_lostShare_7 (by decide) (fun c1 => ?_) (fun c1 => ?_)
  · replace hf := me_in c1 hf
    refine me_aload_n C 0 (Or.inr (Or.inl ⟨_, rfl⟩)) dX11_lostShare_21 rfl rfl ?_
    refine me_getr C hB 1 (k' := 6) (i' := 0) fg_Y_19 dX11_lostShare_22 rfl rfl ?_
    obtain ⟨r2, h_r2, hf⟩ := me_bs hf
    refine me_callV C N  (As := []) (st := []) 0 0 (c_Post_countLost hB h_r2) mv_Post_countLost ml_Y_385 rfl rfl dX11_lostShare_25 rfl rfl ⟨by decide, by decide⟩ ⟨by decide, by decide, by decide, by decide⟩ (Nat.le_of_ble_eq_true rfl) ?_
    refine me_i2f C dX11_lostShare_28 ?_
    refine me_aload_n C 0 (Or.inr (Or.inl ⟨_, rfl⟩)) dX11_lostShare_29 rfl rfl ?_
    refine me_getr C hB 1 (k' := 6) (i' := 0) fg_Y_19 dX11_lostShare_30 rfl rfl ?_
    refine me_geti C 1 fg_Y_175 dX11_lostShare_33 rfl ?_
    refine me_i2f C dX11_lostShare_36 ?_
    obtain ⟨g3, hf⟩ := me_gs hf
    refine me_fdiv C dX11_lostShare_37 (me_n32s g3) ?_
    exact me_fret C N dX11_lostShare_38 (by cases hf; rfl) (by decide) (by decide)
  · replace hf := me_ip c1 hf
    exact me_throwNW C N hNx 5 cl_Y_146 ie_5 sr_Y_383 tw_Y_150 rfl dX11_lostShare_10 dX11_lostShare_13 dX11_lostShare_14 dX11_lostShare_17 dX11_lostShare_20 ⟨by decide, by decide⟩ (Nat.le_of_ble_eq_true rfl) ⟨by decide, by decide⟩ (by cases hf; rfl)
theorem c_Y_lostShare {B : me_B} (hB : me_St B) {μ : me_M}  {r : Except Nat UInt32}  (hf : f_Y_lostShare μ = some r) : ∀ l E z, l.stackTraces = false → me_Met l yX11_lostShare cX11_lostShare 1 (some .float) 6 90 1 6 E B μ z [me_r 0 0] (B, μ, me_xc (fun v => some (me_f v)) r) :=
  fun _ _ _ hl => me_ofZ hl (by decide +kernel) (Nat.le_of_ble_eq_true rfl) (fun _ C N hNx => z_Y_lostShare C N hNx hB  hf)

def f_Y_packetsAreSound_b2 (K2 : me_M → Int32 → Option (me_M × Int32)) (μ : me_M) (v1 : Int32) : Option (me_M × Int32) :=
  if (μ 6 0 1) ≤ v1 then
  (some (μ, (1 : Int32)))
  else
  (me_gd (me_inb v1 200) (
  if (μ 8 (me_ix v1) 2) = (119 : Int32) then
  (me_gd (me_inb v1 200) (
  me_b2 (f_Audit_packetIsSound μ (me_ix v1)) (fun μ7 r6 =>
  if r6 = 0 then
  (some (μ7, (0 : Int32)))
  else
  (me_lt (me_inc v1 (1)) (fun x9 =>
  K2 μ7 x9)))))
  else
  (me_lt (me_inc v1 (1)) (fun x4 =>
  K2 μ x4))))
set_option maxHeartbeats 4000000 in
set_option maxRecDepth 100000 in
theorem z_Y_packetsAreSound_b2 {X : me_X} {B : me_B} {sz : Nat} (C : me_C X B RX11 cX11_packetsAreSound 2 (some .boolean)) {μ : me_M} {v1 : Int32}  {K2 : me_M → Int32 → Option (me_M × Int32)} {r : me_M × Int32} (N : me_En X B sz (B, r.1, .ok (some (me_i r.2))) 4 93 0 0) (hNx : me_Nx X) (hB : me_St B) (hK2 : ∀ (μ : me_M) (v1 : Int32), K2 μ v1 = some r → me_Z X B 0 0 μ 2 [(0, me_r 0 0), (1, me_i v1)] [])  (hf : f_Y_packetsAreSound_b2 K2 μ v1 = some r) : me_Z X B 0 0 μ 2 [(0, me_r 0 0), (1, me_i v1)] [] := by
  unfold f_Y_packetsAreSound_b2 at hf
  refine me_iload_n C 1 dX11_packetsAreSound_2 rfl rfl ?_
  refine me_aload_n C 0 (Or.inr (Or.inl ⟨_, rfl⟩)) dX11_packetsAreSound_3 rfl rfl ?_
  refine me_getr C hB 1 (k' := 6) (i' := 0) fg_Y_19 dX11_packetsAreSound_4 rfl rfl ?_
  refine me_geti C 1 fg_Y_175 dX11_packetsAreSound_7 rfl ?_
  refine me_icmp_ge C (tgt := 57) dX11_packetsAreSound_10 (by decide) (fun c1 => ?_) (fun c1 => ?_)
  · replace hf := me_ip c1 hf
    refine me_iconst C (v := 1) dX11_packetsAreSound_57 (by decide) ?_
    exact me_iret C N dX11_packetsAreSound_58 (by decide +kernel) (by cases hf; rfl) (by decide) (by decide)
  · replace hf := me_in c1 hf
    refine me_aload_n C 0 (Or.inr (Or.inl ⟨_, rfl⟩)) dX11_packetsAreSound_13 rfl rfl ?_
    refine me_getr C hB 1 (k' := 6) (i' := 0) fg_Y_19 dX11_packetsAreSound_14 rfl rfl ?_
    refine me_getr C hB 0 (k' := 7) (i' := 0) fg_Y_379 dX11_packetsAreSound_17 rfl rfl ?_
    refine me_iload_n C 1 dX11_packetsAreSound_20 rfl rfl ?_
    obtain ⟨g2, hf⟩ := me_gs hf
    refine me_aald C hB (k' := 8) (i' := (me_ix v1)) rfl (fun _ => rfl) rfl g2 dX11_packetsAreSound_21 rfl ?_
    refine me_geti C 2 fg_Y_151 dX11_packetsAreSound_22 rfl ?_
    refine me_bipush C (v := 119) dX11_packetsAreSound_25 (by decide) ?_
    refine me_icmp_ne C (tgt := 51) dX11_packetsAreSound_27 (by decide) (fun c3 => ?_) (fun c3 => ?_)
    · replace hf := me_in c3 hf
      obtain ⟨x4, e_x4, hf⟩ := me_lts hf
      refine me_iinc C (v := x4) (L' := [(1, me_i x4), (0, me_r 0 0)]) dX11_packetsAreSound_51 rfl e_x4.symm (by decide) rfl ?_
      refine me_goto C (tgt := 2) dX11_packetsAreSound_54 (by decide) ?_
      refine me_dropI [(0, me_r 0 0), (1, me_i x4)] [1, 0] rfl ?_
      exact hK2 μ x4 hf
    · replace hf := me_ip c3 hf
      refine me_aload_n C 0 (Or.inr (Or.inl ⟨_, rfl⟩)) dX11_packetsAreSound_30 rfl rfl ?_
      refine me_getr C hB 8 (k' := 32) (i' := 0) fg_Y_74 dX11_packetsAreSound_31 rfl rfl ?_
      refine me_aload_n C 0 (Or.inr (Or.inl ⟨_, rfl⟩)) dX11_packetsAreSound_34 rfl rfl ?_
      refine me_getr C hB 1 (k' := 6) (i' := 0) fg_Y_19 dX11_packetsAreSound_35 rfl rfl ?_
      refine me_getr C hB 0 (k' := 7) (i' := 0) fg_Y_379 dX11_packetsAreSound_38 rfl rfl ?_
      refine me_iload_n C 1 dX11_packetsAreSound_41 rfl rfl ?_
      obtain ⟨g5, hf⟩ := me_gs hf
      refine me_aald C hB (k' := 8) (i' := (me_ix v1)) rfl (fun _ => rfl) rfl g5 dX11_packetsAreSound_42 rfl ?_
      obtain ⟨μ7, r6, h_r6, hf⟩ := me_bs2 hf
      refine me_callV C N  (As := [me_r 8 (me_ix v1)]) (st := []) 0 0 (c_Audit_packetIsSound hB h_r6) mv_Audit_packetIsSound ml_Y_415 rfl rfl dX11_packetsAreSound_43 rfl rfl ⟨by decide, by decide⟩ ⟨by decide, by decide, by decide, by decide⟩ (Nat.le_of_ble_eq_true rfl) ?_
      refine me_if_ne C (tgt := 51) dX11_packetsAreSound_46 (by decide) (fun c8 => ?_) (fun c8 => ?_)
      · replace hf := me_in c8 hf
        obtain ⟨x9, e_x9, hf⟩ := me_lts hf
        refine me_iinc C (v := x9) (L' := [(1, me_i x9), (0, me_r 0 0)]) dX11_packetsAreSound_51 rfl e_x9.symm (by decide) rfl ?_
        refine me_goto C (tgt := 2) dX11_packetsAreSound_54 (by decide) ?_
        refine me_dropI [(0, me_r 0 0), (1, me_i x9)] [1, 0] rfl ?_
        exact hK2 μ7 x9 hf
      · replace hf := me_ip c8 hf
        refine me_iconst C (v := 0) dX11_packetsAreSound_49 (by decide) ?_
        exact me_iret C N dX11_packetsAreSound_50 (by decide +kernel) (by cases hf; rfl) (by decide) (by decide)
def f_Y_packetsAreSound_h2  : Nat → me_M → Int32 → Option (me_M × Int32)
  | 0, _, _ => none
  | n + 1, μ, v1 => f_Y_packetsAreSound_b2 (f_Y_packetsAreSound_h2 n) μ v1
set_option maxHeartbeats 4000000 in
set_option maxRecDepth 100000 in
theorem z_Y_packetsAreSound_h2 {X : me_X} {B : me_B} {sz : Nat} (C : me_C X B RX11 cX11_packetsAreSound 2 (some .boolean))  {r : me_M × Int32} (N : me_En X B sz (B, r.1, .ok (some (me_i r.2))) 4 93 0 0) (hNx : me_Nx X) (hB : me_St B)  : ∀ (n : Nat) (μ : me_M) (v1 : Int32), f_Y_packetsAreSound_h2 n μ v1 = some r → me_Z X B 0 0 μ 2 [(0, me_r 0 0), (1, me_i v1)] [] := by
  intro n
  induction n with
  | zero => intro μ v1  h; exact absurd (show (none : Option (me_M × Int32)) = some r from h) (fun q => by cases q)
  | succ n ih => intro μ v1  h; exact z_Y_packetsAreSound_b2 C N hNx hB  (K2 := f_Y_packetsAreSound_h2 n) ih  h
def f_Y_packetsAreSound (μ : me_M) : Option (me_M × Int32) :=
  f_Y_packetsAreSound_h2 me_FU μ (0 : Int32)
set_option maxHeartbeats 4000000 in
set_option maxRecDepth 100000 in
theorem z_Y_packetsAreSound {X : me_X} {B : me_B} {sz : Nat} (C : me_C X B RX11 cX11_packetsAreSound 2 (some .boolean)) {μ : me_M}    {r : me_M × Int32} (N : me_En X B sz (B, r.1, .ok (some (me_i r.2))) 4 93 0 0) (hNx : me_Nx X) (hB : me_St B)   (hf : f_Y_packetsAreSound μ = some r) : me_Z X B 0 0 μ 0 [(0, me_r 0 0)] [] := by
  unfold f_Y_packetsAreSound at hf
  refine me_iconst C (v := 0) dX11_packetsAreSound_0 (by decide) ?_
  refine me_istore_n C 1 dX11_packetsAreSound_1 rfl (by decide) (L' := [(1, me_i (0 : Int32)), (0, me_r 0 0)]) rfl ?_
  refine me_dropI [(0, me_r 0 0), (1, me_i (0 : Int32))] [1, 0] rfl ?_
  exact z_Y_packetsAreSound_h2 C N hNx hB me_FU μ (0 : Int32) hf
theorem c_Y_packetsAreSound {B : me_B} (hB : me_St B) {μ : me_M}  {μ' : me_M} {r : Int32}  (hf : f_Y_packetsAreSound μ = some (μ', r)) : ∀ l E z, l.stackTraces = false → me_Met l yX11_packetsAreSound cX11_packetsAreSound 2 (some .boolean) 4 93 0 0 E B μ z [me_r 0 0] (B, μ', .ok (some (me_i r))) :=
  fun _ _ _ hl => me_ofZ hl (by decide +kernel) (Nat.le_of_ble_eq_true rfl) (fun _ C N hNx => z_Y_packetsAreSound C N hNx hB  hf)

def f_Y_isSound (μ : me_M) : Option (me_M × Int32) :=
  me_bd (f_Audit_rowsAreSound μ) (fun r1 =>
  if r1 = 0 then
  (some (μ, (0 : Int32)))
  else
  (me_b2 (f_Y_packetsAreSound μ) (fun μ4 r3 =>
  if r3 = 0 then
  (some (μ4, (0 : Int32)))
  else
  (some (μ4, (1 : Int32))))))
set_option maxHeartbeats 4000000 in
set_option maxRecDepth 100000 in
theorem z_Y_isSound {X : me_X} {B : me_B} {sz : Nat} (C : me_C X B RX11 cX11_isSound 1 (some .boolean)) {μ : me_M}    {r : me_M × Int32} (N : me_En X B sz (B, r.1, .ok (some (me_i r.2))) 5 114 0 0) (hNx : me_Nx X) (hB : me_St B)   (hf : f_Y_isSound μ = some r) : me_Z X B 0 0 μ 0 [(0, me_r 0 0)] [] := by
  unfold f_Y_isSound at hf
  refine me_aload_n C 0 (Or.inr (Or.inl ⟨_, rfl⟩)) dX11_isSound_0 rfl rfl ?_
  refine me_getr C hB 8 (k' := 32) (i' := 0) fg_Y_74 dX11_isSound_1 rfl rfl ?_
  obtain ⟨r1, h_r1, hf⟩ := me_bs hf
  refine me_callV C N  (As := []) (st := []) 0 0 (c_Audit_rowsAreSound hB h_r1) mv_Audit_rowsAreSound ml_Y_396 rfl rfl dX11_isSound_4 rfl rfl ⟨by decide, by decide⟩ ⟨by decide, by decide, by decide, by decide⟩ (Nat.le_of_ble_eq_true rfl) ?_
  refine me_if_eq C (tgt := 21) dX11_isSound_7 (by decide) (fun c2 => ?_) (fun c2 => ?_)
  · replace hf := me_ip c2 hf
    refine me_iconst C (v := 0) dX11_isSound_21 (by decide) ?_
    exact me_iret C N dX11_isSound_22 (by decide +kernel) (by cases hf; rfl) (by decide) (by decide)
  · replace hf := me_in c2 hf
    refine me_aload_n C 0 (Or.inr (Or.inl ⟨_, rfl⟩)) dX11_isSound_10 rfl rfl ?_
    obtain ⟨μ4, r3, h_r3, hf⟩ := me_bs2 hf
    refine me_callV C N  (As := []) (st := []) 0 0 (c_Y_packetsAreSound hB h_r3) mv_Y_packetsAreSound ml_Y_399 rfl rfl dX11_isSound_11 rfl rfl ⟨by decide, by decide⟩ ⟨by decide, by decide, by decide, by decide⟩ (Nat.le_of_ble_eq_true rfl) ?_
    refine me_if_eq C (tgt := 21) dX11_isSound_14 (by decide) (fun c5 => ?_) (fun c5 => ?_)
    · replace hf := me_ip c5 hf
      refine me_iconst C (v := 0) dX11_isSound_21 (by decide) ?_
      exact me_iret C N dX11_isSound_22 (by decide +kernel) (by cases hf; rfl) (by decide) (by decide)
    · replace hf := me_in c5 hf
      refine me_iconst C (v := 1) dX11_isSound_17 (by decide) ?_
      refine me_goto C (tgt := 22) dX11_isSound_18 (by decide) ?_
      exact me_iret C N dX11_isSound_22 (by decide +kernel) (by cases hf; rfl) (by decide) (by decide)
theorem c_Y_isSound {B : me_B} (hB : me_St B) {μ : me_M}  {μ' : me_M} {r : Int32}  (hf : f_Y_isSound μ = some (μ', r)) : ∀ l E z, l.stackTraces = false → me_Met l yX11_isSound cX11_isSound 1 (some .boolean) 5 114 0 0 E B μ z [me_r 0 0] (B, μ', .ok (some (me_i r))) :=
  fun _ _ _ hl => me_ofZ hl (by decide +kernel) (Nat.le_of_ble_eq_true rfl) (fun _ C N hNx => z_Y_isSound C N hNx hB  hf)
