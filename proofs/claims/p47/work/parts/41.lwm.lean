/-! WALKS of the law's own methods (printed by gen/lawgen.py) -/
def me_xm {α β : Type} (r : Except Nat α) (f : α → Option β) (g : Nat → Option β) : Option β := match r with
  | .ok a => f a
  | .error k => g k
theorem me_xme {α β : Type} {k : Nat} {f : α → Option β} {g : Nat → Option β} {o : β} (h : me_xm (.error k) f g = some o) : g k = some o := h
theorem me_xmo {α β : Type} {a : α} {f : α → Option β} {g : Nat → Option β} {o : β} (h : me_xm (.ok a) f g = some o) : f a = some o := h
theorem ci_L_7 : Cond.constant RL 7 (69069) ∈ me_gw := (me_gm 1215 (by decide +kernel) (by decide +kernel))
theorem ci_L_8 : Cond.constant RL 8 (1103515245) ∈ me_gw := (me_gm 1216 (by decide +kernel) (by decide +kernel))
theorem ml_L_87 : Cond.methodLink RL 87 yL_cell ∈ me_gw := (me_gm 1212 (by decide +kernel) (by decide +kernel))
theorem ms_L_cell : me_MS yL_cell cL_cell 3 (some .int) 2 := ⟨(me_gm 1214 (by decide +kernel) (by decide +kernel)), (me_gm 29 (by decide +kernel) (by decide +kernel)), ⟨by decide +kernel, by decide +kernel⟩, by decide +kernel, (me_gm 1213 (by decide +kernel) (by decide +kernel))⟩
theorem ci_L_93 : Cond.constant RL 93 (2147483647) ∈ me_gw := (me_gm 1217 (by decide +kernel) (by decide +kernel))
theorem ml_L_9 : Cond.methodLink RL 9 yX11_send ∈ me_gw := (me_gm 695 (by decide +kernel) (by decide +kernel))
theorem mv_Y_send : me_MV yX11_send cX11_send 5 (some .int) 4 := ⟨(me_gm 698 (by decide +kernel) (by decide +kernel)), (me_gm 30 (by decide +kernel) (by decide +kernel)), ⟨by decide +kernel, by decide +kernel⟩, by decide +kernel, (me_gm 696 (by decide +kernel) (by decide +kernel)), (me_gm 697 (by decide +kernel) (by decide +kernel))⟩
theorem cl_L_15 : Cond.classLink RL 15 (me_ex 1) ∈ me_gw := (me_gm 692 (by decide +kernel) (by decide +kernel))
theorem ca_1 : Cond.castable (me_ex 1) (me_ex 1) ∈ me_bw := me_bm 527 (by decide +kernel) (by decide +kernel)
theorem ci_L_17 : Cond.constant RL 17 (-900001) ∈ me_gw := (me_gm 760 (by decide +kernel) (by decide +kernel))
theorem cl_L_18 : Cond.classLink RL 18 (me_ex 2) ∈ me_gw := (me_gm 693 (by decide +kernel) (by decide +kernel))
theorem ca_2 : Cond.castable (me_ex 2) (me_ex 2) ∈ me_bw := me_bm 718 (by decide +kernel) (by decide +kernel)
theorem ci_L_20 : Cond.constant RL 20 (-900002) ∈ me_gw := (me_gm 761 (by decide +kernel) (by decide +kernel))
theorem cl_L_21 : Cond.classLink RL 21 (me_ex 3) ∈ me_gw := (me_gm 694 (by decide +kernel) (by decide +kernel))
theorem ca_3 : Cond.castable (me_ex 3) (me_ex 3) ∈ me_bw := me_bm 742 (by decide +kernel) (by decide +kernel)
theorem ci_L_23 : Cond.constant RL 23 (-900003) ∈ me_gw := (me_gm 762 (by decide +kernel) (by decide +kernel))
theorem ml_L_24 : Cond.methodLink RL 24 yX11_ask ∈ me_gw := (me_gm 766 (by decide +kernel) (by decide +kernel))
theorem mv_Y_ask : me_MV yX11_ask cX11_ask 8 (some .int) 5 := ⟨(me_gm 769 (by decide +kernel) (by decide +kernel)), (me_gm 30 (by decide +kernel) (by decide +kernel)), ⟨by decide +kernel, by decide +kernel⟩, by decide +kernel, (me_gm 767 (by decide +kernel) (by decide +kernel)), (me_gm 768 (by decide +kernel) (by decide +kernel))⟩
theorem ml_L_28 : Cond.methodLink RL 28 yX11_answer ∈ me_gw := (me_gm 774 (by decide +kernel) (by decide +kernel))
theorem mv_Y_answer : me_MV yX11_answer cX11_answer 3 (some .int) 1 := ⟨(me_gm 777 (by decide +kernel) (by decide +kernel)), (me_gm 30 (by decide +kernel) (by decide +kernel)), ⟨by decide +kernel, by decide +kernel⟩, by decide +kernel, (me_gm 775 (by decide +kernel) (by decide +kernel)), (me_gm 776 (by decide +kernel) (by decide +kernel))⟩
theorem cl_L_32 : Cond.classLink RL 32 (me_ex 5) ∈ me_gw := (me_gm 773 (by decide +kernel) (by decide +kernel))
theorem ca_5 : Cond.castable (me_ex 5) (me_ex 5) ∈ me_bw := me_bm 621 (by decide +kernel) (by decide +kernel)
theorem ml_L_34 : Cond.methodLink RL 34 yX11_state ∈ me_gw := (me_gm 783 (by decide +kernel) (by decide +kernel))
theorem mv_Y_state : me_MV yX11_state cX11_state 2 (some .char) 1 := ⟨(me_gm 786 (by decide +kernel) (by decide +kernel)), (me_gm 30 (by decide +kernel) (by decide +kernel)), ⟨by decide +kernel, by decide +kernel⟩, by decide +kernel, (me_gm 784 (by decide +kernel) (by decide +kernel)), (me_gm 785 (by decide +kernel) (by decide +kernel))⟩
theorem ml_L_38 : Cond.methodLink RL 38 yX11_head ∈ me_gw := (me_gm 790 (by decide +kernel) (by decide +kernel))
theorem mv_Y_head : me_MV yX11_head cX11_head 3 (some .int) 1 := ⟨(me_gm 793 (by decide +kernel) (by decide +kernel)), (me_gm 30 (by decide +kernel) (by decide +kernel)), ⟨by decide +kernel, by decide +kernel⟩, by decide +kernel, (me_gm 791 (by decide +kernel) (by decide +kernel)), (me_gm 792 (by decide +kernel) (by decide +kernel))⟩
theorem ml_L_41 : Cond.methodLink RL 41 yX11_time ∈ me_gw := (me_gm 798 (by decide +kernel) (by decide +kernel))
theorem mv_Y_time : me_MV yX11_time cX11_time 3 (some .int) 1 := ⟨(me_gm 801 (by decide +kernel) (by decide +kernel)), (me_gm 30 (by decide +kernel) (by decide +kernel)), ⟨by decide +kernel, by decide +kernel⟩, by decide +kernel, (me_gm 799 (by decide +kernel) (by decide +kernel)), (me_gm 800 (by decide +kernel) (by decide +kernel))⟩
theorem ml_L_44 : Cond.methodLink RL 44 yX11_receive ∈ me_gw := (me_gm 814 (by decide +kernel) (by decide +kernel))
theorem mv_Y_receive : me_MV yX11_receive cX11_receive 4 (some .int) 2 := ⟨(me_gm 817 (by decide +kernel) (by decide +kernel)), (me_gm 30 (by decide +kernel) (by decide +kernel)), ⟨by decide +kernel, by decide +kernel⟩, by decide +kernel, (me_gm 815 (by decide +kernel) (by decide +kernel)), (me_gm 816 (by decide +kernel) (by decide +kernel))⟩
theorem ml_L_48 : Cond.methodLink RL 48 yX11_lying ∈ me_gw := (me_gm 830 (by decide +kernel) (by decide +kernel))
theorem mv_Y_lying : me_MV yX11_lying cX11_lying 3 (some .int) 2 := ⟨(me_gm 833 (by decide +kernel) (by decide +kernel)), (me_gm 30 (by decide +kernel) (by decide +kernel)), ⟨by decide +kernel, by decide +kernel⟩, by decide +kernel, (me_gm 831 (by decide +kernel) (by decide +kernel)), (me_gm 832 (by decide +kernel) (by decide +kernel))⟩
theorem ml_L_51 : Cond.methodLink RL 51 yX11_net ∈ me_gw := (me_gm 841 (by decide +kernel) (by decide +kernel))
theorem mv_Y_net : me_MV yX11_net cX11_net 3 (some .int) 2 := ⟨(me_gm 844 (by decide +kernel) (by decide +kernel)), (me_gm 30 (by decide +kernel) (by decide +kernel)), ⟨by decide +kernel, by decide +kernel⟩, by decide +kernel, (me_gm 842 (by decide +kernel) (by decide +kernel)), (me_gm 843 (by decide +kernel) (by decide +kernel))⟩
theorem ml_L_54 : Cond.methodLink RL 54 yX11_way ∈ me_gw := (me_gm 848 (by decide +kernel) (by decide +kernel))
theorem mv_Y_way : me_MV yX11_way cX11_way 3 (some .char) 1 := ⟨(me_gm 851 (by decide +kernel) (by decide +kernel)), (me_gm 30 (by decide +kernel) (by decide +kernel)), ⟨by decide +kernel, by decide +kernel⟩, by decide +kernel, (me_gm 849 (by decide +kernel) (by decide +kernel)), (me_gm 850 (by decide +kernel) (by decide +kernel))⟩
theorem ml_L_58 : Cond.methodLink RL 58 yX11_places ∈ me_gw := (me_gm 941 (by decide +kernel) (by decide +kernel))
theorem mv_Y_places : me_MV yX11_places cX11_places 3 (some .int) 1 := ⟨(me_gm 944 (by decide +kernel) (by decide +kernel)), (me_gm 30 (by decide +kernel) (by decide +kernel)), ⟨by decide +kernel, by decide +kernel⟩, by decide +kernel, (me_gm 942 (by decide +kernel) (by decide +kernel)), (me_gm 943 (by decide +kernel) (by decide +kernel))⟩
theorem ml_L_61 : Cond.methodLink RL 61 yX11_row ∈ me_gw := (me_gm 948 (by decide +kernel) (by decide +kernel))
theorem mv_Y_row : me_MV yX11_row cX11_row 4 (some .int) 3 := ⟨(me_gm 951 (by decide +kernel) (by decide +kernel)), (me_gm 30 (by decide +kernel) (by decide +kernel)), ⟨by decide +kernel, by decide +kernel⟩, by decide +kernel, (me_gm 949 (by decide +kernel) (by decide +kernel)), (me_gm 950 (by decide +kernel) (by decide +kernel))⟩
theorem ml_L_65 : Cond.methodLink RL 65 yX11_owner ∈ me_gw := (me_gm 961 (by decide +kernel) (by decide +kernel))
theorem mv_Y_owner : me_MV yX11_owner cX11_owner 4 (some .int) 3 := ⟨(me_gm 964 (by decide +kernel) (by decide +kernel)), (me_gm 30 (by decide +kernel) (by decide +kernel)), ⟨by decide +kernel, by decide +kernel⟩, by decide +kernel, (me_gm 962 (by decide +kernel) (by decide +kernel)), (me_gm 963 (by decide +kernel) (by decide +kernel))⟩
theorem ml_L_68 : Cond.methodLink RL 68 yX11_memory ∈ me_gw := (me_gm 968 (by decide +kernel) (by decide +kernel))
theorem mv_Y_memory : me_MV yX11_memory cX11_memory 3 (some .int) 2 := ⟨(me_gm 971 (by decide +kernel) (by decide +kernel)), (me_gm 30 (by decide +kernel) (by decide +kernel)), ⟨by decide +kernel, by decide +kernel⟩, by decide +kernel, (me_gm 969 (by decide +kernel) (by decide +kernel)), (me_gm 970 (by decide +kernel) (by decide +kernel))⟩
theorem ml_L_71 : Cond.methodLink RL 71 yX11_set ∈ me_gw := (me_gm 975 (by decide +kernel) (by decide +kernel))
theorem mv_Y_set : me_MV yX11_set cX11_set 5 (some .int) 3 := ⟨(me_gm 978 (by decide +kernel) (by decide +kernel)), (me_gm 30 (by decide +kernel) (by decide +kernel)), ⟨by decide +kernel, by decide +kernel⟩, by decide +kernel, (me_gm 976 (by decide +kernel) (by decide +kernel)), (me_gm 977 (by decide +kernel) (by decide +kernel))⟩
theorem ml_L_75 : Cond.methodLink RL 75 yX11_beats ∈ me_gw := (me_gm 982 (by decide +kernel) (by decide +kernel))
theorem mv_Y_beats : me_MV yX11_beats cX11_beats 3 (some .boolean) 1 := ⟨(me_gm 985 (by decide +kernel) (by decide +kernel)), (me_gm 30 (by decide +kernel) (by decide +kernel)), ⟨by decide +kernel, by decide +kernel⟩, by decide +kernel, (me_gm 983 (by decide +kernel) (by decide +kernel)), (me_gm 984 (by decide +kernel) (by decide +kernel))⟩
theorem ml_L_79 : Cond.methodLink RL 79 yX11_sleep ∈ me_gw := (me_gm 1173 (by decide +kernel) (by decide +kernel))
theorem mv_Y_sleep : me_MV yX11_sleep cX11_sleep 4 (some .boolean) 1 := ⟨(me_gm 1176 (by decide +kernel) (by decide +kernel)), (me_gm 30 (by decide +kernel) (by decide +kernel)), ⟨by decide +kernel, by decide +kernel⟩, by decide +kernel, (me_gm 1174 (by decide +kernel) (by decide +kernel)), (me_gm 1175 (by decide +kernel) (by decide +kernel))⟩
theorem cl_L_82 : Cond.classLink RL 82 (me_ex 4) ∈ me_gw := (me_gm 1172 (by decide +kernel) (by decide +kernel))
theorem ca_4 : Cond.castable (me_ex 4) (me_ex 4) ∈ me_bw := me_bm 1188 (by decide +kernel) (by decide +kernel)
theorem ml_L_84 : Cond.methodLink RL 84 yX11_isAwake ∈ me_gw := (me_gm 1205 (by decide +kernel) (by decide +kernel))
theorem mv_Y_isAwake : me_MV yX11_isAwake cX11_isAwake 2 (some .boolean) 1 := ⟨(me_gm 1208 (by decide +kernel) (by decide +kernel)), (me_gm 30 (by decide +kernel) (by decide +kernel)), ⟨by decide +kernel, by decide +kernel⟩, by decide +kernel, (me_gm 1206 (by decide +kernel) (by decide +kernel)), (me_gm 1207 (by decide +kernel) (by decide +kernel))⟩
theorem dL_cell_0 : decode cL_cell 0 = .ok (.ldc 7, 2) := by decide +kernel
theorem dL_cell_2 : decode cL_cell 2 = .ok (.iload_n 1, 1) := by decide +kernel
theorem dL_cell_3 : decode cL_cell 3 = .ok (.aload_n 0, 1) := by decide +kernel
theorem dL_cell_4 : decode cL_cell 4 = .ok (.arraylength, 1) := by decide +kernel
theorem dL_cell_5 : decode cL_cell 5 = .ok (.if_icmp .ge 9, 3) := by decide +kernel
theorem dL_cell_8 : decode cL_cell 8 = .ok (.aload_n 0, 1) := by decide +kernel
theorem dL_cell_9 : decode cL_cell 9 = .ok (.iload_n 1, 1) := by decide +kernel
theorem dL_cell_10 : decode cL_cell 10 = .ok (.iaload, 1) := by decide +kernel
theorem dL_cell_11 : decode cL_cell 11 = .ok (.goto 4, 3) := by decide +kernel
theorem dL_cell_14 : decode cL_cell 14 = .ok (.iconst 0, 1) := by decide +kernel
theorem dL_cell_15 : decode cL_cell 15 = .ok (.sipush 1009, 3) := by decide +kernel
theorem dL_cell_18 : decode cL_cell 18 = .ok (.iload_n 1, 1) := by decide +kernel
theorem dL_cell_19 : decode cL_cell 19 = .ok (.imul, 1) := by decide +kernel
theorem dL_cell_20 : decode cL_cell 20 = .ok (.iadd, 1) := by decide +kernel
theorem dL_cell_21 : decode cL_cell 21 = .ok (.imul, 1) := by decide +kernel
theorem dL_cell_22 : decode cL_cell 22 = .ok (.sipush 12345, 3) := by decide +kernel
theorem dL_cell_25 : decode cL_cell 25 = .ok (.iadd, 1) := by decide +kernel
theorem dL_cell_26 : decode cL_cell 26 = .ok (.istore_n 2, 1) := by decide +kernel
theorem dL_cell_27 : decode cL_cell 27 = .ok (.iload_n 2, 1) := by decide +kernel
theorem dL_cell_28 : decode cL_cell 28 = .ok (.iload_n 2, 1) := by decide +kernel
theorem dL_cell_29 : decode cL_cell 29 = .ok (.bipush 13, 2) := by decide +kernel
theorem dL_cell_31 : decode cL_cell 31 = .ok (.iushr, 1) := by decide +kernel
theorem dL_cell_32 : decode cL_cell 32 = .ok (.ixor, 1) := by decide +kernel
theorem dL_cell_33 : decode cL_cell 33 = .ok (.ldc 8, 2) := by decide +kernel
theorem dL_cell_35 : decode cL_cell 35 = .ok (.imul, 1) := by decide +kernel
theorem dL_cell_36 : decode cL_cell 36 = .ok (.istore_n 2, 1) := by decide +kernel
theorem dL_cell_37 : decode cL_cell 37 = .ok (.iload_n 2, 1) := by decide +kernel
theorem dL_cell_38 : decode cL_cell 38 = .ok (.iload_n 2, 1) := by decide +kernel
theorem dL_cell_39 : decode cL_cell 39 = .ok (.bipush 16, 2) := by decide +kernel
theorem dL_cell_41 : decode cL_cell 41 = .ok (.iushr, 1) := by decide +kernel
theorem dL_cell_42 : decode cL_cell 42 = .ok (.ixor, 1) := by decide +kernel
theorem dL_cell_43 : decode cL_cell 43 = .ok (.ireturn, 1) := by decide +kernel
theorem dL_in_0 : decode cL_in 0 = .ok (.aload_n 0, 1) := by decide +kernel
theorem dL_in_1 : decode cL_in 1 = .ok (.iload_n 1, 1) := by decide +kernel
theorem dL_in_2 : decode cL_in 2 = .ok (.invokestatic 87, 3) := by decide +kernel
theorem dL_in_5 : decode cL_in 5 = .ok (.ldc 93, 2) := by decide +kernel
theorem dL_in_7 : decode cL_in 7 = .ok (.iand, 1) := by decide +kernel
theorem dL_in_8 : decode cL_in 8 = .ok (.iload_n 2, 1) := by decide +kernel
theorem dL_in_9 : decode cL_in 9 = .ok (.irem, 1) := by decide +kernel
theorem dL_in_10 : decode cL_in 10 = .ok (.ireturn, 1) := by decide +kernel
theorem dL_next_0 : decode cL_next 0 = .ok (.iload_n 2, 1) := by decide +kernel
theorem dL_next_1 : decode cL_next 1 = .ok (.iload_n 0, 1) := by decide +kernel
theorem dL_next_2 : decode cL_next 2 = .ok (.irem, 1) := by decide +kernel
theorem dL_next_3 : decode cL_next 3 = .ok (.iload_n 1, 1) := by decide +kernel
theorem dL_next_4 : decode cL_next 4 = .ok (.iload_n 0, 1) := by decide +kernel
theorem dL_next_5 : decode cL_next 5 = .ok (.irem, 1) := by decide +kernel
theorem dL_next_6 : decode cL_next 6 = .ok (.isub, 1) := by decide +kernel
theorem dL_next_7 : decode cL_next 7 = .ok (.istore 4, 2) := by decide +kernel
theorem dL_next_9 : decode cL_next 9 = .ok (.iload_n 2, 1) := by decide +kernel
theorem dL_next_10 : decode cL_next 10 = .ok (.iload_n 0, 1) := by decide +kernel
theorem dL_next_11 : decode cL_next 11 = .ok (.idiv, 1) := by decide +kernel
theorem dL_next_12 : decode cL_next 12 = .ok (.iload_n 1, 1) := by decide +kernel
theorem dL_next_13 : decode cL_next 13 = .ok (.iload_n 0, 1) := by decide +kernel
theorem dL_next_14 : decode cL_next 14 = .ok (.idiv, 1) := by decide +kernel
theorem dL_next_15 : decode cL_next 15 = .ok (.isub, 1) := by decide +kernel
theorem dL_next_16 : decode cL_next 16 = .ok (.istore 5, 2) := by decide +kernel
theorem dL_next_18 : decode cL_next 18 = .ok (.iload 4, 2) := by decide +kernel
theorem dL_next_20 : decode cL_next 20 = .ok (.ifCond .eq 16, 3) := by decide +kernel
theorem dL_next_23 : decode cL_next 23 = .ok (.iload_n 3, 1) := by decide +kernel
theorem dL_next_24 : decode cL_next 24 = .ok (.ifCond .ne 8, 3) := by decide +kernel
theorem dL_next_27 : decode cL_next 27 = .ok (.iload 5, 2) := by decide +kernel
theorem dL_next_29 : decode cL_next 29 = .ok (.ifCond .ne 7, 3) := by decide +kernel
theorem dL_next_32 : decode cL_next 32 = .ok (.iconst 1, 1) := by decide +kernel
theorem dL_next_33 : decode cL_next 33 = .ok (.goto 4, 3) := by decide +kernel
theorem dL_next_36 : decode cL_next 36 = .ok (.iconst 0, 1) := by decide +kernel
theorem dL_next_37 : decode cL_next 37 = .ok (.istore 6, 2) := by decide +kernel
theorem dL_next_39 : decode cL_next 39 = .ok (.iload 6, 2) := by decide +kernel
theorem dL_next_41 : decode cL_next 41 = .ok (.ifCond .eq 20, 3) := by decide +kernel
theorem dL_next_44 : decode cL_next 44 = .ok (.iload 4, 2) := by decide +kernel
theorem dL_next_46 : decode cL_next 46 = .ok (.ifCond .le 9, 3) := by decide +kernel
theorem dL_next_49 : decode cL_next 49 = .ok (.iload_n 1, 1) := by decide +kernel
theorem dL_next_50 : decode cL_next 50 = .ok (.iconst 1, 1) := by decide +kernel
theorem dL_next_51 : decode cL_next 51 = .ok (.iadd, 1) := by decide +kernel
theorem dL_next_52 : decode cL_next 52 = .ok (.goto 23, 3) := by decide +kernel
theorem dL_next_55 : decode cL_next 55 = .ok (.iload_n 1, 1) := by decide +kernel
theorem dL_next_56 : decode cL_next 56 = .ok (.iconst 1, 1) := by decide +kernel
theorem dL_next_57 : decode cL_next 57 = .ok (.isub, 1) := by decide +kernel
theorem dL_next_58 : decode cL_next 58 = .ok (.goto 17, 3) := by decide +kernel
theorem dL_next_61 : decode cL_next 61 = .ok (.iload 5, 2) := by decide +kernel
theorem dL_next_63 : decode cL_next 63 = .ok (.ifCond .le 9, 3) := by decide +kernel
theorem dL_next_66 : decode cL_next 66 = .ok (.iload_n 1, 1) := by decide +kernel
theorem dL_next_67 : decode cL_next 67 = .ok (.iload_n 0, 1) := by decide +kernel
theorem dL_next_68 : decode cL_next 68 = .ok (.iadd, 1) := by decide +kernel
theorem dL_next_69 : decode cL_next 69 = .ok (.goto 6, 3) := by decide +kernel
theorem dL_next_72 : decode cL_next 72 = .ok (.iload_n 1, 1) := by decide +kernel
theorem dL_next_73 : decode cL_next 73 = .ok (.iload_n 0, 1) := by decide +kernel
theorem dL_next_74 : decode cL_next 74 = .ok (.isub, 1) := by decide +kernel
theorem dL_next_75 : decode cL_next 75 = .ok (.ireturn, 1) := by decide +kernel
theorem dL_steps_0 : decode cL_steps 0 = .ok (.iload_n 1, 1) := by decide +kernel
theorem dL_steps_1 : decode cL_steps 1 = .ok (.iload_n 0, 1) := by decide +kernel
theorem dL_steps_2 : decode cL_steps 2 = .ok (.irem, 1) := by decide +kernel
theorem dL_steps_3 : decode cL_steps 3 = .ok (.iload_n 2, 1) := by decide +kernel
theorem dL_steps_4 : decode cL_steps 4 = .ok (.iload_n 0, 1) := by decide +kernel
theorem dL_steps_5 : decode cL_steps 5 = .ok (.irem, 1) := by decide +kernel
theorem dL_steps_6 : decode cL_steps 6 = .ok (.isub, 1) := by decide +kernel
theorem dL_steps_7 : decode cL_steps 7 = .ok (.istore_n 3, 1) := by decide +kernel
theorem dL_steps_8 : decode cL_steps 8 = .ok (.iload_n 1, 1) := by decide +kernel
theorem dL_steps_9 : decode cL_steps 9 = .ok (.iload_n 0, 1) := by decide +kernel
theorem dL_steps_10 : decode cL_steps 10 = .ok (.idiv, 1) := by decide +kernel
theorem dL_steps_11 : decode cL_steps 11 = .ok (.iload_n 2, 1) := by decide +kernel
theorem dL_steps_12 : decode cL_steps 12 = .ok (.iload_n 0, 1) := by decide +kernel
theorem dL_steps_13 : decode cL_steps 13 = .ok (.idiv, 1) := by decide +kernel
theorem dL_steps_14 : decode cL_steps 14 = .ok (.isub, 1) := by decide +kernel
theorem dL_steps_15 : decode cL_steps 15 = .ok (.istore 4, 2) := by decide +kernel
theorem dL_steps_17 : decode cL_steps 17 = .ok (.iload_n 3, 1) := by decide +kernel
theorem dL_steps_18 : decode cL_steps 18 = .ok (.ifCond .ge 8, 3) := by decide +kernel
theorem dL_steps_21 : decode cL_steps 21 = .ok (.iload_n 3, 1) := by decide +kernel
theorem dL_steps_22 : decode cL_steps 22 = .ok (.ineg, 1) := by decide +kernel
theorem dL_steps_23 : decode cL_steps 23 = .ok (.goto 4, 3) := by decide +kernel
theorem dL_steps_26 : decode cL_steps 26 = .ok (.iload_n 3, 1) := by decide +kernel
theorem dL_steps_27 : decode cL_steps 27 = .ok (.iload 4, 2) := by decide +kernel
theorem dL_steps_29 : decode cL_steps 29 = .ok (.ifCond .ge 9, 3) := by decide +kernel
theorem dL_steps_32 : decode cL_steps 32 = .ok (.iload 4, 2) := by decide +kernel
theorem dL_steps_34 : decode cL_steps 34 = .ok (.ineg, 1) := by decide +kernel
theorem dL_steps_35 : decode cL_steps 35 = .ok (.goto 5, 3) := by decide +kernel
theorem dL_steps_38 : decode cL_steps 38 = .ok (.iload 4, 2) := by decide +kernel
theorem dL_steps_40 : decode cL_steps 40 = .ok (.iadd, 1) := by decide +kernel
theorem dL_steps_41 : decode cL_steps 41 = .ok (.ireturn, 1) := by decide +kernel
theorem dL_send_0 : decode cL_send 0 = .ok (.aload_n 0, 1) := by decide +kernel
theorem dL_send_1 : decode cL_send 1 = .ok (.iload_n 1, 1) := by decide +kernel
theorem dL_send_2 : decode cL_send 2 = .ok (.iload_n 2, 1) := by decide +kernel
theorem dL_send_3 : decode cL_send 3 = .ok (.iload_n 3, 1) := by decide +kernel
theorem dL_send_4 : decode cL_send 4 = .ok (.iload 4, 2) := by decide +kernel
theorem dL_send_6 : decode cL_send 6 = .ok (.invokevirtual 9, 3) := by decide +kernel
theorem dL_send_9 : decode cL_send 9 = .ok (.ireturn, 1) := by decide +kernel
theorem dL_send_10 : decode cL_send 10 = .ok (.astore 5, 2) := by decide +kernel
theorem dL_send_12 : decode cL_send 12 = .ok (.ldc 17, 2) := by decide +kernel
theorem dL_send_14 : decode cL_send 14 = .ok (.ireturn, 1) := by decide +kernel
theorem dL_send_15 : decode cL_send 15 = .ok (.astore 5, 2) := by decide +kernel
theorem dL_send_17 : decode cL_send 17 = .ok (.ldc 20, 2) := by decide +kernel
theorem dL_send_19 : decode cL_send 19 = .ok (.ireturn, 1) := by decide +kernel
theorem dL_send_20 : decode cL_send 20 = .ok (.astore 5, 2) := by decide +kernel
theorem dL_send_22 : decode cL_send 22 = .ok (.ldc 23, 2) := by decide +kernel
theorem dL_send_24 : decode cL_send 24 = .ok (.ireturn, 1) := by decide +kernel
theorem dL_ask_0 : decode cL_ask 0 = .ok (.aload_n 0, 1) := by decide +kernel
theorem dL_ask_1 : decode cL_ask 1 = .ok (.iload_n 1, 1) := by decide +kernel
theorem dL_ask_2 : decode cL_ask 2 = .ok (.iload_n 2, 1) := by decide +kernel
theorem dL_ask_3 : decode cL_ask 3 = .ok (.iload_n 3, 1) := by decide +kernel
theorem dL_ask_4 : decode cL_ask 4 = .ok (.iload 4, 2) := by decide +kernel
theorem dL_ask_6 : decode cL_ask 6 = .ok (.iload 5, 2) := by decide +kernel
theorem dL_ask_8 : decode cL_ask 8 = .ok (.invokevirtual 24, 3) := by decide +kernel
theorem dL_ask_11 : decode cL_ask 11 = .ok (.ireturn, 1) := by decide +kernel
theorem dL_ask_12 : decode cL_ask 12 = .ok (.astore 6, 2) := by decide +kernel
theorem dL_ask_14 : decode cL_ask 14 = .ok (.ldc 17, 2) := by decide +kernel
theorem dL_ask_16 : decode cL_ask 16 = .ok (.ireturn, 1) := by decide +kernel
theorem dL_ask_17 : decode cL_ask 17 = .ok (.astore 6, 2) := by decide +kernel
theorem dL_ask_19 : decode cL_ask 19 = .ok (.ldc 20, 2) := by decide +kernel
theorem dL_ask_21 : decode cL_ask 21 = .ok (.ireturn, 1) := by decide +kernel
theorem dL_ask_22 : decode cL_ask 22 = .ok (.astore 6, 2) := by decide +kernel
theorem dL_ask_24 : decode cL_ask 24 = .ok (.ldc 23, 2) := by decide +kernel
theorem dL_ask_26 : decode cL_ask 26 = .ok (.ireturn, 1) := by decide +kernel
theorem dL_answer_0 : decode cL_answer 0 = .ok (.aload_n 0, 1) := by decide +kernel
theorem dL_answer_1 : decode cL_answer 1 = .ok (.iload_n 1, 1) := by decide +kernel
theorem dL_answer_2 : decode cL_answer 2 = .ok (.invokevirtual 28, 3) := by decide +kernel
theorem dL_answer_5 : decode cL_answer 5 = .ok (.ireturn, 1) := by decide +kernel
theorem dL_answer_6 : decode cL_answer 6 = .ok (.astore_n 2, 1) := by decide +kernel
theorem dL_answer_7 : decode cL_answer 7 = .ok (.ldc 17, 2) := by decide +kernel
theorem dL_answer_9 : decode cL_answer 9 = .ok (.ireturn, 1) := by decide +kernel
theorem dL_answer_10 : decode cL_answer 10 = .ok (.astore_n 2, 1) := by decide +kernel
theorem dL_answer_11 : decode cL_answer 11 = .ok (.ldc 20, 2) := by decide +kernel
theorem dL_answer_13 : decode cL_answer 13 = .ok (.ireturn, 1) := by decide +kernel
theorem dL_answer_14 : decode cL_answer 14 = .ok (.astore_n 2, 1) := by decide +kernel
theorem dL_answer_15 : decode cL_answer 15 = .ok (.ldc 23, 2) := by decide +kernel
theorem dL_answer_17 : decode cL_answer 17 = .ok (.ireturn, 1) := by decide +kernel
theorem dL_state_0 : decode cL_state 0 = .ok (.aload_n 0, 1) := by decide +kernel
theorem dL_state_1 : decode cL_state 1 = .ok (.iload_n 1, 1) := by decide +kernel
theorem dL_state_2 : decode cL_state 2 = .ok (.invokevirtual 34, 3) := by decide +kernel
theorem dL_state_5 : decode cL_state 5 = .ok (.ireturn, 1) := by decide +kernel
theorem dL_state_6 : decode cL_state 6 = .ok (.astore_n 2, 1) := by decide +kernel
theorem dL_state_7 : decode cL_state 7 = .ok (.ldc 17, 2) := by decide +kernel
theorem dL_state_9 : decode cL_state 9 = .ok (.ireturn, 1) := by decide +kernel
theorem dL_head_0 : decode cL_head 0 = .ok (.aload_n 0, 1) := by decide +kernel
theorem dL_head_1 : decode cL_head 1 = .ok (.iload_n 1, 1) := by decide +kernel
theorem dL_head_2 : decode cL_head 2 = .ok (.invokevirtual 38, 3) := by decide +kernel
theorem dL_head_5 : decode cL_head 5 = .ok (.ireturn, 1) := by decide +kernel
theorem dL_head_6 : decode cL_head 6 = .ok (.astore_n 2, 1) := by decide +kernel
theorem dL_head_7 : decode cL_head 7 = .ok (.ldc 17, 2) := by decide +kernel
theorem dL_head_9 : decode cL_head 9 = .ok (.ireturn, 1) := by decide +kernel
theorem dL_head_10 : decode cL_head 10 = .ok (.astore_n 2, 1) := by decide +kernel
theorem dL_head_11 : decode cL_head 11 = .ok (.ldc 20, 2) := by decide +kernel
theorem dL_head_13 : decode cL_head 13 = .ok (.ireturn, 1) := by decide +kernel
theorem dL_time_0 : decode cL_time 0 = .ok (.aload_n 0, 1) := by decide +kernel
theorem dL_time_1 : decode cL_time 1 = .ok (.iload_n 1, 1) := by decide +kernel
theorem dL_time_2 : decode cL_time 2 = .ok (.invokevirtual 41, 3) := by decide +kernel
theorem dL_time_5 : decode cL_time 5 = .ok (.ireturn, 1) := by decide +kernel
theorem dL_time_6 : decode cL_time 6 = .ok (.astore_n 2, 1) := by decide +kernel
theorem dL_time_7 : decode cL_time 7 = .ok (.ldc 17, 2) := by decide +kernel
theorem dL_time_9 : decode cL_time 9 = .ok (.ireturn, 1) := by decide +kernel
theorem dL_time_10 : decode cL_time 10 = .ok (.astore_n 2, 1) := by decide +kernel
theorem dL_time_11 : decode cL_time 11 = .ok (.ldc 20, 2) := by decide +kernel
theorem dL_time_13 : decode cL_time 13 = .ok (.ireturn, 1) := by decide +kernel
theorem dL_receive_0 : decode cL_receive 0 = .ok (.aload_n 0, 1) := by decide +kernel
theorem dL_receive_1 : decode cL_receive 1 = .ok (.iload_n 1, 1) := by decide +kernel
theorem dL_receive_2 : decode cL_receive 2 = .ok (.iload_n 2, 1) := by decide +kernel
theorem dL_receive_3 : decode cL_receive 3 = .ok (.invokevirtual 44, 3) := by decide +kernel
theorem dL_receive_6 : decode cL_receive 6 = .ok (.ireturn, 1) := by decide +kernel
theorem dL_receive_7 : decode cL_receive 7 = .ok (.astore_n 3, 1) := by decide +kernel
theorem dL_receive_8 : decode cL_receive 8 = .ok (.ldc 17, 2) := by decide +kernel
theorem dL_receive_10 : decode cL_receive 10 = .ok (.ireturn, 1) := by decide +kernel
theorem dL_receive_11 : decode cL_receive 11 = .ok (.astore_n 3, 1) := by decide +kernel
theorem dL_receive_12 : decode cL_receive 12 = .ok (.ldc 20, 2) := by decide +kernel
theorem dL_receive_14 : decode cL_receive 14 = .ok (.ireturn, 1) := by decide +kernel
theorem dL_lying_0 : decode cL_lying 0 = .ok (.aload_n 0, 1) := by decide +kernel
theorem dL_lying_1 : decode cL_lying 1 = .ok (.iload_n 1, 1) := by decide +kernel
theorem dL_lying_2 : decode cL_lying 2 = .ok (.iload_n 2, 1) := by decide +kernel
theorem dL_lying_3 : decode cL_lying 3 = .ok (.invokevirtual 48, 3) := by decide +kernel
theorem dL_lying_6 : decode cL_lying 6 = .ok (.ireturn, 1) := by decide +kernel
theorem dL_lying_7 : decode cL_lying 7 = .ok (.astore_n 3, 1) := by decide +kernel
theorem dL_lying_8 : decode cL_lying 8 = .ok (.ldc 17, 2) := by decide +kernel
theorem dL_lying_10 : decode cL_lying 10 = .ok (.ireturn, 1) := by decide +kernel
theorem dL_net_0 : decode cL_net 0 = .ok (.aload_n 0, 1) := by decide +kernel
theorem dL_net_1 : decode cL_net 1 = .ok (.iload_n 1, 1) := by decide +kernel
theorem dL_net_2 : decode cL_net 2 = .ok (.iload_n 2, 1) := by decide +kernel
theorem dL_net_3 : decode cL_net 3 = .ok (.invokevirtual 51, 3) := by decide +kernel
theorem dL_net_6 : decode cL_net 6 = .ok (.ireturn, 1) := by decide +kernel
theorem dL_net_7 : decode cL_net 7 = .ok (.astore_n 3, 1) := by decide +kernel
theorem dL_net_8 : decode cL_net 8 = .ok (.ldc 17, 2) := by decide +kernel
theorem dL_net_10 : decode cL_net 10 = .ok (.ireturn, 1) := by decide +kernel
theorem dL_way_0 : decode cL_way 0 = .ok (.aload_n 0, 1) := by decide +kernel
theorem dL_way_1 : decode cL_way 1 = .ok (.iload_n 1, 1) := by decide +kernel
theorem dL_way_2 : decode cL_way 2 = .ok (.invokevirtual 54, 3) := by decide +kernel
theorem dL_way_5 : decode cL_way 5 = .ok (.ireturn, 1) := by decide +kernel
theorem dL_way_6 : decode cL_way 6 = .ok (.astore_n 2, 1) := by decide +kernel
theorem dL_way_7 : decode cL_way 7 = .ok (.ldc 17, 2) := by decide +kernel
theorem dL_way_9 : decode cL_way 9 = .ok (.ireturn, 1) := by decide +kernel
theorem dL_places_0 : decode cL_places 0 = .ok (.aload_n 0, 1) := by decide +kernel
theorem dL_places_1 : decode cL_places 1 = .ok (.iload_n 1, 1) := by decide +kernel
theorem dL_places_2 : decode cL_places 2 = .ok (.invokevirtual 58, 3) := by decide +kernel
theorem dL_places_5 : decode cL_places 5 = .ok (.ireturn, 1) := by decide +kernel
theorem dL_places_6 : decode cL_places 6 = .ok (.astore_n 2, 1) := by decide +kernel
theorem dL_places_7 : decode cL_places 7 = .ok (.ldc 17, 2) := by decide +kernel
theorem dL_places_9 : decode cL_places 9 = .ok (.ireturn, 1) := by decide +kernel
theorem dL_row_0 : decode cL_row 0 = .ok (.aload_n 0, 1) := by decide +kernel
theorem dL_row_1 : decode cL_row 1 = .ok (.iload_n 1, 1) := by decide +kernel
theorem dL_row_2 : decode cL_row 2 = .ok (.iload_n 2, 1) := by decide +kernel
theorem dL_row_3 : decode cL_row 3 = .ok (.iload_n 3, 1) := by decide +kernel
theorem dL_row_4 : decode cL_row 4 = .ok (.invokevirtual 61, 3) := by decide +kernel
theorem dL_row_7 : decode cL_row 7 = .ok (.ireturn, 1) := by decide +kernel
theorem dL_row_8 : decode cL_row 8 = .ok (.astore 4, 2) := by decide +kernel
theorem dL_row_10 : decode cL_row 10 = .ok (.ldc 17, 2) := by decide +kernel
theorem dL_row_12 : decode cL_row 12 = .ok (.ireturn, 1) := by decide +kernel
theorem dL_row_13 : decode cL_row 13 = .ok (.astore 4, 2) := by decide +kernel
theorem dL_row_15 : decode cL_row 15 = .ok (.ldc 20, 2) := by decide +kernel
theorem dL_row_17 : decode cL_row 17 = .ok (.ireturn, 1) := by decide +kernel
theorem dL_owner_0 : decode cL_owner 0 = .ok (.aload_n 0, 1) := by decide +kernel
theorem dL_owner_1 : decode cL_owner 1 = .ok (.iload_n 1, 1) := by decide +kernel
theorem dL_owner_2 : decode cL_owner 2 = .ok (.iload_n 2, 1) := by decide +kernel
theorem dL_owner_3 : decode cL_owner 3 = .ok (.iload_n 3, 1) := by decide +kernel
theorem dL_owner_4 : decode cL_owner 4 = .ok (.invokevirtual 65, 3) := by decide +kernel
theorem dL_owner_7 : decode cL_owner 7 = .ok (.ireturn, 1) := by decide +kernel
theorem dL_owner_8 : decode cL_owner 8 = .ok (.astore 4, 2) := by decide +kernel
theorem dL_owner_10 : decode cL_owner 10 = .ok (.ldc 17, 2) := by decide +kernel
theorem dL_owner_12 : decode cL_owner 12 = .ok (.ireturn, 1) := by decide +kernel
theorem dL_owner_13 : decode cL_owner 13 = .ok (.astore 4, 2) := by decide +kernel
theorem dL_owner_15 : decode cL_owner 15 = .ok (.ldc 20, 2) := by decide +kernel
theorem dL_owner_17 : decode cL_owner 17 = .ok (.ireturn, 1) := by decide +kernel
theorem dL_memory_0 : decode cL_memory 0 = .ok (.aload_n 0, 1) := by decide +kernel
theorem dL_memory_1 : decode cL_memory 1 = .ok (.iload_n 1, 1) := by decide +kernel
theorem dL_memory_2 : decode cL_memory 2 = .ok (.iload_n 2, 1) := by decide +kernel
theorem dL_memory_3 : decode cL_memory 3 = .ok (.invokevirtual 68, 3) := by decide +kernel
theorem dL_memory_6 : decode cL_memory 6 = .ok (.ireturn, 1) := by decide +kernel
theorem dL_memory_7 : decode cL_memory 7 = .ok (.astore_n 3, 1) := by decide +kernel
theorem dL_memory_8 : decode cL_memory 8 = .ok (.ldc 17, 2) := by decide +kernel
theorem dL_memory_10 : decode cL_memory 10 = .ok (.ireturn, 1) := by decide +kernel
theorem dL_memory_11 : decode cL_memory 11 = .ok (.astore_n 3, 1) := by decide +kernel
theorem dL_memory_12 : decode cL_memory 12 = .ok (.ldc 20, 2) := by decide +kernel
theorem dL_memory_14 : decode cL_memory 14 = .ok (.ireturn, 1) := by decide +kernel
theorem dL_set_0 : decode cL_set 0 = .ok (.aload_n 0, 1) := by decide +kernel
theorem dL_set_1 : decode cL_set 1 = .ok (.iload_n 1, 1) := by decide +kernel
theorem dL_set_2 : decode cL_set 2 = .ok (.iload_n 2, 1) := by decide +kernel
theorem dL_set_3 : decode cL_set 3 = .ok (.iload_n 3, 1) := by decide +kernel
theorem dL_set_4 : decode cL_set 4 = .ok (.invokevirtual 71, 3) := by decide +kernel
theorem dL_set_7 : decode cL_set 7 = .ok (.ireturn, 1) := by decide +kernel
theorem dL_set_8 : decode cL_set 8 = .ok (.astore 4, 2) := by decide +kernel
theorem dL_set_10 : decode cL_set 10 = .ok (.ldc 17, 2) := by decide +kernel
theorem dL_set_12 : decode cL_set 12 = .ok (.ireturn, 1) := by decide +kernel
theorem dL_set_13 : decode cL_set 13 = .ok (.astore 4, 2) := by decide +kernel
theorem dL_set_15 : decode cL_set 15 = .ok (.ldc 20, 2) := by decide +kernel
theorem dL_set_17 : decode cL_set 17 = .ok (.ireturn, 1) := by decide +kernel
theorem dL_beats_0 : decode cL_beats 0 = .ok (.aload_n 0, 1) := by decide +kernel
theorem dL_beats_1 : decode cL_beats 1 = .ok (.iload_n 1, 1) := by decide +kernel
theorem dL_beats_2 : decode cL_beats 2 = .ok (.invokevirtual 75, 3) := by decide +kernel
theorem dL_beats_5 : decode cL_beats 5 = .ok (.ifCond .eq 7, 3) := by decide +kernel
theorem dL_beats_8 : decode cL_beats 8 = .ok (.iconst 1, 1) := by decide +kernel
theorem dL_beats_9 : decode cL_beats 9 = .ok (.goto 4, 3) := by decide +kernel
theorem dL_beats_12 : decode cL_beats 12 = .ok (.iconst 0, 1) := by decide +kernel
theorem dL_beats_13 : decode cL_beats 13 = .ok (.ireturn, 1) := by decide +kernel
theorem dL_beats_14 : decode cL_beats 14 = .ok (.astore_n 2, 1) := by decide +kernel
theorem dL_beats_15 : decode cL_beats 15 = .ok (.ldc 17, 2) := by decide +kernel
theorem dL_beats_17 : decode cL_beats 17 = .ok (.ireturn, 1) := by decide +kernel
theorem dL_sleep_0 : decode cL_sleep 0 = .ok (.aload_n 0, 1) := by decide +kernel
theorem dL_sleep_1 : decode cL_sleep 1 = .ok (.iload_n 1, 1) := by decide +kernel
theorem dL_sleep_2 : decode cL_sleep 2 = .ok (.invokevirtual 79, 3) := by decide +kernel
theorem dL_sleep_5 : decode cL_sleep 5 = .ok (.ifCond .eq 7, 3) := by decide +kernel
theorem dL_sleep_8 : decode cL_sleep 8 = .ok (.iconst 1, 1) := by decide +kernel
theorem dL_sleep_9 : decode cL_sleep 9 = .ok (.goto 4, 3) := by decide +kernel
theorem dL_sleep_12 : decode cL_sleep 12 = .ok (.iconst 0, 1) := by decide +kernel
theorem dL_sleep_13 : decode cL_sleep 13 = .ok (.ireturn, 1) := by decide +kernel
theorem dL_sleep_14 : decode cL_sleep 14 = .ok (.astore_n 2, 1) := by decide +kernel
theorem dL_sleep_15 : decode cL_sleep 15 = .ok (.ldc 17, 2) := by decide +kernel
theorem dL_sleep_17 : decode cL_sleep 17 = .ok (.ireturn, 1) := by decide +kernel
theorem dL_sleep_18 : decode cL_sleep 18 = .ok (.astore_n 2, 1) := by decide +kernel
theorem dL_sleep_19 : decode cL_sleep 19 = .ok (.ldc 20, 2) := by decide +kernel
theorem dL_sleep_21 : decode cL_sleep 21 = .ok (.ireturn, 1) := by decide +kernel
theorem dL_isAwake_0 : decode cL_isAwake 0 = .ok (.aload_n 0, 1) := by decide +kernel
theorem dL_isAwake_1 : decode cL_isAwake 1 = .ok (.iload_n 1, 1) := by decide +kernel
theorem dL_isAwake_2 : decode cL_isAwake 2 = .ok (.invokevirtual 84, 3) := by decide +kernel
theorem dL_isAwake_5 : decode cL_isAwake 5 = .ok (.ifCond .eq 7, 3) := by decide +kernel
theorem dL_isAwake_8 : decode cL_isAwake 8 = .ok (.iconst 1, 1) := by decide +kernel
theorem dL_isAwake_9 : decode cL_isAwake 9 = .ok (.goto 4, 3) := by decide +kernel
theorem dL_isAwake_12 : decode cL_isAwake 12 = .ok (.iconst 0, 1) := by decide +kernel
theorem dL_isAwake_13 : decode cL_isAwake 13 = .ok (.ireturn, 1) := by decide +kernel
theorem dL_isAwake_14 : decode cL_isAwake 14 = .ok (.astore_n 2, 1) := by decide +kernel
theorem dL_isAwake_15 : decode cL_isAwake 15 = .ok (.ldc 17, 2) := by decide +kernel
theorem dL_isAwake_17 : decode cL_isAwake 17 = .ok (.ireturn, 1) := by decide +kernel
def f_L_cell_b15 (sL : Nat) (xs : Nat → Int32) (μ : me_M) (v1 : Int32) (s0 : Int32) (s1 : Int32) : Option Int32 :=
  me_lt (((s1 * (s0 + ((1009 : Int32) * v1))) + (12345 : Int32))) (fun x1 =>
  me_lt (((x1 ^^^ (me_ushr x1 (13 : Int32))) * (1103515245 : Int32))) (fun x2 =>
  some (x2 ^^^ (me_ushr x2 (16 : Int32)))))
set_option maxHeartbeats 4000000 in
set_option maxRecDepth 100000 in
theorem z_L_cell_b15 {X : me_X} {B : me_B} {sz : Nat} (C : me_C X B RL cL_cell 3 (some .int)) {μ : me_M} {v1 : Int32} {s0 : Int32} {s1 : Int32}   {r : Int32} (N : me_En X B sz (B, μ, .ok (some (me_i r))) 0 0 0 0) (hNx : me_Nx X) (hB : me_St B)   (hf : f_L_cell_b15 B.2.2.2.1 B.2.2.2.2 μ v1 s0 s1 = some r) : me_Z X B 0 0 μ 15 [(1, me_i v1)] [me_i s0, me_i s1] := by
  unfold f_L_cell_b15 at hf
  refine me_sipush C (v := 1009) dL_cell_15 (by decide) ?_
  refine me_iload_n C 1 dL_cell_18 rfl rfl ?_
  refine me_imul C dL_cell_19 ?_
  refine me_iadd C dL_cell_20 ?_
  refine me_imul C dL_cell_21 ?_
  refine me_sipush C (v := 12345) dL_cell_22 (by decide) ?_
  refine me_iadd C dL_cell_25 ?_
  obtain ⟨x1, e_x1, hf⟩ := me_lts hf
  refine me_nm e_x1 ?_
  refine me_istore_n C 2 dL_cell_26 rfl (by decide) (L' := [(2, me_i x1), (1, me_i v1)]) rfl ?_
  refine me_iload_n C 2 dL_cell_27 rfl rfl ?_
  refine me_iload_n C 2 dL_cell_28 rfl rfl ?_
  refine me_bipush C (v := 13) dL_cell_29 (by decide) ?_
  refine me_iushr C dL_cell_31 ?_
  refine me_ixor C dL_cell_32 ?_
  refine me_ldc C (v := (1103515245)) dL_cell_33 ci_L_8 ?_
  refine me_imul C dL_cell_35 ?_
  obtain ⟨x2, e_x2, hf⟩ := me_lts hf
  refine me_nm e_x2 ?_
  refine me_istore_n C 2 dL_cell_36 rfl (by decide) (L' := [(2, me_i x2), (1, me_i v1)]) rfl ?_
  refine me_iload_n C 2 dL_cell_37 rfl rfl ?_
  refine me_iload_n C 2 dL_cell_38 rfl rfl ?_
  refine me_bipush C (v := 16) dL_cell_39 (by decide) ?_
  refine me_iushr C dL_cell_41 ?_
  refine me_ixor C dL_cell_42 ?_
  exact me_iret C N dL_cell_43 (me_nri _) (by cases hf; rfl) (by decide) (by decide)
def f_L_cell (sL : Nat) (xs : Nat → Int32) (μ : me_M) (v1 : Int32) : Option Int32 :=
  if (Int32.ofNat sL) ≤ v1 then
  (f_L_cell_b15 sL xs μ v1 (0 : Int32) (69069 : Int32))
  else
  (me_gd (me_inb v1 sL) (
  f_L_cell_b15 sL xs μ v1 (xs (me_ix v1)) (69069 : Int32)))
set_option maxHeartbeats 4000000 in
set_option maxRecDepth 100000 in
theorem z_L_cell {X : me_X} {B : me_B} {sz : Nat} (C : me_C X B RL cL_cell 3 (some .int)) {μ : me_M} {v1 : Int32}   {r : Int32} (N : me_En X B sz (B, μ, .ok (some (me_i r))) 0 0 0 0) (hNx : me_Nx X) (hB : me_St B)   (hf : f_L_cell B.2.2.2.1 B.2.2.2.2 μ v1 = some r) : me_Z X B 0 0 μ 0 [(0, .inl (.ref (B.1 202 0))), (1, me_i v1)] [] := by
  unfold f_L_cell at hf
  refine me_ldc C (v := (69069)) dL_cell_0 ci_L_7 ?_
  refine me_iload_n C 1 dL_cell_2 rfl rfl ?_
  refine me_aload_n C 0 (Or.inr (Or.inr ⟨_, rfl⟩)) dL_cell_3 rfl rfl ?_
  refine me_oppn C dL_cell_4 ?_
  refine me_icmp_ge C (tgt := 14) dL_cell_5 (by decide) (fun c1 => ?_) (fun c1 => ?_)
  · replace hf := me_ip c1 hf
    refine me_iconst C (v := 0) dL_cell_14 (by decide) ?_
    refine me_dropI [(1, me_i v1)] [1] rfl ?_
    exact z_L_cell_b15 C N hNx hB hf
  · replace hf := me_in c1 hf
    refine me_aload_n C 0 (Or.inr (Or.inr ⟨_, rfl⟩)) dL_cell_8 rfl rfl ?_
    refine me_iload_n C 1 dL_cell_9 rfl rfl ?_
    obtain ⟨g2, hf⟩ := me_gs hf
    refine me_oppl C g2 dL_cell_10 ?_
    refine me_goto C (tgt := 15) dL_cell_11 (by decide) ?_
    refine me_dropI [(1, me_i v1)] [1] rfl ?_
    exact z_L_cell_b15 C N hNx hB hf
theorem c_L_cell {B : me_B} (hB : me_St B) {μ : me_M} {v1 : Int32} {r : Int32}  (hf : f_L_cell B.2.2.2.1 B.2.2.2.2 μ v1 = some r) : ∀ l E z, l.stackTraces = false → me_Met l yL_cell cL_cell 3 (some .int) 0 0 0 0 E B μ z [.inl (.ref (B.1 202 0)), me_i v1] (B, μ, .ok (some (me_i r))) :=
  fun _ _ _ hl => me_ofZ hl (by decide +kernel) (Nat.le_of_ble_eq_true rfl) (fun _ C N hNx => z_L_cell C N hNx hB  hf)

def f_L_in (sL : Nat) (xs : Nat → Int32) (μ : me_M) (v1 : Int32) (v2 : Int32) : Option Int32 :=
  me_bd (f_L_cell sL xs μ v1) (fun r1 =>
  me_gd (me_nz v2) (
  some (me_rem (r1 &&& (2147483647 : Int32)) v2)))
set_option maxHeartbeats 4000000 in
set_option maxRecDepth 100000 in
theorem z_L_in {X : me_X} {B : me_B} {sz : Nat} (C : me_C X B RL cL_in 3 (some .int)) {μ : me_M} {v1 : Int32} {v2 : Int32}   {r : Int32} (N : me_En X B sz (B, μ, .ok (some (me_i r))) 1 22 0 0) (hNx : me_Nx X) (hB : me_St B)   (hf : f_L_in B.2.2.2.1 B.2.2.2.2 μ v1 v2 = some r) : me_Z X B 0 0 μ 0 [(0, .inl (.ref (B.1 202 0))), (1, me_i v1), (2, me_i v2)] [] := by
  unfold f_L_in at hf
  refine me_aload_n C 0 (Or.inr (Or.inr ⟨_, rfl⟩)) dL_in_0 rfl rfl ?_
  refine me_iload_n C 1 dL_in_1 rfl rfl ?_
  obtain ⟨r1, h_r1, hf⟩ := me_bs hf
  refine me_callS C N  (As := [.inl (.ref (B.1 202 0)), me_i v1]) (st := []) 0 0 (c_L_cell hB h_r1) ms_L_cell ml_L_87 dL_in_2 rfl rfl ⟨by decide, by decide⟩ ⟨by decide, by decide, by decide, by decide⟩ (Nat.le_of_ble_eq_true rfl) ?_
  refine me_ldc C (v := (2147483647)) dL_in_5 ci_L_93 ?_
  refine me_iand C dL_in_7 ?_
  refine me_iload_n C 2 dL_in_8 rfl rfl ?_
  obtain ⟨g2, hf⟩ := me_gs hf
  refine me_irem C dL_in_9 (me_nzs g2) ?_
  exact me_iret C N dL_in_10 (me_nri _) (by cases hf; rfl) (by decide) (by decide)
theorem c_L_in {B : me_B} (hB : me_St B) {μ : me_M} {v1 : Int32} {v2 : Int32} {r : Int32}  (hf : f_L_in B.2.2.2.1 B.2.2.2.2 μ v1 v2 = some r) : ∀ l E z, l.stackTraces = false → me_Met l yL_in cL_in 3 (some .int) 1 22 0 0 E B μ z [.inl (.ref (B.1 202 0)), me_i v1, me_i v2] (B, μ, .ok (some (me_i r))) :=
  fun _ _ _ hl => me_ofZ hl (by decide +kernel) (Nat.le_of_ble_eq_true rfl) (fun _ C N hNx => z_L_in C N hNx hB  hf)

def f_L_next_b37 (μ : me_M) (v0 : Int32) (v1 : Int32) (v4 : Int32) (v5 : Int32) (s0 : Int32) : Option Int32 :=
  if s0 = 0 then
  (if v5 ≤ 0 then
  (some (v1 - v0))
  else
  (some (v1 + v0)))
  else
  (if v4 ≤ 0 then
  (some (v1 - (1 : Int32)))
  else
  (some (v1 + (1 : Int32))))
set_option maxHeartbeats 4000000 in
set_option maxRecDepth 100000 in
theorem z_L_next_b37 {X : me_X} {B : me_B} {sz : Nat} (C : me_C X B RL cL_next 7 (some .int)) {μ : me_M} {v0 : Int32} {v1 : Int32} {v4 : Int32} {v5 : Int32} {s0 : Int32}   {r : Int32} (N : me_En X B sz (B, μ, .ok (some (me_i r))) 0 0 0 0) (hNx : me_Nx X) (hB : me_St B)   (hf : f_L_next_b37 μ v0 v1 v4 v5 s0 = some r) : me_Z X B 0 0 μ 37 [(0, me_i v0), (1, me_i v1), (4, me_i v4), (5, me_i v5)] [me_i s0] := by
  unfold f_L_next_b37 at hf
  refine me_istore C dL_next_37 (by decide) (L' := [(6, me_i s0), (0, me_i v0), (1, me_i v1), (4, me_i v4), (5, me_i v5)]) rfl ?_
  refine me_iload C dL_next_39 rfl ?_
  refine me_if_eq C (tgt := 61) dL_next_41 (by decide) (fun c1 => ?_) (fun c1 => ?_)
  · replace hf := me_ip c1 hf
    refine me_iload C dL_next_61 rfl ?_
    refine me_if_le C (tgt := 72) dL_next_63 (by decide) (fun c2 => ?_) (fun c2 => ?_)
    · replace hf := me_ip c2 hf
      refine me_iload_n C 1 dL_next_72 rfl rfl ?_
      refine me_iload_n C 0 dL_next_73 rfl rfl ?_
      refine me_isub C dL_next_74 ?_
      exact me_iret C N dL_next_75 (me_nri _) (by cases hf; rfl) (by decide) (by decide)
    · replace hf := me_in c2 hf
      refine me_iload_n C 1 dL_next_66 rfl rfl ?_
      refine me_iload_n C 0 dL_next_67 rfl rfl ?_
      refine me_iadd C dL_next_68 ?_
      refine me_goto C (tgt := 75) dL_next_69 (by decide) ?_
      exact me_iret C N dL_next_75 (me_nri _) (by cases hf; rfl) (by decide) (by decide)
  · replace hf := me_in c1 hf
    refine me_iload C dL_next_44 rfl ?_
    refine me_if_le C (tgt := 55) dL_next_46 (by decide) (fun c3 => ?_) (fun c3 => ?_)
    · replace hf := me_ip c3 hf
      refine me_iload_n C 1 dL_next_55 rfl rfl ?_
      refine me_iconst C (v := 1) dL_next_56 (by decide) ?_
      refine me_isub C dL_next_57 ?_
      refine me_goto C (tgt := 75) dL_next_58 (by decide) ?_
      exact me_iret C N dL_next_75 (me_nri _) (by cases hf; rfl) (by decide) (by decide)
    · replace hf := me_in c3 hf
      refine me_iload_n C 1 dL_next_49 rfl rfl ?_
      refine me_iconst C (v := 1) dL_next_50 (by decide) ?_
      refine me_iadd C dL_next_51 ?_
      refine me_goto C (tgt := 75) dL_next_52 (by decide) ?_
      exact me_iret C N dL_next_75 (me_nri _) (by cases hf; rfl) (by decide) (by decide)
def f_L_next_b32 (μ : me_M) (v0 : Int32) (v1 : Int32) (v4 : Int32) (v5 : Int32) : Option Int32 :=
  f_L_next_b37 μ v0 v1 v4 v5 (1 : Int32)
set_option maxHeartbeats 4000000 in
set_option maxRecDepth 100000 in
theorem z_L_next_b32 {X : me_X} {B : me_B} {sz : Nat} (C : me_C X B RL cL_next 7 (some .int)) {μ : me_M} {v0 : Int32} {v1 : Int32} {v4 : Int32} {v5 : Int32}   {r : Int32} (N : me_En X B sz (B, μ, .ok (some (me_i r))) 0 0 0 0) (hNx : me_Nx X) (hB : me_St B)   (hf : f_L_next_b32 μ v0 v1 v4 v5 = some r) : me_Z X B 0 0 μ 32 [(0, me_i v0), (1, me_i v1), (4, me_i v4), (5, me_i v5)] [] := by
  unfold f_L_next_b32 at hf
  refine me_iconst C (v := 1) dL_next_32 (by decide) ?_
  refine me_goto C (tgt := 37) dL_next_33 (by decide) ?_
  refine me_dropI [(0, me_i v0), (1, me_i v1), (4, me_i v4), (5, me_i v5)] [0, 1, 2, 3] rfl ?_
  exact z_L_next_b37 C N hNx hB hf
def f_L_next_b36 (μ : me_M) (v0 : Int32) (v1 : Int32) (v4 : Int32) (v5 : Int32) : Option Int32 :=
  f_L_next_b37 μ v0 v1 v4 v5 (0 : Int32)
set_option maxHeartbeats 4000000 in
set_option maxRecDepth 100000 in
theorem z_L_next_b36 {X : me_X} {B : me_B} {sz : Nat} (C : me_C X B RL cL_next 7 (some .int)) {μ : me_M} {v0 : Int32} {v1 : Int32} {v4 : Int32} {v5 : Int32}   {r : Int32} (N : me_En X B sz (B, μ, .ok (some (me_i r))) 0 0 0 0) (hNx : me_Nx X) (hB : me_St B)   (hf : f_L_next_b36 μ v0 v1 v4 v5 = some r) : me_Z X B 0 0 μ 36 [(0, me_i v0), (1, me_i v1), (4, me_i v4), (5, me_i v5)] [] := by
  unfold f_L_next_b36 at hf
  refine me_iconst C (v := 0) dL_next_36 (by decide) ?_
  refine me_dropI [(0, me_i v0), (1, me_i v1), (4, me_i v4), (5, me_i v5)] [0, 1, 2, 3] rfl ?_
  exact z_L_next_b37 C N hNx hB hf
def f_L_next (μ : me_M) (v0 : Int32) (v1 : Int32) (v2 : Int32) (v3 : Int32) : Option Int32 :=
  me_gd (me_nz v0) (
  me_gd (me_nz v0) (
  me_lt (((me_rem v2 v0) - (me_rem v1 v0))) (fun x3 =>
  me_gd (me_nz v0) (
  me_gd (me_nz v0) (
  me_lt (((v2 / v0) - (v1 / v0))) (fun x6 =>
  if x3 = 0 then
  (f_L_next_b36 μ v0 v1 x3 x6)
  else
  (if v3 = 0 then
  (if x6 = 0 then
  (f_L_next_b32 μ v0 v1 x3 x6)
  else
  (f_L_next_b36 μ v0 v1 x3 x6))
  else
  (f_L_next_b32 μ v0 v1 x3 x6))))))))
set_option maxHeartbeats 4000000 in
set_option maxRecDepth 100000 in
theorem z_L_next {X : me_X} {B : me_B} {sz : Nat} (C : me_C X B RL cL_next 7 (some .int)) {μ : me_M} {v0 : Int32} {v1 : Int32} {v2 : Int32} {v3 : Int32}   {r : Int32} (N : me_En X B sz (B, μ, .ok (some (me_i r))) 0 0 0 0) (hNx : me_Nx X) (hB : me_St B)   (hf : f_L_next μ v0 v1 v2 v3 = some r) : me_Z X B 0 0 μ 0 [(0, me_i v0), (1, me_i v1), (2, me_i v2), (3, me_i v3)] [] := by
  unfold f_L_next at hf
  refine me_iload_n C 2 dL_next_0 rfl rfl ?_
  refine me_iload_n C 0 dL_next_1 rfl rfl ?_
  obtain ⟨g1, hf⟩ := me_gs hf
  refine me_irem C dL_next_2 (me_nzs g1) ?_
  refine me_iload_n C 1 dL_next_3 rfl rfl ?_
  refine me_iload_n C 0 dL_next_4 rfl rfl ?_
  obtain ⟨g2, hf⟩ := me_gs hf
  refine me_irem C dL_next_5 (me_nzs g2) ?_
  refine me_isub C dL_next_6 ?_
  obtain ⟨x3, e_x3, hf⟩ := me_lts hf
  refine me_nm e_x3 ?_
  refine me_istore C dL_next_7 (by decide) (L' := [(4, me_i x3), (0, me_i v0), (1, me_i v1), (2, me_i v2), (3, me_i v3)]) rfl ?_
  refine me_iload_n C 2 dL_next_9 rfl rfl ?_
  refine me_iload_n C 0 dL_next_10 rfl rfl ?_
  obtain ⟨g4, hf⟩ := me_gs hf
  refine me_idiv C dL_next_11 (me_nzs g4) ?_
  refine me_iload_n C 1 dL_next_12 rfl rfl ?_
  refine me_iload_n C 0 dL_next_13 rfl rfl ?_
  obtain ⟨g5, hf⟩ := me_gs hf
  refine me_idiv C dL_next_14 (me_nzs g5) ?_
  refine me_isub C dL_next_15 ?_
  obtain ⟨x6, e_x6, hf⟩ := me_lts hf
  refine me_nm e_x6 ?_
  refine me_istore C dL_next_16 (by decide) (L' := [(5, me_i x6), (4, me_i x3), (0, me_i v0), (1, me_i v1), (2, me_i v2), (3, me_i v3)]) rfl ?_
  refine me_iload C dL_next_18 rfl ?_
  refine me_if_eq C (tgt := 36) dL_next_20 (by decide) (fun c7 => ?_) (fun c7 => ?_)
  · replace hf := me_ip c7 hf
    refine me_dropI [(0, me_i v0), (1, me_i v1), (4, me_i x3), (5, me_i x6)] [2, 3, 1, 0] rfl ?_
    exact z_L_next_b36 C N hNx hB hf
  · replace hf := me_in c7 hf
    refine me_iload_n C 3 dL_next_23 rfl rfl ?_
    refine me_if_ne C (tgt := 32) dL_next_24 (by decide) (fun c8 => ?_) (fun c8 => ?_)
    · replace hf := me_in c8 hf
      refine me_dropI [(0, me_i v0), (1, me_i v1), (4, me_i x3), (5, me_i x6)] [2, 3, 1, 0] rfl ?_
      exact z_L_next_b32 C N hNx hB hf
    · replace hf := me_ip c8 hf
      refine me_iload C dL_next_27 rfl ?_
      refine me_if_ne C (tgt := 36) dL_next_29 (by decide) (fun c9 => ?_) (fun c9 => ?_)
      · replace hf := me_in c9 hf
        refine me_dropI [(0, me_i v0), (1, me_i v1), (4, me_i x3), (5, me_i x6)] [2, 3, 1, 0] rfl ?_
        exact z_L_next_b36 C N hNx hB hf
      · replace hf := me_ip c9 hf
        refine me_dropI [(0, me_i v0), (1, me_i v1), (4, me_i x3), (5, me_i x6)] [2, 3, 1, 0] rfl ?_
        exact z_L_next_b32 C N hNx hB hf
theorem c_L_next {B : me_B} (hB : me_St B) {μ : me_M} {v0 : Int32} {v1 : Int32} {v2 : Int32} {v3 : Int32} {r : Int32}  (hf : f_L_next μ v0 v1 v2 v3 = some r) : ∀ l E z, l.stackTraces = false → me_Met l yL_next cL_next 7 (some .int) 0 0 0 0 E B μ z [me_i v0, me_i v1, me_i v2, me_i v3] (B, μ, .ok (some (me_i r))) :=
  fun _ _ _ hl => me_ofZ hl (by decide +kernel) (Nat.le_of_ble_eq_true rfl) (fun _ C N hNx => z_L_next C N hNx hB  hf)

def f_L_steps_b27 (μ : me_M) (v4 : Int32) (s0 : Int32) : Option Int32 :=
  if 0 ≤ v4 then
  (some (s0 + v4))
  else
  (some (s0 + (-v4)))
set_option maxHeartbeats 4000000 in
set_option maxRecDepth 100000 in
theorem z_L_steps_b27 {X : me_X} {B : me_B} {sz : Nat} (C : me_C X B RL cL_steps 5 (some .int)) {μ : me_M} {v4 : Int32} {s0 : Int32}   {r : Int32} (N : me_En X B sz (B, μ, .ok (some (me_i r))) 0 0 0 0) (hNx : me_Nx X) (hB : me_St B)   (hf : f_L_steps_b27 μ v4 s0 = some r) : me_Z X B 0 0 μ 27 [(4, me_i v4)] [me_i s0] := by
  unfold f_L_steps_b27 at hf
  refine me_iload C dL_steps_27 rfl ?_
  refine me_if_ge C (tgt := 38) dL_steps_29 (by decide) (fun c1 => ?_) (fun c1 => ?_)
  · replace hf := me_ip c1 hf
    refine me_iload C dL_steps_38 rfl ?_
    refine me_iadd C dL_steps_40 ?_
    exact me_iret C N dL_steps_41 (me_nri _) (by cases hf; rfl) (by decide) (by decide)
  · replace hf := me_in c1 hf
    refine me_iload C dL_steps_32 rfl ?_
    refine me_ineg C dL_steps_34 ?_
    refine me_goto C (tgt := 40) dL_steps_35 (by decide) ?_
    refine me_iadd C dL_steps_40 ?_
    exact me_iret C N dL_steps_41 (me_nri _) (by cases hf; rfl) (by decide) (by decide)
def f_L_steps (μ : me_M) (v0 : Int32) (v1 : Int32) (v2 : Int32) : Option Int32 :=
  me_gd (me_nz v0) (
  me_gd (me_nz v0) (
  me_lt (((me_rem v1 v0) - (me_rem v2 v0))) (fun x3 =>
  me_gd (me_nz v0) (
  me_gd (me_nz v0) (
  me_lt (((v1 / v0) - (v2 / v0))) (fun x6 =>
  if 0 ≤ x3 then
  (f_L_steps_b27 μ x6 x3)
  else
  (f_L_steps_b27 μ x6 (-x3))))))))
set_option maxHeartbeats 4000000 in
set_option maxRecDepth 100000 in
theorem z_L_steps {X : me_X} {B : me_B} {sz : Nat} (C : me_C X B RL cL_steps 5 (some .int)) {μ : me_M} {v0 : Int32} {v1 : Int32} {v2 : Int32}   {r : Int32} (N : me_En X B sz (B, μ, .ok (some (me_i r))) 0 0 0 0) (hNx : me_Nx X) (hB : me_St B)   (hf : f_L_steps μ v0 v1 v2 = some r) : me_Z X B 0 0 μ 0 [(0, me_i v0), (1, me_i v1), (2, me_i v2)] [] := by
  unfold f_L_steps at hf
  refine me_iload_n C 1 dL_steps_0 rfl rfl ?_
  refine me_iload_n C 0 dL_steps_1 rfl rfl ?_
  obtain ⟨g1, hf⟩ := me_gs hf
  refine me_irem C dL_steps_2 (me_nzs g1) ?_
  refine me_iload_n C 2 dL_steps_3 rfl rfl ?_
  refine me_iload_n C 0 dL_steps_4 rfl rfl ?_
  obtain ⟨g2, hf⟩ := me_gs hf
  refine me_irem C dL_steps_5 (me_nzs g2) ?_
  refine me_isub C dL_steps_6 ?_
  obtain ⟨x3, e_x3, hf⟩ := me_lts hf
  refine me_nm e_x3 ?_
  refine me_istore_n C 3 dL_steps_7 rfl (by decide) (L' := [(3, me_i x3), (0, me_i v0), (1, me_i v1), (2, me_i v2)]) rfl ?_
  refine me_iload_n C 1 dL_steps_8 rfl rfl ?_
  refine me_iload_n C 0 dL_steps_9 rfl rfl ?_
  obtain ⟨g4, hf⟩ := me_gs hf
  refine me_idiv C dL_steps_10 (me_nzs g4) ?_
  refine me_iload_n C 2 dL_steps_11 rfl rfl ?_
  refine me_iload_n C 0 dL_steps_12 rfl rfl ?_
  obtain ⟨g5, hf⟩ := me_gs hf
  refine me_idiv C dL_steps_13 (me_nzs g5) ?_
  refine me_isub C dL_steps_14 ?_
  obtain ⟨x6, e_x6, hf⟩ := me_lts hf
  refine me_nm e_x6 ?_
  refine me_istore C dL_steps_15 (by decide) (L' := [(4, me_i x6), (3, me_i x3), (0, me_i v0), (1, me_i v1), (2, me_i v2)]) rfl ?_
  refine me_iload_n C 3 dL_steps_17 rfl rfl ?_
  refine me_if_ge C (tgt := 26) dL_steps_18 (by decide) (fun c7 => ?_) (fun c7 => ?_)
  · replace hf := me_ip c7 hf
    refine me_iload_n C 3 dL_steps_26 rfl rfl ?_
    refine me_dropI [(4, me_i x6)] [0] rfl ?_
    exact z_L_steps_b27 C N hNx hB hf
  · replace hf := me_in c7 hf
    refine me_iload_n C 3 dL_steps_21 rfl rfl ?_
    refine me_ineg C dL_steps_22 ?_
    refine me_goto C (tgt := 27) dL_steps_23 (by decide) ?_
    refine me_dropI [(4, me_i x6)] [0] rfl ?_
    exact z_L_steps_b27 C N hNx hB hf
theorem c_L_steps {B : me_B} (hB : me_St B) {μ : me_M} {v0 : Int32} {v1 : Int32} {v2 : Int32} {r : Int32}  (hf : f_L_steps μ v0 v1 v2 = some r) : ∀ l E z, l.stackTraces = false → me_Met l yL_steps cL_steps 5 (some .int) 0 0 0 0 E B μ z [me_i v0, me_i v1, me_i v2] (B, μ, .ok (some (me_i r))) :=
  fun _ _ _ hl => me_ofZ hl (by decide +kernel) (Nat.le_of_ble_eq_true rfl) (fun _ C N hNx => z_L_steps C N hNx hB  hf)

def f_L_send (μ : me_M) (v1 : Int32) (v2 : Int32) (v3 : Int32) (v4 : Int32) : Option (me_M × Int32) :=
  me_b2 (f_Y_send μ v1 v2 v3 v4) (fun μ1 r1 => me_xm r1 (fun v => some (μ1, v))
    (fun k => if k = 1 then some (μ1, (-900001 : Int32)) else if k = 2 then some (μ1, (-900002 : Int32)) else if k = 3 then some (μ1, (-900003 : Int32)) else none))
set_option maxHeartbeats 4000000 in
set_option maxRecDepth 100000 in
theorem c_L_send {B : me_B} (hB : me_St B) {μ : me_M} {v1 : Int32} {v2 : Int32} {v3 : Int32} {v4 : Int32} {μ' : me_M} {r : Int32} (hf : f_L_send μ v1 v2 v3 v4 = some (μ', r)) : ∀ l E z, l.stackTraces = false → me_MetH l yL_send cL_send 6 (some .int) [(0, 9, 10, 15), (0, 9, 15, 18), (0, 9, 20, 21)] 9 157 4 24 E B μ z [me_r 0 0, me_i v1, me_i v2, me_i v3, me_i v4] (B, μ', .ok (some (me_i r))) := by
  intro l E z hl
  refine me_ofZH hl (by decide +kernel) (Nat.le_of_ble_eq_true rfl) (fun X C N hT => ?_)
  unfold f_L_send at hf
  refine me_aload_n C 0 (Or.inr (Or.inl ⟨_, rfl⟩)) dL_send_0 rfl rfl ?_
  refine me_iload_n C 1 dL_send_1 rfl rfl ?_
  refine me_iload_n C 2 dL_send_2 rfl rfl ?_
  refine me_iload_n C 3 dL_send_3 rfl rfl ?_
  refine me_iload C dL_send_4 rfl ?_
  obtain ⟨μ1, r1, h_r, hf⟩ := me_bs2 hf
  rcases r1 with k | v
  · replace hf := me_xme hf
    refine me_callVE C N (As := [me_i v1, me_i v2, me_i v3, me_i v4]) (st := []) 4 24 (c_Y_send hB h_r) mv_Y_send ml_L_9 rfl rfl dL_send_6 rfl rfl ⟨by decide, by decide⟩ ⟨by decide, by decide, by decide, by decide⟩ (Nat.le_of_ble_eq_true rfl) ?_
    by_cases c0 : k = 1
    · subst c0
      replace hf := me_ip rfl hf
      refine me_catch C hT (k := 1) [] (0, 9, 10, 15) [(0, 9, 15, 18), (0, 9, 20, 21)] rfl (fun z hz => by cases hz) ⟨by decide, by decide⟩ (by decide) cl_L_15 ca_1 (fun q => ?_)
      refine me_astore C (Or.inr (Or.inr ⟨_, rfl⟩)) dL_send_10 (by decide) (L' := [(5, .inl (.ref q)), (0, me_r 0 0), (1, me_i v1), (2, me_i v2), (3, me_i v3), (4, me_i v4)]) rfl ?_
      refine me_ldc C (v := (-900001)) dL_send_12 ci_L_17 ?_
      exact me_iret C N dL_send_14 (me_nri _) (by cases hf; rfl) (by decide) (by decide)
    replace hf := me_in c0 hf
    by_cases c1 : k = 2
    · subst c1
      replace hf := me_ip rfl hf
      refine me_catch C hT (k := 2) [(0, 9, 10, 15)] (0, 9, 15, 18) [(0, 9, 20, 21)] rfl (List.forall_mem_cons.mpr ⟨⟨by decide, _, cl_L_15, by decide +kernel⟩, (fun z hz => nomatch hz)⟩) ⟨by decide, by decide⟩ (by decide) cl_L_18 ca_2 (fun q => ?_)
      refine me_astore C (Or.inr (Or.inr ⟨_, rfl⟩)) dL_send_15 (by decide) (L' := [(5, .inl (.ref q)), (0, me_r 0 0), (1, me_i v1), (2, me_i v2), (3, me_i v3), (4, me_i v4)]) rfl ?_
      refine me_ldc C (v := (-900002)) dL_send_17 ci_L_20 ?_
      exact me_iret C N dL_send_19 (me_nri _) (by cases hf; rfl) (by decide) (by decide)
    replace hf := me_in c1 hf
    by_cases c2 : k = 3
    · subst c2
      replace hf := me_ip rfl hf
      refine me_catch C hT (k := 3) [(0, 9, 10, 15), (0, 9, 15, 18)] (0, 9, 20, 21) [] rfl (List.forall_mem_cons.mpr ⟨⟨by decide, _, cl_L_15, by decide +kernel⟩, (List.forall_mem_cons.mpr ⟨⟨by decide, _, cl_L_18, by decide +kernel⟩, (fun z hz => nomatch hz)⟩)⟩) ⟨by decide, by decide⟩ (by decide) cl_L_21 ca_3 (fun q => ?_)
      refine me_astore C (Or.inr (Or.inr ⟨_, rfl⟩)) dL_send_20 (by decide) (L' := [(5, .inl (.ref q)), (0, me_r 0 0), (1, me_i v1), (2, me_i v2), (3, me_i v3), (4, me_i v4)]) rfl ?_
      refine me_ldc C (v := (-900003)) dL_send_22 ci_L_23 ?_
      exact me_iret C N dL_send_24 (me_nri _) (by cases hf; rfl) (by decide) (by decide)
    replace hf := me_in c2 hf
    cases hf
  · replace hf := me_xmo hf
    refine me_callV C N (As := [me_i v1, me_i v2, me_i v3, me_i v4]) (st := []) 4 24 (c_Y_send hB h_r) mv_Y_send ml_L_9 rfl rfl dL_send_6 rfl rfl ⟨by decide, by decide⟩ ⟨by decide, by decide, by decide, by decide⟩ (Nat.le_of_ble_eq_true rfl) ?_
    exact me_iret C N dL_send_9 (me_nri _) (by cases hf; rfl) (by decide) (by decide)

def f_L_ask (μ : me_M) (v1 : Int32) (v2 : Int32) (v3 : Int32) (v4 : Int32) (v5 : Int32) : Option (me_M × Int32) :=
  me_b2 (f_Y_ask μ v1 v2 v3 v4 v5) (fun μ1 r1 => me_xm r1 (fun v => some (μ1, v))
    (fun k => if k = 1 then some (μ1, (-900001 : Int32)) else if k = 2 then some (μ1, (-900002 : Int32)) else if k = 3 then some (μ1, (-900003 : Int32)) else none))
set_option maxHeartbeats 4000000 in
set_option maxRecDepth 100000 in
theorem c_L_ask {B : me_B} (hB : me_St B) {μ : me_M} {v1 : Int32} {v2 : Int32} {v3 : Int32} {v4 : Int32} {v5 : Int32} {μ' : me_M} {r : Int32} (hf : f_L_ask μ v1 v2 v3 v4 v5 = some (μ', r)) : ∀ l E z, l.stackTraces = false → me_MetH l yL_ask cL_ask 7 (some .int) [(0, 11, 12, 15), (0, 11, 17, 18), (0, 11, 22, 21)] 9 160 4 24 E B μ z [me_r 0 0, me_i v1, me_i v2, me_i v3, me_i v4, me_i v5] (B, μ', .ok (some (me_i r))) := by
  intro l E z hl
  refine me_ofZH hl (by decide +kernel) (Nat.le_of_ble_eq_true rfl) (fun X C N hT => ?_)
  unfold f_L_ask at hf
  refine me_aload_n C 0 (Or.inr (Or.inl ⟨_, rfl⟩)) dL_ask_0 rfl rfl ?_
  refine me_iload_n C 1 dL_ask_1 rfl rfl ?_
  refine me_iload_n C 2 dL_ask_2 rfl rfl ?_
  refine me_iload_n C 3 dL_ask_3 rfl rfl ?_
  refine me_iload C dL_ask_4 rfl ?_
  refine me_iload C dL_ask_6 rfl ?_
  obtain ⟨μ1, r1, h_r, hf⟩ := me_bs2 hf
  rcases r1 with k | v
  · replace hf := me_xme hf
    refine me_callVE C N (As := [me_i v1, me_i v2, me_i v3, me_i v4, me_i v5]) (st := []) 4 24 (c_Y_ask hB h_r) mv_Y_ask ml_L_24 rfl rfl dL_ask_8 rfl rfl ⟨by decide, by decide⟩ ⟨by decide, by decide, by decide, by decide⟩ (Nat.le_of_ble_eq_true rfl) ?_
    by_cases c0 : k = 1
    · subst c0
      replace hf := me_ip rfl hf
      refine me_catch C hT (k := 1) [] (0, 11, 12, 15) [(0, 11, 17, 18), (0, 11, 22, 21)] rfl (fun z hz => by cases hz) ⟨by decide, by decide⟩ (by decide) cl_L_15 ca_1 (fun q => ?_)
      refine me_astore C (Or.inr (Or.inr ⟨_, rfl⟩)) dL_ask_12 (by decide) (L' := [(6, .inl (.ref q)), (0, me_r 0 0), (1, me_i v1), (2, me_i v2), (3, me_i v3), (4, me_i v4), (5, me_i v5)]) rfl ?_
      refine me_ldc C (v := (-900001)) dL_ask_14 ci_L_17 ?_
      exact me_iret C N dL_ask_16 (me_nri _) (by cases hf; rfl) (by decide) (by decide)
    replace hf := me_in c0 hf
    by_cases c1 : k = 2
    · subst c1
      replace hf := me_ip rfl hf
      refine me_catch C hT (k := 2) [(0, 11, 12, 15)] (0, 11, 17, 18) [(0, 11, 22, 21)] rfl (List.forall_mem_cons.mpr ⟨⟨by decide, _, cl_L_15, by decide +kernel⟩, (fun z hz => nomatch hz)⟩) ⟨by decide, by decide⟩ (by decide) cl_L_18 ca_2 (fun q => ?_)
      refine me_astore C (Or.inr (Or.inr ⟨_, rfl⟩)) dL_ask_17 (by decide) (L' := [(6, .inl (.ref q)), (0, me_r 0 0), (1, me_i v1), (2, me_i v2), (3, me_i v3), (4, me_i v4), (5, me_i v5)]) rfl ?_
      refine me_ldc C (v := (-900002)) dL_ask_19 ci_L_20 ?_
      exact me_iret C N dL_ask_21 (me_nri _) (by cases hf; rfl) (by decide) (by decide)
    replace hf := me_in c1 hf
    by_cases c2 : k = 3
    · subst c2
      replace hf := me_ip rfl hf
      refine me_catch C hT (k := 3) [(0, 11, 12, 15), (0, 11, 17, 18)] (0, 11, 22, 21) [] rfl (List.forall_mem_cons.mpr ⟨⟨by decide, _, cl_L_15, by decide +kernel⟩, (List.forall_mem_cons.mpr ⟨⟨by decide, _, cl_L_18, by decide +kernel⟩, (fun z hz => nomatch hz)⟩)⟩) ⟨by decide, by decide⟩ (by decide) cl_L_21 ca_3 (fun q => ?_)
      refine me_astore C (Or.inr (Or.inr ⟨_, rfl⟩)) dL_ask_22 (by decide) (L' := [(6, .inl (.ref q)), (0, me_r 0 0), (1, me_i v1), (2, me_i v2), (3, me_i v3), (4, me_i v4), (5, me_i v5)]) rfl ?_
      refine me_ldc C (v := (-900003)) dL_ask_24 ci_L_23 ?_
      exact me_iret C N dL_ask_26 (me_nri _) (by cases hf; rfl) (by decide) (by decide)
    replace hf := me_in c2 hf
    cases hf
  · replace hf := me_xmo hf
    refine me_callV C N (As := [me_i v1, me_i v2, me_i v3, me_i v4, me_i v5]) (st := []) 4 24 (c_Y_ask hB h_r) mv_Y_ask ml_L_24 rfl rfl dL_ask_8 rfl rfl ⟨by decide, by decide⟩ ⟨by decide, by decide, by decide, by decide⟩ (Nat.le_of_ble_eq_true rfl) ?_
    exact me_iret C N dL_ask_11 (me_nri _) (by cases hf; rfl) (by decide) (by decide)

def f_L_answer (μ : me_M) (v1 : Int32) : Option (me_M × Int32) :=
  me_bd (f_Y_answer μ v1) (fun r1 => me_xm r1 (fun v => some (μ, v))
    (fun k => if k = 1 then some (μ, (-900001 : Int32)) else if k = 2 then some (μ, (-900002 : Int32)) else if k = 5 then some (μ, (-900003 : Int32)) else none))
set_option maxHeartbeats 4000000 in
set_option maxRecDepth 100000 in
theorem c_L_answer {B : me_B} (hB : me_St B) {μ : me_M} {v1 : Int32} {μ' : me_M} {r : Int32} (hf : f_L_answer μ v1 = some (μ', r)) : ∀ l E z, l.stackTraces = false → me_MetH l yL_answer cL_answer 3 (some .int) [(0, 5, 6, 15), (0, 5, 10, 18), (0, 5, 14, 32)] 8 134 2 12 E B μ z [me_r 0 0, me_i v1] (B, μ', .ok (some (me_i r))) := by
  intro l E z hl
  refine me_ofZH hl (by decide +kernel) (Nat.le_of_ble_eq_true rfl) (fun X C N hT => ?_)
  unfold f_L_answer at hf
  refine me_aload_n C 0 (Or.inr (Or.inl ⟨_, rfl⟩)) dL_answer_0 rfl rfl ?_
  refine me_iload_n C 1 dL_answer_1 rfl rfl ?_
  obtain ⟨r1, h_r, hf⟩ := me_bs hf
  rcases r1 with k | v
  · replace hf := me_xme hf
    refine me_callVE C N (As := [me_i v1]) (st := []) 2 12 (c_Y_answer hB h_r) mv_Y_answer ml_L_28 rfl rfl dL_answer_2 rfl rfl ⟨by decide, by decide⟩ ⟨by decide, by decide, by decide, by decide⟩ (Nat.le_of_ble_eq_true rfl) ?_
    by_cases c0 : k = 1
    · subst c0
      replace hf := me_ip rfl hf
      refine me_catch C hT (k := 1) [] (0, 5, 6, 15) [(0, 5, 10, 18), (0, 5, 14, 32)] rfl (fun z hz => by cases hz) ⟨by decide, by decide⟩ (by decide) cl_L_15 ca_1 (fun q => ?_)
      refine me_astore_n C 2 (Or.inr (Or.inr ⟨_, rfl⟩)) dL_answer_6 rfl (by decide) (L' := [(2, .inl (.ref q)), (0, me_r 0 0), (1, me_i v1)]) rfl ?_
      refine me_ldc C (v := (-900001)) dL_answer_7 ci_L_17 ?_
      exact me_iret C N dL_answer_9 (me_nri _) (by cases hf; rfl) (by decide) (by decide)
    replace hf := me_in c0 hf
    by_cases c1 : k = 2
    · subst c1
      replace hf := me_ip rfl hf
      refine me_catch C hT (k := 2) [(0, 5, 6, 15)] (0, 5, 10, 18) [(0, 5, 14, 32)] rfl (List.forall_mem_cons.mpr ⟨⟨by decide, _, cl_L_15, by decide +kernel⟩, (fun z hz => nomatch hz)⟩) ⟨by decide, by decide⟩ (by decide) cl_L_18 ca_2 (fun q => ?_)
      refine me_astore_n C 2 (Or.inr (Or.inr ⟨_, rfl⟩)) dL_answer_10 rfl (by decide) (L' := [(2, .inl (.ref q)), (0, me_r 0 0), (1, me_i v1)]) rfl ?_
      refine me_ldc C (v := (-900002)) dL_answer_11 ci_L_20 ?_
      exact me_iret C N dL_answer_13 (me_nri _) (by cases hf; rfl) (by decide) (by decide)
    replace hf := me_in c1 hf
    by_cases c2 : k = 5
    · subst c2
      replace hf := me_ip rfl hf
      refine me_catch C hT (k := 5) [(0, 5, 6, 15), (0, 5, 10, 18)] (0, 5, 14, 32) [] rfl (List.forall_mem_cons.mpr ⟨⟨by decide, _, cl_L_15, by decide +kernel⟩, (List.forall_mem_cons.mpr ⟨⟨by decide, _, cl_L_18, by decide +kernel⟩, (fun z hz => nomatch hz)⟩)⟩) ⟨by decide, by decide⟩ (by decide) cl_L_32 ca_5 (fun q => ?_)
      refine me_astore_n C 2 (Or.inr (Or.inr ⟨_, rfl⟩)) dL_answer_14 rfl (by decide) (L' := [(2, .inl (.ref q)), (0, me_r 0 0), (1, me_i v1)]) rfl ?_
      refine me_ldc C (v := (-900003)) dL_answer_15 ci_L_23 ?_
      exact me_iret C N dL_answer_17 (me_nri _) (by cases hf; rfl) (by decide) (by decide)
    replace hf := me_in c2 hf
    cases hf
  · replace hf := me_xmo hf
    refine me_callV C N (As := [me_i v1]) (st := []) 2 12 (c_Y_answer hB h_r) mv_Y_answer ml_L_28 rfl rfl dL_answer_2 rfl rfl ⟨by decide, by decide⟩ ⟨by decide, by decide, by decide, by decide⟩ (Nat.le_of_ble_eq_true rfl) ?_
    exact me_iret C N dL_answer_5 (me_nri _) (by cases hf; rfl) (by decide) (by decide)

def f_L_state (μ : me_M) (v1 : Int32) : Option (me_M × Int32) :=
  me_bd (f_Y_state μ v1) (fun r1 => me_xm r1 (fun v => some (μ, v))
    (fun k => if k = 1 then some (μ, (-900001 : Int32)) else none))
set_option maxHeartbeats 4000000 in
set_option maxRecDepth 100000 in
theorem c_L_state {B : me_B} (hB : me_St B) {μ : me_M} {v1 : Int32} {μ' : me_M} {r : Int32} (hf : f_L_state μ v1 = some (μ', r)) : ∀ l E z, l.stackTraces = false → me_MetH l yL_state cL_state 3 (some .int) [(0, 5, 6, 15)] 8 133 1 6 E B μ z [me_r 0 0, me_i v1] (B, μ', .ok (some (me_i r))) := by
  intro l E z hl
  refine me_ofZH hl (by decide +kernel) (Nat.le_of_ble_eq_true rfl) (fun X C N hT => ?_)
  unfold f_L_state at hf
  refine me_aload_n C 0 (Or.inr (Or.inl ⟨_, rfl⟩)) dL_state_0 rfl rfl ?_
  refine me_iload_n C 1 dL_state_1 rfl rfl ?_
  obtain ⟨r1, h_r, hf⟩ := me_bs hf
  rcases r1 with k | v
  · replace hf := me_xme hf
    refine me_callVE C N (As := [me_i v1]) (st := []) 1 6 (c_Y_state hB h_r) mv_Y_state ml_L_34 rfl rfl dL_state_2 rfl rfl ⟨by decide, by decide⟩ ⟨by decide, by decide, by decide, by decide⟩ (Nat.le_of_ble_eq_true rfl) ?_
    by_cases c0 : k = 1
    · subst c0
      replace hf := me_ip rfl hf
      refine me_catch C hT (k := 1) [] (0, 5, 6, 15) [] rfl (fun z hz => by cases hz) ⟨by decide, by decide⟩ (by decide) cl_L_15 ca_1 (fun q => ?_)
      refine me_astore_n C 2 (Or.inr (Or.inr ⟨_, rfl⟩)) dL_state_6 rfl (by decide) (L' := [(2, .inl (.ref q)), (0, me_r 0 0), (1, me_i v1)]) rfl ?_
      refine me_ldc C (v := (-900001)) dL_state_7 ci_L_17 ?_
      exact me_iret C N dL_state_9 (me_nri _) (by cases hf; rfl) (by decide) (by decide)
    replace hf := me_in c0 hf
    cases hf
  · replace hf := me_xmo hf
    refine me_callV C N (As := [me_i v1]) (st := []) 1 6 (c_Y_state hB h_r) mv_Y_state ml_L_34 rfl rfl dL_state_2 rfl rfl ⟨by decide, by decide⟩ ⟨by decide, by decide, by decide, by decide⟩ (Nat.le_of_ble_eq_true rfl) ?_
    exact me_iret C N dL_state_5 (me_nri _) (by cases hf; rfl) (by decide) (by decide)

def f_L_head (μ : me_M) (v1 : Int32) : Option (me_M × Int32) :=
  me_bd (f_Y_head μ v1) (fun r1 => me_xm r1 (fun v => some (μ, v))
    (fun k => if k = 1 then some (μ, (-900001 : Int32)) else if k = 5 then some (μ, (-900002 : Int32)) else none))
set_option maxHeartbeats 4000000 in
set_option maxRecDepth 100000 in
theorem c_L_head {B : me_B} (hB : me_St B) {μ : me_M} {v1 : Int32} {μ' : me_M} {r : Int32} (hf : f_L_head μ v1 = some (μ', r)) : ∀ l E z, l.stackTraces = false → me_MetH l yL_head cL_head 3 (some .int) [(0, 5, 6, 15), (0, 5, 10, 32)] 8 134 2 12 E B μ z [me_r 0 0, me_i v1] (B, μ', .ok (some (me_i r))) := by
  intro l E z hl
  refine me_ofZH hl (by decide +kernel) (Nat.le_of_ble_eq_true rfl) (fun X C N hT => ?_)
  unfold f_L_head at hf
  refine me_aload_n C 0 (Or.inr (Or.inl ⟨_, rfl⟩)) dL_head_0 rfl rfl ?_
  refine me_iload_n C 1 dL_head_1 rfl rfl ?_
  obtain ⟨r1, h_r, hf⟩ := me_bs hf
  rcases r1 with k | v
  · replace hf := me_xme hf
    refine me_callVE C N (As := [me_i v1]) (st := []) 2 12 (c_Y_head hB h_r) mv_Y_head ml_L_38 rfl rfl dL_head_2 rfl rfl ⟨by decide, by decide⟩ ⟨by decide, by decide, by decide, by decide⟩ (Nat.le_of_ble_eq_true rfl) ?_
    by_cases c0 : k = 1
    · subst c0
      replace hf := me_ip rfl hf
      refine me_catch C hT (k := 1) [] (0, 5, 6, 15) [(0, 5, 10, 32)] rfl (fun z hz => by cases hz) ⟨by decide, by decide⟩ (by decide) cl_L_15 ca_1 (fun q => ?_)
      refine me_astore_n C 2 (Or.inr (Or.inr ⟨_, rfl⟩)) dL_head_6 rfl (by decide) (L' := [(2, .inl (.ref q)), (0, me_r 0 0), (1, me_i v1)]) rfl ?_
      refine me_ldc C (v := (-900001)) dL_head_7 ci_L_17 ?_
      exact me_iret C N dL_head_9 (me_nri _) (by cases hf; rfl) (by decide) (by decide)
    replace hf := me_in c0 hf
    by_cases c1 : k = 5
    · subst c1
      replace hf := me_ip rfl hf
      refine me_catch C hT (k := 5) [(0, 5, 6, 15)] (0, 5, 10, 32) [] rfl (List.forall_mem_cons.mpr ⟨⟨by decide, _, cl_L_15, by decide +kernel⟩, (fun z hz => nomatch hz)⟩) ⟨by decide, by decide⟩ (by decide) cl_L_32 ca_5 (fun q => ?_)
      refine me_astore_n C 2 (Or.inr (Or.inr ⟨_, rfl⟩)) dL_head_10 rfl (by decide) (L' := [(2, .inl (.ref q)), (0, me_r 0 0), (1, me_i v1)]) rfl ?_
      refine me_ldc C (v := (-900002)) dL_head_11 ci_L_20 ?_
      exact me_iret C N dL_head_13 (me_nri _) (by cases hf; rfl) (by decide) (by decide)
    replace hf := me_in c1 hf
    cases hf
  · replace hf := me_xmo hf
    refine me_callV C N (As := [me_i v1]) (st := []) 2 12 (c_Y_head hB h_r) mv_Y_head ml_L_38 rfl rfl dL_head_2 rfl rfl ⟨by decide, by decide⟩ ⟨by decide, by decide, by decide, by decide⟩ (Nat.le_of_ble_eq_true rfl) ?_
    exact me_iret C N dL_head_5 (me_nri _) (by cases hf; rfl) (by decide) (by decide)

def f_L_time (μ : me_M) (v1 : Int32) : Option (me_M × Int32) :=
  me_bd (f_Y_time μ v1) (fun r1 => me_xm r1 (fun v => some (μ, v))
    (fun k => if k = 1 then some (μ, (-900001 : Int32)) else if k = 5 then some (μ, (-900002 : Int32)) else none))
set_option maxHeartbeats 4000000 in
set_option maxRecDepth 100000 in
theorem c_L_time {B : me_B} (hB : me_St B) {μ : me_M} {v1 : Int32} {μ' : me_M} {r : Int32} (hf : f_L_time μ v1 = some (μ', r)) : ∀ l E z, l.stackTraces = false → me_MetH l yL_time cL_time 3 (some .int) [(0, 5, 6, 15), (0, 5, 10, 32)] 8 134 2 12 E B μ z [me_r 0 0, me_i v1] (B, μ', .ok (some (me_i r))) := by
  intro l E z hl
  refine me_ofZH hl (by decide +kernel) (Nat.le_of_ble_eq_true rfl) (fun X C N hT => ?_)
  unfold f_L_time at hf
  refine me_aload_n C 0 (Or.inr (Or.inl ⟨_, rfl⟩)) dL_time_0 rfl rfl ?_
  refine me_iload_n C 1 dL_time_1 rfl rfl ?_
  obtain ⟨r1, h_r, hf⟩ := me_bs hf
  rcases r1 with k | v
  · replace hf := me_xme hf
    refine me_callVE C N (As := [me_i v1]) (st := []) 2 12 (c_Y_time hB h_r) mv_Y_time ml_L_41 rfl rfl dL_time_2 rfl rfl ⟨by decide, by decide⟩ ⟨by decide, by decide, by decide, by decide⟩ (Nat.le_of_ble_eq_true rfl) ?_
    by_cases c0 : k = 1
    · subst c0
      replace hf := me_ip rfl hf
      refine me_catch C hT (k := 1) [] (0, 5, 6, 15) [(0, 5, 10, 32)] rfl (fun z hz => by cases hz) ⟨by decide, by decide⟩ (by decide) cl_L_15 ca_1 (fun q => ?_)
      refine me_astore_n C 2 (Or.inr (Or.inr ⟨_, rfl⟩)) dL_time_6 rfl (by decide) (L' := [(2, .inl (.ref q)), (0, me_r 0 0), (1, me_i v1)]) rfl ?_
      refine me_ldc C (v := (-900001)) dL_time_7 ci_L_17 ?_
      exact me_iret C N dL_time_9 (me_nri _) (by cases hf; rfl) (by decide) (by decide)
    replace hf := me_in c0 hf
    by_cases c1 : k = 5
    · subst c1
      replace hf := me_ip rfl hf
      refine me_catch C hT (k := 5) [(0, 5, 6, 15)] (0, 5, 10, 32) [] rfl (List.forall_mem_cons.mpr ⟨⟨by decide, _, cl_L_15, by decide +kernel⟩, (fun z hz => nomatch hz)⟩) ⟨by decide, by decide⟩ (by decide) cl_L_32 ca_5 (fun q => ?_)
      refine me_astore_n C 2 (Or.inr (Or.inr ⟨_, rfl⟩)) dL_time_10 rfl (by decide) (L' := [(2, .inl (.ref q)), (0, me_r 0 0), (1, me_i v1)]) rfl ?_
      refine me_ldc C (v := (-900002)) dL_time_11 ci_L_20 ?_
      exact me_iret C N dL_time_13 (me_nri _) (by cases hf; rfl) (by decide) (by decide)
    replace hf := me_in c1 hf
    cases hf
  · replace hf := me_xmo hf
    refine me_callV C N (As := [me_i v1]) (st := []) 2 12 (c_Y_time hB h_r) mv_Y_time ml_L_41 rfl rfl dL_time_2 rfl rfl ⟨by decide, by decide⟩ ⟨by decide, by decide, by decide, by decide⟩ (Nat.le_of_ble_eq_true rfl) ?_
    exact me_iret C N dL_time_5 (me_nri _) (by cases hf; rfl) (by decide) (by decide)

def f_L_receive (μ : me_M) (v1 : Int32) (v2 : Int32) : Option (me_M × Int32) :=
  me_b2 (f_Y_receive μ v1 v2) (fun μ1 r1 => me_xm r1 (fun v => some (μ1, v))
    (fun k => if k = 1 then some (μ1, (-900001 : Int32)) else if k = 5 then some (μ1, (-900002 : Int32)) else none))
set_option maxHeartbeats 4000000 in
set_option maxRecDepth 100000 in
theorem c_L_receive {B : me_B} (hB : me_St B) {μ : me_M} {v1 : Int32} {v2 : Int32} {μ' : me_M} {r : Int32} (hf : f_L_receive μ v1 v2 = some (μ', r)) : ∀ l E z, l.stackTraces = false → me_MetH l yL_receive cL_receive 4 (some .int) [(0, 6, 7, 15), (0, 6, 11, 32)] 9 156 3 18 E B μ z [me_r 0 0, me_i v1, me_i v2] (B, μ', .ok (some (me_i r))) := by
  intro l E z hl
  refine me_ofZH hl (by decide +kernel) (Nat.le_of_ble_eq_true rfl) (fun X C N hT => ?_)
  unfold f_L_receive at hf
  refine me_aload_n C 0 (Or.inr (Or.inl ⟨_, rfl⟩)) dL_receive_0 rfl rfl ?_
  refine me_iload_n C 1 dL_receive_1 rfl rfl ?_
  refine me_iload_n C 2 dL_receive_2 rfl rfl ?_
  obtain ⟨μ1, r1, h_r, hf⟩ := me_bs2 hf
  rcases r1 with k | v
  · replace hf := me_xme hf
    refine me_callVE C N (As := [me_i v1, me_i v2]) (st := []) 3 18 (c_Y_receive hB h_r) mv_Y_receive ml_L_44 rfl rfl dL_receive_3 rfl rfl ⟨by decide, by decide⟩ ⟨by decide, by decide, by decide, by decide⟩ (Nat.le_of_ble_eq_true rfl) ?_
    by_cases c0 : k = 1
    · subst c0
      replace hf := me_ip rfl hf
      refine me_catch C hT (k := 1) [] (0, 6, 7, 15) [(0, 6, 11, 32)] rfl (fun z hz => by cases hz) ⟨by decide, by decide⟩ (by decide) cl_L_15 ca_1 (fun q => ?_)
      refine me_astore_n C 3 (Or.inr (Or.inr ⟨_, rfl⟩)) dL_receive_7 rfl (by decide) (L' := [(3, .inl (.ref q)), (0, me_r 0 0), (1, me_i v1), (2, me_i v2)]) rfl ?_
      refine me_ldc C (v := (-900001)) dL_receive_8 ci_L_17 ?_
      exact me_iret C N dL_receive_10 (me_nri _) (by cases hf; rfl) (by decide) (by decide)
    replace hf := me_in c0 hf
    by_cases c1 : k = 5
    · subst c1
      replace hf := me_ip rfl hf
      refine me_catch C hT (k := 5) [(0, 6, 7, 15)] (0, 6, 11, 32) [] rfl (List.forall_mem_cons.mpr ⟨⟨by decide, _, cl_L_15, by decide +kernel⟩, (fun z hz => nomatch hz)⟩) ⟨by decide, by decide⟩ (by decide) cl_L_32 ca_5 (fun q => ?_)
      refine me_astore_n C 3 (Or.inr (Or.inr ⟨_, rfl⟩)) dL_receive_11 rfl (by decide) (L' := [(3, .inl (.ref q)), (0, me_r 0 0), (1, me_i v1), (2, me_i v2)]) rfl ?_
      refine me_ldc C (v := (-900002)) dL_receive_12 ci_L_20 ?_
      exact me_iret C N dL_receive_14 (me_nri _) (by cases hf; rfl) (by decide) (by decide)
    replace hf := me_in c1 hf
    cases hf
  · replace hf := me_xmo hf
    refine me_callV C N (As := [me_i v1, me_i v2]) (st := []) 3 18 (c_Y_receive hB h_r) mv_Y_receive ml_L_44 rfl rfl dL_receive_3 rfl rfl ⟨by decide, by decide⟩ ⟨by decide, by decide, by decide, by decide⟩ (Nat.le_of_ble_eq_true rfl) ?_
    exact me_iret C N dL_receive_6 (me_nri _) (by cases hf; rfl) (by decide) (by decide)

def f_L_lying (μ : me_M) (v1 : Int32) (v2 : Int32) : Option (me_M × Int32) :=
  me_bd (f_Y_lying μ v1 v2) (fun r1 => me_xm r1 (fun v => some (μ, v))
    (fun k => if k = 1 then some (μ, (-900001 : Int32)) else none))
set_option maxHeartbeats 4000000 in
set_option maxRecDepth 100000 in
theorem c_L_lying {B : me_B} (hB : me_St B) {μ : me_M} {v1 : Int32} {v2 : Int32} {μ' : me_M} {r : Int32} (hf : f_L_lying μ v1 v2 = some (μ', r)) : ∀ l E z, l.stackTraces = false → me_MetH l yL_lying cL_lying 4 (some .int) [(0, 6, 7, 15)] 9 155 2 12 E B μ z [me_r 0 0, me_i v1, me_i v2] (B, μ', .ok (some (me_i r))) := by
  intro l E z hl
  refine me_ofZH hl (by decide +kernel) (Nat.le_of_ble_eq_true rfl) (fun X C N hT => ?_)
  unfold f_L_lying at hf
  refine me_aload_n C 0 (Or.inr (Or.inl ⟨_, rfl⟩)) dL_lying_0 rfl rfl ?_
  refine me_iload_n C 1 dL_lying_1 rfl rfl ?_
  refine me_iload_n C 2 dL_lying_2 rfl rfl ?_
  obtain ⟨r1, h_r, hf⟩ := me_bs hf
  rcases r1 with k | v
  · replace hf := me_xme hf
    refine me_callVE C N (As := [me_i v1, me_i v2]) (st := []) 2 12 (c_Y_lying hB h_r) mv_Y_lying ml_L_48 rfl rfl dL_lying_3 rfl rfl ⟨by decide, by decide⟩ ⟨by decide, by decide, by decide, by decide⟩ (Nat.le_of_ble_eq_true rfl) ?_
    by_cases c0 : k = 1
    · subst c0
      replace hf := me_ip rfl hf
      refine me_catch C hT (k := 1) [] (0, 6, 7, 15) [] rfl (fun z hz => by cases hz) ⟨by decide, by decide⟩ (by decide) cl_L_15 ca_1 (fun q => ?_)
      refine me_astore_n C 3 (Or.inr (Or.inr ⟨_, rfl⟩)) dL_lying_7 rfl (by decide) (L' := [(3, .inl (.ref q)), (0, me_r 0 0), (1, me_i v1), (2, me_i v2)]) rfl ?_
      refine me_ldc C (v := (-900001)) dL_lying_8 ci_L_17 ?_
      exact me_iret C N dL_lying_10 (me_nri _) (by cases hf; rfl) (by decide) (by decide)
    replace hf := me_in c0 hf
    cases hf
  · replace hf := me_xmo hf
    refine me_callV C N (As := [me_i v1, me_i v2]) (st := []) 2 12 (c_Y_lying hB h_r) mv_Y_lying ml_L_48 rfl rfl dL_lying_3 rfl rfl ⟨by decide, by decide⟩ ⟨by decide, by decide, by decide, by decide⟩ (Nat.le_of_ble_eq_true rfl) ?_
    exact me_iret C N dL_lying_6 (me_nri _) (by cases hf; rfl) (by decide) (by decide)

def f_L_net (μ : me_M) (v1 : Int32) (v2 : Int32) : Option (me_M × Int32) :=
  me_b2 (f_Y_net μ v1 v2) (fun μ1 r1 => me_xm r1 (fun v => some (μ1, v))
    (fun k => if k = 2 then some (μ1, (-900001 : Int32)) else none))
set_option maxHeartbeats 4000000 in
set_option maxRecDepth 100000 in
theorem c_L_net {B : me_B} (hB : me_St B) {μ : me_M} {v1 : Int32} {v2 : Int32} {μ' : me_M} {r : Int32} (hf : f_L_net μ v1 v2 = some (μ', r)) : ∀ l E z, l.stackTraces = false → me_MetH l yL_net cL_net 4 (some .int) [(0, 6, 7, 18)] 8 135 2 12 E B μ z [me_r 0 0, me_i v1, me_i v2] (B, μ', .ok (some (me_i r))) := by
  intro l E z hl
  refine me_ofZH hl (by decide +kernel) (Nat.le_of_ble_eq_true rfl) (fun X C N hT => ?_)
  unfold f_L_net at hf
  refine me_aload_n C 0 (Or.inr (Or.inl ⟨_, rfl⟩)) dL_net_0 rfl rfl ?_
  refine me_iload_n C 1 dL_net_1 rfl rfl ?_
  refine me_iload_n C 2 dL_net_2 rfl rfl ?_
  obtain ⟨μ1, r1, h_r, hf⟩ := me_bs2 hf
  rcases r1 with k | v
  · replace hf := me_xme hf
    refine me_callVE C N (As := [me_i v1, me_i v2]) (st := []) 2 12 (c_Y_net hB h_r) mv_Y_net ml_L_51 rfl rfl dL_net_3 rfl rfl ⟨by decide, by decide⟩ ⟨by decide, by decide, by decide, by decide⟩ (Nat.le_of_ble_eq_true rfl) ?_
    by_cases c0 : k = 2
    · subst c0
      replace hf := me_ip rfl hf
      refine me_catch C hT (k := 2) [] (0, 6, 7, 18) [] rfl (fun z hz => by cases hz) ⟨by decide, by decide⟩ (by decide) cl_L_18 ca_2 (fun q => ?_)
      refine me_astore_n C 3 (Or.inr (Or.inr ⟨_, rfl⟩)) dL_net_7 rfl (by decide) (L' := [(3, .inl (.ref q)), (0, me_r 0 0), (1, me_i v1), (2, me_i v2)]) rfl ?_
      refine me_ldc C (v := (-900001)) dL_net_8 ci_L_17 ?_
      exact me_iret C N dL_net_10 (me_nri _) (by cases hf; rfl) (by decide) (by decide)
    replace hf := me_in c0 hf
    cases hf
  · replace hf := me_xmo hf
    refine me_callV C N (As := [me_i v1, me_i v2]) (st := []) 2 12 (c_Y_net hB h_r) mv_Y_net ml_L_51 rfl rfl dL_net_3 rfl rfl ⟨by decide, by decide⟩ ⟨by decide, by decide, by decide, by decide⟩ (Nat.le_of_ble_eq_true rfl) ?_
    exact me_iret C N dL_net_6 (me_nri _) (by cases hf; rfl) (by decide) (by decide)

def f_L_way (μ : me_M) (v1 : Int32) : Option (me_M × Int32) :=
  me_b2 (f_Y_way μ v1) (fun μ1 r1 => me_xm r1 (fun v => some (μ1, v))
    (fun k => if k = 2 then some (μ1, (-900001 : Int32)) else none))
set_option maxHeartbeats 4000000 in
set_option maxRecDepth 100000 in
theorem c_L_way {B : me_B} (hB : me_St B) {μ : me_M} {v1 : Int32} {μ' : me_M} {r : Int32} (hf : f_L_way μ v1 = some (μ', r)) : ∀ l E z, l.stackTraces = false → me_MetH l yL_way cL_way 3 (some .int) [(0, 5, 6, 18)] 7 113 1 6 E B μ z [me_r 0 0, me_i v1] (B, μ', .ok (some (me_i r))) := by
  intro l E z hl
  refine me_ofZH hl (by decide +kernel) (Nat.le_of_ble_eq_true rfl) (fun X C N hT => ?_)
  unfold f_L_way at hf
  refine me_aload_n C 0 (Or.inr (Or.inl ⟨_, rfl⟩)) dL_way_0 rfl rfl ?_
  refine me_iload_n C 1 dL_way_1 rfl rfl ?_
  obtain ⟨μ1, r1, h_r, hf⟩ := me_bs2 hf
  rcases r1 with k | v
  · replace hf := me_xme hf
    refine me_callVE C N (As := [me_i v1]) (st := []) 1 6 (c_Y_way hB h_r) mv_Y_way ml_L_54 rfl rfl dL_way_2 rfl rfl ⟨by decide, by decide⟩ ⟨by decide, by decide, by decide, by decide⟩ (Nat.le_of_ble_eq_true rfl) ?_
    by_cases c0 : k = 2
    · subst c0
      replace hf := me_ip rfl hf
      refine me_catch C hT (k := 2) [] (0, 5, 6, 18) [] rfl (fun z hz => by cases hz) ⟨by decide, by decide⟩ (by decide) cl_L_18 ca_2 (fun q => ?_)
      refine me_astore_n C 2 (Or.inr (Or.inr ⟨_, rfl⟩)) dL_way_6 rfl (by decide) (L' := [(2, .inl (.ref q)), (0, me_r 0 0), (1, me_i v1)]) rfl ?_
      refine me_ldc C (v := (-900001)) dL_way_7 ci_L_17 ?_
      exact me_iret C N dL_way_9 (me_nri _) (by cases hf; rfl) (by decide) (by decide)
    replace hf := me_in c0 hf
    cases hf
  · replace hf := me_xmo hf
    refine me_callV C N (As := [me_i v1]) (st := []) 1 6 (c_Y_way hB h_r) mv_Y_way ml_L_54 rfl rfl dL_way_2 rfl rfl ⟨by decide, by decide⟩ ⟨by decide, by decide, by decide, by decide⟩ (Nat.le_of_ble_eq_true rfl) ?_
    exact me_iret C N dL_way_5 (me_nri _) (by cases hf; rfl) (by decide) (by decide)

def f_L_places (μ : me_M) (v1 : Int32) : Option (me_M × Int32) :=
  me_b2 (f_Y_places μ v1) (fun μ1 r1 => me_xm r1 (fun v => some (μ1, v))
    (fun k => if k = 2 then some (μ1, (-900001 : Int32)) else none))
set_option maxHeartbeats 4000000 in
set_option maxRecDepth 100000 in
theorem c_L_places {B : me_B} (hB : me_St B) {μ : me_M} {v1 : Int32} {μ' : me_M} {r : Int32} (hf : f_L_places μ v1 = some (μ', r)) : ∀ l E z, l.stackTraces = false → me_MetH l yL_places cL_places 3 (some .int) [(0, 5, 6, 18)] 8 135 1 6 E B μ z [me_r 0 0, me_i v1] (B, μ', .ok (some (me_i r))) := by
  intro l E z hl
  refine me_ofZH hl (by decide +kernel) (Nat.le_of_ble_eq_true rfl) (fun X C N hT => ?_)
  unfold f_L_places at hf
  refine me_aload_n C 0 (Or.inr (Or.inl ⟨_, rfl⟩)) dL_places_0 rfl rfl ?_
  refine me_iload_n C 1 dL_places_1 rfl rfl ?_
  obtain ⟨μ1, r1, h_r, hf⟩ := me_bs2 hf
  rcases r1 with k | v
  · replace hf := me_xme hf
    refine me_callVE C N (As := [me_i v1]) (st := []) 1 6 (c_Y_places hB h_r) mv_Y_places ml_L_58 rfl rfl dL_places_2 rfl rfl ⟨by decide, by decide⟩ ⟨by decide, by decide, by decide, by decide⟩ (Nat.le_of_ble_eq_true rfl) ?_
    by_cases c0 : k = 2
    · subst c0
      replace hf := me_ip rfl hf
      refine me_catch C hT (k := 2) [] (0, 5, 6, 18) [] rfl (fun z hz => by cases hz) ⟨by decide, by decide⟩ (by decide) cl_L_18 ca_2 (fun q => ?_)
      refine me_astore_n C 2 (Or.inr (Or.inr ⟨_, rfl⟩)) dL_places_6 rfl (by decide) (L' := [(2, .inl (.ref q)), (0, me_r 0 0), (1, me_i v1)]) rfl ?_
      refine me_ldc C (v := (-900001)) dL_places_7 ci_L_17 ?_
      exact me_iret C N dL_places_9 (me_nri _) (by cases hf; rfl) (by decide) (by decide)
    replace hf := me_in c0 hf
    cases hf
  · replace hf := me_xmo hf
    refine me_callV C N (As := [me_i v1]) (st := []) 1 6 (c_Y_places hB h_r) mv_Y_places ml_L_58 rfl rfl dL_places_2 rfl rfl ⟨by decide, by decide⟩ ⟨by decide, by decide, by decide, by decide⟩ (Nat.le_of_ble_eq_true rfl) ?_
    exact me_iret C N dL_places_5 (me_nri _) (by cases hf; rfl) (by decide) (by decide)

def f_L_row (μ : me_M) (v1 : Int32) (v2 : Int32) (v3 : Int32) : Option (me_M × Int32) :=
  me_bd (f_Y_row μ v1 v2 v3) (fun r1 => me_xm r1 (fun v => some (μ, v))
    (fun k => if k = 1 then some (μ, (-900001 : Int32)) else if k = 2 then some (μ, (-900002 : Int32)) else none))
set_option maxHeartbeats 4000000 in
set_option maxRecDepth 100000 in
theorem c_L_row {B : me_B} (hB : me_St B) {μ : me_M} {v1 : Int32} {v2 : Int32} {v3 : Int32} {μ' : me_M} {r : Int32} (hf : f_L_row μ v1 v2 v3 = some (μ', r)) : ∀ l E z, l.stackTraces = false → me_MetH l yL_row cL_row 5 (some .int) [(0, 7, 8, 15), (0, 7, 13, 18)] 8 139 2 12 E B μ z [me_r 0 0, me_i v1, me_i v2, me_i v3] (B, μ', .ok (some (me_i r))) := by
  intro l E z hl
  refine me_ofZH hl (by decide +kernel) (Nat.le_of_ble_eq_true rfl) (fun X C N hT => ?_)
  unfold f_L_row at hf
  refine me_aload_n C 0 (Or.inr (Or.inl ⟨_, rfl⟩)) dL_row_0 rfl rfl ?_
  refine me_iload_n C 1 dL_row_1 rfl rfl ?_
  refine me_iload_n C 2 dL_row_2 rfl rfl ?_
  refine me_iload_n C 3 dL_row_3 rfl rfl ?_
  obtain ⟨r1, h_r, hf⟩ := me_bs hf
  rcases r1 with k | v
  · replace hf := me_xme hf
    refine me_callVE C N (As := [me_i v1, me_i v2, me_i v3]) (st := []) 2 12 (c_Y_row hB h_r) mv_Y_row ml_L_61 rfl rfl dL_row_4 rfl rfl ⟨by decide, by decide⟩ ⟨by decide, by decide, by decide, by decide⟩ (Nat.le_of_ble_eq_true rfl) ?_
    by_cases c0 : k = 1
    · subst c0
      replace hf := me_ip rfl hf
      refine me_catch C hT (k := 1) [] (0, 7, 8, 15) [(0, 7, 13, 18)] rfl (fun z hz => by cases hz) ⟨by decide, by decide⟩ (by decide) cl_L_15 ca_1 (fun q => ?_)
      refine me_astore C (Or.inr (Or.inr ⟨_, rfl⟩)) dL_row_8 (by decide) (L' := [(4, .inl (.ref q)), (0, me_r 0 0), (1, me_i v1), (2, me_i v2), (3, me_i v3)]) rfl ?_
      refine me_ldc C (v := (-900001)) dL_row_10 ci_L_17 ?_
      exact me_iret C N dL_row_12 (me_nri _) (by cases hf; rfl) (by decide) (by decide)
    replace hf := me_in c0 hf
    by_cases c1 : k = 2
    · subst c1
      replace hf := me_ip rfl hf
      refine me_catch C hT (k := 2) [(0, 7, 8, 15)] (0, 7, 13, 18) [] rfl (List.forall_mem_cons.mpr ⟨⟨by decide, _, cl_L_15, by decide +kernel⟩, (fun z hz => nomatch hz)⟩) ⟨by decide, by decide⟩ (by decide) cl_L_18 ca_2 (fun q => ?_)
      refine me_astore C (Or.inr (Or.inr ⟨_, rfl⟩)) dL_row_13 (by decide) (L' := [(4, .inl (.ref q)), (0, me_r 0 0), (1, me_i v1), (2, me_i v2), (3, me_i v3)]) rfl ?_
      refine me_ldc C (v := (-900002)) dL_row_15 ci_L_20 ?_
      exact me_iret C N dL_row_17 (me_nri _) (by cases hf; rfl) (by decide) (by decide)
    replace hf := me_in c1 hf
    cases hf
  · replace hf := me_xmo hf
    refine me_callV C N (As := [me_i v1, me_i v2, me_i v3]) (st := []) 2 12 (c_Y_row hB h_r) mv_Y_row ml_L_61 rfl rfl dL_row_4 rfl rfl ⟨by decide, by decide⟩ ⟨by decide, by decide, by decide, by decide⟩ (Nat.le_of_ble_eq_true rfl) ?_
    exact me_iret C N dL_row_7 (me_nri _) (by cases hf; rfl) (by decide) (by decide)

def f_L_owner (μ : me_M) (v1 : Int32) (v2 : Int32) (v3 : Int32) : Option (me_M × Int32) :=
  me_bd (f_Y_owner μ v1 v2 v3) (fun r1 => me_xm r1 (fun v => some (μ, v))
    (fun k => if k = 1 then some (μ, (-900001 : Int32)) else if k = 2 then some (μ, (-900002 : Int32)) else none))
set_option maxHeartbeats 4000000 in
set_option maxRecDepth 100000 in
theorem c_L_owner {B : me_B} (hB : me_St B) {μ : me_M} {v1 : Int32} {v2 : Int32} {v3 : Int32} {μ' : me_M} {r : Int32} (hf : f_L_owner μ v1 v2 v3 = some (μ', r)) : ∀ l E z, l.stackTraces = false → me_MetH l yL_owner cL_owner 5 (some .int) [(0, 7, 8, 15), (0, 7, 13, 18)] 8 139 2 12 E B μ z [me_r 0 0, me_i v1, me_i v2, me_i v3] (B, μ', .ok (some (me_i r))) := by
  intro l E z hl
  refine me_ofZH hl (by decide +kernel) (Nat.le_of_ble_eq_true rfl) (fun X C N hT => ?_)
  unfold f_L_owner at hf
  refine me_aload_n C 0 (Or.inr (Or.inl ⟨_, rfl⟩)) dL_owner_0 rfl rfl ?_
  refine me_iload_n C 1 dL_owner_1 rfl rfl ?_
  refine me_iload_n C 2 dL_owner_2 rfl rfl ?_
  refine me_iload_n C 3 dL_owner_3 rfl rfl ?_
  obtain ⟨r1, h_r, hf⟩ := me_bs hf
  rcases r1 with k | v
  · replace hf := me_xme hf
    refine me_callVE C N (As := [me_i v1, me_i v2, me_i v3]) (st := []) 2 12 (c_Y_owner hB h_r) mv_Y_owner ml_L_65 rfl rfl dL_owner_4 rfl rfl ⟨by decide, by decide⟩ ⟨by decide, by decide, by decide, by decide⟩ (Nat.le_of_ble_eq_true rfl) ?_
    by_cases c0 : k = 1
    · subst c0
      replace hf := me_ip rfl hf
      refine me_catch C hT (k := 1) [] (0, 7, 8, 15) [(0, 7, 13, 18)] rfl (fun z hz => by cases hz) ⟨by decide, by decide⟩ (by decide) cl_L_15 ca_1 (fun q => ?_)
      refine me_astore C (Or.inr (Or.inr ⟨_, rfl⟩)) dL_owner_8 (by decide) (L' := [(4, .inl (.ref q)), (0, me_r 0 0), (1, me_i v1), (2, me_i v2), (3, me_i v3)]) rfl ?_
      refine me_ldc C (v := (-900001)) dL_owner_10 ci_L_17 ?_
      exact me_iret C N dL_owner_12 (me_nri _) (by cases hf; rfl) (by decide) (by decide)
    replace hf := me_in c0 hf
    by_cases c1 : k = 2
    · subst c1
      replace hf := me_ip rfl hf
      refine me_catch C hT (k := 2) [(0, 7, 8, 15)] (0, 7, 13, 18) [] rfl (List.forall_mem_cons.mpr ⟨⟨by decide, _, cl_L_15, by decide +kernel⟩, (fun z hz => nomatch hz)⟩) ⟨by decide, by decide⟩ (by decide) cl_L_18 ca_2 (fun q => ?_)
      refine me_astore C (Or.inr (Or.inr ⟨_, rfl⟩)) dL_owner_13 (by decide) (L' := [(4, .inl (.ref q)), (0, me_r 0 0), (1, me_i v1), (2, me_i v2), (3, me_i v3)]) rfl ?_
      refine me_ldc C (v := (-900002)) dL_owner_15 ci_L_20 ?_
      exact me_iret C N dL_owner_17 (me_nri _) (by cases hf; rfl) (by decide) (by decide)
    replace hf := me_in c1 hf
    cases hf
  · replace hf := me_xmo hf
    refine me_callV C N (As := [me_i v1, me_i v2, me_i v3]) (st := []) 2 12 (c_Y_owner hB h_r) mv_Y_owner ml_L_65 rfl rfl dL_owner_4 rfl rfl ⟨by decide, by decide⟩ ⟨by decide, by decide, by decide, by decide⟩ (Nat.le_of_ble_eq_true rfl) ?_
    exact me_iret C N dL_owner_7 (me_nri _) (by cases hf; rfl) (by decide) (by decide)

def f_L_memory (μ : me_M) (v1 : Int32) (v2 : Int32) : Option (me_M × Int32) :=
  me_bd (f_Y_memory μ v1 v2) (fun r1 => me_xm r1 (fun v => some (μ, v))
    (fun k => if k = 1 then some (μ, (-900001 : Int32)) else if k = 2 then some (μ, (-900002 : Int32)) else none))
set_option maxHeartbeats 4000000 in
set_option maxRecDepth 100000 in
theorem c_L_memory {B : me_B} (hB : me_St B) {μ : me_M} {v1 : Int32} {v2 : Int32} {μ' : me_M} {r : Int32} (hf : f_L_memory μ v1 v2 = some (μ', r)) : ∀ l E z, l.stackTraces = false → me_MetH l yL_memory cL_memory 4 (some .int) [(0, 6, 7, 15), (0, 6, 11, 18)] 8 135 2 12 E B μ z [me_r 0 0, me_i v1, me_i v2] (B, μ', .ok (some (me_i r))) := by
  intro l E z hl
  refine me_ofZH hl (by decide +kernel) (Nat.le_of_ble_eq_true rfl) (fun X C N hT => ?_)
  unfold f_L_memory at hf
  refine me_aload_n C 0 (Or.inr (Or.inl ⟨_, rfl⟩)) dL_memory_0 rfl rfl ?_
  refine me_iload_n C 1 dL_memory_1 rfl rfl ?_
  refine me_iload_n C 2 dL_memory_2 rfl rfl ?_
  obtain ⟨r1, h_r, hf⟩ := me_bs hf
  rcases r1 with k | v
  · replace hf := me_xme hf
    refine me_callVE C N (As := [me_i v1, me_i v2]) (st := []) 2 12 (c_Y_memory hB h_r) mv_Y_memory ml_L_68 rfl rfl dL_memory_3 rfl rfl ⟨by decide, by decide⟩ ⟨by decide, by decide, by decide, by decide⟩ (Nat.le_of_ble_eq_true rfl) ?_
    by_cases c0 : k = 1
    · subst c0
      replace hf := me_ip rfl hf
      refine me_catch C hT (k := 1) [] (0, 6, 7, 15) [(0, 6, 11, 18)] rfl (fun z hz => by cases hz) ⟨by decide, by decide⟩ (by decide) cl_L_15 ca_1 (fun q => ?_)
      refine me_astore_n C 3 (Or.inr (Or.inr ⟨_, rfl⟩)) dL_memory_7 rfl (by decide) (L' := [(3, .inl (.ref q)), (0, me_r 0 0), (1, me_i v1), (2, me_i v2)]) rfl ?_
      refine me_ldc C (v := (-900001)) dL_memory_8 ci_L_17 ?_
      exact me_iret C N dL_memory_10 (me_nri _) (by cases hf; rfl) (by decide) (by decide)
    replace hf := me_in c0 hf
    by_cases c1 : k = 2
    · subst c1
      replace hf := me_ip rfl hf
      refine me_catch C hT (k := 2) [(0, 6, 7, 15)] (0, 6, 11, 18) [] rfl (List.forall_mem_cons.mpr ⟨⟨by decide, _, cl_L_15, by decide +kernel⟩, (fun z hz => nomatch hz)⟩) ⟨by decide, by decide⟩ (by decide) cl_L_18 ca_2 (fun q => ?_)
      refine me_astore_n C 3 (Or.inr (Or.inr ⟨_, rfl⟩)) dL_memory_11 rfl (by decide) (L' := [(3, .inl (.ref q)), (0, me_r 0 0), (1, me_i v1), (2, me_i v2)]) rfl ?_
      refine me_ldc C (v := (-900002)) dL_memory_12 ci_L_20 ?_
      exact me_iret C N dL_memory_14 (me_nri _) (by cases hf; rfl) (by decide) (by decide)
    replace hf := me_in c1 hf
    cases hf
  · replace hf := me_xmo hf
    refine me_callV C N (As := [me_i v1, me_i v2]) (st := []) 2 12 (c_Y_memory hB h_r) mv_Y_memory ml_L_68 rfl rfl dL_memory_3 rfl rfl ⟨by decide, by decide⟩ ⟨by decide, by decide, by decide, by decide⟩ (Nat.le_of_ble_eq_true rfl) ?_
    exact me_iret C N dL_memory_6 (me_nri _) (by cases hf; rfl) (by decide) (by decide)

def f_L_set (μ : me_M) (v1 : Int32) (v2 : Int32) (v3 : Int32) : Option (me_M × Int32) :=
  me_b2 (f_Y_set μ v1 v2 v3) (fun μ1 r1 => me_xm r1 (fun v => some (μ1, v))
    (fun k => if k = 1 then some (μ1, (-900001 : Int32)) else if k = 2 then some (μ1, (-900002 : Int32)) else none))
set_option maxHeartbeats 4000000 in
set_option maxRecDepth 100000 in
theorem c_L_set {B : me_B} (hB : me_St B) {μ : me_M} {v1 : Int32} {v2 : Int32} {v3 : Int32} {μ' : me_M} {r : Int32} (hf : f_L_set μ v1 v2 v3 = some (μ', r)) : ∀ l E z, l.stackTraces = false → me_MetH l yL_set cL_set 5 (some .int) [(0, 7, 8, 15), (0, 7, 13, 18)] 8 137 2 12 E B μ z [me_r 0 0, me_i v1, me_i v2, me_i v3] (B, μ', .ok (some (me_i r))) := by
  intro l E z hl
  refine me_ofZH hl (by decide +kernel) (Nat.le_of_ble_eq_true rfl) (fun X C N hT => ?_)
  unfold f_L_set at hf
  refine me_aload_n C 0 (Or.inr (Or.inl ⟨_, rfl⟩)) dL_set_0 rfl rfl ?_
  refine me_iload_n C 1 dL_set_1 rfl rfl ?_
  refine me_iload_n C 2 dL_set_2 rfl rfl ?_
  refine me_iload_n C 3 dL_set_3 rfl rfl ?_
  obtain ⟨μ1, r1, h_r, hf⟩ := me_bs2 hf
  rcases r1 with k | v
  · replace hf := me_xme hf
    refine me_callVE C N (As := [me_i v1, me_i v2, me_i v3]) (st := []) 2 12 (c_Y_set hB h_r) mv_Y_set ml_L_71 rfl rfl dL_set_4 rfl rfl ⟨by decide, by decide⟩ ⟨by decide, by decide, by decide, by decide⟩ (Nat.le_of_ble_eq_true rfl) ?_
    by_cases c0 : k = 1
    · subst c0
      replace hf := me_ip rfl hf
      refine me_catch C hT (k := 1) [] (0, 7, 8, 15) [(0, 7, 13, 18)] rfl (fun z hz => by cases hz) ⟨by decide, by decide⟩ (by decide) cl_L_15 ca_1 (fun q => ?_)
      refine me_astore C (Or.inr (Or.inr ⟨_, rfl⟩)) dL_set_8 (by decide) (L' := [(4, .inl (.ref q)), (0, me_r 0 0), (1, me_i v1), (2, me_i v2), (3, me_i v3)]) rfl ?_
      refine me_ldc C (v := (-900001)) dL_set_10 ci_L_17 ?_
      exact me_iret C N dL_set_12 (me_nri _) (by cases hf; rfl) (by decide) (by decide)
    replace hf := me_in c0 hf
    by_cases c1 : k = 2
    · subst c1
      replace hf := me_ip rfl hf
      refine me_catch C hT (k := 2) [(0, 7, 8, 15)] (0, 7, 13, 18) [] rfl (List.forall_mem_cons.mpr ⟨⟨by decide, _, cl_L_15, by decide +kernel⟩, (fun z hz => nomatch hz)⟩) ⟨by decide, by decide⟩ (by decide) cl_L_18 ca_2 (fun q => ?_)
      refine me_astore C (Or.inr (Or.inr ⟨_, rfl⟩)) dL_set_13 (by decide) (L' := [(4, .inl (.ref q)), (0, me_r 0 0), (1, me_i v1), (2, me_i v2), (3, me_i v3)]) rfl ?_
      refine me_ldc C (v := (-900002)) dL_set_15 ci_L_20 ?_
      exact me_iret C N dL_set_17 (me_nri _) (by cases hf; rfl) (by decide) (by decide)
    replace hf := me_in c1 hf
    cases hf
  · replace hf := me_xmo hf
    refine me_callV C N (As := [me_i v1, me_i v2, me_i v3]) (st := []) 2 12 (c_Y_set hB h_r) mv_Y_set ml_L_71 rfl rfl dL_set_4 rfl rfl ⟨by decide, by decide⟩ ⟨by decide, by decide, by decide, by decide⟩ (Nat.le_of_ble_eq_true rfl) ?_
    exact me_iret C N dL_set_7 (me_nri _) (by cases hf; rfl) (by decide) (by decide)

def f_L_beats (μ : me_M) (v1 : Int32) : Option (me_M × Int32) :=
  me_b2 (f_Y_beats μ v1) (fun μ1 r1 => me_xm r1 (fun v => if v = 0 then some (μ1, (0 : Int32)) else some (μ1, (1 : Int32)))
    (fun k => if k = 2 then some (μ1, (-900001 : Int32)) else none))
set_option maxHeartbeats 4000000 in
set_option maxRecDepth 100000 in
theorem c_L_beats {B : me_B} (hB : me_St B) {μ : me_M} {v1 : Int32} {μ' : me_M} {r : Int32} (hf : f_L_beats μ v1 = some (μ', r)) : ∀ l E z, l.stackTraces = false → me_MetH l yL_beats cL_beats 3 (some .int) [(0, 13, 14, 18)] 8 194 1 6 E B μ z [me_r 0 0, me_i v1] (B, μ', .ok (some (me_i r))) := by
  intro l E z hl
  refine me_ofZH hl (by decide +kernel) (Nat.le_of_ble_eq_true rfl) (fun X C N hT => ?_)
  unfold f_L_beats at hf
  refine me_aload_n C 0 (Or.inr (Or.inl ⟨_, rfl⟩)) dL_beats_0 rfl rfl ?_
  refine me_iload_n C 1 dL_beats_1 rfl rfl ?_
  obtain ⟨μ1, r1, h_r, hf⟩ := me_bs2 hf
  rcases r1 with k | v
  · replace hf := me_xme hf
    refine me_callVE C N (As := [me_i v1]) (st := []) 1 6 (c_Y_beats hB h_r) mv_Y_beats ml_L_75 rfl rfl dL_beats_2 rfl rfl ⟨by decide, by decide⟩ ⟨by decide, by decide, by decide, by decide⟩ (Nat.le_of_ble_eq_true rfl) ?_
    by_cases c0 : k = 2
    · subst c0
      replace hf := me_ip rfl hf
      refine me_catch C hT (k := 2) [] (0, 13, 14, 18) [] rfl (fun z hz => by cases hz) ⟨by decide, by decide⟩ (by decide) cl_L_18 ca_2 (fun q => ?_)
      refine me_astore_n C 2 (Or.inr (Or.inr ⟨_, rfl⟩)) dL_beats_14 rfl (by decide) (L' := [(2, .inl (.ref q)), (0, me_r 0 0), (1, me_i v1)]) rfl ?_
      refine me_ldc C (v := (-900001)) dL_beats_15 ci_L_17 ?_
      exact me_iret C N dL_beats_17 (me_nri _) (by cases hf; rfl) (by decide) (by decide)
    replace hf := me_in c0 hf
    cases hf
  · replace hf := me_xmo hf
    refine me_callV C N (As := [me_i v1]) (st := []) 1 6 (c_Y_beats hB h_r) mv_Y_beats ml_L_75 rfl rfl dL_beats_2 rfl rfl ⟨by decide, by decide⟩ ⟨by decide, by decide, by decide, by decide⟩ (Nat.le_of_ble_eq_true rfl) ?_
    refine me_if_eq C (tgt := 12) dL_beats_5 (by decide) (fun c1 => ?_) (fun c1 => ?_)
    · replace hf := me_ip c1 hf
      refine me_iconst C (v := 0) dL_beats_12 (by decide) ?_
      exact me_iret C N dL_beats_13 (me_nri _) (by cases hf; rfl) (by decide) (by decide)
    · replace hf := me_in c1 hf
      refine me_iconst C (v := 1) dL_beats_8 (by decide) ?_
      refine me_goto C (tgt := 13) dL_beats_9 (by decide) ?_
      exact me_iret C N dL_beats_13 (me_nri _) (by cases hf; rfl) (by decide) (by decide)

def f_L_sleep (μ : me_M) (v1 : Int32) : Option (me_M × Int32) :=
  me_b2 (f_Y_sleep μ v1) (fun μ1 r1 => me_xm r1 (fun v => if v = 0 then some (μ1, (0 : Int32)) else some (μ1, (1 : Int32)))
    (fun k => if k = 1 then some (μ1, (-900001 : Int32)) else if k = 4 then some (μ1, (-900002 : Int32)) else none))
set_option maxHeartbeats 4000000 in
set_option maxRecDepth 100000 in
theorem c_L_sleep {B : me_B} (hB : me_St B) {μ : me_M} {v1 : Int32} {μ' : me_M} {r : Int32} (hf : f_L_sleep μ v1 = some (μ', r)) : ∀ l E z, l.stackTraces = false → me_MetH l yL_sleep cL_sleep 3 (some .int) [(0, 13, 14, 15), (0, 13, 18, 82)] 8 134 2 12 E B μ z [me_r 0 0, me_i v1] (B, μ', .ok (some (me_i r))) := by
  intro l E z hl
  refine me_ofZH hl (by decide +kernel) (Nat.le_of_ble_eq_true rfl) (fun X C N hT => ?_)
  unfold f_L_sleep at hf
  refine me_aload_n C 0 (Or.inr (Or.inl ⟨_, rfl⟩)) dL_sleep_0 rfl rfl ?_
  refine me_iload_n C 1 dL_sleep_1 rfl rfl ?_
  obtain ⟨μ1, r1, h_r, hf⟩ := me_bs2 hf
  rcases r1 with k | v
  · replace hf := me_xme hf
    refine me_callVE C N (As := [me_i v1]) (st := []) 2 12 (c_Y_sleep hB h_r) mv_Y_sleep ml_L_79 rfl rfl dL_sleep_2 rfl rfl ⟨by decide, by decide⟩ ⟨by decide, by decide, by decide, by decide⟩ (Nat.le_of_ble_eq_true rfl) ?_
    by_cases c0 : k = 1
    · subst c0
      replace hf := me_ip rfl hf
      refine me_catch C hT (k := 1) [] (0, 13, 14, 15) [(0, 13, 18, 82)] rfl (fun z hz => by cases hz) ⟨by decide, by decide⟩ (by decide) cl_L_15 ca_1 (fun q => ?_)
      refine me_astore_n C 2 (Or.inr (Or.inr ⟨_, rfl⟩)) dL_sleep_14 rfl (by decide) (L' := [(2, .inl (.ref q)), (0, me_r 0 0), (1, me_i v1)]) rfl ?_
      refine me_ldc C (v := (-900001)) dL_sleep_15 ci_L_17 ?_
      exact me_iret C N dL_sleep_17 (me_nri _) (by cases hf; rfl) (by decide) (by decide)
    replace hf := me_in c0 hf
    by_cases c1 : k = 4
    · subst c1
      replace hf := me_ip rfl hf
      refine me_catch C hT (k := 4) [(0, 13, 14, 15)] (0, 13, 18, 82) [] rfl (List.forall_mem_cons.mpr ⟨⟨by decide, _, cl_L_15, by decide +kernel⟩, (fun z hz => nomatch hz)⟩) ⟨by decide, by decide⟩ (by decide) cl_L_82 ca_4 (fun q => ?_)
      refine me_astore_n C 2 (Or.inr (Or.inr ⟨_, rfl⟩)) dL_sleep_18 rfl (by decide) (L' := [(2, .inl (.ref q)), (0, me_r 0 0), (1, me_i v1)]) rfl ?_
      refine me_ldc C (v := (-900002)) dL_sleep_19 ci_L_20 ?_
      exact me_iret C N dL_sleep_21 (me_nri _) (by cases hf; rfl) (by decide) (by decide)
    replace hf := me_in c1 hf
    cases hf
  · replace hf := me_xmo hf
    refine me_callV C N (As := [me_i v1]) (st := []) 2 12 (c_Y_sleep hB h_r) mv_Y_sleep ml_L_79 rfl rfl dL_sleep_2 rfl rfl ⟨by decide, by decide⟩ ⟨by decide, by decide, by decide, by decide⟩ (Nat.le_of_ble_eq_true rfl) ?_
    refine me_if_eq C (tgt := 12) dL_sleep_5 (by decide) (fun c1 => ?_) (fun c1 => ?_)
    · replace hf := me_ip c1 hf
      refine me_iconst C (v := 0) dL_sleep_12 (by decide) ?_
      exact me_iret C N dL_sleep_13 (me_nri _) (by cases hf; rfl) (by decide) (by decide)
    · replace hf := me_in c1 hf
      refine me_iconst C (v := 1) dL_sleep_8 (by decide) ?_
      refine me_goto C (tgt := 13) dL_sleep_9 (by decide) ?_
      exact me_iret C N dL_sleep_13 (me_nri _) (by cases hf; rfl) (by decide) (by decide)

def f_L_isAwake (μ : me_M) (v1 : Int32) : Option (me_M × Int32) :=
  me_bd (f_Y_isAwake μ v1) (fun r1 => me_xm r1 (fun v => if v = 0 then some (μ, (0 : Int32)) else some (μ, (1 : Int32)))
    (fun k => if k = 1 then some (μ, (-900001 : Int32)) else none))
set_option maxHeartbeats 4000000 in
set_option maxRecDepth 100000 in
theorem c_L_isAwake {B : me_B} (hB : me_St B) {μ : me_M} {v1 : Int32} {μ' : me_M} {r : Int32} (hf : f_L_isAwake μ v1 = some (μ', r)) : ∀ l E z, l.stackTraces = false → me_MetH l yL_isAwake cL_isAwake 3 (some .int) [(0, 13, 14, 15)] 8 132 1 6 E B μ z [me_r 0 0, me_i v1] (B, μ', .ok (some (me_i r))) := by
  intro l E z hl
  refine me_ofZH hl (by decide +kernel) (Nat.le_of_ble_eq_true rfl) (fun X C N hT => ?_)
  unfold f_L_isAwake at hf
  refine me_aload_n C 0 (Or.inr (Or.inl ⟨_, rfl⟩)) dL_isAwake_0 rfl rfl ?_
  refine me_iload_n C 1 dL_isAwake_1 rfl rfl ?_
  obtain ⟨r1, h_r, hf⟩ := me_bs hf
  rcases r1 with k | v
  · replace hf := me_xme hf
    refine me_callVE C N (As := [me_i v1]) (st := []) 1 6 (c_Y_isAwake hB h_r) mv_Y_isAwake ml_L_84 rfl rfl dL_isAwake_2 rfl rfl ⟨by decide, by decide⟩ ⟨by decide, by decide, by decide, by decide⟩ (Nat.le_of_ble_eq_true rfl) ?_
    by_cases c0 : k = 1
    · subst c0
      replace hf := me_ip rfl hf
      refine me_catch C hT (k := 1) [] (0, 13, 14, 15) [] rfl (fun z hz => by cases hz) ⟨by decide, by decide⟩ (by decide) cl_L_15 ca_1 (fun q => ?_)
      refine me_astore_n C 2 (Or.inr (Or.inr ⟨_, rfl⟩)) dL_isAwake_14 rfl (by decide) (L' := [(2, .inl (.ref q)), (0, me_r 0 0), (1, me_i v1)]) rfl ?_
      refine me_ldc C (v := (-900001)) dL_isAwake_15 ci_L_17 ?_
      exact me_iret C N dL_isAwake_17 (me_nri _) (by cases hf; rfl) (by decide) (by decide)
    replace hf := me_in c0 hf
    cases hf
  · replace hf := me_xmo hf
    refine me_callV C N (As := [me_i v1]) (st := []) 1 6 (c_Y_isAwake hB h_r) mv_Y_isAwake ml_L_84 rfl rfl dL_isAwake_2 rfl rfl ⟨by decide, by decide⟩ ⟨by decide, by decide, by decide, by decide⟩ (Nat.le_of_ble_eq_true rfl) ?_
    refine me_if_eq C (tgt := 12) dL_isAwake_5 (by decide) (fun c1 => ?_) (fun c1 => ?_)
    · replace hf := me_ip c1 hf
      refine me_iconst C (v := 0) dL_isAwake_12 (by decide) ?_
      exact me_iret C N dL_isAwake_13 (me_nri _) (by cases hf; rfl) (by decide) (by decide)
    · replace hf := me_in c1 hf
      refine me_iconst C (v := 1) dL_isAwake_8 (by decide) ?_
      refine me_goto C (tgt := 13) dL_isAwake_9 (by decide) ?_
      exact me_iret C N dL_isAwake_13 (me_nri _) (by cases hf; rfl) (by decide) (by decide)
