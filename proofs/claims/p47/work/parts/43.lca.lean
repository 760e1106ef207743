/-! THE LAW, blocks [306, 773, 740, 738, 715, 651, 703, 598] (printed by gen/lawmain.py) -/
theorem ml_L_95 : Cond.methodLink RL 95 yL_in ∈ me_gw := (me_gm 1209 (by decide +kernel) (by decide +kernel))
theorem ms_L_in : me_MS yL_in cL_in 3 (some .int) 3 := ⟨(me_gm 1211 (by decide +kernel) (by decide +kernel)), (me_gm 29 (by decide +kernel) (by decide +kernel)), ⟨by decide +kernel, by decide +kernel⟩, by decide +kernel, (me_gm 1210 (by decide +kernel) (by decide +kernel))⟩
theorem ml_L_99 : Cond.methodLink RL 99 yL_net ∈ me_gw := (me_gm 838 (by decide +kernel) (by decide +kernel))
theorem mh_L_net : Cond.codeWith yL_net cL_net 4 (some .int) [(0, 6, 7, 18)] ∈ me_gw := (me_gm 840 (by decide +kernel) (by decide +kernel))
theorem si_L_net : Cond.static yL_net ∈ me_gw := (me_gm 839 (by decide +kernel) (by decide +kernel))
theorem iL : Cond.initialized "MeshyardLaw" ∈ me_gw := (me_gm 29 (by decide +kernel) (by decide +kernel))
theorem ml_L_102 : Cond.methodLink RL 102 yL_way ∈ me_gw := (me_gm 845 (by decide +kernel) (by decide +kernel))
theorem mh_L_way : Cond.codeWith yL_way cL_way 3 (some .int) [(0, 5, 6, 18)] ∈ me_gw := (me_gm 847 (by decide +kernel) (by decide +kernel))
theorem si_L_way : Cond.static yL_way ∈ me_gw := (me_gm 846 (by decide +kernel) (by decide +kernel))
theorem ml_L_105 : Cond.methodLink RL 105 yL_places ∈ me_gw := (me_gm 938 (by decide +kernel) (by decide +kernel))
theorem mh_L_places : Cond.codeWith yL_places cL_places 3 (some .int) [(0, 5, 6, 18)] ∈ me_gw := (me_gm 940 (by decide +kernel) (by decide +kernel))
theorem si_L_places : Cond.static yL_places ∈ me_gw := (me_gm 939 (by decide +kernel) (by decide +kernel))
theorem ml_L_108 : Cond.methodLink RL 108 yL_send ∈ me_gw := (me_gm 689 (by decide +kernel) (by decide +kernel))
theorem mh_L_send : Cond.codeWith yL_send cL_send 6 (some .int) [(0, 9, 10, 15), (0, 9, 15, 18), (0, 9, 20, 21)] ∈ me_gw := (me_gm 691 (by decide +kernel) (by decide +kernel))
theorem si_L_send : Cond.static yL_send ∈ me_gw := (me_gm 690 (by decide +kernel) (by decide +kernel))
theorem ml_L_111 : Cond.methodLink RL 111 yL_state ∈ me_gw := (me_gm 780 (by decide +kernel) (by decide +kernel))
theorem mh_L_state : Cond.codeWith yL_state cL_state 3 (some .int) [(0, 5, 6, 15)] ∈ me_gw := (me_gm 782 (by decide +kernel) (by decide +kernel))
theorem si_L_state : Cond.static yL_state ∈ me_gw := (me_gm 781 (by decide +kernel) (by decide +kernel))
theorem ml_L_113 : Cond.methodLink RL 113 yL_beats ∈ me_gw := (me_gm 979 (by decide +kernel) (by decide +kernel))
theorem mh_L_beats : Cond.codeWith yL_beats cL_beats 3 (some .int) [(0, 13, 14, 18)] ∈ me_gw := (me_gm 981 (by decide +kernel) (by decide +kernel))
theorem si_L_beats : Cond.static yL_beats ∈ me_gw := (me_gm 980 (by decide +kernel) (by decide +kernel))
theorem ml_L_123 : Cond.methodLink RL 123 yX11_packets ∈ me_gw := (me_gm 607 (by decide +kernel) (by decide +kernel))
theorem mv_Y_packets : me_MV yX11_packets cX11_packets 1 (some .int) 0 := ⟨(me_gm 610 (by decide +kernel) (by decide +kernel)), (me_gm 30 (by decide +kernel) (by decide +kernel)), ⟨by decide +kernel, by decide +kernel⟩, by decide +kernel, (me_gm 608 (by decide +kernel) (by decide +kernel)), (me_gm 609 (by decide +kernel) (by decide +kernel))⟩
theorem ml_L_155 : Cond.methodLink RL 155 yL_set ∈ me_gw := (me_gm 972 (by decide +kernel) (by decide +kernel))
theorem mh_L_set : Cond.codeWith yL_set cL_set 5 (some .int) [(0, 7, 8, 15), (0, 7, 13, 18)] ∈ me_gw := (me_gm 974 (by decide +kernel) (by decide +kernel))
theorem si_L_set : Cond.static yL_set ∈ me_gw := (me_gm 973 (by decide +kernel) (by decide +kernel))
theorem ml_L_158 : Cond.methodLink RL 158 yL_ask ∈ me_gw := (me_gm 763 (by decide +kernel) (by decide +kernel))
theorem mh_L_ask : Cond.codeWith yL_ask cL_ask 7 (some .int) [(0, 11, 12, 15), (0, 11, 17, 18), (0, 11, 22, 21)] ∈ me_gw := (me_gm 765 (by decide +kernel) (by decide +kernel))
theorem si_L_ask : Cond.static yL_ask ∈ me_gw := (me_gm 764 (by decide +kernel) (by decide +kernel))
theorem ml_L_161 : Cond.methodLink RL 161 yL_answer ∈ me_gw := (me_gm 770 (by decide +kernel) (by decide +kernel))
theorem mh_L_answer : Cond.codeWith yL_answer cL_answer 3 (some .int) [(0, 5, 6, 15), (0, 5, 10, 18), (0, 5, 14, 32)] ∈ me_gw := (me_gm 772 (by decide +kernel) (by decide +kernel))
theorem si_L_answer : Cond.static yL_answer ∈ me_gw := (me_gm 771 (by decide +kernel) (by decide +kernel))
theorem ml_L_131 : Cond.methodLink RL 131 yX11_kind ∈ me_gw := (me_gm 513 (by decide +kernel) (by decide +kernel))
theorem mv_Y_kind : me_MV yX11_kind cX11_kind 2 (some .char) 1 := ⟨(me_gm 516 (by decide +kernel) (by decide +kernel)), (me_gm 30 (by decide +kernel) (by decide +kernel)), ⟨by decide +kernel, by decide +kernel⟩, by decide +kernel, (me_gm 514 (by decide +kernel) (by decide +kernel)), (me_gm 515 (by decide +kernel) (by decide +kernel))⟩
theorem ml_L_134 : Cond.methodLink RL 134 yX11_word ∈ me_gw := (me_gm 595 (by decide +kernel) (by decide +kernel))
theorem mv_Y_word : me_MV yX11_word cX11_word 2 (some .int) 1 := ⟨(me_gm 598 (by decide +kernel) (by decide +kernel)), (me_gm 30 (by decide +kernel) (by decide +kernel)), ⟨by decide +kernel, by decide +kernel⟩, by decide +kernel, (me_gm 596 (by decide +kernel) (by decide +kernel)), (me_gm 597 (by decide +kernel) (by decide +kernel))⟩
theorem ml_L_163 : Cond.methodLink RL 163 yL_memory ∈ me_gw := (me_gm 965 (by decide +kernel) (by decide +kernel))
theorem mh_L_memory : Cond.codeWith yL_memory cL_memory 4 (some .int) [(0, 6, 7, 15), (0, 6, 11, 18)] ∈ me_gw := (me_gm 967 (by decide +kernel) (by decide +kernel))
theorem si_L_memory : Cond.static yL_memory ∈ me_gw := (me_gm 966 (by decide +kernel) (by decide +kernel))
theorem ml_L_115 : Cond.methodLink RL 115 yL_isAwake ∈ me_gw := (me_gm 1202 (by decide +kernel) (by decide +kernel))
theorem mh_L_isAwake : Cond.codeWith yL_isAwake cL_isAwake 3 (some .int) [(0, 13, 14, 15)] ∈ me_gw := (me_gm 1204 (by decide +kernel) (by decide +kernel))
theorem si_L_isAwake : Cond.static yL_isAwake ∈ me_gw := (me_gm 1203 (by decide +kernel) (by decide +kernel))
theorem ml_L_117 : Cond.methodLink RL 117 yL_sleep ∈ me_gw := (me_gm 1169 (by decide +kernel) (by decide +kernel))
theorem mh_L_sleep : Cond.codeWith yL_sleep cL_sleep 3 (some .int) [(0, 13, 14, 15), (0, 13, 18, 82)] ∈ me_gw := (me_gm 1171 (by decide +kernel) (by decide +kernel))
theorem si_L_sleep : Cond.static yL_sleep ∈ me_gw := (me_gm 1170 (by decide +kernel) (by decide +kernel))
theorem ml_L_165 : Cond.methodLink RL 165 yX11_lostShare ∈ me_gw := (me_gm 615 (by decide +kernel) (by decide +kernel))
theorem mv_Y_lostShare : me_MV yX11_lostShare cX11_lostShare 1 (some .float) 0 := ⟨(me_gm 618 (by decide +kernel) (by decide +kernel)), (me_gm 30 (by decide +kernel) (by decide +kernel)), ⟨by decide +kernel, by decide +kernel⟩, by decide +kernel, (me_gm 616 (by decide +kernel) (by decide +kernel)), (me_gm 617 (by decide +kernel) (by decide +kernel))⟩
theorem ml_L_169 : Cond.methodLink RL 169 yX11_isSound ∈ me_gw := (me_gm 639 (by decide +kernel) (by decide +kernel))
theorem mv_Y_isSound : me_MV yX11_isSound cX11_isSound 1 (some .boolean) 0 := ⟨(me_gm 642 (by decide +kernel) (by decide +kernel)), (me_gm 30 (by decide +kernel) (by decide +kernel)), ⟨by decide +kernel, by decide +kernel⟩, by decide +kernel, (me_gm 640 (by decide +kernel) (by decide +kernel)), (me_gm 641 (by decide +kernel) (by decide +kernel))⟩
theorem ml_L_143 : Cond.methodLink RL 143 yL_lying ∈ me_gw := (me_gm 827 (by decide +kernel) (by decide +kernel))
theorem mh_L_lying : Cond.codeWith yL_lying cL_lying 4 (some .int) [(0, 6, 7, 15)] ∈ me_gw := (me_gm 829 (by decide +kernel) (by decide +kernel))
theorem si_L_lying : Cond.static yL_lying ∈ me_gw := (me_gm 828 (by decide +kernel) (by decide +kernel))
theorem ml_L_127 : Cond.methodLink RL 127 yL_head ∈ me_gw := (me_gm 787 (by decide +kernel) (by decide +kernel))
theorem mh_L_head : Cond.codeWith yL_head cL_head 3 (some .int) [(0, 5, 6, 15), (0, 5, 10, 32)] ∈ me_gw := (me_gm 789 (by decide +kernel) (by decide +kernel))
theorem si_L_head : Cond.static yL_head ∈ me_gw := (me_gm 788 (by decide +kernel) (by decide +kernel))
theorem ml_L_129 : Cond.methodLink RL 129 yL_time ∈ me_gw := (me_gm 795 (by decide +kernel) (by decide +kernel))
theorem mh_L_time : Cond.codeWith yL_time cL_time 3 (some .int) [(0, 5, 6, 15), (0, 5, 10, 32)] ∈ me_gw := (me_gm 797 (by decide +kernel) (by decide +kernel))
theorem si_L_time : Cond.static yL_time ∈ me_gw := (me_gm 796 (by decide +kernel) (by decide +kernel))
theorem ml_L_119 : Cond.methodLink RL 119 yL_next ∈ me_gw := (me_gm 1218 (by decide +kernel) (by decide +kernel))
theorem ms_L_next : me_MS yL_next cL_next 7 (some .int) 4 := ⟨(me_gm 1220 (by decide +kernel) (by decide +kernel)), (me_gm 29 (by decide +kernel) (by decide +kernel)), ⟨by decide +kernel, by decide +kernel⟩, by decide +kernel, (me_gm 1219 (by decide +kernel) (by decide +kernel))⟩
theorem ml_L_137 : Cond.methodLink RL 137 yL_steps ∈ me_gw := (me_gm 1221 (by decide +kernel) (by decide +kernel))
theorem ms_L_steps : me_MS yL_steps cL_steps 5 (some .int) 3 := ⟨(me_gm 1223 (by decide +kernel) (by decide +kernel)), (me_gm 29 (by decide +kernel) (by decide +kernel)), ⟨by decide +kernel, by decide +kernel⟩, by decide +kernel, (me_gm 1222 (by decide +kernel) (by decide +kernel))⟩
theorem ml_L_145 : Cond.methodLink RL 145 yX11_pieces ∈ me_gw := (me_gm 599 (by decide +kernel) (by decide +kernel))
theorem mv_Y_pieces : me_MV yX11_pieces cX11_pieces 2 (some .int) 1 := ⟨(me_gm 602 (by decide +kernel) (by decide +kernel)), (me_gm 30 (by decide +kernel) (by decide +kernel)), ⟨by decide +kernel, by decide +kernel⟩, by decide +kernel, (me_gm 600 (by decide +kernel) (by decide +kernel)), (me_gm 601 (by decide +kernel) (by decide +kernel))⟩
theorem ml_L_148 : Cond.methodLink RL 148 yL_receive ∈ me_gw := (me_gm 811 (by decide +kernel) (by decide +kernel))
theorem mh_L_receive : Cond.codeWith yL_receive cL_receive 4 (some .int) [(0, 6, 7, 15), (0, 6, 11, 32)] ∈ me_gw := (me_gm 813 (by decide +kernel) (by decide +kernel))
theorem si_L_receive : Cond.static yL_receive ∈ me_gw := (me_gm 812 (by decide +kernel) (by decide +kernel))
theorem ml_L_150 : Cond.methodLink RL 150 yL_row ∈ me_gw := (me_gm 945 (by decide +kernel) (by decide +kernel))
theorem mh_L_row : Cond.codeWith yL_row cL_row 5 (some .int) [(0, 7, 8, 15), (0, 7, 13, 18)] ∈ me_gw := (me_gm 947 (by decide +kernel) (by decide +kernel))
theorem si_L_row : Cond.static yL_row ∈ me_gw := (me_gm 946 (by decide +kernel) (by decide +kernel))
theorem ml_L_153 : Cond.methodLink RL 153 yL_owner ∈ me_gw := (me_gm 958 (by decide +kernel) (by decide +kernel))
theorem mh_L_owner : Cond.codeWith yL_owner cL_owner 5 (some .int) [(0, 7, 8, 15), (0, 7, 13, 18)] ∈ me_gw := (me_gm 960 (by decide +kernel) (by decide +kernel))
theorem si_L_owner : Cond.static yL_owner ∈ me_gw := (me_gm 959 (by decide +kernel) (by decide +kernel))
theorem ml_L_140 : Cond.methodLink RL 140 yX11_beat ∈ me_gw := (me_gm 611 (by decide +kernel) (by decide +kernel))
theorem mv_Y_beat : me_MV yX11_beat cX11_beat 1 (some .int) 0 := ⟨(me_gm 614 (by decide +kernel) (by decide +kernel)), (me_gm 30 (by decide +kernel) (by decide +kernel)), ⟨by decide +kernel, by decide +kernel⟩, by decide +kernel, (me_gm 612 (by decide +kernel) (by decide +kernel)), (me_gm 613 (by decide +kernel) (by decide +kernel))⟩
theorem c_L_inB {B : me_B} {b : Nat} (hb : b = B.1 202 0) (hB : me_St B) {μ : me_M} {v1 v2 r : Int32} (hf : f_L_in B.2.2.2.1 B.2.2.2.2 μ v1 v2 = some r) : ∀ l E z, l.stackTraces = false → me_Met l yL_in cL_in 3 (some .int) 1 22 0 0 E B μ z [.inl (.ref b), me_i v1, me_i v2] (B, μ, .ok (some (me_i r))) := by
  subst hb
  exact c_L_in hB hf
theorem dL_law_306 : decode cL_law 306 = .ok (.istore 17, 2) := by decide +kernel
theorem dL_law_308 : decode cL_law 308 = .ok (.aload_n 1, 1) := by decide +kernel
theorem dL_law_309 : decode cL_law 309 = .ok (.iload 16, 2) := by decide +kernel
theorem dL_law_311 : decode cL_law 311 = .ok (.invokestatic 115, 3) := by decide +kernel
theorem dL_law_314 : decode cL_law 314 = .ok (.istore 18, 2) := by decide +kernel
theorem dL_law_316 : decode cL_law 316 = .ok (.iload 6, 2) := by decide +kernel
theorem dL_law_318 : decode cL_law 318 = .ok (.iload 17, 2) := by decide +kernel
theorem dL_law_320 : decode cL_law 320 = .ok (.ifCond .eq 14, 3) := by decide +kernel
theorem dL_law_323 : decode cL_law 323 = .ok (.aload_n 1, 1) := by decide +kernel
theorem dL_law_324 : decode cL_law 324 = .ok (.iload 16, 2) := by decide +kernel
theorem dL_law_326 : decode cL_law 326 = .ok (.invokestatic 117, 3) := by decide +kernel
theorem dL_law_329 : decode cL_law 329 = .ok (.iload 18, 2) := by decide +kernel
theorem dL_law_331 : decode cL_law 331 = .ok (.if_icmp .ne 7, 3) := by decide +kernel
theorem dL_law_334 : decode cL_law 334 = .ok (.iconst 1, 1) := by decide +kernel
theorem dL_law_335 : decode cL_law 335 = .ok (.goto 4, 3) := by decide +kernel
theorem dL_law_338 : decode cL_law 338 = .ok (.iconst 0, 1) := by decide +kernel
theorem dL_law_339 : decode cL_law 339 = .ok (.iand, 1) := by decide +kernel
theorem dL_law_340 : decode cL_law 340 = .ok (.istore 6, 2) := by decide +kernel
theorem dL_law_342 : decode cL_law 342 = .ok (.iinc 15 1, 3) := by decide +kernel
theorem dL_law_345 : decode cL_law 345 = .ok (.goto (-86), 3) := by decide +kernel
theorem dL_law_598 : decode cL_law 598 = .ok (.iand, 1) := by decide +kernel
theorem dL_law_599 : decode cL_law 599 = .ok (.istore 6, 2) := by decide +kernel
theorem dL_law_601 : decode cL_law 601 = .ok (.iinc 7 1, 3) := by decide +kernel
theorem dL_law_604 : decode cL_law 604 = .ok (.iload 19, 2) := by decide +kernel
theorem dL_law_606 : decode cL_law 606 = .ok (.ifCond .le 9, 3) := by decide +kernel
theorem dL_law_609 : decode cL_law 609 = .ok (.iinc 19 (-1), 3) := by decide +kernel
theorem dL_law_612 : decode cL_law 612 = .ok (.goto 103, 3) := by decide +kernel
theorem dL_law_615 : decode cL_law 615 = .ok (.iload 18, 2) := by decide +kernel
theorem dL_law_617 : decode cL_law 617 = .ok (.ifCond .ne 39, 3) := by decide +kernel
theorem dL_law_620 : decode cL_law 620 = .ok (.iconst 1, 1) := by decide +kernel
theorem dL_law_621 : decode cL_law 621 = .ok (.istore 18, 2) := by decide +kernel
theorem dL_law_623 : decode cL_law 623 = .ok (.iload 15, 2) := by decide +kernel
theorem dL_law_625 : decode cL_law 625 = .ok (.iload 10, 2) := by decide +kernel
theorem dL_law_627 : decode cL_law 627 = .ok (.if_icmp .eq 23, 3) := by decide +kernel
theorem dL_law_630 : decode cL_law 630 = .ok (.aload 14, 2) := by decide +kernel
theorem dL_law_632 : decode cL_law 632 = .ok (.iload_n 2, 1) := by decide +kernel
theorem dL_law_633 : decode cL_law 633 = .ok (.iload 15, 2) := by decide +kernel
theorem dL_law_635 : decode cL_law 635 = .ok (.iload 10, 2) := by decide +kernel
theorem dL_law_637 : decode cL_law 637 = .ok (.iload 5, 2) := by decide +kernel
theorem dL_law_639 : decode cL_law 639 = .ok (.invokestatic 119, 3) := by decide +kernel
theorem dL_law_642 : decode cL_law 642 = .ok (.baload, 1) := by decide +kernel
theorem dL_law_643 : decode cL_law 643 = .ok (.ifCond .eq 7, 3) := by decide +kernel
theorem dL_law_646 : decode cL_law 646 = .ok (.iconst 1, 1) := by decide +kernel
theorem dL_law_647 : decode cL_law 647 = .ok (.goto 4, 3) := by decide +kernel
theorem dL_law_650 : decode cL_law 650 = .ok (.iconst 0, 1) := by decide +kernel
theorem dL_law_651 : decode cL_law 651 = .ok (.istore 19, 2) := by decide +kernel
theorem dL_law_653 : decode cL_law 653 = .ok (.goto 62, 3) := by decide +kernel
theorem dL_law_656 : decode cL_law 656 = .ok (.iload 15, 2) := by decide +kernel
theorem dL_law_658 : decode cL_law 658 = .ok (.iload 10, 2) := by decide +kernel
theorem dL_law_660 : decode cL_law 660 = .ok (.if_icmp .eq 48, 3) := by decide +kernel
theorem dL_law_663 : decode cL_law 663 = .ok (.iload_n 2, 1) := by decide +kernel
theorem dL_law_664 : decode cL_law 664 = .ok (.iload 15, 2) := by decide +kernel
theorem dL_law_666 : decode cL_law 666 = .ok (.iload 10, 2) := by decide +kernel
theorem dL_law_668 : decode cL_law 668 = .ok (.iload 5, 2) := by decide +kernel
theorem dL_law_670 : decode cL_law 670 = .ok (.invokestatic 119, 3) := by decide +kernel
theorem dL_law_673 : decode cL_law 673 = .ok (.istore 15, 2) := by decide +kernel
theorem dL_law_675 : decode cL_law 675 = .ok (.iload 15, 2) := by decide +kernel
theorem dL_law_677 : decode cL_law 677 = .ok (.iload 10, 2) := by decide +kernel
theorem dL_law_679 : decode cL_law 679 = .ok (.if_icmp .eq 23, 3) := by decide +kernel
theorem dL_law_682 : decode cL_law 682 = .ok (.aload 14, 2) := by decide +kernel
theorem dL_law_684 : decode cL_law 684 = .ok (.iload_n 2, 1) := by decide +kernel
theorem dL_law_685 : decode cL_law 685 = .ok (.iload 15, 2) := by decide +kernel
theorem dL_law_687 : decode cL_law 687 = .ok (.iload 10, 2) := by decide +kernel
theorem dL_law_689 : decode cL_law 689 = .ok (.iload 5, 2) := by decide +kernel
theorem dL_law_691 : decode cL_law 691 = .ok (.invokestatic 119, 3) := by decide +kernel
theorem dL_law_694 : decode cL_law 694 = .ok (.baload, 1) := by decide +kernel
theorem dL_law_695 : decode cL_law 695 = .ok (.ifCond .eq 7, 3) := by decide +kernel
theorem dL_law_698 : decode cL_law 698 = .ok (.iconst 1, 1) := by decide +kernel
theorem dL_law_699 : decode cL_law 699 = .ok (.goto 4, 3) := by decide +kernel
theorem dL_law_702 : decode cL_law 702 = .ok (.iconst 0, 1) := by decide +kernel
theorem dL_law_703 : decode cL_law 703 = .ok (.istore 19, 2) := by decide +kernel
theorem dL_law_705 : decode cL_law 705 = .ok (.goto 10, 3) := by decide +kernel
theorem dL_law_708 : decode cL_law 708 = .ok (.iconst (-1), 1) := by decide +kernel
theorem dL_law_709 : decode cL_law 709 = .ok (.istore 15, 2) := by decide +kernel
theorem dL_law_711 : decode cL_law 711 = .ok (.bipush 99, 2) := by decide +kernel
theorem dL_law_713 : decode cL_law 713 = .ok (.istore 19, 2) := by decide +kernel
theorem dL_law_715 : decode cL_law 715 = .ok (.iload 6, 2) := by decide +kernel
theorem dL_law_717 : decode cL_law 717 = .ok (.aload_n 1, 1) := by decide +kernel
theorem dL_law_718 : decode cL_law 718 = .ok (.iload 16, 2) := by decide +kernel
theorem dL_law_720 : decode cL_law 720 = .ok (.invokestatic 127, 3) := by decide +kernel
theorem dL_law_723 : decode cL_law 723 = .ok (.iload 18, 2) := by decide +kernel
theorem dL_law_725 : decode cL_law 725 = .ok (.ifCond .eq 13, 3) := by decide +kernel
theorem dL_law_728 : decode cL_law 728 = .ok (.iload 15, 2) := by decide +kernel
theorem dL_law_730 : decode cL_law 730 = .ok (.ifCond .lt 8, 3) := by decide +kernel
theorem dL_law_733 : decode cL_law 733 = .ok (.iload 15, 2) := by decide +kernel
theorem dL_law_735 : decode cL_law 735 = .ok (.goto 5, 3) := by decide +kernel
theorem dL_law_738 : decode cL_law 738 = .ok (.ldc 20, 2) := by decide +kernel
theorem dL_law_740 : decode cL_law 740 = .ok (.if_icmp .ne 49, 3) := by decide +kernel
theorem dL_law_743 : decode cL_law 743 = .ok (.aload_n 1, 1) := by decide +kernel
theorem dL_law_744 : decode cL_law 744 = .ok (.iload 16, 2) := by decide +kernel
theorem dL_law_746 : decode cL_law 746 = .ok (.invokestatic 111, 3) := by decide +kernel
theorem dL_law_749 : decode cL_law 749 = .ok (.iload 20, 2) := by decide +kernel
theorem dL_law_751 : decode cL_law 751 = .ok (.iload 17, 2) := by decide +kernel
theorem dL_law_753 : decode cL_law 753 = .ok (.if_icmp .ne 8, 3) := by decide +kernel
theorem dL_law_756 : decode cL_law 756 = .ok (.bipush 100, 2) := by decide +kernel
theorem dL_law_758 : decode cL_law 758 = .ok (.goto 15, 3) := by decide +kernel
theorem dL_law_761 : decode cL_law 761 = .ok (.iload 18, 2) := by decide +kernel
theorem dL_law_763 : decode cL_law 763 = .ok (.ifCond .eq 8, 3) := by decide +kernel
theorem dL_law_766 : decode cL_law 766 = .ok (.bipush 119, 2) := by decide +kernel
theorem dL_law_768 : decode cL_law 768 = .ok (.goto 5, 3) := by decide +kernel
theorem dL_law_771 : decode cL_law 771 = .ok (.bipush 115, 2) := by decide +kernel
theorem dL_law_773 : decode cL_law 773 = .ok (.if_icmp .ne 16, 3) := by decide +kernel
theorem dL_law_776 : decode cL_law 776 = .ok (.aload_n 1, 1) := by decide +kernel
theorem dL_law_777 : decode cL_law 777 = .ok (.invokevirtual 140, 3) := by decide +kernel
theorem dL_law_780 : decode cL_law 780 = .ok (.iload 7, 2) := by decide +kernel
theorem dL_law_782 : decode cL_law 782 = .ok (.if_icmp .ne 7, 3) := by decide +kernel
theorem dL_law_785 : decode cL_law 785 = .ok (.iconst 1, 1) := by decide +kernel
theorem dL_law_786 : decode cL_law 786 = .ok (.goto 4, 3) := by decide +kernel
theorem dL_law_789 : decode cL_law 789 = .ok (.iconst 0, 1) := by decide +kernel
theorem dL_law_790 : decode cL_law 790 = .ok (.iand, 1) := by decide +kernel
theorem dL_law_791 : decode cL_law 791 = .ok (.istore 6, 2) := by decide +kernel
theorem dL_law_793 : decode cL_law 793 = .ok (.iinc 20 1, 3) := by decide +kernel
theorem dL_law_796 : decode cL_law 796 = .ok (.goto (-220), 3) := by decide +kernel
def f_L_law_b306 (sL : Nat) (xs : Nat → Int32) (K187 : me_M → Int32 → Int32 → Int32 → Int32 → Int32 → Int32 → Option (me_M × Int32)) (K259 : me_M → Int32 → Int32 → Int32 → Int32 → Int32 → Int32 → Int32 → Int32 → Int32 → Int32 → Int32 → Int32 → Option (me_M × Int32)) (μ : me_M) (v2 : Int32) (v4 : Int32) (v5 : Int32) (v6 : Int32) (v7 : Int32) (v8 : Int32) (v9 : Int32) (v10 : Int32) (v11 : Int32) (v12 : Int32) (v13 : Int32) (v15 : Int32) (v16 : Int32) (s0 : Int32) : Option (me_M × Int32) :=
  me_b2 (f_L_isAwake μ v16) (fun μ2 r1 =>
  if s0 = 0 then
  (me_lt ((v6 &&& (1 : Int32))) (fun x4 =>
  me_lt (me_inc v15 (1)) (fun x5 =>
  K259 μ2 v2 v4 v5 x4 v7 v8 v9 v10 v11 v12 v13 x5)))
  else
  (me_b2 (f_L_sleep μ2 v16) (fun μ7 r6 =>
  if r6 = r1 then
  (me_lt ((v6 &&& (1 : Int32))) (fun x11 =>
  me_lt (me_inc v15 (1)) (fun x12 =>
  K259 μ7 v2 v4 v5 x11 v7 v8 v9 v10 v11 v12 v13 x12)))
  else
  (me_lt ((v6 &&& (0 : Int32))) (fun x9 =>
  me_lt (me_inc v15 (1)) (fun x10 =>
  K259 μ7 v2 v4 v5 x9 v7 v8 v9 v10 v11 v12 v13 x10))))))
set_option maxHeartbeats 4000000 in
set_option maxRecDepth 100000 in
theorem z_L_law_b306 {X : me_X} {B : me_B} {ret0 : Option FieldType} {K0 q : Nat} {NR SR : Nat} {NB187 SB187 : Nat} {K187 : me_M → Int32 → Int32 → Int32 → Int32 → Int32 → Int32 → Option (me_M × Int32)} {NB259 SB259 : Nat} {K259 : me_M → Int32 → Int32 → Int32 → Int32 → Int32 → Int32 → Int32 → Int32 → Int32 → Int32 → Int32 → Int32 → Option (me_M × Int32)} {nc ns : Nat} {μ : me_M} {v2 : Int32} {v4 : Int32} {v5 : Int32} {v6 : Int32} {v7 : Int32} {v8 : Int32} {v9 : Int32} {v10 : Int32} {v11 : Int32} {v12 : Int32} {v13 : Int32} {v15 : Int32} {v16 : Int32} {s0 : Int32} {r : me_M × Int32} (C : me_C X (me_tb B K0 q) RL cL_law 23 ret0) (hroom : me_Rm X 12 462 618549 7246051) (hB : me_St (me_tb B K0 q)) (hz : ∀ k, 36 ≤ k → B.2.1 k = 0) (hJ0 : me_J B) (hk1 : K0 < 53) (hR : ∀ (nc ns : Nat), nc ≤ NR → ns ≤ SR → me_Z X B nc ns r.1 1316 [] [me_i r.2]) (hNR : NR ≤ 618549 ∧ SR ≤ 7246051) (hK187 : ∀ (nc ns : Nat) (μ : me_M) (v2 : Int32) (v4 : Int32) (v5 : Int32) (v6 : Int32) (v7 : Int32) (v8 : Int32), nc ≤ NB187 → ns ≤ SB187 → K187 μ v2 v4 v5 v6 v7 v8 = some r → me_Z X B nc ns μ 187 [(0, .inl (.ref (B.1 202 0))), (1, me_r 0 0), (2, me_i v2), (4, me_i v4), (5, me_i v5), (6, me_i v6), (7, me_i v7), (8, me_i v8)] []) (hN187 : NB187 ≤ 618549 ∧ SB187 ≤ 7246051) (hK259 : ∀ (nc ns : Nat) (μ : me_M) (v2 : Int32) (v4 : Int32) (v5 : Int32) (v6 : Int32) (v7 : Int32) (v8 : Int32) (v9 : Int32) (v10 : Int32) (v11 : Int32) (v12 : Int32) (v13 : Int32) (v15 : Int32), 36 + me_ix v4 = K0 → nc ≤ NB259 → ns ≤ SB259 → K259 μ v2 v4 v5 v6 v7 v8 v9 v10 v11 v12 v13 v15 = some r → me_Z X (me_tb B K0 q) nc ns μ 259 [(0, .inl (.ref (B.1 202 0))), (1, me_r 0 0), (2, me_i v2), (4, me_i v4), (5, me_i v5), (6, me_i v6), (7, me_i v7), (8, me_i v8), (9, me_i v9), (10, me_i v10), (11, me_i v11), (12, me_i v12), (13, me_i v13), (14, me_r K0 0), (15, me_i v15)] []) (hN259 : NB259 ≤ 618549 ∧ SB259 ≤ 7246051) (hk0 : 36 + me_ix v4 = K0) (hb259 : (nc + 3 ≤ NB259 ∧ ns + 18 ≤ SB259)) (hf : f_L_law_b306 B.2.2.2.1 B.2.2.2.2 K187 K259 μ v2 v4 v5 v6 v7 v8 v9 v10 v11 v12 v13 v15 v16 s0 = some r) : me_Z X (me_tb B K0 q) nc ns μ 306 [(0, .inl (.ref (B.1 202 0))), (1, me_r 0 0), (2, me_i v2), (4, me_i v4), (5, me_i v5), (6, me_i v6), (7, me_i v7), (8, me_i v8), (9, me_i v9), (10, me_i v10), (11, me_i v11), (12, me_i v12), (13, me_i v13), (14, me_r K0 0), (15, me_i v15), (16, me_i v16)] [me_i s0] := by
  subst hk0
  unfold f_L_law_b306 at hf
  refine me_istore C dL_law_306 (by decide) (L' := [(17, me_i s0), (0, .inl (.ref (B.1 202 0))), (1, me_r 0 0), (2, me_i v2), (4, me_i v4), (5, me_i v5), (6, me_i v6), (7, me_i v7), (8, me_i v8), (9, me_i v9), (10, me_i v10), (11, me_i v11), (12, me_i v12), (13, me_i v13), (14, me_r (36 + me_ix v4) 0), (15, me_i v15), (16, me_i v16)]) rfl ?_
  refine me_aload_n C 1 (Or.inr (Or.inl ⟨_, rfl⟩)) dL_law_308 rfl rfl ?_
  refine me_iload C dL_law_309 rfl ?_
  obtain ⟨μ2, r1, h_r1, hf⟩ := me_bs2 hf
  refine me_callSH C hroom (n := 2) (As := [me_r 0 0, me_i v16]) (st := []) (nc + 1) (ns + 6) (c_L_isAwake hB h_r1) mh_L_isAwake iL ⟨by decide +kernel, by decide +kernel⟩ (by decide +kernel) si_L_isAwake ml_L_115 dL_law_311 rfl rfl ⟨by decide, by decide⟩ ⟨by omega, by omega, by omega, by omega⟩ (Nat.le_of_ble_eq_true rfl) ?_
  refine me_istore C dL_law_314 (by decide) (L' := [(18, me_i r1), (17, me_i s0), (0, .inl (.ref (B.1 202 0))), (1, me_r 0 0), (2, me_i v2), (4, me_i v4), (5, me_i v5), (6, me_i v6), (7, me_i v7), (8, me_i v8), (9, me_i v9), (10, me_i v10), (11, me_i v11), (12, me_i v12), (13, me_i v13), (14, me_r (36 + me_ix v4) 0), (15, me_i v15), (16, me_i v16)]) rfl ?_
  refine me_iload C dL_law_316 rfl ?_
  refine me_iload C dL_law_318 rfl ?_
  refine me_if_eq C (tgt := 334) dL_law_320 (by decide) (fun c3 => ?_) (fun c3 => ?_)
  · replace hf := me_ip c3 hf
    refine me_iconst C (v := 1) dL_law_334 (by decide) ?_
    refine me_goto C (tgt := 339) dL_law_335 (by decide) ?_
    refine me_iand C dL_law_339 ?_
    obtain ⟨x4, e_x4, hf⟩ := me_lts hf
    refine me_nm e_x4 ?_
    refine me_istore C dL_law_340 (by decide) (L' := [(6, me_i x4), (18, me_i r1), (17, me_i s0), (0, .inl (.ref (B.1 202 0))), (1, me_r 0 0), (2, me_i v2), (4, me_i v4), (5, me_i v5), (7, me_i v7), (8, me_i v8), (9, me_i v9), (10, me_i v10), (11, me_i v11), (12, me_i v12), (13, me_i v13), (14, me_r (36 + me_ix v4) 0), (15, me_i v15), (16, me_i v16)]) rfl ?_
    obtain ⟨x5, e_x5, hf⟩ := me_lts hf
    refine me_iinc C (v := x5) (L' := [(15, me_i x5), (6, me_i x4), (18, me_i r1), (17, me_i s0), (0, .inl (.ref (B.1 202 0))), (1, me_r 0 0), (2, me_i v2), (4, me_i v4), (5, me_i v5), (7, me_i v7), (8, me_i v8), (9, me_i v9), (10, me_i v10), (11, me_i v11), (12, me_i v12), (13, me_i v13), (14, me_r (36 + me_ix v4) 0), (16, me_i v16)]) dL_law_342 rfl e_x5.symm (by decide) rfl ?_
    refine me_goto C (tgt := 259) dL_law_345 (by decide) ?_
    refine me_dropI [(0, .inl (.ref (B.1 202 0))), (1, me_r 0 0), (2, me_i v2), (4, me_i v4), (5, me_i v5), (6, me_i x4), (7, me_i v7), (8, me_i v8), (9, me_i v9), (10, me_i v10), (11, me_i v11), (12, me_i v12), (13, me_i v13), (14, me_r (36 + me_ix v4) 0), (15, me_i x5)] [4, 5, 6, 7, 8, 1, 9, 10, 11, 12, 13, 14, 15, 16, 0] rfl ?_
    exact hK259 (nc + 1) (ns + 6) μ2 v2 v4 v5 x4 v7 v8 v9 v10 v11 v12 v13 x5 rfl (by omega) (by omega) hf
  · replace hf := me_in c3 hf
    refine me_aload_n C 1 (Or.inr (Or.inl ⟨_, rfl⟩)) dL_law_323 rfl rfl ?_
    refine me_iload C dL_law_324 rfl ?_
    obtain ⟨μ7, r6, h_r6, hf⟩ := me_bs2 hf
    refine me_callSH C hroom (n := 2) (As := [me_r 0 0, me_i v16]) (st := [me_i v6]) (nc + 3) (ns + 18) (c_L_sleep hB h_r6) mh_L_sleep iL ⟨by decide +kernel, by decide +kernel⟩ (by decide +kernel) si_L_sleep ml_L_117 dL_law_326 rfl rfl ⟨by decide, by decide⟩ ⟨by omega, by omega, by omega, by omega⟩ (Nat.le_of_ble_eq_true rfl) ?_
    refine me_iload C dL_law_329 rfl ?_
    refine me_icmp_ne C (tgt := 338) dL_law_331 (by decide) (fun c8 => ?_) (fun c8 => ?_)
    · replace hf := me_in c8 hf
      refine me_iconst C (v := 0) dL_law_338 (by decide) ?_
      refine me_iand C dL_law_339 ?_
      obtain ⟨x9, e_x9, hf⟩ := me_lts hf
      refine me_nm e_x9 ?_
      refine me_istore C dL_law_340 (by decide) (L' := [(6, me_i x9), (18, me_i r1), (17, me_i s0), (0, .inl (.ref (B.1 202 0))), (1, me_r 0 0), (2, me_i v2), (4, me_i v4), (5, me_i v5), (7, me_i v7), (8, me_i v8), (9, me_i v9), (10, me_i v10), (11, me_i v11), (12, me_i v12), (13, me_i v13), (14, me_r (36 + me_ix v4) 0), (15, me_i v15), (16, me_i v16)]) rfl ?_
      obtain ⟨x10, e_x10, hf⟩ := me_lts hf
      refine me_iinc C (v := x10) (L' := [(15, me_i x10), (6, me_i x9), (18, me_i r1), (17, me_i s0), (0, .inl (.ref (B.1 202 0))), (1, me_r 0 0), (2, me_i v2), (4, me_i v4), (5, me_i v5), (7, me_i v7), (8, me_i v8), (9, me_i v9), (10, me_i v10), (11, me_i v11), (12, me_i v12), (13, me_i v13), (14, me_r (36 + me_ix v4) 0), (16, me_i v16)]) dL_law_342 rfl e_x10.symm (by decide) rfl ?_
      refine me_goto C (tgt := 259) dL_law_345 (by decide) ?_
      refine me_dropI [(0, .inl (.ref (B.1 202 0))), (1, me_r 0 0), (2, me_i v2), (4, me_i v4), (5, me_i v5), (6, me_i x9), (7, me_i v7), (8, me_i v8), (9, me_i v9), (10, me_i v10), (11, me_i v11), (12, me_i v12), (13, me_i v13), (14, me_r (36 + me_ix v4) 0), (15, me_i x10)] [4, 5, 6, 7, 8, 1, 9, 10, 11, 12, 13, 14, 15, 16, 0] rfl ?_
      exact hK259 (nc + 3) (ns + 18) μ7 v2 v4 v5 x9 v7 v8 v9 v10 v11 v12 v13 x10 rfl (by omega) (by omega) hf
    · replace hf := me_ip c8 hf
      refine me_iconst C (v := 1) dL_law_334 (by decide) ?_
      refine me_goto C (tgt := 339) dL_law_335 (by decide) ?_
      refine me_iand C dL_law_339 ?_
      obtain ⟨x11, e_x11, hf⟩ := me_lts hf
      refine me_nm e_x11 ?_
      refine me_istore C dL_law_340 (by decide) (L' := [(6, me_i x11), (18, me_i r1), (17, me_i s0), (0, .inl (.ref (B.1 202 0))), (1, me_r 0 0), (2, me_i v2), (4, me_i v4), (5, me_i v5), (7, me_i v7), (8, me_i v8), (9, me_i v9), (10, me_i v10), (11, me_i v11), (12, me_i v12), (13, me_i v13), (14, me_r (36 + me_ix v4) 0), (15, me_i v15), (16, me_i v16)]) rfl ?_
      obtain ⟨x12, e_x12, hf⟩ := me_lts hf
      refine me_iinc C (v := x12) (L' := [(15, me_i x12), (6, me_i x11), (18, me_i r1), (17, me_i s0), (0, .inl (.ref (B.1 202 0))), (1, me_r 0 0), (2, me_i v2), (4, me_i v4), (5, me_i v5), (7, me_i v7), (8, me_i v8), (9, me_i v9), (10, me_i v10), (11, me_i v11), (12, me_i v12), (13, me_i v13), (14, me_r (36 + me_ix v4) 0), (16, me_i v16)]) dL_law_342 rfl e_x12.symm (by decide) rfl ?_
      refine me_goto C (tgt := 259) dL_law_345 (by decide) ?_
      refine me_dropI [(0, .inl (.ref (B.1 202 0))), (1, me_r 0 0), (2, me_i v2), (4, me_i v4), (5, me_i v5), (6, me_i x11), (7, me_i v7), (8, me_i v8), (9, me_i v9), (10, me_i v10), (11, me_i v11), (12, me_i v12), (13, me_i v13), (14, me_r (36 + me_ix v4) 0), (15, me_i x12)] [4, 5, 6, 7, 8, 1, 9, 10, 11, 12, 13, 14, 15, 16, 0] rfl ?_
      exact hK259 (nc + 3) (ns + 18) μ7 v2 v4 v5 x11 v7 v8 v9 v10 v11 v12 v13 x12 rfl (by omega) (by omega) hf
def f_L_law_b773 (sL : Nat) (xs : Nat → Int32) (K187 : me_M → Int32 → Int32 → Int32 → Int32 → Int32 → Int32 → Option (me_M × Int32)) (K576 : me_M → Int32 → Int32 → Int32 → Int32 → Int32 → Int32 → Int32 → Int32 → Int32 → Int32 → Int32 → Int32 → Int32 → Int32 → Option (me_M × Int32)) (μ : me_M) (v2 : Int32) (v4 : Int32) (v5 : Int32) (v7 : Int32) (v8 : Int32) (v9 : Int32) (v10 : Int32) (v15 : Int32) (v16 : Int32) (v17 : Int32) (v18 : Int32) (v19 : Int32) (v20 : Int32) (s0 : Int32) (s1 : Int32) (s2 : Int32) : Option (me_M × Int32) :=
  if s1 = s0 then
  (me_bd (f_Y_beat μ) (fun r4 =>
  if r4 = v7 then
  (me_lt ((s2 &&& (1 : Int32))) (fun x8 =>
  me_lt (me_inc v20 (1)) (fun x9 =>
  K576 μ v2 v4 v5 x8 v7 v8 v9 v10 v15 v16 v17 v18 v19 x9)))
  else
  (me_lt ((s2 &&& (0 : Int32))) (fun x6 =>
  me_lt (me_inc v20 (1)) (fun x7 =>
  K576 μ v2 v4 v5 x6 v7 v8 v9 v10 v15 v16 v17 v18 v19 x7)))))
  else
  (me_lt ((s2 &&& (0 : Int32))) (fun x2 =>
  me_lt (me_inc v20 (1)) (fun x3 =>
  K576 μ v2 v4 v5 x2 v7 v8 v9 v10 v15 v16 v17 v18 v19 x3)))
set_option maxHeartbeats 4000000 in
set_option maxRecDepth 100000 in
theorem z_L_law_b773 {X : me_X} {B : me_B} {ret0 : Option FieldType} {K0 q : Nat} {NR SR : Nat} {NB187 SB187 : Nat} {K187 : me_M → Int32 → Int32 → Int32 → Int32 → Int32 → Int32 → Option (me_M × Int32)} {NB576 SB576 : Nat} {K576 : me_M → Int32 → Int32 → Int32 → Int32 → Int32 → Int32 → Int32 → Int32 → Int32 → Int32 → Int32 → Int32 → Int32 → Int32 → Option (me_M × Int32)} {nc ns : Nat} {μ : me_M} {v2 : Int32} {v4 : Int32} {v5 : Int32} {v7 : Int32} {v8 : Int32} {v9 : Int32} {v10 : Int32} {v15 : Int32} {v16 : Int32} {v17 : Int32} {v18 : Int32} {v19 : Int32} {v20 : Int32} {s0 : Int32} {s1 : Int32} {s2 : Int32} {r : me_M × Int32} (C : me_C X (me_tb B K0 q) RL cL_law 23 ret0) (hroom : me_Rm X 12 462 618549 7246051) (hB : me_St (me_tb B K0 q)) (hz : ∀ k, 36 ≤ k → B.2.1 k = 0) (hJ0 : me_J B) (hk1 : K0 < 53) (hR : ∀ (nc ns : Nat), nc ≤ NR → ns ≤ SR → me_Z X B nc ns r.1 1316 [] [me_i r.2]) (hNR : NR ≤ 618549 ∧ SR ≤ 7246051) (hK187 : ∀ (nc ns : Nat) (μ : me_M) (v2 : Int32) (v4 : Int32) (v5 : Int32) (v6 : Int32) (v7 : Int32) (v8 : Int32), nc ≤ NB187 → ns ≤ SB187 → K187 μ v2 v4 v5 v6 v7 v8 = some r → me_Z X B nc ns μ 187 [(0, .inl (.ref (B.1 202 0))), (1, me_r 0 0), (2, me_i v2), (4, me_i v4), (5, me_i v5), (6, me_i v6), (7, me_i v7), (8, me_i v8)] []) (hN187 : NB187 ≤ 618549 ∧ SB187 ≤ 7246051) (hK576 : ∀ (nc ns : Nat) (μ : me_M) (v2 : Int32) (v4 : Int32) (v5 : Int32) (v6 : Int32) (v7 : Int32) (v8 : Int32) (v9 : Int32) (v10 : Int32) (v15 : Int32) (v16 : Int32) (v17 : Int32) (v18 : Int32) (v19 : Int32) (v20 : Int32), 36 + me_ix v4 = K0 → nc ≤ NB576 → ns ≤ SB576 → K576 μ v2 v4 v5 v6 v7 v8 v9 v10 v15 v16 v17 v18 v19 v20 = some r → me_Z X (me_tb B K0 q) nc ns μ 576 [(0, .inl (.ref (B.1 202 0))), (1, me_r 0 0), (2, me_i v2), (4, me_i v4), (5, me_i v5), (6, me_i v6), (7, me_i v7), (8, me_i v8), (9, me_i v9), (10, me_i v10), (14, me_r K0 0), (15, me_i v15), (16, me_i v16), (17, me_i v17), (18, me_i v18), (19, me_i v19), (20, me_i v20)] []) (hN576 : NB576 ≤ 618549 ∧ SB576 ≤ 7246051) (hk0 : 36 + me_ix v4 = K0) (hb576 : (nc + 0 ≤ NB576 ∧ ns + 0 ≤ SB576)) (hf : f_L_law_b773 B.2.2.2.1 B.2.2.2.2 K187 K576 μ v2 v4 v5 v7 v8 v9 v10 v15 v16 v17 v18 v19 v20 s0 s1 s2 = some r) : me_Z X (me_tb B K0 q) nc ns μ 773 [(0, .inl (.ref (B.1 202 0))), (1, me_r 0 0), (2, me_i v2), (4, me_i v4), (5, me_i v5), (7, me_i v7), (8, me_i v8), (9, me_i v9), (10, me_i v10), (14, me_r K0 0), (15, me_i v15), (16, me_i v16), (17, me_i v17), (18, me_i v18), (19, me_i v19), (20, me_i v20)] [me_i s0, me_i s1, me_i s2] := by
  subst hk0
  unfold f_L_law_b773 at hf
  refine me_icmp_ne C (tgt := 789) dL_law_773 (by decide) (fun c1 => ?_) (fun c1 => ?_)
  · replace hf := me_in c1 hf
    refine me_iconst C (v := 0) dL_law_789 (by decide) ?_
    refine me_iand C dL_law_790 ?_
    obtain ⟨x2, e_x2, hf⟩ := me_lts hf
    refine me_nm e_x2 ?_
    refine me_istore C dL_law_791 (by decide) (L' := [(6, me_i x2), (0, .inl (.ref (B.1 202 0))), (1, me_r 0 0), (2, me_i v2), (4, me_i v4), (5, me_i v5), (7, me_i v7), (8, me_i v8), (9, me_i v9), (10, me_i v10), (14, me_r (36 + me_ix v4) 0), (15, me_i v15), (16, me_i v16), (17, me_i v17), (18, me_i v18), (19, me_i v19), (20, me_i v20)]) rfl ?_
    obtain ⟨x3, e_x3, hf⟩ := me_lts hf
    refine me_iinc C (v := x3) (L' := [(20, me_i x3), (6, me_i x2), (0, .inl (.ref (B.1 202 0))), (1, me_r 0 0), (2, me_i v2), (4, me_i v4), (5, me_i v5), (7, me_i v7), (8, me_i v8), (9, me_i v9), (10, me_i v10), (14, me_r (36 + me_ix v4) 0), (15, me_i v15), (16, me_i v16), (17, me_i v17), (18, me_i v18), (19, me_i v19)]) dL_law_793 rfl e_x3.symm (by decide) rfl ?_
    refine me_goto C (tgt := 576) dL_law_796 (by decide) ?_
    refine me_dropI [(0, .inl (.ref (B.1 202 0))), (1, me_r 0 0), (2, me_i v2), (4, me_i v4), (5, me_i v5), (6, me_i x2), (7, me_i v7), (8, me_i v8), (9, me_i v9), (10, me_i v10), (14, me_r (36 + me_ix v4) 0), (15, me_i v15), (16, me_i v16), (17, me_i v17), (18, me_i v18), (19, me_i v19), (20, me_i x3)] [2, 3, 4, 5, 6, 1, 7, 8, 9, 10, 11, 12, 13, 14, 15, 16, 0] rfl ?_
    exact hK576 nc ns μ v2 v4 v5 x2 v7 v8 v9 v10 v15 v16 v17 v18 v19 x3 rfl (by omega) (by omega) hf
  · replace hf := me_ip c1 hf
    refine me_aload_n C 1 (Or.inr (Or.inl ⟨_, rfl⟩)) dL_law_776 rfl rfl ?_
    obtain ⟨r4, h_r4, hf⟩ := me_bs hf
    refine me_callVR C hroom (As := []) (st := [me_i s2]) nc ns (c_Y_beat hB h_r4) mv_Y_beat ml_L_140 rfl rfl dL_law_777 rfl rfl ⟨by decide, by decide⟩ ⟨by omega, by omega, by omega, by omega⟩ (Nat.le_of_ble_eq_true rfl) ?_
    refine me_iload C dL_law_780 rfl ?_
    refine me_icmp_ne C (tgt := 789) dL_law_782 (by decide) (fun c5 => ?_) (fun c5 => ?_)
    · replace hf := me_in c5 hf
      refine me_iconst C (v := 0) dL_law_789 (by decide) ?_
      refine me_iand C dL_law_790 ?_
      obtain ⟨x6, e_x6, hf⟩ := me_lts hf
      refine me_nm e_x6 ?_
      refine me_istore C dL_law_791 (by decide) (L' := [(6, me_i x6), (0, .inl (.ref (B.1 202 0))), (1, me_r 0 0), (2, me_i v2), (4, me_i v4), (5, me_i v5), (7, me_i v7), (8, me_i v8), (9, me_i v9), (10, me_i v10), (14, me_r (36 + me_ix v4) 0), (15, me_i v15), (16, me_i v16), (17, me_i v17), (18, me_i v18), (19, me_i v19), (20, me_i v20)]) rfl ?_
      obtain ⟨x7, e_x7, hf⟩ := me_lts hf
      refine me_iinc C (v := x7) (L' := [(20, me_i x7), (6, me_i x6), (0, .inl (.ref (B.1 202 0))), (1, me_r 0 0), (2, me_i v2), (4, me_i v4), (5, me_i v5), (7, me_i v7), (8, me_i v8), (9, me_i v9), (10, me_i v10), (14, me_r (36 + me_ix v4) 0), (15, me_i v15), (16, me_i v16), (17, me_i v17), (18, me_i v18), (19, me_i v19)]) dL_law_793 rfl e_x7.symm (by decide) rfl ?_
      refine me_goto C (tgt := 576) dL_law_796 (by decide) ?_
      refine me_dropI [(0, .inl (.ref (B.1 202 0))), (1, me_r 0 0), (2, me_i v2), (4, me_i v4), (5, me_i v5), (6, me_i x6), (7, me_i v7), (8, me_i v8), (9, me_i v9), (10, me_i v10), (14, me_r (36 + me_ix v4) 0), (15, me_i v15), (16, me_i v16), (17, me_i v17), (18, me_i v18), (19, me_i v19), (20, me_i x7)] [2, 3, 4, 5, 6, 1, 7, 8, 9, 10, 11, 12, 13, 14, 15, 16, 0] rfl ?_
      exact hK576 nc ns μ v2 v4 v5 x6 v7 v8 v9 v10 v15 v16 v17 v18 v19 x7 rfl (by omega) (by omega) hf
    · replace hf := me_ip c5 hf
      refine me_iconst C (v := 1) dL_law_785 (by decide) ?_
      refine me_goto C (tgt := 790) dL_law_786 (by decide) ?_
      refine me_iand C dL_law_790 ?_
      obtain ⟨x8, e_x8, hf⟩ := me_lts hf
      refine me_nm e_x8 ?_
      refine me_istore C dL_law_791 (by decide) (L' := [(6, me_i x8), (0, .inl (.ref (B.1 202 0))), (1, me_r 0 0), (2, me_i v2), (4, me_i v4), (5, me_i v5), (7, me_i v7), (8, me_i v8), (9, me_i v9), (10, me_i v10), (14, me_r (36 + me_ix v4) 0), (15, me_i v15), (16, me_i v16), (17, me_i v17), (18, me_i v18), (19, me_i v19), (20, me_i v20)]) rfl ?_
      obtain ⟨x9, e_x9, hf⟩ := me_lts hf
      refine me_iinc C (v := x9) (L' := [(20, me_i x9), (6, me_i x8), (0, .inl (.ref (B.1 202 0))), (1, me_r 0 0), (2, me_i v2), (4, me_i v4), (5, me_i v5), (7, me_i v7), (8, me_i v8), (9, me_i v9), (10, me_i v10), (14, me_r (36 + me_ix v4) 0), (15, me_i v15), (16, me_i v16), (17, me_i v17), (18, me_i v18), (19, me_i v19)]) dL_law_793 rfl e_x9.symm (by decide) rfl ?_
      refine me_goto C (tgt := 576) dL_law_796 (by decide) ?_
      refine me_dropI [(0, .inl (.ref (B.1 202 0))), (1, me_r 0 0), (2, me_i v2), (4, me_i v4), (5, me_i v5), (6, me_i x8), (7, me_i v7), (8, me_i v8), (9, me_i v9), (10, me_i v10), (14, me_r (36 + me_ix v4) 0), (15, me_i v15), (16, me_i v16), (17, me_i v17), (18, me_i v18), (19, me_i v19), (20, me_i x9)] [2, 3, 4, 5, 6, 1, 7, 8, 9, 10, 11, 12, 13, 14, 15, 16, 0] rfl ?_
      exact hK576 nc ns μ v2 v4 v5 x8 v7 v8 v9 v10 v15 v16 v17 v18 v19 x9 rfl (by omega) (by omega) hf
def f_L_law_b740 (sL : Nat) (xs : Nat → Int32) (K187 : me_M → Int32 → Int32 → Int32 → Int32 → Int32 → Int32 → Option (me_M × Int32)) (K576 : me_M → Int32 → Int32 → Int32 → Int32 → Int32 → Int32 → Int32 → Int32 → Int32 → Int32 → Int32 → Int32 → Int32 → Int32 → Option (me_M × Int32)) (μ : me_M) (v2 : Int32) (v4 : Int32) (v5 : Int32) (v7 : Int32) (v8 : Int32) (v9 : Int32) (v10 : Int32) (v15 : Int32) (v16 : Int32) (v17 : Int32) (v18 : Int32) (v19 : Int32) (v20 : Int32) (s0 : Int32) (s1 : Int32) (s2 : Int32) : Option (me_M × Int32) :=
  if s1 = s0 then
  (me_b2 (f_L_state μ v16) (fun μ5 r4 =>
  if v20 = v17 then
  (f_L_law_b773 sL xs K187 K576 μ5 v2 v4 v5 v7 v8 v9 v10 v15 v16 v17 v18 v19 v20 (100 : Int32) r4 s2)
  else
  (if v18 = 0 then
  (f_L_law_b773 sL xs K187 K576 μ5 v2 v4 v5 v7 v8 v9 v10 v15 v16 v17 v18 v19 v20 (115 : Int32) r4 s2)
  else
  (f_L_law_b773 sL xs K187 K576 μ5 v2 v4 v5 v7 v8 v9 v10 v15 v16 v17 v18 v19 v20 (119 : Int32) r4 s2))))
  else
  (me_lt ((s2 &&& (0 : Int32))) (fun x2 =>
  me_lt (me_inc v20 (1)) (fun x3 =>
  K576 μ v2 v4 v5 x2 v7 v8 v9 v10 v15 v16 v17 v18 v19 x3)))
set_option maxHeartbeats 4000000 in
set_option maxRecDepth 100000 in
theorem z_L_law_b740 {X : me_X} {B : me_B} {ret0 : Option FieldType} {K0 q : Nat} {NR SR : Nat} {NB187 SB187 : Nat} {K187 : me_M → Int32 → Int32 → Int32 → Int32 → Int32 → Int32 → Option (me_M × Int32)} {NB576 SB576 : Nat} {K576 : me_M → Int32 → Int32 → Int32 → Int32 → Int32 → Int32 → Int32 → Int32 → Int32 → Int32 → Int32 → Int32 → Int32 → Int32 → Option (me_M × Int32)} {nc ns : Nat} {μ : me_M} {v2 : Int32} {v4 : Int32} {v5 : Int32} {v7 : Int32} {v8 : Int32} {v9 : Int32} {v10 : Int32} {v15 : Int32} {v16 : Int32} {v17 : Int32} {v18 : Int32} {v19 : Int32} {v20 : Int32} {s0 : Int32} {s1 : Int32} {s2 : Int32} {r : me_M × Int32} (C : me_C X (me_tb B K0 q) RL cL_law 23 ret0) (hroom : me_Rm X 12 462 618549 7246051) (hB : me_St (me_tb B K0 q)) (hz : ∀ k, 36 ≤ k → B.2.1 k = 0) (hJ0 : me_J B) (hk1 : K0 < 53) (hR : ∀ (nc ns : Nat), nc ≤ NR → ns ≤ SR → me_Z X B nc ns r.1 1316 [] [me_i r.2]) (hNR : NR ≤ 618549 ∧ SR ≤ 7246051) (hK187 : ∀ (nc ns : Nat) (μ : me_M) (v2 : Int32) (v4 : Int32) (v5 : Int32) (v6 : Int32) (v7 : Int32) (v8 : Int32), nc ≤ NB187 → ns ≤ SB187 → K187 μ v2 v4 v5 v6 v7 v8 = some r → me_Z X B nc ns μ 187 [(0, .inl (.ref (B.1 202 0))), (1, me_r 0 0), (2, me_i v2), (4, me_i v4), (5, me_i v5), (6, me_i v6), (7, me_i v7), (8, me_i v8)] []) (hN187 : NB187 ≤ 618549 ∧ SB187 ≤ 7246051) (hK576 : ∀ (nc ns : Nat) (μ : me_M) (v2 : Int32) (v4 : Int32) (v5 : Int32) (v6 : Int32) (v7 : Int32) (v8 : Int32) (v9 : Int32) (v10 : Int32) (v15 : Int32) (v16 : Int32) (v17 : Int32) (v18 : Int32) (v19 : Int32) (v20 : Int32), 36 + me_ix v4 = K0 → nc ≤ NB576 → ns ≤ SB576 → K576 μ v2 v4 v5 v6 v7 v8 v9 v10 v15 v16 v17 v18 v19 v20 = some r → me_Z X (me_tb B K0 q) nc ns μ 576 [(0, .inl (.ref (B.1 202 0))), (1, me_r 0 0), (2, me_i v2), (4, me_i v4), (5, me_i v5), (6, me_i v6), (7, me_i v7), (8, me_i v8), (9, me_i v9), (10, me_i v10), (14, me_r K0 0), (15, me_i v15), (16, me_i v16), (17, me_i v17), (18, me_i v18), (19, me_i v19), (20, me_i v20)] []) (hN576 : NB576 ≤ 618549 ∧ SB576 ≤ 7246051) (hk0 : 36 + me_ix v4 = K0) (hb576 : (nc + 1 ≤ NB576 ∧ ns + 6 ≤ SB576)) (hf : f_L_law_b740 B.2.2.2.1 B.2.2.2.2 K187 K576 μ v2 v4 v5 v7 v8 v9 v10 v15 v16 v17 v18 v19 v20 s0 s1 s2 = some r) : me_Z X (me_tb B K0 q) nc ns μ 740 [(0, .inl (.ref (B.1 202 0))), (1, me_r 0 0), (2, me_i v2), (4, me_i v4), (5, me_i v5), (7, me_i v7), (8, me_i v8), (9, me_i v9), (10, me_i v10), (14, me_r K0 0), (15, me_i v15), (16, me_i v16), (17, me_i v17), (18, me_i v18), (19, me_i v19), (20, me_i v20)] [me_i s0, me_i s1, me_i s2] := by
  subst hk0
  unfold f_L_law_b740 at hf
  refine me_icmp_ne C (tgt := 789) dL_law_740 (by decide) (fun c1 => ?_) (fun c1 => ?_)
  · replace hf := me_in c1 hf
    refine me_iconst C (v := 0) dL_law_789 (by decide) ?_
    refine me_iand C dL_law_790 ?_
    obtain ⟨x2, e_x2, hf⟩ := me_lts hf
    refine me_nm e_x2 ?_
    refine me_istore C dL_law_791 (by decide) (L' := [(6, me_i x2), (0, .inl (.ref (B.1 202 0))), (1, me_r 0 0), (2, me_i v2), (4, me_i v4), (5, me_i v5), (7, me_i v7), (8, me_i v8), (9, me_i v9), (10, me_i v10), (14, me_r (36 + me_ix v4) 0), (15, me_i v15), (16, me_i v16), (17, me_i v17), (18, me_i v18), (19, me_i v19), (20, me_i v20)]) rfl ?_
    obtain ⟨x3, e_x3, hf⟩ := me_lts hf
    refine me_iinc C (v := x3) (L' := [(20, me_i x3), (6, me_i x2), (0, .inl (.ref (B.1 202 0))), (1, me_r 0 0), (2, me_i v2), (4, me_i v4), (5, me_i v5), (7, me_i v7), (8, me_i v8), (9, me_i v9), (10, me_i v10), (14, me_r (36 + me_ix v4) 0), (15, me_i v15), (16, me_i v16), (17, me_i v17), (18, me_i v18), (19, me_i v19)]) dL_law_793 rfl e_x3.symm (by decide) rfl ?_
    refine me_goto C (tgt := 576) dL_law_796 (by decide) ?_
    refine me_dropI [(0, .inl (.ref (B.1 202 0))), (1, me_r 0 0), (2, me_i v2), (4, me_i v4), (5, me_i v5), (6, me_i x2), (7, me_i v7), (8, me_i v8), (9, me_i v9), (10, me_i v10), (14, me_r (36 + me_ix v4) 0), (15, me_i v15), (16, me_i v16), (17, me_i v17), (18, me_i v18), (19, me_i v19), (20, me_i x3)] [2, 3, 4, 5, 6, 1, 7, 8, 9, 10, 11, 12, 13, 14, 15, 16, 0] rfl ?_
    exact hK576 nc ns μ v2 v4 v5 x2 v7 v8 v9 v10 v15 v16 v17 v18 v19 x3 rfl (by omega) (by omega) hf
  · replace hf := me_ip c1 hf
    refine me_aload_n C 1 (Or.inr (Or.inl ⟨_, rfl⟩)) dL_law_743 rfl rfl ?_
    refine me_iload C dL_law_744 rfl ?_
    obtain ⟨μ5, r4, h_r4, hf⟩ := me_bs2 hf
    refine me_callSH C hroom (n := 2) (As := [me_r 0 0, me_i v16]) (st := [me_i s2]) (nc + 1) (ns + 6) (c_L_state hB h_r4) mh_L_state iL ⟨by decide +kernel, by decide +kernel⟩ (by decide +kernel) si_L_state ml_L_111 dL_law_746 rfl rfl ⟨by decide, by decide⟩ ⟨by omega, by omega, by omega, by omega⟩ (Nat.le_of_ble_eq_true rfl) ?_
    refine me_iload C dL_law_749 rfl ?_
    refine me_iload C dL_law_751 rfl ?_
    refine me_icmp_ne C (tgt := 761) dL_law_753 (by decide) (fun c6 => ?_) (fun c6 => ?_)
    · replace hf := me_in c6 hf
      refine me_iload C dL_law_761 rfl ?_
      refine me_if_eq C (tgt := 771) dL_law_763 (by decide) (fun c7 => ?_) (fun c7 => ?_)
      · replace hf := me_ip c7 hf
        refine me_bipush C (v := 115) dL_law_771 (by decide) ?_
        refine me_dropI [(0, .inl (.ref (B.1 202 0))), (1, me_r 0 0), (2, me_i v2), (4, me_i v4), (5, me_i v5), (7, me_i v7), (8, me_i v8), (9, me_i v9), (10, me_i v10), (14, me_r (36 + me_ix v4) 0), (15, me_i v15), (16, me_i v16), (17, me_i v17), (18, me_i v18), (19, me_i v19), (20, me_i v20)] [0, 1, 2, 3, 4, 5, 6, 7, 8, 9, 10, 11, 12, 13, 14, 15] rfl ?_
        exact z_L_law_b773 C hroom hB hz hJ0 hk1 hR hNR hK187 hN187 hK576 hN576 (nc := (nc + 1)) (ns := (ns + 6)) rfl ⟨by omega, by omega⟩ hf
      · replace hf := me_in c7 hf
        refine me_bipush C (v := 119) dL_law_766 (by decide) ?_
        refine me_goto C (tgt := 773) dL_law_768 (by decide) ?_
        refine me_dropI [(0, .inl (.ref (B.1 202 0))), (1, me_r 0 0), (2, me_i v2), (4, me_i v4), (5, me_i v5), (7, me_i v7), (8, me_i v8), (9, me_i v9), (10, me_i v10), (14, me_r (36 + me_ix v4) 0), (15, me_i v15), (16, me_i v16), (17, me_i v17), (18, me_i v18), (19, me_i v19), (20, me_i v20)] [0, 1, 2, 3, 4, 5, 6, 7, 8, 9, 10, 11, 12, 13, 14, 15] rfl ?_
        exact z_L_law_b773 C hroom hB hz hJ0 hk1 hR hNR hK187 hN187 hK576 hN576 (nc := (nc + 1)) (ns := (ns + 6)) rfl ⟨by omega, by omega⟩ hf
    · replace hf := me_ip c6 hf
      refine me_bipush C (v := 100) dL_law_756 (by decide) ?_
      refine me_goto C (tgt := 773) dL_law_758 (by decide) ?_
      refine me_dropI [(0, .inl (.ref (B.1 202 0))), (1, me_r 0 0), (2, me_i v2), (4, me_i v4), (5, me_i v5), (7, me_i v7), (8, me_i v8), (9, me_i v9), (10, me_i v10), (14, me_r (36 + me_ix v4) 0), (15, me_i v15), (16, me_i v16), (17, me_i v17), (18, me_i v18), (19, me_i v19), (20, me_i v20)] [0, 1, 2, 3, 4, 5, 6, 7, 8, 9, 10, 11, 12, 13, 14, 15] rfl ?_
      exact z_L_law_b773 C hroom hB hz hJ0 hk1 hR hNR hK187 hN187 hK576 hN576 (nc := (nc + 1)) (ns := (ns + 6)) rfl ⟨by omega, by omega⟩ hf
def f_L_law_b738 (sL : Nat) (xs : Nat → Int32) (K187 : me_M → Int32 → Int32 → Int32 → Int32 → Int32 → Int32 → Option (me_M × Int32)) (K576 : me_M → Int32 → Int32 → Int32 → Int32 → Int32 → Int32 → Int32 → Int32 → Int32 → Int32 → Int32 → Int32 → Int32 → Int32 → Option (me_M × Int32)) (μ : me_M) (v2 : Int32) (v4 : Int32) (v5 : Int32) (v7 : Int32) (v8 : Int32) (v9 : Int32) (v10 : Int32) (v15 : Int32) (v16 : Int32) (v17 : Int32) (v18 : Int32) (v19 : Int32) (v20 : Int32) (s0 : Int32) (s1 : Int32) : Option (me_M × Int32) :=
  f_L_law_b740 sL xs K187 K576 μ v2 v4 v5 v7 v8 v9 v10 v15 v16 v17 v18 v19 v20 (-900002 : Int32) s0 s1
set_option maxHeartbeats 4000000 in
set_option maxRecDepth 100000 in
theorem z_L_law_b738 {X : me_X} {B : me_B} {ret0 : Option FieldType} {K0 q : Nat} {NR SR : Nat} {NB187 SB187 : Nat} {K187 : me_M → Int32 → Int32 → Int32 → Int32 → Int32 → Int32 → Option (me_M × Int32)} {NB576 SB576 : Nat} {K576 : me_M → Int32 → Int32 → Int32 → Int32 → Int32 → Int32 → Int32 → Int32 → Int32 → Int32 → Int32 → Int32 → Int32 → Int32 → Option (me_M × Int32)} {nc ns : Nat} {μ : me_M} {v2 : Int32} {v4 : Int32} {v5 : Int32} {v7 : Int32} {v8 : Int32} {v9 : Int32} {v10 : Int32} {v15 : Int32} {v16 : Int32} {v17 : Int32} {v18 : Int32} {v19 : Int32} {v20 : Int32} {s0 : Int32} {s1 : Int32} {r : me_M × Int32} (C : me_C X (me_tb B K0 q) RL cL_law 23 ret0) (hroom : me_Rm X 12 462 618549 7246051) (hB : me_St (me_tb B K0 q)) (hz : ∀ k, 36 ≤ k → B.2.1 k = 0) (hJ0 : me_J B) (hk1 : K0 < 53) (hR : ∀ (nc ns : Nat), nc ≤ NR → ns ≤ SR → me_Z X B nc ns r.1 1316 [] [me_i r.2]) (hNR : NR ≤ 618549 ∧ SR ≤ 7246051) (hK187 : ∀ (nc ns : Nat) (μ : me_M) (v2 : Int32) (v4 : Int32) (v5 : Int32) (v6 : Int32) (v7 : Int32) (v8 : Int32), nc ≤ NB187 → ns ≤ SB187 → K187 μ v2 v4 v5 v6 v7 v8 = some r → me_Z X B nc ns μ 187 [(0, .inl (.ref (B.1 202 0))), (1, me_r 0 0), (2, me_i v2), (4, me_i v4), (5, me_i v5), (6, me_i v6), (7, me_i v7), (8, me_i v8)] []) (hN187 : NB187 ≤ 618549 ∧ SB187 ≤ 7246051) (hK576 : ∀ (nc ns : Nat) (μ : me_M) (v2 : Int32) (v4 : Int32) (v5 : Int32) (v6 : Int32) (v7 : Int32) (v8 : Int32) (v9 : Int32) (v10 : Int32) (v15 : Int32) (v16 : Int32) (v17 : Int32) (v18 : Int32) (v19 : Int32) (v20 : Int32), 36 + me_ix v4 = K0 → nc ≤ NB576 → ns ≤ SB576 → K576 μ v2 v4 v5 v6 v7 v8 v9 v10 v15 v16 v17 v18 v19 v20 = some r → me_Z X (me_tb B K0 q) nc ns μ 576 [(0, .inl (.ref (B.1 202 0))), (1, me_r 0 0), (2, me_i v2), (4, me_i v4), (5, me_i v5), (6, me_i v6), (7, me_i v7), (8, me_i v8), (9, me_i v9), (10, me_i v10), (14, me_r K0 0), (15, me_i v15), (16, me_i v16), (17, me_i v17), (18, me_i v18), (19, me_i v19), (20, me_i v20)] []) (hN576 : NB576 ≤ 618549 ∧ SB576 ≤ 7246051) (hk0 : 36 + me_ix v4 = K0) (hb576 : (nc + 1 ≤ NB576 ∧ ns + 6 ≤ SB576)) (hf : f_L_law_b738 B.2.2.2.1 B.2.2.2.2 K187 K576 μ v2 v4 v5 v7 v8 v9 v10 v15 v16 v17 v18 v19 v20 s0 s1 = some r) : me_Z X (me_tb B K0 q) nc ns μ 738 [(0, .inl (.ref (B.1 202 0))), (1, me_r 0 0), (2, me_i v2), (4, me_i v4), (5, me_i v5), (7, me_i v7), (8, me_i v8), (9, me_i v9), (10, me_i v10), (14, me_r K0 0), (15, me_i v15), (16, me_i v16), (17, me_i v17), (18, me_i v18), (19, me_i v19), (20, me_i v20)] [me_i s0, me_i s1] := by
  subst hk0
  unfold f_L_law_b738 at hf
  refine me_ldc C (v := (-900002)) dL_law_738 ci_L_20 ?_
  refine me_dropI [(0, .inl (.ref (B.1 202 0))), (1, me_r 0 0), (2, me_i v2), (4, me_i v4), (5, me_i v5), (7, me_i v7), (8, me_i v8), (9, me_i v9), (10, me_i v10), (14, me_r (36 + me_ix v4) 0), (15, me_i v15), (16, me_i v16), (17, me_i v17), (18, me_i v18), (19, me_i v19), (20, me_i v20)] [0, 1, 2, 3, 4, 5, 6, 7, 8, 9, 10, 11, 12, 13, 14, 15] rfl ?_
  exact z_L_law_b740 C hroom hB hz hJ0 hk1 hR hNR hK187 hN187 hK576 hN576 (nc := nc) (ns := ns) rfl ⟨by omega, by omega⟩ hf
def f_L_law_b715 (sL : Nat) (xs : Nat → Int32) (K187 : me_M → Int32 → Int32 → Int32 → Int32 → Int32 → Int32 → Option (me_M × Int32)) (K576 : me_M → Int32 → Int32 → Int32 → Int32 → Int32 → Int32 → Int32 → Int32 → Int32 → Int32 → Int32 → Int32 → Int32 → Int32 → Option (me_M × Int32)) (μ : me_M) (v2 : Int32) (v4 : Int32) (v5 : Int32) (v6 : Int32) (v7 : Int32) (v8 : Int32) (v9 : Int32) (v10 : Int32) (v15 : Int32) (v16 : Int32) (v17 : Int32) (v18 : Int32) (v19 : Int32) (v20 : Int32) : Option (me_M × Int32) :=
  me_b2 (f_L_head μ v16) (fun μ2 r1 =>
  if v18 = 0 then
  (f_L_law_b738 sL xs K187 K576 μ2 v2 v4 v5 v7 v8 v9 v10 v15 v16 v17 v18 v19 v20 r1 v6)
  else
  (if v15 < 0 then
  (f_L_law_b738 sL xs K187 K576 μ2 v2 v4 v5 v7 v8 v9 v10 v15 v16 v17 v18 v19 v20 r1 v6)
  else
  (f_L_law_b740 sL xs K187 K576 μ2 v2 v4 v5 v7 v8 v9 v10 v15 v16 v17 v18 v19 v20 v15 r1 v6)))
set_option maxHeartbeats 4000000 in
set_option maxRecDepth 100000 in
theorem z_L_law_b715 {X : me_X} {B : me_B} {ret0 : Option FieldType} {K0 q : Nat} {NR SR : Nat} {NB187 SB187 : Nat} {K187 : me_M → Int32 → Int32 → Int32 → Int32 → Int32 → Int32 → Option (me_M × Int32)} {NB576 SB576 : Nat} {K576 : me_M → Int32 → Int32 → Int32 → Int32 → Int32 → Int32 → Int32 → Int32 → Int32 → Int32 → Int32 → Int32 → Int32 → Int32 → Option (me_M × Int32)} {nc ns : Nat} {μ : me_M} {v2 : Int32} {v4 : Int32} {v5 : Int32} {v6 : Int32} {v7 : Int32} {v8 : Int32} {v9 : Int32} {v10 : Int32} {v15 : Int32} {v16 : Int32} {v17 : Int32} {v18 : Int32} {v19 : Int32} {v20 : Int32} {r : me_M × Int32} (C : me_C X (me_tb B K0 q) RL cL_law 23 ret0) (hroom : me_Rm X 12 462 618549 7246051) (hB : me_St (me_tb B K0 q)) (hz : ∀ k, 36 ≤ k → B.2.1 k = 0) (hJ0 : me_J B) (hk1 : K0 < 53) (hR : ∀ (nc ns : Nat), nc ≤ NR → ns ≤ SR → me_Z X B nc ns r.1 1316 [] [me_i r.2]) (hNR : NR ≤ 618549 ∧ SR ≤ 7246051) (hK187 : ∀ (nc ns : Nat) (μ : me_M) (v2 : Int32) (v4 : Int32) (v5 : Int32) (v6 : Int32) (v7 : Int32) (v8 : Int32), nc ≤ NB187 → ns ≤ SB187 → K187 μ v2 v4 v5 v6 v7 v8 = some r → me_Z X B nc ns μ 187 [(0, .inl (.ref (B.1 202 0))), (1, me_r 0 0), (2, me_i v2), (4, me_i v4), (5, me_i v5), (6, me_i v6), (7, me_i v7), (8, me_i v8)] []) (hN187 : NB187 ≤ 618549 ∧ SB187 ≤ 7246051) (hK576 : ∀ (nc ns : Nat) (μ : me_M) (v2 : Int32) (v4 : Int32) (v5 : Int32) (v6 : Int32) (v7 : Int32) (v8 : Int32) (v9 : Int32) (v10 : Int32) (v15 : Int32) (v16 : Int32) (v17 : Int32) (v18 : Int32) (v19 : Int32) (v20 : Int32), 36 + me_ix v4 = K0 → nc ≤ NB576 → ns ≤ SB576 → K576 μ v2 v4 v5 v6 v7 v8 v9 v10 v15 v16 v17 v18 v19 v20 = some r → me_Z X (me_tb B K0 q) nc ns μ 576 [(0, .inl (.ref (B.1 202 0))), (1, me_r 0 0), (2, me_i v2), (4, me_i v4), (5, me_i v5), (6, me_i v6), (7, me_i v7), (8, me_i v8), (9, me_i v9), (10, me_i v10), (14, me_r K0 0), (15, me_i v15), (16, me_i v16), (17, me_i v17), (18, me_i v18), (19, me_i v19), (20, me_i v20)] []) (hN576 : NB576 ≤ 618549 ∧ SB576 ≤ 7246051) (hk0 : 36 + me_ix v4 = K0) (hb576 : (nc + 3 ≤ NB576 ∧ ns + 18 ≤ SB576)) (hf : f_L_law_b715 B.2.2.2.1 B.2.2.2.2 K187 K576 μ v2 v4 v5 v6 v7 v8 v9 v10 v15 v16 v17 v18 v19 v20 = some r) : me_Z X (me_tb B K0 q) nc ns μ 715 [(0, .inl (.ref (B.1 202 0))), (1, me_r 0 0), (2, me_i v2), (4, me_i v4), (5, me_i v5), (6, me_i v6), (7, me_i v7), (8, me_i v8), (9, me_i v9), (10, me_i v10), (14, me_r K0 0), (15, me_i v15), (16, me_i v16), (17, me_i v17), (18, me_i v18), (19, me_i v19), (20, me_i v20)] [] := by
  subst hk0
  unfold f_L_law_b715 at hf
  refine me_iload C dL_law_715 rfl ?_
  refine me_aload_n C 1 (Or.inr (Or.inl ⟨_, rfl⟩)) dL_law_717 rfl rfl ?_
  refine me_iload C dL_law_718 rfl ?_
  obtain ⟨μ2, r1, h_r1, hf⟩ := me_bs2 hf
  refine me_callSH C hroom (n := 2) (As := [me_r 0 0, me_i v16]) (st := [me_i v6]) (nc + 2) (ns + 12) (c_L_head hB h_r1) mh_L_head iL ⟨by decide +kernel, by decide +kernel⟩ (by decide +kernel) si_L_head ml_L_127 dL_law_720 rfl rfl ⟨by decide, by decide⟩ ⟨by omega, by omega, by omega, by omega⟩ (Nat.le_of_ble_eq_true rfl) ?_
  refine me_iload C dL_law_723 rfl ?_
  refine me_if_eq C (tgt := 738) dL_law_725 (by decide) (fun c3 => ?_) (fun c3 => ?_)
  · replace hf := me_ip c3 hf
    refine me_dropI [(0, .inl (.ref (B.1 202 0))), (1, me_r 0 0), (2, me_i v2), (4, me_i v4), (5, me_i v5), (7, me_i v7), (8, me_i v8), (9, me_i v9), (10, me_i v10), (14, me_r (36 + me_ix v4) 0), (15, me_i v15), (16, me_i v16), (17, me_i v17), (18, me_i v18), (19, me_i v19), (20, me_i v20)] [0, 1, 2, 3, 4, 6, 7, 8, 9, 10, 11, 12, 13, 14, 15, 16] rfl ?_
    exact z_L_law_b738 C hroom hB hz hJ0 hk1 hR hNR hK187 hN187 hK576 hN576 (nc := (nc + 2)) (ns := (ns + 12)) rfl ⟨by omega, by omega⟩ hf
  · replace hf := me_in c3 hf
    refine me_iload C dL_law_728 rfl ?_
    refine me_if_lt C (tgt := 738) dL_law_730 (by decide) (fun c4 => ?_) (fun c4 => ?_)
    · replace hf := me_ip c4 hf
      refine me_dropI [(0, .inl (.ref (B.1 202 0))), (1, me_r 0 0), (2, me_i v2), (4, me_i v4), (5, me_i v5), (7, me_i v7), (8, me_i v8), (9, me_i v9), (10, me_i v10), (14, me_r (36 + me_ix v4) 0), (15, me_i v15), (16, me_i v16), (17, me_i v17), (18, me_i v18), (19, me_i v19), (20, me_i v20)] [0, 1, 2, 3, 4, 6, 7, 8, 9, 10, 11, 12, 13, 14, 15, 16] rfl ?_
      exact z_L_law_b738 C hroom hB hz hJ0 hk1 hR hNR hK187 hN187 hK576 hN576 (nc := (nc + 2)) (ns := (ns + 12)) rfl ⟨by omega, by omega⟩ hf
    · replace hf := me_in c4 hf
      refine me_iload C dL_law_733 rfl ?_
      refine me_goto C (tgt := 740) dL_law_735 (by decide) ?_
      refine me_dropI [(0, .inl (.ref (B.1 202 0))), (1, me_r 0 0), (2, me_i v2), (4, me_i v4), (5, me_i v5), (7, me_i v7), (8, me_i v8), (9, me_i v9), (10, me_i v10), (14, me_r (36 + me_ix v4) 0), (15, me_i v15), (16, me_i v16), (17, me_i v17), (18, me_i v18), (19, me_i v19), (20, me_i v20)] [0, 1, 2, 3, 4, 6, 7, 8, 9, 10, 11, 12, 13, 14, 15, 16] rfl ?_
      exact z_L_law_b740 C hroom hB hz hJ0 hk1 hR hNR hK187 hN187 hK576 hN576 (nc := (nc + 2)) (ns := (ns + 12)) rfl ⟨by omega, by omega⟩ hf
def f_L_law_b651 (sL : Nat) (xs : Nat → Int32) (K187 : me_M → Int32 → Int32 → Int32 → Int32 → Int32 → Int32 → Option (me_M × Int32)) (K576 : me_M → Int32 → Int32 → Int32 → Int32 → Int32 → Int32 → Int32 → Int32 → Int32 → Int32 → Int32 → Int32 → Int32 → Int32 → Option (me_M × Int32)) (μ : me_M) (v2 : Int32) (v4 : Int32) (v5 : Int32) (v6 : Int32) (v7 : Int32) (v8 : Int32) (v9 : Int32) (v10 : Int32) (v15 : Int32) (v16 : Int32) (v17 : Int32) (v18 : Int32) (v20 : Int32) (s0 : Int32) : Option (me_M × Int32) :=
  f_L_law_b715 sL xs K187 K576 μ v2 v4 v5 v6 v7 v8 v9 v10 v15 v16 v17 v18 s0 v20
set_option maxHeartbeats 4000000 in
set_option maxRecDepth 100000 in
theorem z_L_law_b651 {X : me_X} {B : me_B} {ret0 : Option FieldType} {K0 q : Nat} {NR SR : Nat} {NB187 SB187 : Nat} {K187 : me_M → Int32 → Int32 → Int32 → Int32 → Int32 → Int32 → Option (me_M × Int32)} {NB576 SB576 : Nat} {K576 : me_M → Int32 → Int32 → Int32 → Int32 → Int32 → Int32 → Int32 → Int32 → Int32 → Int32 → Int32 → Int32 → Int32 → Int32 → Option (me_M × Int32)} {nc ns : Nat} {μ : me_M} {v2 : Int32} {v4 : Int32} {v5 : Int32} {v6 : Int32} {v7 : Int32} {v8 : Int32} {v9 : Int32} {v10 : Int32} {v15 : Int32} {v16 : Int32} {v17 : Int32} {v18 : Int32} {v20 : Int32} {s0 : Int32} {r : me_M × Int32} (C : me_C X (me_tb B K0 q) RL cL_law 23 ret0) (hroom : me_Rm X 12 462 618549 7246051) (hB : me_St (me_tb B K0 q)) (hz : ∀ k, 36 ≤ k → B.2.1 k = 0) (hJ0 : me_J B) (hk1 : K0 < 53) (hR : ∀ (nc ns : Nat), nc ≤ NR → ns ≤ SR → me_Z X B nc ns r.1 1316 [] [me_i r.2]) (hNR : NR ≤ 618549 ∧ SR ≤ 7246051) (hK187 : ∀ (nc ns : Nat) (μ : me_M) (v2 : Int32) (v4 : Int32) (v5 : Int32) (v6 : Int32) (v7 : Int32) (v8 : Int32), nc ≤ NB187 → ns ≤ SB187 → K187 μ v2 v4 v5 v6 v7 v8 = some r → me_Z X B nc ns μ 187 [(0, .inl (.ref (B.1 202 0))), (1, me_r 0 0), (2, me_i v2), (4, me_i v4), (5, me_i v5), (6, me_i v6), (7, me_i v7), (8, me_i v8)] []) (hN187 : NB187 ≤ 618549 ∧ SB187 ≤ 7246051) (hK576 : ∀ (nc ns : Nat) (μ : me_M) (v2 : Int32) (v4 : Int32) (v5 : Int32) (v6 : Int32) (v7 : Int32) (v8 : Int32) (v9 : Int32) (v10 : Int32) (v15 : Int32) (v16 : Int32) (v17 : Int32) (v18 : Int32) (v19 : Int32) (v20 : Int32), 36 + me_ix v4 = K0 → nc ≤ NB576 → ns ≤ SB576 → K576 μ v2 v4 v5 v6 v7 v8 v9 v10 v15 v16 v17 v18 v19 v20 = some r → me_Z X (me_tb B K0 q) nc ns μ 576 [(0, .inl (.ref (B.1 202 0))), (1, me_r 0 0), (2, me_i v2), (4, me_i v4), (5, me_i v5), (6, me_i v6), (7, me_i v7), (8, me_i v8), (9, me_i v9), (10, me_i v10), (14, me_r K0 0), (15, me_i v15), (16, me_i v16), (17, me_i v17), (18, me_i v18), (19, me_i v19), (20, me_i v20)] []) (hN576 : NB576 ≤ 618549 ∧ SB576 ≤ 7246051) (hk0 : 36 + me_ix v4 = K0) (hb576 : (nc + 3 ≤ NB576 ∧ ns + 18 ≤ SB576)) (hf : f_L_law_b651 B.2.2.2.1 B.2.2.2.2 K187 K576 μ v2 v4 v5 v6 v7 v8 v9 v10 v15 v16 v17 v18 v20 s0 = some r) : me_Z X (me_tb B K0 q) nc ns μ 651 [(0, .inl (.ref (B.1 202 0))), (1, me_r 0 0), (2, me_i v2), (4, me_i v4), (5, me_i v5), (6, me_i v6), (7, me_i v7), (8, me_i v8), (9, me_i v9), (10, me_i v10), (14, me_r K0 0), (15, me_i v15), (16, me_i v16), (17, me_i v17), (18, me_i v18), (20, me_i v20)] [me_i s0] := by
  subst hk0
  unfold f_L_law_b651 at hf
  refine me_istore C dL_law_651 (by decide) (L' := [(19, me_i s0), (0, .inl (.ref (B.1 202 0))), (1, me_r 0 0), (2, me_i v2), (4, me_i v4), (5, me_i v5), (6, me_i v6), (7, me_i v7), (8, me_i v8), (9, me_i v9), (10, me_i v10), (14, me_r (36 + me_ix v4) 0), (15, me_i v15), (16, me_i v16), (17, me_i v17), (18, me_i v18), (20, me_i v20)]) rfl ?_
  refine me_goto C (tgt := 715) dL_law_653 (by decide) ?_
  refine me_dropI [(0, .inl (.ref (B.1 202 0))), (1, me_r 0 0), (2, me_i v2), (4, me_i v4), (5, me_i v5), (6, me_i v6), (7, me_i v7), (8, me_i v8), (9, me_i v9), (10, me_i v10), (14, me_r (36 + me_ix v4) 0), (15, me_i v15), (16, me_i v16), (17, me_i v17), (18, me_i v18), (19, me_i s0), (20, me_i v20)] [1, 2, 3, 4, 5, 6, 7, 8, 9, 10, 11, 12, 13, 14, 15, 0, 16] rfl ?_
  exact z_L_law_b715 C hroom hB hz hJ0 hk1 hR hNR hK187 hN187 hK576 hN576 (nc := nc) (ns := ns) rfl ⟨by omega, by omega⟩ hf
def f_L_law_b703 (sL : Nat) (xs : Nat → Int32) (K187 : me_M → Int32 → Int32 → Int32 → Int32 → Int32 → Int32 → Option (me_M × Int32)) (K576 : me_M → Int32 → Int32 → Int32 → Int32 → Int32 → Int32 → Int32 → Int32 → Int32 → Int32 → Int32 → Int32 → Int32 → Int32 → Option (me_M × Int32)) (μ : me_M) (v2 : Int32) (v4 : Int32) (v5 : Int32) (v6 : Int32) (v7 : Int32) (v8 : Int32) (v9 : Int32) (v10 : Int32) (v15 : Int32) (v16 : Int32) (v17 : Int32) (v18 : Int32) (v20 : Int32) (s0 : Int32) : Option (me_M × Int32) :=
  f_L_law_b715 sL xs K187 K576 μ v2 v4 v5 v6 v7 v8 v9 v10 v15 v16 v17 v18 s0 v20
set_option maxHeartbeats 4000000 in
set_option maxRecDepth 100000 in
theorem z_L_law_b703 {X : me_X} {B : me_B} {ret0 : Option FieldType} {K0 q : Nat} {NR SR : Nat} {NB187 SB187 : Nat} {K187 : me_M → Int32 → Int32 → Int32 → Int32 → Int32 → Int32 → Option (me_M × Int32)} {NB576 SB576 : Nat} {K576 : me_M → Int32 → Int32 → Int32 → Int32 → Int32 → Int32 → Int32 → Int32 → Int32 → Int32 → Int32 → Int32 → Int32 → Int32 → Option (me_M × Int32)} {nc ns : Nat} {μ : me_M} {v2 : Int32} {v4 : Int32} {v5 : Int32} {v6 : Int32} {v7 : Int32} {v8 : Int32} {v9 : Int32} {v10 : Int32} {v15 : Int32} {v16 : Int32} {v17 : Int32} {v18 : Int32} {v20 : Int32} {s0 : Int32} {r : me_M × Int32} (C : me_C X (me_tb B K0 q) RL cL_law 23 ret0) (hroom : me_Rm X 12 462 618549 7246051) (hB : me_St (me_tb B K0 q)) (hz : ∀ k, 36 ≤ k → B.2.1 k = 0) (hJ0 : me_J B) (hk1 : K0 < 53) (hR : ∀ (nc ns : Nat), nc ≤ NR → ns ≤ SR → me_Z X B nc ns r.1 1316 [] [me_i r.2]) (hNR : NR ≤ 618549 ∧ SR ≤ 7246051) (hK187 : ∀ (nc ns : Nat) (μ : me_M) (v2 : Int32) (v4 : Int32) (v5 : Int32) (v6 : Int32) (v7 : Int32) (v8 : Int32), nc ≤ NB187 → ns ≤ SB187 → K187 μ v2 v4 v5 v6 v7 v8 = some r → me_Z X B nc ns μ 187 [(0, .inl (.ref (B.1 202 0))), (1, me_r 0 0), (2, me_i v2), (4, me_i v4), (5, me_i v5), (6, me_i v6), (7, me_i v7), (8, me_i v8)] []) (hN187 : NB187 ≤ 618549 ∧ SB187 ≤ 7246051) (hK576 : ∀ (nc ns : Nat) (μ : me_M) (v2 : Int32) (v4 : Int32) (v5 : Int32) (v6 : Int32) (v7 : Int32) (v8 : Int32) (v9 : Int32) (v10 : Int32) (v15 : Int32) (v16 : Int32) (v17 : Int32) (v18 : Int32) (v19 : Int32) (v20 : Int32), 36 + me_ix v4 = K0 → nc ≤ NB576 → ns ≤ SB576 → K576 μ v2 v4 v5 v6 v7 v8 v9 v10 v15 v16 v17 v18 v19 v20 = some r → me_Z X (me_tb B K0 q) nc ns μ 576 [(0, .inl (.ref (B.1 202 0))), (1, me_r 0 0), (2, me_i v2), (4, me_i v4), (5, me_i v5), (6, me_i v6), (7, me_i v7), (8, me_i v8), (9, me_i v9), (10, me_i v10), (14, me_r K0 0), (15, me_i v15), (16, me_i v16), (17, me_i v17), (18, me_i v18), (19, me_i v19), (20, me_i v20)] []) (hN576 : NB576 ≤ 618549 ∧ SB576 ≤ 7246051) (hk0 : 36 + me_ix v4 = K0) (hb576 : (nc + 3 ≤ NB576 ∧ ns + 18 ≤ SB576)) (hf : f_L_law_b703 B.2.2.2.1 B.2.2.2.2 K187 K576 μ v2 v4 v5 v6 v7 v8 v9 v10 v15 v16 v17 v18 v20 s0 = some r) : me_Z X (me_tb B K0 q) nc ns μ 703 [(0, .inl (.ref (B.1 202 0))), (1, me_r 0 0), (2, me_i v2), (4, me_i v4), (5, me_i v5), (6, me_i v6), (7, me_i v7), (8, me_i v8), (9, me_i v9), (10, me_i v10), (14, me_r K0 0), (15, me_i v15), (16, me_i v16), (17, me_i v17), (18, me_i v18), (20, me_i v20)] [me_i s0] := by
  subst hk0
  unfold f_L_law_b703 at hf
  refine me_istore C dL_law_703 (by decide) (L' := [(19, me_i s0), (0, .inl (.ref (B.1 202 0))), (1, me_r 0 0), (2, me_i v2), (4, me_i v4), (5, me_i v5), (6, me_i v6), (7, me_i v7), (8, me_i v8), (9, me_i v9), (10, me_i v10), (14, me_r (36 + me_ix v4) 0), (15, me_i v15), (16, me_i v16), (17, me_i v17), (18, me_i v18), (20, me_i v20)]) rfl ?_
  refine me_goto C (tgt := 715) dL_law_705 (by decide) ?_
  refine me_dropI [(0, .inl (.ref (B.1 202 0))), (1, me_r 0 0), (2, me_i v2), (4, me_i v4), (5, me_i v5), (6, me_i v6), (7, me_i v7), (8, me_i v8), (9, me_i v9), (10, me_i v10), (14, me_r (36 + me_ix v4) 0), (15, me_i v15), (16, me_i v16), (17, me_i v17), (18, me_i v18), (19, me_i s0), (20, me_i v20)] [1, 2, 3, 4, 5, 6, 7, 8, 9, 10, 11, 12, 13, 14, 15, 0, 16] rfl ?_
  exact z_L_law_b715 C hroom hB hz hJ0 hk1 hR hNR hK187 hN187 hK576 hN576 (nc := nc) (ns := ns) rfl ⟨by omega, by omega⟩ hf
def f_L_law_b598 (sL : Nat) (xs : Nat → Int32) (K187 : me_M → Int32 → Int32 → Int32 → Int32 → Int32 → Int32 → Option (me_M × Int32)) (K576 : me_M → Int32 → Int32 → Int32 → Int32 → Int32 → Int32 → Int32 → Int32 → Int32 → Int32 → Int32 → Int32 → Int32 → Int32 → Option (me_M × Int32)) (μ : me_M) (v2 : Int32) (v4 : Int32) (v5 : Int32) (v7 : Int32) (v8 : Int32) (v9 : Int32) (v10 : Int32) (v15 : Int32) (v16 : Int32) (v17 : Int32) (v18 : Int32) (v19 : Int32) (v20 : Int32) (s0 : Int32) (s1 : Int32) : Option (me_M × Int32) :=
  me_lt ((s1 &&& s0)) (fun x1 =>
  me_lt (me_inc v7 (1)) (fun x2 =>
  if v19 ≤ 0 then
  (if v18 = 0 then
  (if v15 = v10 then
  (f_L_law_b651 sL xs K187 K576 μ v2 v4 v5 x1 x2 v8 v9 v10 v15 v16 v17 (1 : Int32) v20 (0 : Int32))
  else
  (me_bd (f_L_next μ v2 v15 v10 v5) (fun r12 =>
  me_gd (me_inb r12 (me_ix v4)) (
  if (μ (36 + me_ix v4) 0 (me_ix r12)) = 0 then
  (f_L_law_b651 sL xs K187 K576 μ v2 v4 v5 x1 x2 v8 v9 v10 v15 v16 v17 (1 : Int32) v20 (0 : Int32))
  else
  (f_L_law_b651 sL xs K187 K576 μ v2 v4 v5 x1 x2 v8 v9 v10 v15 v16 v17 (1 : Int32) v20 (1 : Int32))))))
  else
  (if v15 = v10 then
  (f_L_law_b715 sL xs K187 K576 μ v2 v4 v5 x1 x2 v8 v9 v10 (-1 : Int32) v16 v17 v18 (99 : Int32) v20)
  else
  (me_bd (f_L_next μ v2 v15 v10 v5) (fun r6 =>
  if r6 = v10 then
  (f_L_law_b703 sL xs K187 K576 μ v2 v4 v5 x1 x2 v8 v9 v10 r6 v16 v17 v18 v20 (0 : Int32))
  else
  (me_bd (f_L_next μ v2 r6 v10 v5) (fun r8 =>
  me_gd (me_inb r8 (me_ix v4)) (
  if (μ (36 + me_ix v4) 0 (me_ix r8)) = 0 then
  (f_L_law_b703 sL xs K187 K576 μ v2 v4 v5 x1 x2 v8 v9 v10 r6 v16 v17 v18 v20 (0 : Int32))
  else
  (f_L_law_b703 sL xs K187 K576 μ v2 v4 v5 x1 x2 v8 v9 v10 r6 v16 v17 v18 v20 (1 : Int32)))))))))
  else
  (me_lt (me_inc v19 (-1)) (fun x15 =>
  f_L_law_b715 sL xs K187 K576 μ v2 v4 v5 x1 x2 v8 v9 v10 v15 v16 v17 v18 x15 v20))))
set_option maxHeartbeats 4000000 in
set_option maxRecDepth 100000 in
theorem z_L_law_b598 {X : me_X} {B : me_B} {ret0 : Option FieldType} {K0 q : Nat} {NR SR : Nat} {NB187 SB187 : Nat} {K187 : me_M → Int32 → Int32 → Int32 → Int32 → Int32 → Int32 → Option (me_M × Int32)} {NB576 SB576 : Nat} {K576 : me_M → Int32 → Int32 → Int32 → Int32 → Int32 → Int32 → Int32 → Int32 → Int32 → Int32 → Int32 → Int32 → Int32 → Int32 → Option (me_M × Int32)} {nc ns : Nat} {μ : me_M} {v2 : Int32} {v4 : Int32} {v5 : Int32} {v7 : Int32} {v8 : Int32} {v9 : Int32} {v10 : Int32} {v15 : Int32} {v16 : Int32} {v17 : Int32} {v18 : Int32} {v19 : Int32} {v20 : Int32} {s0 : Int32} {s1 : Int32} {r : me_M × Int32} (C : me_C X (me_tb B K0 q) RL cL_law 23 ret0) (hroom : me_Rm X 12 462 618549 7246051) (hB : me_St (me_tb B K0 q)) (hz : ∀ k, 36 ≤ k → B.2.1 k = 0) (hJ0 : me_J B) (hk1 : K0 < 53) (hR : ∀ (nc ns : Nat), nc ≤ NR → ns ≤ SR → me_Z X B nc ns r.1 1316 [] [me_i r.2]) (hNR : NR ≤ 618549 ∧ SR ≤ 7246051) (hK187 : ∀ (nc ns : Nat) (μ : me_M) (v2 : Int32) (v4 : Int32) (v5 : Int32) (v6 : Int32) (v7 : Int32) (v8 : Int32), nc ≤ NB187 → ns ≤ SB187 → K187 μ v2 v4 v5 v6 v7 v8 = some r → me_Z X B nc ns μ 187 [(0, .inl (.ref (B.1 202 0))), (1, me_r 0 0), (2, me_i v2), (4, me_i v4), (5, me_i v5), (6, me_i v6), (7, me_i v7), (8, me_i v8)] []) (hN187 : NB187 ≤ 618549 ∧ SB187 ≤ 7246051) (hK576 : ∀ (nc ns : Nat) (μ : me_M) (v2 : Int32) (v4 : Int32) (v5 : Int32) (v6 : Int32) (v7 : Int32) (v8 : Int32) (v9 : Int32) (v10 : Int32) (v15 : Int32) (v16 : Int32) (v17 : Int32) (v18 : Int32) (v19 : Int32) (v20 : Int32), 36 + me_ix v4 = K0 → nc ≤ NB576 → ns ≤ SB576 → K576 μ v2 v4 v5 v6 v7 v8 v9 v10 v15 v16 v17 v18 v19 v20 = some r → me_Z X (me_tb B K0 q) nc ns μ 576 [(0, .inl (.ref (B.1 202 0))), (1, me_r 0 0), (2, me_i v2), (4, me_i v4), (5, me_i v5), (6, me_i v6), (7, me_i v7), (8, me_i v8), (9, me_i v9), (10, me_i v10), (14, me_r K0 0), (15, me_i v15), (16, me_i v16), (17, me_i v17), (18, me_i v18), (19, me_i v19), (20, me_i v20)] []) (hN576 : NB576 ≤ 618549 ∧ SB576 ≤ 7246051) (hk0 : 36 + me_ix v4 = K0) (hb576 : (nc + 3 ≤ NB576 ∧ ns + 18 ≤ SB576)) (hf : f_L_law_b598 B.2.2.2.1 B.2.2.2.2 K187 K576 μ v2 v4 v5 v7 v8 v9 v10 v15 v16 v17 v18 v19 v20 s0 s1 = some r) : me_Z X (me_tb B K0 q) nc ns μ 598 [(0, .inl (.ref (B.1 202 0))), (1, me_r 0 0), (2, me_i v2), (4, me_i v4), (5, me_i v5), (7, me_i v7), (8, me_i v8), (9, me_i v9), (10, me_i v10), (14, me_r K0 0), (15, me_i v15), (16, me_i v16), (17, me_i v17), (18, me_i v18), (19, me_i v19), (20, me_i v20)] [me_i s0, me_i s1] := by
  subst hk0
  unfold f_L_law_b598 at hf
  refine me_iand C dL_law_598 ?_
  obtain ⟨x1, e_x1, hf⟩ := me_lts hf
  refine me_nm e_x1 ?_
  refine me_istore C dL_law_599 (by decide) (L' := [(6, me_i x1), (0, .inl (.ref (B.1 202 0))), (1, me_r 0 0), (2, me_i v2), (4, me_i v4), (5, me_i v5), (7, me_i v7), (8, me_i v8), (9, me_i v9), (10, me_i v10), (14, me_r (36 + me_ix v4) 0), (15, me_i v15), (16, me_i v16), (17, me_i v17), (18, me_i v18), (19, me_i v19), (20, me_i v20)]) rfl ?_
  obtain ⟨x2, e_x2, hf⟩ := me_lts hf
  refine me_iinc C (v := x2) (L' := [(7, me_i x2), (6, me_i x1), (0, .inl (.ref (B.1 202 0))), (1, me_r 0 0), (2, me_i v2), (4, me_i v4), (5, me_i v5), (8, me_i v8), (9, me_i v9), (10, me_i v10), (14, me_r (36 + me_ix v4) 0), (15, me_i v15), (16, me_i v16), (17, me_i v17), (18, me_i v18), (19, me_i v19), (20, me_i v20)]) dL_law_601 rfl e_x2.symm (by decide) rfl ?_
  refine me_iload C dL_law_604 rfl ?_
  refine me_if_le C (tgt := 615) dL_law_606 (by decide) (fun c3 => ?_) (fun c3 => ?_)
  · replace hf := me_ip c3 hf
    refine me_iload C dL_law_615 rfl ?_
    refine me_if_ne C (tgt := 656) dL_law_617 (by decide) (fun c4 => ?_) (fun c4 => ?_)
    · replace hf := me_in c4 hf
      refine me_iload C dL_law_656 rfl ?_
      refine me_iload C dL_law_658 rfl ?_
      refine me_icmp_eq C (tgt := 708) dL_law_660 (by decide) (fun c5 => ?_) (fun c5 => ?_)
      · replace hf := me_ip c5 hf
        refine me_iconst C (v := -1) dL_law_708 (by decide) ?_
        refine me_istore C dL_law_709 (by decide) (L' := [(15, me_i (-1 : Int32)), (7, me_i x2), (6, me_i x1), (0, .inl (.ref (B.1 202 0))), (1, me_r 0 0), (2, me_i v2), (4, me_i v4), (5, me_i v5), (8, me_i v8), (9, me_i v9), (10, me_i v10), (14, me_r (36 + me_ix v4) 0), (16, me_i v16), (17, me_i v17), (18, me_i v18), (19, me_i v19), (20, me_i v20)]) rfl ?_
        refine me_bipush C (v := 99) dL_law_711 (by decide) ?_
        refine me_istore C dL_law_713 (by decide) (L' := [(19, me_i (99 : Int32)), (15, me_i (-1 : Int32)), (7, me_i x2), (6, me_i x1), (0, .inl (.ref (B.1 202 0))), (1, me_r 0 0), (2, me_i v2), (4, me_i v4), (5, me_i v5), (8, me_i v8), (9, me_i v9), (10, me_i v10), (14, me_r (36 + me_ix v4) 0), (16, me_i v16), (17, me_i v17), (18, me_i v18), (20, me_i v20)]) rfl ?_
        refine me_dropI [(0, .inl (.ref (B.1 202 0))), (1, me_r 0 0), (2, me_i v2), (4, me_i v4), (5, me_i v5), (6, me_i x1), (7, me_i x2), (8, me_i v8), (9, me_i v9), (10, me_i v10), (14, me_r (36 + me_ix v4) 0), (15, me_i (-1 : Int32)), (16, me_i v16), (17, me_i v17), (18, me_i v18), (19, me_i (99 : Int32)), (20, me_i v20)] [4, 5, 6, 7, 8, 3, 2, 9, 10, 11, 12, 1, 13, 14, 15, 0, 16] rfl ?_
        exact z_L_law_b715 C hroom hB hz hJ0 hk1 hR hNR hK187 hN187 hK576 hN576 (nc := nc) (ns := ns) rfl ⟨by omega, by omega⟩ hf
      · replace hf := me_in c5 hf
        refine me_iload_n C 2 dL_law_663 rfl rfl ?_
        refine me_iload C dL_law_664 rfl ?_
        refine me_iload C dL_law_666 rfl ?_
        refine me_iload C dL_law_668 rfl ?_
        obtain ⟨r6, h_r6, hf⟩ := me_bs hf
        refine me_callSR C hroom (As := [me_i v2, me_i v15, me_i v10, me_i v5]) (st := []) nc ns (c_L_next hB h_r6) ms_L_next ml_L_119 dL_law_670 rfl rfl ⟨by decide, by decide⟩ ⟨by omega, by omega, by omega, by omega⟩ (Nat.le_of_ble_eq_true rfl) ?_
        refine me_istore C dL_law_673 (by decide) (L' := [(15, me_i r6), (7, me_i x2), (6, me_i x1), (0, .inl (.ref (B.1 202 0))), (1, me_r 0 0), (2, me_i v2), (4, me_i v4), (5, me_i v5), (8, me_i v8), (9, me_i v9), (10, me_i v10), (14, me_r (36 + me_ix v4) 0), (16, me_i v16), (17, me_i v17), (18, me_i v18), (19, me_i v19), (20, me_i v20)]) rfl ?_
        refine me_iload C dL_law_675 rfl ?_
        refine me_iload C dL_law_677 rfl ?_
        refine me_icmp_eq C (tgt := 702) dL_law_679 (by decide) (fun c7 => ?_) (fun c7 => ?_)
        · replace hf := me_ip c7 hf
          refine me_iconst C (v := 0) dL_law_702 (by decide) ?_
          refine me_dropI [(0, .inl (.ref (B.1 202 0))), (1, me_r 0 0), (2, me_i v2), (4, me_i v4), (5, me_i v5), (6, me_i x1), (7, me_i x2), (8, me_i v8), (9, me_i v9), (10, me_i v10), (14, me_r (36 + me_ix v4) 0), (15, me_i r6), (16, me_i v16), (17, me_i v17), (18, me_i v18), (20, me_i v20)] [3, 4, 5, 6, 7, 2, 1, 8, 9, 10, 11, 0, 12, 13, 14, 16] rfl ?_
          exact z_L_law_b703 C hroom hB hz hJ0 hk1 hR hNR hK187 hN187 hK576 hN576 (nc := nc) (ns := ns) rfl ⟨by omega, by omega⟩ hf
        · replace hf := me_in c7 hf
          refine me_aload C (Or.inr (Or.inl ⟨_, rfl⟩)) dL_law_682 rfl ?_
          refine me_iload_n C 2 dL_law_684 rfl rfl ?_
          refine me_iload C dL_law_685 rfl ?_
          refine me_iload C dL_law_687 rfl ?_
          refine me_iload C dL_law_689 rfl ?_
          obtain ⟨r8, h_r8, hf⟩ := me_bs hf
          refine me_callSR C hroom (As := [me_i v2, me_i r6, me_i v10, me_i v5]) (st := [me_r (36 + me_ix v4) 0]) nc ns (c_L_next hB h_r8) ms_L_next ml_L_119 dL_law_691 rfl rfl ⟨by decide, by decide⟩ ⟨by omega, by omega, by omega, by omega⟩ (Nat.le_of_ble_eq_true rfl) ?_
          obtain ⟨g9, hf⟩ := me_gs hf
          refine me_zald C (me_kL (by omega)) (fun _ => rfl) g9 dL_law_694 ?_
          refine me_if_eq C (tgt := 702) dL_law_695 (by decide) (fun c10 => ?_) (fun c10 => ?_)
          · replace hf := me_ip c10 hf
            refine me_iconst C (v := 0) dL_law_702 (by decide) ?_
            refine me_dropI [(0, .inl (.ref (B.1 202 0))), (1, me_r 0 0), (2, me_i v2), (4, me_i v4), (5, me_i v5), (6, me_i x1), (7, me_i x2), (8, me_i v8), (9, me_i v9), (10, me_i v10), (14, me_r (36 + me_ix v4) 0), (15, me_i r6), (16, me_i v16), (17, me_i v17), (18, me_i v18), (20, me_i v20)] [3, 4, 5, 6, 7, 2, 1, 8, 9, 10, 11, 0, 12, 13, 14, 16] rfl ?_
            exact z_L_law_b703 C hroom hB hz hJ0 hk1 hR hNR hK187 hN187 hK576 hN576 (nc := nc) (ns := ns) rfl ⟨by omega, by omega⟩ hf
          · replace hf := me_in c10 hf
            refine me_iconst C (v := 1) dL_law_698 (by decide) ?_
            refine me_goto C (tgt := 703) dL_law_699 (by decide) ?_
            refine me_dropI [(0, .inl (.ref (B.1 202 0))), (1, me_r 0 0), (2, me_i v2), (4, me_i v4), (5, me_i v5), (6, me_i x1), (7, me_i x2), (8, me_i v8), (9, me_i v9), (10, me_i v10), (14, me_r (36 + me_ix v4) 0), (15, me_i r6), (16, me_i v16), (17, me_i v17), (18, me_i v18), (20, me_i v20)] [3, 4, 5, 6, 7, 2, 1, 8, 9, 10, 11, 0, 12, 13, 14, 16] rfl ?_
            exact z_L_law_b703 C hroom hB hz hJ0 hk1 hR hNR hK187 hN187 hK576 hN576 (nc := nc) (ns := ns) rfl ⟨by omega, by omega⟩ hf
    · replace hf := me_ip c4 hf
      refine me_iconst C (v := 1) dL_law_620 (by decide) ?_
      refine me_istore C dL_law_621 (by decide) (L' := [(18, me_i (1 : Int32)), (7, me_i x2), (6, me_i x1), (0, .inl (.ref (B.1 202 0))), (1, me_r 0 0), (2, me_i v2), (4, me_i v4), (5, me_i v5), (8, me_i v8), (9, me_i v9), (10, me_i v10), (14, me_r (36 + me_ix v4) 0), (15, me_i v15), (16, me_i v16), (17, me_i v17), (19, me_i v19), (20, me_i v20)]) rfl ?_
      refine me_iload C dL_law_623 rfl ?_
      refine me_iload C dL_law_625 rfl ?_
      refine me_icmp_eq C (tgt := 650) dL_law_627 (by decide) (fun c11 => ?_) (fun c11 => ?_)
      · replace hf := me_ip c11 hf
        refine me_iconst C (v := 0) dL_law_650 (by decide) ?_
        refine me_dropI [(0, .inl (.ref (B.1 202 0))), (1, me_r 0 0), (2, me_i v2), (4, me_i v4), (5, me_i v5), (6, me_i x1), (7, me_i x2), (8, me_i v8), (9, me_i v9), (10, me_i v10), (14, me_r (36 + me_ix v4) 0), (15, me_i v15), (16, me_i v16), (17, me_i v17), (18, me_i (1 : Int32)), (20, me_i v20)] [3, 4, 5, 6, 7, 2, 1, 8, 9, 10, 11, 12, 13, 14, 0, 16] rfl ?_
        exact z_L_law_b651 C hroom hB hz hJ0 hk1 hR hNR hK187 hN187 hK576 hN576 (nc := nc) (ns := ns) rfl ⟨by omega, by omega⟩ hf
      · replace hf := me_in c11 hf
        refine me_aload C (Or.inr (Or.inl ⟨_, rfl⟩)) dL_law_630 rfl ?_
        refine me_iload_n C 2 dL_law_632 rfl rfl ?_
        refine me_iload C dL_law_633 rfl ?_
        refine me_iload C dL_law_635 rfl ?_
        refine me_iload C dL_law_637 rfl ?_
        obtain ⟨r12, h_r12, hf⟩ := me_bs hf
        refine me_callSR C hroom (As := [me_i v2, me_i v15, me_i v10, me_i v5]) (st := [me_r (36 + me_ix v4) 0]) nc ns (c_L_next hB h_r12) ms_L_next ml_L_119 dL_law_639 rfl rfl ⟨by decide, by decide⟩ ⟨by omega, by omega, by omega, by omega⟩ (Nat.le_of_ble_eq_true rfl) ?_
        obtain ⟨g13, hf⟩ := me_gs hf
        refine me_zald C (me_kL (by omega)) (fun _ => rfl) g13 dL_law_642 ?_
        refine me_if_eq C (tgt := 650) dL_law_643 (by decide) (fun c14 => ?_) (fun c14 => ?_)
        · replace hf := me_ip c14 hf
          refine me_iconst C (v := 0) dL_law_650 (by decide) ?_
          refine me_dropI [(0, .inl (.ref (B.1 202 0))), (1, me_r 0 0), (2, me_i v2), (4, me_i v4), (5, me_i v5), (6, me_i x1), (7, me_i x2), (8, me_i v8), (9, me_i v9), (10, me_i v10), (14, me_r (36 + me_ix v4) 0), (15, me_i v15), (16, me_i v16), (17, me_i v17), (18, me_i (1 : Int32)), (20, me_i v20)] [3, 4, 5, 6, 7, 2, 1, 8, 9, 10, 11, 12, 13, 14, 0, 16] rfl ?_
          exact z_L_law_b651 C hroom hB hz hJ0 hk1 hR hNR hK187 hN187 hK576 hN576 (nc := nc) (ns := ns) rfl ⟨by omega, by omega⟩ hf
        · replace hf := me_in c14 hf
          refine me_iconst C (v := 1) dL_law_646 (by decide) ?_
          refine me_goto C (tgt := 651) dL_law_647 (by decide) ?_
          refine me_dropI [(0, .inl (.ref (B.1 202 0))), (1, me_r 0 0), (2, me_i v2), (4, me_i v4), (5, me_i v5), (6, me_i x1), (7, me_i x2), (8, me_i v8), (9, me_i v9), (10, me_i v10), (14, me_r (36 + me_ix v4) 0), (15, me_i v15), (16, me_i v16), (17, me_i v17), (18, me_i (1 : Int32)), (20, me_i v20)] [3, 4, 5, 6, 7, 2, 1, 8, 9, 10, 11, 12, 13, 14, 0, 16] rfl ?_
          exact z_L_law_b651 C hroom hB hz hJ0 hk1 hR hNR hK187 hN187 hK576 hN576 (nc := nc) (ns := ns) rfl ⟨by omega, by omega⟩ hf
  · replace hf := me_in c3 hf
    obtain ⟨x15, e_x15, hf⟩ := me_lts hf
    refine me_iinc C (v := x15) (L' := [(19, me_i x15), (7, me_i x2), (6, me_i x1), (0, .inl (.ref (B.1 202 0))), (1, me_r 0 0), (2, me_i v2), (4, me_i v4), (5, me_i v5), (8, me_i v8), (9, me_i v9), (10, me_i v10), (14, me_r (36 + me_ix v4) 0), (15, me_i v15), (16, me_i v16), (17, me_i v17), (18, me_i v18), (20, me_i v20)]) dL_law_609 rfl e_x15.symm (by decide) rfl ?_
    refine me_goto C (tgt := 715) dL_law_612 (by decide) ?_
    refine me_dropI [(0, .inl (.ref (B.1 202 0))), (1, me_r 0 0), (2, me_i v2), (4, me_i v4), (5, me_i v5), (6, me_i x1), (7, me_i x2), (8, me_i v8), (9, me_i v9), (10, me_i v10), (14, me_r (36 + me_ix v4) 0), (15, me_i v15), (16, me_i v16), (17, me_i v17), (18, me_i v18), (19, me_i x15), (20, me_i v20)] [3, 4, 5, 6, 7, 2, 1, 8, 9, 10, 11, 12, 13, 14, 15, 0, 16] rfl ?_
    exact z_L_law_b715 C hroom hB hz hJ0 hk1 hR hNR hK187 hN187 hK576 hN576 (nc := nc) (ns := ns) rfl ⟨by omega, by omega⟩ hf
