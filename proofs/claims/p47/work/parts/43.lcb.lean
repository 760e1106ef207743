/-! THE LAW, blocks [952, 912, 902, 838, 576, 530] (printed by gen/lawmain.py) -/
theorem dL_law_530 : decode cL_law 530 = .ok (.iand, 1) := by decide +kernel
theorem dL_law_531 : decode cL_law 531 = .ok (.istore 6, 2) := by decide +kernel
theorem dL_law_533 : decode cL_law 533 = .ok (.iload_n 2, 1) := by decide +kernel
theorem dL_law_534 : decode cL_law 534 = .ok (.iload 9, 2) := by decide +kernel
theorem dL_law_536 : decode cL_law 536 = .ok (.iload 10, 2) := by decide +kernel
theorem dL_law_538 : decode cL_law 538 = .ok (.invokestatic 137, 3) := by decide +kernel
theorem dL_law_541 : decode cL_law 541 = .ok (.iload 12, 2) := by decide +kernel
theorem dL_law_543 : decode cL_law 543 = .ok (.iadd, 1) := by decide +kernel
theorem dL_law_544 : decode cL_law 544 = .ok (.iconst 2, 1) := by decide +kernel
theorem dL_law_545 : decode cL_law 545 = .ok (.iadd, 1) := by decide +kernel
theorem dL_law_546 : decode cL_law 546 = .ok (.iload 13, 2) := by decide +kernel
theorem dL_law_548 : decode cL_law 548 = .ok (.iadd, 1) := by decide +kernel
theorem dL_law_549 : decode cL_law 549 = .ok (.istore 17, 2) := by decide +kernel
theorem dL_law_551 : decode cL_law 551 = .ok (.iload 9, 2) := by decide +kernel
theorem dL_law_553 : decode cL_law 553 = .ok (.istore 15, 2) := by decide +kernel
theorem dL_law_555 : decode cL_law 555 = .ok (.iconst 0, 1) := by decide +kernel
theorem dL_law_556 : decode cL_law 556 = .ok (.istore 18, 2) := by decide +kernel
theorem dL_law_558 : decode cL_law 558 = .ok (.aload 14, 2) := by decide +kernel
theorem dL_law_560 : decode cL_law 560 = .ok (.iload 9, 2) := by decide +kernel
theorem dL_law_562 : decode cL_law 562 = .ok (.baload, 1) := by decide +kernel
theorem dL_law_563 : decode cL_law 563 = .ok (.ifCond .eq 7, 3) := by decide +kernel
theorem dL_law_566 : decode cL_law 566 = .ok (.iconst 1, 1) := by decide +kernel
theorem dL_law_567 : decode cL_law 567 = .ok (.goto 4, 3) := by decide +kernel
theorem dL_law_570 : decode cL_law 570 = .ok (.iconst 0, 1) := by decide +kernel
theorem dL_law_571 : decode cL_law 571 = .ok (.istore 19, 2) := by decide +kernel
theorem dL_law_573 : decode cL_law 573 = .ok (.iconst 1, 1) := by decide +kernel
theorem dL_law_574 : decode cL_law 574 = .ok (.istore 20, 2) := by decide +kernel
theorem dL_law_576 : decode cL_law 576 = .ok (.iload 20, 2) := by decide +kernel
theorem dL_law_578 : decode cL_law 578 = .ok (.iload 17, 2) := by decide +kernel
theorem dL_law_580 : decode cL_law 580 = .ok (.if_icmp .gt 219, 3) := by decide +kernel
theorem dL_law_583 : decode cL_law 583 = .ok (.iload 6, 2) := by decide +kernel
theorem dL_law_585 : decode cL_law 585 = .ok (.aload_n 1, 1) := by decide +kernel
theorem dL_law_586 : decode cL_law 586 = .ok (.iconst 1, 1) := by decide +kernel
theorem dL_law_587 : decode cL_law 587 = .ok (.invokestatic 113, 3) := by decide +kernel
theorem dL_law_590 : decode cL_law 590 = .ok (.ifCond .lt 7, 3) := by decide +kernel
theorem dL_law_593 : decode cL_law 593 = .ok (.iconst 1, 1) := by decide +kernel
theorem dL_law_594 : decode cL_law 594 = .ok (.goto 4, 3) := by decide +kernel
theorem dL_law_597 : decode cL_law 597 = .ok (.iconst 0, 1) := by decide +kernel
theorem dL_law_799 : decode cL_law 799 = .ok (.iload 6, 2) := by decide +kernel
theorem dL_law_801 : decode cL_law 801 = .ok (.aload_n 1, 1) := by decide +kernel
theorem dL_law_802 : decode cL_law 802 = .ok (.iload 16, 2) := by decide +kernel
theorem dL_law_804 : decode cL_law 804 = .ok (.invokestatic 129, 3) := by decide +kernel
theorem dL_law_807 : decode cL_law 807 = .ok (.iload 17, 2) := by decide +kernel
theorem dL_law_809 : decode cL_law 809 = .ok (.if_icmp .ne 28, 3) := by decide +kernel
theorem dL_law_812 : decode cL_law 812 = .ok (.aload_n 1, 1) := by decide +kernel
theorem dL_law_813 : decode cL_law 813 = .ok (.iload 10, 2) := by decide +kernel
theorem dL_law_815 : decode cL_law 815 = .ok (.iload 9, 2) := by decide +kernel
theorem dL_law_817 : decode cL_law 817 = .ok (.invokestatic 143, 3) := by decide +kernel
theorem dL_law_820 : decode cL_law 820 = .ok (.iconst 1, 1) := by decide +kernel
theorem dL_law_821 : decode cL_law 821 = .ok (.if_icmp .ne 16, 3) := by decide +kernel
theorem dL_law_824 : decode cL_law 824 = .ok (.aload_n 1, 1) := by decide +kernel
theorem dL_law_825 : decode cL_law 825 = .ok (.iload 16, 2) := by decide +kernel
theorem dL_law_827 : decode cL_law 827 = .ok (.invokevirtual 145, 3) := by decide +kernel
theorem dL_law_830 : decode cL_law 830 = .ok (.ifCond .ne 7, 3) := by decide +kernel
theorem dL_law_833 : decode cL_law 833 = .ok (.iconst 1, 1) := by decide +kernel
theorem dL_law_834 : decode cL_law 834 = .ok (.goto 4, 3) := by decide +kernel
theorem dL_law_837 : decode cL_law 837 = .ok (.iconst 0, 1) := by decide +kernel
theorem dL_law_838 : decode cL_law 838 = .ok (.iand, 1) := by decide +kernel
theorem dL_law_839 : decode cL_law 839 = .ok (.istore 6, 2) := by decide +kernel
theorem dL_law_841 : decode cL_law 841 = .ok (.iload 6, 2) := by decide +kernel
theorem dL_law_843 : decode cL_law 843 = .ok (.aload_n 1, 1) := by decide +kernel
theorem dL_law_844 : decode cL_law 844 = .ok (.iload 10, 2) := by decide +kernel
theorem dL_law_846 : decode cL_law 846 = .ok (.iload 9, 2) := by decide +kernel
theorem dL_law_848 : decode cL_law 848 = .ok (.invokestatic 148, 3) := by decide +kernel
theorem dL_law_851 : decode cL_law 851 = .ok (.iload 16, 2) := by decide +kernel
theorem dL_law_853 : decode cL_law 853 = .ok (.if_icmp .ne 42, 3) := by decide +kernel
theorem dL_law_856 : decode cL_law 856 = .ok (.aload_n 1, 1) := by decide +kernel
theorem dL_law_857 : decode cL_law 857 = .ok (.iload 10, 2) := by decide +kernel
theorem dL_law_859 : decode cL_law 859 = .ok (.iload 9, 2) := by decide +kernel
theorem dL_law_861 : decode cL_law 861 = .ok (.invokestatic 148, 3) := by decide +kernel
theorem dL_law_864 : decode cL_law 864 = .ok (.ldc 20, 2) := by decide +kernel
theorem dL_law_866 : decode cL_law 866 = .ok (.if_icmp .ne 29, 3) := by decide +kernel
theorem dL_law_869 : decode cL_law 869 = .ok (.aload_n 1, 1) := by decide +kernel
theorem dL_law_870 : decode cL_law 870 = .ok (.iload 16, 2) := by decide +kernel
theorem dL_law_872 : decode cL_law 872 = .ok (.invokestatic 111, 3) := by decide +kernel
theorem dL_law_875 : decode cL_law 875 = .ok (.bipush 114, 2) := by decide +kernel
theorem dL_law_877 : decode cL_law 877 = .ok (.if_icmp .ne 18, 3) := by decide +kernel
theorem dL_law_880 : decode cL_law 880 = .ok (.aload_n 1, 1) := by decide +kernel
theorem dL_law_881 : decode cL_law 881 = .ok (.iload 10, 2) := by decide +kernel
theorem dL_law_883 : decode cL_law 883 = .ok (.iload 9, 2) := by decide +kernel
theorem dL_law_885 : decode cL_law 885 = .ok (.invokestatic 143, 3) := by decide +kernel
theorem dL_law_888 : decode cL_law 888 = .ok (.ifCond .ne 7, 3) := by decide +kernel
theorem dL_law_891 : decode cL_law 891 = .ok (.iconst 1, 1) := by decide +kernel
theorem dL_law_892 : decode cL_law 892 = .ok (.goto 4, 3) := by decide +kernel
theorem dL_law_895 : decode cL_law 895 = .ok (.iconst 0, 1) := by decide +kernel
theorem dL_law_896 : decode cL_law 896 = .ok (.iand, 1) := by decide +kernel
theorem dL_law_897 : decode cL_law 897 = .ok (.istore 6, 2) := by decide +kernel
theorem dL_law_899 : decode cL_law 899 = .ok (.iconst 0, 1) := by decide +kernel
theorem dL_law_900 : decode cL_law 900 = .ok (.istore 20, 2) := by decide +kernel
theorem dL_law_902 : decode cL_law 902 = .ok (.iload 20, 2) := by decide +kernel
theorem dL_law_904 : decode cL_law 904 = .ok (.iload 4, 2) := by decide +kernel
theorem dL_law_906 : decode cL_law 906 = .ok (.if_icmp .ge 95, 3) := by decide +kernel
theorem dL_law_909 : decode cL_law 909 = .ok (.iconst 0, 1) := by decide +kernel
theorem dL_law_910 : decode cL_law 910 = .ok (.istore 21, 2) := by decide +kernel
theorem dL_law_912 : decode cL_law 912 = .ok (.iload 21, 2) := by decide +kernel
theorem dL_law_914 : decode cL_law 914 = .ok (.iconst 4, 1) := by decide +kernel
theorem dL_law_915 : decode cL_law 915 = .ok (.if_icmp .ge 80, 3) := by decide +kernel
theorem dL_law_918 : decode cL_law 918 = .ok (.iload 21, 2) := by decide +kernel
theorem dL_law_920 : decode cL_law 920 = .ok (.ifCond .ne 8, 3) := by decide +kernel
theorem dL_law_923 : decode cL_law 923 = .ok (.bipush 101, 2) := by decide +kernel
theorem dL_law_925 : decode cL_law 925 = .ok (.goto 27, 3) := by decide +kernel
theorem dL_law_928 : decode cL_law 928 = .ok (.iload 21, 2) := by decide +kernel
theorem dL_law_930 : decode cL_law 930 = .ok (.iconst 1, 1) := by decide +kernel
theorem dL_law_931 : decode cL_law 931 = .ok (.if_icmp .ne 8, 3) := by decide +kernel
theorem dL_law_934 : decode cL_law 934 = .ok (.bipush 119, 2) := by decide +kernel
theorem dL_law_936 : decode cL_law 936 = .ok (.goto 16, 3) := by decide +kernel
theorem dL_law_939 : decode cL_law 939 = .ok (.iload 21, 2) := by decide +kernel
theorem dL_law_941 : decode cL_law 941 = .ok (.iconst 2, 1) := by decide +kernel
theorem dL_law_942 : decode cL_law 942 = .ok (.if_icmp .ne 8, 3) := by decide +kernel
theorem dL_law_945 : decode cL_law 945 = .ok (.bipush 115, 2) := by decide +kernel
theorem dL_law_947 : decode cL_law 947 = .ok (.goto 5, 3) := by decide +kernel
theorem dL_law_950 : decode cL_law 950 = .ok (.bipush 110, 2) := by decide +kernel
theorem dL_law_952 : decode cL_law 952 = .ok (.istore 22, 2) := by decide +kernel
theorem dL_law_954 : decode cL_law 954 = .ok (.iload 6, 2) := by decide +kernel
theorem dL_law_956 : decode cL_law 956 = .ok (.aload_n 1, 1) := by decide +kernel
theorem dL_law_957 : decode cL_law 957 = .ok (.iload 20, 2) := by decide +kernel
theorem dL_law_959 : decode cL_law 959 = .ok (.iload 22, 2) := by decide +kernel
theorem dL_law_961 : decode cL_law 961 = .ok (.iconst 0, 1) := by decide +kernel
theorem dL_law_962 : decode cL_law 962 = .ok (.invokestatic 150, 3) := by decide +kernel
theorem dL_law_965 : decode cL_law 965 = .ok (.ifCond .ne 20, 3) := by decide +kernel
theorem dL_law_968 : decode cL_law 968 = .ok (.aload_n 1, 1) := by decide +kernel
theorem dL_law_969 : decode cL_law 969 = .ok (.iload 20, 2) := by decide +kernel
theorem dL_law_971 : decode cL_law 971 = .ok (.iload 22, 2) := by decide +kernel
theorem dL_law_973 : decode cL_law 973 = .ok (.iconst 0, 1) := by decide +kernel
theorem dL_law_974 : decode cL_law 974 = .ok (.invokestatic 153, 3) := by decide +kernel
theorem dL_law_977 : decode cL_law 977 = .ok (.iconst (-1), 1) := by decide +kernel
theorem dL_law_978 : decode cL_law 978 = .ok (.if_icmp .ne 7, 3) := by decide +kernel
theorem dL_law_981 : decode cL_law 981 = .ok (.iconst 1, 1) := by decide +kernel
theorem dL_law_982 : decode cL_law 982 = .ok (.goto 4, 3) := by decide +kernel
theorem dL_law_985 : decode cL_law 985 = .ok (.iconst 0, 1) := by decide +kernel
theorem dL_law_986 : decode cL_law 986 = .ok (.iand, 1) := by decide +kernel
theorem dL_law_987 : decode cL_law 987 = .ok (.istore 6, 2) := by decide +kernel
theorem dL_law_989 : decode cL_law 989 = .ok (.iinc 21 1, 3) := by decide +kernel
theorem dL_law_992 : decode cL_law 992 = .ok (.goto (-80), 3) := by decide +kernel
theorem dL_law_995 : decode cL_law 995 = .ok (.iinc 20 1, 3) := by decide +kernel
theorem dL_law_998 : decode cL_law 998 = .ok (.goto (-96), 3) := by decide +kernel
theorem dL_law_1001 : decode cL_law 1001 = .ok (.iinc 8 1, 3) := by decide +kernel
theorem dL_law_1004 : decode cL_law 1004 = .ok (.goto (-817), 3) := by decide +kernel
def f_L_law_b952 (sL : Nat) (xs : Nat → Int32) (K187 : me_M → Int32 → Int32 → Int32 → Int32 → Int32 → Int32 → Option (me_M × Int32)) (K902 : me_M → Int32 → Int32 → Int32 → Int32 → Int32 → Int32 → Int32 → Option (me_M × Int32)) (K912 : me_M → Int32 → Int32 → Int32 → Int32 → Int32 → Int32 → Int32 → Int32 → Option (me_M × Int32)) (μ : me_M) (v2 : Int32) (v4 : Int32) (v5 : Int32) (v6 : Int32) (v7 : Int32) (v8 : Int32) (v20 : Int32) (v21 : Int32) (s0 : Int32) : Option (me_M × Int32) :=
  me_b2 (f_L_row μ v20 s0 (0 : Int32)) (fun μ2 r1 =>
  if r1 = 0 then
  (me_b2 (f_L_owner μ2 v20 s0 (0 : Int32)) (fun μ7 r6 =>
  if r6 = (-1 : Int32) then
  (me_lt ((v6 &&& (1 : Int32))) (fun x11 =>
  me_lt (me_inc v21 (1)) (fun x12 =>
  K912 μ7 v2 v4 v5 x11 v7 v8 v20 x12)))
  else
  (me_lt ((v6 &&& (0 : Int32))) (fun x9 =>
  me_lt (me_inc v21 (1)) (fun x10 =>
  K912 μ7 v2 v4 v5 x9 v7 v8 v20 x10)))))
  else
  (me_lt ((v6 &&& (0 : Int32))) (fun x4 =>
  me_lt (me_inc v21 (1)) (fun x5 =>
  K912 μ2 v2 v4 v5 x4 v7 v8 v20 x5))))
set_option maxHeartbeats 4000000 in
set_option maxRecDepth 100000 in
theorem z_L_law_b952 {X : me_X} {B : me_B} {ret0 : Option FieldType} {K0 q : Nat} {NR SR : Nat} {NB187 SB187 : Nat} {K187 : me_M → Int32 → Int32 → Int32 → Int32 → Int32 → Int32 → Option (me_M × Int32)} {NB902 SB902 : Nat} {K902 : me_M → Int32 → Int32 → Int32 → Int32 → Int32 → Int32 → Int32 → Option (me_M × Int32)} {NB912 SB912 : Nat} {K912 : me_M → Int32 → Int32 → Int32 → Int32 → Int32 → Int32 → Int32 → Int32 → Option (me_M × Int32)} {nc ns : Nat} {μ : me_M} {v2 : Int32} {v4 : Int32} {v5 : Int32} {v6 : Int32} {v7 : Int32} {v8 : Int32} {v20 : Int32} {v21 : Int32} {s0 : Int32} {r : me_M × Int32} (C : me_C X (me_tb B K0 q) RL cL_law 23 ret0) (hroom : me_Rm X 12 462 618549 7246051) (hB : me_St (me_tb B K0 q)) (hz : ∀ k, 36 ≤ k → B.2.1 k = 0) (hJ0 : me_J B) (hk1 : K0 < 53) (hR : ∀ (nc ns : Nat), nc ≤ NR → ns ≤ SR → me_Z X B nc ns r.1 1316 [] [me_i r.2]) (hNR : NR ≤ 618549 ∧ SR ≤ 7246051) (hK187 : ∀ (nc ns : Nat) (μ : me_M) (v2 : Int32) (v4 : Int32) (v5 : Int32) (v6 : Int32) (v7 : Int32) (v8 : Int32), nc ≤ NB187 → ns ≤ SB187 → K187 μ v2 v4 v5 v6 v7 v8 = some r → me_Z X B nc ns μ 187 [(0, .inl (.ref (B.1 202 0))), (1, me_r 0 0), (2, me_i v2), (4, me_i v4), (5, me_i v5), (6, me_i v6), (7, me_i v7), (8, me_i v8)] []) (hN187 : NB187 ≤ 618549 ∧ SB187 ≤ 7246051) (hK902 : ∀ (nc ns : Nat) (μ : me_M) (v2 : Int32) (v4 : Int32) (v5 : Int32) (v6 : Int32) (v7 : Int32) (v8 : Int32) (v20 : Int32), 36 + me_ix v4 = K0 → nc ≤ NB902 → ns ≤ SB902 → K902 μ v2 v4 v5 v6 v7 v8 v20 = some r → me_Z X (me_tb B K0 q) nc ns μ 902 [(0, .inl (.ref (B.1 202 0))), (1, me_r 0 0), (2, me_i v2), (4, me_i v4), (5, me_i v5), (6, me_i v6), (7, me_i v7), (8, me_i v8), (20, me_i v20)] []) (hN902 : NB902 ≤ 618549 ∧ SB902 ≤ 7246051) (hK912 : ∀ (nc ns : Nat) (μ : me_M) (v2 : Int32) (v4 : Int32) (v5 : Int32) (v6 : Int32) (v7 : Int32) (v8 : Int32) (v20 : Int32) (v21 : Int32), 36 + me_ix v4 = K0 → nc ≤ NB912 → ns ≤ SB912 → K912 μ v2 v4 v5 v6 v7 v8 v20 v21 = some r → me_Z X (me_tb B K0 q) nc ns μ 912 [(0, .inl (.ref (B.1 202 0))), (1, me_r 0 0), (2, me_i v2), (4, me_i v4), (5, me_i v5), (6, me_i v6), (7, me_i v7), (8, me_i v8), (20, me_i v20), (21, me_i v21)] []) (hN912 : NB912 ≤ 618549 ∧ SB912 ≤ 7246051) (hk0 : 36 + me_ix v4 = K0) (hb912 : (nc + 4 ≤ NB912 ∧ ns + 24 ≤ SB912)) (hf : f_L_law_b952 B.2.2.2.1 B.2.2.2.2 K187 K902 K912 μ v2 v4 v5 v6 v7 v8 v20 v21 s0 = some r) : me_Z X (me_tb B K0 q) nc ns μ 952 [(0, .inl (.ref (B.1 202 0))), (1, me_r 0 0), (2, me_i v2), (4, me_i v4), (5, me_i v5), (6, me_i v6), (7, me_i v7), (8, me_i v8), (20, me_i v20), (21, me_i v21)] [me_i s0] := by
  subst hk0
  unfold f_L_law_b952 at hf
  refine me_istore C dL_law_952 (by decide) (L' := [(22, me_i s0), (0, .inl (.ref (B.1 202 0))), (1, me_r 0 0), (2, me_i v2), (4, me_i v4), (5, me_i v5), (6, me_i v6), (7, me_i v7), (8, me_i v8), (20, me_i v20), (21, me_i v21)]) rfl ?_
  refine me_iload C dL_law_954 rfl ?_
  refine me_aload_n C 1 (Or.inr (Or.inl ⟨_, rfl⟩)) dL_law_956 rfl rfl ?_
  refine me_iload C dL_law_957 rfl ?_
  refine me_iload C dL_law_959 rfl ?_
  refine me_iconst C (v := 0) dL_law_961 (by decide) ?_
  obtain ⟨μ2, r1, h_r1, hf⟩ := me_bs2 hf
  refine me_callSH C hroom (n := 4) (As := [me_r 0 0, me_i v20, me_i s0, me_i (0 : Int32)]) (st := [me_i v6]) (nc + 2) (ns + 12) (c_L_row hB h_r1) mh_L_row iL ⟨by decide +kernel, by decide +kernel⟩ (by decide +kernel) si_L_row ml_L_150 dL_law_962 rfl rfl ⟨by decide, by decide⟩ ⟨by omega, by omega, by omega, by omega⟩ (Nat.le_of_ble_eq_true rfl) ?_
  refine me_if_ne C (tgt := 985) dL_law_965 (by decide) (fun c3 => ?_) (fun c3 => ?_)
  · replace hf := me_in c3 hf
    refine me_iconst C (v := 0) dL_law_985 (by decide) ?_
    refine me_iand C dL_law_986 ?_
    obtain ⟨x4, e_x4, hf⟩ := me_lts hf
    refine me_nm e_x4 ?_
    refine me_istore C dL_law_987 (by decide) (L' := [(6, me_i x4), (22, me_i s0), (0, .inl (.ref (B.1 202 0))), (1, me_r 0 0), (2, me_i v2), (4, me_i v4), (5, me_i v5), (7, me_i v7), (8, me_i v8), (20, me_i v20), (21, me_i v21)]) rfl ?_
    obtain ⟨x5, e_x5, hf⟩ := me_lts hf
    refine me_iinc C (v := x5) (L' := [(21, me_i x5), (6, me_i x4), (22, me_i s0), (0, .inl (.ref (B.1 202 0))), (1, me_r 0 0), (2, me_i v2), (4, me_i v4), (5, me_i v5), (7, me_i v7), (8, me_i v8), (20, me_i v20)]) dL_law_989 rfl e_x5.symm (by decide) rfl ?_
    refine me_goto C (tgt := 912) dL_law_992 (by decide) ?_
    refine me_dropI [(0, .inl (.ref (B.1 202 0))), (1, me_r 0 0), (2, me_i v2), (4, me_i v4), (5, me_i v5), (6, me_i x4), (7, me_i v7), (8, me_i v8), (20, me_i v20), (21, me_i x5)] [3, 4, 5, 6, 7, 1, 8, 9, 10, 0] rfl ?_
    exact hK912 (nc + 2) (ns + 12) μ2 v2 v4 v5 x4 v7 v8 v20 x5 rfl (by omega) (by omega) hf
  · replace hf := me_ip c3 hf
    refine me_aload_n C 1 (Or.inr (Or.inl ⟨_, rfl⟩)) dL_law_968 rfl rfl ?_
    refine me_iload C dL_law_969 rfl ?_
    refine me_iload C dL_law_971 rfl ?_
    refine me_iconst C (v := 0) dL_law_973 (by decide) ?_
    obtain ⟨μ7, r6, h_r6, hf⟩ := me_bs2 hf
    refine me_callSH C hroom (n := 4) (As := [me_r 0 0, me_i v20, me_i s0, me_i (0 : Int32)]) (st := [me_i v6]) (nc + 4) (ns + 24) (c_L_owner hB h_r6) mh_L_owner iL ⟨by decide +kernel, by decide +kernel⟩ (by decide +kernel) si_L_owner ml_L_153 dL_law_974 rfl rfl ⟨by decide, by decide⟩ ⟨by omega, by omega, by omega, by omega⟩ (Nat.le_of_ble_eq_true rfl) ?_
    refine me_iconst C (v := -1) dL_law_977 (by decide) ?_
    refine me_icmp_ne C (tgt := 985) dL_law_978 (by decide) (fun c8 => ?_) (fun c8 => ?_)
    · replace hf := me_in c8 hf
      refine me_iconst C (v := 0) dL_law_985 (by decide) ?_
      refine me_iand C dL_law_986 ?_
      obtain ⟨x9, e_x9, hf⟩ := me_lts hf
      refine me_nm e_x9 ?_
      refine me_istore C dL_law_987 (by decide) (L' := [(6, me_i x9), (22, me_i s0), (0, .inl (.ref (B.1 202 0))), (1, me_r 0 0), (2, me_i v2), (4, me_i v4), (5, me_i v5), (7, me_i v7), (8, me_i v8), (20, me_i v20), (21, me_i v21)]) rfl ?_
      obtain ⟨x10, e_x10, hf⟩ := me_lts hf
      refine me_iinc C (v := x10) (L' := [(21, me_i x10), (6, me_i x9), (22, me_i s0), (0, .inl (.ref (B.1 202 0))), (1, me_r 0 0), (2, me_i v2), (4, me_i v4), (5, me_i v5), (7, me_i v7), (8, me_i v8), (20, me_i v20)]) dL_law_989 rfl e_x10.symm (by decide) rfl ?_
      refine me_goto C (tgt := 912) dL_law_992 (by decide) ?_
      refine me_dropI [(0, .inl (.ref (B.1 202 0))), (1, me_r 0 0), (2, me_i v2), (4, me_i v4), (5, me_i v5), (6, me_i x9), (7, me_i v7), (8, me_i v8), (20, me_i v20), (21, me_i x10)] [3, 4, 5, 6, 7, 1, 8, 9, 10, 0] rfl ?_
      exact hK912 (nc + 4) (ns + 24) μ7 v2 v4 v5 x9 v7 v8 v20 x10 rfl (by omega) (by omega) hf
    · replace hf := me_ip c8 hf
      refine me_iconst C (v := 1) dL_law_981 (by decide) ?_
      refine me_goto C (tgt := 986) dL_law_982 (by decide) ?_
      refine me_iand C dL_law_986 ?_
      obtain ⟨x11, e_x11, hf⟩ := me_lts hf
      refine me_nm e_x11 ?_
      refine me_istore C dL_law_987 (by decide) (L' := [(6, me_i x11), (22, me_i s0), (0, .inl (.ref (B.1 202 0))), (1, me_r 0 0), (2, me_i v2), (4, me_i v4), (5, me_i v5), (7, me_i v7), (8, me_i v8), (20, me_i v20), (21, me_i v21)]) rfl ?_
      obtain ⟨x12, e_x12, hf⟩ := me_lts hf
      refine me_iinc C (v := x12) (L' := [(21, me_i x12), (6, me_i x11), (22, me_i s0), (0, .inl (.ref (B.1 202 0))), (1, me_r 0 0), (2, me_i v2), (4, me_i v4), (5, me_i v5), (7, me_i v7), (8, me_i v8), (20, me_i v20)]) dL_law_989 rfl e_x12.symm (by decide) rfl ?_
      refine me_goto C (tgt := 912) dL_law_992 (by decide) ?_
      refine me_dropI [(0, .inl (.ref (B.1 202 0))), (1, me_r 0 0), (2, me_i v2), (4, me_i v4), (5, me_i v5), (6, me_i x11), (7, me_i v7), (8, me_i v8), (20, me_i v20), (21, me_i x12)] [3, 4, 5, 6, 7, 1, 8, 9, 10, 0] rfl ?_
      exact hK912 (nc + 4) (ns + 24) μ7 v2 v4 v5 x11 v7 v8 v20 x12 rfl (by omega) (by omega) hf
def f_L_law_b912 (sL : Nat) (xs : Nat → Int32) (K187 : me_M → Int32 → Int32 → Int32 → Int32 → Int32 → Int32 → Option (me_M × Int32)) (K902 : me_M → Int32 → Int32 → Int32 → Int32 → Int32 → Int32 → Int32 → Option (me_M × Int32)) (K912 : me_M → Int32 → Int32 → Int32 → Int32 → Int32 → Int32 → Int32 → Int32 → Option (me_M × Int32)) (μ : me_M) (v2 : Int32) (v4 : Int32) (v5 : Int32) (v6 : Int32) (v7 : Int32) (v8 : Int32) (v20 : Int32) (v21 : Int32) : Option (me_M × Int32) :=
  if (4 : Int32) ≤ v21 then
  (me_lt (me_inc v20 (1)) (fun x2 =>
  K902 μ v2 v4 v5 v6 v7 v8 x2))
  else
  (if v21 = 0 then
  (f_L_law_b952 sL xs K187 K902 K912 μ v2 v4 v5 v6 v7 v8 v20 v21 (101 : Int32))
  else
  (if v21 = (1 : Int32) then
  (f_L_law_b952 sL xs K187 K902 K912 μ v2 v4 v5 v6 v7 v8 v20 v21 (119 : Int32))
  else
  (if v21 = (2 : Int32) then
  (f_L_law_b952 sL xs K187 K902 K912 μ v2 v4 v5 v6 v7 v8 v20 v21 (115 : Int32))
  else
  (f_L_law_b952 sL xs K187 K902 K912 μ v2 v4 v5 v6 v7 v8 v20 v21 (110 : Int32)))))
set_option maxHeartbeats 4000000 in
set_option maxRecDepth 100000 in
theorem z_L_law_b912 {X : me_X} {B : me_B} {ret0 : Option FieldType} {K0 q : Nat} {NR SR : Nat} {NB187 SB187 : Nat} {K187 : me_M → Int32 → Int32 → Int32 → Int32 → Int32 → Int32 → Option (me_M × Int32)} {NB902 SB902 : Nat} {K902 : me_M → Int32 → Int32 → Int32 → Int32 → Int32 → Int32 → Int32 → Option (me_M × Int32)} {NB912 SB912 : Nat} {K912 : me_M → Int32 → Int32 → Int32 → Int32 → Int32 → Int32 → Int32 → Int32 → Option (me_M × Int32)} {nc ns : Nat} {μ : me_M} {v2 : Int32} {v4 : Int32} {v5 : Int32} {v6 : Int32} {v7 : Int32} {v8 : Int32} {v20 : Int32} {v21 : Int32} {r : me_M × Int32} (C : me_C X (me_tb B K0 q) RL cL_law 23 ret0) (hroom : me_Rm X 12 462 618549 7246051) (hB : me_St (me_tb B K0 q)) (hz : ∀ k, 36 ≤ k → B.2.1 k = 0) (hJ0 : me_J B) (hk1 : K0 < 53) (hR : ∀ (nc ns : Nat), nc ≤ NR → ns ≤ SR → me_Z X B nc ns r.1 1316 [] [me_i r.2]) (hNR : NR ≤ 618549 ∧ SR ≤ 7246051) (hK187 : ∀ (nc ns : Nat) (μ : me_M) (v2 : Int32) (v4 : Int32) (v5 : Int32) (v6 : Int32) (v7 : Int32) (v8 : Int32), nc ≤ NB187 → ns ≤ SB187 → K187 μ v2 v4 v5 v6 v7 v8 = some r → me_Z X B nc ns μ 187 [(0, .inl (.ref (B.1 202 0))), (1, me_r 0 0), (2, me_i v2), (4, me_i v4), (5, me_i v5), (6, me_i v6), (7, me_i v7), (8, me_i v8)] []) (hN187 : NB187 ≤ 618549 ∧ SB187 ≤ 7246051) (hK902 : ∀ (nc ns : Nat) (μ : me_M) (v2 : Int32) (v4 : Int32) (v5 : Int32) (v6 : Int32) (v7 : Int32) (v8 : Int32) (v20 : Int32), 36 + me_ix v4 = K0 → nc ≤ NB902 → ns ≤ SB902 → K902 μ v2 v4 v5 v6 v7 v8 v20 = some r → me_Z X (me_tb B K0 q) nc ns μ 902 [(0, .inl (.ref (B.1 202 0))), (1, me_r 0 0), (2, me_i v2), (4, me_i v4), (5, me_i v5), (6, me_i v6), (7, me_i v7), (8, me_i v8), (20, me_i v20)] []) (hN902 : NB902 ≤ 618549 ∧ SB902 ≤ 7246051) (hK912 : ∀ (nc ns : Nat) (μ : me_M) (v2 : Int32) (v4 : Int32) (v5 : Int32) (v6 : Int32) (v7 : Int32) (v8 : Int32) (v20 : Int32) (v21 : Int32), 36 + me_ix v4 = K0 → nc ≤ NB912 → ns ≤ SB912 → K912 μ v2 v4 v5 v6 v7 v8 v20 v21 = some r → me_Z X (me_tb B K0 q) nc ns μ 912 [(0, .inl (.ref (B.1 202 0))), (1, me_r 0 0), (2, me_i v2), (4, me_i v4), (5, me_i v5), (6, me_i v6), (7, me_i v7), (8, me_i v8), (20, me_i v20), (21, me_i v21)] []) (hN912 : NB912 ≤ 618549 ∧ SB912 ≤ 7246051) (hk0 : 36 + me_ix v4 = K0) (hb902 : (nc + 0 ≤ NB902 ∧ ns + 0 ≤ SB902)) (hb912 : (nc + 4 ≤ NB912 ∧ ns + 24 ≤ SB912)) (hf : f_L_law_b912 B.2.2.2.1 B.2.2.2.2 K187 K902 K912 μ v2 v4 v5 v6 v7 v8 v20 v21 = some r) : me_Z X (me_tb B K0 q) nc ns μ 912 [(0, .inl (.ref (B.1 202 0))), (1, me_r 0 0), (2, me_i v2), (4, me_i v4), (5, me_i v5), (6, me_i v6), (7, me_i v7), (8, me_i v8), (20, me_i v20), (21, me_i v21)] [] := by
  subst hk0
  unfold f_L_law_b912 at hf
  refine me_iload C dL_law_912 rfl ?_
  refine me_iconst C (v := 4) dL_law_914 (by decide) ?_
  refine me_icmp_ge C (tgt := 995) dL_law_915 (by decide) (fun c1 => ?_) (fun c1 => ?_)
  · replace hf := me_ip c1 hf
    obtain ⟨x2, e_x2, hf⟩ := me_lts hf
    refine me_iinc C (v := x2) (L' := [(20, me_i x2), (0, .inl (.ref (B.1 202 0))), (1, me_r 0 0), (2, me_i v2), (4, me_i v4), (5, me_i v5), (6, me_i v6), (7, me_i v7), (8, me_i v8), (21, me_i v21)]) dL_law_995 rfl e_x2.symm (by decide) rfl ?_
    refine me_goto C (tgt := 902) dL_law_998 (by decide) ?_
    refine me_dropI [(0, .inl (.ref (B.1 202 0))), (1, me_r 0 0), (2, me_i v2), (4, me_i v4), (5, me_i v5), (6, me_i v6), (7, me_i v7), (8, me_i v8), (20, me_i x2)] [1, 2, 3, 4, 5, 6, 7, 8, 0] rfl ?_
    exact hK902 nc ns μ v2 v4 v5 v6 v7 v8 x2 rfl (by omega) (by omega) hf
  · replace hf := me_in c1 hf
    refine me_iload C dL_law_918 rfl ?_
    refine me_if_ne C (tgt := 928) dL_law_920 (by decide) (fun c3 => ?_) (fun c3 => ?_)
    · replace hf := me_in c3 hf
      refine me_iload C dL_law_928 rfl ?_
      refine me_iconst C (v := 1) dL_law_930 (by decide) ?_
      refine me_icmp_ne C (tgt := 939) dL_law_931 (by decide) (fun c4 => ?_) (fun c4 => ?_)
      · replace hf := me_in c4 hf
        refine me_iload C dL_law_939 rfl ?_
        refine me_iconst C (v := 2) dL_law_941 (by decide) ?_
        refine me_icmp_ne C (tgt := 950) dL_law_942 (by decide) (fun c5 => ?_) (fun c5 => ?_)
        · replace hf := me_in c5 hf
          refine me_bipush C (v := 110) dL_law_950 (by decide) ?_
          refine me_dropI [(0, .inl (.ref (B.1 202 0))), (1, me_r 0 0), (2, me_i v2), (4, me_i v4), (5, me_i v5), (6, me_i v6), (7, me_i v7), (8, me_i v8), (20, me_i v20), (21, me_i v21)] [0, 1, 2, 3, 4, 5, 6, 7, 8, 9] rfl ?_
          exact z_L_law_b952 C hroom hB hz hJ0 hk1 hR hNR hK187 hN187 hK902 hN902 hK912 hN912 (nc := nc) (ns := ns) rfl ⟨by omega, by omega⟩ hf
        · replace hf := me_ip c5 hf
          refine me_bipush C (v := 115) dL_law_945 (by decide) ?_
          refine me_goto C (tgt := 952) dL_law_947 (by decide) ?_
          refine me_dropI [(0, .inl (.ref (B.1 202 0))), (1, me_r 0 0), (2, me_i v2), (4, me_i v4), (5, me_i v5), (6, me_i v6), (7, me_i v7), (8, me_i v8), (20, me_i v20), (21, me_i v21)] [0, 1, 2, 3, 4, 5, 6, 7, 8, 9] rfl ?_
          exact z_L_law_b952 C hroom hB hz hJ0 hk1 hR hNR hK187 hN187 hK902 hN902 hK912 hN912 (nc := nc) (ns := ns) rfl ⟨by omega, by omega⟩ hf
      · replace hf := me_ip c4 hf
        refine me_bipush C (v := 119) dL_law_934 (by decide) ?_
        refine me_goto C (tgt := 952) dL_law_936 (by decide) ?_
        refine me_dropI [(0, .inl (.ref (B.1 202 0))), (1, me_r 0 0), (2, me_i v2), (4, me_i v4), (5, me_i v5), (6, me_i v6), (7, me_i v7), (8, me_i v8), (20, me_i v20), (21, me_i v21)] [0, 1, 2, 3, 4, 5, 6, 7, 8, 9] rfl ?_
        exact z_L_law_b952 C hroom hB hz hJ0 hk1 hR hNR hK187 hN187 hK902 hN902 hK912 hN912 (nc := nc) (ns := ns) rfl ⟨by omega, by omega⟩ hf
    · replace hf := me_ip c3 hf
      refine me_bipush C (v := 101) dL_law_923 (by decide) ?_
      refine me_goto C (tgt := 952) dL_law_925 (by decide) ?_
      refine me_dropI [(0, .inl (.ref (B.1 202 0))), (1, me_r 0 0), (2, me_i v2), (4, me_i v4), (5, me_i v5), (6, me_i v6), (7, me_i v7), (8, me_i v8), (20, me_i v20), (21, me_i v21)] [0, 1, 2, 3, 4, 5, 6, 7, 8, 9] rfl ?_
      exact z_L_law_b952 C hroom hB hz hJ0 hk1 hR hNR hK187 hN187 hK902 hN902 hK912 hN912 (nc := nc) (ns := ns) rfl ⟨by omega, by omega⟩ hf
def me_F912 : Nat := 8
def f_L_law_h912 (sL : Nat) (xs : Nat → Int32) (K187 : me_M → Int32 → Int32 → Int32 → Int32 → Int32 → Int32 → Option (me_M × Int32)) (K902 : me_M → Int32 → Int32 → Int32 → Int32 → Int32 → Int32 → Int32 → Option (me_M × Int32)) : Nat → me_M → Int32 → Int32 → Int32 → Int32 → Int32 → Int32 → Int32 → Int32 → Option (me_M × Int32)
  | 0, _, _, _, _, _, _, _, _, _ => none
  | n + 1, μ, v2, v4, v5, v6, v7, v8, v20, v21 => f_L_law_b912 sL xs K187 K902 (f_L_law_h912 sL xs K187 K902 n) μ v2 v4 v5 v6 v7 v8 v20 v21
set_option maxHeartbeats 4000000 in
set_option maxRecDepth 100000 in
theorem z_L_law_h912 {X : me_X} {B : me_B} {ret0 : Option FieldType} {K0 q : Nat} {NR SR : Nat} {NB187 SB187 : Nat} {K187 : me_M → Int32 → Int32 → Int32 → Int32 → Int32 → Int32 → Option (me_M × Int32)} {NB902 SB902 : Nat} {K902 : me_M → Int32 → Int32 → Int32 → Int32 → Int32 → Int32 → Int32 → Option (me_M × Int32)} {r : me_M × Int32} (C : me_C X (me_tb B K0 q) RL cL_law 23 ret0) (hroom : me_Rm X 12 462 618549 7246051) (hB : me_St (me_tb B K0 q)) (hz : ∀ k, 36 ≤ k → B.2.1 k = 0) (hJ0 : me_J B) (hk1 : K0 < 53) (hR : ∀ (nc ns : Nat), nc ≤ NR → ns ≤ SR → me_Z X B nc ns r.1 1316 [] [me_i r.2]) (hNR : NR ≤ 618549 ∧ SR ≤ 7246051) (hK187 : ∀ (nc ns : Nat) (μ : me_M) (v2 : Int32) (v4 : Int32) (v5 : Int32) (v6 : Int32) (v7 : Int32) (v8 : Int32), nc ≤ NB187 → ns ≤ SB187 → K187 μ v2 v4 v5 v6 v7 v8 = some r → me_Z X B nc ns μ 187 [(0, .inl (.ref (B.1 202 0))), (1, me_r 0 0), (2, me_i v2), (4, me_i v4), (5, me_i v5), (6, me_i v6), (7, me_i v7), (8, me_i v8)] []) (hN187 : NB187 ≤ 618549 ∧ SB187 ≤ 7246051) (hK902 : ∀ (nc ns : Nat) (μ : me_M) (v2 : Int32) (v4 : Int32) (v5 : Int32) (v6 : Int32) (v7 : Int32) (v8 : Int32) (v20 : Int32), 36 + me_ix v4 = K0 → nc ≤ NB902 → ns ≤ SB902 → K902 μ v2 v4 v5 v6 v7 v8 v20 = some r → me_Z X (me_tb B K0 q) nc ns μ 902 [(0, .inl (.ref (B.1 202 0))), (1, me_r 0 0), (2, me_i v2), (4, me_i v4), (5, me_i v5), (6, me_i v6), (7, me_i v7), (8, me_i v8), (20, me_i v20)] []) (hN902 : NB902 ≤ 618549 ∧ SB902 ≤ 7246051) : ∀ (n nc ns : Nat) (μ : me_M) (v2 : Int32) (v4 : Int32) (v5 : Int32) (v6 : Int32) (v7 : Int32) (v8 : Int32) (v20 : Int32) (v21 : Int32), 36 + me_ix v4 = K0 → (nc + n * 4 + 0 ≤ NB902 ∧ ns + n * 24 + 0 ≤ SB902) → f_L_law_h912 B.2.2.2.1 B.2.2.2.2 K187 K902 n μ v2 v4 v5 v6 v7 v8 v20 v21 = some r → me_Z X (me_tb B K0 q) nc ns μ 912 [(0, .inl (.ref (B.1 202 0))), (1, me_r 0 0), (2, me_i v2), (4, me_i v4), (5, me_i v5), (6, me_i v6), (7, me_i v7), (8, me_i v8), (20, me_i v20), (21, me_i v21)] [] := by
  intro n
  induction n with
  | zero => intro nc ns μ v2 v4 v5 v6 v7 v8 v20 v21 hk0 hb902 h; exact absurd (show (none : Option (me_M × Int32)) = some r from h) (fun q => by cases q)
  | succ n ih =>
    intro nc ns μ v2 v4 v5 v6 v7 v8 v20 v21 hk0 hb902 h
    exact z_L_law_b912 (NB912 := nc + 4) (SB912 := ns + 24) C hroom hB hz hJ0 hk1 hR hNR hK187 hN187 hK902 hN902 (fun nc' ns' μ v2 v4 v5 v6 v7 v8 v20 v21 hk0 h1 h2 h3 => ih nc' ns' μ v2 v4 v5 v6 v7 v8 v20 v21 hk0 ⟨by omega, by omega⟩ h3) ⟨by omega, by omega⟩ hk0 ⟨by omega, by omega⟩ ⟨Nat.le_refl _, Nat.le_refl _⟩ h
def f_L_law_b902 (sL : Nat) (xs : Nat → Int32) (K187 : me_M → Int32 → Int32 → Int32 → Int32 → Int32 → Int32 → Option (me_M × Int32)) (K902 : me_M → Int32 → Int32 → Int32 → Int32 → Int32 → Int32 → Int32 → Option (me_M × Int32)) (μ : me_M) (v2 : Int32) (v4 : Int32) (v5 : Int32) (v6 : Int32) (v7 : Int32) (v8 : Int32) (v20 : Int32) : Option (me_M × Int32) :=
  if v4 ≤ v20 then
  (me_lt (me_inc v8 (1)) (fun x2 =>
  K187 μ v2 v4 v5 v6 v7 x2))
  else
  (f_L_law_h912 sL xs K187 K902 me_F912 μ v2 v4 v5 v6 v7 v8 v20 (0 : Int32))
set_option maxHeartbeats 4000000 in
set_option maxRecDepth 100000 in
theorem z_L_law_b902 {X : me_X} {B : me_B} {ret0 : Option FieldType} {K0 q : Nat} {NR SR : Nat} {NB187 SB187 : Nat} {K187 : me_M → Int32 → Int32 → Int32 → Int32 → Int32 → Int32 → Option (me_M × Int32)} {NB902 SB902 : Nat} {K902 : me_M → Int32 → Int32 → Int32 → Int32 → Int32 → Int32 → Int32 → Option (me_M × Int32)} {nc ns : Nat} {μ : me_M} {v2 : Int32} {v4 : Int32} {v5 : Int32} {v6 : Int32} {v7 : Int32} {v8 : Int32} {v20 : Int32} {r : me_M × Int32} (C : me_C X (me_tb B K0 q) RL cL_law 23 ret0) (hroom : me_Rm X 12 462 618549 7246051) (hB : me_St (me_tb B K0 q)) (hz : ∀ k, 36 ≤ k → B.2.1 k = 0) (hJ0 : me_J B) (hk1 : K0 < 53) (hR : ∀ (nc ns : Nat), nc ≤ NR → ns ≤ SR → me_Z X B nc ns r.1 1316 [] [me_i r.2]) (hNR : NR ≤ 618549 ∧ SR ≤ 7246051) (hK187 : ∀ (nc ns : Nat) (μ : me_M) (v2 : Int32) (v4 : Int32) (v5 : Int32) (v6 : Int32) (v7 : Int32) (v8 : Int32), nc ≤ NB187 → ns ≤ SB187 → K187 μ v2 v4 v5 v6 v7 v8 = some r → me_Z X B nc ns μ 187 [(0, .inl (.ref (B.1 202 0))), (1, me_r 0 0), (2, me_i v2), (4, me_i v4), (5, me_i v5), (6, me_i v6), (7, me_i v7), (8, me_i v8)] []) (hN187 : NB187 ≤ 618549 ∧ SB187 ≤ 7246051) (hK902 : ∀ (nc ns : Nat) (μ : me_M) (v2 : Int32) (v4 : Int32) (v5 : Int32) (v6 : Int32) (v7 : Int32) (v8 : Int32) (v20 : Int32), 36 + me_ix v4 = K0 → nc ≤ NB902 → ns ≤ SB902 → K902 μ v2 v4 v5 v6 v7 v8 v20 = some r → me_Z X (me_tb B K0 q) nc ns μ 902 [(0, .inl (.ref (B.1 202 0))), (1, me_r 0 0), (2, me_i v2), (4, me_i v4), (5, me_i v5), (6, me_i v6), (7, me_i v7), (8, me_i v8), (20, me_i v20)] []) (hN902 : NB902 ≤ 618549 ∧ SB902 ≤ 7246051) (hk0 : 36 + me_ix v4 = K0) (hb187 : (nc + 0 ≤ NB187 ∧ ns + 0 ≤ SB187)) (hb902 : (nc + 32 ≤ NB902 ∧ ns + 192 ≤ SB902)) (hf : f_L_law_b902 B.2.2.2.1 B.2.2.2.2 K187 K902 μ v2 v4 v5 v6 v7 v8 v20 = some r) : me_Z X (me_tb B K0 q) nc ns μ 902 [(0, .inl (.ref (B.1 202 0))), (1, me_r 0 0), (2, me_i v2), (4, me_i v4), (5, me_i v5), (6, me_i v6), (7, me_i v7), (8, me_i v8), (20, me_i v20)] [] := by
  subst hk0
  unfold f_L_law_b902 at hf
  refine me_iload C dL_law_902 rfl ?_
  refine me_iload C dL_law_904 rfl ?_
  refine me_icmp_ge C (tgt := 1001) dL_law_906 (by decide) (fun c1 => ?_) (fun c1 => ?_)
  · replace hf := me_ip c1 hf
    obtain ⟨x2, e_x2, hf⟩ := me_lts hf
    refine me_iinc C (v := x2) (L' := [(8, me_i x2), (0, .inl (.ref (B.1 202 0))), (1, me_r 0 0), (2, me_i v2), (4, me_i v4), (5, me_i v5), (6, me_i v6), (7, me_i v7), (20, me_i v20)]) dL_law_1001 rfl e_x2.symm (by decide) rfl ?_
    refine me_goto C (tgt := 187) dL_law_1004 (by decide) ?_
    refine me_dropI [(0, .inl (.ref (B.1 202 0))), (1, me_r 0 0), (2, me_i v2), (4, me_i v4), (5, me_i v5), (6, me_i v6), (7, me_i v7), (8, me_i x2)] [1, 2, 3, 4, 5, 6, 7, 0] rfl ?_
    refine me_shr hJ0 (hz _ (by omega)) (by omega) rfl ?_
    exact hK187 nc ns μ v2 v4 v5 v6 v7 x2 (by omega) (by omega) hf
  · replace hf := me_in c1 hf
    refine me_iconst C (v := 0) dL_law_909 (by decide) ?_
    refine me_istore C dL_law_910 (by decide) (L' := [(21, me_i (0 : Int32)), (0, .inl (.ref (B.1 202 0))), (1, me_r 0 0), (2, me_i v2), (4, me_i v4), (5, me_i v5), (6, me_i v6), (7, me_i v7), (8, me_i v8), (20, me_i v20)]) rfl ?_
    refine me_dropI [(0, .inl (.ref (B.1 202 0))), (1, me_r 0 0), (2, me_i v2), (4, me_i v4), (5, me_i v5), (6, me_i v6), (7, me_i v7), (8, me_i v8), (20, me_i v20), (21, me_i (0 : Int32))] [1, 2, 3, 4, 5, 6, 7, 8, 9, 0] rfl ?_
    exact z_L_law_h912 C hroom hB hz hJ0 hk1 hR hNR hK187 hN187 hK902 hN902 me_F912 nc ns μ v2 v4 v5 v6 v7 v8 v20 (0 : Int32) rfl ⟨by unfold me_F912; omega, by unfold me_F912; omega⟩ hf
def me_F902 : Nat := 20
def f_L_law_h902 (sL : Nat) (xs : Nat → Int32) (K187 : me_M → Int32 → Int32 → Int32 → Int32 → Int32 → Int32 → Option (me_M × Int32)) : Nat → me_M → Int32 → Int32 → Int32 → Int32 → Int32 → Int32 → Int32 → Option (me_M × Int32)
  | 0, _, _, _, _, _, _, _, _ => none
  | n + 1, μ, v2, v4, v5, v6, v7, v8, v20 => f_L_law_b902 sL xs K187 (f_L_law_h902 sL xs K187 n) μ v2 v4 v5 v6 v7 v8 v20
set_option maxHeartbeats 4000000 in
set_option maxRecDepth 100000 in
theorem z_L_law_h902 {X : me_X} {B : me_B} {ret0 : Option FieldType} {K0 q : Nat} {NR SR : Nat} {NB187 SB187 : Nat} {K187 : me_M → Int32 → Int32 → Int32 → Int32 → Int32 → Int32 → Option (me_M × Int32)} {r : me_M × Int32} (C : me_C X (me_tb B K0 q) RL cL_law 23 ret0) (hroom : me_Rm X 12 462 618549 7246051) (hB : me_St (me_tb B K0 q)) (hz : ∀ k, 36 ≤ k → B.2.1 k = 0) (hJ0 : me_J B) (hk1 : K0 < 53) (hR : ∀ (nc ns : Nat), nc ≤ NR → ns ≤ SR → me_Z X B nc ns r.1 1316 [] [me_i r.2]) (hNR : NR ≤ 618549 ∧ SR ≤ 7246051) (hK187 : ∀ (nc ns : Nat) (μ : me_M) (v2 : Int32) (v4 : Int32) (v5 : Int32) (v6 : Int32) (v7 : Int32) (v8 : Int32), nc ≤ NB187 → ns ≤ SB187 → K187 μ v2 v4 v5 v6 v7 v8 = some r → me_Z X B nc ns μ 187 [(0, .inl (.ref (B.1 202 0))), (1, me_r 0 0), (2, me_i v2), (4, me_i v4), (5, me_i v5), (6, me_i v6), (7, me_i v7), (8, me_i v8)] []) (hN187 : NB187 ≤ 618549 ∧ SB187 ≤ 7246051) : ∀ (n nc ns : Nat) (μ : me_M) (v2 : Int32) (v4 : Int32) (v5 : Int32) (v6 : Int32) (v7 : Int32) (v8 : Int32) (v20 : Int32), 36 + me_ix v4 = K0 → (nc + n * 32 + 0 ≤ NB187 ∧ ns + n * 192 + 0 ≤ SB187) → f_L_law_h902 B.2.2.2.1 B.2.2.2.2 K187 n μ v2 v4 v5 v6 v7 v8 v20 = some r → me_Z X (me_tb B K0 q) nc ns μ 902 [(0, .inl (.ref (B.1 202 0))), (1, me_r 0 0), (2, me_i v2), (4, me_i v4), (5, me_i v5), (6, me_i v6), (7, me_i v7), (8, me_i v8), (20, me_i v20)] [] := by
  intro n
  induction n with
  | zero => intro nc ns μ v2 v4 v5 v6 v7 v8 v20 hk0 hb187 h; exact absurd (show (none : Option (me_M × Int32)) = some r from h) (fun q => by cases q)
  | succ n ih =>
    intro nc ns μ v2 v4 v5 v6 v7 v8 v20 hk0 hb187 h
    exact z_L_law_b902 (NB902 := nc + 32) (SB902 := ns + 192) C hroom hB hz hJ0 hk1 hR hNR hK187 hN187 (fun nc' ns' μ v2 v4 v5 v6 v7 v8 v20 hk0 h1 h2 h3 => ih nc' ns' μ v2 v4 v5 v6 v7 v8 v20 hk0 ⟨by omega, by omega⟩ h3) ⟨by omega, by omega⟩ hk0 ⟨by omega, by omega⟩ ⟨Nat.le_refl _, Nat.le_refl _⟩ h
def f_L_law_b838 (sL : Nat) (xs : Nat → Int32) (K187 : me_M → Int32 → Int32 → Int32 → Int32 → Int32 → Int32 → Option (me_M × Int32)) (μ : me_M) (v2 : Int32) (v4 : Int32) (v5 : Int32) (v7 : Int32) (v8 : Int32) (v9 : Int32) (v10 : Int32) (v16 : Int32) (s0 : Int32) (s1 : Int32) : Option (me_M × Int32) :=
  me_lt ((s1 &&& s0)) (fun x1 =>
  me_b2 (f_L_receive μ v10 v9) (fun μ3 r2 =>
  if r2 = v16 then
  (me_b2 (f_L_receive μ3 v10 v9) (fun μ7 r6 =>
  if r6 = (-900002 : Int32) then
  (me_b2 (f_L_state μ7 v16) (fun μ11 r10 =>
  if r10 = (114 : Int32) then
  (me_b2 (f_L_lying μ11 v10 v9) (fun μ15 r14 =>
  if r14 = 0 then
  (me_lt ((x1 &&& (1 : Int32))) (fun x18 =>
  f_L_law_h902 sL xs K187 me_F902 μ15 v2 v4 v5 x18 v7 v8 (0 : Int32)))
  else
  (me_lt ((x1 &&& (0 : Int32))) (fun x17 =>
  f_L_law_h902 sL xs K187 me_F902 μ15 v2 v4 v5 x17 v7 v8 (0 : Int32)))))
  else
  (me_lt ((x1 &&& (0 : Int32))) (fun x13 =>
  f_L_law_h902 sL xs K187 me_F902 μ11 v2 v4 v5 x13 v7 v8 (0 : Int32)))))
  else
  (me_lt ((x1 &&& (0 : Int32))) (fun x9 =>
  f_L_law_h902 sL xs K187 me_F902 μ7 v2 v4 v5 x9 v7 v8 (0 : Int32)))))
  else
  (me_lt ((x1 &&& (0 : Int32))) (fun x5 =>
  f_L_law_h902 sL xs K187 me_F902 μ3 v2 v4 v5 x5 v7 v8 (0 : Int32)))))
set_option maxHeartbeats 4000000 in
set_option maxRecDepth 100000 in
theorem z_L_law_b838 {X : me_X} {B : me_B} {ret0 : Option FieldType} {K0 q : Nat} {NR SR : Nat} {NB187 SB187 : Nat} {K187 : me_M → Int32 → Int32 → Int32 → Int32 → Int32 → Int32 → Option (me_M × Int32)} {nc ns : Nat} {μ : me_M} {v2 : Int32} {v4 : Int32} {v5 : Int32} {v7 : Int32} {v8 : Int32} {v9 : Int32} {v10 : Int32} {v16 : Int32} {s0 : Int32} {s1 : Int32} {r : me_M × Int32} (C : me_C X (me_tb B K0 q) RL cL_law 23 ret0) (hroom : me_Rm X 12 462 618549 7246051) (hB : me_St (me_tb B K0 q)) (hz : ∀ k, 36 ≤ k → B.2.1 k = 0) (hJ0 : me_J B) (hk1 : K0 < 53) (hR : ∀ (nc ns : Nat), nc ≤ NR → ns ≤ SR → me_Z X B nc ns r.1 1316 [] [me_i r.2]) (hNR : NR ≤ 618549 ∧ SR ≤ 7246051) (hK187 : ∀ (nc ns : Nat) (μ : me_M) (v2 : Int32) (v4 : Int32) (v5 : Int32) (v6 : Int32) (v7 : Int32) (v8 : Int32), nc ≤ NB187 → ns ≤ SB187 → K187 μ v2 v4 v5 v6 v7 v8 = some r → me_Z X B nc ns μ 187 [(0, .inl (.ref (B.1 202 0))), (1, me_r 0 0), (2, me_i v2), (4, me_i v4), (5, me_i v5), (6, me_i v6), (7, me_i v7), (8, me_i v8)] []) (hN187 : NB187 ≤ 618549 ∧ SB187 ≤ 7246051) (hk0 : 36 + me_ix v4 = K0) (hb187 : (nc + 649 ≤ NB187 ∧ ns + 3894 ≤ SB187)) (hf : f_L_law_b838 B.2.2.2.1 B.2.2.2.2 K187 μ v2 v4 v5 v7 v8 v9 v10 v16 s0 s1 = some r) : me_Z X (me_tb B K0 q) nc ns μ 838 [(0, .inl (.ref (B.1 202 0))), (1, me_r 0 0), (2, me_i v2), (4, me_i v4), (5, me_i v5), (7, me_i v7), (8, me_i v8), (9, me_i v9), (10, me_i v10), (16, me_i v16)] [me_i s0, me_i s1] := by
  subst hk0
  unfold f_L_law_b838 at hf
  refine me_iand C dL_law_838 ?_
  obtain ⟨x1, e_x1, hf⟩ := me_lts hf
  refine me_nm e_x1 ?_
  refine me_istore C dL_law_839 (by decide) (L' := [(6, me_i x1), (0, .inl (.ref (B.1 202 0))), (1, me_r 0 0), (2, me_i v2), (4, me_i v4), (5, me_i v5), (7, me_i v7), (8, me_i v8), (9, me_i v9), (10, me_i v10), (16, me_i v16)]) rfl ?_
  refine me_iload C dL_law_841 rfl ?_
  refine me_aload_n C 1 (Or.inr (Or.inl ⟨_, rfl⟩)) dL_law_843 rfl rfl ?_
  refine me_iload C dL_law_844 rfl ?_
  refine me_iload C dL_law_846 rfl ?_
  obtain ⟨μ3, r2, h_r2, hf⟩ := me_bs2 hf
  refine me_callSH C hroom (n := 3) (As := [me_r 0 0, me_i v10, me_i v9]) (st := [me_i x1]) (nc + 3) (ns + 18) (c_L_receive hB h_r2) mh_L_receive iL ⟨by decide +kernel, by decide +kernel⟩ (by decide +kernel) si_L_receive ml_L_148 dL_law_848 rfl rfl ⟨by decide, by decide⟩ ⟨by omega, by omega, by omega, by omega⟩ (Nat.le_of_ble_eq_true rfl) ?_
  refine me_iload C dL_law_851 rfl ?_
  refine me_icmp_ne C (tgt := 895) dL_law_853 (by decide) (fun c4 => ?_) (fun c4 => ?_)
  · replace hf := me_in c4 hf
    refine me_iconst C (v := 0) dL_law_895 (by decide) ?_
    refine me_iand C dL_law_896 ?_
    obtain ⟨x5, e_x5, hf⟩ := me_lts hf
    refine me_nm e_x5 ?_
    refine me_istore C dL_law_897 (by decide) (L' := [(6, me_i x5), (0, .inl (.ref (B.1 202 0))), (1, me_r 0 0), (2, me_i v2), (4, me_i v4), (5, me_i v5), (7, me_i v7), (8, me_i v8), (9, me_i v9), (10, me_i v10), (16, me_i v16)]) rfl ?_
    refine me_iconst C (v := 0) dL_law_899 (by decide) ?_
    refine me_istore C dL_law_900 (by decide) (L' := [(20, me_i (0 : Int32)), (6, me_i x5), (0, .inl (.ref (B.1 202 0))), (1, me_r 0 0), (2, me_i v2), (4, me_i v4), (5, me_i v5), (7, me_i v7), (8, me_i v8), (9, me_i v9), (10, me_i v10), (16, me_i v16)]) rfl ?_
    refine me_dropI [(0, .inl (.ref (B.1 202 0))), (1, me_r 0 0), (2, me_i v2), (4, me_i v4), (5, me_i v5), (6, me_i x5), (7, me_i v7), (8, me_i v8), (20, me_i (0 : Int32))] [2, 3, 4, 5, 6, 1, 7, 8, 0] rfl ?_
    exact z_L_law_h902 C hroom hB hz hJ0 hk1 hR hNR hK187 hN187 me_F902 (nc + 3) (ns + 18) μ3 v2 v4 v5 x5 v7 v8 (0 : Int32) rfl ⟨by unfold me_F902; omega, by unfold me_F902; omega⟩ hf
  · replace hf := me_ip c4 hf
    refine me_aload_n C 1 (Or.inr (Or.inl ⟨_, rfl⟩)) dL_law_856 rfl rfl ?_
    refine me_iload C dL_law_857 rfl ?_
    refine me_iload C dL_law_859 rfl ?_
    obtain ⟨μ7, r6, h_r6, hf⟩ := me_bs2 hf
    refine me_callSH C hroom (n := 3) (As := [me_r 0 0, me_i v10, me_i v9]) (st := [me_i x1]) (nc + 6) (ns + 36) (c_L_receive hB h_r6) mh_L_receive iL ⟨by decide +kernel, by decide +kernel⟩ (by decide +kernel) si_L_receive ml_L_148 dL_law_861 rfl rfl ⟨by decide, by decide⟩ ⟨by omega, by omega, by omega, by omega⟩ (Nat.le_of_ble_eq_true rfl) ?_
    refine me_ldc C (v := (-900002)) dL_law_864 ci_L_20 ?_
    refine me_icmp_ne C (tgt := 895) dL_law_866 (by decide) (fun c8 => ?_) (fun c8 => ?_)
    · replace hf := me_in c8 hf
      refine me_iconst C (v := 0) dL_law_895 (by decide) ?_
      refine me_iand C dL_law_896 ?_
      obtain ⟨x9, e_x9, hf⟩ := me_lts hf
      refine me_nm e_x9 ?_
      refine me_istore C dL_law_897 (by decide) (L' := [(6, me_i x9), (0, .inl (.ref (B.1 202 0))), (1, me_r 0 0), (2, me_i v2), (4, me_i v4), (5, me_i v5), (7, me_i v7), (8, me_i v8), (9, me_i v9), (10, me_i v10), (16, me_i v16)]) rfl ?_
      refine me_iconst C (v := 0) dL_law_899 (by decide) ?_
      refine me_istore C dL_law_900 (by decide) (L' := [(20, me_i (0 : Int32)), (6, me_i x9), (0, .inl (.ref (B.1 202 0))), (1, me_r 0 0), (2, me_i v2), (4, me_i v4), (5, me_i v5), (7, me_i v7), (8, me_i v8), (9, me_i v9), (10, me_i v10), (16, me_i v16)]) rfl ?_
      refine me_dropI [(0, .inl (.ref (B.1 202 0))), (1, me_r 0 0), (2, me_i v2), (4, me_i v4), (5, me_i v5), (6, me_i x9), (7, me_i v7), (8, me_i v8), (20, me_i (0 : Int32))] [2, 3, 4, 5, 6, 1, 7, 8, 0] rfl ?_
      exact z_L_law_h902 C hroom hB hz hJ0 hk1 hR hNR hK187 hN187 me_F902 (nc + 6) (ns + 36) μ7 v2 v4 v5 x9 v7 v8 (0 : Int32) rfl ⟨by unfold me_F902; omega, by unfold me_F902; omega⟩ hf
    · replace hf := me_ip c8 hf
      refine me_aload_n C 1 (Or.inr (Or.inl ⟨_, rfl⟩)) dL_law_869 rfl rfl ?_
      refine me_iload C dL_law_870 rfl ?_
      obtain ⟨μ11, r10, h_r10, hf⟩ := me_bs2 hf
      refine me_callSH C hroom (n := 2) (As := [me_r 0 0, me_i v16]) (st := [me_i x1]) (nc + 7) (ns + 42) (c_L_state hB h_r10) mh_L_state iL ⟨by decide +kernel, by decide +kernel⟩ (by decide +kernel) si_L_state ml_L_111 dL_law_872 rfl rfl ⟨by decide, by decide⟩ ⟨by omega, by omega, by omega, by omega⟩ (Nat.le_of_ble_eq_true rfl) ?_
      refine me_bipush C (v := 114) dL_law_875 (by decide) ?_
      refine me_icmp_ne C (tgt := 895) dL_law_877 (by decide) (fun c12 => ?_) (fun c12 => ?_)
      · replace hf := me_in c12 hf
        refine me_iconst C (v := 0) dL_law_895 (by decide) ?_
        refine me_iand C dL_law_896 ?_
        obtain ⟨x13, e_x13, hf⟩ := me_lts hf
        refine me_nm e_x13 ?_
        refine me_istore C dL_law_897 (by decide) (L' := [(6, me_i x13), (0, .inl (.ref (B.1 202 0))), (1, me_r 0 0), (2, me_i v2), (4, me_i v4), (5, me_i v5), (7, me_i v7), (8, me_i v8), (9, me_i v9), (10, me_i v10), (16, me_i v16)]) rfl ?_
        refine me_iconst C (v := 0) dL_law_899 (by decide) ?_
        refine me_istore C dL_law_900 (by decide) (L' := [(20, me_i (0 : Int32)), (6, me_i x13), (0, .inl (.ref (B.1 202 0))), (1, me_r 0 0), (2, me_i v2), (4, me_i v4), (5, me_i v5), (7, me_i v7), (8, me_i v8), (9, me_i v9), (10, me_i v10), (16, me_i v16)]) rfl ?_
        refine me_dropI [(0, .inl (.ref (B.1 202 0))), (1, me_r 0 0), (2, me_i v2), (4, me_i v4), (5, me_i v5), (6, me_i x13), (7, me_i v7), (8, me_i v8), (20, me_i (0 : Int32))] [2, 3, 4, 5, 6, 1, 7, 8, 0] rfl ?_
        exact z_L_law_h902 C hroom hB hz hJ0 hk1 hR hNR hK187 hN187 me_F902 (nc + 7) (ns + 42) μ11 v2 v4 v5 x13 v7 v8 (0 : Int32) rfl ⟨by unfold me_F902; omega, by unfold me_F902; omega⟩ hf
      · replace hf := me_ip c12 hf
        refine me_aload_n C 1 (Or.inr (Or.inl ⟨_, rfl⟩)) dL_law_880 rfl rfl ?_
        refine me_iload C dL_law_881 rfl ?_
        refine me_iload C dL_law_883 rfl ?_
        obtain ⟨μ15, r14, h_r14, hf⟩ := me_bs2 hf
        refine me_callSH C hroom (n := 3) (As := [me_r 0 0, me_i v10, me_i v9]) (st := [me_i x1]) (nc + 9) (ns + 54) (c_L_lying hB h_r14) mh_L_lying iL ⟨by decide +kernel, by decide +kernel⟩ (by decide +kernel) si_L_lying ml_L_143 dL_law_885 rfl rfl ⟨by decide, by decide⟩ ⟨by omega, by omega, by omega, by omega⟩ (Nat.le_of_ble_eq_true rfl) ?_
        refine me_if_ne C (tgt := 895) dL_law_888 (by decide) (fun c16 => ?_) (fun c16 => ?_)
        · replace hf := me_in c16 hf
          refine me_iconst C (v := 0) dL_law_895 (by decide) ?_
          refine me_iand C dL_law_896 ?_
          obtain ⟨x17, e_x17, hf⟩ := me_lts hf
          refine me_nm e_x17 ?_
          refine me_istore C dL_law_897 (by decide) (L' := [(6, me_i x17), (0, .inl (.ref (B.1 202 0))), (1, me_r 0 0), (2, me_i v2), (4, me_i v4), (5, me_i v5), (7, me_i v7), (8, me_i v8), (9, me_i v9), (10, me_i v10), (16, me_i v16)]) rfl ?_
          refine me_iconst C (v := 0) dL_law_899 (by decide) ?_
          refine me_istore C dL_law_900 (by decide) (L' := [(20, me_i (0 : Int32)), (6, me_i x17), (0, .inl (.ref (B.1 202 0))), (1, me_r 0 0), (2, me_i v2), (4, me_i v4), (5, me_i v5), (7, me_i v7), (8, me_i v8), (9, me_i v9), (10, me_i v10), (16, me_i v16)]) rfl ?_
          refine me_dropI [(0, .inl (.ref (B.1 202 0))), (1, me_r 0 0), (2, me_i v2), (4, me_i v4), (5, me_i v5), (6, me_i x17), (7, me_i v7), (8, me_i v8), (20, me_i (0 : Int32))] [2, 3, 4, 5, 6, 1, 7, 8, 0] rfl ?_
          exact z_L_law_h902 C hroom hB hz hJ0 hk1 hR hNR hK187 hN187 me_F902 (nc + 9) (ns + 54) μ15 v2 v4 v5 x17 v7 v8 (0 : Int32) rfl ⟨by unfold me_F902; omega, by unfold me_F902; omega⟩ hf
        · replace hf := me_ip c16 hf
          refine me_iconst C (v := 1) dL_law_891 (by decide) ?_
          refine me_goto C (tgt := 896) dL_law_892 (by decide) ?_
          refine me_iand C dL_law_896 ?_
          obtain ⟨x18, e_x18, hf⟩ := me_lts hf
          refine me_nm e_x18 ?_
          refine me_istore C dL_law_897 (by decide) (L' := [(6, me_i x18), (0, .inl (.ref (B.1 202 0))), (1, me_r 0 0), (2, me_i v2), (4, me_i v4), (5, me_i v5), (7, me_i v7), (8, me_i v8), (9, me_i v9), (10, me_i v10), (16, me_i v16)]) rfl ?_
          refine me_iconst C (v := 0) dL_law_899 (by decide) ?_
          refine me_istore C dL_law_900 (by decide) (L' := [(20, me_i (0 : Int32)), (6, me_i x18), (0, .inl (.ref (B.1 202 0))), (1, me_r 0 0), (2, me_i v2), (4, me_i v4), (5, me_i v5), (7, me_i v7), (8, me_i v8), (9, me_i v9), (10, me_i v10), (16, me_i v16)]) rfl ?_
          refine me_dropI [(0, .inl (.ref (B.1 202 0))), (1, me_r 0 0), (2, me_i v2), (4, me_i v4), (5, me_i v5), (6, me_i x18), (7, me_i v7), (8, me_i v8), (20, me_i (0 : Int32))] [2, 3, 4, 5, 6, 1, 7, 8, 0] rfl ?_
          exact z_L_law_h902 C hroom hB hz hJ0 hk1 hR hNR hK187 hN187 me_F902 (nc + 9) (ns + 54) μ15 v2 v4 v5 x18 v7 v8 (0 : Int32) rfl ⟨by unfold me_F902; omega, by unfold me_F902; omega⟩ hf
def f_L_law_b576 (sL : Nat) (xs : Nat → Int32) (K187 : me_M → Int32 → Int32 → Int32 → Int32 → Int32 → Int32 → Option (me_M × Int32)) (K576 : me_M → Int32 → Int32 → Int32 → Int32 → Int32 → Int32 → Int32 → Int32 → Int32 → Int32 → Int32 → Int32 → Int32 → Int32 → Option (me_M × Int32)) (μ : me_M) (v2 : Int32) (v4 : Int32) (v5 : Int32) (v6 : Int32) (v7 : Int32) (v8 : Int32) (v9 : Int32) (v10 : Int32) (v15 : Int32) (v16 : Int32) (v17 : Int32) (v18 : Int32) (v19 : Int32) (v20 : Int32) : Option (me_M × Int32) :=
  if v17 < v20 then
  (me_b2 (f_L_time μ v16) (fun μ3 r2 =>
  if r2 = v17 then
  (me_b2 (f_L_lying μ3 v10 v9) (fun μ6 r5 =>
  if r5 = (1 : Int32) then
  (me_bd (f_Y_pieces μ6 v16) (fun r8 =>
  me_xm r8 (fun r8 =>
  if r8 = 0 then
  (f_L_law_b838 sL xs K187 μ6 v2 v4 v5 v7 v8 v9 v10 v16 (1 : Int32) v6)
  else
  (f_L_law_b838 sL xs K187 μ6 v2 v4 v5 v7 v8 v9 v10 v16 (0 : Int32) v6)) (fun _ => none)))
  else
  (f_L_law_b838 sL xs K187 μ6 v2 v4 v5 v7 v8 v9 v10 v16 (0 : Int32) v6)))
  else
  (f_L_law_b838 sL xs K187 μ3 v2 v4 v5 v7 v8 v9 v10 v16 (0 : Int32) v6)))
  else
  (me_b2 (f_L_beats μ (1 : Int32)) (fun μ11 r10 =>
  if r10 < 0 then
  (f_L_law_b598 sL xs K187 K576 μ11 v2 v4 v5 v7 v8 v9 v10 v15 v16 v17 v18 v19 v20 (0 : Int32) v6)
  else
  (f_L_law_b598 sL xs K187 K576 μ11 v2 v4 v5 v7 v8 v9 v10 v15 v16 v17 v18 v19 v20 (1 : Int32) v6)))
set_option maxHeartbeats 4000000 in
set_option maxRecDepth 100000 in
theorem z_L_law_b576 {X : me_X} {B : me_B} {ret0 : Option FieldType} {K0 q : Nat} {NR SR : Nat} {NB187 SB187 : Nat} {K187 : me_M → Int32 → Int32 → Int32 → Int32 → Int32 → Int32 → Option (me_M × Int32)} {NB576 SB576 : Nat} {K576 : me_M → Int32 → Int32 → Int32 → Int32 → Int32 → Int32 → Int32 → Int32 → Int32 → Int32 → Int32 → Int32 → Int32 → Int32 → Option (me_M × Int32)} {nc ns : Nat} {μ : me_M} {v2 : Int32} {v4 : Int32} {v5 : Int32} {v6 : Int32} {v7 : Int32} {v8 : Int32} {v9 : Int32} {v10 : Int32} {v15 : Int32} {v16 : Int32} {v17 : Int32} {v18 : Int32} {v19 : Int32} {v20 : Int32} {r : me_M × Int32} (C : me_C X (me_tb B K0 q) RL cL_law 23 ret0) (hroom : me_Rm X 12 462 618549 7246051) (hB : me_St (me_tb B K0 q)) (hz : ∀ k, 36 ≤ k → B.2.1 k = 0) (hJ0 : me_J B) (hk1 : K0 < 53) (hR : ∀ (nc ns : Nat), nc ≤ NR → ns ≤ SR → me_Z X B nc ns r.1 1316 [] [me_i r.2]) (hNR : NR ≤ 618549 ∧ SR ≤ 7246051) (hK187 : ∀ (nc ns : Nat) (μ : me_M) (v2 : Int32) (v4 : Int32) (v5 : Int32) (v6 : Int32) (v7 : Int32) (v8 : Int32), nc ≤ NB187 → ns ≤ SB187 → K187 μ v2 v4 v5 v6 v7 v8 = some r → me_Z X B nc ns μ 187 [(0, .inl (.ref (B.1 202 0))), (1, me_r 0 0), (2, me_i v2), (4, me_i v4), (5, me_i v5), (6, me_i v6), (7, me_i v7), (8, me_i v8)] []) (hN187 : NB187 ≤ 618549 ∧ SB187 ≤ 7246051) (hK576 : ∀ (nc ns : Nat) (μ : me_M) (v2 : Int32) (v4 : Int32) (v5 : Int32) (v6 : Int32) (v7 : Int32) (v8 : Int32) (v9 : Int32) (v10 : Int32) (v15 : Int32) (v16 : Int32) (v17 : Int32) (v18 : Int32) (v19 : Int32) (v20 : Int32), 36 + me_ix v4 = K0 → nc ≤ NB576 → ns ≤ SB576 → K576 μ v2 v4 v5 v6 v7 v8 v9 v10 v15 v16 v17 v18 v19 v20 = some r → me_Z X (me_tb B K0 q) nc ns μ 576 [(0, .inl (.ref (B.1 202 0))), (1, me_r 0 0), (2, me_i v2), (4, me_i v4), (5, me_i v5), (6, me_i v6), (7, me_i v7), (8, me_i v8), (9, me_i v9), (10, me_i v10), (14, me_r K0 0), (15, me_i v15), (16, me_i v16), (17, me_i v17), (18, me_i v18), (19, me_i v19), (20, me_i v20)] []) (hN576 : NB576 ≤ 618549 ∧ SB576 ≤ 7246051) (hk0 : 36 + me_ix v4 = K0) (hb187 : (nc + 654 ≤ NB187 ∧ ns + 3924 ≤ SB187)) (hb576 : (nc + 4 ≤ NB576 ∧ ns + 24 ≤ SB576)) (hf : f_L_law_b576 B.2.2.2.1 B.2.2.2.2 K187 K576 μ v2 v4 v5 v6 v7 v8 v9 v10 v15 v16 v17 v18 v19 v20 = some r) : me_Z X (me_tb B K0 q) nc ns μ 576 [(0, .inl (.ref (B.1 202 0))), (1, me_r 0 0), (2, me_i v2), (4, me_i v4), (5, me_i v5), (6, me_i v6), (7, me_i v7), (8, me_i v8), (9, me_i v9), (10, me_i v10), (14, me_r K0 0), (15, me_i v15), (16, me_i v16), (17, me_i v17), (18, me_i v18), (19, me_i v19), (20, me_i v20)] [] := by
  subst hk0
  unfold f_L_law_b576 at hf
  refine me_iload C dL_law_576 rfl ?_
  refine me_iload C dL_law_578 rfl ?_
  refine me_icmp_gt C (tgt := 799) dL_law_580 (by decide) (fun c1 => ?_) (fun c1 => ?_)
  · replace hf := me_ip c1 hf
    refine me_iload C dL_law_799 rfl ?_
    refine me_aload_n C 1 (Or.inr (Or.inl ⟨_, rfl⟩)) dL_law_801 rfl rfl ?_
    refine me_iload C dL_law_802 rfl ?_
    obtain ⟨μ3, r2, h_r2, hf⟩ := me_bs2 hf
    refine me_callSH C hroom (n := 2) (As := [me_r 0 0, me_i v16]) (st := [me_i v6]) (nc + 2) (ns + 12) (c_L_time hB h_r2) mh_L_time iL ⟨by decide +kernel, by decide +kernel⟩ (by decide +kernel) si_L_time ml_L_129 dL_law_804 rfl rfl ⟨by decide, by decide⟩ ⟨by omega, by omega, by omega, by omega⟩ (Nat.le_of_ble_eq_true rfl) ?_
    refine me_iload C dL_law_807 rfl ?_
    refine me_icmp_ne C (tgt := 837) dL_law_809 (by decide) (fun c4 => ?_) (fun c4 => ?_)
    · replace hf := me_in c4 hf
      refine me_iconst C (v := 0) dL_law_837 (by decide) ?_
      refine me_dropI [(0, .inl (.ref (B.1 202 0))), (1, me_r 0 0), (2, me_i v2), (4, me_i v4), (5, me_i v5), (7, me_i v7), (8, me_i v8), (9, me_i v9), (10, me_i v10), (16, me_i v16)] [0, 1, 2, 3, 4, 6, 7, 8, 9, 12] rfl ?_
      exact z_L_law_b838 C hroom hB hz hJ0 hk1 hR hNR hK187 hN187 (nc := (nc + 2)) (ns := (ns + 12)) rfl ⟨by omega, by omega⟩ hf
    · replace hf := me_ip c4 hf
      refine me_aload_n C 1 (Or.inr (Or.inl ⟨_, rfl⟩)) dL_law_812 rfl rfl ?_
      refine me_iload C dL_law_813 rfl ?_
      refine me_iload C dL_law_815 rfl ?_
      obtain ⟨μ6, r5, h_r5, hf⟩ := me_bs2 hf
      refine me_callSH C hroom (n := 3) (As := [me_r 0 0, me_i v10, me_i v9]) (st := [me_i v6]) (nc + 4) (ns + 24) (c_L_lying hB h_r5) mh_L_lying iL ⟨by decide +kernel, by decide +kernel⟩ (by decide +kernel) si_L_lying ml_L_143 dL_law_817 rfl rfl ⟨by decide, by decide⟩ ⟨by omega, by omega, by omega, by omega⟩ (Nat.le_of_ble_eq_true rfl) ?_
      refine me_iconst C (v := 1) dL_law_820 (by decide) ?_
      refine me_icmp_ne C (tgt := 837) dL_law_821 (by decide) (fun c7 => ?_) (fun c7 => ?_)
      · replace hf := me_in c7 hf
        refine me_iconst C (v := 0) dL_law_837 (by decide) ?_
        refine me_dropI [(0, .inl (.ref (B.1 202 0))), (1, me_r 0 0), (2, me_i v2), (4, me_i v4), (5, me_i v5), (7, me_i v7), (8, me_i v8), (9, me_i v9), (10, me_i v10), (16, me_i v16)] [0, 1, 2, 3, 4, 6, 7, 8, 9, 12] rfl ?_
        exact z_L_law_b838 C hroom hB hz hJ0 hk1 hR hNR hK187 hN187 (nc := (nc + 4)) (ns := (ns + 24)) rfl ⟨by omega, by omega⟩ hf
      · replace hf := me_ip c7 hf
        refine me_aload_n C 1 (Or.inr (Or.inl ⟨_, rfl⟩)) dL_law_824 rfl rfl ?_
        refine me_iload C dL_law_825 rfl ?_
        obtain ⟨r8, h_r8, hf⟩ := me_bs hf
        rcases r8 with r8 | r8
        · replace hf := me_xme hf
          cases hf
        replace hf := me_xmo hf
        refine me_callVR C hroom (As := [me_i v16]) (st := [me_i v6]) (nc + 5) (ns + 30) (c_Y_pieces hB h_r8) mv_Y_pieces ml_L_145 rfl rfl dL_law_827 rfl rfl ⟨by decide, by decide⟩ ⟨by omega, by omega, by omega, by omega⟩ (Nat.le_of_ble_eq_true rfl) ?_
        refine me_if_ne C (tgt := 837) dL_law_830 (by decide) (fun c9 => ?_) (fun c9 => ?_)
        · replace hf := me_in c9 hf
          refine me_iconst C (v := 0) dL_law_837 (by decide) ?_
          refine me_dropI [(0, .inl (.ref (B.1 202 0))), (1, me_r 0 0), (2, me_i v2), (4, me_i v4), (5, me_i v5), (7, me_i v7), (8, me_i v8), (9, me_i v9), (10, me_i v10), (16, me_i v16)] [0, 1, 2, 3, 4, 6, 7, 8, 9, 12] rfl ?_
          exact z_L_law_b838 C hroom hB hz hJ0 hk1 hR hNR hK187 hN187 (nc := (nc + 5)) (ns := (ns + 30)) rfl ⟨by omega, by omega⟩ hf
        · replace hf := me_ip c9 hf
          refine me_iconst C (v := 1) dL_law_833 (by decide) ?_
          refine me_goto C (tgt := 838) dL_law_834 (by decide) ?_
          refine me_dropI [(0, .inl (.ref (B.1 202 0))), (1, me_r 0 0), (2, me_i v2), (4, me_i v4), (5, me_i v5), (7, me_i v7), (8, me_i v8), (9, me_i v9), (10, me_i v10), (16, me_i v16)] [0, 1, 2, 3, 4, 6, 7, 8, 9, 12] rfl ?_
          exact z_L_law_b838 C hroom hB hz hJ0 hk1 hR hNR hK187 hN187 (nc := (nc + 5)) (ns := (ns + 30)) rfl ⟨by omega, by omega⟩ hf
  · replace hf := me_in c1 hf
    refine me_iload C dL_law_583 rfl ?_
    refine me_aload_n C 1 (Or.inr (Or.inl ⟨_, rfl⟩)) dL_law_585 rfl rfl ?_
    refine me_iconst C (v := 1) dL_law_586 (by decide) ?_
    obtain ⟨μ11, r10, h_r10, hf⟩ := me_bs2 hf
    refine me_callSH C hroom (n := 2) (As := [me_r 0 0, me_i (1 : Int32)]) (st := [me_i v6]) (nc + 1) (ns + 6) (c_L_beats hB h_r10) mh_L_beats iL ⟨by decide +kernel, by decide +kernel⟩ (by decide +kernel) si_L_beats ml_L_113 dL_law_587 rfl rfl ⟨by decide, by decide⟩ ⟨by omega, by omega, by omega, by omega⟩ (Nat.le_of_ble_eq_true rfl) ?_
    refine me_if_lt C (tgt := 597) dL_law_590 (by decide) (fun c12 => ?_) (fun c12 => ?_)
    · replace hf := me_ip c12 hf
      refine me_iconst C (v := 0) dL_law_597 (by decide) ?_
      refine me_dropI [(0, .inl (.ref (B.1 202 0))), (1, me_r 0 0), (2, me_i v2), (4, me_i v4), (5, me_i v5), (7, me_i v7), (8, me_i v8), (9, me_i v9), (10, me_i v10), (14, me_r (36 + me_ix v4) 0), (15, me_i v15), (16, me_i v16), (17, me_i v17), (18, me_i v18), (19, me_i v19), (20, me_i v20)] [0, 1, 2, 3, 4, 6, 7, 8, 9, 10, 11, 12, 13, 14, 15, 16] rfl ?_
      exact z_L_law_b598 C hroom hB hz hJ0 hk1 hR hNR hK187 hN187 hK576 hN576 (nc := (nc + 1)) (ns := (ns + 6)) rfl ⟨by omega, by omega⟩ hf
    · replace hf := me_in c12 hf
      refine me_iconst C (v := 1) dL_law_593 (by decide) ?_
      refine me_goto C (tgt := 598) dL_law_594 (by decide) ?_
      refine me_dropI [(0, .inl (.ref (B.1 202 0))), (1, me_r 0 0), (2, me_i v2), (4, me_i v4), (5, me_i v5), (7, me_i v7), (8, me_i v8), (9, me_i v9), (10, me_i v10), (14, me_r (36 + me_ix v4) 0), (15, me_i v15), (16, me_i v16), (17, me_i v17), (18, me_i v18), (19, me_i v19), (20, me_i v20)] [0, 1, 2, 3, 4, 6, 7, 8, 9, 10, 11, 12, 13, 14, 15, 16] rfl ?_
      exact z_L_law_b598 C hroom hB hz hJ0 hk1 hR hNR hK187 hN187 hK576 hN576 (nc := (nc + 1)) (ns := (ns + 6)) rfl ⟨by omega, by omega⟩ hf
def me_F576 : Nat := 24
def f_L_law_h576 (sL : Nat) (xs : Nat → Int32) (K187 : me_M → Int32 → Int32 → Int32 → Int32 → Int32 → Int32 → Option (me_M × Int32)) : Nat → me_M → Int32 → Int32 → Int32 → Int32 → Int32 → Int32 → Int32 → Int32 → Int32 → Int32 → Int32 → Int32 → Int32 → Int32 → Option (me_M × Int32)
  | 0, _, _, _, _, _, _, _, _, _, _, _, _, _, _, _ => none
  | n + 1, μ, v2, v4, v5, v6, v7, v8, v9, v10, v15, v16, v17, v18, v19, v20 => f_L_law_b576 sL xs K187 (f_L_law_h576 sL xs K187 n) μ v2 v4 v5 v6 v7 v8 v9 v10 v15 v16 v17 v18 v19 v20
set_option maxHeartbeats 4000000 in
set_option maxRecDepth 100000 in
theorem z_L_law_h576 {X : me_X} {B : me_B} {ret0 : Option FieldType} {K0 q : Nat} {NR SR : Nat} {NB187 SB187 : Nat} {K187 : me_M → Int32 → Int32 → Int32 → Int32 → Int32 → Int32 → Option (me_M × Int32)} {r : me_M × Int32} (C : me_C X (me_tb B K0 q) RL cL_law 23 ret0) (hroom : me_Rm X 12 462 618549 7246051) (hB : me_St (me_tb B K0 q)) (hz : ∀ k, 36 ≤ k → B.2.1 k = 0) (hJ0 : me_J B) (hk1 : K0 < 53) (hR : ∀ (nc ns : Nat), nc ≤ NR → ns ≤ SR → me_Z X B nc ns r.1 1316 [] [me_i r.2]) (hNR : NR ≤ 618549 ∧ SR ≤ 7246051) (hK187 : ∀ (nc ns : Nat) (μ : me_M) (v2 : Int32) (v4 : Int32) (v5 : Int32) (v6 : Int32) (v7 : Int32) (v8 : Int32), nc ≤ NB187 → ns ≤ SB187 → K187 μ v2 v4 v5 v6 v7 v8 = some r → me_Z X B nc ns μ 187 [(0, .inl (.ref (B.1 202 0))), (1, me_r 0 0), (2, me_i v2), (4, me_i v4), (5, me_i v5), (6, me_i v6), (7, me_i v7), (8, me_i v8)] []) (hN187 : NB187 ≤ 618549 ∧ SB187 ≤ 7246051) : ∀ (n nc ns : Nat) (μ : me_M) (v2 : Int32) (v4 : Int32) (v5 : Int32) (v6 : Int32) (v7 : Int32) (v8 : Int32) (v9 : Int32) (v10 : Int32) (v15 : Int32) (v16 : Int32) (v17 : Int32) (v18 : Int32) (v19 : Int32) (v20 : Int32), 36 + me_ix v4 = K0 → (nc + n * 4 + 654 ≤ NB187 ∧ ns + n * 24 + 3924 ≤ SB187) → f_L_law_h576 B.2.2.2.1 B.2.2.2.2 K187 n μ v2 v4 v5 v6 v7 v8 v9 v10 v15 v16 v17 v18 v19 v20 = some r → me_Z X (me_tb B K0 q) nc ns μ 576 [(0, .inl (.ref (B.1 202 0))), (1, me_r 0 0), (2, me_i v2), (4, me_i v4), (5, me_i v5), (6, me_i v6), (7, me_i v7), (8, me_i v8), (9, me_i v9), (10, me_i v10), (14, me_r K0 0), (15, me_i v15), (16, me_i v16), (17, me_i v17), (18, me_i v18), (19, me_i v19), (20, me_i v20)] [] := by
  intro n
  induction n with
  | zero => intro nc ns μ v2 v4 v5 v6 v7 v8 v9 v10 v15 v16 v17 v18 v19 v20 hk0 hb187 h; exact absurd (show (none : Option (me_M × Int32)) = some r from h) (fun q => by cases q)
  | succ n ih =>
    intro nc ns μ v2 v4 v5 v6 v7 v8 v9 v10 v15 v16 v17 v18 v19 v20 hk0 hb187 h
    exact z_L_law_b576 (NB576 := nc + 4) (SB576 := ns + 24) C hroom hB hz hJ0 hk1 hR hNR hK187 hN187 (fun nc' ns' μ v2 v4 v5 v6 v7 v8 v9 v10 v15 v16 v17 v18 v19 v20 hk0 h1 h2 h3 => ih nc' ns' μ v2 v4 v5 v6 v7 v8 v9 v10 v15 v16 v17 v18 v19 v20 hk0 ⟨by omega, by omega⟩ h3) ⟨by omega, by omega⟩ hk0 ⟨by omega, by omega⟩ ⟨Nat.le_refl _, Nat.le_refl _⟩ h
def f_L_law_b530 (sL : Nat) (xs : Nat → Int32) (K187 : me_M → Int32 → Int32 → Int32 → Int32 → Int32 → Int32 → Option (me_M × Int32)) (μ : me_M) (v2 : Int32) (v4 : Int32) (v5 : Int32) (v7 : Int32) (v8 : Int32) (v9 : Int32) (v10 : Int32) (v12 : Int32) (v13 : Int32) (v16 : Int32) (s0 : Int32) (s1 : Int32) : Option (me_M × Int32) :=
  me_lt ((s1 &&& s0)) (fun x1 =>
  me_bd (f_L_steps μ v2 v9 v10) (fun r2 =>
  me_lt ((((r2 + v12) + (2 : Int32)) + v13)) (fun x3 =>
  me_gd (me_inb v9 (me_ix v4)) (
  if (μ (36 + me_ix v4) 0 (me_ix v9)) = 0 then
  (f_L_law_h576 sL xs K187 me_F576 μ v2 v4 v5 x1 v7 v8 v9 v10 v9 v16 x3 (0 : Int32) (0 : Int32) (1 : Int32))
  else
  (f_L_law_h576 sL xs K187 me_F576 μ v2 v4 v5 x1 v7 v8 v9 v10 v9 v16 x3 (0 : Int32) (1 : Int32) (1 : Int32))))))
set_option maxHeartbeats 4000000 in
set_option maxRecDepth 100000 in
theorem z_L_law_b530 {X : me_X} {B : me_B} {ret0 : Option FieldType} {K0 q : Nat} {NR SR : Nat} {NB187 SB187 : Nat} {K187 : me_M → Int32 → Int32 → Int32 → Int32 → Int32 → Int32 → Option (me_M × Int32)} {nc ns : Nat} {μ : me_M} {v2 : Int32} {v4 : Int32} {v5 : Int32} {v7 : Int32} {v8 : Int32} {v9 : Int32} {v10 : Int32} {v12 : Int32} {v13 : Int32} {v16 : Int32} {s0 : Int32} {s1 : Int32} {r : me_M × Int32} (C : me_C X (me_tb B K0 q) RL cL_law 23 ret0) (hroom : me_Rm X 12 462 618549 7246051) (hB : me_St (me_tb B K0 q)) (hz : ∀ k, 36 ≤ k → B.2.1 k = 0) (hJ0 : me_J B) (hk1 : K0 < 53) (hR : ∀ (nc ns : Nat), nc ≤ NR → ns ≤ SR → me_Z X B nc ns r.1 1316 [] [me_i r.2]) (hNR : NR ≤ 618549 ∧ SR ≤ 7246051) (hK187 : ∀ (nc ns : Nat) (μ : me_M) (v2 : Int32) (v4 : Int32) (v5 : Int32) (v6 : Int32) (v7 : Int32) (v8 : Int32), nc ≤ NB187 → ns ≤ SB187 → K187 μ v2 v4 v5 v6 v7 v8 = some r → me_Z X B nc ns μ 187 [(0, .inl (.ref (B.1 202 0))), (1, me_r 0 0), (2, me_i v2), (4, me_i v4), (5, me_i v5), (6, me_i v6), (7, me_i v7), (8, me_i v8)] []) (hN187 : NB187 ≤ 618549 ∧ SB187 ≤ 7246051) (hk0 : 36 + me_ix v4 = K0) (hb187 : (nc + 750 ≤ NB187 ∧ ns + 4500 ≤ SB187)) (hf : f_L_law_b530 B.2.2.2.1 B.2.2.2.2 K187 μ v2 v4 v5 v7 v8 v9 v10 v12 v13 v16 s0 s1 = some r) : me_Z X (me_tb B K0 q) nc ns μ 530 [(0, .inl (.ref (B.1 202 0))), (1, me_r 0 0), (2, me_i v2), (4, me_i v4), (5, me_i v5), (7, me_i v7), (8, me_i v8), (9, me_i v9), (10, me_i v10), (12, me_i v12), (13, me_i v13), (14, me_r K0 0), (16, me_i v16)] [me_i s0, me_i s1] := by
  subst hk0
  unfold f_L_law_b530 at hf
  refine me_iand C dL_law_530 ?_
  obtain ⟨x1, e_x1, hf⟩ := me_lts hf
  refine me_nm e_x1 ?_
  refine me_istore C dL_law_531 (by decide) (L' := [(6, me_i x1), (0, .inl (.ref (B.1 202 0))), (1, me_r 0 0), (2, me_i v2), (4, me_i v4), (5, me_i v5), (7, me_i v7), (8, me_i v8), (9, me_i v9), (10, me_i v10), (12, me_i v12), (13, me_i v13), (14, me_r (36 + me_ix v4) 0), (16, me_i v16)]) rfl ?_
  refine me_iload_n C 2 dL_law_533 rfl rfl ?_
  refine me_iload C dL_law_534 rfl ?_
  refine me_iload C dL_law_536 rfl ?_
  obtain ⟨r2, h_r2, hf⟩ := me_bs hf
  refine me_callSR C hroom (As := [me_i v2, me_i v9, me_i v10]) (st := []) nc ns (c_L_steps hB h_r2) ms_L_steps ml_L_137 dL_law_538 rfl rfl ⟨by decide, by decide⟩ ⟨by omega, by omega, by omega, by omega⟩ (Nat.le_of_ble_eq_true rfl) ?_
  refine me_iload C dL_law_541 rfl ?_
  refine me_iadd C dL_law_543 ?_
  refine me_iconst C (v := 2) dL_law_544 (by decide) ?_
  refine me_iadd C dL_law_545 ?_
  refine me_iload C dL_law_546 rfl ?_
  refine me_iadd C dL_law_548 ?_
  obtain ⟨x3, e_x3, hf⟩ := me_lts hf
  refine me_nm e_x3 ?_
  refine me_istore C dL_law_549 (by decide) (L' := [(17, me_i x3), (6, me_i x1), (0, .inl (.ref (B.1 202 0))), (1, me_r 0 0), (2, me_i v2), (4, me_i v4), (5, me_i v5), (7, me_i v7), (8, me_i v8), (9, me_i v9), (10, me_i v10), (12, me_i v12), (13, me_i v13), (14, me_r (36 + me_ix v4) 0), (16, me_i v16)]) rfl ?_
  refine me_iload C dL_law_551 rfl ?_
  refine me_istore C dL_law_553 (by decide) (L' := [(15, me_i v9), (17, me_i x3), (6, me_i x1), (0, .inl (.ref (B.1 202 0))), (1, me_r 0 0), (2, me_i v2), (4, me_i v4), (5, me_i v5), (7, me_i v7), (8, me_i v8), (9, me_i v9), (10, me_i v10), (12, me_i v12), (13, me_i v13), (14, me_r (36 + me_ix v4) 0), (16, me_i v16)]) rfl ?_
  refine me_iconst C (v := 0) dL_law_555 (by decide) ?_
  refine me_istore C dL_law_556 (by decide) (L' := [(18, me_i (0 : Int32)), (15, me_i v9), (17, me_i x3), (6, me_i x1), (0, .inl (.ref (B.1 202 0))), (1, me_r 0 0), (2, me_i v2), (4, me_i v4), (5, me_i v5), (7, me_i v7), (8, me_i v8), (9, me_i v9), (10, me_i v10), (12, me_i v12), (13, me_i v13), (14, me_r (36 + me_ix v4) 0), (16, me_i v16)]) rfl ?_
  refine me_aload C (Or.inr (Or.inl ⟨_, rfl⟩)) dL_law_558 rfl ?_
  refine me_iload C dL_law_560 rfl ?_
  obtain ⟨g4, hf⟩ := me_gs hf
  refine me_zald C (me_kL (by omega)) (fun _ => rfl) g4 dL_law_562 ?_
  refine me_if_eq C (tgt := 570) dL_law_563 (by decide) (fun c5 => ?_) (fun c5 => ?_)
  · replace hf := me_ip c5 hf
    refine me_iconst C (v := 0) dL_law_570 (by decide) ?_
    refine me_istore C dL_law_571 (by decide) (L' := [(19, me_i (0 : Int32)), (18, me_i (0 : Int32)), (15, me_i v9), (17, me_i x3), (6, me_i x1), (0, .inl (.ref (B.1 202 0))), (1, me_r 0 0), (2, me_i v2), (4, me_i v4), (5, me_i v5), (7, me_i v7), (8, me_i v8), (9, me_i v9), (10, me_i v10), (12, me_i v12), (13, me_i v13), (14, me_r (36 + me_ix v4) 0), (16, me_i v16)]) rfl ?_
    refine me_iconst C (v := 1) dL_law_573 (by decide) ?_
    refine me_istore C dL_law_574 (by decide) (L' := [(20, me_i (1 : Int32)), (19, me_i (0 : Int32)), (18, me_i (0 : Int32)), (15, me_i v9), (17, me_i x3), (6, me_i x1), (0, .inl (.ref (B.1 202 0))), (1, me_r 0 0), (2, me_i v2), (4, me_i v4), (5, me_i v5), (7, me_i v7), (8, me_i v8), (9, me_i v9), (10, me_i v10), (12, me_i v12), (13, me_i v13), (14, me_r (36 + me_ix v4) 0), (16, me_i v16)]) rfl ?_
    refine me_dropI [(0, .inl (.ref (B.1 202 0))), (1, me_r 0 0), (2, me_i v2), (4, me_i v4), (5, me_i v5), (6, me_i x1), (7, me_i v7), (8, me_i v8), (9, me_i v9), (10, me_i v10), (14, me_r (36 + me_ix v4) 0), (15, me_i v9), (16, me_i v16), (17, me_i x3), (18, me_i (0 : Int32)), (19, me_i (0 : Int32)), (20, me_i (1 : Int32))] [6, 7, 8, 9, 10, 5, 11, 12, 13, 14, 17, 3, 18, 4, 2, 1, 0] rfl ?_
    exact z_L_law_h576 C hroom hB hz hJ0 hk1 hR hNR hK187 hN187 me_F576 nc ns μ v2 v4 v5 x1 v7 v8 v9 v10 v9 v16 x3 (0 : Int32) (0 : Int32) (1 : Int32) rfl ⟨by unfold me_F576; omega, by unfold me_F576; omega⟩ hf
  · replace hf := me_in c5 hf
    refine me_iconst C (v := 1) dL_law_566 (by decide) ?_
    refine me_goto C (tgt := 571) dL_law_567 (by decide) ?_
    refine me_istore C dL_law_571 (by decide) (L' := [(19, me_i (1 : Int32)), (18, me_i (0 : Int32)), (15, me_i v9), (17, me_i x3), (6, me_i x1), (0, .inl (.ref (B.1 202 0))), (1, me_r 0 0), (2, me_i v2), (4, me_i v4), (5, me_i v5), (7, me_i v7), (8, me_i v8), (9, me_i v9), (10, me_i v10), (12, me_i v12), (13, me_i v13), (14, me_r (36 + me_ix v4) 0), (16, me_i v16)]) rfl ?_
    refine me_iconst C (v := 1) dL_law_573 (by decide) ?_
    refine me_istore C dL_law_574 (by decide) (L' := [(20, me_i (1 : Int32)), (19, me_i (1 : Int32)), (18, me_i (0 : Int32)), (15, me_i v9), (17, me_i x3), (6, me_i x1), (0, .inl (.ref (B.1 202 0))), (1, me_r 0 0), (2, me_i v2), (4, me_i v4), (5, me_i v5), (7, me_i v7), (8, me_i v8), (9, me_i v9), (10, me_i v10), (12, me_i v12), (13, me_i v13), (14, me_r (36 + me_ix v4) 0), (16, me_i v16)]) rfl ?_
    refine me_dropI [(0, .inl (.ref (B.1 202 0))), (1, me_r 0 0), (2, me_i v2), (4, me_i v4), (5, me_i v5), (6, me_i x1), (7, me_i v7), (8, me_i v8), (9, me_i v9), (10, me_i v10), (14, me_r (36 + me_ix v4) 0), (15, me_i v9), (16, me_i v16), (17, me_i x3), (18, me_i (0 : Int32)), (19, me_i (1 : Int32)), (20, me_i (1 : Int32))] [6, 7, 8, 9, 10, 5, 11, 12, 13, 14, 17, 3, 18, 4, 2, 1, 0] rfl ?_
    exact z_L_law_h576 C hroom hB hz hJ0 hk1 hR hNR hK187 hN187 me_F576 nc ns μ v2 v4 v5 x1 v7 v8 v9 v10 v9 v16 x3 (0 : Int32) (1 : Int32) (1 : Int32) rfl ⟨by unfold me_F576; omega, by unfold me_F576; omega⟩ hf
