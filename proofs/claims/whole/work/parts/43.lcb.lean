/-! THE LAW: cases 11 to 21 (printed by gen/lawmain.py) -/
theorem ml_L_191 : Cond.methodLink RL 191 yL_lying ∈ me_gw := (me_gm 964 (by decide +kernel) (by decide +kernel))
theorem mh_L_lying : Cond.codeWith yL_lying cL_lying 5 (some .int) [(0, 10, 13, 13)] ∈ me_gw := (me_gm 966 (by decide +kernel) (by decide +kernel))
theorem si_L_lying : Cond.static yL_lying ∈ me_gw := (me_gm 965 (by decide +kernel) (by decide +kernel))
theorem ml_L_194 : Cond.methodLink RL 194 yX12_lying ∈ me_gw := (me_gm 1773 (by decide +kernel) (by decide +kernel))
theorem mv_M_lying : me_MV yX12_lying cX12_lying 5 (some .int) 2 := ⟨(me_gm 1776 (by decide +kernel) (by decide +kernel)), (me_gm 88 (by decide +kernel) (by decide +kernel)), ⟨by decide +kernel, by decide +kernel⟩, by decide +kernel, (me_gm 1774 (by decide +kernel) (by decide +kernel)), (me_gm 1775 (by decide +kernel) (by decide +kernel))⟩
theorem ml_L_195 : Cond.methodLink RL 195 yL_receive ∈ me_gw := (me_gm 979 (by decide +kernel) (by decide +kernel))
theorem mh_L_receive : Cond.codeWith yL_receive cL_receive 5 (some .int) [(0, 10, 13, 13), (0, 10, 17, 31)] ∈ me_gw := (me_gm 981 (by decide +kernel) (by decide +kernel))
theorem si_L_receive : Cond.static yL_receive ∈ me_gw := (me_gm 980 (by decide +kernel) (by decide +kernel))
theorem ml_L_197 : Cond.methodLink RL 197 yX12_receive ∈ me_gw := (me_gm 1781 (by decide +kernel) (by decide +kernel))
theorem mv_M_receive : me_MV yX12_receive cX12_receive 4 (some .int) 2 := ⟨(me_gm 1784 (by decide +kernel) (by decide +kernel)), (me_gm 88 (by decide +kernel) (by decide +kernel)), ⟨by decide +kernel, by decide +kernel⟩, by decide +kernel, (me_gm 1782 (by decide +kernel) (by decide +kernel)), (me_gm 1783 (by decide +kernel) (by decide +kernel))⟩
theorem ml_L_198 : Cond.methodLink RL 198 yL_net ∈ me_gw := (me_gm 991 (by decide +kernel) (by decide +kernel))
theorem mh_L_net : Cond.codeWith yL_net cL_net 5 (some .int) [(0, 10, 13, 15)] ∈ me_gw := (me_gm 993 (by decide +kernel) (by decide +kernel))
theorem si_L_net : Cond.static yL_net ∈ me_gw := (me_gm 992 (by decide +kernel) (by decide +kernel))
theorem ml_L_200 : Cond.methodLink RL 200 yX12_net ∈ me_gw := (me_gm 1689 (by decide +kernel) (by decide +kernel))
theorem mv_M_net : me_MV yX12_net cX12_net 3 (some .int) 2 := ⟨(me_gm 1692 (by decide +kernel) (by decide +kernel)), (me_gm 88 (by decide +kernel) (by decide +kernel)), ⟨by decide +kernel, by decide +kernel⟩, by decide +kernel, (me_gm 1690 (by decide +kernel) (by decide +kernel)), (me_gm 1691 (by decide +kernel) (by decide +kernel))⟩
theorem ml_L_201 : Cond.methodLink RL 201 yL_beats ∈ me_gw := (me_gm 998 (by decide +kernel) (by decide +kernel))
theorem mh_L_beats : Cond.codeWith yL_beats cL_beats 4 (some .int) [(0, 16, 19, 15)] ∈ me_gw := (me_gm 1000 (by decide +kernel) (by decide +kernel))
theorem si_L_beats : Cond.static yL_beats ∈ me_gw := (me_gm 999 (by decide +kernel) (by decide +kernel))
theorem ml_L_203 : Cond.methodLink RL 203 yX12_beats ∈ me_gw := (me_gm 1789 (by decide +kernel) (by decide +kernel))
theorem mv_M_beats : me_MV yX12_beats cX12_beats 3 (some .boolean) 1 := ⟨(me_gm 1792 (by decide +kernel) (by decide +kernel)), (me_gm 88 (by decide +kernel) (by decide +kernel)), ⟨by decide +kernel, by decide +kernel⟩, by decide +kernel, (me_gm 1790 (by decide +kernel) (by decide +kernel)), (me_gm 1791 (by decide +kernel) (by decide +kernel))⟩
theorem ml_L_204 : Cond.methodLink RL 204 yX11_beat ∈ me_gw := (me_gm 577 (by decide +kernel) (by decide +kernel))
theorem mv_Y_beat : me_MV yX11_beat cX11_beat 1 (some .int) 0 := ⟨(me_gm 580 (by decide +kernel) (by decide +kernel)), (me_gm 76 (by decide +kernel) (by decide +kernel)), ⟨by decide +kernel, by decide +kernel⟩, by decide +kernel, (me_gm 578 (by decide +kernel) (by decide +kernel)), (me_gm 579 (by decide +kernel) (by decide +kernel))⟩
theorem ml_L_207 : Cond.methodLink RL 207 yX12_beat ∈ me_gw := (me_gm 1874 (by decide +kernel) (by decide +kernel))
theorem mv_M_beat : me_MV yX12_beat cX12_beat 1 (some .int) 0 := ⟨(me_gm 1877 (by decide +kernel) (by decide +kernel)), (me_gm 88 (by decide +kernel) (by decide +kernel)), ⟨by decide +kernel, by decide +kernel⟩, by decide +kernel, (me_gm 1875 (by decide +kernel) (by decide +kernel)), (me_gm 1876 (by decide +kernel) (by decide +kernel))⟩
theorem ml_L_208 : Cond.methodLink RL 208 yL_way ∈ me_gw := (me_gm 1157 (by decide +kernel) (by decide +kernel))
theorem mh_L_way : Cond.codeWith yL_way cL_way 4 (some .int) [(0, 9, 12, 15)] ∈ me_gw := (me_gm 1159 (by decide +kernel) (by decide +kernel))
theorem si_L_way : Cond.static yL_way ∈ me_gw := (me_gm 1158 (by decide +kernel) (by decide +kernel))
theorem ml_L_211 : Cond.methodLink RL 211 yX12_way ∈ me_gw := (me_gm 1924 (by decide +kernel) (by decide +kernel))
theorem mv_M_way : me_MV yX12_way cX12_way 3 (some .char) 1 := ⟨(me_gm 1927 (by decide +kernel) (by decide +kernel)), (me_gm 88 (by decide +kernel) (by decide +kernel)), ⟨by decide +kernel, by decide +kernel⟩, by decide +kernel, (me_gm 1925 (by decide +kernel) (by decide +kernel)), (me_gm 1926 (by decide +kernel) (by decide +kernel))⟩
theorem ml_L_212 : Cond.methodLink RL 212 yL_places ∈ me_gw := (me_gm 1250 (by decide +kernel) (by decide +kernel))
theorem mh_L_places : Cond.codeWith yL_places cL_places 4 (some .int) [(0, 9, 12, 15)] ∈ me_gw := (me_gm 1252 (by decide +kernel) (by decide +kernel))
theorem si_L_places : Cond.static yL_places ∈ me_gw := (me_gm 1251 (by decide +kernel) (by decide +kernel))
theorem ml_L_214 : Cond.methodLink RL 214 yX12_places ∈ me_gw := (me_gm 1928 (by decide +kernel) (by decide +kernel))
theorem mv_M_places : me_MV yX12_places cX12_places 3 (some .int) 1 := ⟨(me_gm 1931 (by decide +kernel) (by decide +kernel)), (me_gm 88 (by decide +kernel) (by decide +kernel)), ⟨by decide +kernel, by decide +kernel⟩, by decide +kernel, (me_gm 1929 (by decide +kernel) (by decide +kernel)), (me_gm 1930 (by decide +kernel) (by decide +kernel))⟩
theorem ml_L_215 : Cond.methodLink RL 215 yL_row ∈ me_gw := (me_gm 1257 (by decide +kernel) (by decide +kernel))
theorem mh_L_row : Cond.codeWith yL_row cL_row 6 (some .int) [(0, 12, 15, 13), (0, 12, 19, 15)] ∈ me_gw := (me_gm 1259 (by decide +kernel) (by decide +kernel))
theorem si_L_row : Cond.static yL_row ∈ me_gw := (me_gm 1258 (by decide +kernel) (by decide +kernel))
theorem ml_L_218 : Cond.methodLink RL 218 yX12_row ∈ me_gw := (me_gm 1932 (by decide +kernel) (by decide +kernel))
theorem mv_M_row : me_MV yX12_row cX12_row 4 (some .int) 3 := ⟨(me_gm 1935 (by decide +kernel) (by decide +kernel)), (me_gm 88 (by decide +kernel) (by decide +kernel)), ⟨by decide +kernel, by decide +kernel⟩, by decide +kernel, (me_gm 1933 (by decide +kernel) (by decide +kernel)), (me_gm 1934 (by decide +kernel) (by decide +kernel))⟩
theorem ml_L_219 : Cond.methodLink RL 219 yL_owner ∈ me_gw := (me_gm 1270 (by decide +kernel) (by decide +kernel))
theorem mh_L_owner : Cond.codeWith yL_owner cL_owner 6 (some .int) [(0, 12, 15, 13), (0, 12, 19, 15)] ∈ me_gw := (me_gm 1272 (by decide +kernel) (by decide +kernel))
theorem si_L_owner : Cond.static yL_owner ∈ me_gw := (me_gm 1271 (by decide +kernel) (by decide +kernel))
theorem ml_L_221 : Cond.methodLink RL 221 yX12_owner ∈ me_gw := (me_gm 1941 (by decide +kernel) (by decide +kernel))
theorem mv_M_owner : me_MV yX12_owner cX12_owner 4 (some .int) 3 := ⟨(me_gm 1944 (by decide +kernel) (by decide +kernel)), (me_gm 88 (by decide +kernel) (by decide +kernel)), ⟨by decide +kernel, by decide +kernel⟩, by decide +kernel, (me_gm 1942 (by decide +kernel) (by decide +kernel)), (me_gm 1943 (by decide +kernel) (by decide +kernel))⟩
theorem ml_L_222 : Cond.methodLink RL 222 yL_fail ∈ me_gw := (me_gm 1277 (by decide +kernel) (by decide +kernel))
theorem mh_L_fail : Cond.codeWith yL_fail cL_fail 6 (some .int) [(0, 19, 22, 13), (0, 19, 26, 15), (0, 19, 30, 84)] ∈ me_gw := (me_gm 1279 (by decide +kernel) (by decide +kernel))
theorem si_L_fail : Cond.static yL_fail ∈ me_gw := (me_gm 1278 (by decide +kernel) (by decide +kernel))
theorem ml_L_225 : Cond.methodLink RL 225 yX12_fail ∈ me_gw := (me_gm 1945 (by decide +kernel) (by decide +kernel))
theorem mv_M_fail : me_MV yX12_fail cX12_fail 6 (some .boolean) 3 := ⟨(me_gm 1948 (by decide +kernel) (by decide +kernel)), (me_gm 88 (by decide +kernel) (by decide +kernel)), ⟨by decide +kernel, by decide +kernel⟩, by decide +kernel, (me_gm 1946 (by decide +kernel) (by decide +kernel)), (me_gm 1947 (by decide +kernel) (by decide +kernel))⟩
theorem ml_L_226 : Cond.methodLink RL 226 yL_sleep ∈ me_gw := (me_gm 1308 (by decide +kernel) (by decide +kernel))
theorem mh_L_sleep : Cond.codeWith yL_sleep cL_sleep 4 (some .int) [(0, 16, 19, 13), (0, 16, 22, 84)] ∈ me_gw := (me_gm 1310 (by decide +kernel) (by decide +kernel))
theorem si_L_sleep : Cond.static yL_sleep ∈ me_gw := (me_gm 1309 (by decide +kernel) (by decide +kernel))
theorem ml_L_228 : Cond.methodLink RL 228 yX12_sleep ∈ me_gw := (me_gm 1949 (by decide +kernel) (by decide +kernel))
theorem mv_M_sleep : me_MV yX12_sleep cX12_sleep 5 (some .boolean) 1 := ⟨(me_gm 1952 (by decide +kernel) (by decide +kernel)), (me_gm 88 (by decide +kernel) (by decide +kernel)), ⟨by decide +kernel, by decide +kernel⟩, by decide +kernel, (me_gm 1950 (by decide +kernel) (by decide +kernel)), (me_gm 1951 (by decide +kernel) (by decide +kernel))⟩
theorem dL_law_933 : decode cL_law 933 = .ok (.aload_n 1, 1) := by decide +kernel
theorem dL_law_934 : decode cL_law 934 = .ok (.aload_n 0, 1) := by decide +kernel
theorem dL_law_935 : decode cL_law 935 = .ok (.iload 5, 2) := by decide +kernel
theorem dL_law_937 : decode cL_law 937 = .ok (.iconst 1, 1) := by decide +kernel
theorem dL_law_938 : decode cL_law 938 = .ok (.iadd, 1) := by decide +kernel
theorem dL_law_939 : decode cL_law 939 = .ok (.iaload, 1) := by decide +kernel
theorem dL_law_940 : decode cL_law 940 = .ok (.aload_n 0, 1) := by decide +kernel
theorem dL_law_941 : decode cL_law 941 = .ok (.iload 5, 2) := by decide +kernel
theorem dL_law_943 : decode cL_law 943 = .ok (.iconst 2, 1) := by decide +kernel
theorem dL_law_944 : decode cL_law 944 = .ok (.iadd, 1) := by decide +kernel
theorem dL_law_945 : decode cL_law 945 = .ok (.iaload, 1) := by decide +kernel
theorem dL_law_946 : decode cL_law 946 = .ok (.aload_n 3, 1) := by decide +kernel
theorem dL_law_947 : decode cL_law 947 = .ok (.invokestatic 191, 3) := by decide +kernel
theorem dL_law_950 : decode cL_law 950 = .ok (.istore 6, 2) := by decide +kernel
theorem dL_law_952 : decode cL_law 952 = .ok (.aload_n 2, 1) := by decide +kernel
theorem dL_law_953 : decode cL_law 953 = .ok (.aload_n 0, 1) := by decide +kernel
theorem dL_law_954 : decode cL_law 954 = .ok (.iload 5, 2) := by decide +kernel
theorem dL_law_956 : decode cL_law 956 = .ok (.iconst 1, 1) := by decide +kernel
theorem dL_law_957 : decode cL_law 957 = .ok (.iadd, 1) := by decide +kernel
theorem dL_law_958 : decode cL_law 958 = .ok (.iaload, 1) := by decide +kernel
theorem dL_law_959 : decode cL_law 959 = .ok (.aload_n 0, 1) := by decide +kernel
theorem dL_law_960 : decode cL_law 960 = .ok (.iload 5, 2) := by decide +kernel
theorem dL_law_962 : decode cL_law 962 = .ok (.iconst 2, 1) := by decide +kernel
theorem dL_law_963 : decode cL_law 963 = .ok (.iadd, 1) := by decide +kernel
theorem dL_law_964 : decode cL_law 964 = .ok (.iaload, 1) := by decide +kernel
theorem dL_law_965 : decode cL_law 965 = .ok (.invokevirtual 194, 3) := by decide +kernel
theorem dL_law_968 : decode cL_law 968 = .ok (.istore 7, 2) := by decide +kernel
theorem dL_law_970 : decode cL_law 970 = .ok (.aload_n 2, 1) := by decide +kernel
theorem dL_law_971 : decode cL_law 971 = .ok (.invokevirtual 154, 3) := by decide +kernel
theorem dL_law_974 : decode cL_law 974 = .ok (.iload 6, 2) := by decide +kernel
theorem dL_law_976 : decode cL_law 976 = .ok (.if_icmp .eq 5, 3) := by decide +kernel
theorem dL_law_979 : decode cL_law 979 = .ok (.iconst 0, 1) := by decide +kernel
theorem dL_law_981 : decode cL_law 981 = .ok (.iload 6, 2) := by decide +kernel
theorem dL_law_983 : decode cL_law 983 = .ok (.ifCond .ne 15, 3) := by decide +kernel
theorem dL_law_986 : decode cL_law 986 = .ok (.aload_n 3, 1) := by decide +kernel
theorem dL_law_987 : decode cL_law 987 = .ok (.iconst 0, 1) := by decide +kernel
theorem dL_law_988 : decode cL_law 988 = .ok (.laload, 1) := by decide +kernel
theorem dL_law_989 : decode cL_law 989 = .ok (.iload 7, 2) := by decide +kernel
theorem dL_law_991 : decode cL_law 991 = .ok (.i2l, 1) := by decide +kernel
theorem dL_law_992 : decode cL_law 992 = .ok (.lcmp, 1) := by decide +kernel
theorem dL_law_993 : decode cL_law 993 = .ok (.ifCond .eq 5, 3) := by decide +kernel
theorem dL_law_996 : decode cL_law 996 = .ok (.iconst 0, 1) := by decide +kernel
theorem dL_law_998 : decode cL_law 998 = .ok (.goto 1791, 3) := by decide +kernel
theorem dL_law_1001 : decode cL_law 1001 = .ok (.aload_n 1, 1) := by decide +kernel
theorem dL_law_1002 : decode cL_law 1002 = .ok (.aload_n 0, 1) := by decide +kernel
theorem dL_law_1003 : decode cL_law 1003 = .ok (.iload 5, 2) := by decide +kernel
theorem dL_law_1005 : decode cL_law 1005 = .ok (.iconst 1, 1) := by decide +kernel
theorem dL_law_1006 : decode cL_law 1006 = .ok (.iadd, 1) := by decide +kernel
theorem dL_law_1007 : decode cL_law 1007 = .ok (.iaload, 1) := by decide +kernel
theorem dL_law_1008 : decode cL_law 1008 = .ok (.aload_n 0, 1) := by decide +kernel
theorem dL_law_1009 : decode cL_law 1009 = .ok (.iload 5, 2) := by decide +kernel
theorem dL_law_1011 : decode cL_law 1011 = .ok (.iconst 2, 1) := by decide +kernel
theorem dL_law_1012 : decode cL_law 1012 = .ok (.iadd, 1) := by decide +kernel
theorem dL_law_1013 : decode cL_law 1013 = .ok (.iaload, 1) := by decide +kernel
theorem dL_law_1014 : decode cL_law 1014 = .ok (.aload_n 3, 1) := by decide +kernel
theorem dL_law_1015 : decode cL_law 1015 = .ok (.invokestatic 195, 3) := by decide +kernel
theorem dL_law_1018 : decode cL_law 1018 = .ok (.istore 6, 2) := by decide +kernel
theorem dL_law_1020 : decode cL_law 1020 = .ok (.aload_n 2, 1) := by decide +kernel
theorem dL_law_1021 : decode cL_law 1021 = .ok (.aload_n 0, 1) := by decide +kernel
theorem dL_law_1022 : decode cL_law 1022 = .ok (.iload 5, 2) := by decide +kernel
theorem dL_law_1024 : decode cL_law 1024 = .ok (.iconst 1, 1) := by decide +kernel
theorem dL_law_1025 : decode cL_law 1025 = .ok (.iadd, 1) := by decide +kernel
theorem dL_law_1026 : decode cL_law 1026 = .ok (.iaload, 1) := by decide +kernel
theorem dL_law_1027 : decode cL_law 1027 = .ok (.aload_n 0, 1) := by decide +kernel
theorem dL_law_1028 : decode cL_law 1028 = .ok (.iload 5, 2) := by decide +kernel
theorem dL_law_1030 : decode cL_law 1030 = .ok (.iconst 2, 1) := by decide +kernel
theorem dL_law_1031 : decode cL_law 1031 = .ok (.iadd, 1) := by decide +kernel
theorem dL_law_1032 : decode cL_law 1032 = .ok (.iaload, 1) := by decide +kernel
theorem dL_law_1033 : decode cL_law 1033 = .ok (.invokevirtual 197, 3) := by decide +kernel
theorem dL_law_1036 : decode cL_law 1036 = .ok (.istore 7, 2) := by decide +kernel
theorem dL_law_1038 : decode cL_law 1038 = .ok (.aload_n 2, 1) := by decide +kernel
theorem dL_law_1039 : decode cL_law 1039 = .ok (.invokevirtual 154, 3) := by decide +kernel
theorem dL_law_1042 : decode cL_law 1042 = .ok (.iload 6, 2) := by decide +kernel
theorem dL_law_1044 : decode cL_law 1044 = .ok (.if_icmp .eq 5, 3) := by decide +kernel
theorem dL_law_1047 : decode cL_law 1047 = .ok (.iconst 0, 1) := by decide +kernel
theorem dL_law_1049 : decode cL_law 1049 = .ok (.iload 6, 2) := by decide +kernel
theorem dL_law_1051 : decode cL_law 1051 = .ok (.ifCond .ne 15, 3) := by decide +kernel
theorem dL_law_1054 : decode cL_law 1054 = .ok (.aload_n 3, 1) := by decide +kernel
theorem dL_law_1055 : decode cL_law 1055 = .ok (.iconst 0, 1) := by decide +kernel
theorem dL_law_1056 : decode cL_law 1056 = .ok (.laload, 1) := by decide +kernel
theorem dL_law_1057 : decode cL_law 1057 = .ok (.iload 7, 2) := by decide +kernel
theorem dL_law_1059 : decode cL_law 1059 = .ok (.i2l, 1) := by decide +kernel
theorem dL_law_1060 : decode cL_law 1060 = .ok (.lcmp, 1) := by decide +kernel
theorem dL_law_1061 : decode cL_law 1061 = .ok (.ifCond .eq 5, 3) := by decide +kernel
theorem dL_law_1064 : decode cL_law 1064 = .ok (.iconst 0, 1) := by decide +kernel
theorem dL_law_1066 : decode cL_law 1066 = .ok (.goto 1723, 3) := by decide +kernel
theorem dL_law_1069 : decode cL_law 1069 = .ok (.aload_n 1, 1) := by decide +kernel
theorem dL_law_1070 : decode cL_law 1070 = .ok (.aload_n 0, 1) := by decide +kernel
theorem dL_law_1071 : decode cL_law 1071 = .ok (.iload 5, 2) := by decide +kernel
theorem dL_law_1073 : decode cL_law 1073 = .ok (.iconst 1, 1) := by decide +kernel
theorem dL_law_1074 : decode cL_law 1074 = .ok (.iadd, 1) := by decide +kernel
theorem dL_law_1075 : decode cL_law 1075 = .ok (.iaload, 1) := by decide +kernel
theorem dL_law_1076 : decode cL_law 1076 = .ok (.aload_n 0, 1) := by decide +kernel
theorem dL_law_1077 : decode cL_law 1077 = .ok (.iload 5, 2) := by decide +kernel
theorem dL_law_1079 : decode cL_law 1079 = .ok (.iconst 2, 1) := by decide +kernel
theorem dL_law_1080 : decode cL_law 1080 = .ok (.iadd, 1) := by decide +kernel
theorem dL_law_1081 : decode cL_law 1081 = .ok (.iaload, 1) := by decide +kernel
theorem dL_law_1082 : decode cL_law 1082 = .ok (.aload_n 3, 1) := by decide +kernel
theorem dL_law_1083 : decode cL_law 1083 = .ok (.invokestatic 198, 3) := by decide +kernel
theorem dL_law_1086 : decode cL_law 1086 = .ok (.istore 6, 2) := by decide +kernel
theorem dL_law_1088 : decode cL_law 1088 = .ok (.aload_n 2, 1) := by decide +kernel
theorem dL_law_1089 : decode cL_law 1089 = .ok (.aload_n 0, 1) := by decide +kernel
theorem dL_law_1090 : decode cL_law 1090 = .ok (.iload 5, 2) := by decide +kernel
theorem dL_law_1092 : decode cL_law 1092 = .ok (.iconst 1, 1) := by decide +kernel
theorem dL_law_1093 : decode cL_law 1093 = .ok (.iadd, 1) := by decide +kernel
theorem dL_law_1094 : decode cL_law 1094 = .ok (.iaload, 1) := by decide +kernel
theorem dL_law_1095 : decode cL_law 1095 = .ok (.aload_n 0, 1) := by decide +kernel
theorem dL_law_1096 : decode cL_law 1096 = .ok (.iload 5, 2) := by decide +kernel
theorem dL_law_1098 : decode cL_law 1098 = .ok (.iconst 2, 1) := by decide +kernel
theorem dL_law_1099 : decode cL_law 1099 = .ok (.iadd, 1) := by decide +kernel
theorem dL_law_1100 : decode cL_law 1100 = .ok (.iaload, 1) := by decide +kernel
theorem dL_law_1101 : decode cL_law 1101 = .ok (.invokevirtual 200, 3) := by decide +kernel
theorem dL_law_1104 : decode cL_law 1104 = .ok (.istore 7, 2) := by decide +kernel
theorem dL_law_1106 : decode cL_law 1106 = .ok (.aload_n 2, 1) := by decide +kernel
theorem dL_law_1107 : decode cL_law 1107 = .ok (.invokevirtual 154, 3) := by decide +kernel
theorem dL_law_1110 : decode cL_law 1110 = .ok (.iload 6, 2) := by decide +kernel
theorem dL_law_1112 : decode cL_law 1112 = .ok (.if_icmp .eq 5, 3) := by decide +kernel
theorem dL_law_1115 : decode cL_law 1115 = .ok (.iconst 0, 1) := by decide +kernel
theorem dL_law_1117 : decode cL_law 1117 = .ok (.iload 6, 2) := by decide +kernel
theorem dL_law_1119 : decode cL_law 1119 = .ok (.ifCond .ne 15, 3) := by decide +kernel
theorem dL_law_1122 : decode cL_law 1122 = .ok (.aload_n 3, 1) := by decide +kernel
theorem dL_law_1123 : decode cL_law 1123 = .ok (.iconst 0, 1) := by decide +kernel
theorem dL_law_1124 : decode cL_law 1124 = .ok (.laload, 1) := by decide +kernel
theorem dL_law_1125 : decode cL_law 1125 = .ok (.iload 7, 2) := by decide +kernel
theorem dL_law_1127 : decode cL_law 1127 = .ok (.i2l, 1) := by decide +kernel
theorem dL_law_1128 : decode cL_law 1128 = .ok (.lcmp, 1) := by decide +kernel
theorem dL_law_1129 : decode cL_law 1129 = .ok (.ifCond .eq 5, 3) := by decide +kernel
theorem dL_law_1132 : decode cL_law 1132 = .ok (.iconst 0, 1) := by decide +kernel
theorem dL_law_1134 : decode cL_law 1134 = .ok (.goto 1655, 3) := by decide +kernel
theorem dL_law_1137 : decode cL_law 1137 = .ok (.aload_n 1, 1) := by decide +kernel
theorem dL_law_1138 : decode cL_law 1138 = .ok (.aload_n 0, 1) := by decide +kernel
theorem dL_law_1139 : decode cL_law 1139 = .ok (.iload 5, 2) := by decide +kernel
theorem dL_law_1141 : decode cL_law 1141 = .ok (.iconst 1, 1) := by decide +kernel
theorem dL_law_1142 : decode cL_law 1142 = .ok (.iadd, 1) := by decide +kernel
theorem dL_law_1143 : decode cL_law 1143 = .ok (.iaload, 1) := by decide +kernel
theorem dL_law_1144 : decode cL_law 1144 = .ok (.aload_n 3, 1) := by decide +kernel
theorem dL_law_1145 : decode cL_law 1145 = .ok (.invokestatic 201, 3) := by decide +kernel
theorem dL_law_1148 : decode cL_law 1148 = .ok (.istore 6, 2) := by decide +kernel
theorem dL_law_1150 : decode cL_law 1150 = .ok (.aload_n 2, 1) := by decide +kernel
theorem dL_law_1151 : decode cL_law 1151 = .ok (.aload_n 0, 1) := by decide +kernel
theorem dL_law_1152 : decode cL_law 1152 = .ok (.iload 5, 2) := by decide +kernel
theorem dL_law_1154 : decode cL_law 1154 = .ok (.iconst 1, 1) := by decide +kernel
theorem dL_law_1155 : decode cL_law 1155 = .ok (.iadd, 1) := by decide +kernel
theorem dL_law_1156 : decode cL_law 1156 = .ok (.iaload, 1) := by decide +kernel
theorem dL_law_1157 : decode cL_law 1157 = .ok (.invokevirtual 203, 3) := by decide +kernel
theorem dL_law_1160 : decode cL_law 1160 = .ok (.istore 7, 2) := by decide +kernel
theorem dL_law_1162 : decode cL_law 1162 = .ok (.aload_n 2, 1) := by decide +kernel
theorem dL_law_1163 : decode cL_law 1163 = .ok (.invokevirtual 154, 3) := by decide +kernel
theorem dL_law_1166 : decode cL_law 1166 = .ok (.iload 6, 2) := by decide +kernel
theorem dL_law_1168 : decode cL_law 1168 = .ok (.if_icmp .eq 5, 3) := by decide +kernel
theorem dL_law_1171 : decode cL_law 1171 = .ok (.iconst 0, 1) := by decide +kernel
theorem dL_law_1173 : decode cL_law 1173 = .ok (.iload 6, 2) := by decide +kernel
theorem dL_law_1175 : decode cL_law 1175 = .ok (.ifCond .ne 22, 3) := by decide +kernel
theorem dL_law_1178 : decode cL_law 1178 = .ok (.aload_n 3, 1) := by decide +kernel
theorem dL_law_1179 : decode cL_law 1179 = .ok (.iconst 0, 1) := by decide +kernel
theorem dL_law_1180 : decode cL_law 1180 = .ok (.laload, 1) := by decide +kernel
theorem dL_law_1181 : decode cL_law 1181 = .ok (.iload 7, 2) := by decide +kernel
theorem dL_law_1183 : decode cL_law 1183 = .ok (.ifCond .eq 7, 3) := by decide +kernel
theorem dL_law_1186 : decode cL_law 1186 = .ok (.lconst 1, 1) := by decide +kernel
theorem dL_law_1187 : decode cL_law 1187 = .ok (.goto 4, 3) := by decide +kernel
theorem dL_law_1190 : decode cL_law 1190 = .ok (.lconst 0, 1) := by decide +kernel
theorem dL_law_1191 : decode cL_law 1191 = .ok (.lcmp, 1) := by decide +kernel
theorem dL_law_1192 : decode cL_law 1192 = .ok (.ifCond .eq 5, 3) := by decide +kernel
theorem dL_law_1195 : decode cL_law 1195 = .ok (.iconst 0, 1) := by decide +kernel
theorem dL_law_1197 : decode cL_law 1197 = .ok (.goto 1592, 3) := by decide +kernel
theorem dL_law_1200 : decode cL_law 1200 = .ok (.aload_n 1, 1) := by decide +kernel
theorem dL_law_1201 : decode cL_law 1201 = .ok (.invokevirtual 204, 3) := by decide +kernel
theorem dL_law_1204 : decode cL_law 1204 = .ok (.aload_n 2, 1) := by decide +kernel
theorem dL_law_1205 : decode cL_law 1205 = .ok (.invokevirtual 207, 3) := by decide +kernel
theorem dL_law_1208 : decode cL_law 1208 = .ok (.if_icmp .eq 1581, 3) := by decide +kernel
theorem dL_law_1211 : decode cL_law 1211 = .ok (.iconst 0, 1) := by decide +kernel
theorem dL_law_1213 : decode cL_law 1213 = .ok (.aload_n 1, 1) := by decide +kernel
theorem dL_law_1214 : decode cL_law 1214 = .ok (.aload_n 0, 1) := by decide +kernel
theorem dL_law_1215 : decode cL_law 1215 = .ok (.iload 5, 2) := by decide +kernel
theorem dL_law_1217 : decode cL_law 1217 = .ok (.iconst 1, 1) := by decide +kernel
theorem dL_law_1218 : decode cL_law 1218 = .ok (.iadd, 1) := by decide +kernel
theorem dL_law_1219 : decode cL_law 1219 = .ok (.iaload, 1) := by decide +kernel
theorem dL_law_1220 : decode cL_law 1220 = .ok (.i2c, 1) := by decide +kernel
theorem dL_law_1221 : decode cL_law 1221 = .ok (.aload_n 3, 1) := by decide +kernel
theorem dL_law_1222 : decode cL_law 1222 = .ok (.invokestatic 208, 3) := by decide +kernel
theorem dL_law_1225 : decode cL_law 1225 = .ok (.istore 6, 2) := by decide +kernel
theorem dL_law_1227 : decode cL_law 1227 = .ok (.aload_n 2, 1) := by decide +kernel
theorem dL_law_1228 : decode cL_law 1228 = .ok (.aload_n 0, 1) := by decide +kernel
theorem dL_law_1229 : decode cL_law 1229 = .ok (.iload 5, 2) := by decide +kernel
theorem dL_law_1231 : decode cL_law 1231 = .ok (.iconst 1, 1) := by decide +kernel
theorem dL_law_1232 : decode cL_law 1232 = .ok (.iadd, 1) := by decide +kernel
theorem dL_law_1233 : decode cL_law 1233 = .ok (.iaload, 1) := by decide +kernel
theorem dL_law_1234 : decode cL_law 1234 = .ok (.i2c, 1) := by decide +kernel
theorem dL_law_1235 : decode cL_law 1235 = .ok (.invokevirtual 211, 3) := by decide +kernel
theorem dL_law_1238 : decode cL_law 1238 = .ok (.istore 7, 2) := by decide +kernel
theorem dL_law_1240 : decode cL_law 1240 = .ok (.aload_n 2, 1) := by decide +kernel
theorem dL_law_1241 : decode cL_law 1241 = .ok (.invokevirtual 154, 3) := by decide +kernel
theorem dL_law_1244 : decode cL_law 1244 = .ok (.iload 6, 2) := by decide +kernel
theorem dL_law_1246 : decode cL_law 1246 = .ok (.if_icmp .eq 5, 3) := by decide +kernel
theorem dL_law_1249 : decode cL_law 1249 = .ok (.iconst 0, 1) := by decide +kernel
theorem dL_law_1251 : decode cL_law 1251 = .ok (.iload 6, 2) := by decide +kernel
theorem dL_law_1253 : decode cL_law 1253 = .ok (.ifCond .ne 15, 3) := by decide +kernel
theorem dL_law_1256 : decode cL_law 1256 = .ok (.aload_n 3, 1) := by decide +kernel
theorem dL_law_1257 : decode cL_law 1257 = .ok (.iconst 0, 1) := by decide +kernel
theorem dL_law_1258 : decode cL_law 1258 = .ok (.laload, 1) := by decide +kernel
theorem dL_law_1259 : decode cL_law 1259 = .ok (.iload 7, 2) := by decide +kernel
theorem dL_law_1261 : decode cL_law 1261 = .ok (.i2l, 1) := by decide +kernel
theorem dL_law_1262 : decode cL_law 1262 = .ok (.lcmp, 1) := by decide +kernel
theorem dL_law_1263 : decode cL_law 1263 = .ok (.ifCond .eq 5, 3) := by decide +kernel
theorem dL_law_1266 : decode cL_law 1266 = .ok (.iconst 0, 1) := by decide +kernel
theorem dL_law_1268 : decode cL_law 1268 = .ok (.goto 1521, 3) := by decide +kernel
theorem dL_law_1271 : decode cL_law 1271 = .ok (.aload_n 1, 1) := by decide +kernel
theorem dL_law_1272 : decode cL_law 1272 = .ok (.aload_n 0, 1) := by decide +kernel
theorem dL_law_1273 : decode cL_law 1273 = .ok (.iload 5, 2) := by decide +kernel
theorem dL_law_1275 : decode cL_law 1275 = .ok (.iconst 1, 1) := by decide +kernel
theorem dL_law_1276 : decode cL_law 1276 = .ok (.iadd, 1) := by decide +kernel
theorem dL_law_1277 : decode cL_law 1277 = .ok (.iaload, 1) := by decide +kernel
theorem dL_law_1278 : decode cL_law 1278 = .ok (.aload_n 3, 1) := by decide +kernel
theorem dL_law_1279 : decode cL_law 1279 = .ok (.invokestatic 212, 3) := by decide +kernel
theorem dL_law_1282 : decode cL_law 1282 = .ok (.istore 6, 2) := by decide +kernel
theorem dL_law_1284 : decode cL_law 1284 = .ok (.aload_n 2, 1) := by decide +kernel
theorem dL_law_1285 : decode cL_law 1285 = .ok (.aload_n 0, 1) := by decide +kernel
theorem dL_law_1286 : decode cL_law 1286 = .ok (.iload 5, 2) := by decide +kernel
theorem dL_law_1288 : decode cL_law 1288 = .ok (.iconst 1, 1) := by decide +kernel
theorem dL_law_1289 : decode cL_law 1289 = .ok (.iadd, 1) := by decide +kernel
theorem dL_law_1290 : decode cL_law 1290 = .ok (.iaload, 1) := by decide +kernel
theorem dL_law_1291 : decode cL_law 1291 = .ok (.invokevirtual 214, 3) := by decide +kernel
theorem dL_law_1294 : decode cL_law 1294 = .ok (.istore 7, 2) := by decide +kernel
theorem dL_law_1296 : decode cL_law 1296 = .ok (.aload_n 2, 1) := by decide +kernel
theorem dL_law_1297 : decode cL_law 1297 = .ok (.invokevirtual 154, 3) := by decide +kernel
theorem dL_law_1300 : decode cL_law 1300 = .ok (.iload 6, 2) := by decide +kernel
theorem dL_law_1302 : decode cL_law 1302 = .ok (.if_icmp .eq 5, 3) := by decide +kernel
theorem dL_law_1305 : decode cL_law 1305 = .ok (.iconst 0, 1) := by decide +kernel
theorem dL_law_1307 : decode cL_law 1307 = .ok (.iload 6, 2) := by decide +kernel
theorem dL_law_1309 : decode cL_law 1309 = .ok (.ifCond .ne 15, 3) := by decide +kernel
theorem dL_law_1312 : decode cL_law 1312 = .ok (.aload_n 3, 1) := by decide +kernel
theorem dL_law_1313 : decode cL_law 1313 = .ok (.iconst 0, 1) := by decide +kernel
theorem dL_law_1314 : decode cL_law 1314 = .ok (.laload, 1) := by decide +kernel
theorem dL_law_1315 : decode cL_law 1315 = .ok (.iload 7, 2) := by decide +kernel
theorem dL_law_1317 : decode cL_law 1317 = .ok (.i2l, 1) := by decide +kernel
theorem dL_law_1318 : decode cL_law 1318 = .ok (.lcmp, 1) := by decide +kernel
theorem dL_law_1319 : decode cL_law 1319 = .ok (.ifCond .eq 5, 3) := by decide +kernel
theorem dL_law_1322 : decode cL_law 1322 = .ok (.iconst 0, 1) := by decide +kernel
theorem dL_law_1324 : decode cL_law 1324 = .ok (.goto 1465, 3) := by decide +kernel
theorem dL_law_1327 : decode cL_law 1327 = .ok (.aload_n 1, 1) := by decide +kernel
theorem dL_law_1328 : decode cL_law 1328 = .ok (.aload_n 0, 1) := by decide +kernel
theorem dL_law_1329 : decode cL_law 1329 = .ok (.iload 5, 2) := by decide +kernel
theorem dL_law_1331 : decode cL_law 1331 = .ok (.iconst 1, 1) := by decide +kernel
theorem dL_law_1332 : decode cL_law 1332 = .ok (.iadd, 1) := by decide +kernel
theorem dL_law_1333 : decode cL_law 1333 = .ok (.iaload, 1) := by decide +kernel
theorem dL_law_1334 : decode cL_law 1334 = .ok (.aload_n 0, 1) := by decide +kernel
theorem dL_law_1335 : decode cL_law 1335 = .ok (.iload 5, 2) := by decide +kernel
theorem dL_law_1337 : decode cL_law 1337 = .ok (.iconst 2, 1) := by decide +kernel
theorem dL_law_1338 : decode cL_law 1338 = .ok (.iadd, 1) := by decide +kernel
theorem dL_law_1339 : decode cL_law 1339 = .ok (.iaload, 1) := by decide +kernel
theorem dL_law_1340 : decode cL_law 1340 = .ok (.i2c, 1) := by decide +kernel
theorem dL_law_1341 : decode cL_law 1341 = .ok (.aload_n 0, 1) := by decide +kernel
theorem dL_law_1342 : decode cL_law 1342 = .ok (.iload 5, 2) := by decide +kernel
theorem dL_law_1344 : decode cL_law 1344 = .ok (.iconst 3, 1) := by decide +kernel
theorem dL_law_1345 : decode cL_law 1345 = .ok (.iadd, 1) := by decide +kernel
theorem dL_law_1346 : decode cL_law 1346 = .ok (.iaload, 1) := by decide +kernel
theorem dL_law_1347 : decode cL_law 1347 = .ok (.aload_n 3, 1) := by decide +kernel
theorem dL_law_1348 : decode cL_law 1348 = .ok (.invokestatic 215, 3) := by decide +kernel
theorem dL_law_1351 : decode cL_law 1351 = .ok (.istore 6, 2) := by decide +kernel
theorem dL_law_1353 : decode cL_law 1353 = .ok (.aload_n 2, 1) := by decide +kernel
theorem dL_law_1354 : decode cL_law 1354 = .ok (.aload_n 0, 1) := by decide +kernel
theorem dL_law_1355 : decode cL_law 1355 = .ok (.iload 5, 2) := by decide +kernel
theorem dL_law_1357 : decode cL_law 1357 = .ok (.iconst 1, 1) := by decide +kernel
theorem dL_law_1358 : decode cL_law 1358 = .ok (.iadd, 1) := by decide +kernel
theorem dL_law_1359 : decode cL_law 1359 = .ok (.iaload, 1) := by decide +kernel
theorem dL_law_1360 : decode cL_law 1360 = .ok (.aload_n 0, 1) := by decide +kernel
theorem dL_law_1361 : decode cL_law 1361 = .ok (.iload 5, 2) := by decide +kernel
theorem dL_law_1363 : decode cL_law 1363 = .ok (.iconst 2, 1) := by decide +kernel
theorem dL_law_1364 : decode cL_law 1364 = .ok (.iadd, 1) := by decide +kernel
theorem dL_law_1365 : decode cL_law 1365 = .ok (.iaload, 1) := by decide +kernel
theorem dL_law_1366 : decode cL_law 1366 = .ok (.i2c, 1) := by decide +kernel
theorem dL_law_1367 : decode cL_law 1367 = .ok (.aload_n 0, 1) := by decide +kernel
theorem dL_law_1368 : decode cL_law 1368 = .ok (.iload 5, 2) := by decide +kernel
theorem dL_law_1370 : decode cL_law 1370 = .ok (.iconst 3, 1) := by decide +kernel
theorem dL_law_1371 : decode cL_law 1371 = .ok (.iadd, 1) := by decide +kernel
theorem dL_law_1372 : decode cL_law 1372 = .ok (.iaload, 1) := by decide +kernel
theorem dL_law_1373 : decode cL_law 1373 = .ok (.invokevirtual 218, 3) := by decide +kernel
theorem dL_law_1376 : decode cL_law 1376 = .ok (.istore 7, 2) := by decide +kernel
theorem dL_law_1378 : decode cL_law 1378 = .ok (.aload_n 2, 1) := by decide +kernel
theorem dL_law_1379 : decode cL_law 1379 = .ok (.invokevirtual 154, 3) := by decide +kernel
theorem dL_law_1382 : decode cL_law 1382 = .ok (.iload 6, 2) := by decide +kernel
theorem dL_law_1384 : decode cL_law 1384 = .ok (.if_icmp .eq 5, 3) := by decide +kernel
theorem dL_law_1387 : decode cL_law 1387 = .ok (.iconst 0, 1) := by decide +kernel
theorem dL_law_1389 : decode cL_law 1389 = .ok (.iload 6, 2) := by decide +kernel
theorem dL_law_1391 : decode cL_law 1391 = .ok (.ifCond .ne 15, 3) := by decide +kernel
theorem dL_law_1394 : decode cL_law 1394 = .ok (.aload_n 3, 1) := by decide +kernel
theorem dL_law_1395 : decode cL_law 1395 = .ok (.iconst 0, 1) := by decide +kernel
theorem dL_law_1396 : decode cL_law 1396 = .ok (.laload, 1) := by decide +kernel
theorem dL_law_1397 : decode cL_law 1397 = .ok (.iload 7, 2) := by decide +kernel
theorem dL_law_1399 : decode cL_law 1399 = .ok (.i2l, 1) := by decide +kernel
theorem dL_law_1400 : decode cL_law 1400 = .ok (.lcmp, 1) := by decide +kernel
theorem dL_law_1401 : decode cL_law 1401 = .ok (.ifCond .eq 5, 3) := by decide +kernel
theorem dL_law_1404 : decode cL_law 1404 = .ok (.iconst 0, 1) := by decide +kernel
theorem dL_law_1406 : decode cL_law 1406 = .ok (.goto 1383, 3) := by decide +kernel
theorem dL_law_1409 : decode cL_law 1409 = .ok (.aload_n 1, 1) := by decide +kernel
theorem dL_law_1410 : decode cL_law 1410 = .ok (.aload_n 0, 1) := by decide +kernel
theorem dL_law_1411 : decode cL_law 1411 = .ok (.iload 5, 2) := by decide +kernel
theorem dL_law_1413 : decode cL_law 1413 = .ok (.iconst 1, 1) := by decide +kernel
theorem dL_law_1414 : decode cL_law 1414 = .ok (.iadd, 1) := by decide +kernel
theorem dL_law_1415 : decode cL_law 1415 = .ok (.iaload, 1) := by decide +kernel
theorem dL_law_1416 : decode cL_law 1416 = .ok (.aload_n 0, 1) := by decide +kernel
theorem dL_law_1417 : decode cL_law 1417 = .ok (.iload 5, 2) := by decide +kernel
theorem dL_law_1419 : decode cL_law 1419 = .ok (.iconst 2, 1) := by decide +kernel
theorem dL_law_1420 : decode cL_law 1420 = .ok (.iadd, 1) := by decide +kernel
theorem dL_law_1421 : decode cL_law 1421 = .ok (.iaload, 1) := by decide +kernel
theorem dL_law_1422 : decode cL_law 1422 = .ok (.i2c, 1) := by decide +kernel
theorem dL_law_1423 : decode cL_law 1423 = .ok (.aload_n 0, 1) := by decide +kernel
theorem dL_law_1424 : decode cL_law 1424 = .ok (.iload 5, 2) := by decide +kernel
theorem dL_law_1426 : decode cL_law 1426 = .ok (.iconst 3, 1) := by decide +kernel
theorem dL_law_1427 : decode cL_law 1427 = .ok (.iadd, 1) := by decide +kernel
theorem dL_law_1428 : decode cL_law 1428 = .ok (.iaload, 1) := by decide +kernel
theorem dL_law_1429 : decode cL_law 1429 = .ok (.aload_n 3, 1) := by decide +kernel
theorem dL_law_1430 : decode cL_law 1430 = .ok (.invokestatic 219, 3) := by decide +kernel
theorem dL_law_1433 : decode cL_law 1433 = .ok (.istore 6, 2) := by decide +kernel
theorem dL_law_1435 : decode cL_law 1435 = .ok (.aload_n 2, 1) := by decide +kernel
theorem dL_law_1436 : decode cL_law 1436 = .ok (.aload_n 0, 1) := by decide +kernel
theorem dL_law_1437 : decode cL_law 1437 = .ok (.iload 5, 2) := by decide +kernel
theorem dL_law_1439 : decode cL_law 1439 = .ok (.iconst 1, 1) := by decide +kernel
theorem dL_law_1440 : decode cL_law 1440 = .ok (.iadd, 1) := by decide +kernel
theorem dL_law_1441 : decode cL_law 1441 = .ok (.iaload, 1) := by decide +kernel
theorem dL_law_1442 : decode cL_law 1442 = .ok (.aload_n 0, 1) := by decide +kernel
theorem dL_law_1443 : decode cL_law 1443 = .ok (.iload 5, 2) := by decide +kernel
theorem dL_law_1445 : decode cL_law 1445 = .ok (.iconst 2, 1) := by decide +kernel
theorem dL_law_1446 : decode cL_law 1446 = .ok (.iadd, 1) := by decide +kernel
theorem dL_law_1447 : decode cL_law 1447 = .ok (.iaload, 1) := by decide +kernel
theorem dL_law_1448 : decode cL_law 1448 = .ok (.i2c, 1) := by decide +kernel
theorem dL_law_1449 : decode cL_law 1449 = .ok (.aload_n 0, 1) := by decide +kernel
theorem dL_law_1450 : decode cL_law 1450 = .ok (.iload 5, 2) := by decide +kernel
theorem dL_law_1452 : decode cL_law 1452 = .ok (.iconst 3, 1) := by decide +kernel
theorem dL_law_1453 : decode cL_law 1453 = .ok (.iadd, 1) := by decide +kernel
theorem dL_law_1454 : decode cL_law 1454 = .ok (.iaload, 1) := by decide +kernel
theorem dL_law_1455 : decode cL_law 1455 = .ok (.invokevirtual 221, 3) := by decide +kernel
theorem dL_law_1458 : decode cL_law 1458 = .ok (.istore 7, 2) := by decide +kernel
theorem dL_law_1460 : decode cL_law 1460 = .ok (.aload_n 2, 1) := by decide +kernel
theorem dL_law_1461 : decode cL_law 1461 = .ok (.invokevirtual 154, 3) := by decide +kernel
theorem dL_law_1464 : decode cL_law 1464 = .ok (.iload 6, 2) := by decide +kernel
theorem dL_law_1466 : decode cL_law 1466 = .ok (.if_icmp .eq 5, 3) := by decide +kernel
theorem dL_law_1469 : decode cL_law 1469 = .ok (.iconst 0, 1) := by decide +kernel
theorem dL_law_1471 : decode cL_law 1471 = .ok (.iload 6, 2) := by decide +kernel
theorem dL_law_1473 : decode cL_law 1473 = .ok (.ifCond .ne 15, 3) := by decide +kernel
theorem dL_law_1476 : decode cL_law 1476 = .ok (.aload_n 3, 1) := by decide +kernel
theorem dL_law_1477 : decode cL_law 1477 = .ok (.iconst 0, 1) := by decide +kernel
theorem dL_law_1478 : decode cL_law 1478 = .ok (.laload, 1) := by decide +kernel
theorem dL_law_1479 : decode cL_law 1479 = .ok (.iload 7, 2) := by decide +kernel
theorem dL_law_1481 : decode cL_law 1481 = .ok (.i2l, 1) := by decide +kernel
theorem dL_law_1482 : decode cL_law 1482 = .ok (.lcmp, 1) := by decide +kernel
theorem dL_law_1483 : decode cL_law 1483 = .ok (.ifCond .eq 5, 3) := by decide +kernel
theorem dL_law_1486 : decode cL_law 1486 = .ok (.iconst 0, 1) := by decide +kernel
theorem dL_law_1488 : decode cL_law 1488 = .ok (.goto 1301, 3) := by decide +kernel
theorem dL_law_1491 : decode cL_law 1491 = .ok (.aload_n 1, 1) := by decide +kernel
theorem dL_law_1492 : decode cL_law 1492 = .ok (.aload_n 0, 1) := by decide +kernel
theorem dL_law_1493 : decode cL_law 1493 = .ok (.iload 5, 2) := by decide +kernel
theorem dL_law_1495 : decode cL_law 1495 = .ok (.iconst 1, 1) := by decide +kernel
theorem dL_law_1496 : decode cL_law 1496 = .ok (.iadd, 1) := by decide +kernel
theorem dL_law_1497 : decode cL_law 1497 = .ok (.iaload, 1) := by decide +kernel
theorem dL_law_1498 : decode cL_law 1498 = .ok (.aload_n 0, 1) := by decide +kernel
theorem dL_law_1499 : decode cL_law 1499 = .ok (.iload 5, 2) := by decide +kernel
theorem dL_law_1501 : decode cL_law 1501 = .ok (.iconst 2, 1) := by decide +kernel
theorem dL_law_1502 : decode cL_law 1502 = .ok (.iadd, 1) := by decide +kernel
theorem dL_law_1503 : decode cL_law 1503 = .ok (.iaload, 1) := by decide +kernel
theorem dL_law_1504 : decode cL_law 1504 = .ok (.i2c, 1) := by decide +kernel
theorem dL_law_1505 : decode cL_law 1505 = .ok (.aload_n 0, 1) := by decide +kernel
theorem dL_law_1506 : decode cL_law 1506 = .ok (.iload 5, 2) := by decide +kernel
theorem dL_law_1508 : decode cL_law 1508 = .ok (.iconst 3, 1) := by decide +kernel
theorem dL_law_1509 : decode cL_law 1509 = .ok (.iadd, 1) := by decide +kernel
theorem dL_law_1510 : decode cL_law 1510 = .ok (.iaload, 1) := by decide +kernel
theorem dL_law_1511 : decode cL_law 1511 = .ok (.ifCond .eq 7, 3) := by decide +kernel
theorem dL_law_1514 : decode cL_law 1514 = .ok (.iconst 1, 1) := by decide +kernel
theorem dL_law_1515 : decode cL_law 1515 = .ok (.goto 4, 3) := by decide +kernel
theorem dL_law_1518 : decode cL_law 1518 = .ok (.iconst 0, 1) := by decide +kernel
theorem dL_law_1519 : decode cL_law 1519 = .ok (.aload_n 3, 1) := by decide +kernel
theorem dL_law_1520 : decode cL_law 1520 = .ok (.invokestatic 222, 3) := by decide +kernel
theorem dL_law_1523 : decode cL_law 1523 = .ok (.istore 6, 2) := by decide +kernel
theorem dL_law_1525 : decode cL_law 1525 = .ok (.aload_n 2, 1) := by decide +kernel
theorem dL_law_1526 : decode cL_law 1526 = .ok (.aload_n 0, 1) := by decide +kernel
theorem dL_law_1527 : decode cL_law 1527 = .ok (.iload 5, 2) := by decide +kernel
theorem dL_law_1529 : decode cL_law 1529 = .ok (.iconst 1, 1) := by decide +kernel
theorem dL_law_1530 : decode cL_law 1530 = .ok (.iadd, 1) := by decide +kernel
theorem dL_law_1531 : decode cL_law 1531 = .ok (.iaload, 1) := by decide +kernel
theorem dL_law_1532 : decode cL_law 1532 = .ok (.aload_n 0, 1) := by decide +kernel
theorem dL_law_1533 : decode cL_law 1533 = .ok (.iload 5, 2) := by decide +kernel
theorem dL_law_1535 : decode cL_law 1535 = .ok (.iconst 2, 1) := by decide +kernel
theorem dL_law_1536 : decode cL_law 1536 = .ok (.iadd, 1) := by decide +kernel
theorem dL_law_1537 : decode cL_law 1537 = .ok (.iaload, 1) := by decide +kernel
theorem dL_law_1538 : decode cL_law 1538 = .ok (.i2c, 1) := by decide +kernel
theorem dL_law_1539 : decode cL_law 1539 = .ok (.aload_n 0, 1) := by decide +kernel
theorem dL_law_1540 : decode cL_law 1540 = .ok (.iload 5, 2) := by decide +kernel
theorem dL_law_1542 : decode cL_law 1542 = .ok (.iconst 3, 1) := by decide +kernel
theorem dL_law_1543 : decode cL_law 1543 = .ok (.iadd, 1) := by decide +kernel
theorem dL_law_1544 : decode cL_law 1544 = .ok (.iaload, 1) := by decide +kernel
theorem dL_law_1545 : decode cL_law 1545 = .ok (.ifCond .eq 7, 3) := by decide +kernel
theorem dL_law_1548 : decode cL_law 1548 = .ok (.iconst 1, 1) := by decide +kernel
theorem dL_law_1549 : decode cL_law 1549 = .ok (.goto 4, 3) := by decide +kernel
theorem dL_law_1552 : decode cL_law 1552 = .ok (.iconst 0, 1) := by decide +kernel
theorem dL_law_1553 : decode cL_law 1553 = .ok (.invokevirtual 225, 3) := by decide +kernel
theorem dL_law_1556 : decode cL_law 1556 = .ok (.istore 7, 2) := by decide +kernel
theorem dL_law_1558 : decode cL_law 1558 = .ok (.aload_n 2, 1) := by decide +kernel
theorem dL_law_1559 : decode cL_law 1559 = .ok (.invokevirtual 154, 3) := by decide +kernel
theorem dL_law_1562 : decode cL_law 1562 = .ok (.iload 6, 2) := by decide +kernel
theorem dL_law_1564 : decode cL_law 1564 = .ok (.if_icmp .eq 5, 3) := by decide +kernel
theorem dL_law_1567 : decode cL_law 1567 = .ok (.iconst 0, 1) := by decide +kernel
theorem dL_law_1569 : decode cL_law 1569 = .ok (.iload 6, 2) := by decide +kernel
theorem dL_law_1571 : decode cL_law 1571 = .ok (.ifCond .ne 22, 3) := by decide +kernel
theorem dL_law_1574 : decode cL_law 1574 = .ok (.aload_n 3, 1) := by decide +kernel
theorem dL_law_1575 : decode cL_law 1575 = .ok (.iconst 0, 1) := by decide +kernel
theorem dL_law_1576 : decode cL_law 1576 = .ok (.laload, 1) := by decide +kernel
theorem dL_law_1577 : decode cL_law 1577 = .ok (.iload 7, 2) := by decide +kernel
theorem dL_law_1579 : decode cL_law 1579 = .ok (.ifCond .eq 7, 3) := by decide +kernel
theorem dL_law_1582 : decode cL_law 1582 = .ok (.lconst 1, 1) := by decide +kernel
theorem dL_law_1583 : decode cL_law 1583 = .ok (.goto 4, 3) := by decide +kernel
theorem dL_law_1586 : decode cL_law 1586 = .ok (.lconst 0, 1) := by decide +kernel
theorem dL_law_1587 : decode cL_law 1587 = .ok (.lcmp, 1) := by decide +kernel
theorem dL_law_1588 : decode cL_law 1588 = .ok (.ifCond .eq 5, 3) := by decide +kernel
theorem dL_law_1591 : decode cL_law 1591 = .ok (.iconst 0, 1) := by decide +kernel
theorem dL_law_1593 : decode cL_law 1593 = .ok (.goto 1196, 3) := by decide +kernel
theorem dL_law_1596 : decode cL_law 1596 = .ok (.aload_n 1, 1) := by decide +kernel
theorem dL_law_1597 : decode cL_law 1597 = .ok (.aload_n 0, 1) := by decide +kernel
theorem dL_law_1598 : decode cL_law 1598 = .ok (.iload 5, 2) := by decide +kernel
theorem dL_law_1600 : decode cL_law 1600 = .ok (.iconst 1, 1) := by decide +kernel
theorem dL_law_1601 : decode cL_law 1601 = .ok (.iadd, 1) := by decide +kernel
theorem dL_law_1602 : decode cL_law 1602 = .ok (.iaload, 1) := by decide +kernel
theorem dL_law_1603 : decode cL_law 1603 = .ok (.aload_n 3, 1) := by decide +kernel
theorem dL_law_1604 : decode cL_law 1604 = .ok (.invokestatic 226, 3) := by decide +kernel
theorem dL_law_1607 : decode cL_law 1607 = .ok (.istore 6, 2) := by decide +kernel
theorem dL_law_1609 : decode cL_law 1609 = .ok (.aload_n 2, 1) := by decide +kernel
theorem dL_law_1610 : decode cL_law 1610 = .ok (.aload_n 0, 1) := by decide +kernel
theorem dL_law_1611 : decode cL_law 1611 = .ok (.iload 5, 2) := by decide +kernel
theorem dL_law_1613 : decode cL_law 1613 = .ok (.iconst 1, 1) := by decide +kernel
theorem dL_law_1614 : decode cL_law 1614 = .ok (.iadd, 1) := by decide +kernel
theorem dL_law_1615 : decode cL_law 1615 = .ok (.iaload, 1) := by decide +kernel
theorem dL_law_1616 : decode cL_law 1616 = .ok (.invokevirtual 228, 3) := by decide +kernel
theorem dL_law_1619 : decode cL_law 1619 = .ok (.istore 7, 2) := by decide +kernel
theorem dL_law_1621 : decode cL_law 1621 = .ok (.aload_n 2, 1) := by decide +kernel
theorem dL_law_1622 : decode cL_law 1622 = .ok (.invokevirtual 154, 3) := by decide +kernel
theorem dL_law_1625 : decode cL_law 1625 = .ok (.iload 6, 2) := by decide +kernel
theorem dL_law_1627 : decode cL_law 1627 = .ok (.if_icmp .eq 5, 3) := by decide +kernel
theorem dL_law_1630 : decode cL_law 1630 = .ok (.iconst 0, 1) := by decide +kernel
theorem dL_law_1632 : decode cL_law 1632 = .ok (.iload 6, 2) := by decide +kernel
theorem dL_law_1634 : decode cL_law 1634 = .ok (.ifCond .ne 22, 3) := by decide +kernel
theorem dL_law_1637 : decode cL_law 1637 = .ok (.aload_n 3, 1) := by decide +kernel
theorem dL_law_1638 : decode cL_law 1638 = .ok (.iconst 0, 1) := by decide +kernel
theorem dL_law_1639 : decode cL_law 1639 = .ok (.laload, 1) := by decide +kernel
theorem dL_law_1640 : decode cL_law 1640 = .ok (.iload 7, 2) := by decide +kernel
theorem dL_law_1642 : decode cL_law 1642 = .ok (.ifCond .eq 7, 3) := by decide +kernel
theorem dL_law_1645 : decode cL_law 1645 = .ok (.lconst 1, 1) := by decide +kernel
theorem dL_law_1646 : decode cL_law 1646 = .ok (.goto 4, 3) := by decide +kernel
theorem dL_law_1649 : decode cL_law 1649 = .ok (.lconst 0, 1) := by decide +kernel
theorem dL_law_1650 : decode cL_law 1650 = .ok (.lcmp, 1) := by decide +kernel
theorem dL_law_1651 : decode cL_law 1651 = .ok (.ifCond .eq 5, 3) := by decide +kernel
theorem dL_law_1654 : decode cL_law 1654 = .ok (.iconst 0, 1) := by decide +kernel
theorem dL_law_1656 : decode cL_law 1656 = .ok (.goto 1133, 3) := by decide +kernel
def f_case_11 (μ : me_M) (o : Int64 × UInt64) (s1 s2 s3 s4 s5 : Int32) : Option (me_M × (Int64 × UInt64)) :=
  me_b2 (f_L_lying μ o s1 s2) (fun μ2 r1 =>
  me_b2 (f_M_lying μ2 s1 s2) (fun μ4 r3 =>
  me_bd (f_M_thrown μ4) (fun r5 =>
  if r5 = (r1.2) then
  (if (r1.2) = 0 then
  (if (lg_cmp (r1.1.1) (Int32.toInt64 r3)) = 0 then
  (some (μ4, r1.1))
  else
  (none))
  else
  (some (μ4, r1.1)))
  else
  (none))))
set_option maxHeartbeats 4000000 in
set_option maxRecDepth 100000 in
theorem z_case_11 {X : me_X} {B : me_B} {μ : me_M} {b n : Nat} {xs : Nat → Int32} {i s1 s2 s3 s4 s5 : Int32} {nc ns : Nat} {ret0 : Option FieldType} (C : me_C X B RL cL_law 9 ret0) (hX : me_SX X b n xs) (hroom : me_Rm X 12 464 601024 7293034) (hB : me_St B) (h93 : ∀ i, i < B.2.1 93 → i = 0) (h94 : ∀ i, i < B.2.1 94 → i = 0) (h95 : B.2.1 95 = 0) (hn : nc + 16 ≤ 601024 ∧ ns + 128 ≤ 7293034) (h1 : me_inb (i + 1) n = true) (e1 : xs (me_ix (i + 1)) = s1) (h2 : me_inb (i + 2) n = true) (e2 : xs (me_ix (i + 2)) = s2) (h3 : me_inb (i + 3) n = true) (e3 : xs (me_ix (i + 3)) = s3) (h4 : me_inb (i + 4) n = true) (e4 : xs (me_ix (i + 4)) = s4) (h5 : me_inb (i + 5) n = true) (e5 : xs (me_ix (i + 5)) = s5) {μ' : me_M} {o' : Int64 × UInt64} (hf : f_case_11 μ B.2.2.2 s1 s2 s3 s4 s5 = some (μ', o')) (hK : me_Z X (me_ob B o') (nc + 16) (ns + 128) μ' 2789 [(0, .inl (.ref b)), (1, me_r 0 0), (2, me_r 36 0), (3, me_r 93 0), (4, me_r 94 0), (5, me_i i)] []) : me_Z X B nc ns μ 933 [(0, .inl (.ref b)), (1, me_r 0 0), (2, me_r 36 0), (3, me_r 93 0), (4, me_r 94 0), (5, me_i i)] [] := by
  unfold f_case_11 at hf
  refine me_aload_n C 1 (Or.inr (Or.inl ⟨_, rfl⟩)) dL_law_933 rfl rfl ?_
  refine me_aload_n C 0 (Or.inr (Or.inr ⟨_, rfl⟩)) dL_law_934 rfl rfl ?_
  refine me_iload C dL_law_935 rfl ?_
  refine me_iconst C (v := 1) dL_law_937 (by decide) ?_
  refine me_iadd C dL_law_938 ?_
  refine me_sld C hX h1 e1 dL_law_939 ?_
  refine me_aload_n C 0 (Or.inr (Or.inr ⟨_, rfl⟩)) dL_law_940 rfl rfl ?_
  refine me_iload C dL_law_941 rfl ?_
  refine me_iconst C (v := 2) dL_law_943 (by decide) ?_
  refine me_iadd C dL_law_944 ?_
  refine me_sld C hX h2 e2 dL_law_945 ?_
  refine me_aload_n C 3 (Or.inr (Or.inl ⟨_, rfl⟩)) dL_law_946 rfl rfl ?_
  obtain ⟨μ2, r1, h_r1, hf⟩ := me_bs2 hf
  refine me_callSH C hroom (n := 4) (As := [me_r 0 0, me_i s1, me_i s2, me_r 93 0]) (st := []) (nc + 2) (ns + 12) (c_L_lying hB h93 h_r1) mh_L_lying iL ⟨by decide +kernel, by decide +kernel⟩ (by decide +kernel) si_L_lying ml_L_191 dL_law_947 rfl rfl ⟨by decide, by decide⟩ ⟨by omega, by omega, by omega, by omega⟩ (Nat.le_of_ble_eq_true rfl) ?_
  have hB := hB.ob r1.1
  have C := C.ob r1.1
  refine me_istore C dL_law_950 (by decide) (L' := [(6, me_i (r1.2)), (0, .inl (.ref b)), (1, me_r 0 0), (2, me_r 36 0), (3, me_r 93 0), (4, me_r 94 0), (5, me_i i)]) rfl ?_
  refine me_aload_n C 2 (Or.inr (Or.inl ⟨_, rfl⟩)) dL_law_952 rfl rfl ?_
  refine me_aload_n C 0 (Or.inr (Or.inr ⟨_, rfl⟩)) dL_law_953 rfl rfl ?_
  refine me_iload C dL_law_954 rfl ?_
  refine me_iconst C (v := 1) dL_law_956 (by decide) ?_
  refine me_iadd C dL_law_957 ?_
  refine me_sld C hX h1 e1 dL_law_958 ?_
  refine me_aload_n C 0 (Or.inr (Or.inr ⟨_, rfl⟩)) dL_law_959 rfl rfl ?_
  refine me_iload C dL_law_960 rfl ?_
  refine me_iconst C (v := 2) dL_law_962 (by decide) ?_
  refine me_iadd C dL_law_963 ?_
  refine me_sld C hX h2 e2 dL_law_964 ?_
  obtain ⟨μ4, r3, h_r3, hf⟩ := me_bs2 hf
  refine me_callVR C hroom (As := [me_i s1, me_i s2]) (st := []) (nc + 2) (ns + 12) (c_M_lying hB h_r3) mv_M_lying ml_L_194 rfl rfl dL_law_965 rfl rfl ⟨by decide, by decide⟩ ⟨by omega, by omega, by omega, by omega⟩ (Nat.le_of_ble_eq_true rfl) ?_
  refine me_istore C dL_law_968 (by decide) (L' := [(7, me_i r3), (6, me_i (r1.2)), (0, .inl (.ref b)), (1, me_r 0 0), (2, me_r 36 0), (3, me_r 93 0), (4, me_r 94 0), (5, me_i i)]) rfl ?_
  refine me_aload_n C 2 (Or.inr (Or.inl ⟨_, rfl⟩)) dL_law_970 rfl rfl ?_
  obtain ⟨r5, h_r5, hf⟩ := me_bs hf
  refine me_callVR C hroom (As := []) (st := []) (nc + 2) (ns + 12) (c_M_thrown hB h_r5) mv_M_thrown ml_L_154 rfl rfl dL_law_971 rfl rfl ⟨by decide, by decide⟩ ⟨by omega, by omega, by omega, by omega⟩ (Nat.le_of_ble_eq_true rfl) ?_
  refine me_iload C dL_law_974 rfl ?_
  refine me_icmp_eq C (tgt := 981) dL_law_976 (by decide) (fun c6 => ?_) (fun c6 => ?_)
  · replace hf := me_ip c6 hf
    refine me_iload C dL_law_981 rfl ?_
    refine me_if_ne C (tgt := 998) dL_law_983 (by decide) (fun c7 => ?_) (fun c7 => ?_)
    · replace hf := me_in c7 hf
      refine me_goto C (tgt := 2789) dL_law_998 (by decide) ?_
      cases hf
      refine me_wid (nc + 16) (ns + 128) (by omega) (by omega) ?_
      refine me_dropI [(0, .inl (.ref b)), (1, me_r 0 0), (2, me_r 36 0), (3, me_r 93 0), (4, me_r 94 0), (5, me_i i)] [2, 3, 4, 5, 6, 7] rfl ?_
      exact hK
    · replace hf := me_ip c7 hf
      refine me_aload_n C 3 (Or.inr (Or.inl ⟨_, rfl⟩)) dL_law_986 rfl rfl ?_
      refine me_iconst C (v := 0) dL_law_987 (by decide) ?_
      refine me_lald C dL_law_988 ?_
      refine me_iload C dL_law_989 rfl ?_
      refine me_i2l C dL_law_991 ?_
      refine me_lcmp C dL_law_992 ?_
      refine me_if_eq C (tgt := 998) dL_law_993 (by decide) (fun c8 => ?_) (fun c8 => ?_)
      · replace hf := me_ip c8 hf
        refine me_goto C (tgt := 2789) dL_law_998 (by decide) ?_
        cases hf
        refine me_wid (nc + 16) (ns + 128) (by omega) (by omega) ?_
        refine me_dropI [(0, .inl (.ref b)), (1, me_r 0 0), (2, me_r 36 0), (3, me_r 93 0), (4, me_r 94 0), (5, me_i i)] [2, 3, 4, 5, 6, 7] rfl ?_
        exact hK
      · replace hf := me_in c8 hf
        refine me_iconst C (v := 0) dL_law_996 (by decide) ?_
        cases hf
  · replace hf := me_in c6 hf
    refine me_iconst C (v := 0) dL_law_979 (by decide) ?_
    cases hf

def f_case_12 (μ : me_M) (o : Int64 × UInt64) (s1 s2 s3 s4 s5 : Int32) : Option (me_M × (Int64 × UInt64)) :=
  me_b2 (f_L_receive μ o s1 s2) (fun μ2 r1 =>
  me_b2 (f_M_receive μ2 s1 s2) (fun μ4 r3 =>
  me_bd (f_M_thrown μ4) (fun r5 =>
  if r5 = (r1.2) then
  (if (r1.2) = 0 then
  (if (lg_cmp (r1.1.1) (Int32.toInt64 r3)) = 0 then
  (some (μ4, r1.1))
  else
  (none))
  else
  (some (μ4, r1.1)))
  else
  (none))))
set_option maxHeartbeats 4000000 in
set_option maxRecDepth 100000 in
theorem z_case_12 {X : me_X} {B : me_B} {μ : me_M} {b n : Nat} {xs : Nat → Int32} {i s1 s2 s3 s4 s5 : Int32} {nc ns : Nat} {ret0 : Option FieldType} (C : me_C X B RL cL_law 9 ret0) (hX : me_SX X b n xs) (hroom : me_Rm X 12 464 601024 7293034) (hB : me_St B) (h93 : ∀ i, i < B.2.1 93 → i = 0) (h94 : ∀ i, i < B.2.1 94 → i = 0) (h95 : B.2.1 95 = 0) (hn : nc + 16 ≤ 601024 ∧ ns + 128 ≤ 7293034) (h1 : me_inb (i + 1) n = true) (e1 : xs (me_ix (i + 1)) = s1) (h2 : me_inb (i + 2) n = true) (e2 : xs (me_ix (i + 2)) = s2) (h3 : me_inb (i + 3) n = true) (e3 : xs (me_ix (i + 3)) = s3) (h4 : me_inb (i + 4) n = true) (e4 : xs (me_ix (i + 4)) = s4) (h5 : me_inb (i + 5) n = true) (e5 : xs (me_ix (i + 5)) = s5) {μ' : me_M} {o' : Int64 × UInt64} (hf : f_case_12 μ B.2.2.2 s1 s2 s3 s4 s5 = some (μ', o')) (hK : me_Z X (me_ob B o') (nc + 16) (ns + 128) μ' 2789 [(0, .inl (.ref b)), (1, me_r 0 0), (2, me_r 36 0), (3, me_r 93 0), (4, me_r 94 0), (5, me_i i)] []) : me_Z X B nc ns μ 1001 [(0, .inl (.ref b)), (1, me_r 0 0), (2, me_r 36 0), (3, me_r 93 0), (4, me_r 94 0), (5, me_i i)] [] := by
  unfold f_case_12 at hf
  refine me_aload_n C 1 (Or.inr (Or.inl ⟨_, rfl⟩)) dL_law_1001 rfl rfl ?_
  refine me_aload_n C 0 (Or.inr (Or.inr ⟨_, rfl⟩)) dL_law_1002 rfl rfl ?_
  refine me_iload C dL_law_1003 rfl ?_
  refine me_iconst C (v := 1) dL_law_1005 (by decide) ?_
  refine me_iadd C dL_law_1006 ?_
  refine me_sld C hX h1 e1 dL_law_1007 ?_
  refine me_aload_n C 0 (Or.inr (Or.inr ⟨_, rfl⟩)) dL_law_1008 rfl rfl ?_
  refine me_iload C dL_law_1009 rfl ?_
  refine me_iconst C (v := 2) dL_law_1011 (by decide) ?_
  refine me_iadd C dL_law_1012 ?_
  refine me_sld C hX h2 e2 dL_law_1013 ?_
  refine me_aload_n C 3 (Or.inr (Or.inl ⟨_, rfl⟩)) dL_law_1014 rfl rfl ?_
  obtain ⟨μ2, r1, h_r1, hf⟩ := me_bs2 hf
  refine me_callSH C hroom (n := 4) (As := [me_r 0 0, me_i s1, me_i s2, me_r 93 0]) (st := []) (nc + 3) (ns + 18) (c_L_receive hB h93 h_r1) mh_L_receive iL ⟨by decide +kernel, by decide +kernel⟩ (by decide +kernel) si_L_receive ml_L_195 dL_law_1015 rfl rfl ⟨by decide, by decide⟩ ⟨by omega, by omega, by omega, by omega⟩ (Nat.le_of_ble_eq_true rfl) ?_
  have hB := hB.ob r1.1
  have C := C.ob r1.1
  refine me_istore C dL_law_1018 (by decide) (L' := [(6, me_i (r1.2)), (0, .inl (.ref b)), (1, me_r 0 0), (2, me_r 36 0), (3, me_r 93 0), (4, me_r 94 0), (5, me_i i)]) rfl ?_
  refine me_aload_n C 2 (Or.inr (Or.inl ⟨_, rfl⟩)) dL_law_1020 rfl rfl ?_
  refine me_aload_n C 0 (Or.inr (Or.inr ⟨_, rfl⟩)) dL_law_1021 rfl rfl ?_
  refine me_iload C dL_law_1022 rfl ?_
  refine me_iconst C (v := 1) dL_law_1024 (by decide) ?_
  refine me_iadd C dL_law_1025 ?_
  refine me_sld C hX h1 e1 dL_law_1026 ?_
  refine me_aload_n C 0 (Or.inr (Or.inr ⟨_, rfl⟩)) dL_law_1027 rfl rfl ?_
  refine me_iload C dL_law_1028 rfl ?_
  refine me_iconst C (v := 2) dL_law_1030 (by decide) ?_
  refine me_iadd C dL_law_1031 ?_
  refine me_sld C hX h2 e2 dL_law_1032 ?_
  obtain ⟨μ4, r3, h_r3, hf⟩ := me_bs2 hf
  refine me_callVR C hroom (As := [me_i s1, me_i s2]) (st := []) (nc + 3) (ns + 18) (c_M_receive hB h_r3) mv_M_receive ml_L_197 rfl rfl dL_law_1033 rfl rfl ⟨by decide, by decide⟩ ⟨by omega, by omega, by omega, by omega⟩ (Nat.le_of_ble_eq_true rfl) ?_
  refine me_istore C dL_law_1036 (by decide) (L' := [(7, me_i r3), (6, me_i (r1.2)), (0, .inl (.ref b)), (1, me_r 0 0), (2, me_r 36 0), (3, me_r 93 0), (4, me_r 94 0), (5, me_i i)]) rfl ?_
  refine me_aload_n C 2 (Or.inr (Or.inl ⟨_, rfl⟩)) dL_law_1038 rfl rfl ?_
  obtain ⟨r5, h_r5, hf⟩ := me_bs hf
  refine me_callVR C hroom (As := []) (st := []) (nc + 3) (ns + 18) (c_M_thrown hB h_r5) mv_M_thrown ml_L_154 rfl rfl dL_law_1039 rfl rfl ⟨by decide, by decide⟩ ⟨by omega, by omega, by omega, by omega⟩ (Nat.le_of_ble_eq_true rfl) ?_
  refine me_iload C dL_law_1042 rfl ?_
  refine me_icmp_eq C (tgt := 1049) dL_law_1044 (by decide) (fun c6 => ?_) (fun c6 => ?_)
  · replace hf := me_ip c6 hf
    refine me_iload C dL_law_1049 rfl ?_
    refine me_if_ne C (tgt := 1066) dL_law_1051 (by decide) (fun c7 => ?_) (fun c7 => ?_)
    · replace hf := me_in c7 hf
      refine me_goto C (tgt := 2789) dL_law_1066 (by decide) ?_
      cases hf
      refine me_wid (nc + 16) (ns + 128) (by omega) (by omega) ?_
      refine me_dropI [(0, .inl (.ref b)), (1, me_r 0 0), (2, me_r 36 0), (3, me_r 93 0), (4, me_r 94 0), (5, me_i i)] [2, 3, 4, 5, 6, 7] rfl ?_
      exact hK
    · replace hf := me_ip c7 hf
      refine me_aload_n C 3 (Or.inr (Or.inl ⟨_, rfl⟩)) dL_law_1054 rfl rfl ?_
      refine me_iconst C (v := 0) dL_law_1055 (by decide) ?_
      refine me_lald C dL_law_1056 ?_
      refine me_iload C dL_law_1057 rfl ?_
      refine me_i2l C dL_law_1059 ?_
      refine me_lcmp C dL_law_1060 ?_
      refine me_if_eq C (tgt := 1066) dL_law_1061 (by decide) (fun c8 => ?_) (fun c8 => ?_)
      · replace hf := me_ip c8 hf
        refine me_goto C (tgt := 2789) dL_law_1066 (by decide) ?_
        cases hf
        refine me_wid (nc + 16) (ns + 128) (by omega) (by omega) ?_
        refine me_dropI [(0, .inl (.ref b)), (1, me_r 0 0), (2, me_r 36 0), (3, me_r 93 0), (4, me_r 94 0), (5, me_i i)] [2, 3, 4, 5, 6, 7] rfl ?_
        exact hK
      · replace hf := me_in c8 hf
        refine me_iconst C (v := 0) dL_law_1064 (by decide) ?_
        cases hf
  · replace hf := me_in c6 hf
    refine me_iconst C (v := 0) dL_law_1047 (by decide) ?_
    cases hf

def f_case_13 (μ : me_M) (o : Int64 × UInt64) (s1 s2 s3 s4 s5 : Int32) : Option (me_M × (Int64 × UInt64)) :=
  me_b2 (f_L_net μ o s1 s2) (fun μ2 r1 =>
  me_b2 (f_M_net μ2 s1 s2) (fun μ4 r3 =>
  me_bd (f_M_thrown μ4) (fun r5 =>
  if r5 = (r1.2) then
  (if (r1.2) = 0 then
  (if (lg_cmp (r1.1.1) (Int32.toInt64 r3)) = 0 then
  (some (μ4, r1.1))
  else
  (none))
  else
  (some (μ4, r1.1)))
  else
  (none))))
set_option maxHeartbeats 4000000 in
set_option maxRecDepth 100000 in
theorem z_case_13 {X : me_X} {B : me_B} {μ : me_M} {b n : Nat} {xs : Nat → Int32} {i s1 s2 s3 s4 s5 : Int32} {nc ns : Nat} {ret0 : Option FieldType} (C : me_C X B RL cL_law 9 ret0) (hX : me_SX X b n xs) (hroom : me_Rm X 12 464 601024 7293034) (hB : me_St B) (h93 : ∀ i, i < B.2.1 93 → i = 0) (h94 : ∀ i, i < B.2.1 94 → i = 0) (h95 : B.2.1 95 = 0) (hn : nc + 16 ≤ 601024 ∧ ns + 128 ≤ 7293034) (h1 : me_inb (i + 1) n = true) (e1 : xs (me_ix (i + 1)) = s1) (h2 : me_inb (i + 2) n = true) (e2 : xs (me_ix (i + 2)) = s2) (h3 : me_inb (i + 3) n = true) (e3 : xs (me_ix (i + 3)) = s3) (h4 : me_inb (i + 4) n = true) (e4 : xs (me_ix (i + 4)) = s4) (h5 : me_inb (i + 5) n = true) (e5 : xs (me_ix (i + 5)) = s5) {μ' : me_M} {o' : Int64 × UInt64} (hf : f_case_13 μ B.2.2.2 s1 s2 s3 s4 s5 = some (μ', o')) (hK : me_Z X (me_ob B o') (nc + 16) (ns + 128) μ' 2789 [(0, .inl (.ref b)), (1, me_r 0 0), (2, me_r 36 0), (3, me_r 93 0), (4, me_r 94 0), (5, me_i i)] []) : me_Z X B nc ns μ 1069 [(0, .inl (.ref b)), (1, me_r 0 0), (2, me_r 36 0), (3, me_r 93 0), (4, me_r 94 0), (5, me_i i)] [] := by
  unfold f_case_13 at hf
  refine me_aload_n C 1 (Or.inr (Or.inl ⟨_, rfl⟩)) dL_law_1069 rfl rfl ?_
  refine me_aload_n C 0 (Or.inr (Or.inr ⟨_, rfl⟩)) dL_law_1070 rfl rfl ?_
  refine me_iload C dL_law_1071 rfl ?_
  refine me_iconst C (v := 1) dL_law_1073 (by decide) ?_
  refine me_iadd C dL_law_1074 ?_
  refine me_sld C hX h1 e1 dL_law_1075 ?_
  refine me_aload_n C 0 (Or.inr (Or.inr ⟨_, rfl⟩)) dL_law_1076 rfl rfl ?_
  refine me_iload C dL_law_1077 rfl ?_
  refine me_iconst C (v := 2) dL_law_1079 (by decide) ?_
  refine me_iadd C dL_law_1080 ?_
  refine me_sld C hX h2 e2 dL_law_1081 ?_
  refine me_aload_n C 3 (Or.inr (Or.inl ⟨_, rfl⟩)) dL_law_1082 rfl rfl ?_
  obtain ⟨μ2, r1, h_r1, hf⟩ := me_bs2 hf
  refine me_callSH C hroom (n := 4) (As := [me_r 0 0, me_i s1, me_i s2, me_r 93 0]) (st := []) (nc + 2) (ns + 12) (c_L_net hB h93 h_r1) mh_L_net iL ⟨by decide +kernel, by decide +kernel⟩ (by decide +kernel) si_L_net ml_L_198 dL_law_1083 rfl rfl ⟨by decide, by decide⟩ ⟨by omega, by omega, by omega, by omega⟩ (Nat.le_of_ble_eq_true rfl) ?_
  have hB := hB.ob r1.1
  have C := C.ob r1.1
  refine me_istore C dL_law_1086 (by decide) (L' := [(6, me_i (r1.2)), (0, .inl (.ref b)), (1, me_r 0 0), (2, me_r 36 0), (3, me_r 93 0), (4, me_r 94 0), (5, me_i i)]) rfl ?_
  refine me_aload_n C 2 (Or.inr (Or.inl ⟨_, rfl⟩)) dL_law_1088 rfl rfl ?_
  refine me_aload_n C 0 (Or.inr (Or.inr ⟨_, rfl⟩)) dL_law_1089 rfl rfl ?_
  refine me_iload C dL_law_1090 rfl ?_
  refine me_iconst C (v := 1) dL_law_1092 (by decide) ?_
  refine me_iadd C dL_law_1093 ?_
  refine me_sld C hX h1 e1 dL_law_1094 ?_
  refine me_aload_n C 0 (Or.inr (Or.inr ⟨_, rfl⟩)) dL_law_1095 rfl rfl ?_
  refine me_iload C dL_law_1096 rfl ?_
  refine me_iconst C (v := 2) dL_law_1098 (by decide) ?_
  refine me_iadd C dL_law_1099 ?_
  refine me_sld C hX h2 e2 dL_law_1100 ?_
  obtain ⟨μ4, r3, h_r3, hf⟩ := me_bs2 hf
  refine me_callVR C hroom (As := [me_i s1, me_i s2]) (st := []) (nc + 2) (ns + 12) (c_M_net hB h_r3) mv_M_net ml_L_200 rfl rfl dL_law_1101 rfl rfl ⟨by decide, by decide⟩ ⟨by omega, by omega, by omega, by omega⟩ (Nat.le_of_ble_eq_true rfl) ?_
  refine me_istore C dL_law_1104 (by decide) (L' := [(7, me_i r3), (6, me_i (r1.2)), (0, .inl (.ref b)), (1, me_r 0 0), (2, me_r 36 0), (3, me_r 93 0), (4, me_r 94 0), (5, me_i i)]) rfl ?_
  refine me_aload_n C 2 (Or.inr (Or.inl ⟨_, rfl⟩)) dL_law_1106 rfl rfl ?_
  obtain ⟨r5, h_r5, hf⟩ := me_bs hf
  refine me_callVR C hroom (As := []) (st := []) (nc + 2) (ns + 12) (c_M_thrown hB h_r5) mv_M_thrown ml_L_154 rfl rfl dL_law_1107 rfl rfl ⟨by decide, by decide⟩ ⟨by omega, by omega, by omega, by omega⟩ (Nat.le_of_ble_eq_true rfl) ?_
  refine me_iload C dL_law_1110 rfl ?_
  refine me_icmp_eq C (tgt := 1117) dL_law_1112 (by decide) (fun c6 => ?_) (fun c6 => ?_)
  · replace hf := me_ip c6 hf
    refine me_iload C dL_law_1117 rfl ?_
    refine me_if_ne C (tgt := 1134) dL_law_1119 (by decide) (fun c7 => ?_) (fun c7 => ?_)
    · replace hf := me_in c7 hf
      refine me_goto C (tgt := 2789) dL_law_1134 (by decide) ?_
      cases hf
      refine me_wid (nc + 16) (ns + 128) (by omega) (by omega) ?_
      refine me_dropI [(0, .inl (.ref b)), (1, me_r 0 0), (2, me_r 36 0), (3, me_r 93 0), (4, me_r 94 0), (5, me_i i)] [2, 3, 4, 5, 6, 7] rfl ?_
      exact hK
    · replace hf := me_ip c7 hf
      refine me_aload_n C 3 (Or.inr (Or.inl ⟨_, rfl⟩)) dL_law_1122 rfl rfl ?_
      refine me_iconst C (v := 0) dL_law_1123 (by decide) ?_
      refine me_lald C dL_law_1124 ?_
      refine me_iload C dL_law_1125 rfl ?_
      refine me_i2l C dL_law_1127 ?_
      refine me_lcmp C dL_law_1128 ?_
      refine me_if_eq C (tgt := 1134) dL_law_1129 (by decide) (fun c8 => ?_) (fun c8 => ?_)
      · replace hf := me_ip c8 hf
        refine me_goto C (tgt := 2789) dL_law_1134 (by decide) ?_
        cases hf
        refine me_wid (nc + 16) (ns + 128) (by omega) (by omega) ?_
        refine me_dropI [(0, .inl (.ref b)), (1, me_r 0 0), (2, me_r 36 0), (3, me_r 93 0), (4, me_r 94 0), (5, me_i i)] [2, 3, 4, 5, 6, 7] rfl ?_
        exact hK
      · replace hf := me_in c8 hf
        refine me_iconst C (v := 0) dL_law_1132 (by decide) ?_
        cases hf
  · replace hf := me_in c6 hf
    refine me_iconst C (v := 0) dL_law_1115 (by decide) ?_
    cases hf

def f_case_14 (μ : me_M) (o : Int64 × UInt64) (s1 s2 s3 s4 s5 : Int32) : Option (me_M × (Int64 × UInt64)) :=
  me_b2 (f_L_beats μ o s1) (fun μ2 r1 =>
  me_b2 (f_M_beats μ2 s1) (fun μ4 r3 =>
  me_bd (f_M_thrown μ4) (fun r5 =>
  if r5 = (r1.2) then
  (if (r1.2) = 0 then
  (if r3 = 0 then
  (if (lg_cmp (r1.1.1) (0 : Int64)) = 0 then
  (some (μ4, r1.1))
  else
  (none))
  else
  (if (lg_cmp (r1.1.1) (1 : Int64)) = 0 then
  (some (μ4, r1.1))
  else
  (none)))
  else
  (some (μ4, r1.1)))
  else
  (none))))
set_option maxHeartbeats 4000000 in
set_option maxRecDepth 100000 in
theorem z_case_14 {X : me_X} {B : me_B} {μ : me_M} {b n : Nat} {xs : Nat → Int32} {i s1 s2 s3 s4 s5 : Int32} {nc ns : Nat} {ret0 : Option FieldType} (C : me_C X B RL cL_law 9 ret0) (hX : me_SX X b n xs) (hroom : me_Rm X 12 464 601024 7293034) (hB : me_St B) (h93 : ∀ i, i < B.2.1 93 → i = 0) (h94 : ∀ i, i < B.2.1 94 → i = 0) (h95 : B.2.1 95 = 0) (hn : nc + 16 ≤ 601024 ∧ ns + 128 ≤ 7293034) (h1 : me_inb (i + 1) n = true) (e1 : xs (me_ix (i + 1)) = s1) (h2 : me_inb (i + 2) n = true) (e2 : xs (me_ix (i + 2)) = s2) (h3 : me_inb (i + 3) n = true) (e3 : xs (me_ix (i + 3)) = s3) (h4 : me_inb (i + 4) n = true) (e4 : xs (me_ix (i + 4)) = s4) (h5 : me_inb (i + 5) n = true) (e5 : xs (me_ix (i + 5)) = s5) {μ' : me_M} {o' : Int64 × UInt64} (hf : f_case_14 μ B.2.2.2 s1 s2 s3 s4 s5 = some (μ', o')) (hK : me_Z X (me_ob B o') (nc + 16) (ns + 128) μ' 2789 [(0, .inl (.ref b)), (1, me_r 0 0), (2, me_r 36 0), (3, me_r 93 0), (4, me_r 94 0), (5, me_i i)] []) : me_Z X B nc ns μ 1137 [(0, .inl (.ref b)), (1, me_r 0 0), (2, me_r 36 0), (3, me_r 93 0), (4, me_r 94 0), (5, me_i i)] [] := by
  unfold f_case_14 at hf
  refine me_aload_n C 1 (Or.inr (Or.inl ⟨_, rfl⟩)) dL_law_1137 rfl rfl ?_
  refine me_aload_n C 0 (Or.inr (Or.inr ⟨_, rfl⟩)) dL_law_1138 rfl rfl ?_
  refine me_iload C dL_law_1139 rfl ?_
  refine me_iconst C (v := 1) dL_law_1141 (by decide) ?_
  refine me_iadd C dL_law_1142 ?_
  refine me_sld C hX h1 e1 dL_law_1143 ?_
  refine me_aload_n C 3 (Or.inr (Or.inl ⟨_, rfl⟩)) dL_law_1144 rfl rfl ?_
  obtain ⟨μ2, r1, h_r1, hf⟩ := me_bs2 hf
  refine me_callSH C hroom (n := 3) (As := [me_r 0 0, me_i s1, me_r 93 0]) (st := []) (nc + 1) (ns + 6) (c_L_beats hB h93 h_r1) mh_L_beats iL ⟨by decide +kernel, by decide +kernel⟩ (by decide +kernel) si_L_beats ml_L_201 dL_law_1145 rfl rfl ⟨by decide, by decide⟩ ⟨by omega, by omega, by omega, by omega⟩ (Nat.le_of_ble_eq_true rfl) ?_
  have hB := hB.ob r1.1
  have C := C.ob r1.1
  refine me_istore C dL_law_1148 (by decide) (L' := [(6, me_i (r1.2)), (0, .inl (.ref b)), (1, me_r 0 0), (2, me_r 36 0), (3, me_r 93 0), (4, me_r 94 0), (5, me_i i)]) rfl ?_
  refine me_aload_n C 2 (Or.inr (Or.inl ⟨_, rfl⟩)) dL_law_1150 rfl rfl ?_
  refine me_aload_n C 0 (Or.inr (Or.inr ⟨_, rfl⟩)) dL_law_1151 rfl rfl ?_
  refine me_iload C dL_law_1152 rfl ?_
  refine me_iconst C (v := 1) dL_law_1154 (by decide) ?_
  refine me_iadd C dL_law_1155 ?_
  refine me_sld C hX h1 e1 dL_law_1156 ?_
  obtain ⟨μ4, r3, h_r3, hf⟩ := me_bs2 hf
  refine me_callVR C hroom (As := [me_i s1]) (st := []) (nc + 1) (ns + 6) (c_M_beats hB h_r3) mv_M_beats ml_L_203 rfl rfl dL_law_1157 rfl rfl ⟨by decide, by decide⟩ ⟨by omega, by omega, by omega, by omega⟩ (Nat.le_of_ble_eq_true rfl) ?_
  refine me_istore C dL_law_1160 (by decide) (L' := [(7, me_i r3), (6, me_i (r1.2)), (0, .inl (.ref b)), (1, me_r 0 0), (2, me_r 36 0), (3, me_r 93 0), (4, me_r 94 0), (5, me_i i)]) rfl ?_
  refine me_aload_n C 2 (Or.inr (Or.inl ⟨_, rfl⟩)) dL_law_1162 rfl rfl ?_
  obtain ⟨r5, h_r5, hf⟩ := me_bs hf
  refine me_callVR C hroom (As := []) (st := []) (nc + 1) (ns + 6) (c_M_thrown hB h_r5) mv_M_thrown ml_L_154 rfl rfl dL_law_1163 rfl rfl ⟨by decide, by decide⟩ ⟨by omega, by omega, by omega, by omega⟩ (Nat.le_of_ble_eq_true rfl) ?_
  refine me_iload C dL_law_1166 rfl ?_
  refine me_icmp_eq C (tgt := 1173) dL_law_1168 (by decide) (fun c6 => ?_) (fun c6 => ?_)
  · replace hf := me_ip c6 hf
    refine me_iload C dL_law_1173 rfl ?_
    refine me_if_ne C (tgt := 1197) dL_law_1175 (by decide) (fun c7 => ?_) (fun c7 => ?_)
    · replace hf := me_in c7 hf
      refine me_goto C (tgt := 2789) dL_law_1197 (by decide) ?_
      cases hf
      refine me_wid (nc + 16) (ns + 128) (by omega) (by omega) ?_
      refine me_dropI [(0, .inl (.ref b)), (1, me_r 0 0), (2, me_r 36 0), (3, me_r 93 0), (4, me_r 94 0), (5, me_i i)] [2, 3, 4, 5, 6, 7] rfl ?_
      exact hK
    · replace hf := me_ip c7 hf
      refine me_aload_n C 3 (Or.inr (Or.inl ⟨_, rfl⟩)) dL_law_1178 rfl rfl ?_
      refine me_iconst C (v := 0) dL_law_1179 (by decide) ?_
      refine me_lald C dL_law_1180 ?_
      refine me_iload C dL_law_1181 rfl ?_
      refine me_if_eq C (tgt := 1190) dL_law_1183 (by decide) (fun c8 => ?_) (fun c8 => ?_)
      · replace hf := me_ip c8 hf
        refine me_lconst C (v := 0) dL_law_1190 (by decide) ?_
        refine me_lcmp C dL_law_1191 ?_
        refine me_if_eq C (tgt := 1197) dL_law_1192 (by decide) (fun c9 => ?_) (fun c9 => ?_)
        · replace hf := me_ip c9 hf
          refine me_goto C (tgt := 2789) dL_law_1197 (by decide) ?_
          cases hf
          refine me_wid (nc + 16) (ns + 128) (by omega) (by omega) ?_
          refine me_dropI [(0, .inl (.ref b)), (1, me_r 0 0), (2, me_r 36 0), (3, me_r 93 0), (4, me_r 94 0), (5, me_i i)] [2, 3, 4, 5, 6, 7] rfl ?_
          exact hK
        · replace hf := me_in c9 hf
          refine me_iconst C (v := 0) dL_law_1195 (by decide) ?_
          cases hf
      · replace hf := me_in c8 hf
        refine me_lconst C (v := 1) dL_law_1186 (by decide) ?_
        refine me_goto C (tgt := 1191) dL_law_1187 (by decide) ?_
        refine me_lcmp C dL_law_1191 ?_
        refine me_if_eq C (tgt := 1197) dL_law_1192 (by decide) (fun c10 => ?_) (fun c10 => ?_)
        · replace hf := me_ip c10 hf
          refine me_goto C (tgt := 2789) dL_law_1197 (by decide) ?_
          cases hf
          refine me_wid (nc + 16) (ns + 128) (by omega) (by omega) ?_
          refine me_dropI [(0, .inl (.ref b)), (1, me_r 0 0), (2, me_r 36 0), (3, me_r 93 0), (4, me_r 94 0), (5, me_i i)] [2, 3, 4, 5, 6, 7] rfl ?_
          exact hK
        · replace hf := me_in c10 hf
          refine me_iconst C (v := 0) dL_law_1195 (by decide) ?_
          cases hf
  · replace hf := me_in c6 hf
    refine me_iconst C (v := 0) dL_law_1171 (by decide) ?_
    cases hf

def f_case_15 (μ : me_M) (o : Int64 × UInt64) (s1 s2 s3 s4 s5 : Int32) : Option (me_M × (Int64 × UInt64)) :=
  me_bd (f_Y_beat μ) (fun r1 =>
  me_b2 (f_M_beat μ) (fun μ3 r2 =>
  if r1 = r2 then
  (some (μ3, o))
  else
  (none)))
set_option maxHeartbeats 4000000 in
set_option maxRecDepth 100000 in
theorem z_case_15 {X : me_X} {B : me_B} {μ : me_M} {b n : Nat} {xs : Nat → Int32} {i s1 s2 s3 s4 s5 : Int32} {nc ns : Nat} {ret0 : Option FieldType} (C : me_C X B RL cL_law 9 ret0) (hX : me_SX X b n xs) (hroom : me_Rm X 12 464 601024 7293034) (hB : me_St B) (h93 : ∀ i, i < B.2.1 93 → i = 0) (h94 : ∀ i, i < B.2.1 94 → i = 0) (h95 : B.2.1 95 = 0) (hn : nc + 16 ≤ 601024 ∧ ns + 128 ≤ 7293034) (h1 : me_inb (i + 1) n = true) (e1 : xs (me_ix (i + 1)) = s1) (h2 : me_inb (i + 2) n = true) (e2 : xs (me_ix (i + 2)) = s2) (h3 : me_inb (i + 3) n = true) (e3 : xs (me_ix (i + 3)) = s3) (h4 : me_inb (i + 4) n = true) (e4 : xs (me_ix (i + 4)) = s4) (h5 : me_inb (i + 5) n = true) (e5 : xs (me_ix (i + 5)) = s5) {μ' : me_M} {o' : Int64 × UInt64} (hf : f_case_15 μ B.2.2.2 s1 s2 s3 s4 s5 = some (μ', o')) (hK : me_Z X (me_ob B o') (nc + 16) (ns + 128) μ' 2789 [(0, .inl (.ref b)), (1, me_r 0 0), (2, me_r 36 0), (3, me_r 93 0), (4, me_r 94 0), (5, me_i i)] []) : me_Z X B nc ns μ 1200 [(0, .inl (.ref b)), (1, me_r 0 0), (2, me_r 36 0), (3, me_r 93 0), (4, me_r 94 0), (5, me_i i)] [] := by
  unfold f_case_15 at hf
  refine me_aload_n C 1 (Or.inr (Or.inl ⟨_, rfl⟩)) dL_law_1200 rfl rfl ?_
  obtain ⟨r1, h_r1, hf⟩ := me_bs hf
  refine me_callVR C hroom (As := []) (st := []) nc ns (c_Y_beat hB h_r1) mv_Y_beat ml_L_204 rfl rfl dL_law_1201 rfl rfl ⟨by decide, by decide⟩ ⟨by omega, by omega, by omega, by omega⟩ (Nat.le_of_ble_eq_true rfl) ?_
  refine me_aload_n C 2 (Or.inr (Or.inl ⟨_, rfl⟩)) dL_law_1204 rfl rfl ?_
  obtain ⟨μ3, r2, h_r2, hf⟩ := me_bs2 hf
  refine me_callVR C hroom (As := []) (st := [me_i r1]) nc ns (c_M_beat hB h_r2) mv_M_beat ml_L_207 rfl rfl dL_law_1205 rfl rfl ⟨by decide, by decide⟩ ⟨by omega, by omega, by omega, by omega⟩ (Nat.le_of_ble_eq_true rfl) ?_
  refine me_icmp_eq C (tgt := 2789) dL_law_1208 (by decide) (fun c4 => ?_) (fun c4 => ?_)
  · replace hf := me_ip c4 hf
    cases hf
    refine me_wid (nc + 16) (ns + 128) (by omega) (by omega) ?_
    refine me_dropI [(0, .inl (.ref b)), (1, me_r 0 0), (2, me_r 36 0), (3, me_r 93 0), (4, me_r 94 0), (5, me_i i)] [0, 1, 2, 3, 4, 5] rfl ?_
    exact hK
  · replace hf := me_in c4 hf
    refine me_iconst C (v := 0) dL_law_1211 (by decide) ?_
    cases hf

def f_case_16 (μ : me_M) (o : Int64 × UInt64) (s1 s2 s3 s4 s5 : Int32) : Option (me_M × (Int64 × UInt64)) :=
  me_b2 (f_L_way μ o (me_i2c' s1)) (fun μ2 r1 =>
  me_b2 (f_M_way μ2 (me_i2c' s1)) (fun μ4 r3 =>
  me_bd (f_M_thrown μ4) (fun r5 =>
  if r5 = (r1.2) then
  (if (r1.2) = 0 then
  (if (lg_cmp (r1.1.1) (Int32.toInt64 r3)) = 0 then
  (some (μ4, r1.1))
  else
  (none))
  else
  (some (μ4, r1.1)))
  else
  (none))))
set_option maxHeartbeats 4000000 in
set_option maxRecDepth 100000 in
theorem z_case_16 {X : me_X} {B : me_B} {μ : me_M} {b n : Nat} {xs : Nat → Int32} {i s1 s2 s3 s4 s5 : Int32} {nc ns : Nat} {ret0 : Option FieldType} (C : me_C X B RL cL_law 9 ret0) (hX : me_SX X b n xs) (hroom : me_Rm X 12 464 601024 7293034) (hB : me_St B) (h93 : ∀ i, i < B.2.1 93 → i = 0) (h94 : ∀ i, i < B.2.1 94 → i = 0) (h95 : B.2.1 95 = 0) (hn : nc + 16 ≤ 601024 ∧ ns + 128 ≤ 7293034) (h1 : me_inb (i + 1) n = true) (e1 : xs (me_ix (i + 1)) = s1) (h2 : me_inb (i + 2) n = true) (e2 : xs (me_ix (i + 2)) = s2) (h3 : me_inb (i + 3) n = true) (e3 : xs (me_ix (i + 3)) = s3) (h4 : me_inb (i + 4) n = true) (e4 : xs (me_ix (i + 4)) = s4) (h5 : me_inb (i + 5) n = true) (e5 : xs (me_ix (i + 5)) = s5) {μ' : me_M} {o' : Int64 × UInt64} (hf : f_case_16 μ B.2.2.2 s1 s2 s3 s4 s5 = some (μ', o')) (hK : me_Z X (me_ob B o') (nc + 16) (ns + 128) μ' 2789 [(0, .inl (.ref b)), (1, me_r 0 0), (2, me_r 36 0), (3, me_r 93 0), (4, me_r 94 0), (5, me_i i)] []) : me_Z X B nc ns μ 1213 [(0, .inl (.ref b)), (1, me_r 0 0), (2, me_r 36 0), (3, me_r 93 0), (4, me_r 94 0), (5, me_i i)] [] := by
  unfold f_case_16 at hf
  refine me_aload_n C 1 (Or.inr (Or.inl ⟨_, rfl⟩)) dL_law_1213 rfl rfl ?_
  refine me_aload_n C 0 (Or.inr (Or.inr ⟨_, rfl⟩)) dL_law_1214 rfl rfl ?_
  refine me_iload C dL_law_1215 rfl ?_
  refine me_iconst C (v := 1) dL_law_1217 (by decide) ?_
  refine me_iadd C dL_law_1218 ?_
  refine me_sld C hX h1 e1 dL_law_1219 ?_
  refine me_i2c C dL_law_1220 ?_
  refine me_aload_n C 3 (Or.inr (Or.inl ⟨_, rfl⟩)) dL_law_1221 rfl rfl ?_
  obtain ⟨μ2, r1, h_r1, hf⟩ := me_bs2 hf
  refine me_callSH C hroom (n := 3) (As := [me_r 0 0, me_i (me_i2c' s1), me_r 93 0]) (st := []) (nc + 1) (ns + 6) (c_L_way hB h93 h_r1) mh_L_way iL ⟨by decide +kernel, by decide +kernel⟩ (by decide +kernel) si_L_way ml_L_208 dL_law_1222 rfl rfl ⟨by decide, by decide⟩ ⟨by omega, by omega, by omega, by omega⟩ (Nat.le_of_ble_eq_true rfl) ?_
  have hB := hB.ob r1.1
  have C := C.ob r1.1
  refine me_istore C dL_law_1225 (by decide) (L' := [(6, me_i (r1.2)), (0, .inl (.ref b)), (1, me_r 0 0), (2, me_r 36 0), (3, me_r 93 0), (4, me_r 94 0), (5, me_i i)]) rfl ?_
  refine me_aload_n C 2 (Or.inr (Or.inl ⟨_, rfl⟩)) dL_law_1227 rfl rfl ?_
  refine me_aload_n C 0 (Or.inr (Or.inr ⟨_, rfl⟩)) dL_law_1228 rfl rfl ?_
  refine me_iload C dL_law_1229 rfl ?_
  refine me_iconst C (v := 1) dL_law_1231 (by decide) ?_
  refine me_iadd C dL_law_1232 ?_
  refine me_sld C hX h1 e1 dL_law_1233 ?_
  refine me_i2c C dL_law_1234 ?_
  obtain ⟨μ4, r3, h_r3, hf⟩ := me_bs2 hf
  refine me_callVR C hroom (As := [me_i (me_i2c' s1)]) (st := []) (nc + 1) (ns + 6) (c_M_way hB h_r3) mv_M_way ml_L_211 rfl rfl dL_law_1235 rfl rfl ⟨by decide, by decide⟩ ⟨by omega, by omega, by omega, by omega⟩ (Nat.le_of_ble_eq_true rfl) ?_
  refine me_istore C dL_law_1238 (by decide) (L' := [(7, me_i r3), (6, me_i (r1.2)), (0, .inl (.ref b)), (1, me_r 0 0), (2, me_r 36 0), (3, me_r 93 0), (4, me_r 94 0), (5, me_i i)]) rfl ?_
  refine me_aload_n C 2 (Or.inr (Or.inl ⟨_, rfl⟩)) dL_law_1240 rfl rfl ?_
  obtain ⟨r5, h_r5, hf⟩ := me_bs hf
  refine me_callVR C hroom (As := []) (st := []) (nc + 1) (ns + 6) (c_M_thrown hB h_r5) mv_M_thrown ml_L_154 rfl rfl dL_law_1241 rfl rfl ⟨by decide, by decide⟩ ⟨by omega, by omega, by omega, by omega⟩ (Nat.le_of_ble_eq_true rfl) ?_
  refine me_iload C dL_law_1244 rfl ?_
  refine me_icmp_eq C (tgt := 1251) dL_law_1246 (by decide) (fun c6 => ?_) (fun c6 => ?_)
  · replace hf := me_ip c6 hf
    refine me_iload C dL_law_1251 rfl ?_
    refine me_if_ne C (tgt := 1268) dL_law_1253 (by decide) (fun c7 => ?_) (fun c7 => ?_)
    · replace hf := me_in c7 hf
      refine me_goto C (tgt := 2789) dL_law_1268 (by decide) ?_
      cases hf
      refine me_wid (nc + 16) (ns + 128) (by omega) (by omega) ?_
      refine me_dropI [(0, .inl (.ref b)), (1, me_r 0 0), (2, me_r 36 0), (3, me_r 93 0), (4, me_r 94 0), (5, me_i i)] [2, 3, 4, 5, 6, 7] rfl ?_
      exact hK
    · replace hf := me_ip c7 hf
      refine me_aload_n C 3 (Or.inr (Or.inl ⟨_, rfl⟩)) dL_law_1256 rfl rfl ?_
      refine me_iconst C (v := 0) dL_law_1257 (by decide) ?_
      refine me_lald C dL_law_1258 ?_
      refine me_iload C dL_law_1259 rfl ?_
      refine me_i2l C dL_law_1261 ?_
      refine me_lcmp C dL_law_1262 ?_
      refine me_if_eq C (tgt := 1268) dL_law_1263 (by decide) (fun c8 => ?_) (fun c8 => ?_)
      · replace hf := me_ip c8 hf
        refine me_goto C (tgt := 2789) dL_law_1268 (by decide) ?_
        cases hf
        refine me_wid (nc + 16) (ns + 128) (by omega) (by omega) ?_
        refine me_dropI [(0, .inl (.ref b)), (1, me_r 0 0), (2, me_r 36 0), (3, me_r 93 0), (4, me_r 94 0), (5, me_i i)] [2, 3, 4, 5, 6, 7] rfl ?_
        exact hK
      · replace hf := me_in c8 hf
        refine me_iconst C (v := 0) dL_law_1266 (by decide) ?_
        cases hf
  · replace hf := me_in c6 hf
    refine me_iconst C (v := 0) dL_law_1249 (by decide) ?_
    cases hf

def f_case_17 (μ : me_M) (o : Int64 × UInt64) (s1 s2 s3 s4 s5 : Int32) : Option (me_M × (Int64 × UInt64)) :=
  me_b2 (f_L_places μ o s1) (fun μ2 r1 =>
  me_b2 (f_M_places μ2 s1) (fun μ4 r3 =>
  me_bd (f_M_thrown μ4) (fun r5 =>
  if r5 = (r1.2) then
  (if (r1.2) = 0 then
  (if (lg_cmp (r1.1.1) (Int32.toInt64 r3)) = 0 then
  (some (μ4, r1.1))
  else
  (none))
  else
  (some (μ4, r1.1)))
  else
  (none))))
set_option maxHeartbeats 4000000 in
set_option maxRecDepth 100000 in
theorem z_case_17 {X : me_X} {B : me_B} {μ : me_M} {b n : Nat} {xs : Nat → Int32} {i s1 s2 s3 s4 s5 : Int32} {nc ns : Nat} {ret0 : Option FieldType} (C : me_C X B RL cL_law 9 ret0) (hX : me_SX X b n xs) (hroom : me_Rm X 12 464 601024 7293034) (hB : me_St B) (h93 : ∀ i, i < B.2.1 93 → i = 0) (h94 : ∀ i, i < B.2.1 94 → i = 0) (h95 : B.2.1 95 = 0) (hn : nc + 16 ≤ 601024 ∧ ns + 128 ≤ 7293034) (h1 : me_inb (i + 1) n = true) (e1 : xs (me_ix (i + 1)) = s1) (h2 : me_inb (i + 2) n = true) (e2 : xs (me_ix (i + 2)) = s2) (h3 : me_inb (i + 3) n = true) (e3 : xs (me_ix (i + 3)) = s3) (h4 : me_inb (i + 4) n = true) (e4 : xs (me_ix (i + 4)) = s4) (h5 : me_inb (i + 5) n = true) (e5 : xs (me_ix (i + 5)) = s5) {μ' : me_M} {o' : Int64 × UInt64} (hf : f_case_17 μ B.2.2.2 s1 s2 s3 s4 s5 = some (μ', o')) (hK : me_Z X (me_ob B o') (nc + 16) (ns + 128) μ' 2789 [(0, .inl (.ref b)), (1, me_r 0 0), (2, me_r 36 0), (3, me_r 93 0), (4, me_r 94 0), (5, me_i i)] []) : me_Z X B nc ns μ 1271 [(0, .inl (.ref b)), (1, me_r 0 0), (2, me_r 36 0), (3, me_r 93 0), (4, me_r 94 0), (5, me_i i)] [] := by
  unfold f_case_17 at hf
  refine me_aload_n C 1 (Or.inr (Or.inl ⟨_, rfl⟩)) dL_law_1271 rfl rfl ?_
  refine me_aload_n C 0 (Or.inr (Or.inr ⟨_, rfl⟩)) dL_law_1272 rfl rfl ?_
  refine me_iload C dL_law_1273 rfl ?_
  refine me_iconst C (v := 1) dL_law_1275 (by decide) ?_
  refine me_iadd C dL_law_1276 ?_
  refine me_sld C hX h1 e1 dL_law_1277 ?_
  refine me_aload_n C 3 (Or.inr (Or.inl ⟨_, rfl⟩)) dL_law_1278 rfl rfl ?_
  obtain ⟨μ2, r1, h_r1, hf⟩ := me_bs2 hf
  refine me_callSH C hroom (n := 3) (As := [me_r 0 0, me_i s1, me_r 93 0]) (st := []) (nc + 1) (ns + 6) (c_L_places hB h93 h_r1) mh_L_places iL ⟨by decide +kernel, by decide +kernel⟩ (by decide +kernel) si_L_places ml_L_212 dL_law_1279 rfl rfl ⟨by decide, by decide⟩ ⟨by omega, by omega, by omega, by omega⟩ (Nat.le_of_ble_eq_true rfl) ?_
  have hB := hB.ob r1.1
  have C := C.ob r1.1
  refine me_istore C dL_law_1282 (by decide) (L' := [(6, me_i (r1.2)), (0, .inl (.ref b)), (1, me_r 0 0), (2, me_r 36 0), (3, me_r 93 0), (4, me_r 94 0), (5, me_i i)]) rfl ?_
  refine me_aload_n C 2 (Or.inr (Or.inl ⟨_, rfl⟩)) dL_law_1284 rfl rfl ?_
  refine me_aload_n C 0 (Or.inr (Or.inr ⟨_, rfl⟩)) dL_law_1285 rfl rfl ?_
  refine me_iload C dL_law_1286 rfl ?_
  refine me_iconst C (v := 1) dL_law_1288 (by decide) ?_
  refine me_iadd C dL_law_1289 ?_
  refine me_sld C hX h1 e1 dL_law_1290 ?_
  obtain ⟨μ4, r3, h_r3, hf⟩ := me_bs2 hf
  refine me_callVR C hroom (As := [me_i s1]) (st := []) (nc + 1) (ns + 6) (c_M_places hB h_r3) mv_M_places ml_L_214 rfl rfl dL_law_1291 rfl rfl ⟨by decide, by decide⟩ ⟨by omega, by omega, by omega, by omega⟩ (Nat.le_of_ble_eq_true rfl) ?_
  refine me_istore C dL_law_1294 (by decide) (L' := [(7, me_i r3), (6, me_i (r1.2)), (0, .inl (.ref b)), (1, me_r 0 0), (2, me_r 36 0), (3, me_r 93 0), (4, me_r 94 0), (5, me_i i)]) rfl ?_
  refine me_aload_n C 2 (Or.inr (Or.inl ⟨_, rfl⟩)) dL_law_1296 rfl rfl ?_
  obtain ⟨r5, h_r5, hf⟩ := me_bs hf
  refine me_callVR C hroom (As := []) (st := []) (nc + 1) (ns + 6) (c_M_thrown hB h_r5) mv_M_thrown ml_L_154 rfl rfl dL_law_1297 rfl rfl ⟨by decide, by decide⟩ ⟨by omega, by omega, by omega, by omega⟩ (Nat.le_of_ble_eq_true rfl) ?_
  refine me_iload C dL_law_1300 rfl ?_
  refine me_icmp_eq C (tgt := 1307) dL_law_1302 (by decide) (fun c6 => ?_) (fun c6 => ?_)
  · replace hf := me_ip c6 hf
    refine me_iload C dL_law_1307 rfl ?_
    refine me_if_ne C (tgt := 1324) dL_law_1309 (by decide) (fun c7 => ?_) (fun c7 => ?_)
    · replace hf := me_in c7 hf
      refine me_goto C (tgt := 2789) dL_law_1324 (by decide) ?_
      cases hf
      refine me_wid (nc + 16) (ns + 128) (by omega) (by omega) ?_
      refine me_dropI [(0, .inl (.ref b)), (1, me_r 0 0), (2, me_r 36 0), (3, me_r 93 0), (4, me_r 94 0), (5, me_i i)] [2, 3, 4, 5, 6, 7] rfl ?_
      exact hK
    · replace hf := me_ip c7 hf
      refine me_aload_n C 3 (Or.inr (Or.inl ⟨_, rfl⟩)) dL_law_1312 rfl rfl ?_
      refine me_iconst C (v := 0) dL_law_1313 (by decide) ?_
      refine me_lald C dL_law_1314 ?_
      refine me_iload C dL_law_1315 rfl ?_
      refine me_i2l C dL_law_1317 ?_
      refine me_lcmp C dL_law_1318 ?_
      refine me_if_eq C (tgt := 1324) dL_law_1319 (by decide) (fun c8 => ?_) (fun c8 => ?_)
      · replace hf := me_ip c8 hf
        refine me_goto C (tgt := 2789) dL_law_1324 (by decide) ?_
        cases hf
        refine me_wid (nc + 16) (ns + 128) (by omega) (by omega) ?_
        refine me_dropI [(0, .inl (.ref b)), (1, me_r 0 0), (2, me_r 36 0), (3, me_r 93 0), (4, me_r 94 0), (5, me_i i)] [2, 3, 4, 5, 6, 7] rfl ?_
        exact hK
      · replace hf := me_in c8 hf
        refine me_iconst C (v := 0) dL_law_1322 (by decide) ?_
        cases hf
  · replace hf := me_in c6 hf
    refine me_iconst C (v := 0) dL_law_1305 (by decide) ?_
    cases hf

def f_case_18 (μ : me_M) (o : Int64 × UInt64) (s1 s2 s3 s4 s5 : Int32) : Option (me_M × (Int64 × UInt64)) :=
  me_b2 (f_L_row μ o s1 (me_i2c' s2) s3) (fun μ2 r1 =>
  me_b2 (f_M_row μ2 s1 (me_i2c' s2) s3) (fun μ4 r3 =>
  me_bd (f_M_thrown μ4) (fun r5 =>
  if r5 = (r1.2) then
  (if (r1.2) = 0 then
  (if (lg_cmp (r1.1.1) (Int32.toInt64 r3)) = 0 then
  (some (μ4, r1.1))
  else
  (none))
  else
  (some (μ4, r1.1)))
  else
  (none))))
set_option maxHeartbeats 4000000 in
set_option maxRecDepth 100000 in
theorem z_case_18 {X : me_X} {B : me_B} {μ : me_M} {b n : Nat} {xs : Nat → Int32} {i s1 s2 s3 s4 s5 : Int32} {nc ns : Nat} {ret0 : Option FieldType} (C : me_C X B RL cL_law 9 ret0) (hX : me_SX X b n xs) (hroom : me_Rm X 12 464 601024 7293034) (hB : me_St B) (h93 : ∀ i, i < B.2.1 93 → i = 0) (h94 : ∀ i, i < B.2.1 94 → i = 0) (h95 : B.2.1 95 = 0) (hn : nc + 16 ≤ 601024 ∧ ns + 128 ≤ 7293034) (h1 : me_inb (i + 1) n = true) (e1 : xs (me_ix (i + 1)) = s1) (h2 : me_inb (i + 2) n = true) (e2 : xs (me_ix (i + 2)) = s2) (h3 : me_inb (i + 3) n = true) (e3 : xs (me_ix (i + 3)) = s3) (h4 : me_inb (i + 4) n = true) (e4 : xs (me_ix (i + 4)) = s4) (h5 : me_inb (i + 5) n = true) (e5 : xs (me_ix (i + 5)) = s5) {μ' : me_M} {o' : Int64 × UInt64} (hf : f_case_18 μ B.2.2.2 s1 s2 s3 s4 s5 = some (μ', o')) (hK : me_Z X (me_ob B o') (nc + 16) (ns + 128) μ' 2789 [(0, .inl (.ref b)), (1, me_r 0 0), (2, me_r 36 0), (3, me_r 93 0), (4, me_r 94 0), (5, me_i i)] []) : me_Z X B nc ns μ 1327 [(0, .inl (.ref b)), (1, me_r 0 0), (2, me_r 36 0), (3, me_r 93 0), (4, me_r 94 0), (5, me_i i)] [] := by
  unfold f_case_18 at hf
  refine me_aload_n C 1 (Or.inr (Or.inl ⟨_, rfl⟩)) dL_law_1327 rfl rfl ?_
  refine me_aload_n C 0 (Or.inr (Or.inr ⟨_, rfl⟩)) dL_law_1328 rfl rfl ?_
  refine me_iload C dL_law_1329 rfl ?_
  refine me_iconst C (v := 1) dL_law_1331 (by decide) ?_
  refine me_iadd C dL_law_1332 ?_
  refine me_sld C hX h1 e1 dL_law_1333 ?_
  refine me_aload_n C 0 (Or.inr (Or.inr ⟨_, rfl⟩)) dL_law_1334 rfl rfl ?_
  refine me_iload C dL_law_1335 rfl ?_
  refine me_iconst C (v := 2) dL_law_1337 (by decide) ?_
  refine me_iadd C dL_law_1338 ?_
  refine me_sld C hX h2 e2 dL_law_1339 ?_
  refine me_i2c C dL_law_1340 ?_
  refine me_aload_n C 0 (Or.inr (Or.inr ⟨_, rfl⟩)) dL_law_1341 rfl rfl ?_
  refine me_iload C dL_law_1342 rfl ?_
  refine me_iconst C (v := 3) dL_law_1344 (by decide) ?_
  refine me_iadd C dL_law_1345 ?_
  refine me_sld C hX h3 e3 dL_law_1346 ?_
  refine me_aload_n C 3 (Or.inr (Or.inl ⟨_, rfl⟩)) dL_law_1347 rfl rfl ?_
  obtain ⟨μ2, r1, h_r1, hf⟩ := me_bs2 hf
  refine me_callSH C hroom (n := 5) (As := [me_r 0 0, me_i s1, me_i (me_i2c' s2), me_i s3, me_r 93 0]) (st := []) (nc + 2) (ns + 12) (c_L_row hB h93 h_r1) mh_L_row iL ⟨by decide +kernel, by decide +kernel⟩ (by decide +kernel) si_L_row ml_L_215 dL_law_1348 rfl rfl ⟨by decide, by decide⟩ ⟨by omega, by omega, by omega, by omega⟩ (Nat.le_of_ble_eq_true rfl) ?_
  have hB := hB.ob r1.1
  have C := C.ob r1.1
  refine me_istore C dL_law_1351 (by decide) (L' := [(6, me_i (r1.2)), (0, .inl (.ref b)), (1, me_r 0 0), (2, me_r 36 0), (3, me_r 93 0), (4, me_r 94 0), (5, me_i i)]) rfl ?_
  refine me_aload_n C 2 (Or.inr (Or.inl ⟨_, rfl⟩)) dL_law_1353 rfl rfl ?_
  refine me_aload_n C 0 (Or.inr (Or.inr ⟨_, rfl⟩)) dL_law_1354 rfl rfl ?_
  refine me_iload C dL_law_1355 rfl ?_
  refine me_iconst C (v := 1) dL_law_1357 (by decide) ?_
  refine me_iadd C dL_law_1358 ?_
  refine me_sld C hX h1 e1 dL_law_1359 ?_
  refine me_aload_n C 0 (Or.inr (Or.inr ⟨_, rfl⟩)) dL_law_1360 rfl rfl ?_
  refine me_iload C dL_law_1361 rfl ?_
  refine me_iconst C (v := 2) dL_law_1363 (by decide) ?_
  refine me_iadd C dL_law_1364 ?_
  refine me_sld C hX h2 e2 dL_law_1365 ?_
  refine me_i2c C dL_law_1366 ?_
  refine me_aload_n C 0 (Or.inr (Or.inr ⟨_, rfl⟩)) dL_law_1367 rfl rfl ?_
  refine me_iload C dL_law_1368 rfl ?_
  refine me_iconst C (v := 3) dL_law_1370 (by decide) ?_
  refine me_iadd C dL_law_1371 ?_
  refine me_sld C hX h3 e3 dL_law_1372 ?_
  obtain ⟨μ4, r3, h_r3, hf⟩ := me_bs2 hf
  refine me_callVR C hroom (As := [me_i s1, me_i (me_i2c' s2), me_i s3]) (st := []) (nc + 2) (ns + 12) (c_M_row hB h_r3) mv_M_row ml_L_218 rfl rfl dL_law_1373 rfl rfl ⟨by decide, by decide⟩ ⟨by omega, by omega, by omega, by omega⟩ (Nat.le_of_ble_eq_true rfl) ?_
  refine me_istore C dL_law_1376 (by decide) (L' := [(7, me_i r3), (6, me_i (r1.2)), (0, .inl (.ref b)), (1, me_r 0 0), (2, me_r 36 0), (3, me_r 93 0), (4, me_r 94 0), (5, me_i i)]) rfl ?_
  refine me_aload_n C 2 (Or.inr (Or.inl ⟨_, rfl⟩)) dL_law_1378 rfl rfl ?_
  obtain ⟨r5, h_r5, hf⟩ := me_bs hf
  refine me_callVR C hroom (As := []) (st := []) (nc + 2) (ns + 12) (c_M_thrown hB h_r5) mv_M_thrown ml_L_154 rfl rfl dL_law_1379 rfl rfl ⟨by decide, by decide⟩ ⟨by omega, by omega, by omega, by omega⟩ (Nat.le_of_ble_eq_true rfl) ?_
  refine me_iload C dL_law_1382 rfl ?_
  refine me_icmp_eq C (tgt := 1389) dL_law_1384 (by decide) (fun c6 => ?_) (fun c6 => ?_)
  · replace hf := me_ip c6 hf
    refine me_iload C dL_law_1389 rfl ?_
    refine me_if_ne C (tgt := 1406) dL_law_1391 (by decide) (fun c7 => ?_) (fun c7 => ?_)
    · replace hf := me_in c7 hf
      refine me_goto C (tgt := 2789) dL_law_1406 (by decide) ?_
      cases hf
      refine me_wid (nc + 16) (ns + 128) (by omega) (by omega) ?_
      refine me_dropI [(0, .inl (.ref b)), (1, me_r 0 0), (2, me_r 36 0), (3, me_r 93 0), (4, me_r 94 0), (5, me_i i)] [2, 3, 4, 5, 6, 7] rfl ?_
      exact hK
    · replace hf := me_ip c7 hf
      refine me_aload_n C 3 (Or.inr (Or.inl ⟨_, rfl⟩)) dL_law_1394 rfl rfl ?_
      refine me_iconst C (v := 0) dL_law_1395 (by decide) ?_
      refine me_lald C dL_law_1396 ?_
      refine me_iload C dL_law_1397 rfl ?_
      refine me_i2l C dL_law_1399 ?_
      refine me_lcmp C dL_law_1400 ?_
      refine me_if_eq C (tgt := 1406) dL_law_1401 (by decide) (fun c8 => ?_) (fun c8 => ?_)
      · replace hf := me_ip c8 hf
        refine me_goto C (tgt := 2789) dL_law_1406 (by decide) ?_
        cases hf
        refine me_wid (nc + 16) (ns + 128) (by omega) (by omega) ?_
        refine me_dropI [(0, .inl (.ref b)), (1, me_r 0 0), (2, me_r 36 0), (3, me_r 93 0), (4, me_r 94 0), (5, me_i i)] [2, 3, 4, 5, 6, 7] rfl ?_
        exact hK
      · replace hf := me_in c8 hf
        refine me_iconst C (v := 0) dL_law_1404 (by decide) ?_
        cases hf
  · replace hf := me_in c6 hf
    refine me_iconst C (v := 0) dL_law_1387 (by decide) ?_
    cases hf

def f_case_19 (μ : me_M) (o : Int64 × UInt64) (s1 s2 s3 s4 s5 : Int32) : Option (me_M × (Int64 × UInt64)) :=
  me_b2 (f_L_owner μ o s1 (me_i2c' s2) s3) (fun μ2 r1 =>
  me_b2 (f_M_owner μ2 s1 (me_i2c' s2) s3) (fun μ4 r3 =>
  me_bd (f_M_thrown μ4) (fun r5 =>
  if r5 = (r1.2) then
  (if (r1.2) = 0 then
  (if (lg_cmp (r1.1.1) (Int32.toInt64 r3)) = 0 then
  (some (μ4, r1.1))
  else
  (none))
  else
  (some (μ4, r1.1)))
  else
  (none))))
set_option maxHeartbeats 4000000 in
set_option maxRecDepth 100000 in
theorem z_case_19 {X : me_X} {B : me_B} {μ : me_M} {b n : Nat} {xs : Nat → Int32} {i s1 s2 s3 s4 s5 : Int32} {nc ns : Nat} {ret0 : Option FieldType} (C : me_C X B RL cL_law 9 ret0) (hX : me_SX X b n xs) (hroom : me_Rm X 12 464 601024 7293034) (hB : me_St B) (h93 : ∀ i, i < B.2.1 93 → i = 0) (h94 : ∀ i, i < B.2.1 94 → i = 0) (h95 : B.2.1 95 = 0) (hn : nc + 16 ≤ 601024 ∧ ns + 128 ≤ 7293034) (h1 : me_inb (i + 1) n = true) (e1 : xs (me_ix (i + 1)) = s1) (h2 : me_inb (i + 2) n = true) (e2 : xs (me_ix (i + 2)) = s2) (h3 : me_inb (i + 3) n = true) (e3 : xs (me_ix (i + 3)) = s3) (h4 : me_inb (i + 4) n = true) (e4 : xs (me_ix (i + 4)) = s4) (h5 : me_inb (i + 5) n = true) (e5 : xs (me_ix (i + 5)) = s5) {μ' : me_M} {o' : Int64 × UInt64} (hf : f_case_19 μ B.2.2.2 s1 s2 s3 s4 s5 = some (μ', o')) (hK : me_Z X (me_ob B o') (nc + 16) (ns + 128) μ' 2789 [(0, .inl (.ref b)), (1, me_r 0 0), (2, me_r 36 0), (3, me_r 93 0), (4, me_r 94 0), (5, me_i i)] []) : me_Z X B nc ns μ 1409 [(0, .inl (.ref b)), (1, me_r 0 0), (2, me_r 36 0), (3, me_r 93 0), (4, me_r 94 0), (5, me_i i)] [] := by
  unfold f_case_19 at hf
  refine me_aload_n C 1 (Or.inr (Or.inl ⟨_, rfl⟩)) dL_law_1409 rfl rfl ?_
  refine me_aload_n C 0 (Or.inr (Or.inr ⟨_, rfl⟩)) dL_law_1410 rfl rfl ?_
  refine me_iload C dL_law_1411 rfl ?_
  refine me_iconst C (v := 1) dL_law_1413 (by decide) ?_
  refine me_iadd C dL_law_1414 ?_
  refine me_sld C hX h1 e1 dL_law_1415 ?_
  refine me_aload_n C 0 (Or.inr (Or.inr ⟨_, rfl⟩)) dL_law_1416 rfl rfl ?_
  refine me_iload C dL_law_1417 rfl ?_
  refine me_iconst C (v := 2) dL_law_1419 (by decide) ?_
  refine me_iadd C dL_law_1420 ?_
  refine me_sld C hX h2 e2 dL_law_1421 ?_
  refine me_i2c C dL_law_1422 ?_
  refine me_aload_n C 0 (Or.inr (Or.inr ⟨_, rfl⟩)) dL_law_1423 rfl rfl ?_
  refine me_iload C dL_law_1424 rfl ?_
  refine me_iconst C (v := 3) dL_law_1426 (by decide) ?_
  refine me_iadd C dL_law_1427 ?_
  refine me_sld C hX h3 e3 dL_law_1428 ?_
  refine me_aload_n C 3 (Or.inr (Or.inl ⟨_, rfl⟩)) dL_law_1429 rfl rfl ?_
  obtain ⟨μ2, r1, h_r1, hf⟩ := me_bs2 hf
  refine me_callSH C hroom (n := 5) (As := [me_r 0 0, me_i s1, me_i (me_i2c' s2), me_i s3, me_r 93 0]) (st := []) (nc + 2) (ns + 12) (c_L_owner hB h93 h_r1) mh_L_owner iL ⟨by decide +kernel, by decide +kernel⟩ (by decide +kernel) si_L_owner ml_L_219 dL_law_1430 rfl rfl ⟨by decide, by decide⟩ ⟨by omega, by omega, by omega, by omega⟩ (Nat.le_of_ble_eq_true rfl) ?_
  have hB := hB.ob r1.1
  have C := C.ob r1.1
  refine me_istore C dL_law_1433 (by decide) (L' := [(6, me_i (r1.2)), (0, .inl (.ref b)), (1, me_r 0 0), (2, me_r 36 0), (3, me_r 93 0), (4, me_r 94 0), (5, me_i i)]) rfl ?_
  refine me_aload_n C 2 (Or.inr (Or.inl ⟨_, rfl⟩)) dL_law_1435 rfl rfl ?_
  refine me_aload_n C 0 (Or.inr (Or.inr ⟨_, rfl⟩)) dL_law_1436 rfl rfl ?_
  refine me_iload C dL_law_1437 rfl ?_
  refine me_iconst C (v := 1) dL_law_1439 (by decide) ?_
  refine me_iadd C dL_law_1440 ?_
  refine me_sld C hX h1 e1 dL_law_1441 ?_
  refine me_aload_n C 0 (Or.inr (Or.inr ⟨_, rfl⟩)) dL_law_1442 rfl rfl ?_
  refine me_iload C dL_law_1443 rfl ?_
  refine me_iconst C (v := 2) dL_law_1445 (by decide) ?_
  refine me_iadd C dL_law_1446 ?_
  refine me_sld C hX h2 e2 dL_law_1447 ?_
  refine me_i2c C dL_law_1448 ?_
  refine me_aload_n C 0 (Or.inr (Or.inr ⟨_, rfl⟩)) dL_law_1449 rfl rfl ?_
  refine me_iload C dL_law_1450 rfl ?_
  refine me_iconst C (v := 3) dL_law_1452 (by decide) ?_
  refine me_iadd C dL_law_1453 ?_
  refine me_sld C hX h3 e3 dL_law_1454 ?_
  obtain ⟨μ4, r3, h_r3, hf⟩ := me_bs2 hf
  refine me_callVR C hroom (As := [me_i s1, me_i (me_i2c' s2), me_i s3]) (st := []) (nc + 2) (ns + 12) (c_M_owner hB h_r3) mv_M_owner ml_L_221 rfl rfl dL_law_1455 rfl rfl ⟨by decide, by decide⟩ ⟨by omega, by omega, by omega, by omega⟩ (Nat.le_of_ble_eq_true rfl) ?_
  refine me_istore C dL_law_1458 (by decide) (L' := [(7, me_i r3), (6, me_i (r1.2)), (0, .inl (.ref b)), (1, me_r 0 0), (2, me_r 36 0), (3, me_r 93 0), (4, me_r 94 0), (5, me_i i)]) rfl ?_
  refine me_aload_n C 2 (Or.inr (Or.inl ⟨_, rfl⟩)) dL_law_1460 rfl rfl ?_
  obtain ⟨r5, h_r5, hf⟩ := me_bs hf
  refine me_callVR C hroom (As := []) (st := []) (nc + 2) (ns + 12) (c_M_thrown hB h_r5) mv_M_thrown ml_L_154 rfl rfl dL_law_1461 rfl rfl ⟨by decide, by decide⟩ ⟨by omega, by omega, by omega, by omega⟩ (Nat.le_of_ble_eq_true rfl) ?_
  refine me_iload C dL_law_1464 rfl ?_
  refine me_icmp_eq C (tgt := 1471) dL_law_1466 (by decide) (fun c6 => ?_) (fun c6 => ?_)
  · replace hf := me_ip c6 hf
    refine me_iload C dL_law_1471 rfl ?_
    refine me_if_ne C (tgt := 1488) dL_law_1473 (by decide) (fun c7 => ?_) (fun c7 => ?_)
    · replace hf := me_in c7 hf
      refine me_goto C (tgt := 2789) dL_law_1488 (by decide) ?_
      cases hf
      refine me_wid (nc + 16) (ns + 128) (by omega) (by omega) ?_
      refine me_dropI [(0, .inl (.ref b)), (1, me_r 0 0), (2, me_r 36 0), (3, me_r 93 0), (4, me_r 94 0), (5, me_i i)] [2, 3, 4, 5, 6, 7] rfl ?_
      exact hK
    · replace hf := me_ip c7 hf
      refine me_aload_n C 3 (Or.inr (Or.inl ⟨_, rfl⟩)) dL_law_1476 rfl rfl ?_
      refine me_iconst C (v := 0) dL_law_1477 (by decide) ?_
      refine me_lald C dL_law_1478 ?_
      refine me_iload C dL_law_1479 rfl ?_
      refine me_i2l C dL_law_1481 ?_
      refine me_lcmp C dL_law_1482 ?_
      refine me_if_eq C (tgt := 1488) dL_law_1483 (by decide) (fun c8 => ?_) (fun c8 => ?_)
      · replace hf := me_ip c8 hf
        refine me_goto C (tgt := 2789) dL_law_1488 (by decide) ?_
        cases hf
        refine me_wid (nc + 16) (ns + 128) (by omega) (by omega) ?_
        refine me_dropI [(0, .inl (.ref b)), (1, me_r 0 0), (2, me_r 36 0), (3, me_r 93 0), (4, me_r 94 0), (5, me_i i)] [2, 3, 4, 5, 6, 7] rfl ?_
        exact hK
      · replace hf := me_in c8 hf
        refine me_iconst C (v := 0) dL_law_1486 (by decide) ?_
        cases hf
  · replace hf := me_in c6 hf
    refine me_iconst C (v := 0) dL_law_1469 (by decide) ?_
    cases hf

def f_case_20 (μ : me_M) (o : Int64 × UInt64) (s1 s2 s3 s4 s5 : Int32) : Option (me_M × (Int64 × UInt64)) :=
  if s3 = 0 then
  (me_b2 (f_L_fail μ o s1 (me_i2c' s2) (0 : Int32)) (fun μ3 r2 =>
  if s3 = 0 then
  (me_b2 (f_M_fail μ3 s1 (me_i2c' s2) (0 : Int32)) (fun μ6 r5 =>
  me_bd (f_M_thrown μ6) (fun r7 =>
  if r7 = (r2.2) then
  (if (r2.2) = 0 then
  (if r5 = 0 then
  (if (lg_cmp (r2.1.1) (0 : Int64)) = 0 then
  (some (μ6, r2.1))
  else
  (none))
  else
  (if (lg_cmp (r2.1.1) (1 : Int64)) = 0 then
  (some (μ6, r2.1))
  else
  (none)))
  else
  (some (μ6, r2.1)))
  else
  (none))))
  else
  (me_b2 (f_M_fail μ3 s1 (me_i2c' s2) (1 : Int32)) (fun μ14 r13 =>
  me_bd (f_M_thrown μ14) (fun r15 =>
  if r15 = (r2.2) then
  (if (r2.2) = 0 then
  (if r13 = 0 then
  (if (lg_cmp (r2.1.1) (0 : Int64)) = 0 then
  (some (μ14, r2.1))
  else
  (none))
  else
  (if (lg_cmp (r2.1.1) (1 : Int64)) = 0 then
  (some (μ14, r2.1))
  else
  (none)))
  else
  (some (μ14, r2.1)))
  else
  (none))))))
  else
  (me_b2 (f_L_fail μ o s1 (me_i2c' s2) (1 : Int32)) (fun μ22 r21 =>
  if s3 = 0 then
  (me_b2 (f_M_fail μ22 s1 (me_i2c' s2) (0 : Int32)) (fun μ25 r24 =>
  me_bd (f_M_thrown μ25) (fun r26 =>
  if r26 = (r21.2) then
  (if (r21.2) = 0 then
  (if r24 = 0 then
  (if (lg_cmp (r21.1.1) (0 : Int64)) = 0 then
  (some (μ25, r21.1))
  else
  (none))
  else
  (if (lg_cmp (r21.1.1) (1 : Int64)) = 0 then
  (some (μ25, r21.1))
  else
  (none)))
  else
  (some (μ25, r21.1)))
  else
  (none))))
  else
  (me_b2 (f_M_fail μ22 s1 (me_i2c' s2) (1 : Int32)) (fun μ33 r32 =>
  me_bd (f_M_thrown μ33) (fun r34 =>
  if r34 = (r21.2) then
  (if (r21.2) = 0 then
  (if r32 = 0 then
  (if (lg_cmp (r21.1.1) (0 : Int64)) = 0 then
  (some (μ33, r21.1))
  else
  (none))
  else
  (if (lg_cmp (r21.1.1) (1 : Int64)) = 0 then
  (some (μ33, r21.1))
  else
  (none)))
  else
  (some (μ33, r21.1)))
  else
  (none))))))
set_option maxHeartbeats 4000000 in
set_option maxRecDepth 100000 in
theorem z_case_20 {X : me_X} {B : me_B} {μ : me_M} {b n : Nat} {xs : Nat → Int32} {i s1 s2 s3 s4 s5 : Int32} {nc ns : Nat} {ret0 : Option FieldType} (C : me_C X B RL cL_law 9 ret0) (hX : me_SX X b n xs) (hroom : me_Rm X 12 464 601024 7293034) (hB : me_St B) (h93 : ∀ i, i < B.2.1 93 → i = 0) (h94 : ∀ i, i < B.2.1 94 → i = 0) (h95 : B.2.1 95 = 0) (hn : nc + 16 ≤ 601024 ∧ ns + 128 ≤ 7293034) (h1 : me_inb (i + 1) n = true) (e1 : xs (me_ix (i + 1)) = s1) (h2 : me_inb (i + 2) n = true) (e2 : xs (me_ix (i + 2)) = s2) (h3 : me_inb (i + 3) n = true) (e3 : xs (me_ix (i + 3)) = s3) (h4 : me_inb (i + 4) n = true) (e4 : xs (me_ix (i + 4)) = s4) (h5 : me_inb (i + 5) n = true) (e5 : xs (me_ix (i + 5)) = s5) {μ' : me_M} {o' : Int64 × UInt64} (hf : f_case_20 μ B.2.2.2 s1 s2 s3 s4 s5 = some (μ', o')) (hK : me_Z X (me_ob B o') (nc + 16) (ns + 128) μ' 2789 [(0, .inl (.ref b)), (1, me_r 0 0), (2, me_r 36 0), (3, me_r 93 0), (4, me_r 94 0), (5, me_i i)] []) : me_Z X B nc ns μ 1491 [(0, .inl (.ref b)), (1, me_r 0 0), (2, me_r 36 0), (3, me_r 93 0), (4, me_r 94 0), (5, me_i i)] [] := by
  unfold f_case_20 at hf
  refine me_aload_n C 1 (Or.inr (Or.inl ⟨_, rfl⟩)) dL_law_1491 rfl rfl ?_
  refine me_aload_n C 0 (Or.inr (Or.inr ⟨_, rfl⟩)) dL_law_1492 rfl rfl ?_
  refine me_iload C dL_law_1493 rfl ?_
  refine me_iconst C (v := 1) dL_law_1495 (by decide) ?_
  refine me_iadd C dL_law_1496 ?_
  refine me_sld C hX h1 e1 dL_law_1497 ?_
  refine me_aload_n C 0 (Or.inr (Or.inr ⟨_, rfl⟩)) dL_law_1498 rfl rfl ?_
  refine me_iload C dL_law_1499 rfl ?_
  refine me_iconst C (v := 2) dL_law_1501 (by decide) ?_
  refine me_iadd C dL_law_1502 ?_
  refine me_sld C hX h2 e2 dL_law_1503 ?_
  refine me_i2c C dL_law_1504 ?_
  refine me_aload_n C 0 (Or.inr (Or.inr ⟨_, rfl⟩)) dL_law_1505 rfl rfl ?_
  refine me_iload C dL_law_1506 rfl ?_
  refine me_iconst C (v := 3) dL_law_1508 (by decide) ?_
  refine me_iadd C dL_law_1509 ?_
  refine me_sld C hX h3 e3 dL_law_1510 ?_
  refine me_if_eq C (tgt := 1518) dL_law_1511 (by decide) (fun c1 => ?_) (fun c1 => ?_)
  · replace hf := me_ip c1 hf
    refine me_iconst C (v := 0) dL_law_1518 (by decide) ?_
    refine me_aload_n C 3 (Or.inr (Or.inl ⟨_, rfl⟩)) dL_law_1519 rfl rfl ?_
    obtain ⟨μ3, r2, h_r2, hf⟩ := me_bs2 hf
    refine me_callSH C hroom (n := 5) (As := [me_r 0 0, me_i s1, me_i (me_i2c' s2), me_i (0 : Int32), me_r 93 0]) (st := []) (nc + 2) (ns + 12) (c_L_fail hB h93 h_r2) mh_L_fail iL ⟨by decide +kernel, by decide +kernel⟩ (by decide +kernel) si_L_fail ml_L_222 dL_law_1520 rfl rfl ⟨by decide, by decide⟩ ⟨by omega, by omega, by omega, by omega⟩ (Nat.le_of_ble_eq_true rfl) ?_
    have hB := hB.ob r2.1
    have C := C.ob r2.1
    refine me_istore C dL_law_1523 (by decide) (L' := [(6, me_i (r2.2)), (0, .inl (.ref b)), (1, me_r 0 0), (2, me_r 36 0), (3, me_r 93 0), (4, me_r 94 0), (5, me_i i)]) rfl ?_
    refine me_aload_n C 2 (Or.inr (Or.inl ⟨_, rfl⟩)) dL_law_1525 rfl rfl ?_
    refine me_aload_n C 0 (Or.inr (Or.inr ⟨_, rfl⟩)) dL_law_1526 rfl rfl ?_
    refine me_iload C dL_law_1527 rfl ?_
    refine me_iconst C (v := 1) dL_law_1529 (by decide) ?_
    refine me_iadd C dL_law_1530 ?_
    refine me_sld C hX h1 e1 dL_law_1531 ?_
    refine me_aload_n C 0 (Or.inr (Or.inr ⟨_, rfl⟩)) dL_law_1532 rfl rfl ?_
    refine me_iload C dL_law_1533 rfl ?_
    refine me_iconst C (v := 2) dL_law_1535 (by decide) ?_
    refine me_iadd C dL_law_1536 ?_
    refine me_sld C hX h2 e2 dL_law_1537 ?_
    refine me_i2c C dL_law_1538 ?_
    refine me_aload_n C 0 (Or.inr (Or.inr ⟨_, rfl⟩)) dL_law_1539 rfl rfl ?_
    refine me_iload C dL_law_1540 rfl ?_
    refine me_iconst C (v := 3) dL_law_1542 (by decide) ?_
    refine me_iadd C dL_law_1543 ?_
    refine me_sld C hX h3 e3 dL_law_1544 ?_
    refine me_if_eq C (tgt := 1552) dL_law_1545 (by decide) (fun c4 => ?_) (fun c4 => ?_)
    · replace hf := me_ip c4 hf
      refine me_iconst C (v := 0) dL_law_1552 (by decide) ?_
      obtain ⟨μ6, r5, h_r5, hf⟩ := me_bs2 hf
      refine me_callVR C hroom (As := [me_i s1, me_i (me_i2c' s2), me_i (0 : Int32)]) (st := []) (nc + 2) (ns + 12) (c_M_fail hB h_r5) mv_M_fail ml_L_225 rfl rfl dL_law_1553 rfl rfl ⟨by decide, by decide⟩ ⟨by omega, by omega, by omega, by omega⟩ (Nat.le_of_ble_eq_true rfl) ?_
      refine me_istore C dL_law_1556 (by decide) (L' := [(7, me_i r5), (6, me_i (r2.2)), (0, .inl (.ref b)), (1, me_r 0 0), (2, me_r 36 0), (3, me_r 93 0), (4, me_r 94 0), (5, me_i i)]) rfl ?_
      refine me_aload_n C 2 (Or.inr (Or.inl ⟨_, rfl⟩)) dL_law_1558 rfl rfl ?_
      obtain ⟨r7, h_r7, hf⟩ := me_bs hf
      refine me_callVR C hroom (As := []) (st := []) (nc + 2) (ns + 12) (c_M_thrown hB h_r7) mv_M_thrown ml_L_154 rfl rfl dL_law_1559 rfl rfl ⟨by decide, by decide⟩ ⟨by omega, by omega, by omega, by omega⟩ (Nat.le_of_ble_eq_true rfl) ?_
      refine me_iload C dL_law_1562 rfl ?_
      refine me_icmp_eq C (tgt := 1569) dL_law_1564 (by decide) (fun c8 => ?_) (fun c8 => ?_)
      · replace hf := me_ip c8 hf
        refine me_iload C dL_law_1569 rfl ?_
        refine me_if_ne C (tgt := 1593) dL_law_1571 (by decide) (fun c9 => ?_) (fun c9 => ?_)
        · replace hf := me_in c9 hf
          refine me_goto C (tgt := 2789) dL_law_1593 (by decide) ?_
          cases hf
          refine me_wid (nc + 16) (ns + 128) (by omega) (by omega) ?_
          refine me_dropI [(0, .inl (.ref b)), (1, me_r 0 0), (2, me_r 36 0), (3, me_r 93 0), (4, me_r 94 0), (5, me_i i)] [2, 3, 4, 5, 6, 7] rfl ?_
          exact hK
        · replace hf := me_ip c9 hf
          refine me_aload_n C 3 (Or.inr (Or.inl ⟨_, rfl⟩)) dL_law_1574 rfl rfl ?_
          refine me_iconst C (v := 0) dL_law_1575 (by decide) ?_
          refine me_lald C dL_law_1576 ?_
          refine me_iload C dL_law_1577 rfl ?_
          refine me_if_eq C (tgt := 1586) dL_law_1579 (by decide) (fun c10 => ?_) (fun c10 => ?_)
          · replace hf := me_ip c10 hf
            refine me_lconst C (v := 0) dL_law_1586 (by decide) ?_
            refine me_lcmp C dL_law_1587 ?_
            refine me_if_eq C (tgt := 1593) dL_law_1588 (by decide) (fun c11 => ?_) (fun c11 => ?_)
            · replace hf := me_ip c11 hf
              refine me_goto C (tgt := 2789) dL_law_1593 (by decide) ?_
              cases hf
              refine me_wid (nc + 16) (ns + 128) (by omega) (by omega) ?_
              refine me_dropI [(0, .inl (.ref b)), (1, me_r 0 0), (2, me_r 36 0), (3, me_r 93 0), (4, me_r 94 0), (5, me_i i)] [2, 3, 4, 5, 6, 7] rfl ?_
              exact hK
            · replace hf := me_in c11 hf
              refine me_iconst C (v := 0) dL_law_1591 (by decide) ?_
              cases hf
          · replace hf := me_in c10 hf
            refine me_lconst C (v := 1) dL_law_1582 (by decide) ?_
            refine me_goto C (tgt := 1587) dL_law_1583 (by decide) ?_
            refine me_lcmp C dL_law_1587 ?_
            refine me_if_eq C (tgt := 1593) dL_law_1588 (by decide) (fun c12 => ?_) (fun c12 => ?_)
            · replace hf := me_ip c12 hf
              refine me_goto C (tgt := 2789) dL_law_1593 (by decide) ?_
              cases hf
              refine me_wid (nc + 16) (ns + 128) (by omega) (by omega) ?_
              refine me_dropI [(0, .inl (.ref b)), (1, me_r 0 0), (2, me_r 36 0), (3, me_r 93 0), (4, me_r 94 0), (5, me_i i)] [2, 3, 4, 5, 6, 7] rfl ?_
              exact hK
            · replace hf := me_in c12 hf
              refine me_iconst C (v := 0) dL_law_1591 (by decide) ?_
              cases hf
      · replace hf := me_in c8 hf
        refine me_iconst C (v := 0) dL_law_1567 (by decide) ?_
        cases hf
    · replace hf := me_in c4 hf
      refine me_iconst C (v := 1) dL_law_1548 (by decide) ?_
      refine me_goto C (tgt := 1553) dL_law_1549 (by decide) ?_
      obtain ⟨μ14, r13, h_r13, hf⟩ := me_bs2 hf
      refine me_callVR C hroom (As := [me_i s1, me_i (me_i2c' s2), me_i (1 : Int32)]) (st := []) (nc + 2) (ns + 12) (c_M_fail hB h_r13) mv_M_fail ml_L_225 rfl rfl dL_law_1553 rfl rfl ⟨by decide, by decide⟩ ⟨by omega, by omega, by omega, by omega⟩ (Nat.le_of_ble_eq_true rfl) ?_
      refine me_istore C dL_law_1556 (by decide) (L' := [(7, me_i r13), (6, me_i (r2.2)), (0, .inl (.ref b)), (1, me_r 0 0), (2, me_r 36 0), (3, me_r 93 0), (4, me_r 94 0), (5, me_i i)]) rfl ?_
      refine me_aload_n C 2 (Or.inr (Or.inl ⟨_, rfl⟩)) dL_law_1558 rfl rfl ?_
      obtain ⟨r15, h_r15, hf⟩ := me_bs hf
      refine me_callVR C hroom (As := []) (st := []) (nc + 2) (ns + 12) (c_M_thrown hB h_r15) mv_M_thrown ml_L_154 rfl rfl dL_law_1559 rfl rfl ⟨by decide, by decide⟩ ⟨by omega, by omega, by omega, by omega⟩ (Nat.le_of_ble_eq_true rfl) ?_
      refine me_iload C dL_law_1562 rfl ?_
      refine me_icmp_eq C (tgt := 1569) dL_law_1564 (by decide) (fun c16 => ?_) (fun c16 => ?_)
      · replace hf := me_ip c16 hf
        refine me_iload C dL_law_1569 rfl ?_
        refine me_if_ne C (tgt := 1593) dL_law_1571 (by decide) (fun c17 => ?_) (fun c17 => ?_)
        · replace hf := me_in c17 hf
          refine me_goto C (tgt := 2789) dL_law_1593 (by decide) ?_
          cases hf
          refine me_wid (nc + 16) (ns + 128) (by omega) (by omega) ?_
          refine me_dropI [(0, .inl (.ref b)), (1, me_r 0 0), (2, me_r 36 0), (3, me_r 93 0), (4, me_r 94 0), (5, me_i i)] [2, 3, 4, 5, 6, 7] rfl ?_
          exact hK
        · replace hf := me_ip c17 hf
          refine me_aload_n C 3 (Or.inr (Or.inl ⟨_, rfl⟩)) dL_law_1574 rfl rfl ?_
          refine me_iconst C (v := 0) dL_law_1575 (by decide) ?_
          refine me_lald C dL_law_1576 ?_
          refine me_iload C dL_law_1577 rfl ?_
          refine me_if_eq C (tgt := 1586) dL_law_1579 (by decide) (fun c18 => ?_) (fun c18 => ?_)
          · replace hf := me_ip c18 hf
            refine me_lconst C (v := 0) dL_law_1586 (by decide) ?_
            refine me_lcmp C dL_law_1587 ?_
            refine me_if_eq C (tgt := 1593) dL_law_1588 (by decide) (fun c19 => ?_) (fun c19 => ?_)
            · replace hf := me_ip c19 hf
              refine me_goto C (tgt := 2789) dL_law_1593 (by decide) ?_
              cases hf
              refine me_wid (nc + 16) (ns + 128) (by omega) (by omega) ?_
              refine me_dropI [(0, .inl (.ref b)), (1, me_r 0 0), (2, me_r 36 0), (3, me_r 93 0), (4, me_r 94 0), (5, me_i i)] [2, 3, 4, 5, 6, 7] rfl ?_
              exact hK
            · replace hf := me_in c19 hf
              refine me_iconst C (v := 0) dL_law_1591 (by decide) ?_
              cases hf
          · replace hf := me_in c18 hf
            refine me_lconst C (v := 1) dL_law_1582 (by decide) ?_
            refine me_goto C (tgt := 1587) dL_law_1583 (by decide) ?_
            refine me_lcmp C dL_law_1587 ?_
            refine me_if_eq C (tgt := 1593) dL_law_1588 (by decide) (fun c20 => ?_) (fun c20 => ?_)
            · replace hf := me_ip c20 hf
              refine me_goto C (tgt := 2789) dL_law_1593 (by decide) ?_
              cases hf
              refine me_wid (nc + 16) (ns + 128) (by omega) (by omega) ?_
              refine me_dropI [(0, .inl (.ref b)), (1, me_r 0 0), (2, me_r 36 0), (3, me_r 93 0), (4, me_r 94 0), (5, me_i i)] [2, 3, 4, 5, 6, 7] rfl ?_
              exact hK
            · replace hf := me_in c20 hf
              refine me_iconst C (v := 0) dL_law_1591 (by decide) ?_
              cases hf
      · replace hf := me_in c16 hf
        refine me_iconst C (v := 0) dL_law_1567 (by decide) ?_
        cases hf
  · replace hf := me_in c1 hf
    refine me_iconst C (v := 1) dL_law_1514 (by decide) ?_
    refine me_goto C (tgt := 1519) dL_law_1515 (by decide) ?_
    refine me_aload_n C 3 (Or.inr (Or.inl ⟨_, rfl⟩)) dL_law_1519 rfl rfl ?_
    obtain ⟨μ22, r21, h_r21, hf⟩ := me_bs2 hf
    refine me_callSH C hroom (n := 5) (As := [me_r 0 0, me_i s1, me_i (me_i2c' s2), me_i (1 : Int32), me_r 93 0]) (st := []) (nc + 2) (ns + 12) (c_L_fail hB h93 h_r21) mh_L_fail iL ⟨by decide +kernel, by decide +kernel⟩ (by decide +kernel) si_L_fail ml_L_222 dL_law_1520 rfl rfl ⟨by decide, by decide⟩ ⟨by omega, by omega, by omega, by omega⟩ (Nat.le_of_ble_eq_true rfl) ?_
    have hB := hB.ob r21.1
    have C := C.ob r21.1
    refine me_istore C dL_law_1523 (by decide) (L' := [(6, me_i (r21.2)), (0, .inl (.ref b)), (1, me_r 0 0), (2, me_r 36 0), (3, me_r 93 0), (4, me_r 94 0), (5, me_i i)]) rfl ?_
    refine me_aload_n C 2 (Or.inr (Or.inl ⟨_, rfl⟩)) dL_law_1525 rfl rfl ?_
    refine me_aload_n C 0 (Or.inr (Or.inr ⟨_, rfl⟩)) dL_law_1526 rfl rfl ?_
    refine me_iload C dL_law_1527 rfl ?_
    refine me_iconst C (v := 1) dL_law_1529 (by decide) ?_
    refine me_iadd C dL_law_1530 ?_
    refine me_sld C hX h1 e1 dL_law_1531 ?_
    refine me_aload_n C 0 (Or.inr (Or.inr ⟨_, rfl⟩)) dL_law_1532 rfl rfl ?_
    refine me_iload C dL_law_1533 rfl ?_
    refine me_iconst C (v := 2) dL_law_1535 (by decide) ?_
    refine me_iadd C dL_law_1536 ?_
    refine me_sld C hX h2 e2 dL_law_1537 ?_
    refine me_i2c C dL_law_1538 ?_
    refine me_aload_n C 0 (Or.inr (Or.inr ⟨_, rfl⟩)) dL_law_1539 rfl rfl ?_
    refine me_iload C dL_law_1540 rfl ?_
    refine me_iconst C (v := 3) dL_law_1542 (by decide) ?_
    refine me_iadd C dL_law_1543 ?_
    refine me_sld C hX h3 e3 dL_law_1544 ?_
    refine me_if_eq C (tgt := 1552) dL_law_1545 (by decide) (fun c23 => ?_) (fun c23 => ?_)
    · replace hf := me_ip c23 hf
      refine me_iconst C (v := 0) dL_law_1552 (by decide) ?_
      obtain ⟨μ25, r24, h_r24, hf⟩ := me_bs2 hf
      refine me_callVR C hroom (As := [me_i s1, me_i (me_i2c' s2), me_i (0 : Int32)]) (st := []) (nc + 2) (ns + 12) (c_M_fail hB h_r24) mv_M_fail ml_L_225 rfl rfl dL_law_1553 rfl rfl ⟨by decide, by decide⟩ ⟨by omega, by omega, by omega, by omega⟩ (Nat.le_of_ble_eq_true rfl) ?_
      refine me_istore C dL_law_1556 (by decide) (L' := [(7, me_i r24), (6, me_i (r21.2)), (0, .inl (.ref b)), (1, me_r 0 0), (2, me_r 36 0), (3, me_r 93 0), (4, me_r 94 0), (5, me_i i)]) rfl ?_
      refine me_aload_n C 2 (Or.inr (Or.inl ⟨_, rfl⟩)) dL_law_1558 rfl rfl ?_
      obtain ⟨r26, h_r26, hf⟩ := me_bs hf
      refine me_callVR C hroom (As := []) (st := []) (nc + 2) (ns + 12) (c_M_thrown hB h_r26) mv_M_thrown ml_L_154 rfl rfl dL_law_1559 rfl rfl ⟨by decide, by decide⟩ ⟨by omega, by omega, by omega, by omega⟩ (Nat.le_of_ble_eq_true rfl) ?_
      refine me_iload C dL_law_1562 rfl ?_
      refine me_icmp_eq C (tgt := 1569) dL_law_1564 (by decide) (fun c27 => ?_) (fun c27 => ?_)
      · replace hf := me_ip c27 hf
        refine me_iload C dL_law_1569 rfl ?_
        refine me_if_ne C (tgt := 1593) dL_law_1571 (by decide) (fun c28 => ?_) (fun c28 => ?_)
        · replace hf := me_in c28 hf
          refine me_goto C (tgt := 2789) dL_law_1593 (by decide) ?_
          cases hf
          refine me_wid (nc + 16) (ns + 128) (by omega) (by omega) ?_
          refine me_dropI [(0, .inl (.ref b)), (1, me_r 0 0), (2, me_r 36 0), (3, me_r 93 0), (4, me_r 94 0), (5, me_i i)] [2, 3, 4, 5, 6, 7] rfl ?_
          exact hK
        · replace hf := me_ip c28 hf
          refine me_aload_n C 3 (Or.inr (Or.inl ⟨_, rfl⟩)) dL_law_1574 rfl rfl ?_
          refine me_iconst C (v := 0) dL_law_1575 (by decide) ?_
          refine me_lald C dL_law_1576 ?_
          refine me_iload C dL_law_1577 rfl ?_
          refine me_if_eq C (tgt := 1586) dL_law_1579 (by decide) (fun c29 => ?_) (fun c29 => ?_)
          · replace hf := me_ip c29 hf
            refine me_lconst C (v := 0) dL_law_1586 (by decide) ?_
            refine me_lcmp C dL_law_1587 ?_
            refine me_if_eq C (tgt := 1593) dL_law_1588 (by decide) (fun c30 => ?_) (fun c30 => ?_)
            · replace hf := me_ip c30 hf
              refine me_goto C (tgt := 2789) dL_law_1593 (by decide) ?_
              cases hf
              refine me_wid (nc + 16) (ns + 128) (by omega) (by omega) ?_
              refine me_dropI [(0, .inl (.ref b)), (1, me_r 0 0), (2, me_r 36 0), (3, me_r 93 0), (4, me_r 94 0), (5, me_i i)] [2, 3, 4, 5, 6, 7] rfl ?_
              exact hK
            · replace hf := me_in c30 hf
              refine me_iconst C (v := 0) dL_law_1591 (by decide) ?_
              cases hf
          · replace hf := me_in c29 hf
            refine me_lconst C (v := 1) dL_law_1582 (by decide) ?_
            refine me_goto C (tgt := 1587) dL_law_1583 (by decide) ?_
            refine me_lcmp C dL_law_1587 ?_
            refine me_if_eq C (tgt := 1593) dL_law_1588 (by decide) (fun c31 => ?_) (fun c31 => ?_)
            · replace hf := me_ip c31 hf
              refine me_goto C (tgt := 2789) dL_law_1593 (by decide) ?_
              cases hf
              refine me_wid (nc + 16) (ns + 128) (by omega) (by omega) ?_
              refine me_dropI [(0, .inl (.ref b)), (1, me_r 0 0), (2, me_r 36 0), (3, me_r 93 0), (4, me_r 94 0), (5, me_i i)] [2, 3, 4, 5, 6, 7] rfl ?_
              exact hK
            · replace hf := me_in c31 hf
              refine me_iconst C (v := 0) dL_law_1591 (by decide) ?_
              cases hf
      · replace hf := me_in c27 hf
        refine me_iconst C (v := 0) dL_law_1567 (by decide) ?_
        cases hf
    · replace hf := me_in c23 hf
      refine me_iconst C (v := 1) dL_law_1548 (by decide) ?_
      refine me_goto C (tgt := 1553) dL_law_1549 (by decide) ?_
      obtain ⟨μ33, r32, h_r32, hf⟩ := me_bs2 hf
      refine me_callVR C hroom (As := [me_i s1, me_i (me_i2c' s2), me_i (1 : Int32)]) (st := []) (nc + 2) (ns + 12) (c_M_fail hB h_r32) mv_M_fail ml_L_225 rfl rfl dL_law_1553 rfl rfl ⟨by decide, by decide⟩ ⟨by omega, by omega, by omega, by omega⟩ (Nat.le_of_ble_eq_true rfl) ?_
      refine me_istore C dL_law_1556 (by decide) (L' := [(7, me_i r32), (6, me_i (r21.2)), (0, .inl (.ref b)), (1, me_r 0 0), (2, me_r 36 0), (3, me_r 93 0), (4, me_r 94 0), (5, me_i i)]) rfl ?_
      refine me_aload_n C 2 (Or.inr (Or.inl ⟨_, rfl⟩)) dL_law_1558 rfl rfl ?_
      obtain ⟨r34, h_r34, hf⟩ := me_bs hf
      refine me_callVR C hroom (As := []) (st := []) (nc + 2) (ns + 12) (c_M_thrown hB h_r34) mv_M_thrown ml_L_154 rfl rfl dL_law_1559 rfl rfl ⟨by decide, by decide⟩ ⟨by omega, by omega, by omega, by omega⟩ (Nat.le_of_ble_eq_true rfl) ?_
      refine me_iload C dL_law_1562 rfl ?_
      refine me_icmp_eq C (tgt := 1569) dL_law_1564 (by decide) (fun c35 => ?_) (fun c35 => ?_)
      · replace hf := me_ip c35 hf
        refine me_iload C dL_law_1569 rfl ?_
        refine me_if_ne C (tgt := 1593) dL_law_1571 (by decide) (fun c36 => ?_) (fun c36 => ?_)
        · replace hf := me_in c36 hf
          refine me_goto C (tgt := 2789) dL_law_1593 (by decide) ?_
          cases hf
          refine me_wid (nc + 16) (ns + 128) (by omega) (by omega) ?_
          refine me_dropI [(0, .inl (.ref b)), (1, me_r 0 0), (2, me_r 36 0), (3, me_r 93 0), (4, me_r 94 0), (5, me_i i)] [2, 3, 4, 5, 6, 7] rfl ?_
          exact hK
        · replace hf := me_ip c36 hf
          refine me_aload_n C 3 (Or.inr (Or.inl ⟨_, rfl⟩)) dL_law_1574 rfl rfl ?_
          refine me_iconst C (v := 0) dL_law_1575 (by decide) ?_
          refine me_lald C dL_law_1576 ?_
          refine me_iload C dL_law_1577 rfl ?_
          refine me_if_eq C (tgt := 1586) dL_law_1579 (by decide) (fun c37 => ?_) (fun c37 => ?_)
          · replace hf := me_ip c37 hf
            refine me_lconst C (v := 0) dL_law_1586 (by decide) ?_
            refine me_lcmp C dL_law_1587 ?_
            refine me_if_eq C (tgt := 1593) dL_law_1588 (by decide) (fun c38 => ?_) (fun c38 => ?_)
            · replace hf := me_ip c38 hf
              refine me_goto C (tgt := 2789) dL_law_1593 (by decide) ?_
              cases hf
              refine me_wid (nc + 16) (ns + 128) (by omega) (by omega) ?_
              refine me_dropI [(0, .inl (.ref b)), (1, me_r 0 0), (2, me_r 36 0), (3, me_r 93 0), (4, me_r 94 0), (5, me_i i)] [2, 3, 4, 5, 6, 7] rfl ?_
              exact hK
            · replace hf := me_in c38 hf
              refine me_iconst C (v := 0) dL_law_1591 (by decide) ?_
              cases hf
          · replace hf := me_in c37 hf
            refine me_lconst C (v := 1) dL_law_1582 (by decide) ?_
            refine me_goto C (tgt := 1587) dL_law_1583 (by decide) ?_
            refine me_lcmp C dL_law_1587 ?_
            refine me_if_eq C (tgt := 1593) dL_law_1588 (by decide) (fun c39 => ?_) (fun c39 => ?_)
            · replace hf := me_ip c39 hf
              refine me_goto C (tgt := 2789) dL_law_1593 (by decide) ?_
              cases hf
              refine me_wid (nc + 16) (ns + 128) (by omega) (by omega) ?_
              refine me_dropI [(0, .inl (.ref b)), (1, me_r 0 0), (2, me_r 36 0), (3, me_r 93 0), (4, me_r 94 0), (5, me_i i)] [2, 3, 4, 5, 6, 7] rfl ?_
              exact hK
            · replace hf := me_in c39 hf
              refine me_iconst C (v := 0) dL_law_1591 (by decide) ?_
              cases hf
      · replace hf := me_in c35 hf
        refine me_iconst C (v := 0) dL_law_1567 (by decide) ?_
        cases hf

def f_case_21 (μ : me_M) (o : Int64 × UInt64) (s1 s2 s3 s4 s5 : Int32) : Option (me_M × (Int64 × UInt64)) :=
  me_b2 (f_L_sleep μ o s1) (fun μ2 r1 =>
  me_b2 (f_M_sleep μ2 s1) (fun μ4 r3 =>
  me_bd (f_M_thrown μ4) (fun r5 =>
  if r5 = (r1.2) then
  (if (r1.2) = 0 then
  (if r3 = 0 then
  (if (lg_cmp (r1.1.1) (0 : Int64)) = 0 then
  (some (μ4, r1.1))
  else
  (none))
  else
  (if (lg_cmp (r1.1.1) (1 : Int64)) = 0 then
  (some (μ4, r1.1))
  else
  (none)))
  else
  (some (μ4, r1.1)))
  else
  (none))))
set_option maxHeartbeats 4000000 in
set_option maxRecDepth 100000 in
theorem z_case_21 {X : me_X} {B : me_B} {μ : me_M} {b n : Nat} {xs : Nat → Int32} {i s1 s2 s3 s4 s5 : Int32} {nc ns : Nat} {ret0 : Option FieldType} (C : me_C X B RL cL_law 9 ret0) (hX : me_SX X b n xs) (hroom : me_Rm X 12 464 601024 7293034) (hB : me_St B) (h93 : ∀ i, i < B.2.1 93 → i = 0) (h94 : ∀ i, i < B.2.1 94 → i = 0) (h95 : B.2.1 95 = 0) (hn : nc + 16 ≤ 601024 ∧ ns + 128 ≤ 7293034) (h1 : me_inb (i + 1) n = true) (e1 : xs (me_ix (i + 1)) = s1) (h2 : me_inb (i + 2) n = true) (e2 : xs (me_ix (i + 2)) = s2) (h3 : me_inb (i + 3) n = true) (e3 : xs (me_ix (i + 3)) = s3) (h4 : me_inb (i + 4) n = true) (e4 : xs (me_ix (i + 4)) = s4) (h5 : me_inb (i + 5) n = true) (e5 : xs (me_ix (i + 5)) = s5) {μ' : me_M} {o' : Int64 × UInt64} (hf : f_case_21 μ B.2.2.2 s1 s2 s3 s4 s5 = some (μ', o')) (hK : me_Z X (me_ob B o') (nc + 16) (ns + 128) μ' 2789 [(0, .inl (.ref b)), (1, me_r 0 0), (2, me_r 36 0), (3, me_r 93 0), (4, me_r 94 0), (5, me_i i)] []) : me_Z X B nc ns μ 1596 [(0, .inl (.ref b)), (1, me_r 0 0), (2, me_r 36 0), (3, me_r 93 0), (4, me_r 94 0), (5, me_i i)] [] := by
  unfold f_case_21 at hf
  refine me_aload_n C 1 (Or.inr (Or.inl ⟨_, rfl⟩)) dL_law_1596 rfl rfl ?_
  refine me_aload_n C 0 (Or.inr (Or.inr ⟨_, rfl⟩)) dL_law_1597 rfl rfl ?_
  refine me_iload C dL_law_1598 rfl ?_
  refine me_iconst C (v := 1) dL_law_1600 (by decide) ?_
  refine me_iadd C dL_law_1601 ?_
  refine me_sld C hX h1 e1 dL_law_1602 ?_
  refine me_aload_n C 3 (Or.inr (Or.inl ⟨_, rfl⟩)) dL_law_1603 rfl rfl ?_
  obtain ⟨μ2, r1, h_r1, hf⟩ := me_bs2 hf
  refine me_callSH C hroom (n := 3) (As := [me_r 0 0, me_i s1, me_r 93 0]) (st := []) (nc + 2) (ns + 12) (c_L_sleep hB h93 h_r1) mh_L_sleep iL ⟨by decide +kernel, by decide +kernel⟩ (by decide +kernel) si_L_sleep ml_L_226 dL_law_1604 rfl rfl ⟨by decide, by decide⟩ ⟨by omega, by omega, by omega, by omega⟩ (Nat.le_of_ble_eq_true rfl) ?_
  have hB := hB.ob r1.1
  have C := C.ob r1.1
  refine me_istore C dL_law_1607 (by decide) (L' := [(6, me_i (r1.2)), (0, .inl (.ref b)), (1, me_r 0 0), (2, me_r 36 0), (3, me_r 93 0), (4, me_r 94 0), (5, me_i i)]) rfl ?_
  refine me_aload_n C 2 (Or.inr (Or.inl ⟨_, rfl⟩)) dL_law_1609 rfl rfl ?_
  refine me_aload_n C 0 (Or.inr (Or.inr ⟨_, rfl⟩)) dL_law_1610 rfl rfl ?_
  refine me_iload C dL_law_1611 rfl ?_
  refine me_iconst C (v := 1) dL_law_1613 (by decide) ?_
  refine me_iadd C dL_law_1614 ?_
  refine me_sld C hX h1 e1 dL_law_1615 ?_
  obtain ⟨μ4, r3, h_r3, hf⟩ := me_bs2 hf
  refine me_callVR C hroom (As := [me_i s1]) (st := []) (nc + 2) (ns + 12) (c_M_sleep hB h_r3) mv_M_sleep ml_L_228 rfl rfl dL_law_1616 rfl rfl ⟨by decide, by decide⟩ ⟨by omega, by omega, by omega, by omega⟩ (Nat.le_of_ble_eq_true rfl) ?_
  refine me_istore C dL_law_1619 (by decide) (L' := [(7, me_i r3), (6, me_i (r1.2)), (0, .inl (.ref b)), (1, me_r 0 0), (2, me_r 36 0), (3, me_r 93 0), (4, me_r 94 0), (5, me_i i)]) rfl ?_
  refine me_aload_n C 2 (Or.inr (Or.inl ⟨_, rfl⟩)) dL_law_1621 rfl rfl ?_
  obtain ⟨r5, h_r5, hf⟩ := me_bs hf
  refine me_callVR C hroom (As := []) (st := []) (nc + 2) (ns + 12) (c_M_thrown hB h_r5) mv_M_thrown ml_L_154 rfl rfl dL_law_1622 rfl rfl ⟨by decide, by decide⟩ ⟨by omega, by omega, by omega, by omega⟩ (Nat.le_of_ble_eq_true rfl) ?_
  refine me_iload C dL_law_1625 rfl ?_
  refine me_icmp_eq C (tgt := 1632) dL_law_1627 (by decide) (fun c6 => ?_) (fun c6 => ?_)
  · replace hf := me_ip c6 hf
    refine me_iload C dL_law_1632 rfl ?_
    refine me_if_ne C (tgt := 1656) dL_law_1634 (by decide) (fun c7 => ?_) (fun c7 => ?_)
    · replace hf := me_in c7 hf
      refine me_goto C (tgt := 2789) dL_law_1656 (by decide) ?_
      cases hf
      refine me_wid (nc + 16) (ns + 128) (by omega) (by omega) ?_
      refine me_dropI [(0, .inl (.ref b)), (1, me_r 0 0), (2, me_r 36 0), (3, me_r 93 0), (4, me_r 94 0), (5, me_i i)] [2, 3, 4, 5, 6, 7] rfl ?_
      exact hK
    · replace hf := me_ip c7 hf
      refine me_aload_n C 3 (Or.inr (Or.inl ⟨_, rfl⟩)) dL_law_1637 rfl rfl ?_
      refine me_iconst C (v := 0) dL_law_1638 (by decide) ?_
      refine me_lald C dL_law_1639 ?_
      refine me_iload C dL_law_1640 rfl ?_
      refine me_if_eq C (tgt := 1649) dL_law_1642 (by decide) (fun c8 => ?_) (fun c8 => ?_)
      · replace hf := me_ip c8 hf
        refine me_lconst C (v := 0) dL_law_1649 (by decide) ?_
        refine me_lcmp C dL_law_1650 ?_
        refine me_if_eq C (tgt := 1656) dL_law_1651 (by decide) (fun c9 => ?_) (fun c9 => ?_)
        · replace hf := me_ip c9 hf
          refine me_goto C (tgt := 2789) dL_law_1656 (by decide) ?_
          cases hf
          refine me_wid (nc + 16) (ns + 128) (by omega) (by omega) ?_
          refine me_dropI [(0, .inl (.ref b)), (1, me_r 0 0), (2, me_r 36 0), (3, me_r 93 0), (4, me_r 94 0), (5, me_i i)] [2, 3, 4, 5, 6, 7] rfl ?_
          exact hK
        · replace hf := me_in c9 hf
          refine me_iconst C (v := 0) dL_law_1654 (by decide) ?_
          cases hf
      · replace hf := me_in c8 hf
        refine me_lconst C (v := 1) dL_law_1645 (by decide) ?_
        refine me_goto C (tgt := 1650) dL_law_1646 (by decide) ?_
        refine me_lcmp C dL_law_1650 ?_
        refine me_if_eq C (tgt := 1656) dL_law_1651 (by decide) (fun c10 => ?_) (fun c10 => ?_)
        · replace hf := me_ip c10 hf
          refine me_goto C (tgt := 2789) dL_law_1656 (by decide) ?_
          cases hf
          refine me_wid (nc + 16) (ns + 128) (by omega) (by omega) ?_
          refine me_dropI [(0, .inl (.ref b)), (1, me_r 0 0), (2, me_r 36 0), (3, me_r 93 0), (4, me_r 94 0), (5, me_i i)] [2, 3, 4, 5, 6, 7] rfl ?_
          exact hK
        · replace hf := me_in c10 hf
          refine me_iconst C (v := 0) dL_law_1654 (by decide) ?_
          cases hf
  · replace hf := me_in c6 hf
    refine me_iconst C (v := 0) dL_law_1630 (by decide) ?_
    cases hf
