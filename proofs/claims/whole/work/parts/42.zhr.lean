/-! WALK of M_hasRing (printed by gen/hasring.py) -/

theorem dX12_hasRing_0 : decode cX12_hasRing 0 = .ok (.aload_n 0, 1) := by decide +kernel
theorem dX12_hasRing_1 : decode cX12_hasRing 1 = .ok (.iconst 0, 1) := by decide +kernel
theorem dX12_hasRing_2 : decode cX12_hasRing 2 = .ok (.putfield 141, 3) := by decide +kernel
theorem dX12_hasRing_5 : decode cX12_hasRing 5 = .ok (.bipush 64, 2) := by decide +kernel
theorem dX12_hasRing_7 : decode cX12_hasRing 7 = .ok (.newarray .boolean, 2) := by decide +kernel
theorem dX12_hasRing_9 : decode cX12_hasRing 9 = .ok (.astore_n 1, 1) := by decide +kernel
theorem dX12_hasRing_10 : decode cX12_hasRing 10 = .ok (.iconst 0, 1) := by decide +kernel
theorem dX12_hasRing_11 : decode cX12_hasRing 11 = .ok (.istore_n 2, 1) := by decide +kernel
theorem dX12_hasRing_12 : decode cX12_hasRing 12 = .ok (.iconst 0, 1) := by decide +kernel
theorem dX12_hasRing_13 : decode cX12_hasRing 13 = .ok (.istore_n 3, 1) := by decide +kernel
theorem dX12_hasRing_14 : decode cX12_hasRing 14 = .ok (.iload_n 3, 1) := by decide +kernel
theorem dX12_hasRing_15 : decode cX12_hasRing 15 = .ok (.aload_n 0, 1) := by decide +kernel
theorem dX12_hasRing_16 : decode cX12_hasRing 16 = .ok (.invokevirtual 144, 3) := by decide +kernel
theorem dX12_hasRing_19 : decode cX12_hasRing 19 = .ok (.if_icmp .ge 57, 3) := by decide +kernel
theorem dX12_hasRing_22 : decode cX12_hasRing 22 = .ok (.iconst 0, 1) := by decide +kernel
theorem dX12_hasRing_23 : decode cX12_hasRing 23 = .ok (.istore 4, 2) := by decide +kernel
theorem dX12_hasRing_25 : decode cX12_hasRing 25 = .ok (.iload 4, 2) := by decide +kernel
theorem dX12_hasRing_27 : decode cX12_hasRing 27 = .ok (.iconst 4, 1) := by decide +kernel
theorem dX12_hasRing_28 : decode cX12_hasRing 28 = .ok (.if_icmp .ge 42, 3) := by decide +kernel
theorem dX12_hasRing_31 : decode cX12_hasRing 31 = .ok (.aload_n 1, 1) := by decide +kernel
theorem dX12_hasRing_32 : decode cX12_hasRing 32 = .ok (.iconst 4, 1) := by decide +kernel
theorem dX12_hasRing_33 : decode cX12_hasRing 33 = .ok (.iload_n 3, 1) := by decide +kernel
theorem dX12_hasRing_34 : decode cX12_hasRing 34 = .ok (.imul, 1) := by decide +kernel
theorem dX12_hasRing_35 : decode cX12_hasRing 35 = .ok (.iload 4, 2) := by decide +kernel
theorem dX12_hasRing_37 : decode cX12_hasRing 37 = .ok (.iadd, 1) := by decide +kernel
theorem dX12_hasRing_38 : decode cX12_hasRing 38 = .ok (.aload_n 0, 1) := by decide +kernel
theorem dX12_hasRing_39 : decode cX12_hasRing 39 = .ok (.iload_n 3, 1) := by decide +kernel
theorem dX12_hasRing_40 : decode cX12_hasRing 40 = .ok (.iload 4, 2) := by decide +kernel
theorem dX12_hasRing_42 : decode cX12_hasRing 42 = .ok (.invokevirtual 298, 3) := by decide +kernel
theorem dX12_hasRing_45 : decode cX12_hasRing 45 = .ok (.bastore, 1) := by decide +kernel
theorem dX12_hasRing_46 : decode cX12_hasRing 46 = .ok (.iload_n 2, 1) := by decide +kernel
theorem dX12_hasRing_47 : decode cX12_hasRing 47 = .ok (.aload_n 0, 1) := by decide +kernel
theorem dX12_hasRing_48 : decode cX12_hasRing 48 = .ok (.iload_n 3, 1) := by decide +kernel
theorem dX12_hasRing_49 : decode cX12_hasRing 49 = .ok (.iload 4, 2) := by decide +kernel
theorem dX12_hasRing_51 : decode cX12_hasRing 51 = .ok (.invokevirtual 298, 3) := by decide +kernel
theorem dX12_hasRing_54 : decode cX12_hasRing 54 = .ok (.ifCond .eq 7, 3) := by decide +kernel
theorem dX12_hasRing_57 : decode cX12_hasRing 57 = .ok (.iconst 1, 1) := by decide +kernel
theorem dX12_hasRing_58 : decode cX12_hasRing 58 = .ok (.goto 4, 3) := by decide +kernel
theorem dX12_hasRing_61 : decode cX12_hasRing 61 = .ok (.iconst 0, 1) := by decide +kernel
theorem dX12_hasRing_62 : decode cX12_hasRing 62 = .ok (.iadd, 1) := by decide +kernel
theorem dX12_hasRing_63 : decode cX12_hasRing 63 = .ok (.istore_n 2, 1) := by decide +kernel
theorem dX12_hasRing_64 : decode cX12_hasRing 64 = .ok (.iinc 4 1, 3) := by decide +kernel
theorem dX12_hasRing_67 : decode cX12_hasRing 67 = .ok (.goto (-42), 3) := by decide +kernel
theorem dX12_hasRing_70 : decode cX12_hasRing 70 = .ok (.iinc 3 1, 3) := by decide +kernel
theorem dX12_hasRing_73 : decode cX12_hasRing 73 = .ok (.goto (-59), 3) := by decide +kernel
theorem dX12_hasRing_76 : decode cX12_hasRing 76 = .ok (.iconst 1, 1) := by decide +kernel
theorem dX12_hasRing_77 : decode cX12_hasRing 77 = .ok (.istore_n 3, 1) := by decide +kernel
theorem dX12_hasRing_78 : decode cX12_hasRing 78 = .ok (.iload_n 3, 1) := by decide +kernel
theorem dX12_hasRing_79 : decode cX12_hasRing 79 = .ok (.ifCond .eq 128, 3) := by decide +kernel
theorem dX12_hasRing_82 : decode cX12_hasRing 82 = .ok (.iconst 0, 1) := by decide +kernel
theorem dX12_hasRing_83 : decode cX12_hasRing 83 = .ok (.istore_n 3, 1) := by decide +kernel
theorem dX12_hasRing_84 : decode cX12_hasRing 84 = .ok (.iconst 0, 1) := by decide +kernel
theorem dX12_hasRing_85 : decode cX12_hasRing 85 = .ok (.istore 4, 2) := by decide +kernel
theorem dX12_hasRing_87 : decode cX12_hasRing 87 = .ok (.iload 4, 2) := by decide +kernel
theorem dX12_hasRing_89 : decode cX12_hasRing 89 = .ok (.iconst 4, 1) := by decide +kernel
theorem dX12_hasRing_90 : decode cX12_hasRing 90 = .ok (.aload_n 0, 1) := by decide +kernel
theorem dX12_hasRing_91 : decode cX12_hasRing 91 = .ok (.invokevirtual 144, 3) := by decide +kernel
theorem dX12_hasRing_94 : decode cX12_hasRing 94 = .ok (.imul, 1) := by decide +kernel
theorem dX12_hasRing_95 : decode cX12_hasRing 95 = .ok (.if_icmp .ge 109, 3) := by decide +kernel
theorem dX12_hasRing_98 : decode cX12_hasRing 98 = .ok (.iconst 0, 1) := by decide +kernel
theorem dX12_hasRing_99 : decode cX12_hasRing 99 = .ok (.istore 5, 2) := by decide +kernel
theorem dX12_hasRing_101 : decode cX12_hasRing 101 = .ok (.iconst 0, 1) := by decide +kernel
theorem dX12_hasRing_102 : decode cX12_hasRing 102 = .ok (.istore 6, 2) := by decide +kernel
theorem dX12_hasRing_104 : decode cX12_hasRing 104 = .ok (.iload 6, 2) := by decide +kernel
theorem dX12_hasRing_106 : decode cX12_hasRing 106 = .ok (.iconst 4, 1) := by decide +kernel
theorem dX12_hasRing_107 : decode cX12_hasRing 107 = .ok (.if_icmp .ge 69, 3) := by decide +kernel
theorem dX12_hasRing_110 : decode cX12_hasRing 110 = .ok (.aload_n 1, 1) := by decide +kernel
theorem dX12_hasRing_111 : decode cX12_hasRing 111 = .ok (.iload 4, 2) := by decide +kernel
theorem dX12_hasRing_113 : decode cX12_hasRing 113 = .ok (.baload, 1) := by decide +kernel
theorem dX12_hasRing_114 : decode cX12_hasRing 114 = .ok (.ifCond .eq 62, 3) := by decide +kernel
theorem dX12_hasRing_117 : decode cX12_hasRing 117 = .ok (.aload_n 0, 1) := by decide +kernel
theorem dX12_hasRing_118 : decode cX12_hasRing 118 = .ok (.iload 4, 2) := by decide +kernel
theorem dX12_hasRing_120 : decode cX12_hasRing 120 = .ok (.iconst 4, 1) := by decide +kernel
theorem dX12_hasRing_121 : decode cX12_hasRing 121 = .ok (.idiv, 1) := by decide +kernel
theorem dX12_hasRing_122 : decode cX12_hasRing 122 = .ok (.iload 4, 2) := by decide +kernel
theorem dX12_hasRing_124 : decode cX12_hasRing 124 = .ok (.iconst 4, 1) := by decide +kernel
theorem dX12_hasRing_125 : decode cX12_hasRing 125 = .ok (.irem, 1) := by decide +kernel
theorem dX12_hasRing_126 : decode cX12_hasRing 126 = .ok (.invokevirtual 199, 3) := by decide +kernel
theorem dX12_hasRing_129 : decode cX12_hasRing 129 = .ok (.istore 7, 2) := by decide +kernel
theorem dX12_hasRing_131 : decode cX12_hasRing 131 = .ok (.iload 5, 2) := by decide +kernel
theorem dX12_hasRing_133 : decode cX12_hasRing 133 = .ok (.aload_n 1, 1) := by decide +kernel
theorem dX12_hasRing_134 : decode cX12_hasRing 134 = .ok (.iconst 4, 1) := by decide +kernel
theorem dX12_hasRing_135 : decode cX12_hasRing 135 = .ok (.iload 7, 2) := by decide +kernel
theorem dX12_hasRing_137 : decode cX12_hasRing 137 = .ok (.imul, 1) := by decide +kernel
theorem dX12_hasRing_138 : decode cX12_hasRing 138 = .ok (.iload 6, 2) := by decide +kernel
theorem dX12_hasRing_140 : decode cX12_hasRing 140 = .ok (.iadd, 1) := by decide +kernel
theorem dX12_hasRing_141 : decode cX12_hasRing 141 = .ok (.baload, 1) := by decide +kernel
theorem dX12_hasRing_142 : decode cX12_hasRing 142 = .ok (.ifCond .eq 24, 3) := by decide +kernel
theorem dX12_hasRing_145 : decode cX12_hasRing 145 = .ok (.aload_n 0, 1) := by decide +kernel
theorem dX12_hasRing_146 : decode cX12_hasRing 146 = .ok (.iload 4, 2) := by decide +kernel
theorem dX12_hasRing_148 : decode cX12_hasRing 148 = .ok (.iconst 4, 1) := by decide +kernel
theorem dX12_hasRing_149 : decode cX12_hasRing 149 = .ok (.idiv, 1) := by decide +kernel
theorem dX12_hasRing_150 : decode cX12_hasRing 150 = .ok (.iload 4, 2) := by decide +kernel
theorem dX12_hasRing_152 : decode cX12_hasRing 152 = .ok (.iconst 4, 1) := by decide +kernel
theorem dX12_hasRing_153 : decode cX12_hasRing 153 = .ok (.irem, 1) := by decide +kernel
theorem dX12_hasRing_154 : decode cX12_hasRing 154 = .ok (.iload 6, 2) := by decide +kernel
theorem dX12_hasRing_156 : decode cX12_hasRing 156 = .ok (.invokevirtual 301, 3) := by decide +kernel
theorem dX12_hasRing_159 : decode cX12_hasRing 159 = .ok (.ifCond .eq 7, 3) := by decide +kernel
theorem dX12_hasRing_162 : decode cX12_hasRing 162 = .ok (.iconst 1, 1) := by decide +kernel
theorem dX12_hasRing_163 : decode cX12_hasRing 163 = .ok (.goto 4, 3) := by decide +kernel
theorem dX12_hasRing_166 : decode cX12_hasRing 166 = .ok (.iconst 0, 1) := by decide +kernel
theorem dX12_hasRing_167 : decode cX12_hasRing 167 = .ok (.ior, 1) := by decide +kernel
theorem dX12_hasRing_168 : decode cX12_hasRing 168 = .ok (.istore 5, 2) := by decide +kernel
theorem dX12_hasRing_170 : decode cX12_hasRing 170 = .ok (.iinc 6 1, 3) := by decide +kernel
theorem dX12_hasRing_173 : decode cX12_hasRing 173 = .ok (.goto (-69), 3) := by decide +kernel
theorem dX12_hasRing_176 : decode cX12_hasRing 176 = .ok (.aload_n 1, 1) := by decide +kernel
theorem dX12_hasRing_177 : decode cX12_hasRing 177 = .ok (.iload 4, 2) := by decide +kernel
theorem dX12_hasRing_179 : decode cX12_hasRing 179 = .ok (.baload, 1) := by decide +kernel
theorem dX12_hasRing_180 : decode cX12_hasRing 180 = .ok (.ifCond .eq 18, 3) := by decide +kernel
theorem dX12_hasRing_183 : decode cX12_hasRing 183 = .ok (.iload 5, 2) := by decide +kernel
theorem dX12_hasRing_185 : decode cX12_hasRing 185 = .ok (.ifCond .ne 13, 3) := by decide +kernel
theorem dX12_hasRing_188 : decode cX12_hasRing 188 = .ok (.aload_n 1, 1) := by decide +kernel
theorem dX12_hasRing_189 : decode cX12_hasRing 189 = .ok (.iload 4, 2) := by decide +kernel
theorem dX12_hasRing_191 : decode cX12_hasRing 191 = .ok (.iconst 0, 1) := by decide +kernel
theorem dX12_hasRing_192 : decode cX12_hasRing 192 = .ok (.bastore, 1) := by decide +kernel
theorem dX12_hasRing_193 : decode cX12_hasRing 193 = .ok (.iinc 2 (-1), 3) := by decide +kernel
theorem dX12_hasRing_196 : decode cX12_hasRing 196 = .ok (.iconst 1, 1) := by decide +kernel
theorem dX12_hasRing_197 : decode cX12_hasRing 197 = .ok (.istore_n 3, 1) := by decide +kernel
theorem dX12_hasRing_198 : decode cX12_hasRing 198 = .ok (.iinc 4 1, 3) := by decide +kernel
theorem dX12_hasRing_201 : decode cX12_hasRing 201 = .ok (.goto (-114), 3) := by decide +kernel
theorem dX12_hasRing_204 : decode cX12_hasRing 204 = .ok (.goto (-126), 3) := by decide +kernel
theorem dX12_hasRing_207 : decode cX12_hasRing 207 = .ok (.iload_n 2, 1) := by decide +kernel
theorem dX12_hasRing_208 : decode cX12_hasRing 208 = .ok (.ifCond .le 7, 3) := by decide +kernel
theorem dX12_hasRing_211 : decode cX12_hasRing 211 = .ok (.iconst 1, 1) := by decide +kernel
theorem dX12_hasRing_212 : decode cX12_hasRing 212 = .ok (.goto 4, 3) := by decide +kernel
theorem dX12_hasRing_215 : decode cX12_hasRing 215 = .ok (.iconst 0, 1) := by decide +kernel
theorem dX12_hasRing_216 : decode cX12_hasRing 216 = .ok (.ireturn, 1) := by decide +kernel
def f_M_hasRing_b25 (K14 : me_M → Int32 → Int32 → Option (me_M × Int32)) (K25 : me_M → Int32 → Int32 → Int32 → Option (me_M × Int32)) (μ : me_M) (v2 : Int32) (v3 : Int32) (v4 : Int32) : Option (me_M × Int32) :=
  if (4 : Int32) ≤ v4 then
  (me_lt (me_inc v3 (1)) (fun x2 =>
  K14 μ v2 x2))
  else
  (me_bd (f_M_isLink μ v3 v4) (fun r3 =>
  me_gd (me_inb (((4 : Int32) * v3) + v4) 64) (
  me_lt (me_up μ 95 0 (me_ix (((4 : Int32) * v3) + v4)) (vp_nar .boolean r3)) (fun μ5 =>
  me_bd (f_M_isLink μ5 v3 v4) (fun r6 =>
  if r6 = 0 then
  (me_lt ((v2 + (0 : Int32))) (fun x8 =>
  me_lt (me_inc v4 (1)) (fun x9 =>
  K25 μ5 x8 v3 x9)))
  else
  (me_lt ((v2 + (1 : Int32))) (fun x10 =>
  me_lt (me_inc v4 (1)) (fun x11 =>
  K25 μ5 x10 v3 x11))))))))
set_option maxHeartbeats 4000000 in
set_option maxRecDepth 100000 in
theorem z_M_hasRing_b25 {X : me_X} {B : me_B} {tq : Nat} (hJ0 : me_J B) (hT0 : B.2.1 95 = 0) {sz : Nat} (C : me_C X (me_tb B tq) RX12 cX12_hasRing 8 (some .boolean)) {μ : me_M} {v2 : Int32} {v3 : Int32} {v4 : Int32}  {K14 : me_M → Int32 → Int32 → Option (me_M × Int32)} {K25 : me_M → Int32 → Int32 → Int32 → Option (me_M × Int32)} {r : me_M × Int32} (N : me_En X B sz (B, r.1, .ok (some (me_i r.2))) 5 126 1 64) (hNx : me_Nx X) (hB : me_St (me_tb B tq)) (hK14 : ∀ (μ : me_M) (v2 : Int32) (v3 : Int32), K14 μ v2 v3 = some r → me_Z X (me_tb B tq) 1 64 μ 14 [(0, me_r 36 0), (1, me_r 95 0), (2, me_i v2), (3, me_i v3)] []) (hK25 : ∀ (μ : me_M) (v2 : Int32) (v3 : Int32) (v4 : Int32), K25 μ v2 v3 v4 = some r → me_Z X (me_tb B tq) 1 64 μ 25 [(0, me_r 36 0), (1, me_r 95 0), (2, me_i v2), (3, me_i v3), (4, me_i v4)] [])  (hf : f_M_hasRing_b25 K14 K25 μ v2 v3 v4 = some r) : me_Z X (me_tb B tq) 1 64 μ 25 [(0, me_r 36 0), (1, me_r 95 0), (2, me_i v2), (3, me_i v3), (4, me_i v4)] [] := by
  unfold f_M_hasRing_b25 at hf
  refine me_iload C dX12_hasRing_25 rfl ?_
  refine me_iconst C (v := 4) dX12_hasRing_27 (by decide) ?_
  refine me_icmp_ge C (tgt := 70) dX12_hasRing_28 (by decide) (fun c1 => ?_) (fun c1 => ?_)
  · replace hf := me_ip c1 hf
    obtain ⟨x2, e_x2, hf⟩ := me_lts hf
    refine me_iinc C (v := x2) (L' := [(3, me_i x2), (0, me_r 36 0), (1, me_r 95 0), (2, me_i v2), (4, me_i v4)]) dX12_hasRing_70 rfl e_x2.symm (by decide) rfl ?_
    refine me_goto C (tgt := 14) dX12_hasRing_73 (by decide) ?_
    refine me_dropI [(0, me_r 36 0), (1, me_r 95 0), (2, me_i v2), (3, me_i x2)] [1, 2, 3, 0] rfl ?_
    exact hK14 μ v2 x2 hf
  · replace hf := me_in c1 hf
    refine me_aload_n C 1 (Or.inr (Or.inl ⟨_, rfl⟩)) dX12_hasRing_31 rfl rfl ?_
    refine me_iconst C (v := 4) dX12_hasRing_32 (by decide) ?_
    refine me_iload_n C 3 dX12_hasRing_33 rfl rfl ?_
    refine me_imul C dX12_hasRing_34 ?_
    refine me_iload C dX12_hasRing_35 rfl ?_
    refine me_iadd C dX12_hasRing_37 ?_
    refine me_aload_n C 0 (Or.inr (Or.inl ⟨_, rfl⟩)) dX12_hasRing_38 rfl rfl ?_
    refine me_iload_n C 3 dX12_hasRing_39 rfl rfl ?_
    refine me_iload C dX12_hasRing_40 rfl ?_
    obtain ⟨r3, h_r3, hf⟩ := me_bs hf
    refine me_callV C N  (As := [me_i v3, me_i v4]) (st := [me_i (((4 : Int32) * v3) + v4), me_r 95 0]) 1 64 (c_M_isLink hB h_r3) mv_M_isLink ml_M_298 rfl rfl dX12_hasRing_42 rfl rfl ⟨by decide, by decide⟩ ⟨by decide, by decide, by decide, by decide⟩ (Nat.le_of_ble_eq_true rfl) ?_
    obtain ⟨g4, hf⟩ := me_gs hf
    obtain ⟨μ5, e_μ5, hf⟩ := me_lts hf
    refine me_zast C rfl (fun _ => rfl) g4 dX12_hasRing_45 e_μ5 ?_
    refine me_iload_n C 2 dX12_hasRing_46 rfl rfl ?_
    refine me_aload_n C 0 (Or.inr (Or.inl ⟨_, rfl⟩)) dX12_hasRing_47 rfl rfl ?_
    refine me_iload_n C 3 dX12_hasRing_48 rfl rfl ?_
    refine me_iload C dX12_hasRing_49 rfl ?_
    obtain ⟨r6, h_r6, hf⟩ := me_bs hf
    refine me_callV C N  (As := [me_i v3, me_i v4]) (st := [me_i v2]) 1 64 (c_M_isLink hB h_r6) mv_M_isLink ml_M_298 rfl rfl dX12_hasRing_51 rfl rfl ⟨by decide, by decide⟩ ⟨by decide, by decide, by decide, by decide⟩ (Nat.le_of_ble_eq_true rfl) ?_
    refine me_if_eq C (tgt := 61) dX12_hasRing_54 (by decide) (fun c7 => ?_) (fun c7 => ?_)
    · replace hf := me_ip c7 hf
      refine me_iconst C (v := 0) dX12_hasRing_61 (by decide) ?_
      refine me_iadd C dX12_hasRing_62 ?_
      obtain ⟨x8, e_x8, hf⟩ := me_lts hf
      refine me_nm e_x8 ?_
      refine me_istore_n C 2 dX12_hasRing_63 rfl (by decide) (L' := [(2, me_i x8), (0, me_r 36 0), (1, me_r 95 0), (3, me_i v3), (4, me_i v4)]) rfl ?_
      obtain ⟨x9, e_x9, hf⟩ := me_lts hf
      refine me_iinc C (v := x9) (L' := [(4, me_i x9), (2, me_i x8), (0, me_r 36 0), (1, me_r 95 0), (3, me_i v3)]) dX12_hasRing_64 rfl e_x9.symm (by decide) rfl ?_
      refine me_goto C (tgt := 25) dX12_hasRing_67 (by decide) ?_
      refine me_dropI [(0, me_r 36 0), (1, me_r 95 0), (2, me_i x8), (3, me_i v3), (4, me_i x9)] [2, 3, 1, 4, 0] rfl ?_
      exact hK25 μ5 x8 v3 x9 hf
    · replace hf := me_in c7 hf
      refine me_iconst C (v := 1) dX12_hasRing_57 (by decide) ?_
      refine me_goto C (tgt := 62) dX12_hasRing_58 (by decide) ?_
      refine me_iadd C dX12_hasRing_62 ?_
      obtain ⟨x10, e_x10, hf⟩ := me_lts hf
      refine me_nm e_x10 ?_
      refine me_istore_n C 2 dX12_hasRing_63 rfl (by decide) (L' := [(2, me_i x10), (0, me_r 36 0), (1, me_r 95 0), (3, me_i v3), (4, me_i v4)]) rfl ?_
      obtain ⟨x11, e_x11, hf⟩ := me_lts hf
      refine me_iinc C (v := x11) (L' := [(4, me_i x11), (2, me_i x10), (0, me_r 36 0), (1, me_r 95 0), (3, me_i v3)]) dX12_hasRing_64 rfl e_x11.symm (by decide) rfl ?_
      refine me_goto C (tgt := 25) dX12_hasRing_67 (by decide) ?_
      refine me_dropI [(0, me_r 36 0), (1, me_r 95 0), (2, me_i x10), (3, me_i v3), (4, me_i x11)] [2, 3, 1, 4, 0] rfl ?_
      exact hK25 μ5 x10 v3 x11 hf
def f_M_hasRing_h25 (K14 : me_M → Int32 → Int32 → Option (me_M × Int32)) : Nat → me_M → Int32 → Int32 → Int32 → Option (me_M × Int32)
  | 0, _, _, _, _ => none
  | n + 1, μ, v2, v3, v4 => f_M_hasRing_b25 K14 (f_M_hasRing_h25 K14 n) μ v2 v3 v4
set_option maxHeartbeats 4000000 in
set_option maxRecDepth 100000 in
theorem z_M_hasRing_h25 {X : me_X} {B : me_B} {tq : Nat} (hJ0 : me_J B) (hT0 : B.2.1 95 = 0) {sz : Nat} (C : me_C X (me_tb B tq) RX12 cX12_hasRing 8 (some .boolean)) {K14 : me_M → Int32 → Int32 → Option (me_M × Int32)} {r : me_M × Int32} (N : me_En X B sz (B, r.1, .ok (some (me_i r.2))) 5 126 1 64) (hNx : me_Nx X) (hB : me_St (me_tb B tq)) (hK14 : ∀ (μ : me_M) (v2 : Int32) (v3 : Int32), K14 μ v2 v3 = some r → me_Z X (me_tb B tq) 1 64 μ 14 [(0, me_r 36 0), (1, me_r 95 0), (2, me_i v2), (3, me_i v3)] []) : ∀ (n : Nat) (μ : me_M) (v2 : Int32) (v3 : Int32) (v4 : Int32), f_M_hasRing_h25 K14 n μ v2 v3 v4 = some r → me_Z X (me_tb B tq) 1 64 μ 25 [(0, me_r 36 0), (1, me_r 95 0), (2, me_i v2), (3, me_i v3), (4, me_i v4)] [] := by
  intro n
  induction n with
  | zero => intro μ v2 v3 v4  h; exact absurd (show (none : Option (me_M × Int32)) = some r from h) (fun q => by cases q)
  | succ n ih => intro μ v2 v3 v4  h; exact z_M_hasRing_b25 hJ0 hT0 C N hNx hB hK14 (K25 := f_M_hasRing_h25 K14 n) ih  h
def f_M_hasRing_b166 (K78 : me_M → Int32 → Int32 → Option (me_M × Int32)) (K87 : me_M → Int32 → Int32 → Int32 → Option (me_M × Int32)) (K104 : me_M → Int32 → Int32 → Int32 → Int32 → Int32 → Option (me_M × Int32)) (μ : me_M) (v2 : Int32) (v3 : Int32) (v4 : Int32) (v6 : Int32) (s0 : Int32) : Option (me_M × Int32) :=
  me_lt ((s0 ||| (0 : Int32))) (fun x1 =>
  me_lt (me_inc v6 (1)) (fun x2 =>
  K104 μ v2 v3 v4 x1 x2))
set_option maxHeartbeats 4000000 in
set_option maxRecDepth 100000 in
theorem z_M_hasRing_b166 {X : me_X} {B : me_B} {tq : Nat} (hJ0 : me_J B) (hT0 : B.2.1 95 = 0) {sz : Nat} (C : me_C X (me_tb B tq) RX12 cX12_hasRing 8 (some .boolean)) {μ : me_M} {v2 : Int32} {v3 : Int32} {v4 : Int32} {v6 : Int32} {s0 : Int32}  {K78 : me_M → Int32 → Int32 → Option (me_M × Int32)} {K87 : me_M → Int32 → Int32 → Int32 → Option (me_M × Int32)} {K104 : me_M → Int32 → Int32 → Int32 → Int32 → Int32 → Option (me_M × Int32)} {r : me_M × Int32} (N : me_En X B sz (B, r.1, .ok (some (me_i r.2))) 5 126 1 64) (hNx : me_Nx X) (hB : me_St (me_tb B tq)) (hK78 : ∀ (μ : me_M) (v2 : Int32) (v3 : Int32), K78 μ v2 v3 = some r → me_Z X (me_tb B tq) 1 64 μ 78 [(0, me_r 36 0), (1, me_r 95 0), (2, me_i v2), (3, me_i v3)] []) (hK87 : ∀ (μ : me_M) (v2 : Int32) (v3 : Int32) (v4 : Int32), K87 μ v2 v3 v4 = some r → me_Z X (me_tb B tq) 1 64 μ 87 [(0, me_r 36 0), (1, me_r 95 0), (2, me_i v2), (3, me_i v3), (4, me_i v4)] []) (hK104 : ∀ (μ : me_M) (v2 : Int32) (v3 : Int32) (v4 : Int32) (v5 : Int32) (v6 : Int32), K104 μ v2 v3 v4 v5 v6 = some r → me_Z X (me_tb B tq) 1 64 μ 104 [(0, me_r 36 0), (1, me_r 95 0), (2, me_i v2), (3, me_i v3), (4, me_i v4), (5, me_i v5), (6, me_i v6)] [])  (hf : f_M_hasRing_b166 K78 K87 K104 μ v2 v3 v4 v6 s0 = some r) : me_Z X (me_tb B tq) 1 64 μ 166 [(0, me_r 36 0), (1, me_r 95 0), (2, me_i v2), (3, me_i v3), (4, me_i v4), (6, me_i v6)] [me_i s0] := by
  unfold f_M_hasRing_b166 at hf
  refine me_iconst C (v := 0) dX12_hasRing_166 (by decide) ?_
  refine me_ior C dX12_hasRing_167 ?_
  obtain ⟨x1, e_x1, hf⟩ := me_lts hf
  refine me_nm e_x1 ?_
  refine me_istore C dX12_hasRing_168 (by decide) (L' := [(5, me_i x1), (0, me_r 36 0), (1, me_r 95 0), (2, me_i v2), (3, me_i v3), (4, me_i v4), (6, me_i v6)]) rfl ?_
  obtain ⟨x2, e_x2, hf⟩ := me_lts hf
  refine me_iinc C (v := x2) (L' := [(6, me_i x2), (5, me_i x1), (0, me_r 36 0), (1, me_r 95 0), (2, me_i v2), (3, me_i v3), (4, me_i v4)]) dX12_hasRing_170 rfl e_x2.symm (by decide) rfl ?_
  refine me_goto C (tgt := 104) dX12_hasRing_173 (by decide) ?_
  refine me_dropI [(0, me_r 36 0), (1, me_r 95 0), (2, me_i v2), (3, me_i v3), (4, me_i v4), (5, me_i x1), (6, me_i x2)] [2, 3, 4, 5, 6, 1, 0] rfl ?_
  exact hK104 μ v2 v3 v4 x1 x2 hf
def f_M_hasRing_b176 (K78 : me_M → Int32 → Int32 → Option (me_M × Int32)) (K87 : me_M → Int32 → Int32 → Int32 → Option (me_M × Int32)) (μ : me_M) (v2 : Int32) (v3 : Int32) (v4 : Int32) (v5 : Int32) : Option (me_M × Int32) :=
  me_gd (me_inb v4 64) (
  if (μ 95 0 (me_ix v4)) = 0 then
  (me_lt (me_inc v4 (1)) (fun x3 =>
  K87 μ v2 v3 x3))
  else
  (if v5 = 0 then
  (me_gd (me_inb v4 64) (
  me_lt (me_up μ 95 0 (me_ix v4) (vp_nar .boolean (0 : Int32))) (fun μ7 =>
  me_lt (me_inc v2 (-1)) (fun x8 =>
  me_lt (me_inc v4 (1)) (fun x9 =>
  K87 μ7 x8 (1 : Int32) x9)))))
  else
  (me_lt (me_inc v4 (1)) (fun x5 =>
  K87 μ v2 v3 x5))))
set_option maxHeartbeats 4000000 in
set_option maxRecDepth 100000 in
theorem z_M_hasRing_b176 {X : me_X} {B : me_B} {tq : Nat} (hJ0 : me_J B) (hT0 : B.2.1 95 = 0) {sz : Nat} (C : me_C X (me_tb B tq) RX12 cX12_hasRing 8 (some .boolean)) {μ : me_M} {v2 : Int32} {v3 : Int32} {v4 : Int32} {v5 : Int32}  {K78 : me_M → Int32 → Int32 → Option (me_M × Int32)} {K87 : me_M → Int32 → Int32 → Int32 → Option (me_M × Int32)} {r : me_M × Int32} (N : me_En X B sz (B, r.1, .ok (some (me_i r.2))) 5 126 1 64) (hNx : me_Nx X) (hB : me_St (me_tb B tq)) (hK78 : ∀ (μ : me_M) (v2 : Int32) (v3 : Int32), K78 μ v2 v3 = some r → me_Z X (me_tb B tq) 1 64 μ 78 [(0, me_r 36 0), (1, me_r 95 0), (2, me_i v2), (3, me_i v3)] []) (hK87 : ∀ (μ : me_M) (v2 : Int32) (v3 : Int32) (v4 : Int32), K87 μ v2 v3 v4 = some r → me_Z X (me_tb B tq) 1 64 μ 87 [(0, me_r 36 0), (1, me_r 95 0), (2, me_i v2), (3, me_i v3), (4, me_i v4)] [])  (hf : f_M_hasRing_b176 K78 K87 μ v2 v3 v4 v5 = some r) : me_Z X (me_tb B tq) 1 64 μ 176 [(0, me_r 36 0), (1, me_r 95 0), (2, me_i v2), (3, me_i v3), (4, me_i v4), (5, me_i v5)] [] := by
  unfold f_M_hasRing_b176 at hf
  refine me_aload_n C 1 (Or.inr (Or.inl ⟨_, rfl⟩)) dX12_hasRing_176 rfl rfl ?_
  refine me_iload C dX12_hasRing_177 rfl ?_
  obtain ⟨g1, hf⟩ := me_gs hf
  refine me_zald C rfl (fun _ => rfl) g1 dX12_hasRing_179 ?_
  refine me_if_eq C (tgt := 198) dX12_hasRing_180 (by decide) (fun c2 => ?_) (fun c2 => ?_)
  · replace hf := me_ip c2 hf
    obtain ⟨x3, e_x3, hf⟩ := me_lts hf
    refine me_iinc C (v := x3) (L' := [(4, me_i x3), (0, me_r 36 0), (1, me_r 95 0), (2, me_i v2), (3, me_i v3), (5, me_i v5)]) dX12_hasRing_198 rfl e_x3.symm (by decide) rfl ?_
    refine me_goto C (tgt := 87) dX12_hasRing_201 (by decide) ?_
    refine me_dropI [(0, me_r 36 0), (1, me_r 95 0), (2, me_i v2), (3, me_i v3), (4, me_i x3)] [1, 2, 3, 4, 0] rfl ?_
    exact hK87 μ v2 v3 x3 hf
  · replace hf := me_in c2 hf
    refine me_iload C dX12_hasRing_183 rfl ?_
    refine me_if_ne C (tgt := 198) dX12_hasRing_185 (by decide) (fun c4 => ?_) (fun c4 => ?_)
    · replace hf := me_in c4 hf
      obtain ⟨x5, e_x5, hf⟩ := me_lts hf
      refine me_iinc C (v := x5) (L' := [(4, me_i x5), (0, me_r 36 0), (1, me_r 95 0), (2, me_i v2), (3, me_i v3), (5, me_i v5)]) dX12_hasRing_198 rfl e_x5.symm (by decide) rfl ?_
      refine me_goto C (tgt := 87) dX12_hasRing_201 (by decide) ?_
      refine me_dropI [(0, me_r 36 0), (1, me_r 95 0), (2, me_i v2), (3, me_i v3), (4, me_i x5)] [1, 2, 3, 4, 0] rfl ?_
      exact hK87 μ v2 v3 x5 hf
    · replace hf := me_ip c4 hf
      refine me_aload_n C 1 (Or.inr (Or.inl ⟨_, rfl⟩)) dX12_hasRing_188 rfl rfl ?_
      refine me_iload C dX12_hasRing_189 rfl ?_
      refine me_iconst C (v := 0) dX12_hasRing_191 (by decide) ?_
      obtain ⟨g6, hf⟩ := me_gs hf
      obtain ⟨μ7, e_μ7, hf⟩ := me_lts hf
      refine me_zast C rfl (fun _ => rfl) g6 dX12_hasRing_192 e_μ7 ?_
      obtain ⟨x8, e_x8, hf⟩ := me_lts hf
      refine me_iinc C (v := x8) (L' := [(2, me_i x8), (0, me_r 36 0), (1, me_r 95 0), (3, me_i v3), (4, me_i v4), (5, me_i v5)]) dX12_hasRing_193 rfl e_x8.symm (by decide) rfl ?_
      refine me_iconst C (v := 1) dX12_hasRing_196 (by decide) ?_
      refine me_istore_n C 3 dX12_hasRing_197 rfl (by decide) (L' := [(3, me_i (1 : Int32)), (2, me_i x8), (0, me_r 36 0), (1, me_r 95 0), (4, me_i v4), (5, me_i v5)]) rfl ?_
      obtain ⟨x9, e_x9, hf⟩ := me_lts hf
      refine me_iinc C (v := x9) (L' := [(4, me_i x9), (3, me_i (1 : Int32)), (2, me_i x8), (0, me_r 36 0), (1, me_r 95 0), (5, me_i v5)]) dX12_hasRing_198 rfl e_x9.symm (by decide) rfl ?_
      refine me_goto C (tgt := 87) dX12_hasRing_201 (by decide) ?_
      refine me_dropI [(0, me_r 36 0), (1, me_r 95 0), (2, me_i x8), (3, me_i (1 : Int32)), (4, me_i x9)] [3, 4, 2, 1, 0] rfl ?_
      exact hK87 μ7 x8 (1 : Int32) x9 hf
def f_M_hasRing_b104 (K78 : me_M → Int32 → Int32 → Option (me_M × Int32)) (K87 : me_M → Int32 → Int32 → Int32 → Option (me_M × Int32)) (K104 : me_M → Int32 → Int32 → Int32 → Int32 → Int32 → Option (me_M × Int32)) (μ : me_M) (v2 : Int32) (v3 : Int32) (v4 : Int32) (v5 : Int32) (v6 : Int32) : Option (me_M × Int32) :=
  if (4 : Int32) ≤ v6 then
  (f_M_hasRing_b176 K78 K87 μ v2 v3 v4 v5)
  else
  (me_gd (me_inb v4 64) (
  if (μ 95 0 (me_ix v4)) = 0 then
  (f_M_hasRing_b176 K78 K87 μ v2 v3 v4 v5)
  else
  (me_bd (f_M_beside μ (v4 / (4 : Int32)) (me_rem v4 (4 : Int32))) (fun r4 =>
  me_gd (me_inb (((4 : Int32) * r4) + v6) 64) (
  if (μ 95 0 (me_ix (((4 : Int32) * r4) + v6))) = 0 then
  (f_M_hasRing_b166 K78 K87 K104 μ v2 v3 v4 v6 v5)
  else
  (me_bd (f_M_leadsTo μ (v4 / (4 : Int32)) (me_rem v4 (4 : Int32)) v6) (fun r7 =>
  if r7 = 0 then
  (f_M_hasRing_b166 K78 K87 K104 μ v2 v3 v4 v6 v5)
  else
  (me_lt ((v5 ||| (1 : Int32))) (fun x9 =>
  me_lt (me_inc v6 (1)) (fun x10 =>
  K104 μ v2 v3 v4 x9 x10))))))))))
set_option maxHeartbeats 4000000 in
set_option maxRecDepth 100000 in
theorem z_M_hasRing_b104 {X : me_X} {B : me_B} {tq : Nat} (hJ0 : me_J B) (hT0 : B.2.1 95 = 0) {sz : Nat} (C : me_C X (me_tb B tq) RX12 cX12_hasRing 8 (some .boolean)) {μ : me_M} {v2 : Int32} {v3 : Int32} {v4 : Int32} {v5 : Int32} {v6 : Int32}  {K78 : me_M → Int32 → Int32 → Option (me_M × Int32)} {K87 : me_M → Int32 → Int32 → Int32 → Option (me_M × Int32)} {K104 : me_M → Int32 → Int32 → Int32 → Int32 → Int32 → Option (me_M × Int32)} {r : me_M × Int32} (N : me_En X B sz (B, r.1, .ok (some (me_i r.2))) 5 126 1 64) (hNx : me_Nx X) (hB : me_St (me_tb B tq)) (hK78 : ∀ (μ : me_M) (v2 : Int32) (v3 : Int32), K78 μ v2 v3 = some r → me_Z X (me_tb B tq) 1 64 μ 78 [(0, me_r 36 0), (1, me_r 95 0), (2, me_i v2), (3, me_i v3)] []) (hK87 : ∀ (μ : me_M) (v2 : Int32) (v3 : Int32) (v4 : Int32), K87 μ v2 v3 v4 = some r → me_Z X (me_tb B tq) 1 64 μ 87 [(0, me_r 36 0), (1, me_r 95 0), (2, me_i v2), (3, me_i v3), (4, me_i v4)] []) (hK104 : ∀ (μ : me_M) (v2 : Int32) (v3 : Int32) (v4 : Int32) (v5 : Int32) (v6 : Int32), K104 μ v2 v3 v4 v5 v6 = some r → me_Z X (me_tb B tq) 1 64 μ 104 [(0, me_r 36 0), (1, me_r 95 0), (2, me_i v2), (3, me_i v3), (4, me_i v4), (5, me_i v5), (6, me_i v6)] [])  (hf : f_M_hasRing_b104 K78 K87 K104 μ v2 v3 v4 v5 v6 = some r) : me_Z X (me_tb B tq) 1 64 μ 104 [(0, me_r 36 0), (1, me_r 95 0), (2, me_i v2), (3, me_i v3), (4, me_i v4), (5, me_i v5), (6, me_i v6)] [] := by
  unfold f_M_hasRing_b104 at hf
  refine me_iload C dX12_hasRing_104 rfl ?_
  refine me_iconst C (v := 4) dX12_hasRing_106 (by decide) ?_
  refine me_icmp_ge C (tgt := 176) dX12_hasRing_107 (by decide) (fun c1 => ?_) (fun c1 => ?_)
  · replace hf := me_ip c1 hf
    refine me_dropI [(0, me_r 36 0), (1, me_r 95 0), (2, me_i v2), (3, me_i v3), (4, me_i v4), (5, me_i v5)] [0, 1, 2, 3, 4, 5] rfl ?_
    exact z_M_hasRing_b176 hJ0 hT0 C N hNx hB hK78 hK87 hf
  · replace hf := me_in c1 hf
    refine me_aload_n C 1 (Or.inr (Or.inl ⟨_, rfl⟩)) dX12_hasRing_110 rfl rfl ?_
    refine me_iload C dX12_hasRing_111 rfl ?_
    obtain ⟨g2, hf⟩ := me_gs hf
    refine me_zald C rfl (fun _ => rfl) g2 dX12_hasRing_113 ?_
    refine me_if_eq C (tgt := 176) dX12_hasRing_114 (by decide) (fun c3 => ?_) (fun c3 => ?_)
    · replace hf := me_ip c3 hf
      refine me_dropI [(0, me_r 36 0), (1, me_r 95 0), (2, me_i v2), (3, me_i v3), (4, me_i v4), (5, me_i v5)] [0, 1, 2, 3, 4, 5] rfl ?_
      exact z_M_hasRing_b176 hJ0 hT0 C N hNx hB hK78 hK87 hf
    · replace hf := me_in c3 hf
      refine me_aload_n C 0 (Or.inr (Or.inl ⟨_, rfl⟩)) dX12_hasRing_117 rfl rfl ?_
      refine me_iload C dX12_hasRing_118 rfl ?_
      refine me_iconst C (v := 4) dX12_hasRing_120 (by decide) ?_
      refine me_idiv C dX12_hasRing_121 (by decide) ?_
      refine me_iload C dX12_hasRing_122 rfl ?_
      refine me_iconst C (v := 4) dX12_hasRing_124 (by decide) ?_
      refine me_irem C dX12_hasRing_125 (by decide) ?_
      obtain ⟨r4, h_r4, hf⟩ := me_bs hf
      refine me_callV C N  (As := [me_i (v4 / (4 : Int32)), me_i (me_rem v4 (4 : Int32))]) (st := []) 1 64 (c_M_beside hB h_r4) mv_M_beside ml_M_199 rfl rfl dX12_hasRing_126 rfl rfl ⟨by decide, by decide⟩ ⟨by decide, by decide, by decide, by decide⟩ (Nat.le_of_ble_eq_true rfl) ?_
      refine me_istore C dX12_hasRing_129 (by decide) (L' := [(7, me_i r4), (0, me_r 36 0), (1, me_r 95 0), (2, me_i v2), (3, me_i v3), (4, me_i v4), (5, me_i v5), (6, me_i v6)]) rfl ?_
      refine me_iload C dX12_hasRing_131 rfl ?_
      refine me_aload_n C 1 (Or.inr (Or.inl ⟨_, rfl⟩)) dX12_hasRing_133 rfl rfl ?_
      refine me_iconst C (v := 4) dX12_hasRing_134 (by decide) ?_
      refine me_iload C dX12_hasRing_135 rfl ?_
      refine me_imul C dX12_hasRing_137 ?_
      refine me_iload C dX12_hasRing_138 rfl ?_
      refine me_iadd C dX12_hasRing_140 ?_
      obtain ⟨g5, hf⟩ := me_gs hf
      refine me_zald C rfl (fun _ => rfl) g5 dX12_hasRing_141 ?_
      refine me_if_eq C (tgt := 166) dX12_hasRing_142 (by decide) (fun c6 => ?_) (fun c6 => ?_)
      · replace hf := me_ip c6 hf
        refine me_dropI [(0, me_r 36 0), (1, me_r 95 0), (2, me_i v2), (3, me_i v3), (4, me_i v4), (6, me_i v6)] [1, 2, 3, 4, 5, 7] rfl ?_
        exact z_M_hasRing_b166 hJ0 hT0 C N hNx hB hK78 hK87 hK104 hf
      · replace hf := me_in c6 hf
        refine me_aload_n C 0 (Or.inr (Or.inl ⟨_, rfl⟩)) dX12_hasRing_145 rfl rfl ?_
        refine me_iload C dX12_hasRing_146 rfl ?_
        refine me_iconst C (v := 4) dX12_hasRing_148 (by decide) ?_
        refine me_idiv C dX12_hasRing_149 (by decide) ?_
        refine me_iload C dX12_hasRing_150 rfl ?_
        refine me_iconst C (v := 4) dX12_hasRing_152 (by decide) ?_
        refine me_irem C dX12_hasRing_153 (by decide) ?_
        refine me_iload C dX12_hasRing_154 rfl ?_
        obtain ⟨r7, h_r7, hf⟩ := me_bs hf
        refine me_callV C N  (As := [me_i (v4 / (4 : Int32)), me_i (me_rem v4 (4 : Int32)), me_i v6]) (st := [me_i v5]) 1 64 (c_M_leadsTo hB h_r7) mv_M_leadsTo ml_M_301 rfl rfl dX12_hasRing_156 rfl rfl ⟨by decide, by decide⟩ ⟨by decide, by decide, by decide, by decide⟩ (Nat.le_of_ble_eq_true rfl) ?_
        refine me_if_eq C (tgt := 166) dX12_hasRing_159 (by decide) (fun c8 => ?_) (fun c8 => ?_)
        · replace hf := me_ip c8 hf
          refine me_dropI [(0, me_r 36 0), (1, me_r 95 0), (2, me_i v2), (3, me_i v3), (4, me_i v4), (6, me_i v6)] [1, 2, 3, 4, 5, 7] rfl ?_
          exact z_M_hasRing_b166 hJ0 hT0 C N hNx hB hK78 hK87 hK104 hf
        · replace hf := me_in c8 hf
          refine me_iconst C (v := 1) dX12_hasRing_162 (by decide) ?_
          refine me_goto C (tgt := 167) dX12_hasRing_163 (by decide) ?_
          refine me_ior C dX12_hasRing_167 ?_
          obtain ⟨x9, e_x9, hf⟩ := me_lts hf
          refine me_nm e_x9 ?_
          refine me_istore C dX12_hasRing_168 (by decide) (L' := [(5, me_i x9), (7, me_i r4), (0, me_r 36 0), (1, me_r 95 0), (2, me_i v2), (3, me_i v3), (4, me_i v4), (6, me_i v6)]) rfl ?_
          obtain ⟨x10, e_x10, hf⟩ := me_lts hf
          refine me_iinc C (v := x10) (L' := [(6, me_i x10), (5, me_i x9), (7, me_i r4), (0, me_r 36 0), (1, me_r 95 0), (2, me_i v2), (3, me_i v3), (4, me_i v4)]) dX12_hasRing_170 rfl e_x10.symm (by decide) rfl ?_
          refine me_goto C (tgt := 104) dX12_hasRing_173 (by decide) ?_
          refine me_dropI [(0, me_r 36 0), (1, me_r 95 0), (2, me_i v2), (3, me_i v3), (4, me_i v4), (5, me_i x9), (6, me_i x10)] [3, 4, 5, 6, 7, 1, 0] rfl ?_
          exact hK104 μ v2 v3 v4 x9 x10 hf
def f_M_hasRing_h104 (K78 : me_M → Int32 → Int32 → Option (me_M × Int32)) (K87 : me_M → Int32 → Int32 → Int32 → Option (me_M × Int32)) : Nat → me_M → Int32 → Int32 → Int32 → Int32 → Int32 → Option (me_M × Int32)
  | 0, _, _, _, _, _, _ => none
  | n + 1, μ, v2, v3, v4, v5, v6 => f_M_hasRing_b104 K78 K87 (f_M_hasRing_h104 K78 K87 n) μ v2 v3 v4 v5 v6
set_option maxHeartbeats 4000000 in
set_option maxRecDepth 100000 in
theorem z_M_hasRing_h104 {X : me_X} {B : me_B} {tq : Nat} (hJ0 : me_J B) (hT0 : B.2.1 95 = 0) {sz : Nat} (C : me_C X (me_tb B tq) RX12 cX12_hasRing 8 (some .boolean)) {K78 : me_M → Int32 → Int32 → Option (me_M × Int32)} {K87 : me_M → Int32 → Int32 → Int32 → Option (me_M × Int32)} {r : me_M × Int32} (N : me_En X B sz (B, r.1, .ok (some (me_i r.2))) 5 126 1 64) (hNx : me_Nx X) (hB : me_St (me_tb B tq)) (hK78 : ∀ (μ : me_M) (v2 : Int32) (v3 : Int32), K78 μ v2 v3 = some r → me_Z X (me_tb B tq) 1 64 μ 78 [(0, me_r 36 0), (1, me_r 95 0), (2, me_i v2), (3, me_i v3)] []) (hK87 : ∀ (μ : me_M) (v2 : Int32) (v3 : Int32) (v4 : Int32), K87 μ v2 v3 v4 = some r → me_Z X (me_tb B tq) 1 64 μ 87 [(0, me_r 36 0), (1, me_r 95 0), (2, me_i v2), (3, me_i v3), (4, me_i v4)] []) : ∀ (n : Nat) (μ : me_M) (v2 : Int32) (v3 : Int32) (v4 : Int32) (v5 : Int32) (v6 : Int32), f_M_hasRing_h104 K78 K87 n μ v2 v3 v4 v5 v6 = some r → me_Z X (me_tb B tq) 1 64 μ 104 [(0, me_r 36 0), (1, me_r 95 0), (2, me_i v2), (3, me_i v3), (4, me_i v4), (5, me_i v5), (6, me_i v6)] [] := by
  intro n
  induction n with
  | zero => intro μ v2 v3 v4 v5 v6  h; exact absurd (show (none : Option (me_M × Int32)) = some r from h) (fun q => by cases q)
  | succ n ih => intro μ v2 v3 v4 v5 v6  h; exact z_M_hasRing_b104 hJ0 hT0 C N hNx hB hK78 hK87 (K104 := f_M_hasRing_h104 K78 K87 n) ih  h
def f_M_hasRing_b87 (K78 : me_M → Int32 → Int32 → Option (me_M × Int32)) (K87 : me_M → Int32 → Int32 → Int32 → Option (me_M × Int32)) (μ : me_M) (v2 : Int32) (v3 : Int32) (v4 : Int32) : Option (me_M × Int32) :=
  me_bd (f_M_nodes μ) (fun r1 =>
  if ((4 : Int32) * r1) ≤ v4 then
  (K78 μ v2 v3)
  else
  (f_M_hasRing_h104 K78 K87 me_FU μ v2 v3 v4 (0 : Int32) (0 : Int32)))
set_option maxHeartbeats 4000000 in
set_option maxRecDepth 100000 in
theorem z_M_hasRing_b87 {X : me_X} {B : me_B} {tq : Nat} (hJ0 : me_J B) (hT0 : B.2.1 95 = 0) {sz : Nat} (C : me_C X (me_tb B tq) RX12 cX12_hasRing 8 (some .boolean)) {μ : me_M} {v2 : Int32} {v3 : Int32} {v4 : Int32}  {K78 : me_M → Int32 → Int32 → Option (me_M × Int32)} {K87 : me_M → Int32 → Int32 → Int32 → Option (me_M × Int32)} {r : me_M × Int32} (N : me_En X B sz (B, r.1, .ok (some (me_i r.2))) 5 126 1 64) (hNx : me_Nx X) (hB : me_St (me_tb B tq)) (hK78 : ∀ (μ : me_M) (v2 : Int32) (v3 : Int32), K78 μ v2 v3 = some r → me_Z X (me_tb B tq) 1 64 μ 78 [(0, me_r 36 0), (1, me_r 95 0), (2, me_i v2), (3, me_i v3)] []) (hK87 : ∀ (μ : me_M) (v2 : Int32) (v3 : Int32) (v4 : Int32), K87 μ v2 v3 v4 = some r → me_Z X (me_tb B tq) 1 64 μ 87 [(0, me_r 36 0), (1, me_r 95 0), (2, me_i v2), (3, me_i v3), (4, me_i v4)] [])  (hf : f_M_hasRing_b87 K78 K87 μ v2 v3 v4 = some r) : me_Z X (me_tb B tq) 1 64 μ 87 [(0, me_r 36 0), (1, me_r 95 0), (2, me_i v2), (3, me_i v3), (4, me_i v4)] [] := by
  unfold f_M_hasRing_b87 at hf
  refine me_iload C dX12_hasRing_87 rfl ?_
  refine me_iconst C (v := 4) dX12_hasRing_89 (by decide) ?_
  refine me_aload_n C 0 (Or.inr (Or.inl ⟨_, rfl⟩)) dX12_hasRing_90 rfl rfl ?_
  obtain ⟨r1, h_r1, hf⟩ := me_bs hf
  refine me_callV C N  (As := []) (st := [me_i (4 : Int32), me_i v4]) 1 64 (c_M_nodes hB h_r1) mv_M_nodes ml_M_144 rfl rfl dX12_hasRing_91 rfl rfl ⟨by decide, by decide⟩ ⟨by decide, by decide, by decide, by decide⟩ (Nat.le_of_ble_eq_true rfl) ?_
  refine me_imul C dX12_hasRing_94 ?_
  refine me_icmp_ge C (tgt := 204) dX12_hasRing_95 (by decide) (fun c2 => ?_) (fun c2 => ?_)
  · replace hf := me_ip c2 hf
    refine me_goto C (tgt := 78) dX12_hasRing_204 (by decide) ?_
    refine me_dropI [(0, me_r 36 0), (1, me_r 95 0), (2, me_i v2), (3, me_i v3)] [0, 1, 2, 3] rfl ?_
    exact hK78 μ v2 v3 hf
  · replace hf := me_in c2 hf
    refine me_iconst C (v := 0) dX12_hasRing_98 (by decide) ?_
    refine me_istore C dX12_hasRing_99 (by decide) (L' := [(5, me_i (0 : Int32)), (0, me_r 36 0), (1, me_r 95 0), (2, me_i v2), (3, me_i v3), (4, me_i v4)]) rfl ?_
    refine me_iconst C (v := 0) dX12_hasRing_101 (by decide) ?_
    refine me_istore C dX12_hasRing_102 (by decide) (L' := [(6, me_i (0 : Int32)), (5, me_i (0 : Int32)), (0, me_r 36 0), (1, me_r 95 0), (2, me_i v2), (3, me_i v3), (4, me_i v4)]) rfl ?_
    refine me_dropI [(0, me_r 36 0), (1, me_r 95 0), (2, me_i v2), (3, me_i v3), (4, me_i v4), (5, me_i (0 : Int32)), (6, me_i (0 : Int32))] [2, 3, 4, 5, 6, 1, 0] rfl ?_
    exact z_M_hasRing_h104 hJ0 hT0 C N hNx hB hK78 hK87 me_FU μ v2 v3 v4 (0 : Int32) (0 : Int32) hf
def f_M_hasRing_h87 (K78 : me_M → Int32 → Int32 → Option (me_M × Int32)) : Nat → me_M → Int32 → Int32 → Int32 → Option (me_M × Int32)
  | 0, _, _, _, _ => none
  | n + 1, μ, v2, v3, v4 => f_M_hasRing_b87 K78 (f_M_hasRing_h87 K78 n) μ v2 v3 v4
set_option maxHeartbeats 4000000 in
set_option maxRecDepth 100000 in
theorem z_M_hasRing_h87 {X : me_X} {B : me_B} {tq : Nat} (hJ0 : me_J B) (hT0 : B.2.1 95 = 0) {sz : Nat} (C : me_C X (me_tb B tq) RX12 cX12_hasRing 8 (some .boolean)) {K78 : me_M → Int32 → Int32 → Option (me_M × Int32)} {r : me_M × Int32} (N : me_En X B sz (B, r.1, .ok (some (me_i r.2))) 5 126 1 64) (hNx : me_Nx X) (hB : me_St (me_tb B tq)) (hK78 : ∀ (μ : me_M) (v2 : Int32) (v3 : Int32), K78 μ v2 v3 = some r → me_Z X (me_tb B tq) 1 64 μ 78 [(0, me_r 36 0), (1, me_r 95 0), (2, me_i v2), (3, me_i v3)] []) : ∀ (n : Nat) (μ : me_M) (v2 : Int32) (v3 : Int32) (v4 : Int32), f_M_hasRing_h87 K78 n μ v2 v3 v4 = some r → me_Z X (me_tb B tq) 1 64 μ 87 [(0, me_r 36 0), (1, me_r 95 0), (2, me_i v2), (3, me_i v3), (4, me_i v4)] [] := by
  intro n
  induction n with
  | zero => intro μ v2 v3 v4  h; exact absurd (show (none : Option (me_M × Int32)) = some r from h) (fun q => by cases q)
  | succ n ih => intro μ v2 v3 v4  h; exact z_M_hasRing_b87 hJ0 hT0 C N hNx hB hK78 (K87 := f_M_hasRing_h87 K78 n) ih  h
def f_M_hasRing_b78 (K78 : me_M → Int32 → Int32 → Option (me_M × Int32)) (μ : me_M) (v2 : Int32) (v3 : Int32) : Option (me_M × Int32) :=
  if v3 = 0 then
  (if v2 ≤ 0 then
  (some (μ, (0 : Int32)))
  else
  (some (μ, (1 : Int32))))
  else
  (f_M_hasRing_h87 K78 me_FU μ v2 (0 : Int32) (0 : Int32))
set_option maxHeartbeats 4000000 in
set_option maxRecDepth 100000 in
theorem z_M_hasRing_b78 {X : me_X} {B : me_B} {tq : Nat} (hJ0 : me_J B) (hT0 : B.2.1 95 = 0) {sz : Nat} (C : me_C X (me_tb B tq) RX12 cX12_hasRing 8 (some .boolean)) {μ : me_M} {v2 : Int32} {v3 : Int32}  {K78 : me_M → Int32 → Int32 → Option (me_M × Int32)} {r : me_M × Int32} (N : me_En X B sz (B, r.1, .ok (some (me_i r.2))) 5 126 1 64) (hNx : me_Nx X) (hB : me_St (me_tb B tq)) (hK78 : ∀ (μ : me_M) (v2 : Int32) (v3 : Int32), K78 μ v2 v3 = some r → me_Z X (me_tb B tq) 1 64 μ 78 [(0, me_r 36 0), (1, me_r 95 0), (2, me_i v2), (3, me_i v3)] [])  (hf : f_M_hasRing_b78 K78 μ v2 v3 = some r) : me_Z X (me_tb B tq) 1 64 μ 78 [(0, me_r 36 0), (1, me_r 95 0), (2, me_i v2), (3, me_i v3)] [] := by
  unfold f_M_hasRing_b78 at hf
  refine me_iload_n C 3 dX12_hasRing_78 rfl rfl ?_
  refine me_if_eq C (tgt := 207) dX12_hasRing_79 (by decide) (fun c1 => ?_) (fun c1 => ?_)
  · replace hf := me_ip c1 hf
    refine me_iload_n C 2 dX12_hasRing_207 rfl rfl ?_
    refine me_if_le C (tgt := 215) dX12_hasRing_208 (by decide) (fun c2 => ?_) (fun c2 => ?_)
    · replace hf := me_ip c2 hf
      refine me_iconst C (v := 0) dX12_hasRing_215 (by decide) ?_
      refine me_dropI [] [] rfl ?_
      refine me_shrT hJ0 hT0 ?_
      exact me_iret C.ub N dX12_hasRing_216 (by decide +kernel) (by cases hf; rfl) (by decide) (by decide)
    · replace hf := me_in c2 hf
      refine me_iconst C (v := 1) dX12_hasRing_211 (by decide) ?_
      refine me_goto C (tgt := 216) dX12_hasRing_212 (by decide) ?_
      refine me_dropI [] [] rfl ?_
      refine me_shrT hJ0 hT0 ?_
      exact me_iret C.ub N dX12_hasRing_216 (by decide +kernel) (by cases hf; rfl) (by decide) (by decide)
  · replace hf := me_in c1 hf
    refine me_iconst C (v := 0) dX12_hasRing_82 (by decide) ?_
    refine me_istore_n C 3 dX12_hasRing_83 rfl (by decide) (L' := [(3, me_i (0 : Int32)), (0, me_r 36 0), (1, me_r 95 0), (2, me_i v2)]) rfl ?_
    refine me_iconst C (v := 0) dX12_hasRing_84 (by decide) ?_
    refine me_istore C dX12_hasRing_85 (by decide) (L' := [(4, me_i (0 : Int32)), (3, me_i (0 : Int32)), (0, me_r 36 0), (1, me_r 95 0), (2, me_i v2)]) rfl ?_
    refine me_dropI [(0, me_r 36 0), (1, me_r 95 0), (2, me_i v2), (3, me_i (0 : Int32)), (4, me_i (0 : Int32))] [2, 3, 4, 1, 0] rfl ?_
    exact z_M_hasRing_h87 hJ0 hT0 C N hNx hB hK78 me_FU μ v2 (0 : Int32) (0 : Int32) hf
def f_M_hasRing_h78  : Nat → me_M → Int32 → Int32 → Option (me_M × Int32)
  | 0, _, _, _ => none
  | n + 1, μ, v2, v3 => f_M_hasRing_b78 (f_M_hasRing_h78 n) μ v2 v3
set_option maxHeartbeats 4000000 in
set_option maxRecDepth 100000 in
theorem z_M_hasRing_h78 {X : me_X} {B : me_B} {tq : Nat} (hJ0 : me_J B) (hT0 : B.2.1 95 = 0) {sz : Nat} (C : me_C X (me_tb B tq) RX12 cX12_hasRing 8 (some .boolean))  {r : me_M × Int32} (N : me_En X B sz (B, r.1, .ok (some (me_i r.2))) 5 126 1 64) (hNx : me_Nx X) (hB : me_St (me_tb B tq))  : ∀ (n : Nat) (μ : me_M) (v2 : Int32) (v3 : Int32), f_M_hasRing_h78 n μ v2 v3 = some r → me_Z X (me_tb B tq) 1 64 μ 78 [(0, me_r 36 0), (1, me_r 95 0), (2, me_i v2), (3, me_i v3)] [] := by
  intro n
  induction n with
  | zero => intro μ v2 v3  h; exact absurd (show (none : Option (me_M × Int32)) = some r from h) (fun q => by cases q)
  | succ n ih => intro μ v2 v3  h; exact z_M_hasRing_b78 hJ0 hT0 C N hNx hB  (K78 := f_M_hasRing_h78 n) ih  h
def f_M_hasRing_b14 (K14 : me_M → Int32 → Int32 → Option (me_M × Int32)) (μ : me_M) (v2 : Int32) (v3 : Int32) : Option (me_M × Int32) :=
  me_bd (f_M_nodes μ) (fun r1 =>
  if r1 ≤ v3 then
  (f_M_hasRing_h78 me_FU μ v2 (1 : Int32))
  else
  (f_M_hasRing_h25 K14 me_FU μ v2 v3 (0 : Int32)))
set_option maxHeartbeats 4000000 in
set_option maxRecDepth 100000 in
theorem z_M_hasRing_b14 {X : me_X} {B : me_B} {tq : Nat} (hJ0 : me_J B) (hT0 : B.2.1 95 = 0) {sz : Nat} (C : me_C X (me_tb B tq) RX12 cX12_hasRing 8 (some .boolean)) {μ : me_M} {v2 : Int32} {v3 : Int32}  {K14 : me_M → Int32 → Int32 → Option (me_M × Int32)} {r : me_M × Int32} (N : me_En X B sz (B, r.1, .ok (some (me_i r.2))) 5 126 1 64) (hNx : me_Nx X) (hB : me_St (me_tb B tq)) (hK14 : ∀ (μ : me_M) (v2 : Int32) (v3 : Int32), K14 μ v2 v3 = some r → me_Z X (me_tb B tq) 1 64 μ 14 [(0, me_r 36 0), (1, me_r 95 0), (2, me_i v2), (3, me_i v3)] [])  (hf : f_M_hasRing_b14 K14 μ v2 v3 = some r) : me_Z X (me_tb B tq) 1 64 μ 14 [(0, me_r 36 0), (1, me_r 95 0), (2, me_i v2), (3, me_i v3)] [] := by
  unfold f_M_hasRing_b14 at hf
  refine me_iload_n C 3 dX12_hasRing_14 rfl rfl ?_
  refine me_aload_n C 0 (Or.inr (Or.inl ⟨_, rfl⟩)) dX12_hasRing_15 rfl rfl ?_
  obtain ⟨r1, h_r1, hf⟩ := me_bs hf
  refine me_callV C N  (As := []) (st := [me_i v3]) 1 64 (c_M_nodes hB h_r1) mv_M_nodes ml_M_144 rfl rfl dX12_hasRing_16 rfl rfl ⟨by decide, by decide⟩ ⟨by decide, by decide, by decide, by decide⟩ (Nat.le_of_ble_eq_true rfl) ?_
  refine me_icmp_ge C (tgt := 76) dX12_hasRing_19 (by decide) (fun c2 => ?_) (fun c2 => ?_)
  · replace hf := me_ip c2 hf
    refine me_iconst C (v := 1) dX12_hasRing_76 (by decide) ?_
    refine me_istore_n C 3 dX12_hasRing_77 rfl (by decide) (L' := [(3, me_i (1 : Int32)), (0, me_r 36 0), (1, me_r 95 0), (2, me_i v2)]) rfl ?_
    refine me_dropI [(0, me_r 36 0), (1, me_r 95 0), (2, me_i v2), (3, me_i (1 : Int32))] [1, 2, 3, 0] rfl ?_
    exact z_M_hasRing_h78 hJ0 hT0 C N hNx hB me_FU μ v2 (1 : Int32) hf
  · replace hf := me_in c2 hf
    refine me_iconst C (v := 0) dX12_hasRing_22 (by decide) ?_
    refine me_istore C dX12_hasRing_23 (by decide) (L' := [(4, me_i (0 : Int32)), (0, me_r 36 0), (1, me_r 95 0), (2, me_i v2), (3, me_i v3)]) rfl ?_
    refine me_dropI [(0, me_r 36 0), (1, me_r 95 0), (2, me_i v2), (3, me_i v3), (4, me_i (0 : Int32))] [1, 2, 3, 4, 0] rfl ?_
    exact z_M_hasRing_h25 hJ0 hT0 C N hNx hB hK14 me_FU μ v2 v3 (0 : Int32) hf
def f_M_hasRing_h14  : Nat → me_M → Int32 → Int32 → Option (me_M × Int32)
  | 0, _, _, _ => none
  | n + 1, μ, v2, v3 => f_M_hasRing_b14 (f_M_hasRing_h14 n) μ v2 v3
set_option maxHeartbeats 4000000 in
set_option maxRecDepth 100000 in
theorem z_M_hasRing_h14 {X : me_X} {B : me_B} {tq : Nat} (hJ0 : me_J B) (hT0 : B.2.1 95 = 0) {sz : Nat} (C : me_C X (me_tb B tq) RX12 cX12_hasRing 8 (some .boolean))  {r : me_M × Int32} (N : me_En X B sz (B, r.1, .ok (some (me_i r.2))) 5 126 1 64) (hNx : me_Nx X) (hB : me_St (me_tb B tq))  : ∀ (n : Nat) (μ : me_M) (v2 : Int32) (v3 : Int32), f_M_hasRing_h14 n μ v2 v3 = some r → me_Z X (me_tb B tq) 1 64 μ 14 [(0, me_r 36 0), (1, me_r 95 0), (2, me_i v2), (3, me_i v3)] [] := by
  intro n
  induction n with
  | zero => intro μ v2 v3  h; exact absurd (show (none : Option (me_M × Int32)) = some r from h) (fun q => by cases q)
  | succ n ih => intro μ v2 v3  h; exact z_M_hasRing_b14 hJ0 hT0 C N hNx hB  (K14 := f_M_hasRing_h14 n) ih  h
def f_M_hasRing (μ : me_M) : Option (me_M × Int32) :=
  me_lt (me_up μ 36 0 42 (0 : Int32)) (fun μ1 =>
  me_lt (me_zc μ1 95 0) (fun μ2 =>
  f_M_hasRing_h14 me_FU μ2 (0 : Int32) (0 : Int32)))
set_option maxHeartbeats 4000000 in
set_option maxRecDepth 100000 in
theorem z_M_hasRing {X : me_X} {B : me_B} {sz : Nat} (C : me_C X B RX12 cX12_hasRing 8 (some .boolean)) {μ : me_M}    {r : me_M × Int32} (N : me_En X B sz (B, r.1, .ok (some (me_i r.2))) 5 126 1 64) (hNx : me_Nx X) (hB : me_St B) (hT0 : B.2.1 95 = 0)   (hf : f_M_hasRing μ = some r) : me_Z X B 0 0 μ 0 [(0, me_r 36 0)] [] := by
  unfold f_M_hasRing at hf
  refine me_aload_n C 0 (Or.inr (Or.inl ⟨_, rfl⟩)) dX12_hasRing_0 rfl rfl ?_
  refine me_iconst C (v := 0) dX12_hasRing_1 (by decide) ?_
  obtain ⟨μ1, e_μ1, hf⟩ := me_lts hf
  refine me_puti C 42 fw_M_141 dX12_hasRing_2 rfl (me_nri _) e_μ1 ?_
  refine me_bipush C (v := 64) dX12_hasRing_5 (by decide) ?_
  obtain ⟨μ2, e_μ2, hf⟩ := me_lts hf
  refine me_newT C N hT0 dX12_hasRing_7 ⟨by decide, by decide⟩ e_μ2 (fun tq hJ0 C => ?_)
  have hB := hB.tb (q := tq)
  refine me_astore_n C 1 (Or.inr (Or.inl ⟨_, rfl⟩)) dX12_hasRing_9 rfl (by decide) (L' := [(1, me_r 95 0), (0, me_r 36 0)]) rfl ?_
  refine me_iconst C (v := 0) dX12_hasRing_10 (by decide) ?_
  refine me_istore_n C 2 dX12_hasRing_11 rfl (by decide) (L' := [(2, me_i (0 : Int32)), (1, me_r 95 0), (0, me_r 36 0)]) rfl ?_
  refine me_iconst C (v := 0) dX12_hasRing_12 (by decide) ?_
  refine me_istore_n C 3 dX12_hasRing_13 rfl (by decide) (L' := [(3, me_i (0 : Int32)), (2, me_i (0 : Int32)), (1, me_r 95 0), (0, me_r 36 0)]) rfl ?_
  refine me_dropI [(0, me_r 36 0), (1, me_r 95 0), (2, me_i (0 : Int32)), (3, me_i (0 : Int32))] [3, 2, 1, 0] rfl ?_
  exact z_M_hasRing_h14 hJ0 hT0 C N hNx hB me_FU μ2 (0 : Int32) (0 : Int32) hf
theorem c_M_hasRing {B : me_B} (hB : me_St B) (hT0 : B.2.1 95 = 0) {μ : me_M}  {μ' : me_M} {r : Int32}  (hf : f_M_hasRing μ = some (μ', r)) : ∀ l E z, l.stackTraces = false → me_Met l yX12_hasRing cX12_hasRing 8 (some .boolean) 5 126 1 64 E B μ z [me_r 36 0] (B, μ', .ok (some (me_i r))) :=
  fun _ _ _ hl => me_ofZ hl (by decide +kernel) (Nat.le_of_ble_eq_true rfl) (fun _ C N hNx => z_M_hasRing C N hNx hB hT0  hf)
