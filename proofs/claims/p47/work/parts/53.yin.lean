/-! THE CONSTRUCTOR OF THE CLASS (printed by gen/ctor2.py) -/
noncomputable def f_Y_init (i0 : Nat) (n : me_Nt) (r : me_Rt) (μ : me_M) : Option (me_Nt × me_Rt × me_M) :=
  me_lt (n_Net (me_np n 1)) (fun n1 =>
  me_lt (me_ru (r_Net (me_np n 1) (me_rn r 1 (n 1)) (n 1)) 0 i0 0 (1, (n 1))) (fun r1 =>
  me_lt (m_Net (me_np n 1) (me_zc μ 1 (n 1)) (n 1)) (fun μ1 =>
  me_b3 (f_Post_init (n1 6) (me_np n1 6) (me_rn r1 6 (n1 6)) (me_zc μ1 6 (n1 6))) (fun no4 ro4 μo4 =>
  me_lt no4 (fun n2 =>
  me_lt (me_ru ro4 0 i0 1 (6, (n1 6))) (fun r2 =>
  me_lt μo4 (fun μ2 =>
  if (me_rn r2 9 (n2 9)) 0 i0 0 = some (1, (n 1)) then (
  me_lt (n_Placing (me_np n2 9)) (fun n3 =>
  me_lt (me_ru (r_Placing (me_np n2 9) (me_rn r2 9 (n2 9)) (n2 9) (n 1)) 0 i0 2 (9, (n2 9))) (fun r3 =>
  me_lt (m_Placing (me_np n2 9) (me_zc μ2 9 (n2 9)) (n2 9)) (fun μ3 =>
  me_lt (me_np n3 12) (fun n4 =>
  me_lt (me_ru (me_rn r3 12 (n3 12)) 0 i0 3 (12, (n3 12))) (fun r4 =>
  me_lt (me_zc μ3 12 (n3 12)) (fun μ4 =>
  me_lt (me_np n4 21) (fun n5 =>
  me_lt (me_ru (me_rn r4 21 (n4 21)) 0 i0 4 (21, (n4 21))) (fun r5 =>
  me_lt (me_zc μ4 21 (n4 21)) (fun μ5 =>
  if (me_rn r5 27 (n5 27)) 0 i0 0 = some (1, (n 1)) then (
  if (me_rn r5 27 (n5 27)) 0 i0 3 = some (12, (n3 12)) then (
  me_lt (n_Ways (me_np n5 27)) (fun n6 =>
  me_lt (me_ru (r_Ways (me_np n5 27) (me_rn r5 27 (n5 27)) (n5 27) (n 1) (n3 12)) 0 i0 5 (27, (n5 27))) (fun r6 =>
  me_lt (m_Ways (me_np n5 27) (me_zc μ5 27 (n5 27)) (n5 27)) (fun μ6 =>
  if (me_rn r6 30 (n6 30)) 0 i0 5 = some (27, (n5 27)) then (
  if (me_rn r6 30 (n6 30)) 0 i0 1 = some (6, (n1 6)) then (
  if (me_rn r6 30 (n6 30)) 0 i0 4 = some (21, (n4 21)) then (
  if (me_rn r6 30 (n6 30)) 27 (n5 27) 0 = some (1, (n 1)) then (
  if (me_rn r6 30 (n6 30)) 27 (n5 27) 1 = some (12, (n3 12)) then (
  me_lt (n_Mover (me_np n6 30)) (fun n7 =>
  me_lt (me_ru (r_Mover (me_np n6 30) (me_rn r6 30 (n6 30)) (n6 30) (n5 27) (n1 6) (n4 21) (n 1) (n3 12)) 0 i0 6 (30, (n6 30))) (fun r7 =>
  me_lt (m_Mover (me_np n6 30) (me_zc μ6 30 (n6 30)) (n6 30)) (fun μ7 =>
  if (me_rn r7 31 (n7 31)) 0 i0 0 = some (1, (n 1)) then (
  if (me_rn r7 31 (n7 31)) 0 i0 1 = some (6, (n1 6)) then (
  if (me_rn r7 31 (n7 31)) 0 i0 4 = some (21, (n4 21)) then (
  me_lt (n_Works (me_np n7 31)) (fun n8 =>
  me_lt (me_ru (r_Works (me_np n7 31) (me_rn r7 31 (n7 31)) (n7 31) (n 1) (n1 6) (n4 21)) 0 i0 7 (31, (n7 31))) (fun r8 =>
  me_lt (m_Works (me_np n7 31) (me_zc μ7 31 (n7 31)) (n7 31)) (fun μ8 =>
  if (me_rn r8 32 (n8 32)) 0 i0 0 = some (1, (n 1)) then (
  if (me_rn r8 32 (n8 32)) 0 i0 3 = some (12, (n3 12)) then (
  me_lt (n_Audit (me_np n8 32)) (fun n9 =>
  me_lt (me_ru (r_Audit (me_np n8 32) (me_rn r8 32 (n8 32)) (n8 32) (n 1) (n3 12)) 0 i0 8 (32, (n8 32))) (fun r9 =>
  me_lt (m_Audit (me_np n8 32) (me_zc μ8 32 (n8 32)) (n8 32)) (fun μ9 =>
  me_lt n9 (fun n10 =>
  me_lt r9 (fun r10 =>
  me_lt μ9 (fun μ10 =>
  me_b3 (f_Y_lp i0 (n3 12) (n4 21) 17 n10 r10 μ10 0) (fun n' r' μ' => me_gP (me_Sn n' r' ∧ i0 = 0) (me_b2 (f_Y_makeAnew μ' 4 4) (fun μ2 _ => some (n', r', μ2))))))))))) else none) else none)))) else none) else none) else none)))) else none) else none) else none) else none) else none)))) else none) else none)))))))))) else none)))))))
set_option maxHeartbeats 4000000 in
set_option maxRecDepth 100000 in
theorem k_Y_init {a : Nat → Nat → Nat} {n : me_Nt} {r : me_Rt} {w : me_w} {μ : me_M} {i0 : Nat} {n' : me_Nt} {r' : me_Rt} {μ' : me_M} (hf : f_Y_init i0 n r μ = some (n', r', μ')) : ∀ l E z, l.stackTraces = false → me_MetK l yX11_init cX11_init 2 8 220 1123 8653 E a n r w μ z [me_r 0 i0] n' r' μ' := by
  intro l E z hl
  refine me_ofK hl (by decide +kernel) rfl (Nat.le_of_ble_eq_true rfl) (fun X C hroom hci K => ?_)
  unfold f_Y_init at hf
  have ag := me_agr.rf (a := a) (n := n)
  refine me_aload_n C 0 (Or.inr (Or.inl ⟨_, rfl⟩)) dX11_init_0 rfl rfl ?_
  refine me_objI C hroom ml_Y_1 oi_i oi_c dX11_init_1 ⟨by decide, by decide⟩ (Nat.le_of_ble_eq_true rfl) ?_
  refine me_aload_n C 0 (Or.inr (Or.inl ⟨_, rfl⟩)) dX11_init_4 rfl rfl ?_
  refine me_newO C hroom (k := 1) (by decide) kc_1 dv_1 cl_Y_7 (me_gm 65 (by decide +kernel) (by decide +kernel)) (me_gm 31 (by decide +kernel) (by decide +kernel)) dX11_init_5 ⟨by omega, by omega⟩ (fun a1 g1 C => ?_)
  replace ag := ag.tr g1
  refine me_dup C rfl dX11_init_8 ?_
  refine me_callKN C hroom hci.ao (As := []) (st := [me_r 1 (n 1), me_r 0 i0]) 5 165 (k_Net_init (i0 := (n 1))) mi_Net_init nl_Y_9 dX11_init_9 rfl rfl ⟨by omega, by omega⟩ ⟨by omega, by omega, by omega, by omega⟩ (Nat.le_of_ble_eq_true rfl) (fun a2 g2 C => ?_)
  replace ag := ag.tr g2
  refine me_putR C hci (j := 0) kc_0 (by decide) (me_gm 482 (by decide +kernel) (by decide +kernel)) rfl rfl rfl rfl dX11_init_12 (fun C => ?_)
  obtain ⟨n1, e_n1, hf⟩ := me_lts hf
  obtain ⟨r1, e_r1, hf⟩ := me_lts hf
  obtain ⟨μ1, e_μ1, hf⟩ := me_lts hf
  refine me_nmK e_n1 e_r1 e_μ1 C ag (fun C ag => ?_)
  refine me_aload_n C 0 (Or.inr (Or.inl ⟨_, rfl⟩)) dX11_init_15 rfl rfl ?_
  refine me_newO C hroom (k := 6) (by decide) kc_6 dv_6 cl_Y_16 (me_gm 97 (by decide +kernel) (by decide +kernel)) (me_gm 32 (by decide +kernel) (by decide +kernel)) dX11_init_16 ⟨by omega, by omega⟩ (fun a3 g3 C => ?_)
  replace ag := ag.tr g3
  refine me_dup C rfl dX11_init_19 ?_
  obtain ⟨no4, ro4, μo4, ho4, hf⟩ := me_bs3 hf
  refine me_callK C hroom hci.ao (As := []) (st := [me_r 6 (n1 6), me_r 0 i0]) 208 3383 (k_Post_init ho4) mi_Post_init ml_Y_18 dX11_init_20 rfl rfl ⟨by omega, by omega⟩ ⟨by omega, by omega, by omega, by omega⟩ (Nat.le_of_ble_eq_true rfl) (fun a4 g4 C => ?_)
  replace ag := ag.tr g4
  refine me_putR C hci (j := 1) kc_0 (by decide) (me_gm 483 (by decide +kernel) (by decide +kernel)) rfl rfl rfl rfl dX11_init_23 (fun C => ?_)
  obtain ⟨n2, e_n2, hf⟩ := me_lts hf
  obtain ⟨r2, e_r2, hf⟩ := me_lts hf
  obtain ⟨μ2, e_μ2, hf⟩ := me_lts hf
  refine me_nmK e_n2 e_r2 e_μ2 C ag (fun C ag => ?_)
  refine me_aload_n C 0 (Or.inr (Or.inl ⟨_, rfl⟩)) dX11_init_26 rfl rfl ?_
  refine me_newO C hroom (k := 9) (by decide) kc_9 dv_9 cl_Y_23 (me_gm 206 (by decide +kernel) (by decide +kernel)) (me_gm 34 (by decide +kernel) (by decide +kernel)) dX11_init_27 ⟨by omega, by omega⟩ (fun a5 g5 C => ?_)
  replace ag := ag.tr g5
  refine me_dup C rfl dX11_init_30 ?_
  refine me_aload_n C 0 (Or.inr (Or.inl ⟨_, rfl⟩)) dX11_init_31 rfl rfl ?_
  by_cases hg1 : (me_rn r2 9 (n2 9)) 0 i0 0 = some (1, (n 1))
  case neg => rw [if_neg hg1] at hf; cases hf
  rw [if_pos hg1] at hf
  refine me_getq C 0 fg_Y_10 dX11_init_32 rfl hg1 ?_
  refine me_callK C hroom hci.ao (As := [me_r 1 (n 1)]) (st := [me_r 9 (n2 9), me_r 0 i0]) 211 3459 (k_Placing_init (i0 := (n2 9))) mi_Placing_init ml_Y_25 dX11_init_35 rfl rfl ⟨by omega, by omega⟩ ⟨by omega, by omega, by omega, by omega⟩ (Nat.le_of_ble_eq_true rfl) (fun a6 g6 C => ?_)
  replace ag := ag.tr g6
  refine me_putR C hci (j := 2) kc_0 (by decide) (me_gm 484 (by decide +kernel) (by decide +kernel)) rfl rfl rfl rfl dX11_init_38 (fun C => ?_)
  obtain ⟨n3, e_n3, hf⟩ := me_lts hf
  obtain ⟨r3, e_r3, hf⟩ := me_lts hf
  obtain ⟨μ3, e_μ3, hf⟩ := me_lts hf
  refine me_nmK e_n3 e_r3 e_μ3 C ag (fun C ag => ?_)
  refine me_aload_n C 0 (Or.inr (Or.inl ⟨_, rfl⟩)) dX11_init_41 rfl rfl ?_
  refine me_bipush C (v := 16) dX11_init_42 (by decide) ?_
  refine me_newQ C hroom (k := 12) (ai := 4) (N := 16) (Cn := "Meshyard$Router") (by decide) rfl (fun _ h => h.2.1) hci cl_Y_32 (fun _ => rfl) (by decide) (by decide) (by decide) dX11_init_44 ⟨by omega, by omega⟩ (fun a7 g7 C => ?_)
  replace ag := ag.tr g7
  refine me_putR C hci (j := 3) kc_0 (by decide) (me_gm 485 (by decide +kernel) (by decide +kernel)) rfl rfl rfl rfl dX11_init_47 (fun C => ?_)
  obtain ⟨n4, e_n4, hf⟩ := me_lts hf
  obtain ⟨r4, e_r4, hf⟩ := me_lts hf
  obtain ⟨μ4, e_μ4, hf⟩ := me_lts hf
  refine me_nmK e_n4 e_r4 e_μ4 C ag (fun C ag => ?_)
  refine me_aload_n C 0 (Or.inr (Or.inl ⟨_, rfl⟩)) dX11_init_50 rfl rfl ?_
  refine me_bipush C (v := 16) dX11_init_51 (by decide) ?_
  refine me_newQ C hroom (k := 21) (ai := 5) (N := 16) (Cn := "Meshyard$Core") (by decide) rfl (fun _ h => h.2.2.1) hci cl_Y_38 (fun _ => rfl) (by decide) (by decide) (by decide) dX11_init_53 ⟨by omega, by omega⟩ (fun a8 g8 C => ?_)
  replace ag := ag.tr g8
  refine me_putR C hci (j := 4) kc_0 (by decide) (me_gm 486 (by decide +kernel) (by decide +kernel)) rfl rfl rfl rfl dX11_init_56 (fun C => ?_)
  obtain ⟨n5, e_n5, hf⟩ := me_lts hf
  obtain ⟨r5, e_r5, hf⟩ := me_lts hf
  obtain ⟨μ5, e_μ5, hf⟩ := me_lts hf
  refine me_nmK e_n5 e_r5 e_μ5 C ag (fun C ag => ?_)
  refine me_aload_n C 0 (Or.inr (Or.inl ⟨_, rfl⟩)) dX11_init_59 rfl rfl ?_
  refine me_newO C hroom (k := 27) (by decide) kc_27 dv_27 cl_Y_44 (me_gm 229 (by decide +kernel) (by decide +kernel)) (me_gm 35 (by decide +kernel) (by decide +kernel)) dX11_init_60 ⟨by omega, by omega⟩ (fun a9 g9 C => ?_)
  replace ag := ag.tr g9
  refine me_dup C rfl dX11_init_63 ?_
  refine me_aload_n C 0 (Or.inr (Or.inl ⟨_, rfl⟩)) dX11_init_64 rfl rfl ?_
  by_cases hg2 : (me_rn r5 27 (n5 27)) 0 i0 0 = some (1, (n 1))
  case neg => rw [if_neg hg2] at hf; cases hf
  rw [if_pos hg2] at hf
  refine me_getq C 0 fg_Y_10 dX11_init_65 rfl hg2 ?_
  refine me_aload_n C 0 (Or.inr (Or.inl ⟨_, rfl⟩)) dX11_init_68 rfl rfl ?_
  by_cases hg3 : (me_rn r5 27 (n5 27)) 0 i0 3 = some (12, (n3 12))
  case neg => rw [if_neg hg3] at hf; cases hf
  rw [if_pos hg3] at hf
  refine me_getq C 3 fg_Y_34 dX11_init_69 rfl hg3 ?_
  refine me_callK C hroom hci.ao (As := [me_r 1 (n 1), me_r 12 (n3 12)]) (st := [me_r 27 (n5 27), me_r 0 i0]) 216 3624 (k_Ways_init (i0 := (n5 27))) mi_Ways_init ml_Y_46 dX11_init_72 rfl rfl ⟨by omega, by omega⟩ ⟨by omega, by omega, by omega, by omega⟩ (Nat.le_of_ble_eq_true rfl) (fun a10 g10 C => ?_)
  replace ag := ag.tr g10
  refine me_putR C hci (j := 5) kc_0 (by decide) (me_gm 487 (by decide +kernel) (by decide +kernel)) rfl rfl rfl rfl dX11_init_75 (fun C => ?_)
  obtain ⟨n6, e_n6, hf⟩ := me_lts hf
  obtain ⟨r6, e_r6, hf⟩ := me_lts hf
  obtain ⟨μ6, e_μ6, hf⟩ := me_lts hf
  refine me_nmK e_n6 e_r6 e_μ6 C ag (fun C ag => ?_)
  refine me_aload_n C 0 (Or.inr (Or.inl ⟨_, rfl⟩)) dX11_init_78 rfl rfl ?_
  refine me_newO C hroom (k := 30) (by decide) kc_30 dv_30 cl_Y_53 (me_gm 254 (by decide +kernel) (by decide +kernel)) (me_gm 36 (by decide +kernel) (by decide +kernel)) dX11_init_79 ⟨by omega, by omega⟩ (fun a11 g11 C => ?_)
  replace ag := ag.tr g11
  refine me_dup C rfl dX11_init_82 ?_
  refine me_aload_n C 0 (Or.inr (Or.inl ⟨_, rfl⟩)) dX11_init_83 rfl rfl ?_
  by_cases hg4 : (me_rn r6 30 (n6 30)) 0 i0 5 = some (27, (n5 27))
  case neg => rw [if_neg hg4] at hf; cases hf
  rw [if_pos hg4] at hf
  refine me_getq C 5 fg_Y_49 dX11_init_84 rfl hg4 ?_
  refine me_aload_n C 0 (Or.inr (Or.inl ⟨_, rfl⟩)) dX11_init_87 rfl rfl ?_
  by_cases hg5 : (me_rn r6 30 (n6 30)) 0 i0 1 = some (6, (n1 6))
  case neg => rw [if_neg hg5] at hf; cases hf
  rw [if_pos hg5] at hf
  refine me_getq C 1 fg_Y_19 dX11_init_88 rfl hg5 ?_
  refine me_aload_n C 0 (Or.inr (Or.inl ⟨_, rfl⟩)) dX11_init_91 rfl rfl ?_
  by_cases hg6 : (me_rn r6 30 (n6 30)) 0 i0 4 = some (21, (n4 21))
  case neg => rw [if_neg hg6] at hf; cases hf
  rw [if_pos hg6] at hf
  refine me_getq C 4 fg_Y_40 dX11_init_92 rfl hg6 ?_
  by_cases hm1 : (me_rn r6 30 (n6 30)) 27 (n5 27) 0 = some (1, (n 1))
  case neg => rw [if_neg hm1] at hf; cases hf
  rw [if_pos hm1] at hf
  by_cases hm2 : (me_rn r6 30 (n6 30)) 27 (n5 27) 1 = some (12, (n3 12))
  case neg => rw [if_neg hm2] at hf; cases hf
  rw [if_pos hm2] at hf
  refine me_callK C hroom hci.ao (As := [me_r 27 (n5 27), me_r 6 (n1 6), me_r 21 (n4 21)]) (st := [me_r 30 (n6 30), me_r 0 i0]) 217 3632 (k_Mover_init (i0 := (n6 30)) hm1 hm2) mi_Mover_init ml_Y_55 dX11_init_95 rfl rfl ⟨by omega, by omega⟩ ⟨by omega, by omega, by omega, by omega⟩ (Nat.le_of_ble_eq_true rfl) (fun a12 g12 C => ?_)
  replace ag := ag.tr g12
  refine me_putR C hci (j := 6) kc_0 (by decide) (me_gm 488 (by decide +kernel) (by decide +kernel)) rfl rfl rfl rfl dX11_init_98 (fun C => ?_)
  obtain ⟨n7, e_n7, hf⟩ := me_lts hf
  obtain ⟨r7, e_r7, hf⟩ := me_lts hf
  obtain ⟨μ7, e_μ7, hf⟩ := me_lts hf
  refine me_nmK e_n7 e_r7 e_μ7 C ag (fun C ag => ?_)
  refine me_aload_n C 0 (Or.inr (Or.inl ⟨_, rfl⟩)) dX11_init_101 rfl rfl ?_
  refine me_newO C hroom (k := 31) (by decide) kc_31 dv_31 cl_Y_62 (me_gm 287 (by decide +kernel) (by decide +kernel)) (me_gm 37 (by decide +kernel) (by decide +kernel)) dX11_init_102 ⟨by omega, by omega⟩ (fun a13 g13 C => ?_)
  replace ag := ag.tr g13
  refine me_dup C rfl dX11_init_105 ?_
  refine me_aload_n C 0 (Or.inr (Or.inl ⟨_, rfl⟩)) dX11_init_106 rfl rfl ?_
  by_cases hg7 : (me_rn r7 31 (n7 31)) 0 i0 0 = some (1, (n 1))
  case neg => rw [if_neg hg7] at hf; cases hf
  rw [if_pos hg7] at hf
  refine me_getq C 0 fg_Y_10 dX11_init_107 rfl hg7 ?_
  refine me_aload_n C 0 (Or.inr (Or.inl ⟨_, rfl⟩)) dX11_init_110 rfl rfl ?_
  by_cases hg8 : (me_rn r7 31 (n7 31)) 0 i0 1 = some (6, (n1 6))
  case neg => rw [if_neg hg8] at hf; cases hf
  rw [if_pos hg8] at hf
  refine me_getq C 1 fg_Y_19 dX11_init_111 rfl hg8 ?_
  refine me_aload_n C 0 (Or.inr (Or.inl ⟨_, rfl⟩)) dX11_init_114 rfl rfl ?_
  by_cases hg9 : (me_rn r7 31 (n7 31)) 0 i0 4 = some (21, (n4 21))
  case neg => rw [if_neg hg9] at hf; cases hf
  rw [if_pos hg9] at hf
  refine me_getq C 4 fg_Y_40 dX11_init_115 rfl hg9 ?_
  refine me_callK C hroom hci.ao (As := [me_r 1 (n 1), me_r 6 (n1 6), me_r 21 (n4 21)]) (st := [me_r 31 (n7 31), me_r 0 i0]) 218 3635 (k_Works_init (i0 := (n7 31))) mi_Works_init ml_Y_64 dX11_init_118 rfl rfl ⟨by omega, by omega⟩ ⟨by omega, by omega, by omega, by omega⟩ (Nat.le_of_ble_eq_true rfl) (fun a14 g14 C => ?_)
  replace ag := ag.tr g14
  refine me_putR C hci (j := 7) kc_0 (by decide) (me_gm 489 (by decide +kernel) (by decide +kernel)) rfl rfl rfl rfl dX11_init_121 (fun C => ?_)
  obtain ⟨n8, e_n8, hf⟩ := me_lts hf
  obtain ⟨r8, e_r8, hf⟩ := me_lts hf
  obtain ⟨μ8, e_μ8, hf⟩ := me_lts hf
  refine me_nmK e_n8 e_r8 e_μ8 C ag (fun C ag => ?_)
  refine me_aload_n C 0 (Or.inr (Or.inl ⟨_, rfl⟩)) dX11_init_124 rfl rfl ?_
  refine me_newO C hroom (k := 32) (by decide) kc_32 dv_32 cl_Y_71 (me_gm 303 (by decide +kernel) (by decide +kernel)) (me_gm 38 (by decide +kernel) (by decide +kernel)) dX11_init_125 ⟨by omega, by omega⟩ (fun a15 g15 C => ?_)
  replace ag := ag.tr g15
  refine me_dup C rfl dX11_init_128 ?_
  refine me_aload_n C 0 (Or.inr (Or.inl ⟨_, rfl⟩)) dX11_init_129 rfl rfl ?_
  by_cases hg10 : (me_rn r8 32 (n8 32)) 0 i0 0 = some (1, (n 1))
  case neg => rw [if_neg hg10] at hf; cases hf
  rw [if_pos hg10] at hf
  refine me_getq C 0 fg_Y_10 dX11_init_130 rfl hg10 ?_
  refine me_aload_n C 0 (Or.inr (Or.inl ⟨_, rfl⟩)) dX11_init_133 rfl rfl ?_
  by_cases hg11 : (me_rn r8 32 (n8 32)) 0 i0 3 = some (12, (n3 12))
  case neg => rw [if_neg hg11] at hf; cases hf
  rw [if_pos hg11] at hf
  refine me_getq C 3 fg_Y_34 dX11_init_134 rfl hg11 ?_
  refine me_callK C hroom hci.ao (As := [me_r 1 (n 1), me_r 12 (n3 12)]) (st := [me_r 32 (n8 32), me_r 0 i0]) 222 3655 (k_Audit_init (i0 := (n8 32))) mi_Audit_init ml_Y_73 dX11_init_137 rfl rfl ⟨by omega, by omega⟩ ⟨by omega, by omega, by omega, by omega⟩ (Nat.le_of_ble_eq_true rfl) (fun a16 g16 C => ?_)
  replace ag := ag.tr g16
  refine me_putR C hci (j := 8) kc_0 (by decide) (me_gm 490 (by decide +kernel) (by decide +kernel)) rfl rfl rfl rfl dX11_init_140 (fun C => ?_)
  obtain ⟨n9, e_n9, hf⟩ := me_lts hf
  obtain ⟨r9, e_r9, hf⟩ := me_lts hf
  obtain ⟨μ9, e_μ9, hf⟩ := me_lts hf
  refine me_nmK e_n9 e_r9 e_μ9 C ag (fun C ag => ?_)
  refine me_iconst C (v := 0) dX11_init_143 (by decide) ?_
  refine me_istore_n C 1 dX11_init_144 rfl (by decide) (L' := [(1, me_i 0), (0, me_r 0 i0)]) rfl ?_
  obtain ⟨n10, e_n10, hf⟩ := me_lts hf
  obtain ⟨r10, e_r10, hf⟩ := me_lts hf
  obtain ⟨μ10, e_μ10, hf⟩ := me_lts hf
  refine me_nmK e_n10 e_r10 e_μ10 C ag (fun C ag => ?_)
  obtain ⟨nA, rA, μA, hlp, hf⟩ := me_bs3 hf
  obtain ⟨⟨hSn, hi0⟩, hf2⟩ := me_gPs hf
  clear hf
  subst hi0
  obtain ⟨μB, rB, hmk, hf3⟩ := me_bs2 hf2
  cases hf3
  refine me_dropI [(0, me_r 0 0), (1, me_i 0)] [1, 0] rfl ?_
  refine z_Y_lp hroom hci ⟨by decide, by decide⟩ (mc := 1123) (ms := 8653) (fun a1 nc ns x hnc hns C ag => ?_) 17 _ _ _ _ 0 222 3655 (by decide) (by decide) C ag hlp
  refine me_aload_n C 0 (Or.inr (Or.inl ⟨_, rfl⟩)) dX11_init_183 rfl rfl ?_
  refine me_iconst C (v := 4) dX11_init_184 (by decide) ?_
  refine me_iconst C (v := 4) dX11_init_185 (by decide) ?_
  refine me_callVR0 C hroom (As := [me_i 4, me_i 4]) (st := []) (nc + 0) (ns + 0) (c_Y_makeAnew (B := (a1, n', r', w)) hSn hmk) mv_Y_makeAnew ml_Y_80 rfl rfl dX11_init_186 rfl rfl ⟨by decide, by decide⟩ ⟨by omega, by omega, by omega, by omega⟩ (Nat.le_of_ble_eq_true rfl) ?_
  exact me_vretK C K ag dX11_init_189 (by omega) (by omega)
