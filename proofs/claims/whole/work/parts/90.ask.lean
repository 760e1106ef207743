/-! ask, multicast -/
theorem t_2 {T : Nat} {a : me_S} {μ : me_M} {o : Int64 × UInt64} {s1 s2 s3 s4 s5 : Int32} (hR : me_R T a μ) : ∃ μ' o' a', f_case_2 μ o s1 s2 s3 s4 s5 = some (μ', o') ∧ me_R T a' μ' := by
  obtain ⟨hC, hM, hI, hbt, hT, hwk⟩ := id hR
  have hwh := hI.wh
  have hnp := hI.n200
  have hD : me_Dd a a μ := ⟨hC, hM, hwk⟩
  have key : ∀ b : Int32, b = 0 ∨ b = 1 → ∃ μ' o' a', me_b2 (f_L_ask μ o s1 s2 s3 b s5) (fun μ3 r2 => me_b2 (f_M_ask μ3 s1 s2 s3 b s5) (fun μ6 r5 => me_bd (f_M_thrown μ6) (fun r7 => if r7 = (r2.2) then (if (r2.2) = 0 then (if (lg_cmp (r2.1.1) (Int32.toInt64 r5)) = 0 then (some (μ6, r2.1)) else (none)) else (some (μ6, r2.1))) else (none)))) = some (μ', o') ∧ me_R T a' μ' := by
    intro b hb01
    have hnb : vp_nar .boolean b = b := by rcases hb01 with rfl | rfl <;> rfl
    by_cases hb : me_isB s1 (a.w * a.h)
    · by_cases hb2 : me_isB s2 (a.w * a.h)
      · obtain ⟨n, hn, rfl⟩ := hb
        obtain ⟨m, hm, rfl⟩ := hb2
        have e1 := y_nodes_o hC hI hn hm
        have e2 : ∀ μ', me_RM a μ' → f_M_isNoNode μ' (me_N n) = some 0 := fun μ' h => m_node_o h hI hn
        have e3 : ∀ μ', me_RM a μ' → f_M_isNoNode μ' (me_N m) = some 0 := fun μ' h => m_node_o h hI hm
        by_cases hc : me_isRg s3 0 7
        · have e4 : f_Y_needRange μ s3 0 7 = some (.ok ()) := y_range_o (a := 0) (b := 7) (by omega) (by omega) hc
          have e5 : ∀ μ, f_M_isIn μ s3 0 7 = some 1 := fun μ => m_isIn_o (a := 0) (b := 7) (by omega) (by omega) hc
          obtain ⟨pp, hp0, hp7, rfl⟩ := hc
          rcases y_room hC hI (m := 2) (by omega) with ⟨hr, e6⟩ | ⟨hr, e6⟩
          · have e6 : f_Y_needRoom μ 2 = some (.ok ()) := e6
            obtain ⟨μ1, e7, hC1, hf1⟩ := y_makeQ hC (s := n) (g := m) (w := 0) (b := 1) (by omega)
            have e7 : f_Post_make μ 113 (me_N n) (me_N m) 0 1 (me_N a.bt) = some (μ1, me_N a.np) := e7
            have e11 : f_Post_find μ1 (me_N a.np) = some (some a.np) := by
              have hnp1 : μ1 6 0 1 = me_N (a.np + 1) := hC1.np
              unfold f_Post_find
              rw [if_neg (me_N_nneg (by omega)), hnp1, if_neg (by rw [me_N_le (by omega) (by omega)]; omega), if_neg (by rw [me_N_200, me_N_le (by omega) (by omega)]; omega), me_gd_n (by omega) (by omega), me_N_ix (by omega)]
            have D1 := hD.cM hC1 hf1
            have D2 := D1.c (D1.1.w_pl a.np pp) (by decide) (Or.inl (by decide))
            have D3 := D2.c (D2.1.w_ad a.np (if b = 0 then 0 else s5)) (by decide) (Or.inl (by decide))
            have D4 := ((D3.th 0).th 0).th 0
            obtain ⟨μ2, e8, ht2, hM2, hf2⟩ := m_madeQ D4.2.1 (s := n) (g := m) (w := 0) (b := 1) (pp := pp) (fl := b) (mo := s5) (by omega)
            have e8 : f_M_made _ 113 (me_N n) (me_N m) 0 1 = some (μ2, me_N a.np) := e8
            have D5 : me_Dd (gh_mkQ a n m 1 pp (if b = 0 then 0 else s5)) (gh_mkQ a n m 1 pp (if b = 0 then 0 else s5)) _ := D4.mM hM2 (fun k' hk' => by
              funext i j
              rw [me_up_kn (by omega), me_up_kn (by omega), me_up_kn (by omega), hf2 k' hk'])
            have ht3 : μ2 36 0 42 = 0 := ht2.trans me_up_at
            have e9 := m_room ((D3.th 0).th 0).2.1 hI
            have e10 : (2 : Int32) ≤ me_N (200 - (a.np + a.ow)) := by rw [me_N_2, me_N_le (by omega) (by omega)]; omega
            have g1 : ∀ α (k : Option α), me_gd (me_inb (me_N a.np) 200) k = k := fun α k => me_gd_n (by omega) (by omega)
            have g2 : me_ix (me_N a.np) = a.np := me_N_ix (by omega)
            refine ⟨_, (Int32.toInt64 (me_N a.np), o.2), _, ?_, D5.R rfl (gh_ivQ hI (by omega) hn hm (by omega) (by omega)) hbt hT⟩
            rcases hb01 with rfl | rfl
            · simp only [if_true] at D3 e8 e9
              simp [f_L_ask, f_Y_ask, f_Y_ask_b76, f_M_ask, f_M_ask_b22, f_M_ask_b45, f_M_ask_b66, me_bd_s, me_b2_s, me_lt_s, me_oq_n, me_oq_s, me_xb_o, me_xb_e, me_xb2_o, me_xb2_e, me_xm_o, me_xm_e, f_M_thrown, m_th0, m_th1, me_cmp_self, me_up_at, if_true, if_false, me_nr_z, me_nr_o, me_gd_t, me_up_kn, me_up_jn, e1, e2 _ D3.2.1, e3 _ D3.2.1, e4, e5, e6, hC.bt, e7, e11, e8, e9, e10, ht3, g1, g2, hnb]
            · simp only [show ¬ (1 : Int32) = 0 by decide, if_false] at D3 e8 e9
              simp [f_L_ask, f_Y_ask, f_Y_ask_b76, f_M_ask, f_M_ask_b22, f_M_ask_b45, f_M_ask_b66, me_bd_s, me_b2_s, me_lt_s, me_oq_n, me_oq_s, me_xb_o, me_xb_e, me_xb2_o, me_xb2_e, me_xm_o, me_xm_e, f_M_thrown, m_th0, m_th1, me_cmp_self, me_up_at, if_true, if_false, me_nr_z, me_nr_o, me_gd_t, me_up_kn, me_up_jn, e1, e2 _ D3.2.1, e3 _ D3.2.1, e4, e5, e6, hC.bt, e7, e11, e8, e9, e10, ht3, g1, g2, hnb]
          · have e6 : f_Y_needRoom μ 2 = some (.error 3) := e6
            have e9 := m_room ((hR.th 0).th 0).2.1 hI
            have h2 := hI.2.1.ile
            have e10 : ¬ (2 : Int32) ≤ me_N (200 - (a.np + a.ow)) := by rw [me_N_2, me_N_le (by omega) (by omega)]; omega
            refine ⟨_, o, a, ?_, ((hR.th 0).th 0).th 3⟩
            simp [f_L_ask, f_Y_ask, f_M_ask, f_M_ask_b22, f_M_ask_b45, f_M_ask_b66, me_bd_s, me_b2_s, me_lt_s, me_oq_n, me_oq_s, me_xb_o, me_xb_e, me_xb2_o, me_xb2_e, me_xm_o, me_xm_e, f_M_thrown, m_th0, m_th1, me_cmp_self, me_up_at, if_true, if_false, me_nr_z, me_nr_o, me_gd_t, me_up_kn, me_up_jn, e1, e2 _ hM, e3 _ hM, e4, e5, e6, e9, e10]
        · have e4 : f_Y_needRange μ s3 0 7 = some (.error 2) := y_range_n (a := 0) (b := 7) (by omega) (by omega) hc
          have e5 : ∀ μ, f_M_isIn μ s3 0 7 = some 0 := fun μ => m_isIn_n (a := 0) (b := 7) (by omega) (by omega) hc
          refine ⟨_, o, a, ?_, (hR.th 0).th 2⟩
          simp [f_L_ask, f_Y_ask, f_M_ask, f_M_ask_b22, f_M_ask_b45, me_bd_s, me_b2_s, me_lt_s, me_oq_n, me_oq_s, me_xb_o, me_xb_e, me_xb2_o, me_xb2_e, me_xm_o, me_xm_e, f_M_thrown, m_th0, m_th1, me_cmp_self, me_up_at, if_true, if_false, me_nr_z, me_nr_o, me_gd_t, me_up_kn, me_up_jn, e1, e2 _ hM, e3 _ hM, e4, e5]
      · obtain ⟨n, hn, rfl⟩ := hb
        have e1 := y_nodes_n (μ := μ) hC hI (v := me_N n) (u := s2) (fun q => hb2 q.2)
        have e2 := m_node_o hM hI hn
        have e3 := m_node_n hM hI hb2
        refine ⟨_, o, a, ?_, hR.th 1⟩
        simp [f_L_ask, f_Y_ask, f_M_ask, f_M_ask_b17, f_M_ask_b22, me_bd_s, me_b2_s, me_lt_s, me_oq_n, me_oq_s, me_xb_o, me_xb_e, me_xb2_o, me_xb2_e, me_xm_o, me_xm_e, f_M_thrown, m_th0, m_th1, me_cmp_self, me_up_at, if_true, if_false, me_nr_z, me_nr_o, me_gd_t, me_up_kn, me_up_jn, e1, e2, e3]
    · have e1 := y_nodes_n (μ := μ) hC hI (v := s1) (u := s2) (fun q => hb q.1)
      have e2 := m_node_n hM hI hb
      refine ⟨_, o, a, ?_, hR.th 1⟩
      simp [f_L_ask, f_Y_ask, f_M_ask, f_M_ask_b17, f_M_ask_b22, me_bd_s, me_b2_s, me_lt_s, me_oq_n, me_oq_s, me_xb_o, me_xb_e, me_xb2_o, me_xb2_e, me_xm_o, me_xm_e, f_M_thrown, m_th0, m_th1, me_cmp_self, me_up_at, if_true, if_false, me_nr_z, me_nr_o, me_gd_t, me_up_kn, me_up_jn, e1, e2]
  unfold f_case_2
  by_cases h3 : s4 = 0
  · rw [if_pos h3]
    simp only [if_pos h3]
    exact key 0 (Or.inl rfl)
  · rw [if_neg h3]
    simp only [if_neg h3]
    exact key 1 (Or.inr rfl)
