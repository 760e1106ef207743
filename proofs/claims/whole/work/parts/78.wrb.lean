/-! TASKS, PROGRAMS -/
theorem t_35 {T : Nat} {a : me_S} {μ : me_M} {o : Int64 × UInt64} {s1 s2 s3 s4 s5 : Int32} (hR : me_R T a μ) : ∃ μ' o' a', f_case_35 μ o s1 s2 s3 s4 s5 = some (μ', o') ∧ me_R T a' μ' := by
  obtain ⟨hC, hM, hI, hbt, hT, hwk⟩ := id hR
  have hwh := hI.wh
  have hnp := hI.n200
  have hD : me_Dd a a μ := ⟨hC, hM, hwk⟩
  by_cases hb : me_isB s1 (a.w * a.h)
  · obtain ⟨n, hn, rfl⟩ := hb
    have g1 : ∀ α (k : Option α), me_gd (me_inb (me_N n) 16) k = k := fun α k => me_gd_n (by omega) (by omega)
    have g2 : me_ix (me_N n) = n := me_N_ix (by omega)
    have h16 : n < 16 := by omega
    have e1 := y_node_o hC hI hn
    have e2 : ∀ μ', me_RM a μ' → f_M_isNoNode μ' (me_N n) = some 0 := fun μ' h => m_node_o h hI hn
    have hM2 := (hR.th 0).2.1
    have hnt := hI.2.2.2.1.int
    by_cases hx : a.nt = 8
    · have g3 : ¬ me_N (a.nt) < 8 := by rw [me_N_8, me_N_lt (by omega) (by omega)]; omega
      have g4 : me_N a.nt = 8 := by rw [hx]; rfl
      refine ⟨_, o, a, ?_, ((hR.th 0).th 2)⟩
      simp [f_case_35, f_L_task, f_Y_task, f_M_task, f_M_task_b28, me_bd_s, me_b2_s, me_lt_s, me_oq_n, me_oq_s, me_xb_o, me_xb_e, me_xb2_o, me_xb2_e, me_xm_o, me_xm_e, f_M_thrown, m_th0, m_th1, me_cmp_self, me_up_at, if_true, if_false, me_nr_z, me_nr_o, me_gd_t, me_up_kn, me_up_jn, e1, e2 _ hM, hC.nt, hM.nt, g3, g4]
    · have g3 : me_N (a.nt) < 8 := by rw [me_N_8, me_N_lt (by omega) (by omega)]; omega
      have g4 : ¬ me_N a.nt = 8 := by rw [me_N_8, me_N_inj (by omega) (by omega)]; exact hx
      have g5 : ∀ α (k : Option α), me_gd (me_inb (me_N a.nt) 8) k = k := fun α k => me_gd_n (by omega) (by omega)
      have g6 : me_ix (me_N a.nt) = a.nt := me_N_ix (by omega)
      have g7 : me_N a.nt + 1 = me_N (a.nt + 1) := by rw [me_N_1, me_N_add]
      have g8 : me_N (a.nt + 1) - 1 = me_N a.nt := by rw [me_N_1, me_N_sub (by omega)]; rfl
      have D1 := hD.c (hC.w_tn a.nt n) (by decide) (Or.inl (by decide))
      have D2 := D1.c (D1.1.w_nt (a.nt + 1) (fun i hi => by
        rw [me_up_ap]
        show _ = me_N (me_fu a.tn a.nt n i)
        by_cases e : i = a.nt
        · rw [if_pos ⟨rfl, rfl, e⟩, e, me_fu_at]
        · rw [if_neg (fun q => e q.2.2), me_fu_ne e]; exact hC.tn i (by omega))) (by decide) (Or.inl (by decide))
      have D4 := (D2.th 0).th 0
      have D5 := D4.m (D4.2.1.w_tn a.nt n) (by decide)
      have D6 := D5.m (D5.2.1.w_nt (a.nt + 1) (fun i hi => by
        show me_up _ 92 0 a.nt (me_N n) 92 0 i = me_N (me_fu a.tn a.nt n i)
        rw [me_up_ap]
        by_cases e : i = a.nt
        · rw [if_pos ⟨rfl, rfl, e⟩, e, me_fu_at]
        · rw [if_neg (fun q => e q.2.2), me_fu_ne e]; exact D4.2.1.tn i (by show i < a.nt; omega))) (by decide)
      have ht := hI.2.2.2.1
      have hI2 : me_Iv ((a.s_tn (me_fu a.tn a.nt n)).s_nt (a.nt + 1)) := ⟨hI.1, hI.2.1, hI.2.2.1, me_IT.mk (by show a.nt + 1 ≤ 8; omega) (fun i hi => by
        replace hi : i < a.nt + 1 := hi
        show me_fu a.tn a.nt n i < a.w * a.h
        rw [me_fu_ap]
        split
        · exact hn
        · exact ht.itn i (by omega)) ht.isy ht.ile, hI.2.2.2.2⟩
      refine ⟨_, (Int32.toInt64 (me_N a.nt), o.2), _, ?_, D6.R rfl hI2 hbt hT⟩
      simp [f_case_35, f_L_task, f_Y_task, f_Placing_addTask, f_M_task, f_M_task_b28, me_bd_s, me_b2_s, me_lt_s, me_oq_n, me_oq_s, me_xb_o, me_xb_e, me_xb2_o, me_xb2_e, me_xm_o, me_xm_e, f_M_thrown, m_th0, m_th1, me_cmp_self, me_up_at, if_true, if_false, me_nr_z, me_nr_o, me_gd_t, me_up_kn, me_up_jn, e1, e2 _ D2.2.1, hC.nt, hM.nt, g3, g4, g5, g6, g7, g8]
  · have e1 := y_node_n hC hI hb
    have e2 := m_node_n hM hI hb
    refine ⟨_, o, a, ?_, hR.th 1⟩
    simp [f_case_35, f_L_task, f_Y_task, f_M_task, me_bd_s, me_b2_s, me_lt_s, me_oq_n, me_oq_s, me_xb_o, me_xb_e, me_xb2_o, me_xb2_e, me_xm_o, me_xm_e, f_M_thrown, m_th0, m_th1, me_cmp_self, me_up_at, if_true, if_false, me_nr_z, me_nr_o, me_gd_t, me_up_kn, me_up_jn, e1, e2]
theorem t_36 {T : Nat} {a : me_S} {μ : me_M} {o : Int64 × UInt64} {s1 s2 s3 s4 s5 : Int32} (hR : me_R T a μ) : ∃ μ' o' a', f_case_36 μ o s1 s2 s3 s4 s5 = some (μ', o') ∧ me_R T a' μ' := by
  obtain ⟨hC, hM, hI, hbt, hT, hwk⟩ := id hR
  have hwh := hI.wh
  have hnp := hI.n200
  have hD : me_Dd a a μ := ⟨hC, hM, hwk⟩
  have hnt := hI.2.2.2.1.int
  have ht := hI.2.2.2.1
  by_cases hb : me_isB s1 a.nt
  · by_cases hb2 : me_isB s2 a.nt
    · obtain ⟨n, hn, rfl⟩ := hb
      obtain ⟨m, hm, rfl⟩ := hb2
      have e1 := y_task_o hC hI hn
      have e2 := y_task_o hC hI hm
      have e3 : ∀ μ', me_RM a μ' → f_M_isNoTask μ' (me_N n) = some 0 := fun μ' h => m_task_o h hI hn
      have e4 : ∀ μ', me_RM a μ' → f_M_isNoTask μ' (me_N m) = some 0 := fun μ' h => m_task_o h hI hm
      by_cases hnm : n = m
      · subst hnm
        refine ⟨_, o, a, ?_, ((hR.th 0).th 2)⟩
        simp [f_case_36, f_L_traffic, f_Y_traffic, f_M_traffic, f_M_traffic_b22, f_M_traffic_b45, f_M_traffic_b50, me_bd_s, me_b2_s, me_lt_s, me_oq_n, me_oq_s, me_xb_o, me_xb_e, me_xb2_o, me_xb2_e, me_xm_o, me_xm_e, f_M_thrown, m_th0, m_th1, me_cmp_self, me_up_at, if_true, if_false, me_nr_z, me_nr_o, me_gd_t, me_up_kn, me_up_jn, e1, e3 _ hM]
      · have g0 : ¬ me_N n = me_N m := by rw [me_N_inj (by omega) (by omega)]; exact hnm
        by_cases hc : me_isRg s3 0 99
        · have e5 : f_Y_needRange μ s3 0 99 = some (.ok ()) := y_range_o (a := 0) (b := 99) (by omega) (by omega) hc
          have e6 : ∀ μ, f_M_isIn μ s3 0 99 = some 1 := fun μ => m_isIn_o (a := 0) (b := 99) (by omega) (by omega) hc
          obtain ⟨v, hv0, hv, rfl⟩ := hc
          have g1 : me_N n * 8 + me_N m = me_N (n * 8 + m) := by rw [me_N_8, me_N_mul, me_N_add]
          have g2 : me_N m * 8 + me_N n = me_N (m * 8 + n) := by rw [me_N_8, me_N_mul, me_N_add]
          have g3 : ∀ α (k : Option α), me_gd (me_inb (me_N (n * 8 + m)) 64) k = k := fun α k => me_gd_n (by omega) (by omega)
          have g4 : ∀ α (k : Option α), me_gd (me_inb (me_N (m * 8 + n)) 64) k = k := fun α k => me_gd_n (by omega) (by omega)
          have g5 : me_ix (me_N (n * 8 + m)) = n * 8 + m := me_N_ix (by omega)
          have g6 : me_ix (me_N (m * 8 + n)) = m * 8 + n := me_N_ix (by omega)
          have g7 : ∀ α (k : Option α), me_gd (me_inb (me_N n) 8) k = k := fun α k => me_gd_n (by omega) (by omega)
          have g8 : ∀ α (k : Option α), me_gd (me_inb (me_N m) 8) k = k := fun α k => me_gd_n (by omega) (by omega)
          have g9 : me_ix (me_N n) = n := me_N_ix (by omega)
          have g10 : me_ix (me_N m) = m := me_N_ix (by omega)
          have D1 := hD.c (hC.w_tr n m v (by omega) (by omega)) (by decide) (Or.inl (by decide))
          have D2 := D1.c (D1.1.w_tr m n v (by omega) (by omega)) (by decide) (Or.inl (by decide))
          have D4 := (D2.th 0).th 0
          have D5 := D4.m (D4.2.1.w_tr n m v) (by decide)
          have D6 := D5.m (D5.2.1.w_tr m n v) (by decide)
          have hI2 : me_Iv ((a.s_tr (me_fu2 a.tr n m v)).s_tr (me_fu2 (me_fu2 a.tr n m v) m n v)) := ⟨hI.1, hI.2.1, hI.2.2.1, me_IT.mk ht.int ht.itn (fun i j => by
            show me_fu2 (me_fu2 a.tr n m v) m n v i j = me_fu2 (me_fu2 a.tr n m v) m n v j i
            unfold me_fu2
            have hs := ht.isy i j
            by_cases q1 : i = m ∧ j = n
            · rw [if_pos q1, if_neg (fun q => hnm (by omega)), if_pos ⟨q1.2, q1.1⟩]
            · rw [if_neg q1]
              by_cases q2 : i = n ∧ j = m
              · rw [if_pos q2, if_pos ⟨q2.2, q2.1⟩]
              · rw [if_neg q2, if_neg (fun q => q2 ⟨q.2, q.1⟩), if_neg (fun q => q1 ⟨q.2, q.1⟩), hs]) (fun i j => by
            show me_fu2 (me_fu2 a.tr n m v) m n v i j ≤ 99
            unfold me_fu2
            have := ht.ile i j
            split
            · exact hv
            · split
              · exact hv
              · exact this), hI.2.2.2.2⟩
          refine ⟨_, (Int32.toInt64 (me_N (a.tr n m)), o.2), _, ?_, D6.R rfl hI2 hbt hT⟩
          simp [f_case_36, f_L_traffic, f_Y_traffic, f_Placing_setTraffic, f_M_traffic, f_M_traffic_b22, f_M_traffic_b45, f_M_traffic_b50, me_bd_s, me_b2_s, me_lt_s, me_oq_n, me_oq_s, me_xb_o, me_xb_e, me_xb2_o, me_xb2_e, me_xm_o, me_xm_e, f_M_thrown, m_th0, m_th1, me_cmp_self, me_up_at, if_true, if_false, me_nr_z, me_nr_o, me_gd_t, me_up_kn, me_up_jn, e1, e2, e3 _ D2.2.1, e4 _ D2.2.1, e5, e6, g0, g1, g2, g3, g4, g5, g6, g7, g8, g9, g10, hC.tr n m (by omega) (by omega), hM.tr n m (by omega) (by omega)]
        · have e5 : f_Y_needRange μ s3 0 99 = some (.error 2) := y_range_n (a := 0) (b := 99) (by omega) (by omega) hc
          have e6 : ∀ μ, f_M_isIn μ s3 0 99 = some 0 := fun μ => m_isIn_n (a := 0) (b := 99) (by omega) (by omega) hc
          refine ⟨_, o, a, ?_, ((hR.th 0).th 2)⟩
          simp [f_case_36, f_L_traffic, f_Y_traffic, f_M_traffic, f_M_traffic_b22, f_M_traffic_b45, f_M_traffic_b50, me_bd_s, me_b2_s, me_lt_s, me_oq_n, me_oq_s, me_xb_o, me_xb_e, me_xb2_o, me_xb2_e, me_xm_o, me_xm_e, f_M_thrown, m_th0, m_th1, me_cmp_self, me_up_at, if_true, if_false, me_nr_z, me_nr_o, me_gd_t, me_up_kn, me_up_jn, e1, e2, e3 _ hM, e4 _ hM, e5, e6, g0]
    · obtain ⟨n, hn, rfl⟩ := hb
      have e1 := y_task_o hC hI hn
      have e2 := y_task_n hC hI hb2
      have e3 := m_task_o hM hI hn
      have e4 := m_task_n hM hI hb2
      refine ⟨_, o, a, ?_, hR.th 1⟩
      simp [f_case_36, f_L_traffic, f_Y_traffic, f_M_traffic, f_M_traffic_b17, f_M_traffic_b22, me_bd_s, me_b2_s, me_lt_s, me_oq_n, me_oq_s, me_xb_o, me_xb_e, me_xb2_o, me_xb2_e, me_xm_o, me_xm_e, f_M_thrown, m_th0, m_th1, me_cmp_self, me_up_at, if_true, if_false, me_nr_z, me_nr_o, me_gd_t, me_up_kn, me_up_jn, e1, e2, e3, e4]
  · have e1 := y_task_n hC hI hb
    have e3 := m_task_n hM hI hb
    refine ⟨_, o, a, ?_, hR.th 1⟩
    simp [f_case_36, f_L_traffic, f_Y_traffic, f_M_traffic, f_M_traffic_b17, f_M_traffic_b22, me_bd_s, me_b2_s, me_lt_s, me_oq_n, me_oq_s, me_xb_o, me_xb_e, me_xb2_o, me_xb2_e, me_xm_o, me_xm_e, f_M_thrown, m_th0, m_th1, me_cmp_self, me_up_at, if_true, if_false, me_nr_z, me_nr_o, me_gd_t, me_up_kn, me_up_jn, e1, e3]
