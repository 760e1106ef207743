/-! CALLS THAT ONLY READ -/
theorem me_chr {x : Int32} (h : x = 45 ∨ x = 114 ∨ x = 119 ∨ x = 98 ∨ x = 104 ∨ x = 120 ∨ x = 109 ∨ x = 113 ∨ x = 97 ∨ x = 115 ∨ x = 100 ∨ x = 108 ∨ x = 106 ∨ x = 117 ∨ x = 111 ∨ x = 112 ∨ x = 121 ∨ x = 116) : me_nr .char x = true := by
  rcases h with rfl | rfl | rfl | rfl | rfl | rfl | rfl | rfl | rfl | rfl | rfl | rfl | rfl | rfl | rfl | rfl | rfl | rfl <;> decide +kernel
theorem me_Iv.ckd {a : me_S} (h : me_Iv a) {i : Nat} (hi : i < a.np) : me_nr .char (a.kd i) = true := me_chr (by
  rcases h.2.1.ikd i hi with e | e | e <;> simp [e])
theorem me_Iv.cst {a : me_S} (h : me_Iv a) {i : Nat} (hi : i < a.np) : me_nr .char (a.st i) = true := me_chr (by
  rcases h.2.1.ist i hi with e | e | e | e | e <;> simp [e])
theorem me_Iv.cco {a : me_S} (h : me_Iv a) (i : Nat) : me_nr .char (a.co i) = true := me_chr (by
  rcases h.2.2.1.ico i with e | e | e | e | e | e <;> simp [e])
theorem me_Iv.cfa {a : me_S} (h : me_Iv a) (i : Nat) : me_nr .char (a.fa i) = true := me_chr (by
  rcases h.2.2.1.ifa i with e | e | e | e | e <;> simp [e])
theorem t_4 {T : Nat} {a : me_S} {μ : me_M} {o : Int64 × UInt64} {s1 s2 s3 s4 s5 : Int32} (hR : me_R T a μ) : ∃ μ' o', f_case_4 μ o s1 s2 s3 s4 s5 = some (μ', o') ∧ me_R T a μ' := by
  obtain ⟨hC, hM, hI, -⟩ := id hR
  have hwh := hI.wh
  have hnp := hI.n200
  by_cases hb : me_isB s1 a.np
  · obtain ⟨n, hn, rfl⟩ := hb
    have g1 : ∀ α (k : Option α), me_gd (me_inb (me_N n) 200) k = k := fun α k => me_gd_n (by omega) (by omega)
    have g2 : me_ix (me_N n) = n := me_N_ix (by omega)
    have e1 := y_packet_o hC hI hn
    have e2 := m_packet_o hM hI hn
    have hM2 := (hR.th 0).2.1
    have g3 := hI.ckd hn
    refine ⟨_, (Int32.toInt64 (a.kd n), o.2), ?_, hR.th 0⟩
    simp [f_case_4, f_L_kind, f_Y_kind, f_M_kind, me_bd_s, me_b2_s, me_lt_s, me_oq_n, me_oq_s, me_xb_o, me_xb_e, me_xb2_o, me_xb2_e, me_xm_o, me_xm_e, f_M_thrown, m_th0, m_th1, me_cmp_self, me_up_at, if_true, if_false, me_nr_z, me_nr_o, me_gd_t, e1, e2, hC.kd n, hM2.kd n hn, g1, g2, g3]
  · have e1 := y_packet_n hC hI hb
    have e2 := m_packet_n hM hI hb
    refine ⟨_, o, ?_, hR.th 1⟩
    simp [f_case_4, f_L_kind, f_Y_kind, f_M_kind, me_bd_s, me_b2_s, me_lt_s, me_oq_n, me_oq_s, me_xb_o, me_xb_e, me_xb2_o, me_xb2_e, me_xm_o, me_xm_e, f_M_thrown, m_th0, m_th1, me_cmp_self, me_up_at, if_true, if_false, me_nr_z, me_nr_o, me_gd_t, e1, e2]
theorem t_5 {T : Nat} {a : me_S} {μ : me_M} {o : Int64 × UInt64} {s1 s2 s3 s4 s5 : Int32} (hR : me_R T a μ) : ∃ μ' o', f_case_5 μ o s1 s2 s3 s4 s5 = some (μ', o') ∧ me_R T a μ' := by
  obtain ⟨hC, hM, hI, -⟩ := id hR
  have hwh := hI.wh
  have hnp := hI.n200
  by_cases hb : me_isB s1 a.np
  · obtain ⟨n, hn, rfl⟩ := hb
    have g1 : ∀ α (k : Option α), me_gd (me_inb (me_N n) 200) k = k := fun α k => me_gd_n (by omega) (by omega)
    have g2 : me_ix (me_N n) = n := me_N_ix (by omega)
    have e1 := y_packet_o hC hI hn
    have e2 := m_packet_o hM hI hn
    have hM2 := (hR.th 0).2.1
    have g3 := hI.cst hn
    refine ⟨_, (Int32.toInt64 (a.st n), o.2), ?_, hR.th 0⟩
    simp [f_case_5, f_L_state, f_Y_state, f_M_state, me_bd_s, me_b2_s, me_lt_s, me_oq_n, me_oq_s, me_xb_o, me_xb_e, me_xb2_o, me_xb2_e, me_xm_o, me_xm_e, f_M_thrown, m_th0, m_th1, me_cmp_self, me_up_at, if_true, if_false, me_nr_z, me_nr_o, me_gd_t, e1, e2, hC.st n, hM2.st n hn, g1, g2, g3]
  · have e1 := y_packet_n hC hI hb
    have e2 := m_packet_n hM hI hb
    refine ⟨_, o, ?_, hR.th 1⟩
    simp [f_case_5, f_L_state, f_Y_state, f_M_state, me_bd_s, me_b2_s, me_lt_s, me_oq_n, me_oq_s, me_xb_o, me_xb_e, me_xb2_o, me_xb2_e, me_xm_o, me_xm_e, f_M_thrown, m_th0, m_th1, me_cmp_self, me_up_at, if_true, if_false, me_nr_z, me_nr_o, me_gd_t, e1, e2]
theorem t_6 {T : Nat} {a : me_S} {μ : me_M} {o : Int64 × UInt64} {s1 s2 s3 s4 s5 : Int32} (hR : me_R T a μ) : ∃ μ' o', f_case_6 μ o s1 s2 s3 s4 s5 = some (μ', o') ∧ me_R T a μ' := by
  obtain ⟨hC, hM, hI, -⟩ := id hR
  have hwh := hI.wh
  have hnp := hI.n200
  by_cases hb : me_isB s1 a.np
  · obtain ⟨n, hn, rfl⟩ := hb
    have g1 : ∀ α (k : Option α), me_gd (me_inb (me_N n) 200) k = k := fun α k => me_gd_n (by omega) (by omega)
    have g2 : me_ix (me_N n) = n := me_N_ix (by omega)
    have e1 := y_packet_o hC hI hn
    have e2 := m_packet_o hM hI hn
    have hM2 := (hR.th 0).2.1
    refine ⟨_, (Int32.toInt64 (a.wd n), o.2), ?_, hR.th 0⟩
    simp [f_case_6, f_L_word, f_Y_word, f_M_word, me_bd_s, me_b2_s, me_lt_s, me_oq_n, me_oq_s, me_xb_o, me_xb_e, me_xb2_o, me_xb2_e, me_xm_o, me_xm_e, f_M_thrown, m_th0, m_th1, me_cmp_self, me_up_at, if_true, if_false, me_nr_z, me_nr_o, me_gd_t, e1, e2, hC.wd n, hM2.wd n hn, g1, g2]
  · have e1 := y_packet_n hC hI hb
    have e2 := m_packet_n hM hI hb
    refine ⟨_, o, ?_, hR.th 1⟩
    simp [f_case_6, f_L_word, f_Y_word, f_M_word, me_bd_s, me_b2_s, me_lt_s, me_oq_n, me_oq_s, me_xb_o, me_xb_e, me_xb2_o, me_xb2_e, me_xm_o, me_xm_e, f_M_thrown, m_th0, m_th1, me_cmp_self, me_up_at, if_true, if_false, me_nr_z, me_nr_o, me_gd_t, e1, e2]
theorem t_3 {T : Nat} {a : me_S} {μ : me_M} {o : Int64 × UInt64} {s1 s2 s3 s4 s5 : Int32} (hR : me_R T a μ) : ∃ μ' o', f_case_3 μ o s1 s2 s3 s4 s5 = some (μ', o') ∧ me_R T a μ' := by
  obtain ⟨hC, hM, hI, -⟩ := id hR
  have hwh := hI.wh
  have hnp := hI.n200
  by_cases hb : me_isB s1 a.np
  · obtain ⟨n, hn, rfl⟩ := hb
    have g1 : ∀ α (k : Option α), me_gd (me_inb (me_N n) 200) k = k := fun α k => me_gd_n (by omega) (by omega)
    have g2 : me_ix (me_N n) = n := me_N_ix (by omega)
    have e1 := y_packet_o hC hI hn
    have e2 := m_packet_o hM hI hn
    have hM2 := (hR.th 0).2.1
    by_cases hk : a.kd n = 113
    · cases ha : a.an n with
      | none =>
        refine ⟨_, o, ?_, (((hR.th 0).th 0).th 3)⟩
        simp [f_case_3, f_L_answer, f_Y_answer, f_M_answer, f_M_answer_b25, f_M_answer_b48, me_bd_s, me_b2_s, me_lt_s, me_oq_n, me_oq_s, me_xb_o, me_xb_e, me_xb2_o, me_xb2_e, me_xm_o, me_xm_e, f_M_thrown, m_th0, m_th1, me_cmp_self, me_up_at, if_true, if_false, me_nr_z, me_nr_o, me_gd_t, e1, e2, hC.kd n, hM2.kd n hn, hk, hC.an n hn, hM2.an n hn, (((hR.th 0).th 0).2.1).an n hn, ha, g1, g2, me_Op]
      | some j =>
        have hj := hI.2.1.ian n j hn ha
        have g4 : ¬ me_N j = -1 := me_N_nm1 (by omega)
        refine ⟨_, (Int32.toInt64 (me_N j), o.2), ?_, (((hR.th 0).th 0).th 0)⟩
        simp [f_case_3, f_L_answer, f_Y_answer, f_M_answer, f_M_answer_b25, f_M_answer_b48, me_bd_s, me_b2_s, me_lt_s, me_oq_n, me_oq_s, me_xb_o, me_xb_e, me_xb2_o, me_xb2_e, me_xm_o, me_xm_e, f_M_thrown, m_th0, m_th1, me_cmp_self, me_up_at, if_true, if_false, me_nr_z, me_nr_o, me_gd_t, e1, e2, hC.kd n, hM2.kd n hn, hk, hC.an n hn, (((hR.th 0).th 0).2.1).an n hn, (((hR.th 0).th 0).th 0).2.1.an n hn, ha, g1, g2, g4, me_Op]
    · refine ⟨_, o, ?_, ((hR.th 0).th 2)⟩
      simp [f_case_3, f_L_answer, f_Y_answer, f_M_answer, f_M_answer_b25, me_bd_s, me_b2_s, me_lt_s, me_oq_n, me_oq_s, me_xb_o, me_xb_e, me_xb2_o, me_xb2_e, me_xm_o, me_xm_e, f_M_thrown, m_th0, m_th1, me_cmp_self, me_up_at, if_true, if_false, me_nr_z, me_nr_o, me_gd_t, e1, e2, hC.kd n, hM2.kd n hn, hk, g1, g2]
  · have e1 := y_packet_n hC hI hb
    have e2 := m_packet_n hM hI hb
    refine ⟨_, o, ?_, hR.th 1⟩
    simp [f_case_3, f_L_answer, f_Y_answer, f_M_answer, me_bd_s, me_b2_s, me_lt_s, me_oq_n, me_oq_s, me_xb_o, me_xb_e, me_xb2_o, me_xb2_e, me_xm_o, me_xm_e, f_M_thrown, m_th0, m_th1, me_cmp_self, me_up_at, if_true, if_false, me_nr_z, me_nr_o, me_gd_t, e1, e2]
theorem t_9 {T : Nat} {a : me_S} {μ : me_M} {o : Int64 × UInt64} {s1 s2 s3 s4 s5 : Int32} (hR : me_R T a μ) : ∃ μ' o', f_case_9 μ o s1 s2 s3 s4 s5 = some (μ', o') ∧ me_R T a μ' := by
  obtain ⟨hC, hM, hI, -⟩ := id hR
  have hwh := hI.wh
  have hnp := hI.n200
  by_cases hb : me_isB s1 a.np
  · obtain ⟨n, hn, rfl⟩ := hb
    have g1 : ∀ α (k : Option α), me_gd (me_inb (me_N n) 200) k = k := fun α k => me_gd_n (by omega) (by omega)
    have g2 : me_ix (me_N n) = n := me_N_ix (by omega)
    have e1 := y_packet_o hC hI hn
    have e2 := m_packet_o hM hI hn
    have hM2 := (hR.th 0).2.1
    by_cases hd : a.st n = 100 ∨ a.st n = 114
    · refine ⟨_, (Int32.toInt64 (me_Op (a.dn n) - me_N (a.ma n)), o.2), ?_, ((hR.th 0).th 0)⟩
      have hx := hM2.dn n hn hd
      have hx2 := ((hR.th 0).th 0).2.1.dn n hn hd
      rcases hd with hd | hd <;> simp [f_case_9, f_L_time, f_Y_time, f_Packet_wasDelivered, f_Packet_wasDelivered_b18, f_Packet_beatsTaken, f_M_time, f_M_time_b22, f_M_isDone, f_M_isDone_b22, me_bd_s, me_b2_s, me_lt_s, me_oq_n, me_oq_s, me_xb_o, me_xb_e, me_xb2_o, me_xb2_e, me_xm_o, me_xm_e, f_M_thrown, m_th0, m_th1, me_cmp_self, me_up_at, if_true, if_false, me_nr_z, me_nr_o, me_gd_t, e1, e2, hC.st n, hM2.st n hn, hd, g1, g2, hC.dn n hn, hC.ma n, hx2, ((hR.th 0).th 0).2.1.ma n hn]
    · refine ⟨_, o, ?_, ((hR.th 0).th 2)⟩
      have hd1 : ¬ a.st n = 100 := fun q => hd (Or.inl q)
      have hd2 : ¬ a.st n = 114 := fun q => hd (Or.inr q)
      simp [f_case_9, f_L_time, f_Y_time, f_Packet_wasDelivered, f_M_time, f_M_time_b22, f_M_time_b29, f_M_isDone, me_bd_s, me_b2_s, me_lt_s, me_oq_n, me_oq_s, me_xb_o, me_xb_e, me_xb2_o, me_xb2_e, me_xm_o, me_xm_e, f_M_thrown, m_th0, m_th1, me_cmp_self, me_up_at, if_true, if_false, me_nr_z, me_nr_o, me_gd_t, e1, e2, hC.st n, hM2.st n hn, hd1, hd2, g1, g2]
  · have e1 := y_packet_n hC hI hb
    have e2 := m_packet_n hM hI hb
    refine ⟨_, o, ?_, hR.th 1⟩
    simp [f_case_9, f_L_time, f_Y_time, f_M_time, me_bd_s, me_b2_s, me_lt_s, me_oq_n, me_oq_s, me_xb_o, me_xb_e, me_xb2_o, me_xb2_e, me_xm_o, me_xm_e, f_M_thrown, m_th0, m_th1, me_cmp_self, me_up_at, if_true, if_false, me_nr_z, me_nr_o, me_gd_t, e1, e2, f_M_time_b29]
theorem t_10 {T : Nat} {a : me_S} {μ : me_M} {o : Int64 × UInt64} {s1 s2 s3 s4 s5 : Int32} (hR : me_R T a μ) : ∃ μ' o', f_case_10 μ o s1 s2 s3 s4 s5 = some (μ', o') ∧ me_R T a μ' := by
  obtain ⟨hC, hM, hI, -⟩ := id hR
  have hwh := hI.wh
  have hnp := hI.n200
  refine ⟨_, o, ?_, hR.th 0⟩
  simp [f_case_10, f_Y_packets, f_M_packets, me_bd_s, me_b2_s, me_lt_s, me_oq_n, me_oq_s, me_xb_o, me_xb_e, me_xb2_o, me_xb2_e, me_xm_o, me_xm_e, f_M_thrown, m_th0, m_th1, me_cmp_self, me_up_at, if_true, if_false, me_nr_z, me_nr_o, me_gd_t, hC.np, (hR.th 0).2.1.np]
theorem t_15 {T : Nat} {a : me_S} {μ : me_M} {o : Int64 × UInt64} {s1 s2 s3 s4 s5 : Int32} (hR : me_R T a μ) : ∃ μ' o', f_case_15 μ o s1 s2 s3 s4 s5 = some (μ', o') ∧ me_R T a μ' := by
  obtain ⟨hC, hM, hI, -⟩ := id hR
  have hwh := hI.wh
  have hnp := hI.n200
  refine ⟨_, o, ?_, hR.th 0⟩
  simp [f_case_15, f_Y_beat, f_M_beat, me_bd_s, me_b2_s, me_lt_s, me_oq_n, me_oq_s, me_xb_o, me_xb_e, me_xb2_o, me_xb2_e, me_xm_o, me_xm_e, f_M_thrown, m_th0, m_th1, me_cmp_self, me_up_at, if_true, if_false, me_nr_z, me_nr_o, me_gd_t, hC.bt, (hR.th 0).2.1.bt]
theorem t_22 {T : Nat} {a : me_S} {μ : me_M} {o : Int64 × UInt64} {s1 s2 s3 s4 s5 : Int32} (hR : me_R T a μ) : ∃ μ' o', f_case_22 μ o s1 s2 s3 s4 s5 = some (μ', o') ∧ me_R T a μ' := by
  obtain ⟨hC, hM, hI, -⟩ := id hR
  have hwh := hI.wh
  have hnp := hI.n200
  by_cases hb : me_isB s1 (a.w * a.h)
  · obtain ⟨n, hn, rfl⟩ := hb
    have g1 : ∀ α (k : Option α), me_gd (me_inb (me_N n) 16) k = k := fun α k => me_gd_n (by omega) (by omega)
    have g2 : me_ix (me_N n) = n := me_N_ix (by omega)
    have h16 : n < 16 := by omega
    have e1 := y_node_o hC hI hn
    have e2 := m_node_o hM hI hn
    have hM2 := (hR.th 0).2.1
    cases hw : a.aw n with
    | true =>
      refine ⟨_, (1, o.2), ?_, hR.th 0⟩
      simp [f_case_22, f_L_isAwake, f_Y_isAwake, f_M_isAwake, me_bd_s, me_b2_s, me_lt_s, me_oq_n, me_oq_s, me_xb_o, me_xb_e, me_xb2_o, me_xb2_e, me_xm_o, me_xm_e, f_M_thrown, m_th0, m_th1, me_cmp_self, me_up_at, if_true, if_false, me_nr_z, me_nr_o, me_gd_t, e1, e2, hC.aw n h16, hM2.aw n h16, hw, me_bi, me_ni, g1, g2]
    | false =>
      refine ⟨_, (0, o.2), ?_, hR.th 0⟩
      simp [f_case_22, f_L_isAwake, f_Y_isAwake, f_M_isAwake, me_bd_s, me_b2_s, me_lt_s, me_oq_n, me_oq_s, me_xb_o, me_xb_e, me_xb2_o, me_xb2_e, me_xm_o, me_xm_e, f_M_thrown, m_th0, m_th1, me_cmp_self, me_up_at, if_true, if_false, me_nr_z, me_nr_o, me_gd_t, e1, e2, hC.aw n h16, hM2.aw n h16, hw, me_bi, me_ni, g1, g2]
  · have e1 := y_node_n hC hI hb
    have e2 := m_node_n hM hI hb
    refine ⟨_, o, ?_, hR.th 1⟩
    simp [f_case_22, f_L_isAwake, f_Y_isAwake, f_M_isAwake, me_bd_s, me_b2_s, me_lt_s, me_oq_n, me_oq_s, me_xb_o, me_xb_e, me_xb2_o, me_xb2_e, me_xm_o, me_xm_e, f_M_thrown, m_th0, m_th1, me_cmp_self, me_up_at, if_true, if_false, me_nr_z, me_nr_o, me_gd_t, e1, e2]
theorem t_29 {T : Nat} {a : me_S} {μ : me_M} {o : Int64 × UInt64} {s1 s2 s3 s4 s5 : Int32} (hR : me_R T a μ) : ∃ μ' o', f_case_29 μ o s1 s2 s3 s4 s5 = some (μ', o') ∧ me_R T a μ' := by
  obtain ⟨hC, hM, hI, -⟩ := id hR
  have hwh := hI.wh
  have hnp := hI.n200
  by_cases hb : me_isB s1 (a.w * a.h)
  · obtain ⟨n, hn, rfl⟩ := hb
    have g1 : ∀ α (k : Option α), me_gd (me_inb (me_N n) 16) k = k := fun α k => me_gd_n (by omega) (by omega)
    have g2 : me_ix (me_N n) = n := me_N_ix (by omega)
    have h16 : n < 16 := by omega
    have e1 := y_node_o hC hI hn
    have e2 := m_node_o hM hI hn
    have hM2 := (hR.th 0).2.1
    have g3 := hI.cco n
    refine ⟨_, (Int32.toInt64 (a.co n), o.2), ?_, hR.th 0⟩
    simp [f_case_29, f_L_core, f_Y_core, f_M_core, me_bd_s, me_b2_s, me_lt_s, me_oq_n, me_oq_s, me_xb_o, me_xb_e, me_xb2_o, me_xb2_e, me_xm_o, me_xm_e, f_M_thrown, m_th0, m_th1, me_cmp_self, me_up_at, if_true, if_false, me_nr_z, me_nr_o, me_gd_t, e1, e2, hC.co n h16, hM2.co n h16, g1, g2, g3]
  · have e1 := y_node_n hC hI hb
    have e2 := m_node_n hM hI hb
    refine ⟨_, o, ?_, hR.th 1⟩
    simp [f_case_29, f_L_core, f_Y_core, f_M_core, me_bd_s, me_b2_s, me_lt_s, me_oq_n, me_oq_s, me_xb_o, me_xb_e, me_xb2_o, me_xb2_e, me_xm_o, me_xm_e, f_M_thrown, m_th0, m_th1, me_cmp_self, me_up_at, if_true, if_false, me_nr_z, me_nr_o, me_gd_t, e1, e2]
theorem t_30 {T : Nat} {a : me_S} {μ : me_M} {o : Int64 × UInt64} {s1 s2 s3 s4 s5 : Int32} (hR : me_R T a μ) : ∃ μ' o', f_case_30 μ o s1 s2 s3 s4 s5 = some (μ', o') ∧ me_R T a μ' := by
  obtain ⟨hC, hM, hI, -⟩ := id hR
  have hwh := hI.wh
  have hnp := hI.n200
  by_cases hb : me_isB s1 (a.w * a.h)
  · obtain ⟨n, hn, rfl⟩ := hb
    have g1 : ∀ α (k : Option α), me_gd (me_inb (me_N n) 16) k = k := fun α k => me_gd_n (by omega) (by omega)
    have g2 : me_ix (me_N n) = n := me_N_ix (by omega)
    have h16 : n < 16 := by omega
    have e1 := y_node_o hC hI hn
    have e2 := m_node_o hM hI hn
    have hM2 := (hR.th 0).2.1
    by_cases hx : a.co n = 120
    · have g3 := hI.cfa n
      refine ⟨_, (Int32.toInt64 (a.fa n), o.2), ?_, ((hR.th 0).th 0)⟩
      simp [f_case_30, f_L_fault, f_Y_fault, f_M_fault, f_M_fault_b30, me_bd_s, me_b2_s, me_lt_s, me_oq_n, me_oq_s, me_xb_o, me_xb_e, me_xb2_o, me_xb2_e, me_xm_o, me_xm_e, f_M_thrown, m_th0, m_th1, me_cmp_self, me_up_at, if_true, if_false, me_nr_z, me_nr_o, me_gd_t, e1, e2, hC.co n h16, hM2.co n h16, hx, hC.fa n h16, ((hR.th 0).th 0).2.1.fa n h16 hx, g1, g2, g3]
    · refine ⟨_, o, ?_, ((hR.th 0).th 2)⟩
      simp [f_case_30, f_L_fault, f_Y_fault, f_M_fault, f_M_fault_b30, f_M_fault_b37, me_bd_s, me_b2_s, me_lt_s, me_oq_n, me_oq_s, me_xb_o, me_xb_e, me_xb2_o, me_xb2_e, me_xm_o, me_xm_e, f_M_thrown, m_th0, m_th1, me_cmp_self, me_up_at, if_true, if_false, me_nr_z, me_nr_o, me_gd_t, e1, e2, hC.co n h16, hM2.co n h16, hx, g1, g2]
  · have e1 := y_node_n hC hI hb
    have e2 := m_node_n hM hI hb
    refine ⟨_, o, ?_, hR.th 1⟩
    simp [f_case_30, f_L_fault, f_Y_fault, f_M_fault, me_bd_s, me_b2_s, me_lt_s, me_oq_n, me_oq_s, me_xb_o, me_xb_e, me_xb2_o, me_xb2_e, me_xm_o, me_xm_e, f_M_thrown, m_th0, m_th1, me_cmp_self, me_up_at, if_true, if_false, me_nr_z, me_nr_o, me_gd_t, e1, e2, f_M_fault_b37]
theorem t_34 {T : Nat} {a : me_S} {μ : me_M} {o : Int64 × UInt64} {s1 s2 s3 s4 s5 : Int32} (hR : me_R T a μ) : ∃ μ' o', f_case_34 μ o s1 s2 s3 s4 s5 = some (μ', o') ∧ me_R T a μ' := by
  obtain ⟨hC, hM, hI, -⟩ := id hR
  have hwh := hI.wh
  have hnp := hI.n200
  by_cases hb : me_isB s1 (a.w * a.h)
  · obtain ⟨n, hn, rfl⟩ := hb
    have g1 : ∀ α (k : Option α), me_gd (me_inb (me_N n) 16) k = k := fun α k => me_gd_n (by omega) (by omega)
    have g2 : me_ix (me_N n) = n := me_N_ix (by omega)
    have h16 : n < 16 := by omega
    have e1 := y_node_o hC hI hn
    have e2 := m_node_o hM hI hn
    have hM2 := (hR.th 0).2.1
    by_cases hx : a.co n = 45
    · refine ⟨_, o, ?_, ((hR.th 0).th 2)⟩
      simp [f_case_34, f_L_at, f_Y_at, f_M_at, f_M_at_b29, f_M_at_b36, me_bd_s, me_b2_s, me_lt_s, me_oq_n, me_oq_s, me_xb_o, me_xb_e, me_xb2_o, me_xb2_e, me_xm_o, me_xm_e, f_M_thrown, m_th0, m_th1, me_cmp_self, me_up_at, if_true, if_false, me_nr_z, me_nr_o, me_gd_t, e1, e2, hC.co n h16, hM2.ca n h16, hx, g1, g2]
    · have hc := hI.2.2.1.ica n
      have g4 : ¬ me_N (a.ca n) = -1 := me_N_nm1 (by omega)
      refine ⟨_, (Int32.toInt64 (me_N (a.ca n)), o.2), ?_, ((hR.th 0).th 0)⟩
      simp [f_case_34, f_L_at, f_Y_at, f_M_at, f_M_at_b29, f_M_at_b36, me_bd_s, me_b2_s, me_lt_s, me_oq_n, me_oq_s, me_xb_o, me_xb_e, me_xb2_o, me_xb2_e, me_xm_o, me_xm_e, f_M_thrown, m_th0, m_th1, me_cmp_self, me_up_at, if_true, if_false, me_nr_z, me_nr_o, me_gd_t, e1, e2, hC.co n h16, hC.ca n h16, hM2.ca n h16, ((hR.th 0).th 0).2.1.ca n h16, hx, g1, g2, g4]
  · have e1 := y_node_n hC hI hb
    have e2 := m_node_n hM hI hb
    refine ⟨_, o, ?_, hR.th 1⟩
    simp [f_case_34, f_L_at, f_Y_at, f_M_at, me_bd_s, me_b2_s, me_lt_s, me_oq_n, me_oq_s, me_xb_o, me_xb_e, me_xb2_o, me_xb2_e, me_xm_o, me_xm_e, f_M_thrown, m_th0, m_th1, me_cmp_self, me_up_at, if_true, if_false, me_nr_z, me_nr_o, me_gd_t, e1, e2, f_M_at_b36]
theorem t_33 {T : Nat} {a : me_S} {μ : me_M} {o : Int64 × UInt64} {s1 s2 s3 s4 s5 : Int32} (hR : me_R T a μ) : ∃ μ' o', f_case_33 μ o s1 s2 s3 s4 s5 = some (μ', o') ∧ me_R T a μ' := by
  obtain ⟨hC, hM, hI, -⟩ := id hR
  have hwh := hI.wh
  have hnp := hI.n200
  by_cases hb : me_isB s1 (a.w * a.h)
  · obtain ⟨n, hn, rfl⟩ := hb
    have g1 : ∀ α (k : Option α), me_gd (me_inb (me_N n) 16) k = k := fun α k => me_gd_n (by omega) (by omega)
    have g2 : me_ix (me_N n) = n := me_N_ix (by omega)
    have h16 : n < 16 := by omega
    have e1 := y_node_o hC hI hn
    have e2 := m_node_o hM hI hn
    have hM2 := (hR.th 0).2.1
    have hd := hI.2.2.1.idp n
    by_cases hx : a.dp n = 0
    · refine ⟨_, o, ?_, ((hR.th 0).th 2)⟩
      have g5 : me_N (a.dp n) = 0 := by rw [hx]; rfl
      simp [f_case_33, f_L_top, f_Y_top, f_Y_top_b28, f_M_top, f_M_top_b28, f_M_top_b35, me_bd_s, me_b2_s, me_lt_s, me_oq_n, me_oq_s, me_xb_o, me_xb_e, me_xb2_o, me_xb2_e, me_xm_o, me_xm_e, f_M_thrown, m_th0, m_th1, me_cmp_self, me_up_at, if_true, if_false, me_nr_z, me_nr_o, me_gd_t, e1, e2, hC.dp n h16, hM2.dp n h16, g5, g1, g2]
    · have g4 : ¬ me_N (a.dp n) = 0 := by rw [me_N_0, me_N_inj (by omega) (by omega)]; exact hx
      have g5 : ¬ me_N (a.dp n) ≤ 0 := by rw [me_N_0, me_N_le (by omega) (by omega)]; omega
      have g6 : me_N (a.dp n) ≤ 6 := by rw [me_N_6, me_N_le (by omega) (by omega)]; omega
      have g7 : me_N (a.dp n) - 1 = me_N (a.dp n - 1) := by rw [me_N_1, me_N_sub (by omega)]
      have g8 : ∀ α (k : Option α), me_gd (me_inb (me_N (a.dp n - 1)) 6) k = k := fun α k => me_gd_n (by omega) (by omega)
      have g9 : me_ix (me_N (a.dp n - 1)) = a.dp n - 1 := me_N_ix (by omega)
      refine ⟨_, (Int32.toInt64 (a.sk n (a.dp n - 1)), o.2), ?_, ((hR.th 0).th 0)⟩
      simp [f_case_33, f_L_top, f_Y_top, f_Y_top_b28, f_M_top, f_M_top_b28, f_M_top_b35, me_bd_s, me_b2_s, me_lt_s, me_oq_n, me_oq_s, me_xb_o, me_xb_e, me_xb2_o, me_xb2_e, me_xm_o, me_xm_e, f_M_thrown, m_th0, m_th1, me_cmp_self, me_up_at, if_true, if_false, me_nr_z, me_nr_o, me_gd_t, e1, e2, hC.dp n h16, hM2.dp n h16, ((hR.th 0).th 0).2.1.dp n h16, g1, g2, g4, g5, g6, g7, g8, g9, hC.sk n (a.dp n - 1) h16 (by omega), ((hR.th 0).th 0).2.1.sk n (a.dp n - 1) h16 (by omega)]
  · have e1 := y_node_n hC hI hb
    have e2 := m_node_n hM hI hb
    refine ⟨_, o, ?_, hR.th 1⟩
    simp [f_case_33, f_L_top, f_Y_top, f_M_top, me_bd_s, me_b2_s, me_lt_s, me_oq_n, me_oq_s, me_xb_o, me_xb_e, me_xb2_o, me_xb2_e, me_xm_o, me_xm_e, f_M_thrown, m_th0, m_th1, me_cmp_self, me_up_at, if_true, if_false, me_nr_z, me_nr_o, me_gd_t, e1, e2, f_M_top_b35]
theorem t_39 {T : Nat} {a : me_S} {μ : me_M} {o : Int64 × UInt64} {s1 s2 s3 s4 s5 : Int32} (hR : me_R T a μ) : ∃ μ' o', f_case_39 μ o s1 s2 s3 s4 s5 = some (μ', o') ∧ me_R T a μ' := by
  obtain ⟨hC, hM, hI, -⟩ := id hR
  have hwh := hI.wh
  have hnp := hI.n200
  have hnt := hI.2.2.2.1.int
  by_cases hb : me_isB s1 a.nt
  · obtain ⟨n, hn, rfl⟩ := hb
    have g1 : ∀ α (k : Option α), me_gd (me_inb (me_N n) 8) k = k := fun α k => me_gd_n (by omega) (by omega)
    have g2 : me_ix (me_N n) = n := me_N_ix (by omega)
    have e1 := y_task_o hC hI hn
    have e2 := m_task_o hM hI hn
    refine ⟨_, (Int32.toInt64 (me_N (a.tn n)), o.2), ?_, hR.th 0⟩
    simp [f_case_39, f_L_nodeOf, f_Y_nodeOf, f_M_nodeOf, me_bd_s, me_b2_s, me_lt_s, me_oq_n, me_oq_s, me_xb_o, me_xb_e, me_xb2_o, me_xb2_e, me_xm_o, me_xm_e, f_M_thrown, m_th0, m_th1, me_cmp_self, me_up_at, if_true, if_false, me_nr_z, me_nr_o, me_gd_t, e1, e2, hC.tn n hn, (hR.th 0).2.1.tn n hn, g1, g2]
  · have e1 := y_task_n hC hI hb
    have e2 := m_task_n hM hI hb
    refine ⟨_, o, ?_, hR.th 1⟩
    simp [f_case_39, f_L_nodeOf, f_Y_nodeOf, f_M_nodeOf, me_bd_s, me_b2_s, me_lt_s, me_oq_n, me_oq_s, me_xb_o, me_xb_e, me_xb2_o, me_xb2_e, me_xm_o, me_xm_e, f_M_thrown, m_th0, m_th1, me_cmp_self, me_up_at, if_true, if_false, me_nr_z, me_nr_o, me_gd_t, e1, e2]
theorem t_31 {T : Nat} {a : me_S} {μ : me_M} {o : Int64 × UInt64} {s1 s2 s3 s4 s5 : Int32} (hR : me_R T a μ) : ∃ μ' o', f_case_31 μ o s1 s2 s3 s4 s5 = some (μ', o') ∧ me_R T a μ' := by
  obtain ⟨hC, hM, hI, -⟩ := id hR
  have hwh := hI.wh
  have hnp := hI.n200
  by_cases hb : me_isB s1 (a.w * a.h)
  · obtain ⟨n, hn, rfl⟩ := hb
    have g1 : ∀ α (k : Option α), me_gd (me_inb (me_N n) 16) k = k := fun α k => me_gd_n (by omega) (by omega)
    have g2 : me_ix (me_N n) = n := me_N_ix (by omega)
    have h16 : n < 16 := by omega
    have e1 := y_node_o hC hI hn
    have e2 := m_node_o hM hI hn
    by_cases hc : me_isRg s2 0 7
    · have e3 : f_Y_needRange μ s2 0 7 = some (.ok ()) := y_range_o (a := 0) (b := 7) (by omega) (by omega) hc
      have e4 : ∀ μ, f_M_isIn μ s2 0 7 = some 1 := fun μ => m_isIn_o (a := 0) (b := 7) (by omega) (by omega) hc
      obtain ⟨j, hj0, hj, rfl⟩ := hc
      have g3 : ∀ α (k : Option α), me_gd (me_inb (me_N j) 8) k = k := fun α k => me_gd_n (by omega) (by omega)
      have g4 : me_ix (me_N j) = j := me_N_ix (by omega)
      refine ⟨_, (Int32.toInt64 (a.mm n j), o.2), ?_, ((hR.th 0).th 0)⟩
      simp [f_case_31, f_L_memory, f_Y_memory, f_M_memory, f_M_isNoWord, f_M_isNoWord_b29, me_bd_s, me_b2_s, me_lt_s, me_oq_n, me_oq_s, me_xb_o, me_xb_e, me_xb2_o, me_xb2_e, me_xm_o, me_xm_e, f_M_thrown, m_th0, m_th1, me_cmp_self, me_up_at, if_true, if_false, me_nr_z, me_nr_o, me_gd_t, e1, e2, e3, e4, hC.mm n j h16 (by omega), ((hR.th 0).th 0).2.1.mm n j h16 (by omega), g1, g2, g3, g4]
    · have e3 : f_Y_needRange μ s2 0 7 = some (.error 2) := y_range_n (a := 0) (b := 7) (by omega) (by omega) hc
      have e4 : ∀ μ, f_M_isIn μ s2 0 7 = some 0 := fun μ => m_isIn_n (a := 0) (b := 7) (by omega) (by omega) hc
      refine ⟨_, o, ?_, ((hR.th 0).th 2)⟩
      simp [f_case_31, f_L_memory, f_Y_memory, f_M_memory, f_M_isNoWord, f_M_isNoWord_b29, f_M_isNoWord_b36, me_bd_s, me_b2_s, me_lt_s, me_oq_n, me_oq_s, me_xb_o, me_xb_e, me_xb2_o, me_xb2_e, me_xm_o, me_xm_e, f_M_thrown, m_th0, m_th1, me_cmp_self, me_up_at, if_true, if_false, me_nr_z, me_nr_o, me_gd_t, e1, e2, e3, e4]
  · have e1 := y_node_n hC hI hb
    have e2 := m_node_n hM hI hb
    refine ⟨_, o, ?_, hR.th 1⟩
    simp [f_case_31, f_L_memory, f_Y_memory, f_M_memory, f_M_isNoWord, f_M_isNoWord_b36, me_bd_s, me_b2_s, me_lt_s, me_oq_n, me_oq_s, me_xb_o, me_xb_e, me_xb2_o, me_xb2_e, me_xm_o, me_xm_e, f_M_thrown, m_th0, m_th1, me_cmp_self, me_up_at, if_true, if_false, me_nr_z, me_nr_o, me_gd_t, e1, e2]
