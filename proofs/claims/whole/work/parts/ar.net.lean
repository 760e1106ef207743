/-! net -/
theorem t_13 {T : Nat} {a : me_S} {μ : me_M} {o : Int64 × UInt64} {s1 s2 s3 s4 s5 : Int32} (hR : me_R T a μ) : ∃ μ' o' a', f_case_13 μ o s1 s2 s3 s4 s5 = some (μ', o') ∧ me_R T a' μ' := by
  obtain ⟨hC, hM, hI, hbt, hT, hwk⟩ := id hR
  by_cases hb : me_isRg s1 1 4
  · have y1 : ∀ μ, f_Y_needRange μ s1 1 4 = some (.ok ()) := fun μ => y_range_o (by decide) (by decide) hb
    have m1 : ∀ μ, f_M_isIn μ s1 1 4 = some 1 := fun μ => m_isIn_o (by decide) (by decide) hb
    by_cases hb2 : me_isRg s2 1 4
    · have y2 : ∀ μ, f_Y_needRange μ s2 1 4 = some (.ok ()) := fun μ => y_range_o (by decide) (by decide) hb2
      have m2 : ∀ μ, f_M_isIn μ s2 1 4 = some 1 := fun μ => m_isIn_o (by decide) (by decide) hb2
      obtain ⟨w, w1, w2, rfl⟩ := hb
      obtain ⟨h, h1, h2, rfl⟩ := hb2
      obtain ⟨μ1, e1, c1, f1, z1⟩ := y_anew hC.c0 ⟨w1, w2⟩ ⟨h1, h2⟩
      have zn : μ1 1 0 4 = me_N (w * h) := c1.nn
      obtain ⟨μ2, e2, c2, f2, z2⟩ := m_begins (a := a) (ν := me_up (me_up (me_up μ1 36 0 42 0) 36 0 0 (me_N w)) 36 0 1 (me_N h)) (w := w) (h := h) (by rw [me_up_jn (by decide), me_up_at]) me_up_at
      have z42 : μ2 36 0 42 = 0 := by rw [z2, me_up_jn (by decide), me_up_jn (by decide), me_up_at]
      have g2 : ∀ k, k < 36 → μ2 k = μ1 k := fun k hk => by
        rw [f2 k hk]
        funext i j
        rw [me_up_kn (by omega), me_up_kn (by omega), me_up_kn (by omega)]
      refine ⟨μ2, (Int32.toInt64 (me_N (w * h)), o.2), gh_nw a w h 2, ?_, c1.co_ (fun k hk => g2 k hk), c2, gh_nw_iv ⟨w1, w2⟩ ⟨h1, h2⟩, Nat.zero_le _, hT, fun n hn => by rw [g2 13 (by decide)]; exact z1 n hn⟩
      have zw : μ2 36 0 0 = me_N w := c2.w
      have zh : μ2 36 0 1 = me_N h := c2.h
      unfold f_case_13 f_L_net f_Y_net f_M_net f_M_net_b24 f_M_thrown f_M_nodes
      rw [y1, me_bd_s, me_xb2_o, y2, me_bd_s, me_xb2_o, e1, me_b2_s, me_b2_s, me_xm_o, zn, me_b2_s, m1, me_bd_s, if_neg (by decide), m2, me_bd_s, if_neg (by decide), m_th0, me_b2_s, if_pos (by rfl), me_lt_s, me_lt_s, e2, me_b2_s, zw, zh, me_bd_s, me_N_mul, me_b2_s, z42, me_bd_s, if_pos (by rfl), if_pos (by rfl), if_pos (me_cmp_self _)]
    · have y2 : ∀ μ, f_Y_needRange μ s2 1 4 = some (.error 2) := fun μ => y_range_n (by decide) (by decide) hb2
      have m2 : ∀ μ, f_M_isIn μ s2 1 4 = some 0 := fun μ => m_isIn_n (by decide) (by decide) hb2
      refine ⟨_, o, a, ?_, hR.th 1⟩
      unfold f_case_13 f_L_net f_Y_net f_M_net f_M_net_b19 f_M_net_b24 f_M_thrown
      rw [y1, me_bd_s, me_xb2_o, y2, me_bd_s, me_xb2_e, me_b2_s, me_xm_e, if_pos (by rfl), me_b2_s, m1, me_bd_s, if_neg (by decide), m2, me_bd_s, if_pos (by rfl), m_th1, me_b2_s, if_neg (by decide), me_b2_s, me_up_at, me_bd_s, if_pos (by rfl)]
      exact if_neg (fun h => absurd (show (1 : Int32) = 0 from h) (by decide))
  · have y1 : ∀ μ, f_Y_needRange μ s1 1 4 = some (.error 2) := fun μ => y_range_n (by decide) (by decide) hb
    have m1 : ∀ μ, f_M_isIn μ s1 1 4 = some 0 := fun μ => m_isIn_n (by decide) (by decide) hb
    refine ⟨_, o, a, ?_, hR.th 1⟩
    unfold f_case_13 f_L_net f_Y_net f_M_net f_M_net_b19 f_M_net_b24 f_M_thrown
    rw [y1, me_bd_s, me_xb2_e, me_b2_s, me_xm_e, if_pos (by rfl), me_b2_s, m1, me_bd_s, if_pos (by rfl), m_th1, me_b2_s, if_neg (by decide), me_b2_s, me_up_at, me_bd_s, if_pos (by rfl)]
    exact if_neg (fun h => absurd (show (1 : Int32) = 0 from h) (by decide))
