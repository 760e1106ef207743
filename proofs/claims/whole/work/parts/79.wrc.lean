/-! ROWS AND OWNERS, PROGRAMS -/
theorem y_row_o {μ : me_M} {n c d k : Nat} {v : Int32} (hn : n < 16) (hc : c < 2) (hd : d < k) (hk : k ≤ 5) (hv : me_fi (me_sb 1) v 0 = me_N d) : f_Y_needRow μ (me_N n) v (me_N c) (me_N k) = some (.ok (10 * n + (c * 5 + d))) := by
  unfold f_Y_needRow
  rw [s_indexOf (by decide), hv, me_bd_s, if_neg (me_N_nneg (by omega)), if_neg (by rw [me_N_le (by omega) (by omega)]; omega), if_neg (me_N_nneg (by omega)), if_pos (by rw [me_N_2, me_N_lt (by omega) (by omega)]; omega), me_gd_n (by omega) hn, me_N_5, me_N_mul, me_N_add, me_gd_n (by omega) (by omega), me_N_ix (by omega), me_N_ix (by omega)]
theorem y_row_n {μ : me_M} {n k : Nat} {v x : Int32} (hk : k ≤ 5) (h : ¬ ((∃ d, d < k ∧ me_fi (me_sb 1) v 0 = me_N d) ∧ me_isB x 2)) : f_Y_needRow μ (me_N n) v x (me_N k) = some (.error 2) := by
  unfold f_Y_needRow f_Y_needRow_b29
  rw [s_indexOf (by decide), me_bd_s]
  rcases s_side v with ⟨d, hd, e⟩ | e
  · rw [e, if_neg (me_N_nneg (by omega))]
    by_cases hdk : d < k
    · rw [if_neg (by rw [me_N_le (by omega) (by omega)]; omega)]
      have hx : ¬ me_isB x 2 := fun q => h ⟨⟨d, hdk, e⟩, q⟩
      rcases me_isB_no (by omega) hx with h1 | ⟨h1, h2⟩
      · rw [if_pos h1]
      · rw [if_neg h1, if_neg]
        rw [Int32.lt_iff_toInt_lt]
        rw [Int32.le_iff_toInt_le] at h2
        exact Int.not_lt.mpr h2
    · rw [if_pos (by rw [me_N_le (by omega) (by omega)]; omega)]
  · rw [e, if_pos (by decide)]
theorem me_isB_Rg {x : Int32} {N : Nat} (h : 0 < N) : me_isB x N ↔ me_isRg x 0 (N - 1) :=
  ⟨fun ⟨n, h1, h2⟩ => ⟨n, by omega, by omega, h2⟩, fun ⟨n, h1, h2, h3⟩ => ⟨n, by omega, h3⟩⟩
theorem m_row_o {a : me_S} {μ : me_M} (hM : me_RM a μ) (hI : me_Iv a) {n c d k : Nat} {v : Int32} (hn : n < a.w * a.h) (hc : c < 2) (hd : d < k) (hk : k ≤ 5) (hv : me_fi (me_sb 1) v 0 = me_N d) : f_M_isNoRow μ (me_N n) v (me_N c) (me_N k) = some (me_up (me_up μ 36 0 42 0) 36 0 42 0, 0) := by
  unfold f_M_isNoRow f_M_isNoRow_b50
  rw [s_indexOf (by decide), hv, me_bd_s, m_node_o hM hI hn, me_bd_s, m_th0, me_b2_s, if_pos rfl, m_isIn0_o (by omega) hd, me_bd_s, if_neg (by decide), show f_M_isIn (me_up μ 36 0 42 0) (me_N c) 0 1 = some 1 from m_isIn_o (a := 0) (b := 1) (by omega) (by omega) ⟨c, by omega, by omega, rfl⟩, me_bd_s, if_neg (by decide), m_th0, me_b2_s, if_pos rfl]
theorem m_row_n {a : me_S} {μ : me_M} (hM : me_RM a μ) (hI : me_Iv a) {n k : Nat} {v x : Int32} (hn : n < a.w * a.h) (h0 : 0 < k) (hk : k ≤ 5) (h : ¬ ((∃ d, d < k ∧ me_fi (me_sb 1) v 0 = me_N d) ∧ me_isB x 2)) : f_M_isNoRow μ (me_N n) v x (me_N k) = some (me_up (me_up μ 36 0 42 0) 36 0 42 2, 1) := by
  unfold f_M_isNoRow f_M_isNoRow_b45 f_M_isNoRow_b50 f_M_isNoRow_b57
  rw [s_indexOf (by decide), me_bd_s, m_node_o hM hI hn, me_bd_s, m_th0, me_b2_s, if_pos rfl]
  by_cases hd : ∃ d, d < k ∧ me_fi (me_sb 1) v 0 = me_N d
  · obtain ⟨d, hd, e⟩ := hd
    have hx : ¬ me_isRg x 0 1 := fun q => h ⟨⟨d, hd, e⟩, (me_isB_Rg (by decide)).mpr q⟩
    rw [e, m_isIn0_o (by omega) hd, me_bd_s, if_neg (by decide), show f_M_isIn (me_up μ 36 0 42 0) x 0 1 = some 0 from m_isIn_n (a := 0) (b := 1) (by omega) (by omega) hx, me_bd_s, if_pos rfl, m_th1, me_b2_s, if_neg (by decide)]
  · have hx : ¬ me_isB (me_fi (me_sb 1) v 0) k := fun ⟨d, q1, q2⟩ => hd ⟨d, q1, q2⟩
    rw [m_isIn0_n (by omega) hx, me_bd_s, if_pos rfl, m_th1, me_b2_s, if_neg (by decide)]
theorem t_18 {T : Nat} {a : me_S} {μ : me_M} {o : Int64 × UInt64} {s1 s2 s3 s4 s5 : Int32} (hR : me_R T a μ) : ∃ μ' o' a', f_case_18 μ o s1 s2 s3 s4 s5 = some (μ', o') ∧ me_R T a' μ' := by
  obtain ⟨hC, hM, hI, hbt, hT, hwk⟩ := id hR
  have hwh := hI.wh
  have hnp := hI.n200
  have hD : me_Dd a a μ := ⟨hC, hM, hwk⟩
  unfold f_case_18 f_L_row f_Y_row f_M_row
  generalize me_i2c' s2 = v
  by_cases hb : me_isB s1 (a.w * a.h)
  · obtain ⟨n, hn, rfl⟩ := hb
    have g1 : ∀ α (k : Option α), me_gd (me_inb (me_N n) 16) k = k := fun α k => me_gd_n (by omega) (by omega)
    have g2 : me_ix (me_N n) = n := me_N_ix (by omega)
    have e1 := y_node_o hC hI hn
    by_cases hx : (∃ d, d < 5 ∧ me_fi (me_sb 1) v 0 = me_N d) ∧ me_isB s3 2
    · obtain ⟨⟨d, hd, hv⟩, c, hc, rfl⟩ := hx
      have e3 := y_row_o (μ := μ) (n := n) (c := c) (k := 5) (by omega) hc hd (by omega) hv
      have e4 := m_row_o (k := 5) hM hI hn hc hd (by omega) hv
      have e5 : ∀ μ, f_Str_indexOf1 μ 1 v = some (me_N d) := fun μ => by rw [s_indexOf (by decide), hv]
      have g3 : ∀ α (k : Option α), me_gd (me_inb (me_N c) 2) k = k := fun α k => me_gd_n (by omega) (by omega)
      have g4 : me_ix (me_N c) = c := me_N_ix (by omega)
      have g5 : ∀ α (k : Option α), me_gd (me_inb (me_N d) 5) k = k := fun α k => me_gd_n (by omega) (by omega)
      have g6 : me_ix (me_N d) = d := me_N_ix (by omega)
      have q1 := hC.qn (10 * n + (c * 5 + d)) (by omega)
      have q2 := hM.qn (2 * n + c) d (by omega) (by omega)
      rw [show 5 * (2 * n + c) + d = 10 * n + (c * 5 + d) by omega] at q2
      refine ⟨_, (Int32.toInt64 (me_N (a.q (10 * n + (c * 5 + d))).length), o.2), a, ?_, ((hR.th 0).th 0)⟩
      rw [show (5 : Int32) = me_N 5 from rfl]
      simp [me_bd_s, me_b2_s, me_lt_s, me_oq_n, me_oq_s, me_xb_o, me_xb_e, me_xb2_o, me_xb2_e, me_xm_o, me_xm_e, f_M_thrown, m_th0, m_th1, me_cmp_self, me_up_at, if_true, if_false, me_nr_z, me_nr_o, me_gd_t, me_up_kn, me_up_jn, e1, e3, e4, e5, g1, g2, g3, g4, g5, g6, q1, q2]
    · have e3 := y_row_n (μ := μ) (n := n) (k := 5) (by omega) hx
      have e4 := m_row_n (k := 5) hM hI hn (by omega) (by omega) hx
      refine ⟨_, o, a, ?_, ((hR.th 0).th 2)⟩
      rw [show (5 : Int32) = me_N 5 from rfl]
      simp [me_bd_s, me_b2_s, me_lt_s, me_oq_n, me_oq_s, me_xb_o, me_xb_e, me_xb2_o, me_xb2_e, me_xm_o, me_xm_e, f_M_thrown, m_th0, m_th1, me_cmp_self, me_up_at, if_true, if_false, me_nr_z, me_nr_o, me_gd_t, me_up_kn, me_up_jn, e1, e3, e4]
  · have e1 := y_node_n hC hI hb
    have e2 := m_node_n hM hI hb
    refine ⟨_, o, a, ?_, hR.th 1⟩
    simp [f_M_isNoRow, f_M_isNoRow_b57, s_indexOf (show 1 < 3 by decide), me_bd_s, me_b2_s, me_lt_s, me_oq_n, me_oq_s, me_xb_o, me_xb_e, me_xb2_o, me_xb2_e, me_xm_o, me_xm_e, f_M_thrown, m_th0, m_th1, me_cmp_self, me_up_at, if_true, if_false, me_nr_z, me_nr_o, me_gd_t, me_up_kn, me_up_jn, e1, e2]
theorem t_19 {T : Nat} {a : me_S} {μ : me_M} {o : Int64 × UInt64} {s1 s2 s3 s4 s5 : Int32} (hR : me_R T a μ) : ∃ μ' o' a', f_case_19 μ o s1 s2 s3 s4 s5 = some (μ', o') ∧ me_R T a' μ' := by
  obtain ⟨hC, hM, hI, hbt, hT, hwk⟩ := id hR
  have hwh := hI.wh
  have hnp := hI.n200
  have hD : me_Dd a a μ := ⟨hC, hM, hwk⟩
  unfold f_case_19 f_L_owner f_Y_owner f_M_owner
  generalize me_i2c' s2 = v
  by_cases hb : me_isB s1 (a.w * a.h)
  · obtain ⟨n, hn, rfl⟩ := hb
    have g1 : ∀ α (k : Option α), me_gd (me_inb (me_N n) 16) k = k := fun α k => me_gd_n (by omega) (by omega)
    have g2 : me_ix (me_N n) = n := me_N_ix (by omega)
    have e1 := y_node_o hC hI hn
    by_cases hx : (∃ d, d < 4 ∧ me_fi (me_sb 1) v 0 = me_N d) ∧ me_isB s3 2
    · obtain ⟨⟨d, hd, hv⟩, c, hc, rfl⟩ := hx
      have e3 := y_row_o (μ := μ) (n := n) (c := c) (k := 4) (by omega) hc hd (by omega) hv
      have e4 := m_row_o (k := 4) hM hI hn hc hd (by omega) hv
      have e5 : ∀ μ, f_Str_indexOf1 μ 1 v = some (me_N d) := fun μ => by rw [s_indexOf (by decide), hv]
      have g3 : ∀ α (k : Option α), me_gd (me_inb (me_N c) 2) k = k := fun α k => me_gd_n (by omega) (by omega)
      have g4 : me_ix (me_N c) = c := me_N_ix (by omega)
      have g5 : ∀ α (k : Option α), me_gd (me_inb (me_N d) 5) k = k := fun α k => me_gd_n (by omega) (by omega)
      have g6 : me_ix (me_N d) = d := me_N_ix (by omega)
      have q1 := hC.ro (10 * n + (c * 5 + d)) (by omega)
      have q2 := hM.ro (2 * n + c) d (by omega) (by omega)
      rw [show 5 * (2 * n + c) + d = 10 * n + (c * 5 + d) by omega] at q2
      refine ⟨_, (Int32.toInt64 (me_Op (a.ro (10 * n + (c * 5 + d)))), o.2), a, ?_, ((hR.th 0).th 0)⟩
      rw [show (4 : Int32) = me_N 4 from rfl]
      simp [me_bd_s, me_b2_s, me_lt_s, me_oq_n, me_oq_s, me_xb_o, me_xb_e, me_xb2_o, me_xb2_e, me_xm_o, me_xm_e, f_M_thrown, m_th0, m_th1, me_cmp_self, me_up_at, if_true, if_false, me_nr_z, me_nr_o, me_gd_t, me_up_kn, me_up_jn, e1, e3, e4, e5, g1, g2, g3, g4, g5, g6, q1, q2]
    · have e3 := y_row_n (μ := μ) (n := n) (k := 4) (by omega) hx
      have e4 := m_row_n (k := 4) hM hI hn (by omega) (by omega) hx
      refine ⟨_, o, a, ?_, ((hR.th 0).th 2)⟩
      rw [show (4 : Int32) = me_N 4 from rfl]
      simp [me_bd_s, me_b2_s, me_lt_s, me_oq_n, me_oq_s, me_xb_o, me_xb_e, me_xb2_o, me_xb2_e, me_xm_o, me_xm_e, f_M_thrown, m_th0, m_th1, me_cmp_self, me_up_at, if_true, if_false, me_nr_z, me_nr_o, me_gd_t, me_up_kn, me_up_jn, e1, e3, e4]
  · have e1 := y_node_n hC hI hb
    have e2 := m_node_n hM hI hb
    refine ⟨_, o, a, ?_, hR.th 1⟩
    simp [f_M_isNoRow, f_M_isNoRow_b57, s_indexOf (show 1 < 3 by decide), me_bd_s, me_b2_s, me_lt_s, me_oq_n, me_oq_s, me_xb_o, me_xb_e, me_xb2_o, me_xb2_e, me_xm_o, me_xm_e, f_M_thrown, m_th0, m_th1, me_cmp_self, me_up_at, if_true, if_false, me_nr_z, me_nr_o, me_gd_t, me_up_kn, me_up_jn, e1, e2]
/-- the number of an instruction is right -/
def me_rt (N : Nat) (v x : Int32) : Prop := ((v = 108 ∨ v = 115) → me_isB x 8) ∧ ((v = 100 ∨ v = 114) → me_isB x N) ∧ (v = 106 → me_isB x 12)
theorem me_isB_if {x : Int32} {N : Nat} (hN : N < 2147483648) : (me_isB x N ∧ ¬ x < 0 ∧ ¬ me_N N ≤ x) ∨ (¬ me_isB x N ∧ (x < 0 ∨ (¬ x < 0 ∧ me_N N ≤ x))) := by
  by_cases h : me_isB x N
  · refine Or.inl ⟨h, ?_⟩
    obtain ⟨n, hn, rfl⟩ := h
    exact ⟨me_N_nneg (by omega), by rw [me_N_le hN (by omega)]; omega⟩
  · exact Or.inr ⟨h, me_isB_no hN h⟩
theorem y_numof {a : me_S} {μ : me_M} (hC : me_RC a μ) (hI : me_Iv a) {v x : Int32} : (me_rt (a.w * a.h) v x ∧ f_Y_isNumberOf μ v x = some 1) ∨ (¬ me_rt (a.w * a.h) v x ∧ f_Y_isNumberOf μ v x = some 0) := by
  unfold f_Y_isNumberOf me_rt
  have k8 := me_isB_if (x := x) (N := 8) (by omega)
  have k12 := me_isB_if (x := x) (N := 12) (by omega)
  have z8 : (8 : Int32) = me_N 8 := rfl
  have z12 : (12 : Int32) = me_N 12 := rfl
  have kn : (me_isB x (a.w * a.h) ∧ f_Net_hasNode μ x = some 1) ∨ (¬ me_isB x (a.w * a.h) ∧ f_Net_hasNode μ x = some 0) := by
    by_cases h : me_isB x (a.w * a.h)
    · refine Or.inl ⟨h, ?_⟩
      obtain ⟨n, hn, rfl⟩ := h
      exact y_hasNode_o hC hI hn
    · exact Or.inr ⟨h, y_hasNode_n hC hI h⟩
  by_cases h1 : v = 100
  · subst h1
    rcases kn with ⟨h, e⟩ | ⟨h, e⟩ <;> simp [h, e, me_bd_s, me_b2_s, me_lt_s, me_oq_n, me_oq_s, me_xb_o, me_xb_e, me_xb2_o, me_xb2_e, me_xm_o, me_xm_e, f_M_thrown, m_th0, m_th1, me_cmp_self, me_up_at, if_true, if_false, me_nr_z, me_nr_o, me_gd_t, me_up_kn, me_up_jn]
  by_cases h2 : v = 106
  · subst h2
    rcases k12 with ⟨h, e1, e2⟩ | ⟨h, e | ⟨e1, e2⟩⟩
    · have kk : (if x < 0 then some 0 else if 12 ≤ x then some 0 else some 1 : Option Int32) = some 1 := by rw [if_neg e1, if_neg (show ¬ (12 : Int32) ≤ x from e2)]
      simp [h, kk]
    · have kk : (if x < 0 then some 0 else if 12 ≤ x then some 0 else some 1 : Option Int32) = some 0 := by rw [if_pos e]
      simp [h, kk]
    · have kk : (if x < 0 then some 0 else if 12 ≤ x then some 0 else some 1 : Option Int32) = some 0 := by rw [if_neg e1, if_pos (show (12 : Int32) ≤ x from e2)]
      simp [h, kk]
  by_cases h3 : v = 108
  · subst h3
    rcases k8 with ⟨h, e1, e2⟩ | ⟨h, e | ⟨e1, e2⟩⟩
    · have kk : (if x < 0 then some 0 else if 8 ≤ x then some 0 else some 1 : Option Int32) = some 1 := by rw [if_neg e1, if_neg (show ¬ (8 : Int32) ≤ x from e2)]
      simp [h, kk]
    · have kk : (if x < 0 then some 0 else if 8 ≤ x then some 0 else some 1 : Option Int32) = some 0 := by rw [if_pos e]
      simp [h, kk]
    · have kk : (if x < 0 then some 0 else if 8 ≤ x then some 0 else some 1 : Option Int32) = some 0 := by rw [if_neg e1, if_pos (show (8 : Int32) ≤ x from e2)]
      simp [h, kk]
  by_cases h4 : v = 114
  · subst h4
    rcases kn with ⟨h, e⟩ | ⟨h, e⟩ <;> simp [h, e, me_bd_s, me_b2_s, me_lt_s, me_oq_n, me_oq_s, me_xb_o, me_xb_e, me_xb2_o, me_xb2_e, me_xm_o, me_xm_e, f_M_thrown, m_th0, m_th1, me_cmp_self, me_up_at, if_true, if_false, me_nr_z, me_nr_o, me_gd_t, me_up_kn, me_up_jn]
  by_cases h5 : v = 115
  · subst h5
    rcases k8 with ⟨h, e1, e2⟩ | ⟨h, e | ⟨e1, e2⟩⟩
    · have kk : (if x < 0 then some 0 else if 8 ≤ x then some 0 else some 1 : Option Int32) = some 1 := by rw [if_neg e1, if_neg (show ¬ (8 : Int32) ≤ x from e2)]
      simp [h, kk]
    · have kk : (if x < 0 then some 0 else if 8 ≤ x then some 0 else some 1 : Option Int32) = some 0 := by rw [if_pos e]
      simp [h, kk]
    · have kk : (if x < 0 then some 0 else if 8 ≤ x then some 0 else some 1 : Option Int32) = some 0 := by rw [if_neg e1, if_pos (show (8 : Int32) ≤ x from e2)]
      simp [h, kk]
  · simp [h1, h2, h3, h4, h5]
theorem m_numof {a : me_S} {μ : me_M} (hM : me_RM a μ) (hI : me_Iv a) {u v x s0 : Int32} : (me_rt (a.w * a.h) v x ∧ f_M_program_b15 μ u v x s0 = f_M_program_b88 μ u v x s0 1) ∨ (¬ me_rt (a.w * a.h) v x ∧ f_M_program_b15 μ u v x s0 = f_M_program_b88 μ u v x s0 0) := by
  unfold f_M_program_b15 f_M_program_b29 f_M_program_b51 f_M_program_b83 me_rt
  have k8 : (me_isB x 8 ∧ f_M_isIn μ x 0 7 = some 1) ∨ (¬ me_isB x 8 ∧ f_M_isIn μ x 0 7 = some 0) := by
    by_cases h : me_isB x 8
    · exact Or.inl ⟨h, m_isIn_o (a := 0) (b := 7) (by omega) (by omega) ((me_isB_Rg (by decide)).mp h)⟩
    · exact Or.inr ⟨h, m_isIn_n (a := 0) (b := 7) (by omega) (by omega) (fun q => h ((me_isB_Rg (by decide)).mpr q))⟩
  have k12 : (me_isB x 12 ∧ f_M_isIn μ x 0 11 = some 1) ∨ (¬ me_isB x 12 ∧ f_M_isIn μ x 0 11 = some 0) := by
    by_cases h : me_isB x 12
    · exact Or.inl ⟨h, m_isIn_o (a := 0) (b := 11) (by omega) (by omega) ((me_isB_Rg (by decide)).mp h)⟩
    · exact Or.inr ⟨h, m_isIn_n (a := 0) (b := 11) (by omega) (by omega) (fun q => h ((me_isB_Rg (by decide)).mpr q))⟩
  have kn : (me_isB x (a.w * a.h) ∧ f_M_isNoNode μ x = some 0) ∨ (¬ me_isB x (a.w * a.h) ∧ f_M_isNoNode μ x = some 1) := by
    by_cases h : me_isB x (a.w * a.h)
    · refine Or.inl ⟨h, ?_⟩
      obtain ⟨n, hn, rfl⟩ := h
      exact m_node_o hM hI hn
    · exact Or.inr ⟨h, m_node_n hM hI h⟩
  by_cases h1 : v = 108
  · subst h1
    rcases k8 with ⟨h, e⟩ | ⟨h, e⟩ <;> simp [h, e, me_bd_s, me_b2_s, me_lt_s, me_oq_n, me_oq_s, me_xb_o, me_xb_e, me_xb2_o, me_xb2_e, me_xm_o, me_xm_e, f_M_thrown, m_th0, m_th1, me_cmp_self, me_up_at, if_true, if_false, me_nr_z, me_nr_o, me_gd_t, me_up_kn, me_up_jn]
  by_cases h2 : v = 115
  · subst h2
    rcases k8 with ⟨h, e⟩ | ⟨h, e⟩ <;> simp [h, e, me_bd_s, me_b2_s, me_lt_s, me_oq_n, me_oq_s, me_xb_o, me_xb_e, me_xb2_o, me_xb2_e, me_xm_o, me_xm_e, f_M_thrown, m_th0, m_th1, me_cmp_self, me_up_at, if_true, if_false, me_nr_z, me_nr_o, me_gd_t, me_up_kn, me_up_jn]
  by_cases h3 : v = 100
  · subst h3
    rcases kn with ⟨h, e⟩ | ⟨h, e⟩ <;> simp [h, e, me_bd_s, me_b2_s, me_lt_s, me_oq_n, me_oq_s, me_xb_o, me_xb_e, me_xb2_o, me_xb2_e, me_xm_o, me_xm_e, f_M_thrown, m_th0, m_th1, me_cmp_self, me_up_at, if_true, if_false, me_nr_z, me_nr_o, me_gd_t, me_up_kn, me_up_jn]
  by_cases h4 : v = 114
  · subst h4
    rcases kn with ⟨h, e⟩ | ⟨h, e⟩ <;> simp [h, e, me_bd_s, me_b2_s, me_lt_s, me_oq_n, me_oq_s, me_xb_o, me_xb_e, me_xb2_o, me_xb2_e, me_xm_o, me_xm_e, f_M_thrown, m_th0, m_th1, me_cmp_self, me_up_at, if_true, if_false, me_nr_z, me_nr_o, me_gd_t, me_up_kn, me_up_jn]
  by_cases h5 : v = 106
  · subst h5
    rcases k12 with ⟨h, e⟩ | ⟨h, e⟩ <;> simp [h, e, me_bd_s, me_b2_s, me_lt_s, me_oq_n, me_oq_s, me_xb_o, me_xb_e, me_xb2_o, me_xb2_e, me_xm_o, me_xm_e, f_M_thrown, m_th0, m_th1, me_cmp_self, me_up_at, if_true, if_false, me_nr_z, me_nr_o, me_gd_t, me_up_kn, me_up_jn]
  · simp [h1, h2, h3, h4, h5]
theorem t_26 {T : Nat} {a : me_S} {μ : me_M} {o : Int64 × UInt64} {s1 s2 s3 s4 s5 : Int32} (hR : me_R T a μ) : ∃ μ' o' a', f_case_26 μ o s1 s2 s3 s4 s5 = some (μ', o') ∧ me_R T a' μ' := by
  obtain ⟨hC, hM, hI, hbt, hT, hwk⟩ := id hR
  have hwh := hI.wh
  have hnp := hI.n200
  have hD : me_Dd a a μ := ⟨hC, hM, hwk⟩
  unfold f_case_26 f_L_program f_Y_program f_M_program
  generalize me_i2c' s2 = v
  by_cases hb : me_isB s1 (a.w * a.h)
  · obtain ⟨n, hn, rfl⟩ := hb
    have h16 : n < 16 := by omega
    have g1 : ∀ α (k : Option α), me_gd (me_inb (me_N n) 16) k = k := fun α k => me_gd_n (by omega) (by omega)
    have g2 : me_ix (me_N n) = n := me_N_ix (by omega)
    have e1 := y_node_o hC hI hn
    have e2 : ∀ μ', me_RM a μ' → f_M_isNoNode μ' (me_N n) = some 0 := fun μ' h => m_node_o h hI hn
    have i1 : ∀ μ, f_Str_indexOf1 μ 2 v = some (me_fi (me_sb 2) v 0) := fun μ => s_indexOf (by decide)
    rcases s_name v with ⟨hv, h0⟩ | h0
    · rcases y_numof (μ := μ) hC hI (v := v) (x := s3) with ⟨hr, e3⟩ | ⟨hr, e3⟩
      · have e4 : ∀ μ' s0, me_RM a μ' → f_M_program_b15 μ' (me_N n) v s3 s0 = f_M_program_b88 μ' (me_N n) v s3 s0 1 := fun μ' s0 h => ((m_numof h hI).resolve_right (fun q => q.1 hr)).2
        have hl := hI.2.2.1.iln n
        by_cases hx : a.ln n = 12
        · have g3 : (12 : Int32) ≤ me_N (a.ln n) := by rw [me_N_12, me_N_le (by omega) (by omega)]; omega
          have g4 : me_N (a.ln n) = 12 := by rw [hx]; rfl
          refine ⟨_, o, a, ?_, (((hR.th 0).th 0).th 3)⟩
          simp [f_Y_program_b61, f_M_program_b88, f_M_program_b119, f_M_program_b146, f_M_program_b151, me_bd_s, me_b2_s, me_lt_s, me_oq_n, me_oq_s, me_xb_o, me_xb_e, me_xb2_o, me_xb2_e, me_xm_o, me_xm_e, f_M_thrown, m_th0, m_th1, me_cmp_self, me_up_at, if_true, if_false, me_nr_z, me_nr_o, me_gd_t, me_up_kn, me_up_jn, e1, e2 _ hM, i1, h0, e3, e4 _ _ hM, hC.ln n h16, hM.ln n h16, g1, g2, g3, g4]
        · have g3 : ¬ (12 : Int32) ≤ me_N (a.ln n) := by rw [me_N_12, me_N_le (by omega) (by omega)]; omega
          have g4 : ¬ me_N (a.ln n) = 12 := by rw [me_N_12, me_N_inj (by omega) (by omega)]; exact hx
          by_cases hq : a.co n = 114 ∨ a.co n = 119 ∨ a.co n = 98
          · have e5 := y_busy hC h16
            have e6 := m_busy ((hR.th 0).th 0).2.1 h16
            rw [if_pos hq] at e5 e6
            refine ⟨_, o, a, ?_, (((hR.th 0).th 0).th 3)⟩
            simp [f_Y_program_b61, f_M_program_b88, f_M_program_b119, f_M_program_b146, f_M_program_b151, me_bd_s, me_b2_s, me_lt_s, me_oq_n, me_oq_s, me_xb_o, me_xb_e, me_xb2_o, me_xb2_e, me_xm_o, me_xm_e, f_M_thrown, m_th0, m_th1, me_cmp_self, me_up_at, if_true, if_false, me_nr_z, me_nr_o, me_gd_t, me_up_kn, me_up_jn, e1, e2 _ hM, i1, h0, e3, e4 _ _ hM, e5, e6, hC.ln n h16, hM.ln n h16, g1, g2, g3, g4]
          · have e5 := y_busy hC h16
            rw [if_neg hq] at e5
            have hc : me_nr .char v = true := by
              rcases hv with rfl | rfl | rfl | rfl | rfl | rfl | rfl | rfl | rfl | rfl | rfl <;> decide +kernel
            have hnc := me_nar_c hc
            have g5 : ∀ α (k : Option α), me_gd (me_inb (me_N (a.ln n)) 12) k = k := fun α k => me_gd_n (by omega) (by omega)
            have g6 : me_ix (me_N (a.ln n)) = a.ln n := me_N_ix (by omega)
            have g7 : me_N (a.ln n) + 1 = me_N (a.ln n + 1) := by rw [me_N_1, me_N_add]
            have D1 := hD.c (hC.w_nm n (a.ln n) v) (by decide) (Or.inl (by decide))
            have D2 := D1.c (D1.1.w_nu n (a.ln n) s3) (by decide) (Or.inl (by decide))
            have D3 := D2.c (D2.1.w_ln n (a.ln n + 1) (fun j hj => by
              rw [me_up_kn (by decide), me_up_ap]
              show _ = me_fu2 a.nm n (a.ln n) v n j
              unfold me_fu2
              by_cases e : j = a.ln n
              · rw [if_pos ⟨rfl, rfl, e⟩, if_pos ⟨rfl, e⟩]
              · rw [if_neg (fun q => e q.2.2), if_neg (fun q => e q.2)]; exact hC.nm n j h16 (by omega)) (fun j hj => by
              rw [me_up_ap]
              show _ = me_fu2 a.nu n (a.ln n) s3 n j
              unfold me_fu2
              by_cases e : j = a.ln n
              · rw [if_pos ⟨rfl, rfl, e⟩, if_pos ⟨rfl, e⟩]
              · rw [if_neg (fun q => e q.2.2), if_neg (fun q => e q.2), me_up_kn (by decide)]; exact hC.nu n j h16 (by omega))) (by decide) (Or.inl (by decide))
            have D6 := ((D3.th 0).th 0).th 0
            have e6 := m_busy ((D3.th 0).th 0).2.1 h16
            rw [if_neg hq] at e6
            have D7 := D6.m (D6.2.1.w_nm n (a.ln n) v) (by decide)
            have D8 := D7.m (D7.2.1.w_nu n (a.ln n) s3) (by decide)
            have D9 := D8.m (D8.2.1.w_ln n (a.ln n + 1) (fun j hj => by
              rw [me_up_kn (by decide), me_up_ap]
              show _ = me_fu2 a.nm n (a.ln n) v n j
              unfold me_fu2
              by_cases e : j = a.ln n
              · rw [if_pos ⟨rfl, rfl, e⟩, if_pos ⟨rfl, e⟩]
              · rw [if_neg (fun q => e q.2.2), if_neg (fun q => e q.2)]; exact D6.2.1.nm n j h16 (by show j < a.ln n; omega)) (fun j hj => by
              rw [me_up_ap]
              show _ = me_fu2 a.nu n (a.ln n) s3 n j
              unfold me_fu2
              by_cases e : j = a.ln n
              · rw [if_pos ⟨rfl, rfl, e⟩, if_pos ⟨rfl, e⟩]
              · rw [if_neg (fun q => e q.2.2), if_neg (fun q => e q.2), me_up_kn (by decide)]; exact D6.2.1.nu n j h16 (by show j < a.ln n; omega))) (by decide)
            have hc0 := hI.2.2.1
            have hI2 : me_Iv (((a.s_nm (me_fu2 a.nm n (a.ln n) v)).s_nu (me_fu2 a.nu n (a.ln n) s3)).s_ln (me_fu a.ln n (a.ln n + 1))) := ⟨hI.1, hI.2.1, me_IC.mk hc0.idp (fun m => by show me_fu a.ln n (a.ln n + 1) m ≤ 12; rw [me_fu_ap]; split; omega; exact hc0.iln m) hc0.ica hc0.ico hc0.ifa (fun m j hj => by
              replace hj : j < me_fu a.ln n (a.ln n + 1) m := hj
              show me_iok a.w a.h (me_fu2 a.nm n (a.ln n) v m j) (me_fu2 a.nu n (a.ln n) s3 m j)
              rw [me_fu_ap] at hj
              unfold me_fu2
              by_cases e : m = n ∧ j = a.ln n
              · rw [if_pos e, if_pos e]
                unfold me_iok
                obtain ⟨r1, r2, r3⟩ := hr
                rcases hv with h | h | h | h | h | h | h | h | h | h | h
                · exact Or.inl (Or.inl h)
                · exact Or.inr (Or.inl ⟨Or.inl h, r1 (Or.inl h)⟩)
                · exact Or.inr (Or.inl ⟨Or.inr h, r1 (Or.inr h)⟩)
                · exact Or.inl (Or.inr (Or.inl h))
                · exact Or.inl (Or.inr (Or.inr (Or.inl h)))
                · exact Or.inl (Or.inr (Or.inr (Or.inr (Or.inl h))))
                · exact Or.inr (Or.inr (Or.inl ⟨Or.inl h, r2 (Or.inl h)⟩))
                · exact Or.inr (Or.inr (Or.inl ⟨Or.inr h, r2 (Or.inr h)⟩))
                · exact Or.inr (Or.inr (Or.inr ⟨h, r3 h⟩))
                · exact Or.inl (Or.inr (Or.inr (Or.inr (Or.inr (Or.inl h)))))
                · exact Or.inl (Or.inr (Or.inr (Or.inr (Or.inr (Or.inr h)))))
              · rw [if_neg e, if_neg e]
                by_cases e1 : m = n
                · rw [if_pos e1] at hj
                  subst e1
                  exact hc0.iok m j (by have : ¬ j = a.ln m := fun q => e ⟨rfl, q⟩; omega)
                · rw [if_neg e1] at hj
                  exact hc0.iok m j hj) (fun m hm => by
              replace hm : a.co m = 119 := hm
              have hmn : ¬ m = n := fun e => hq (by rw [← e, hm]; exact Or.inr (Or.inl rfl))
              show a.ca m < me_fu a.ln n (a.ln n + 1) m ∧ me_fu2 a.nm n (a.ln n) v m (a.ca m) = 114
              rw [me_fu_ne hmn]
              unfold me_fu2
              rw [if_neg (fun q => hmn q.1)]
              exact hc0.iwt m hm) (fun m hm => by
              replace hm : a.co m = 98 := hm
              have hmn : ¬ m = n := fun e => hq (by rw [← e, hm]; exact Or.inr (Or.inr rfl))
              show a.ca m < me_fu a.ln n (a.ln n + 1) m
              rw [me_fu_ne hmn]
              exact hc0.ibt m hm), hI.2.2.2⟩
            refine ⟨_, (Int32.toInt64 (me_N (a.ln n + 1)), o.2), _, ?_, D9.R rfl hI2 hbt hT⟩
            simp [f_Core_addInstruction, f_M_program_b88, f_M_program_b119, f_M_program_b146, f_M_program_b151, me_bd_s, me_b2_s, me_lt_s, me_oq_n, me_oq_s, me_xb_o, me_xb_e, me_xb2_o, me_xb2_e, me_xm_o, me_xm_e, f_M_thrown, m_th0, m_th1, me_cmp_self, me_up_at, if_true, if_false, me_nr_z, me_nr_o, me_gd_t, me_up_kn, me_up_jn, e1, e2 _ D3.2.1, i1, h0, e3, e4 _ _ D3.2.1, e5, e6, hC.ln n h16, hM.ln n h16, g1, g2, g3, g4, g5, g6, g7, hnc]
      · have e4 : ∀ s0, f_M_program_b15 μ (me_N n) v s3 s0 = f_M_program_b88 μ (me_N n) v s3 s0 0 := fun s0 => ((m_numof hM hI).resolve_left (fun q => hr q.1)).2
        refine ⟨_, o, a, ?_, ((hR.th 0).th 2)⟩
        simp [f_Y_program_b24, f_M_program_b88, f_M_program_b114, f_M_program_b119, me_bd_s, me_b2_s, me_lt_s, me_oq_n, me_oq_s, me_xb_o, me_xb_e, me_xb2_o, me_xb2_e, me_xm_o, me_xm_e, f_M_thrown, m_th0, m_th1, me_cmp_self, me_up_at, if_true, if_false, me_nr_z, me_nr_o, me_gd_t, me_up_kn, me_up_jn, e1, e2 _ hM, i1, h0, e3, e4]
    · refine ⟨_, o, a, ?_, ((hR.th 0).th 2)⟩
      rcases m_numof (μ := μ) hM hI (u := me_N n) (v := v) (x := s3) (s0 := 0) with ⟨-, e4⟩ | ⟨-, e4⟩ <;>
        simp [f_Y_program_b24, f_M_program_b88, f_M_program_b114, f_M_program_b119, me_bd_s, me_b2_s, me_lt_s, me_oq_n, me_oq_s, me_xb_o, me_xb_e, me_xb2_o, me_xb2_e, me_xm_o, me_xm_e, f_M_thrown, m_th0, m_th1, me_cmp_self, me_up_at, if_true, if_false, me_nr_z, me_nr_o, me_gd_t, me_up_kn, me_up_jn, e1, e2 _ hM, i1, h0, e4]
  · have e1 := y_node_n hC hI hb
    have e2 := m_node_n hM hI hb
    have i1 : ∀ μ, f_Str_indexOf1 μ 2 v = some (me_fi (me_sb 2) v 0) := fun μ => s_indexOf (by decide)
    refine ⟨_, o, a, ?_, hR.th 1⟩
    by_cases h0 : me_fi (me_sb 2) v 0 < 0
    · rcases m_numof (μ := μ) hM hI (u := s1) (v := v) (x := s3) (s0 := 0) with ⟨-, e4⟩ | ⟨-, e4⟩ <;>
        simp [f_M_program_b88, me_bd_s, me_b2_s, me_lt_s, me_oq_n, me_oq_s, me_xb_o, me_xb_e, me_xb2_o, me_xb2_e, me_xm_o, me_xm_e, f_M_thrown, m_th0, m_th1, me_cmp_self, me_up_at, if_true, if_false, me_nr_z, me_nr_o, me_gd_t, me_up_kn, me_up_jn, e1, e2, i1, h0, e4]
    · rcases m_numof (μ := μ) hM hI (u := s1) (v := v) (x := s3) (s0 := 1) with ⟨-, e4⟩ | ⟨-, e4⟩ <;>
        simp [f_M_program_b88, me_bd_s, me_b2_s, me_lt_s, me_oq_n, me_oq_s, me_xb_o, me_xb_e, me_xb2_o, me_xb2_e, me_xm_o, me_xm_e, f_M_thrown, m_th0, m_th1, me_cmp_self, me_up_at, if_true, if_false, me_nr_z, me_nr_o, me_gd_t, me_up_kn, me_up_jn, e1, e2, i1, h0, e4]
