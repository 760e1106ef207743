/-! CALLS THAT WRITE A LITTLE -/
/-- class by one ghost, reference by another -/
def me_Dd (a b : me_S) (μ : me_M) : Prop := me_RC a μ ∧ me_RM b μ ∧ ∀ n, n < 16 → μ 13 n 4 = 0
theorem me_RC.fr {a : me_S} {μ : me_M} (h : me_RC a μ) {k i j : Nat} {x : Int32} (hk : 36 ≤ k) : me_RC a (me_up μ k i j x) := h.co_ (fun k' hk' => by
  funext i' j'
  exact me_up_kn (by omega))
theorem me_RM.fr {a : me_S} {μ : me_M} (h : me_RM a μ) {k i j : Nat} {x : Int32} (hk : k < 36) : me_RM a (me_up μ k i j x) := h.co_ (fun k' hk' => ⟨fun i' j' e => Or.inr (me_up_kn (by omega)), fun e1 _ _ => by
  funext i' j'
  exact me_up_kn (by omega)⟩)
theorem me_Dd.c {a a' b : me_S} {μ : me_M} {k i j : Nat} {x : Int32} (h : me_Dd a b μ) (hw : me_RC a' (me_up μ k i j x)) (hk : k < 36) (h13 : ¬ k = 13 ∨ ¬ j = 4) : me_Dd a' b (me_up μ k i j x) :=
  ⟨hw, h.2.1.fr hk, fun n hn => by
    rcases h13 with e | e
    · rw [me_up_kn (fun q => e q.symm)]; exact h.2.2 n hn
    · rw [me_up_jn (fun q => e q.symm)]; exact h.2.2 n hn⟩
theorem me_Dd.m {a b b' : me_S} {μ : me_M} {k i j : Nat} {x : Int32} (h : me_Dd a b μ) (hw : me_RM b' (me_up μ k i j x)) (hk : 36 ≤ k) : me_Dd a b' (me_up μ k i j x) :=
  ⟨h.1.fr hk, hw, fun n hn => (me_up_kn (by omega)).trans (h.2.2 n hn)⟩
theorem me_Dd.th {a b : me_S} {μ : me_M} (h : me_Dd a b μ) (x : Int32) : me_Dd a b (me_up μ 36 0 42 x) := h.m (h.2.1.w_th x) (by decide)
theorem me_Dd.R {T : Nat} {a b : me_S} {μ : me_M} (h : me_Dd a b μ) (e : a = b) (hI : me_Iv a) (hb : a.bt ≤ 100 * T) (hT : T ≤ 600) : me_R T a μ := by
  subst e
  exact ⟨h.1, h.2.1, hI, hb, hT, h.2.2⟩
theorem me_nar_c {x : Int32} (h : me_nr .char x = true) : vp_nar .char x = x := by
  unfold me_nr at h
  rw [Bool.and_eq_true, decide_eq_true_eq] at h
  have h1 := h.1
  unfold vp_nar
  rw [h1]
theorem t_32 {T : Nat} {a : me_S} {μ : me_M} {o : Int64 × UInt64} {s1 s2 s3 s4 s5 : Int32} (hR : me_R T a μ) : ∃ μ' o' a', f_case_32 μ o s1 s2 s3 s4 s5 = some (μ', o') ∧ me_R T a' μ' := by
  obtain ⟨hC, hM, hI, hbt, hT, hwk⟩ := id hR
  have hwh := hI.wh
  have hnp := hI.n200
  have hD : me_Dd a a μ := ⟨hC, hM, hwk⟩
  by_cases hb : me_isB s1 (a.w * a.h)
  · obtain ⟨n, hn, rfl⟩ := hb
    have g1 : ∀ α (k : Option α), me_gd (me_inb (me_N n) 16) k = k := fun α k => me_gd_n (by omega) (by omega)
    have g2 : me_ix (me_N n) = n := me_N_ix (by omega)
    have h16 : n < 16 := by omega
    have e1 := y_node_o hC hI hn
    have e2 : ∀ μ', me_RM a μ' → f_M_isNoNode μ' (me_N n) = some 0 := fun μ' h => m_node_o h hI hn
    have hM2 := (hR.th 0).2.1
    by_cases hc : me_isRg s2 0 7
    · have e3 : f_Y_needRange μ s2 0 7 = some (.ok ()) := y_range_o (a := 0) (b := 7) (by omega) (by omega) hc
      have e4 : ∀ μ, f_M_isIn μ s2 0 7 = some 1 := fun μ => m_isIn_o (a := 0) (b := 7) (by omega) (by omega) hc
      obtain ⟨j, hj0, hj, rfl⟩ := hc
      have g3 : ∀ α (k : Option α), me_gd (me_inb (me_N j) 8) k = k := fun α k => me_gd_n (by omega) (by omega)
      have g4 : me_ix (me_N j) = j := me_N_ix (by omega)
      have D1 := hD.c (hC.w_mm n j s3) (by decide) (Or.inl (by decide))
      have D3 := (D1.th 0).th 0
      have D4 := D3.m (D3.2.1.w_mm n j s3) (by decide)
      refine ⟨_, (Int32.toInt64 (a.mm n j), o.2), _, ?_, D4.R rfl hI hbt hT⟩
      simp [f_case_32, f_L_set, f_Y_set, f_M_set, f_M_isNoWord, f_M_isNoWord_b29, me_bd_s, me_b2_s, me_lt_s, me_oq_n, me_oq_s, me_xb_o, me_xb_e, me_xb2_o, me_xb2_e, me_xm_o, me_xm_e, f_M_thrown, m_th0, m_th1, me_cmp_self, me_up_at, if_true, if_false, me_nr_z, me_nr_o, me_gd_t, me_up_kn, me_up_jn, e1, e2 _ D1.2.1, e3, e4, hC.mm n j h16 (by omega), hM.mm n j h16 (by omega), g1, g2, g3, g4]
    · have e3 : f_Y_needRange μ s2 0 7 = some (.error 2) := y_range_n (a := 0) (b := 7) (by omega) (by omega) hc
      have e4 : ∀ μ, f_M_isIn μ s2 0 7 = some 0 := fun μ => m_isIn_n (a := 0) (b := 7) (by omega) (by omega) hc
      refine ⟨_, o, a, ?_, ((hR.th 0).th 2)⟩
      simp [f_case_32, f_L_set, f_Y_set, f_M_set, f_M_isNoWord, f_M_isNoWord_b29, f_M_isNoWord_b36, me_bd_s, me_b2_s, me_lt_s, me_oq_n, me_oq_s, me_xb_o, me_xb_e, me_xb2_o, me_xb2_e, me_xm_o, me_xm_e, f_M_thrown, m_th0, m_th1, me_cmp_self, me_up_at, if_true, if_false, me_nr_z, me_nr_o, me_gd_t, me_up_kn, me_up_jn, e1, e2 _ hM, e3, e4]
  · have e1 := y_node_n hC hI hb
    have e2 := m_node_n hM hI hb
    refine ⟨_, o, a, ?_, hR.th 1⟩
    simp [f_case_32, f_L_set, f_Y_set, f_M_set, me_bd_s, me_b2_s, me_lt_s, me_oq_n, me_oq_s, me_xb_o, me_xb_e, me_xb2_o, me_xb2_e, me_xm_o, me_xm_e, f_M_thrown, m_th0, m_th1, me_cmp_self, me_up_at, if_true, if_false, me_nr_z, me_nr_o, me_gd_t, me_up_kn, me_up_jn, e1, e2, f_M_isNoWord, f_M_isNoWord_b36]
theorem t_16 {T : Nat} {a : me_S} {μ : me_M} {o : Int64 × UInt64} {s1 s2 s3 s4 s5 : Int32} (hR : me_R T a μ) : ∃ μ' o' a', f_case_16 μ o s1 s2 s3 s4 s5 = some (μ', o') ∧ me_R T a' μ' := by
  unfold f_case_16
  obtain ⟨hC, hM, hI, hbt, hT, hwk⟩ := id hR
  have hwh := hI.wh
  have hnp := hI.n200
  have hD : me_Dd a a μ := ⟨hC, hM, hwk⟩
  have e1 : f_Str_indexOf1 μ 0 (me_i2c' s1) = _ := s_indexOf (by decide)
  generalize me_i2c' s1 = v at e1 ⊢
  rcases s_way v with ⟨hv, h0⟩ | ⟨h1, h2, h3, h0⟩
  · have hc : me_nr .char v = true := me_chr (by rcases hv with e | e | e <;> simp [e])
    have hc2 : me_nr .char a.wy = true := me_chr (by rcases hI.1.iwy with e | e | e <;> simp [e])
    have D1 := hD.c (hC.w_wy v) (by decide) (Or.inl (by decide))
    have D2 := D1.th 0
    have D4 := D2.m (D2.2.1.w_wy v) (by decide)
    have hI2 : me_Iv (a.s_wy v) := ⟨me_I0.mk hI.1.iw hI.1.ih hI.1.irp (by rcases hv with e | e | e; exact Or.inl e; exact Or.inr (Or.inl e); exact Or.inr (Or.inr e)) hI.1.ifl hI.1.ifs, hI.2⟩
    refine ⟨_, (Int32.toInt64 a.wy, o.2), _, ?_, D4.R rfl hI2 hbt hT⟩
    rcases hv with rfl | rfl | rfl <;> simp [f_L_way, f_Y_way, f_M_way, f_M_way_b23, f_M_way_b24, me_bd_s, me_b2_s, me_lt_s, me_oq_n, me_oq_s, me_xb_o, me_xb_e, me_xb2_o, me_xb2_e, me_xm_o, me_xm_e, f_M_thrown, m_th0, m_th1, me_cmp_self, me_up_at, if_true, if_false, me_nr_z, me_nr_o, me_gd_t, me_up_kn, me_up_jn, e1, h0, hC.wy, hc, hc2, hM.wy]
  · refine ⟨_, o, a, ?_, hR.th 1⟩
    simp [f_L_way, f_Y_way, f_M_way, f_M_way_b24, me_bd_s, me_b2_s, me_lt_s, me_oq_n, me_oq_s, me_xb_o, me_xb_e, me_xb2_o, me_xb2_e, me_xm_o, me_xm_e, f_M_thrown, m_th0, m_th1, me_cmp_self, me_up_at, if_true, if_false, me_nr_z, me_nr_o, me_gd_t, me_up_kn, me_up_jn, e1, h0, h1, h2, h3]
theorem y_busy {a : me_S} {μ : me_M} (hC : me_RC a μ) {n : Nat} (hn : n < 16) : f_Core_isBusy μ n = some (if a.co n = 114 ∨ a.co n = 119 ∨ a.co n = 98 then 1 else 0) := by
  unfold f_Core_isBusy f_Core_isActive f_Core_isActive_b18 f_Core_isBusy_b16
  rw [hC.co n hn]
  by_cases h1 : a.co n = 114
  · rw [if_pos h1, me_bd_s, if_neg (by decide), if_pos (Or.inl h1)]
  · rw [if_neg h1]
    by_cases h2 : a.co n = 119
    · rw [if_pos h2, me_bd_s, if_neg (by decide), if_pos (Or.inr (Or.inl h2))]
    · rw [if_neg h2, me_bd_s, if_pos rfl]
      by_cases h3 : a.co n = 98
      · rw [if_pos h3, if_pos (Or.inr (Or.inr h3))]
      · rw [if_neg h3, if_neg (by rintro (e | e | e); exact h1 e; exact h2 e; exact h3 e)]
theorem m_busy {a : me_S} {μ : me_M} (hM : me_RM a μ) {n : Nat} (hn : n < 16) : f_M_isBusy μ (me_N n) = some (if a.co n = 114 ∨ a.co n = 119 ∨ a.co n = 98 then 1 else 0) := by
  unfold f_M_isBusy f_M_isBusy_b33
  simp only [me_gd_n (show n < 2147483648 by omega) hn, me_N_ix (show n < 2147483648 by omega), hM.co n hn]
  by_cases h1 : a.co n = 114
  · rw [if_pos h1, if_pos (Or.inl h1)]
  · rw [if_neg h1]
    by_cases h2 : a.co n = 119
    · rw [if_pos h2, if_pos (Or.inr (Or.inl h2))]
    · rw [if_neg h2]
      by_cases h3 : a.co n = 98
      · rw [if_pos h3, if_pos (Or.inr (Or.inr h3))]
      · rw [if_neg h3, if_neg (by rintro (e | e | e); exact h1 e; exact h2 e; exact h3 e)]
theorem t_27 {T : Nat} {a : me_S} {μ : me_M} {o : Int64 × UInt64} {s1 s2 s3 s4 s5 : Int32} (hR : me_R T a μ) : ∃ μ' o' a', f_case_27 μ o s1 s2 s3 s4 s5 = some (μ', o') ∧ me_R T a' μ' := by
  obtain ⟨hC, hM, hI, hbt, hT, hwk⟩ := id hR
  have hwh := hI.wh
  have hnp := hI.n200
  have hD : me_Dd a a μ := ⟨hC, hM, hwk⟩
  by_cases hb : me_isB s1 (a.w * a.h)
  · obtain ⟨n, hn, rfl⟩ := hb
    have g1 : ∀ α (k : Option α), me_gd (me_inb (me_N n) 16) k = k := fun α k => me_gd_n (by omega) (by omega)
    have g2 : me_ix (me_N n) = n := me_N_ix (by omega)
    have h16 : n < 16 := by omega
    have e1 := y_node_o hC hI hn
    have e2 : ∀ μ', me_RM a μ' → f_M_isNoNode μ' (me_N n) = some 0 := fun μ' h => m_node_o h hI hn
    have hM2 := (hR.th 0).2.1
    by_cases hq : a.co n = 114 ∨ a.co n = 119 ∨ a.co n = 98
    · have e3 := y_busy hC h16
      have e4 := m_busy (hR.th 0).2.1 h16
      rw [if_pos hq] at e3 e4
      refine ⟨_, o, a, ?_, ((hR.th 0).th 2)⟩
      simp [f_case_27, f_L_clear, f_Y_clear, f_Y_needCoreAtRest, f_M_clear, me_bd_s, me_b2_s, me_lt_s, me_oq_n, me_oq_s, me_xb_o, me_xb_e, me_xb2_o, me_xb2_e, me_xm_o, me_xm_e, f_M_thrown, m_th0, m_th1, me_cmp_self, me_up_at, if_true, if_false, me_nr_z, me_nr_o, me_gd_t, me_up_kn, me_up_jn, e1, e2 _ hM, e3, e4, g1, g2]
    · have e3 := y_busy hC h16
      have D1 := hD.c (hC.w_ln n 0 (fun j hj => absurd hj (Nat.not_lt_zero j)) (fun j hj => absurd hj (Nat.not_lt_zero j))) (by decide) (Or.inl (by decide))
      have z0 : me_N 0 = (0 : Int32) := rfl
      rw [z0] at D1
      have D2 := D1.th 0
      have e4 := m_busy D2.2.1 h16
      rw [if_neg hq] at e3 e4
      have D3 := D2.th 0
      have D4 := D3.m (D3.2.1.w_ln n 0 (fun j hj => absurd hj (Nat.not_lt_zero j)) (fun j hj => absurd hj (Nat.not_lt_zero j))) (by decide)
      rw [z0] at D4
      have hc := hI.2.2.1
      have hI2 : me_Iv (a.s_ln (me_fu a.ln n 0)) := ⟨hI.1, hI.2.1, me_IC.mk hc.idp (fun m => by show me_fu a.ln n 0 m ≤ 12; rw [me_fu_ap]; split; omega; exact hc.iln m) hc.ica hc.ico hc.ifa (fun m j hj => by
          replace hj : j < me_fu a.ln n 0 m := hj
          rw [me_fu_ap] at hj
          split at hj
          · omega
          · exact hc.iok m j hj) (fun m hm => by
          replace hm : a.co m = 119 := hm
          have : ¬ m = n := fun e => hq (by rw [← e, hm]; exact Or.inr (Or.inl rfl))
          show a.ca m < me_fu a.ln n 0 m ∧ a.nm m (a.ca m) = 114
          rw [me_fu_ne this]
          exact hc.iwt m hm) (fun m hm => by
          replace hm : a.co m = 98 := hm
          have : ¬ m = n := fun e => hq (by rw [← e, hm]; exact Or.inr (Or.inr rfl))
          show a.ca m < me_fu a.ln n 0 m
          rw [me_fu_ne this]
          exact hc.ibt m hm), hI.2.2.2⟩
      refine ⟨_, (Int32.toInt64 (me_N (a.ln n)), o.2), _, ?_, D4.R rfl hI2 hbt hT⟩
      simp [f_case_27, f_L_clear, f_Y_clear, f_Y_needCoreAtRest, f_M_clear, me_bd_s, me_b2_s, me_lt_s, me_oq_n, me_oq_s, me_xb_o, me_xb_e, me_xb2_o, me_xb2_e, me_xm_o, me_xm_e, f_M_thrown, m_th0, m_th1, me_cmp_self, me_up_at, if_true, if_false, me_nr_z, me_nr_o, me_gd_t, me_up_kn, me_up_jn, e1, e2 _ D1.2.1, e3, e4, g1, g2, hC.ln n h16, hM.ln n h16]
  · have e1 := y_node_n hC hI hb
    have e2 := m_node_n hM hI hb
    refine ⟨_, o, a, ?_, hR.th 1⟩
    simp [f_case_27, f_L_clear, f_Y_clear, f_M_clear, me_bd_s, me_b2_s, me_lt_s, me_oq_n, me_oq_s, me_xb_o, me_xb_e, me_xb2_o, me_xb2_e, me_xm_o, me_xm_e, f_M_thrown, m_th0, m_th1, me_cmp_self, me_up_at, if_true, if_false, me_nr_z, me_nr_o, me_gd_t, me_up_kn, me_up_jn, e1, e2]
