/-! SUMS OF LOOPS; start, sleep, fail -/
def me_sm (g : Nat → Nat) : Nat → Nat → Nat
  | _, 0 => 0
  | i, d + 1 => g i + me_sm g (i + 1) d
theorem me_sm_le {g : Nat → Nat} {c : Nat} (h : ∀ i, g i ≤ c) : ∀ (d i : Nat), me_sm g i d ≤ c * d := by
  intro d
  induction d with
  | zero => intro i; exact Nat.zero_le _
  | succ d ih =>
    intro i
    show g i + me_sm g (i + 1) d ≤ c * (d + 1)
    have h1 := h i
    have h2 := ih (i + 1)
    rw [Nat.mul_add]
    omega
theorem me_sm_cg {g g' : Nat → Nat} : ∀ (d i : Nat), (∀ j, i ≤ j → j < i + d → g j = g' j) → me_sm g i d = me_sm g' i d := by
  intro d
  induction d with
  | zero => intro i _; rfl
  | succ d ih =>
    intro i h
    show g i + me_sm g (i + 1) d = g' i + me_sm g' (i + 1) d
    rw [h i (Nat.le_refl _) (by omega), ih (i + 1) (fun j h1 h2 => h j (by omega) (by omega))]
def me_bs1 (a : me_S) (n : Nat) : Nat := if a.co n = 114 ∨ a.co n = 119 ∨ a.co n = 98 then 1 else 0
theorem me_bs1_le (a : me_S) (n : Nat) : me_bs1 a n ≤ 1 := by
  unfold me_bs1
  split <;> omega
theorem y_cntBusy {a : me_S} {μ : me_M} (hC : me_RC a μ) (hI : me_Iv a) : ∀ (d f i c : Nat), i + d = a.w * a.h → d < f → c + d < 1000 → f_Works_countBusy_h4 μ f (me_N c) (me_N i) = some (me_N (c + me_sm (me_bs1 a) i d)) := by
  have hwh := hI.wh
  intro d
  induction d with
  | zero =>
    intro f i c h1 h2 h3
    obtain ⟨f, rfl⟩ : ∃ g, f = g + 1 := ⟨f - 1, by omega⟩
    show f_Works_countBusy_b4 _ _ _ _ = _
    unfold f_Works_countBusy_b4
    rw [hC.nn, if_pos (by rw [me_N_le (by omega) (by omega)]; omega)]
    rfl
  | succ d ih =>
    intro f i c h1 h2 h3
    obtain ⟨f, rfl⟩ : ∃ g, f = g + 1 := ⟨f - 1, by omega⟩
    show f_Works_countBusy_b4 _ _ _ _ = _
    unfold f_Works_countBusy_b4
    rw [hC.nn, if_neg (by rw [me_N_le (by omega) (by omega)]; omega), me_gd_n (by omega) (by omega), me_N_ix (by omega), y_busy hC (by omega), me_bd_s]
    show _ = some (me_N (c + (me_bs1 a i + me_sm (me_bs1 a) (i + 1) d)))
    unfold me_bs1
    by_cases hb : a.co i = 114 ∨ a.co i = 119 ∨ a.co i = 98
    · rw [if_pos hb, if_neg (by decide), if_pos hb, me_lt_s, me_N_inc, me_lt_s, me_N_inc, ih f (i + 1) (c + 1) (by omega) (by omega) (by omega)]
      congr 2
      unfold me_bs1
      omega
    · rw [if_neg hb, if_pos rfl, if_neg hb, me_lt_s, me_N_inc, ih f (i + 1) c (by omega) (by omega) (by omega)]
      congr 2
      unfold me_bs1
      omega
theorem m_cntBusy {a : me_S} {μ : me_M} (hM : me_RM a μ) (hI : me_Iv a) : ∀ (d f i c : Nat), i + d = a.w * a.h → d < f → c + d < 1000 → f_M_start_h76 f μ (me_N c) (me_N i) = some (μ, me_N (c + me_sm (me_bs1 a) i d)) := by
  have hwh := hI.wh
  intro d
  induction d with
  | zero =>
    intro f i c h1 h2 h3
    obtain ⟨f, rfl⟩ : ∃ g, f = g + 1 := ⟨f - 1, by omega⟩
    show f_M_start_b76 _ _ _ _ = _
    unfold f_M_start_b76 f_M_nodes
    rw [me_bd_s, hM.w, hM.h, me_N_mul, if_pos (by rw [me_N_le (by omega) (by omega)]; omega)]
    rfl
  | succ d ih =>
    intro f i c h1 h2 h3
    obtain ⟨f, rfl⟩ : ∃ g, f = g + 1 := ⟨f - 1, by omega⟩
    show f_M_start_b76 _ _ _ _ = _
    unfold f_M_start_b76 f_M_nodes
    rw [me_bd_s, hM.w, hM.h, me_N_mul, if_neg (by rw [me_N_le (by omega) (by omega)]; omega), m_busy hM (by omega), me_bd_s]
    show _ = some (μ, me_N (c + (me_bs1 a i + me_sm (me_bs1 a) (i + 1) d)))
    unfold me_bs1
    by_cases hb : a.co i = 114 ∨ a.co i = 119 ∨ a.co i = 98
    · rw [if_pos hb, if_neg (by decide), if_pos hb, me_lt_s, me_N_inc, me_lt_s, me_N_1, me_N_add, ih f (i + 1) (c + 1) (by omega) (by omega) (by omega)]
      congr 3
      unfold me_bs1
      omega
    · rw [if_neg hb, if_pos rfl, if_neg hb, me_lt_s, me_N_inc, me_lt_s, me_N_0, me_N_add, ih f (i + 1) (c + 0) (by omega) (by omega) (by omega)]
      congr 3
      unfold me_bs1
      omega
theorem me_nar_r : vp_nar .char 114 = 114 := rfl
theorem me_RM.w_start {a : me_S} {μ : me_M} (h : me_RM a μ) (x v : Nat) : me_RM (me_S.s_co (me_S.s_ca a (me_fu a.ca x v)) (me_fu a.co x 114)) (me_up (me_up μ 91 0 x (me_N v)) 89 0 x (114)) :=
  me_RM.mk ((me_up_kn (by decide)).trans ((me_up_kn (by decide)).trans (h.w)))
    ((me_up_kn (by decide)).trans ((me_up_kn (by decide)).trans (h.h)))
    ((me_up_kn (by decide)).trans ((me_up_kn (by decide)).trans (h.rp)))
    ((me_up_kn (by decide)).trans ((me_up_kn (by decide)).trans (h.wy)))
    ((me_up_kn (by decide)).trans ((me_up_kn (by decide)).trans (h.bt)))
    ((me_up_kn (by decide)).trans ((me_up_kn (by decide)).trans (h.np)))
    ((me_up_kn (by decide)).trans ((me_up_kn (by decide)).trans (h.nt)))
    (fun i g0 => (me_up_kn (by decide)).trans ((me_up_kn (by decide)).trans (h.kd i g0)))
    (fun i g0 => (me_up_kn (by decide)).trans ((me_up_kn (by decide)).trans (h.st i g0)))
    (fun i g0 => (me_up_kn (by decide)).trans ((me_up_kn (by decide)).trans (h.sr i g0)))
    (fun i g0 => (me_up_kn (by decide)).trans ((me_up_kn (by decide)).trans (h.gl i g0)))
    (fun i g0 => (me_up_kn (by decide)).trans ((me_up_kn (by decide)).trans (h.wd i g0)))
    (fun i g0 => (me_up_kn (by decide)).trans ((me_up_kn (by decide)).trans (h.bo i g0)))
    (fun i g0 => (me_up_kn (by decide)).trans ((me_up_kn (by decide)).trans (h.pt i g0)))
    (fun i g0 => (me_up_kn (by decide)).trans ((me_up_kn (by decide)).trans (h.ma i g0)))
    (fun i g0 g1 => (me_up_kn (by decide)).trans ((me_up_kn (by decide)).trans (h.dn i g0 g1)))
    (fun i g0 g1 => (me_up_kn (by decide)).trans ((me_up_kn (by decide)).trans (h.pl i g0 g1)))
    (fun i g0 g1 => by rw [me_up_kn (by decide), me_up_kn (by decide), me_up_kn (by decide), me_up_kn (by decide)]; exact h.ad i g0 g1)
    (fun i g0 => (me_up_kn (by decide)).trans ((me_up_kn (by decide)).trans (h.an i g0)))
    (fun b k j e g0 g1 g2 => (me_up_kn (by decide)).trans ((me_up_kn (by decide)).trans (h.q1 b k j e g0 g1 g2)))
    (fun b k j e g0 g1 g2 => (me_up_kn (by decide)).trans ((me_up_kn (by decide)).trans (h.q3 b k j e g0 g1 g2)))
    (fun b k g0 g1 => (me_up_kn (by decide)).trans ((me_up_kn (by decide)).trans (h.qn b k g0 g1)))
    (fun b k g0 g1 => (me_up_kn (by decide)).trans ((me_up_kn (by decide)).trans (h.ro b k g0 g1)))
    (fun b k g0 g1 => by rw [me_up_kn (by decide), me_up_kn (by decide)]; exact h.rh b k g0 g1)
    (fun b k g0 g1 => (me_up_kn (by decide)).trans ((me_up_kn (by decide)).trans (h.rg b k g0 g1)))
    (fun b k g0 g1 => (me_up_kn (by decide)).trans ((me_up_kn (by decide)).trans (h.lr b k g0 g1)))
    (fun n d g0 g1 => (me_up_kn (by decide)).trans ((me_up_kn (by decide)).trans (h.fl n d g0 g1)))
    (fun n j g0 g1 => (me_up_kn (by decide)).trans ((me_up_kn (by decide)).trans (h.mm n j g0 g1)))
    (fun n j g0 g1 => (me_up_kn (by decide)).trans ((me_up_kn (by decide)).trans (h.sk n j g0 g1)))
    (fun n j g0 g1 => (me_up_kn (by decide)).trans ((me_up_kn (by decide)).trans (h.nm n j g0 g1)))
    (fun n j g0 g1 => (me_up_kn (by decide)).trans ((me_up_kn (by decide)).trans (h.nu n j g0 g1)))
    (fun i j g0 g1 => (me_up_kn (by decide)).trans ((me_up_kn (by decide)).trans (h.tr i j g0 g1)))
    (fun n g0 => (me_up_kn (by decide)).trans ((me_up_kn (by decide)).trans (h.aw n g0)))
    (fun n g0 => (me_up_kn (by decide)).trans ((me_up_kn (by decide)).trans (h.dp n g0)))
    (fun n g0 => (me_up_kn (by decide)).trans ((me_up_kn (by decide)).trans (h.ln n g0)))
    (fun n g0 => by
      show (me_up (me_up μ 91 0 x (me_N v)) 89 0 x (114)) 89 0 n = (me_fu a.co x 114) n
      rw [me_up_ap, me_up_ap, me_fu_ap]
      by_cases e : n = x
      rw [if_pos e]
      simp [e]
      rw [if_neg e]
      simp [e]
      exact h.co n g0)
    (fun n g0 g1 => by
      show (me_up (me_up μ 91 0 x (me_N v)) 89 0 x (114)) 90 0 n = a.fa n
      rw [me_up_kn (by decide), me_up_kn (by decide)]
      replace g1 : me_fu a.co x 114 n = 120 := g1
      rw [me_fu_ap] at g1
      by_cases e : n = x
      rw [if_pos e] at g1
      exact absurd g1 (by decide)
      rw [if_neg e] at g1
      exact h.fa n g0 g1)
    (fun n g0 => by
      show (me_up (me_up μ 91 0 x (me_N v)) 89 0 x (114)) 91 0 n = if (me_fu a.co x 114) n = 45 then -1 else me_N ((me_fu a.ca x v) n)
      rw [me_up_ap, me_up_ap, me_fu_ap, me_fu_ap]
      by_cases e : n = x
      simp [e]
      simp [e]
      exact h.ca n g0)
    (fun i g0 => (me_up_kn (by decide)).trans ((me_up_kn (by decide)).trans (h.tn i g0)))
theorem t_28 {T : Nat} {a : me_S} {μ : me_M} {o : Int64 × UInt64} {s1 s2 s3 s4 s5 : Int32} (hR : me_R T a μ) : ∃ μ' o' a', f_case_28 μ o s1 s2 s3 s4 s5 = some (μ', o') ∧ me_R T a' μ' := by
  obtain ⟨hC, hM, hI, hbt, hT, hwk⟩ := id hR
  have hwh := hI.wh
  have hnp := hI.n200
  have hD : me_Dd a a μ := ⟨hC, hM, hwk⟩
  by_cases hb : me_isB s1 (a.w * a.h)
  · obtain ⟨n, hn, rfl⟩ := hb
    have g1 : ∀ α (k : Option α), me_gd (me_inb (me_N n) 16) k = k := fun α k => me_gd_n (by omega) (by omega)
    have g2 : me_ix (me_N n) = n := me_N_ix (by omega)
    have h16 : n < 16 := by omega
    have e1 := y_node_o hC hI hn
    have e2 : ∀ μ', me_RM a μ' → f_M_isNoNode μ' (me_N n) = some 0 := fun μ' h => m_node_o h hI hn
    have hM2 := (hR.th 0).2.1
    have hl := hI.2.2.1.iln n
    by_cases hx : a.ln n = 0
    · have g3 : me_N (a.ln n) = 0 := by rw [hx]; rfl
      refine ⟨_, o, a, ?_, ((hR.th 0).th 2)⟩
      simp [f_case_28, f_L_start, f_Y_start, f_M_start, f_M_start_b28, me_bd_s, me_b2_s, me_lt_s, me_oq_n, me_oq_s, me_xb_o, me_xb_e, me_xb2_o, me_xb2_e, me_xm_o, me_xm_e, f_M_thrown, m_th0, m_th1, me_cmp_self, me_up_at, if_true, if_false, me_nr_z, me_nr_o, me_gd_t, me_up_kn, me_up_jn, e1, e2 _ hM, hC.ln n h16, hM.ln n h16, g1, g2, g3]
    · have g3 : ¬ me_N (a.ln n) = 0 := by rw [me_N_0, me_N_inj (by omega) (by omega)]; exact hx
      by_cases hq : a.co n = 114 ∨ a.co n = 119 ∨ a.co n = 98
      · have e5 := y_busy hC h16
        have e6 := m_busy ((hR.th 0).th 0).2.1 h16
        rw [if_pos hq] at e5 e6
        refine ⟨_, o, a, ?_, (((hR.th 0).th 0).th 3)⟩
        simp [f_case_28, f_L_start, f_Y_start, f_Y_needCoreAtRest, f_M_start, f_M_start_b28, me_bd_s, me_b2_s, me_lt_s, me_oq_n, me_oq_s, me_xb_o, me_xb_e, me_xb2_o, me_xb2_e, me_xm_o, me_xm_e, f_M_thrown, m_th0, m_th1, me_cmp_self, me_up_at, if_true, if_false, me_nr_z, me_nr_o, me_gd_t, me_up_kn, me_up_jn, e1, e2 _ hM, e5, e6, hC.ln n h16, hM.ln n h16, g1, g2, g3]
      · have e5 := y_busy hC h16
        rw [if_neg hq] at e5
        have z0 : me_N 0 = (0 : Int32) := rfl
        have D1 := hD.c (hC.w_dp n 0 (fun j hj => absurd hj (Nat.not_lt_zero j))) (by decide) (Or.inl (by decide))
        have D2 := D1.c (D1.1.w_ca n 0) (by decide) (Or.inl (by decide))
        have D3 := D2.c (D2.1.w_co n 114) (by decide) (Or.inl (by decide))
        rw [z0] at D1 D2 D3
        have D6 := ((D3.th 0).th 0).th 0
        have e6 := m_busy ((D3.th 0).th 0).2.1 h16
        rw [if_neg hq] at e6
        have D7 := D6.m (D6.2.1.w_dp n 0 (fun j hj => absurd hj (Nat.not_lt_zero j))) (by decide)
        rw [z0] at D7
        have W9 := D7.2.1.w_start n 0
        rw [z0] at W9
        have D9 : me_Dd _ _ _ := ⟨(D7.1.fr (k := 91) (i := 0) (j := n) (x := 0) (by decide)).fr (k := 89) (i := 0) (j := n) (x := 114) (by decide), W9, fun m hm => by
          rw [me_up_kn (by decide), me_up_kn (by decide)]; exact D7.2.2 m hm⟩
        have hc := hI.2.2.1
        have hI2 : me_Iv (((a.s_dp (me_fu a.dp n 0)).s_ca (me_fu a.ca n 0)).s_co (me_fu a.co n 114)) := ⟨hI.1, hI.2.1, me_IC.mk (fun m => by show me_fu a.dp n 0 m ≤ 6; rw [me_fu_ap]; split; omega; exact hc.idp m) hc.iln (fun m => by show me_fu a.ca n 0 m ≤ 12; rw [me_fu_ap]; split; omega; exact hc.ica m) (fun m => by
          show me_fu a.co n 114 m = 45 ∨ me_fu a.co n 114 m = 114 ∨ me_fu a.co n 114 m = 119 ∨ me_fu a.co n 114 m = 98 ∨ me_fu a.co n 114 m = 104 ∨ me_fu a.co n 114 m = 120
          rw [me_fu_ap]
          by_cases e : m = n
          · rw [if_pos e]; exact Or.inr (Or.inl rfl)
          · rw [if_neg e]; exact hc.ico m) hc.ifa hc.iok (fun m hm => by
          replace hm : me_fu a.co n 114 m = 119 := hm
          show me_fu a.ca n 0 m < a.ln m ∧ a.nm m (me_fu a.ca n 0 m) = 114
          rw [me_fu_ap] at hm ⊢
          by_cases e : m = n
          · rw [if_pos e] at hm; exact absurd hm (by decide)
          · rw [if_neg e] at hm ⊢; exact hc.iwt m hm) (fun m hm => by
          replace hm : me_fu a.co n 114 m = 98 := hm
          show me_fu a.ca n 0 m < a.ln m
          rw [me_fu_ap] at hm ⊢
          by_cases e : m = n
          · rw [if_pos e] at hm; exact absurd hm (by decide)
          · rw [if_neg e] at hm ⊢; exact hc.ibt m hm), hI.2.2.2⟩
        have c1 := y_cntBusy (a := ((a.s_dp (me_fu a.dp n 0)).s_ca (me_fu a.ca n 0)).s_co (me_fu a.co n 114)) D3.1 hI2 (a.w * a.h) me_FU 0 0 (Nat.zero_add _) (show _ < 1000 by omega) (by omega)
        have c2 := m_cntBusy (a := ((a.s_dp (me_fu a.dp n 0)).s_ca (me_fu a.ca n 0)).s_co (me_fu a.co n 114)) D9.2.1 hI2 (a.w * a.h) me_FU 0 0 (Nat.zero_add _) (show _ < 1000 by omega) (by omega)
        rw [z0] at c1 c2
        refine ⟨_, (Int32.toInt64 (me_N (0 + me_sm (me_bs1 (((a.s_dp (me_fu a.dp n 0)).s_ca (me_fu a.ca n 0)).s_co (me_fu a.co n 114))) 0 (a.w * a.h))), o.2), _, ?_, D9.R rfl hI2 hbt hT⟩
        simp [f_case_28, f_L_start, f_Y_start, f_Y_needCoreAtRest, f_Core_begin, f_Works_countBusy, f_M_start, f_M_start_b28, me_bd_s, me_b2_s, me_lt_s, me_oq_n, me_oq_s, me_xb_o, me_xb_e, me_xb2_o, me_xb2_e, me_xm_o, me_xm_e, f_M_thrown, m_th0, m_th1, me_cmp_self, me_up_at, if_true, if_false, me_nr_z, me_nr_o, me_gd_t, me_up_kn, me_up_jn, e1, e2 _ D3.2.1, e5, e6, hC.ln n h16, hM.ln n h16, g1, g2, g3, me_nar_r, c1, c2]
  · have e1 := y_node_n hC hI hb
    have e2 := m_node_n hM hI hb
    refine ⟨_, o, a, ?_, hR.th 1⟩
    simp [f_case_28, f_L_start, f_Y_start, f_M_start, me_bd_s, me_b2_s, me_lt_s, me_oq_n, me_oq_s, me_xb_o, me_xb_e, me_xb2_o, me_xb2_e, me_xm_o, me_xm_e, f_M_thrown, m_th0, m_th1, me_cmp_self, me_up_at, if_true, if_false, me_nr_z, me_nr_o, me_gd_t, me_up_kn, me_up_jn, e1, e2]
