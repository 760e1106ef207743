/-! lostShare, meanTime -/
def gh_lo (a : me_S) (i : Nat) : Nat := if a.st i = 108 then 1 else 0
def gh_de (a : me_S) (i : Nat) : Nat := if a.st i = 100 ∨ a.st i = 114 then 1 else 0
def gh_ti (a : me_S) : Nat → Int32 → Int32 := fun i x => if a.st i = 100 ∨ a.st i = 114 then x + (me_Op (a.dn i) - me_N (a.ma i)) else x
theorem me_sm_l1 {g : Nat → Nat} (h : ∀ i, g i ≤ 1) (d i : Nat) : me_sm g i d ≤ d := by
  have := me_sm_le h d i
  omega
theorem gh_lo1 (a : me_S) (i : Nat) : gh_lo a i ≤ 1 := by unfold gh_lo; split <;> omega
theorem gh_de1 (a : me_S) (i : Nat) : gh_de a i ≤ 1 := by unfold gh_de; split <;> omega
theorem y_lost {a : me_S} {μ : me_M} (hC : me_RC a μ) (hI : me_Iv a) : ∀ (d f i c : Nat), i + d = a.np → d < f → f_Post_countLost_h4 μ f (me_N c) (me_N i) = some (me_N (c + me_sm (gh_lo a) i d)) := by
  have hnp := hI.n200
  intro d
  induction d with
  | zero =>
    intro f i c h1 h2
    obtain ⟨f, rfl⟩ : ∃ g, f = g + 1 := ⟨f - 1, by omega⟩
    show f_Post_countLost_b4 _ _ _ _ = _
    unfold f_Post_countLost_b4
    rw [hC.np, if_pos (by rw [me_N_le (by omega) (by omega)]; omega)]
    rfl
  | succ d ih =>
    intro f i c h1 h2
    obtain ⟨f, rfl⟩ : ∃ g, f = g + 1 := ⟨f - 1, by omega⟩
    show f_Post_countLost_b4 _ _ _ _ = some (me_N (c + (gh_lo a i + me_sm (gh_lo a) (i + 1) d)))
    unfold f_Post_countLost_b4
    simp only [me_lt_s, me_N_inc]
    rw [hC.np, if_neg (by rw [me_N_le (by omega) (by omega)]; omega), me_gd_n (by omega) (by omega), me_N_ix (by omega), hC.st, ih f (i + 1) c (by omega) (by omega), ih f (i + 1) (c + 1) (by omega) (by omega)]
    by_cases e : a.st i = 108
    · rw [if_pos e, show gh_lo a i = 1 from if_pos e, Nat.add_assoc]
    · rw [if_neg e, show gh_lo a i = 0 from if_neg e, Nat.zero_add]
theorem m_lost {a : me_S} {μ : me_M} (hM : me_RM a μ) (hI : me_Iv a) : ∀ (d f i c : Nat), i + d = a.np → d < f → f_M_lostShare_h4 f μ (me_N c) (me_N i) = if me_N a.np = 0 then f_M_lostShare_b50 μ (me_N (c + me_sm (gh_lo a) i d)) 1 else f_M_lostShare_b50 μ (me_N (c + me_sm (gh_lo a) i d)) 0 := by
  have hnp := hI.n200
  intro d
  induction d with
  | zero =>
    intro f i c h1 h2
    obtain ⟨f, rfl⟩ : ∃ g, f = g + 1 := ⟨f - 1, by omega⟩
    show f_M_lostShare_b4 _ _ _ _ = _
    unfold f_M_lostShare_b4
    rw [hM.np, if_pos (by rw [me_N_le (by omega) (by omega)]; omega)]
    rfl
  | succ d ih =>
    intro f i c h1 h2
    obtain ⟨f, rfl⟩ : ∃ g, f = g + 1 := ⟨f - 1, by omega⟩
    show f_M_lostShare_b4 _ _ _ _ = if me_N a.np = 0 then f_M_lostShare_b50 μ (me_N (c + (gh_lo a i + me_sm (gh_lo a) (i + 1) d))) 1 else f_M_lostShare_b50 μ (me_N (c + (gh_lo a i + me_sm (gh_lo a) (i + 1) d))) 0
    unfold f_M_lostShare_b4
    rw [hM.np, if_neg (by rw [me_N_le (by omega) (by omega)]; omega), me_gd_n (by omega) (by omega), me_N_ix (by omega), hM.st i (by omega)]
    by_cases e : a.st i = 108
    · rw [if_pos e, me_lt_s, me_N_1, me_N_add, me_lt_s, me_N_inc, ih f (i + 1) (c + 1) (by omega) (by omega), show gh_lo a i = 1 from if_pos e, Nat.add_assoc]
      rfl
    · rw [if_neg e, me_lt_s, Int32.add_zero, me_lt_s, me_N_inc, ih f (i + 1) c (by omega) (by omega), show gh_lo a i = 0 from if_neg e, Nat.zero_add]
theorem y_done {a : me_S} {μ : me_M} (hC : me_RC a μ) (i : Nat) : f_Packet_wasDelivered μ i = some (if a.st i = 100 ∨ a.st i = 114 then 1 else 0) := by
  unfold f_Packet_wasDelivered f_Packet_wasDelivered_b18
  rw [hC.st]
  by_cases h1 : a.st i = 100
  · rw [if_pos h1, if_pos (Or.inl h1)]
  · rw [if_neg h1]
    by_cases h2 : a.st i = 114
    · rw [if_pos h2, if_pos (Or.inr h2)]
    · rw [if_neg h2, if_neg (fun q => q.elim h1 h2)]
theorem m_done {a : me_S} {μ : me_M} (hM : me_RM a μ) (hI : me_Iv a) {i : Nat} (hi : i < a.np) : f_M_isDone μ (me_N i) = some (if a.st i = 100 ∨ a.st i = 114 then 1 else 0) := by
  have hnp := hI.n200
  unfold f_M_isDone f_M_isDone_b22
  simp only [me_gd_n (show i < 2147483648 by omega) (show i < 200 by omega), me_N_ix (show i < 2147483648 by omega), hM.st i hi]
  by_cases h1 : a.st i = 100
  · rw [if_pos h1, if_pos (Or.inl h1)]
  · rw [if_neg h1]
    by_cases h2 : a.st i = 114
    · rw [if_pos h2, if_pos (Or.inr h2)]
    · rw [if_neg h2, if_neg (fun q => q.elim h1 h2)]
theorem y_deliv {a : me_S} {μ : me_M} (hC : me_RC a μ) (hI : me_Iv a) : ∀ (d f i c : Nat), i + d = a.np → d < f → f_Post_countDelivered_h4 μ f (me_N c) (me_N i) = some (me_N (c + me_sm (gh_de a) i d)) := by
  have hnp := hI.n200
  intro d
  induction d with
  | zero =>
    intro f i c h1 h2
    obtain ⟨f, rfl⟩ : ∃ g, f = g + 1 := ⟨f - 1, by omega⟩
    show f_Post_countDelivered_b4 _ _ _ _ = _
    unfold f_Post_countDelivered_b4
    rw [hC.np, if_pos (by rw [me_N_le (by omega) (by omega)]; omega)]
    rfl
  | succ d ih =>
    intro f i c h1 h2
    obtain ⟨f, rfl⟩ : ∃ g, f = g + 1 := ⟨f - 1, by omega⟩
    show f_Post_countDelivered_b4 _ _ _ _ = some (me_N (c + (gh_de a i + me_sm (gh_de a) (i + 1) d)))
    unfold f_Post_countDelivered_b4
    simp only [me_lt_s, me_N_inc]
    rw [hC.np, if_neg (by rw [me_N_le (by omega) (by omega)]; omega), me_gd_n (by omega) (by omega), me_N_ix (by omega), y_done hC, me_bd_s, ih f (i + 1) c (by omega) (by omega), ih f (i + 1) (c + 1) (by omega) (by omega)]
    by_cases e : a.st i = 100 ∨ a.st i = 114
    · rw [if_pos e, if_neg (by decide), show gh_de a i = 1 from if_pos e, Nat.add_assoc]
    · rw [if_neg e, if_pos rfl, show gh_de a i = 0 from if_neg e, Nat.zero_add]
theorem y_times {a : me_S} {μ : me_M} (hC : me_RC a μ) (hI : me_Iv a) : ∀ (d f i : Nat) (x : Int32), i + d = a.np → d < f → f_Post_sumOfTimes_h4 μ f x (me_N i) = some (gh_fd (gh_ti a) i d x) := by
  have hnp := hI.n200
  intro d
  induction d with
  | zero =>
    intro f i c h1 h2
    obtain ⟨f, rfl⟩ : ∃ g, f = g + 1 := ⟨f - 1, by omega⟩
    show f_Post_sumOfTimes_b4 _ _ _ _ = _
    unfold f_Post_sumOfTimes_b4
    rw [hC.np, if_pos (by rw [me_N_le (by omega) (by omega)]; omega)]
    rfl
  | succ d ih =>
    intro f i c h1 h2
    obtain ⟨f, rfl⟩ : ∃ g, f = g + 1 := ⟨f - 1, by omega⟩
    show f_Post_sumOfTimes_b4 _ _ _ _ = some (gh_fd (gh_ti a) (i + 1) d (gh_ti a i c))
    unfold f_Post_sumOfTimes_b4 f_Packet_beatsTaken
    simp only [me_lt_s, me_bd_s, me_N_inc]
    rw [hC.np, if_neg (by rw [me_N_le (by omega) (by omega)]; omega), me_gd_n (by omega) (by omega), me_gd_n (by omega) (by omega), me_N_ix (by omega), y_done hC, me_bd_s, hC.dn i (by omega), hC.ma, ih f (i + 1) _ (by omega) (by omega), ih f (i + 1) _ (by omega) (by omega)]
    unfold gh_ti
    by_cases e : a.st i = 100 ∨ a.st i = 114
    · rw [if_pos e, if_neg (by decide), if_pos e]
    · rw [if_neg e, if_pos rfl, if_neg e]
theorem m_mean {a : me_S} {μ : me_M} (hM : me_RM a μ) (hI : me_Iv a) : ∀ (d f i c : Nat) (x : Int32), i + d = a.np → d < f → f_M_meanTime_h6 f μ (me_N c) x (me_N i) = if me_N (c + me_sm (gh_de a) i d) = 0 then f_M_meanTime_b74 μ (me_N (c + me_sm (gh_de a) i d)) (gh_fd (gh_ti a) i d x) 1 else f_M_meanTime_b74 μ (me_N (c + me_sm (gh_de a) i d)) (gh_fd (gh_ti a) i d x) 0 := by
  have hnp := hI.n200
  intro d
  induction d with
  | zero =>
    intro f i c x h1 h2
    obtain ⟨f, rfl⟩ : ∃ g, f = g + 1 := ⟨f - 1, by omega⟩
    show f_M_meanTime_b6 _ _ _ _ _ = _
    unfold f_M_meanTime_b6
    rw [hM.np, if_pos (by rw [me_N_le (by omega) (by omega)]; omega)]
    rfl
  | succ d ih =>
    intro f i c x h1 h2
    obtain ⟨f, rfl⟩ : ∃ g, f = g + 1 := ⟨f - 1, by omega⟩
    show f_M_meanTime_b6 _ _ _ _ _ = if me_N (c + (gh_de a i + me_sm (gh_de a) (i + 1) d)) = 0 then f_M_meanTime_b74 μ (me_N (c + (gh_de a i + me_sm (gh_de a) (i + 1) d))) (gh_fd (gh_ti a) (i + 1) d (gh_ti a i x)) 1 else f_M_meanTime_b74 μ (me_N (c + (gh_de a i + me_sm (gh_de a) (i + 1) d))) (gh_fd (gh_ti a) (i + 1) d (gh_ti a i x)) 0
    unfold f_M_meanTime_b6 f_M_meanTime_b28
    rw [hM.np, if_neg (by rw [me_N_le (by omega) (by omega)]; omega), m_done hM hI (by omega), me_bd_s]
    by_cases e : a.st i = 100 ∨ a.st i = 114
    · rw [if_pos e, if_neg (by decide), me_lt_s, me_bd_s, if_neg (by decide), me_gd_n (by omega) (by omega), me_gd_n (by omega) (by omega), me_N_ix (by omega), hM.dn i (by omega) e, hM.ma i (by omega), me_lt_s, me_N_1, me_N_add, me_lt_s, me_N_inc, ih f (i + 1) (c + 1) _ (by omega) (by omega), show gh_de a i = 1 from if_pos e, Nat.add_assoc, show gh_ti a i x = x + (me_Op (a.dn i) - me_N (a.ma i)) from if_pos e]
      rfl
    · rw [if_neg e, if_pos rfl, me_lt_s, me_bd_s, if_pos rfl, me_lt_s, Int32.add_zero, Int32.add_zero, me_lt_s, me_N_inc, ih f (i + 1) c _ (by omega) (by omega), show gh_de a i = 0 from if_neg e, Nat.zero_add, show gh_ti a i x = x from if_neg e]
theorem t_41 {T : Nat} {a : me_S} {μ : me_M} {o : Int64 × UInt64} {s1 s2 s3 s4 s5 : Int32} (hR : me_R T a μ) : ∃ μ' o' a', f_case_41 μ o s1 s2 s3 s4 s5 = some (μ', o') ∧ me_R T a' μ' := by
  obtain ⟨hC, hM, hI, hbt, hT, hwk⟩ := id hR
  have hwh := hI.wh
  have hnp := hI.n200
  have hD : me_Dd a a μ := ⟨hC, hM, hwk⟩
  have c1 : f_Post_countLost_h4 μ me_FU 0 0 = some (me_N (0 + me_sm (gh_lo a) 0 a.np)) := y_lost hC hI a.np me_FU 0 0 (Nat.zero_add _) (show _ < 1000 by omega)
  have c2 : f_M_lostShare_h4 me_FU μ 0 0 = _ := m_lost hM hI a.np me_FU 0 0 (Nat.zero_add _) (show _ < 1000 by omega)
  by_cases h0 : a.np = 0
  · have e0 : me_N a.np = 0 := by rw [h0]; rfl
    rw [if_pos e0] at c2
    refine ⟨_, o, a, ?_, hR.th 1⟩
    simp [f_case_41, f_L_lostShare, f_Y_lostShare, f_M_lostShare, f_M_lostShare_b50, me_bd_s, me_b2_s, me_lt_s, me_oq_n, me_oq_s, me_xb_o, me_xb_e, me_xb2_o, me_xb2_e, me_xm_o, me_xm_e, f_M_thrown, m_th0, m_th1, me_cmp_self, me_up_at, if_true, if_false, me_nr_z, me_nr_o, me_gd_t, me_up_kn, me_up_jn, hC.np, e0, c2]
  · have e0 : ¬ me_N a.np = 0 := by rw [me_N_0, me_N_inj (by omega) (by omega)]; exact h0
    rw [if_neg e0] at c2
    have k1 := gh_fdiv (me_N (0 + me_sm (gh_lo a) 0 a.np)) (n := a.np) (by omega) (by omega)
    obtain ⟨k2, k3⟩ := gh_f2d (gh_n32 k1)
    have k4 := gh_self k3
    unfold f_M_lostShare_b50 at c2
    rw [m_th0, me_b2_s, if_pos rfl, me_up_jn (by decide), hM.np, me_gd_t k1] at c2
    generalize hv : FP.fdiv (FP.i2f (me_N (0 + me_sm (gh_lo a) 0 a.np))) (FP.i2f (me_N a.np)) = v at k1 k2 k3 k4 c2
    refine ⟨_, (o.1, FP.f2d v), a, ?_, hR.th 0⟩
    unfold f_case_41 f_L_lostShare f_Y_lostShare f_Post_countLost f_M_lostShare f_M_thrown
    rw [hC.np, if_neg e0, c1, me_bd_s, hv, me_gd_t k1, me_bd_s, me_xm_o, me_gd_t k2, me_b2_s, c2, me_b2_s, me_bd_s, me_up_at, if_pos rfl, if_pos rfl, me_gd_t k2, if_pos k4]
theorem t_42 {T : Nat} {a : me_S} {μ : me_M} {o : Int64 × UInt64} {s1 s2 s3 s4 s5 : Int32} (hR : me_R T a μ) : ∃ μ' o' a', f_case_42 μ o s1 s2 s3 s4 s5 = some (μ', o') ∧ me_R T a' μ' := by
  obtain ⟨hC, hM, hI, hbt, hT, hwk⟩ := id hR
  have hwh := hI.wh
  have hnp := hI.n200
  have hD : me_Dd a a μ := ⟨hC, hM, hwk⟩
  have c1 : f_Post_countDelivered_h4 μ me_FU 0 0 = some (me_N (0 + me_sm (gh_de a) 0 a.np)) := y_deliv hC hI a.np me_FU 0 0 (Nat.zero_add _) (show _ < 1000 by omega)
  have c3 : f_Post_sumOfTimes_h4 μ me_FU 0 0 = some (gh_fd (gh_ti a) 0 a.np 0) := y_times hC hI a.np me_FU 0 0 (Nat.zero_add _) (show _ < 1000 by omega)
  have c2 : f_M_meanTime_h6 me_FU μ 0 0 0 = _ := m_mean hM hI a.np me_FU 0 0 0 (Nat.zero_add _) (show _ < 1000 by omega)
  have hle := me_sm_l1 (gh_de1 a) a.np 0
  by_cases h0 : me_sm (gh_de a) 0 a.np = 0
  · have e0 : me_N (0 + me_sm (gh_de a) 0 a.np) = 0 := by rw [h0]; rfl
    rw [if_pos e0] at c2
    refine ⟨_, o, a, ?_, hR.th 1⟩
    unfold f_M_meanTime_b74 at c2
    rw [m_th1, me_b2_s, if_neg (by decide)] at c2
    unfold f_case_42 f_L_meanTime f_Y_meanTime f_Post_countDelivered f_M_meanTime f_M_thrown
    rw [c1, me_bd_s, if_pos e0, me_bd_s, me_xm_e, if_pos rfl, me_b2_s, c2, me_b2_s, me_bd_s, me_up_at, if_pos rfl, if_neg (show ¬ (1 : Int32) = 0 by decide)]
  · have e0 : ¬ me_N (0 + me_sm (gh_de a) 0 a.np) = 0 := by rw [me_N_0, me_N_inj (by omega) (by omega)]; omega
    rw [if_neg e0] at c2
    have k1 := gh_ddiv (gh_fd (gh_ti a) 0 a.np 0) (n := 0 + me_sm (gh_de a) 0 a.np) (by omega) (by omega)
    unfold f_M_meanTime_b74 at c2
    rw [m_th0, me_b2_s, if_pos rfl, me_gd_t k1] at c2
    generalize hv : FP.ddiv (FP.i2d (gh_fd (gh_ti a) 0 a.np 0)) (FP.i2d (me_N (0 + me_sm (gh_de a) 0 a.np))) = v at k1 c2
    refine ⟨_, (o.1, v), a, ?_, hR.th 0⟩
    unfold f_case_42 f_L_meanTime f_Y_meanTime f_Post_countDelivered f_Post_sumOfTimes f_M_meanTime f_M_thrown
    rw [c1, me_bd_s, if_neg e0, c3, me_bd_s, hv, me_gd_t k1, me_bd_s, me_xm_o, me_b2_s, c2, me_b2_s, me_bd_s, me_up_at, if_pos rfl, if_pos rfl]
    dsimp only
    by_cases q : Op.cmpValue (FP.dcmp v v) .l = 0
    · rw [if_pos q]
    · rw [if_neg q, if_neg q, if_neg q]
