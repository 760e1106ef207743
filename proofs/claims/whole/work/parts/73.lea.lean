/-! LEAVES: guards of both programs -/
def me_isB (v : Int32) (N : Nat) : Prop := ∃ n, n < N ∧ v = me_N n
def me_isRg (v : Int32) (a b : Nat) : Prop := ∃ n, a ≤ n ∧ n ≤ b ∧ v = me_N n
theorem me_isB_no {v : Int32} {N : Nat} (hN : N < 2147483648) (h : ¬ me_isB v N) : v < 0 ∨ (¬ v < 0 ∧ me_N N ≤ v) := by
  by_cases h0 : v < 0
  · exact Or.inl h0
  · obtain ⟨n, hn, rfl⟩ := me_N_of h0
    refine Or.inr ⟨h0, ?_⟩
    rw [me_N_le hN hn]
    exact Nat.not_lt.mp (fun q => h ⟨n, q, rfl⟩)
theorem me_isRg_no {v : Int32} {a b : Nat} (ha : a < 2147483648) (hb : b < 2147483648) (h : ¬ me_isRg v a b) : v < me_N a ∨ (¬ v < me_N a ∧ ¬ v ≤ me_N b ∧ me_N b < v) := by
  by_cases h0 : v < me_N a
  · exact Or.inl h0
  · by_cases h1 : me_N b < v
    · refine Or.inr ⟨h0, ?_, h1⟩
      rw [Int32.le_iff_toInt_le]
      rw [Int32.lt_iff_toInt_lt] at h1
      omega
    · obtain ⟨n, e1, e2, e3⟩ := me_in_range hb h0 h1 ha
      exact absurd ⟨n, e1, e2, e3⟩ h
theorem me_nr_z : me_nr .boolean 0 = true := by decide +kernel
theorem me_nr_o : me_nr .boolean 1 = true := by decide +kernel
theorem me_cmp_self (x : Int64) : lg_cmp x x = 0 := by
  unfold lg_cmp
  simp
theorem m_th0 {μ : me_M} {w : Int32} : f_M_isThrown μ 0 w = some (me_up μ 36 0 42 0, 0) := by
  unfold f_M_isThrown
  rw [if_pos rfl, me_lt_s, me_gd_t me_nr_z]
theorem m_th1 {μ : me_M} {w : Int32} : f_M_isThrown μ 1 w = some (me_up μ 36 0 42 w, 1) := by
  unfold f_M_isThrown
  rw [if_neg (by decide), me_lt_s, me_gd_t me_nr_o]
theorem m_isIn_o {μ : me_M} {v : Int32} {a b : Nat} (ha : a < 2147483648) (hb : b < 2147483648) (h : me_isRg v a b) : f_M_isIn μ v (me_N a) (me_N b) = some 1 := by
  obtain ⟨n, h1, h2, rfl⟩ := h
  unfold f_M_isIn
  rw [if_neg (by rw [me_N_lt (by omega) ha]; omega), if_neg (by rw [me_N_lt hb (by omega)]; omega)]
theorem m_isIn_n {μ : me_M} {v : Int32} {a b : Nat} (ha : a < 2147483648) (hb : b < 2147483648) (h : ¬ me_isRg v a b) : f_M_isIn μ v (me_N a) (me_N b) = some 0 := by
  unfold f_M_isIn
  rcases me_isRg_no ha hb h with h1 | ⟨h1, h2, h3⟩
  · rw [if_pos h1]
  · rw [if_neg h1, if_pos h3]
theorem m_isIn0_o {μ : me_M} {n N : Nat} (hN : N < 2147483648) (h : n < N) : f_M_isIn μ (me_N n) 0 (me_N N - 1) = some 1 := by
  rw [me_N_0, me_N_1, me_N_sub (by omega)]
  exact m_isIn_o (by omega) (by omega) ⟨n, by omega, by omega, rfl⟩
theorem m_isIn0_n {μ : me_M} {v : Int32} {N : Nat} (hN : N < 2147483648) (h : ¬ me_isB v N) : f_M_isIn μ v 0 (me_N N - 1) = some 0 := by
  unfold f_M_isIn
  rcases me_isB_no hN h with h1 | ⟨h1, h2⟩
  · rw [if_pos h1]
  · rw [if_neg h1, if_pos]
    by_cases h0 : N = 0
    · subst h0
      obtain ⟨n, hn, rfl⟩ := me_N_of h1
      rw [show me_N 0 - 1 = -1 from rfl, Int32.lt_iff_toInt_lt, me_N_toInt hn, show (-1 : Int32).toInt = -1 from rfl]
      omega
    · rw [me_N_1, me_N_sub (by omega)]
      obtain ⟨n, hn, rfl⟩ := me_N_of h1
      rw [me_N_le hN hn] at h2
      rw [me_N_lt (by omega) hn]
      omega
theorem y_range_o {μ : me_M} {v : Int32} {a b : Nat} (ha : a < 2147483648) (hb : b < 2147483648) (h : me_isRg v a b) : f_Y_needRange μ v (me_N a) (me_N b) = some (.ok ()) := by
  obtain ⟨n, h1, h2, rfl⟩ := h
  unfold f_Y_needRange
  rw [if_neg (by rw [me_N_lt (by omega) ha]; omega), if_pos (by rw [me_N_le (by omega) hb]; omega)]
theorem y_range_n {μ : me_M} {v : Int32} {a b : Nat} (ha : a < 2147483648) (hb : b < 2147483648) (h : ¬ me_isRg v a b) : f_Y_needRange μ v (me_N a) (me_N b) = some (.error 2) := by
  unfold f_Y_needRange f_Y_needRange_b10
  rcases me_isRg_no ha hb h with h1 | ⟨h1, h2, h3⟩
  · rw [if_pos h1]
  · rw [if_neg h1, if_neg h2]
section MeLeaf
variable {T : Nat} {a : me_S} {μ : me_M}
theorem me_R.wh (h : me_R T a μ) : a.w * a.h ≤ 16 ∧ 1 ≤ a.w * a.h := by
  obtain ⟨hC, hM, ⟨h0, -⟩, -⟩ := h
  have h1 := h0.iw
  have h2 := h0.ih
  exact ⟨Nat.mul_le_mul h1.2 h2.2, Nat.mul_le_mul h1.1 h2.1⟩
theorem me_Iv.wh (h : me_Iv a) : a.w * a.h ≤ 16 ∧ 1 ≤ a.w * a.h := by
  have h1 := h.1.iw
  have h2 := h.1.ih
  exact ⟨Nat.mul_le_mul h1.2 h2.2, Nat.mul_le_mul h1.1 h2.1⟩
theorem me_Iv.n200 (h : me_Iv a) : a.np ≤ 200 := by
  have := h.2.1.ile
  omega
theorem y_hasNode_o (hC : me_RC a μ) (hI : me_Iv a) {n : Nat} (hn : n < a.w * a.h) : f_Net_hasNode μ (me_N n) = some 1 := by
  have := hI.wh
  unfold f_Net_hasNode
  rw [if_neg (me_N_nneg (by omega)), hC.nn, if_neg (by rw [me_N_le (by omega) (by omega)]; omega)]
theorem y_hasNode_n (hC : me_RC a μ) (hI : me_Iv a) {v : Int32} (hn : ¬ me_isB v (a.w * a.h)) : f_Net_hasNode μ v = some 0 := by
  have := hI.wh
  unfold f_Net_hasNode
  rcases me_isB_no (by omega) hn with h1 | ⟨h1, h2⟩
  · rw [if_pos h1]
  · rw [if_neg h1, hC.nn, if_pos h2]
theorem y_node_o (hC : me_RC a μ) (hI : me_Iv a) {n : Nat} (hn : n < a.w * a.h) : f_Y_needNode μ (me_N n) = some (.ok ()) := by
  unfold f_Y_needNode
  rw [y_hasNode_o hC hI hn, me_bd_s, if_neg (by decide)]
theorem y_node_n (hC : me_RC a μ) (hI : me_Iv a) {v : Int32} (hn : ¬ me_isB v (a.w * a.h)) : f_Y_needNode μ v = some (.error 1) := by
  unfold f_Y_needNode
  rw [y_hasNode_n hC hI hn, me_bd_s, if_pos rfl]
theorem y_nodes_o (hC : me_RC a μ) (hI : me_Iv a) {n m : Nat} (hn : n < a.w * a.h) (hm : m < a.w * a.h) : f_Y_needNodes μ (me_N n) (me_N m) = some (.ok ()) := by
  unfold f_Y_needNodes
  rw [y_node_o hC hI hn, me_bd_s, me_xb_o, y_node_o hC hI hm, me_bd_s, me_xb_o]
theorem y_nodes_n (hC : me_RC a μ) (hI : me_Iv a) {v u : Int32} (hn : ¬ (me_isB v (a.w * a.h) ∧ me_isB u (a.w * a.h))) : f_Y_needNodes μ v u = some (.error 1) := by
  unfold f_Y_needNodes
  by_cases h : me_isB v (a.w * a.h)
  · obtain ⟨n, h1, rfl⟩ := h
    rw [y_node_o hC hI h1, me_bd_s, me_xb_o, y_node_n hC hI (fun q => hn ⟨⟨n, h1, rfl⟩, q⟩), me_bd_s, me_xb_e]
  · rw [y_node_n hC hI h, me_bd_s, me_xb_e]
theorem m_node_o (hM : me_RM a μ) (hI : me_Iv a) {n : Nat} (hn : n < a.w * a.h) : f_M_isNoNode μ (me_N n) = some 0 := by
  have := hI.wh
  unfold f_M_isNoNode f_M_nodes
  rw [me_bd_s, hM.w, hM.h, me_N_mul, m_isIn0_o (by omega) hn, me_bd_s, if_neg (by decide)]
theorem m_node_n (hM : me_RM a μ) (hI : me_Iv a) {v : Int32} (hn : ¬ me_isB v (a.w * a.h)) : f_M_isNoNode μ v = some 1 := by
  have := hI.wh
  unfold f_M_isNoNode f_M_nodes
  rw [me_bd_s, hM.w, hM.h, me_N_mul, m_isIn0_n (by omega) hn, me_bd_s, if_pos rfl]
theorem y_find_o (hC : me_RC a μ) (hI : me_Iv a) {n : Nat} (hn : n < a.np) : f_Post_find μ (me_N n) = some (some n) := by
  have := hI.n200
  unfold f_Post_find
  rw [if_neg (me_N_nneg (by omega)), hC.np, if_neg (by rw [me_N_le (by omega) (by omega)]; omega), if_neg (by rw [me_N_200, me_N_le (by omega) (by omega)]; omega), me_gd_n (by omega) (by omega), me_N_ix (by omega)]
theorem y_find_n (hC : me_RC a μ) (hI : me_Iv a) {v : Int32} (hn : ¬ me_isB v a.np) : f_Post_find μ v = some none := by
  have := hI.n200
  unfold f_Post_find
  rcases me_isB_no (by omega) hn with h1 | ⟨h1, h2⟩
  · rw [if_pos h1]
  · rw [if_neg h1, hC.np, if_pos h2]
theorem y_packet_o (hC : me_RC a μ) (hI : me_Iv a) {n : Nat} (hn : n < a.np) : f_Y_needPacket μ (me_N n) = some (.ok n) := by
  unfold f_Y_needPacket
  rw [y_find_o hC hI hn, me_bd_s, me_oq_s]
theorem y_packet_n (hC : me_RC a μ) (hI : me_Iv a) {v : Int32} (hn : ¬ me_isB v a.np) : f_Y_needPacket μ v = some (.error 1) := by
  unfold f_Y_needPacket
  rw [y_find_n hC hI hn, me_bd_s, me_oq_n]
theorem m_packet_o (hM : me_RM a μ) (hI : me_Iv a) {n : Nat} (hn : n < a.np) : f_M_isNoPacket μ (me_N n) = some (me_up μ 36 0 42 0, 0) := by
  have := hI.n200
  unfold f_M_isNoPacket f_M_isNoPacket_b20
  rw [hM.np, m_isIn0_o (by omega) hn, me_bd_s, if_neg (by decide), m_th0, me_b2_s, me_gd_t me_nr_z]
theorem m_packet_n (hM : me_RM a μ) (hI : me_Iv a) {v : Int32} (hn : ¬ me_isB v a.np) : f_M_isNoPacket μ v = some (me_up μ 36 0 42 1, 1) := by
  have := hI.n200
  unfold f_M_isNoPacket f_M_isNoPacket_b20
  rw [hM.np, m_isIn0_n (by omega) hn, me_bd_s, if_pos rfl, m_th1, me_b2_s, me_gd_t me_nr_o]
theorem y_task_o (hC : me_RC a μ) (hI : me_Iv a) {n : Nat} (hn : n < a.nt) : f_Y_needTask μ (me_N n) = some (.ok ()) := by
  have := hI.2.2.2.1.int
  unfold f_Y_needTask
  rw [if_neg (me_N_nneg (by omega)), hC.nt, if_pos (by rw [me_N_lt (by omega) (by omega)]; omega)]
theorem y_task_n (hC : me_RC a μ) (hI : me_Iv a) {v : Int32} (hn : ¬ me_isB v a.nt) : f_Y_needTask μ v = some (.error 1) := by
  have := hI.2.2.2.1.int
  unfold f_Y_needTask f_Y_needTask_b15
  rcases me_isB_no (by omega) hn with h1 | ⟨h1, h2⟩
  · rw [if_pos h1]
  · rw [if_neg h1, hC.nt, if_neg]
    rw [Int32.lt_iff_toInt_lt]
    rw [Int32.le_iff_toInt_le] at h2
    omega
theorem m_task_o (hM : me_RM a μ) (hI : me_Iv a) {n : Nat} (hn : n < a.nt) : f_M_isNoTask μ (me_N n) = some 0 := by
  have := hI.2.2.2.1.int
  unfold f_M_isNoTask
  rw [hM.nt, m_isIn0_o (by omega) hn, me_bd_s, if_neg (by decide)]
theorem m_task_n (hM : me_RM a μ) (hI : me_Iv a) {v : Int32} (hn : ¬ me_isB v a.nt) : f_M_isNoTask μ v = some 1 := by
  have := hI.2.2.2.1.int
  unfold f_M_isNoTask
  rw [hM.nt, m_isIn0_n (by omega) hn, me_bd_s, if_pos rfl]
end MeLeaf
