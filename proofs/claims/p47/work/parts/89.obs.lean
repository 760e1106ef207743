/-! what the law sees: its own methods over a ghost, between beats -/
theorem gb_S.co_ {a : me_S} {μ μ' : me_M} (h : gb_S a μ) (e : ∀ k, k < 36 → μ' k = μ k) : gb_S a μ' := ⟨h.1.co_ e, h.2.1, fun n hn => by rw [e 13 (by decide)]; exact h.2.2 n hn⟩
/-- a packet is received -/
theorem gw_ivr {a : me_S} {j : Nat} (hI : me_Iv a) (hj : j < a.np) (hl : a.st j = 100) : me_Iv (me_S.s_st a (me_fu a.st j 114)) := by
  have hp := hI.2.1
  have hst : ∀ i, ¬ i = j → me_fu a.st j 114 i = a.st i := fun i h => me_fu_ne h
  refine ⟨hI.1, ?_, hI.2.2.1, hI.2.2.2.1, ?_, ?_, hI.2.2.2.2.2.2⟩
  · refine me_IP.mk hp.ile ?_ hp.ikd (fun i hi => ?_) hp.isr hp.igl hp.ibo hp.ipt hp.ima (fun i hi hs => ?_) hp.idm hp.ipl hp.ian (fun i hi hs => ?_) (fun i hi hs => ?_) (fun i hi hs => ?_)
    · refine hp.iow.trans (List.countP_congr (fun i _ => ?_))
      show me_qs a.kd a.st i = true ↔ me_qs a.kd (me_fu a.st j 114) i = true
      by_cases e : i = j
      · subst e
        unfold me_qs
        rw [me_fu_at, hl]
        simp
      · unfold me_qs
        rw [hst i e]
    · show me_fu a.st j 114 i = 115 ∨ me_fu a.st j 114 i = 119 ∨ me_fu a.st j 114 i = 100 ∨ me_fu a.st j 114 i = 114 ∨ me_fu a.st j 114 i = 108
      by_cases e : i = j
      · rw [e, me_fu_at]; simp
      · rw [hst i e]; exact hp.ist i hi
    · replace hs : me_fu a.st j 114 i = 100 ∨ me_fu a.st j 114 i = 114 := hs
      by_cases e : i = j
      · rw [e]; exact hp.idn j hj (Or.inl hl)
      · rw [hst i e] at hs; exact hp.idn i hi hs
    · replace hs : me_fu a.st j 114 i = 115 := hs
      by_cases e : i = j
      · rw [e, me_fu_at] at hs; exact absurd hs (by decide)
      · rw [hst i e] at hs; exact hp.is0 i hi hs
    · replace hs : me_fu a.st j 114 i = 119 := hs
      by_cases e : i = j
      · rw [e, me_fu_at] at hs; exact absurd hs (by decide)
      · rw [hst i e] at hs; exact hp.is1 i hi hs
    · replace hs : me_fu a.st j 114 i = 100 ∨ me_fu a.st j 114 i = 114 := hs
      by_cases e : i = j
      · rw [e]; exact hp.is2 j hj (Or.inl hl)
      · rw [hst i e] at hs; exact hp.is2 i hi hs
  · refine hI.2.2.2.2.1.st_ch (fun i => ?_) (fun i => ?_)
    · show me_fu a.st j 114 i = 119 ↔ a.st i = 119
      by_cases e : i = j
      · rw [e, me_fu_at, hl]; decide
      · rw [hst i e]
    · show me_fu a.st j 114 i = 108 ↔ a.st i = 108
      by_cases e : i = j
      · rw [e, me_fu_at, hl]; decide
      · rw [hst i e]
  · intro n' c k h1 h2 h3 h4
    rcases hI.2.2.2.2.2.1 n' c k h1 h2 h3 h4 with e | e
    · exact Or.inl e
    · refine Or.inr ?_
      show me_fu a.st j 114 k = 108
      by_cases e' : k = j
      · rw [e', hl] at e; exact absurd e (by decide)
      · rw [hst k e']; exact e
/-- a router sleeps, where no row holds or owns -/
theorem gw_ivs {a : me_S} {n : Nat} (hI : me_Iv a) (hq : ∀ r, a.q r = []) (hro : ∀ r, a.ro r = none) : me_Iv (me_S.s_aw a (me_fu a.aw n false)) := by
  have hw0 := hI.2.2.2.2.1
  refine ⟨hI.1, hI.2.1, hI.2.2.1, hI.2.2.2.1, ?_, hI.2.2.2.2.2⟩
  exact me_Wm.mk hw0.in4 hw0.iel hw0.idi hw0.icr hw0.ice hw0.iow hw0.iun hw0.iso hw0.ifo hw0.ion hw0.ivd hw0.itl hw0.ihm hw0.ifi hw0.ihd hw0.iex hw0.ict hw0.ifp (fun r _ => ⟨hq r, hro r⟩)
section GlObs
variable {a : me_S} {μ : me_M}
theorem gl_packets (hS : gb_S a μ) : f_Y_packets μ = some (me_N a.np) := by
  unfold f_Y_packets
  rw [hS.1.np]
theorem gl_beat (hS : gb_S a μ) : f_Y_beat μ = some (me_N a.bt) := by
  unfold f_Y_beat
  rw [hS.1.bt]
theorem gl_state (hS : gb_S a μ) {p : Nat} (hp : p < a.np) : f_L_state μ (me_N p) = some (μ, a.st p) := by
  unfold f_L_state f_Y_state
  rw [y_packet_o hS.1 hS.2.1 hp, me_bd_s, me_xb_o, hS.1.st, me_gd_t (hS.2.1.cst hp), me_bd_s, me_xm_o]
theorem gl_state_n (hS : gb_S a μ) (h0 : a.np = 0) : f_L_state μ 0 = some (μ, -900001) := by
  unfold f_L_state f_Y_state
  rw [y_packet_n hS.1 hS.2.1 (fun q => by obtain ⟨n, h1, -⟩ := q; omega), me_bd_s, me_xb_e, me_bd_s, me_xm_e, if_pos rfl]
theorem gl_head_n (hS : gb_S a μ) {p : Nat} (hp : p < a.np) (h : a.hd p = none) : f_L_head μ (me_N p) = some (μ, -900002) := by
  unfold f_L_head f_Y_head
  rw [y_packet_o hS.1 hS.2.1 hp, me_bd_s, me_xb_o, me_lt_s, hS.1.hd p hp, h, if_pos (show me_Op none = -1 from rfl), me_bd_s, me_xm_e, if_neg (by decide), if_pos rfl]
theorem gl_head_o (hS : gb_S a μ) {p n : Nat} (hp : p < a.np) (h : a.hd p = some n) (hn : n < 1000) : f_L_head μ (me_N p) = some (μ, me_N n) := by
  unfold f_L_head f_Y_head
  rw [y_packet_o hS.1 hS.2.1 hp, me_bd_s, me_xb_o, me_lt_s, hS.1.hd p hp, h, show me_Op (some n) = me_N n from rfl, if_neg (me_N_nm1 (by omega)), me_bd_s, me_xm_o]
theorem gl_time_n (hS : gb_S a μ) {p : Nat} (hp : p < a.np) (h : a.st p = 115) : f_L_time μ (me_N p) = some (μ, -900002) := by
  unfold f_L_time f_Y_time
  rw [y_packet_o hS.1 hS.2.1 hp, me_bd_s, me_xb_o, y_done hS.1, h, if_neg (by decide), me_bd_s, if_pos rfl, me_bd_s, me_xm_e, if_neg (by decide), if_pos rfl]
theorem gl_time_o (hS : gb_S a μ) {p t m : Nat} (hp : p < a.np) (h : a.st p = 100) (hd : a.dn p = some t) (hm : a.ma p = m) (hmt : m ≤ t) : f_L_time μ (me_N p) = some (μ, me_N (t - m)) := by
  unfold f_L_time f_Y_time f_Packet_beatsTaken
  have e1 : me_Op (some t) = me_N t := rfl
  rw [y_packet_o hS.1 hS.2.1 hp, me_bd_s, me_xb_o, y_done hS.1, h, if_pos (Or.inl rfl), me_bd_s, if_neg (by decide), hS.1.dn p hp, hS.1.ma, hd, hm, e1, me_N_sub hmt, me_bd_s, me_bd_s, me_xm_o]
theorem gl_kind (hS : gb_S a μ) {p : Nat} (hp : p < a.np) : f_Y_kind μ (me_N p) = some (.ok (a.kd p)) := by
  unfold f_Y_kind
  rw [y_packet_o hS.1 hS.2.1 hp, me_bd_s, me_xb_o, hS.1.kd, me_gd_t (hS.2.1.ckd hp)]
theorem gl_word (hS : gb_S a μ) {p : Nat} (hp : p < a.np) : f_Y_word μ (me_N p) = some (.ok (a.wd p)) := by
  unfold f_Y_word
  rw [y_packet_o hS.1 hS.2.1 hp, me_bd_s, me_xb_o, hS.1.wd]
theorem gl_pieces (hS : gb_S a μ) {p : Nat} (hp : p < a.np) (h : ¬ a.st p = 108) (he : a.pt p = a.tk p) : f_Y_pieces μ (me_N p) = some (.ok 0) := by
  unfold f_Y_pieces f_Packet_piecesInRows
  rw [y_packet_o hS.1 hS.2.1 hp, me_bd_s, me_xb_o, hS.1.st, if_neg h, hS.1.pt, hS.1.tk, he, me_N_sub (Nat.le_refl _), Nat.sub_self, me_bd_s]
  rfl
theorem gl_lying (hS : gb_S a μ) {n s : Nat} (hn : n < a.w * a.h) (hs : s < a.w * a.h) : f_L_lying μ (me_N n) (me_N s) = some (μ, me_N (me_sm (gh_l1 a n s) 0 a.np)) := by
  have hwh := hS.2.1.wh
  have hnp := hS.2.1.n200
  have h1 := y_cntLying hS.1 hS.2.1 (n := n) (s := s) (by omega) (by omega) a.np me_FU 0 0 (by omega) (by unfold me_FU; omega)
  have h2 : f_Post_countLying μ (me_N n) (me_N s) = some (me_N (0 + me_sm (gh_l1 a n s) 0 a.np)) := h1
  unfold f_L_lying f_Y_lying
  rw [y_nodes_o hS.1 hS.2.1 hn hs, me_bd_s, me_xb_o, h2, me_bd_s, me_bd_s, me_xm_o, Nat.zero_add]
theorem gl_fl0 {n s : Nat} : ∀ (d i : Nat) (b : Option Nat), (∀ j, i ≤ j → j < i + d → ¬ gh_ly a n s j) → gh_fl a n s i d b = b := by
  intro d
  induction d with
  | zero => intro i b h; rfl
  | succ d ih =>
    intro i b h
    rw [gh_fl_n (h i (Nat.le_refl _) (by omega))]
    exact ih (i + 1) b (fun j h1 h2 => h j (by omega) (by omega))
theorem gl_fl1 {n s p : Nat} (hp : gh_ly a n s p) : ∀ (d i : Nat), i ≤ p → p < i + d → (∀ j, i ≤ j → j < i + d → ¬ j = p → ¬ gh_ly a n s j) → gh_fl a n s i d none = some p := by
  intro d
  induction d with
  | zero => intro i h1 h2; omega
  | succ d ih =>
    intro i h1 h2 h3
    by_cases e : i = p
    · rw [e, gh_fl_p hp]
      exact gl_fl0 d (p + 1) _ (fun j h4 h5 => h3 j (by omega) (by omega) (by omega))
    · rw [gh_fl_n (h3 i (Nat.le_refl _) (by omega) e)]
      exact ih (i + 1) (by omega) (by omega) (fun j h4 h5 => h3 j (by omega) (by omega))
theorem gl_first (hS : gb_S a μ) {n s : Nat} (hn : n < a.w * a.h) (hs : s < a.w * a.h) : f_Post_firstLying μ (me_N n) (me_N s) = some (gh_fl a n s 0 a.np none) := by
  have hwh := hS.2.1.wh
  have hnp := hS.2.1.n200
  exact y_first hS.1 hS.2.1 (n := n) (s := s) (by omega) (by omega) a.np me_FU 0 none (by omega) (by unfold me_FU; omega) (fun j q => by cases q)
theorem gl_receive_n (hS : gb_S a μ) {n s : Nat} (hn : n < a.w * a.h) (hs : s < a.w * a.h) (h : ∀ j, j < a.np → ¬ gh_ly a n s j) : f_L_receive μ (me_N n) (me_N s) = some (μ, -900002) := by
  unfold f_L_receive f_Y_receive
  rw [y_nodes_o hS.1 hS.2.1 hn hs, me_bd_s, me_xb2_o, gl_first hS hn hs, gl_fl0 a.np 0 none (fun j _ h2 => h j (by omega)), me_bd_s, me_oq_n, me_b2_s, me_xm_e, if_neg (by decide), if_pos rfl]
theorem gl_receive_o (hS : gb_S a μ) {n s p : Nat} (hn : n < a.w * a.h) (hs : s < a.w * a.h) (hp : p < a.np) (h1 : gh_ly a n s p) (h : ∀ j, j < a.np → ¬ j = p → ¬ gh_ly a n s j) : ∃ μ', f_L_receive μ (me_N n) (me_N s) = some (μ', me_N p) ∧ gb_S (me_S.s_st a (me_fu a.st p 114)) μ' ∧ gb_F μ μ' := by
  have hnp := hS.2.1.n200
  refine ⟨me_up μ 8 p 2 114, ?_, ⟨hS.1.w_st p 114, gw_ivr hS.2.1 hp h1.2.1, fun m hm => by rw [me_up_kn (by decide)]; exact hS.2.2 m hm⟩, fun k hk => by funext i j; rw [me_up_kn (by omega)]⟩
  unfold f_L_receive f_Y_receive
  rw [y_nodes_o hS.1 hS.2.1 hn hs, me_bd_s, me_xb2_o, gl_first hS hn hs, gl_fl1 h1 a.np 0 (Nat.zero_le _) (by omega) (fun j _ h2 h3 => h j (by omega) h3), me_bd_s, me_oq_s, me_lt_s, me_up_jn (by decide), hS.1.p0 p (by omega), me_b2_s, me_xm_o]
theorem gl_awake (hS : gb_S a μ) {n : Nat} (hn : n < a.w * a.h) : f_L_isAwake μ (me_N n) = some (μ, me_bi (a.aw n)) := by
  have hwh := hS.2.1.wh
  unfold f_L_isAwake f_Y_isAwake
  rw [y_node_o hS.1 hS.2.1 hn, me_bd_s, me_xb_o, me_gd_n (by omega) (by omega), me_N_ix (by omega), hS.1.aw n (by omega)]
  cases a.aw n with
  | true => rw [show me_bi true = 1 from rfl, me_gd_t me_nr_o, me_bd_s, me_xm_o, if_neg (by decide)]
  | false => rw [show me_bi false = 0 from rfl, me_gd_t me_nr_z, me_bd_s, me_xm_o, if_pos rfl]
theorem gl_sleep (hS : gb_S a μ) (hco : gb_co a) {n : Nat} (hn : n < a.w * a.h) (hq : ∀ r, a.q r = []) (hro : ∀ r, a.ro r = none) : ∃ μ', f_L_sleep μ (me_N n) = some (μ', me_bi (a.aw n)) ∧ gb_S (me_S.s_aw a (me_fu a.aw n false)) μ' ∧ gb_F μ μ' := by
  have hwh := hS.2.1.wh
  have hid : f_Router_isIdle μ n = some 1 := by
    have h1 := y_idle hS.1 hS.2.1 (n := n) (by omega) 10 me_FU 0 (by omega) (by unfold me_FU; omega)
    have h2 : gh_al (fun k => me_ie a (10 * n + k)) 0 10 = true := by
      have h3 : ∀ k, me_ie a (10 * n + k) = true := fun k => by
        unfold me_ie
        rw [hq, hro]
        rfl
      unfold gh_al gh_al gh_al gh_al gh_al gh_al gh_al gh_al gh_al gh_al gh_al
      simp only [h3, Bool.and_self]
    rw [h2] at h1
    exact h1
  have hC := hS.1.w_aw n false
  refine ⟨me_up μ 13 n 3 (me_bi false), ?_, ⟨hC, gw_ivs hS.2.1 hq hro, fun m hm => by rw [me_up_jn (by decide)]; exact hS.2.2 m hm⟩, fun k hk => by funext i j; rw [me_up_kn (by omega)]⟩
  unfold f_L_sleep f_Y_sleep
  rw [y_node_o hS.1 hS.2.1 hn, me_bd_s, me_xb2_o, me_gd_n (by omega) (by omega), me_N_ix (by omega), hid, me_bd_s, if_neg (by decide), me_gd_n (by omega) (by omega), y_busy hS.1 (by omega), hco n, if_neg (by decide), me_bd_s, if_pos rfl, me_lt_s, hS.1.aw n (by omega), me_lt_s]
  cases a.aw n with
  | true => rw [show me_bi true = 1 from rfl, me_gd_t me_nr_o, me_b2_s, me_xm_o, if_neg (by decide)]; rfl
  | false => rw [show me_bi false = 0 from rfl, me_gd_t me_nr_z, me_b2_s, me_xm_o, if_pos rfl]
theorem gl_side (d : Nat) (hd : d < 4) : me_fi (me_sb 1) ([101, 119, 115, 110].getD d 0) 0 = me_N d := by
  match d, hd with
  | 0, _ => rfl
  | 1, _ => rfl
  | 2, _ => rfl
  | 3, _ => rfl
theorem gl_row (hS : gb_S a μ) {n d : Nat} {v : Int32} (hn : n < a.w * a.h) (hd : d < 4) (hv : me_fi (me_sb 1) v 0 = me_N d) (hq : ∀ r, a.q r = []) : f_L_row μ (me_N n) v 0 = some (μ, 0) := by
  have hwh := hS.2.1.wh
  unfold f_L_row f_Y_row
  rw [y_node_o hS.1 hS.2.1 hn, me_bd_s, me_xb_o, me_N_0, me_N_5, y_row_o (by omega) (by decide) (show d < 5 by omega) (Nat.le_refl _) hv, me_bd_s, me_xb_o, hS.1.qn _ (by omega), hq, me_bd_s, me_xm_o]
  rfl
theorem gl_owner (hS : gb_S a μ) {n d : Nat} {v : Int32} (hn : n < a.w * a.h) (hd : d < 4) (hv : me_fi (me_sb 1) v 0 = me_N d) (hro : ∀ r, a.ro r = none) : f_L_owner μ (me_N n) v 0 = some (μ, -1) := by
  have hwh := hS.2.1.wh
  unfold f_L_owner f_Y_owner
  rw [y_node_o hS.1 hS.2.1 hn, me_bd_s, me_xb_o, me_N_0, me_N_4, y_row_o (by omega) (by decide) hd (by omega) hv, me_bd_s, me_xb_o, hS.1.ro _ (by omega), hro, me_bd_s, me_xm_o]
  rfl
theorem gl_memory (hS : gb_S a μ) {n i : Nat} (hn : n < a.w * a.h) (hi : i < 8) : f_L_memory μ (me_N n) (me_N i) = some (μ, a.mm n i) := by
  have hwh := hS.2.1.wh
  unfold f_L_memory f_Y_memory
  rw [y_node_o hS.1 hS.2.1 hn, me_bd_s, me_xb_o, show (0 : Int32) = me_N 0 from rfl, show (7 : Int32) = me_N 7 from rfl, y_range_o (by omega) (by omega) ⟨i, Nat.zero_le _, by omega, rfl⟩, me_bd_s, me_xb_o, me_gd_n (by omega) (by omega), me_gd_n (by omega) hi, me_N_ix (by omega), me_N_ix (by omega), hS.1.mm n i (by omega) hi, me_bd_s, me_xm_o]
theorem gl_set (hS : gb_S a μ) {n i : Nat} {v : Int32} (hn : n < a.w * a.h) (hi : i < 8) : ∃ μ', f_L_set μ (me_N n) (me_N i) v = some (μ', a.mm n i) ∧ gb_S (me_S.s_mm a (me_fu2 a.mm n i v)) μ' ∧ gb_F μ μ' := by
  have hwh := hS.2.1.wh
  refine ⟨me_up μ 23 n i v, ?_, ⟨hS.1.w_mm n i v, gh_iv_mm hS.2.1 _, fun m hm => by rw [me_up_kn (by decide)]; exact hS.2.2 m hm⟩, fun k hk => by funext i j; rw [me_up_kn (by omega)]⟩
  unfold f_L_set f_Y_set
  rw [y_node_o hS.1 hS.2.1 hn, me_bd_s, me_xb2_o, show (0 : Int32) = me_N 0 from rfl, show (7 : Int32) = me_N 7 from rfl, y_range_o (by omega) (by omega) ⟨i, Nat.zero_le _, by omega, rfl⟩, me_bd_s, me_xb2_o, me_gd_n (by omega) (by omega), me_gd_n (by omega) hi, me_lt_s, me_gd_n (by omega) (by omega), me_gd_n (by omega) hi, me_lt_s, me_N_ix (by omega), me_N_ix (by omega), hS.1.mm n i (by omega) hi, me_b2_s, me_xm_o]
theorem gl_answer_k (hS : gb_S a μ) {p : Nat} (hp : p < a.np) (h : ¬ a.kd p = 113) : f_L_answer μ (me_N p) = some (μ, -900002) := by
  unfold f_L_answer f_Y_answer
  rw [y_packet_o hS.1 hS.2.1 hp, me_bd_s, me_xb_o, hS.1.kd, if_neg h, me_bd_s, me_xm_e, if_neg (by decide), if_pos rfl]
theorem gl_answer_n (hS : gb_S a μ) {p : Nat} (hp : p < a.np) (h : a.kd p = 113) (ha : a.an p = none) : f_L_answer μ (me_N p) = some (μ, -900003) := by
  unfold f_L_answer f_Y_answer
  rw [y_packet_o hS.1 hS.2.1 hp, me_bd_s, me_xb_o, hS.1.kd, if_pos h, hS.1.an p hp, ha, if_pos (show me_Op none = -1 from rfl), me_bd_s, me_xm_e, if_neg (by decide), if_neg (by decide), if_pos rfl]
theorem gl_answer_o (hS : gb_S a μ) {p r : Nat} (hp : p < a.np) (h : a.kd p = 113) (ha : a.an p = some r) (hr : r < 1000) : f_L_answer μ (me_N p) = some (μ, me_N r) := by
  unfold f_L_answer f_Y_answer
  have e1 : me_Op (some r) = me_N r := rfl
  rw [y_packet_o hS.1 hS.2.1 hp, me_bd_s, me_xb_o, hS.1.kd, if_pos h, hS.1.an p hp, ha, e1, if_neg (me_N_nm1 (by omega)), me_bd_s, me_xm_o]
end GlObs
