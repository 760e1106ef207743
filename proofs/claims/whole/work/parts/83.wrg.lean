/-! lying, receive -/
def gh_ly (a : me_S) (n s i : Nat) : Prop := a.kd i = 109 ∧ a.st i = 100 ∧ a.gl i = n ∧ a.sr i = s
theorem y_lies {a : me_S} {μ : me_M} (hC : me_RC a μ) (hI : me_Iv a) {n s i : Nat} (hn : n < 16) (hs : s < 16) (hi : i < a.np) : (gh_ly a n s i ∧ f_Post_liesAt μ i (me_N n) (me_N s) = some 1) ∨ (¬ gh_ly a n s i ∧ f_Post_liesAt μ i (me_N n) (me_N s) = some 0) := by
  have hwh := hI.wh
  have h1 := hI.2.1.igl i hi
  have h2 := hI.2.1.isr i hi
  unfold f_Post_liesAt gh_ly
  rw [hC.kd, hC.st, hC.gl, hC.sr]
  have e1 : (me_N (a.gl i) = me_N n) ↔ a.gl i = n := me_N_inj (by omega) (by omega)
  have e2 : (me_N (a.sr i) = me_N s) ↔ a.sr i = s := me_N_inj (by omega) (by omega)
  by_cases c1 : a.kd i = 109
  · by_cases c2 : a.st i = 100
    · by_cases c3 : a.gl i = n
      · by_cases c4 : a.sr i = s
        · exact Or.inl ⟨⟨c1, c2, c3, c4⟩, by rw [if_pos c1, if_pos c2, if_pos (e1.mpr c3), if_pos (e2.mpr c4)]⟩
        · exact Or.inr ⟨fun q => c4 q.2.2.2, by rw [if_pos c1, if_pos c2, if_pos (e1.mpr c3), if_neg (fun q => c4 (e2.mp q))]⟩
      · exact Or.inr ⟨fun q => c3 q.2.2.1, by rw [if_pos c1, if_pos c2, if_neg (fun q => c3 (e1.mp q))]⟩
    · exact Or.inr ⟨fun q => c2 q.2.1, by rw [if_pos c1, if_neg c2]⟩
  · exact Or.inr ⟨fun q => c1 q.1, by rw [if_neg c1]⟩
theorem m_lies {a : me_S} {μ : me_M} (hM : me_RM a μ) (hI : me_Iv a) {n s i : Nat} (hn : n < 16) (hs : s < 16) (hi : i < a.np) : (gh_ly a n s i ∧ f_M_isLying μ (me_N i) (me_N n) (me_N s) = some 1) ∨ (¬ gh_ly a n s i ∧ f_M_isLying μ (me_N i) (me_N n) (me_N s) = some 0) := by
  have hwh := hI.wh
  have hnp := hI.n200
  have h1 := hI.2.1.igl i hi
  have h2 := hI.2.1.isr i hi
  unfold f_M_isLying gh_ly
  simp only [me_gd_n (show i < 2147483648 by omega) (show i < 200 by omega), me_N_ix (show i < 2147483648 by omega), hM.kd i hi, hM.st i hi, hM.gl i hi, hM.sr i hi]
  have e1 : (me_N (a.gl i) = me_N n) ↔ a.gl i = n := me_N_inj (by omega) (by omega)
  have e2 : (me_N (a.sr i) = me_N s) ↔ a.sr i = s := me_N_inj (by omega) (by omega)
  by_cases c1 : a.kd i = 109
  · by_cases c2 : a.st i = 100
    · by_cases c3 : a.gl i = n
      · by_cases c4 : a.sr i = s
        · exact Or.inl ⟨⟨c1, c2, c3, c4⟩, by rw [if_pos c1, if_pos c2, if_pos (e1.mpr c3), if_pos (e2.mpr c4)]⟩
        · exact Or.inr ⟨fun q => c4 q.2.2.2, by rw [if_pos c1, if_pos c2, if_pos (e1.mpr c3), if_neg (fun q => c4 (e2.mp q))]⟩
      · exact Or.inr ⟨fun q => c3 q.2.2.1, by rw [if_pos c1, if_pos c2, if_neg (fun q => c3 (e1.mp q))]⟩
    · exact Or.inr ⟨fun q => c2 q.2.1, by rw [if_pos c1, if_neg c2]⟩
  · exact Or.inr ⟨fun q => c1 q.1, by rw [if_neg c1]⟩
noncomputable def gh_l1 (a : me_S) (n s i : Nat) : Nat := @ite _ (gh_ly a n s i) (Classical.propDecidable _) 1 0
theorem gh_l1_p {a : me_S} {n s i : Nat} (h : gh_ly a n s i) : gh_l1 a n s i = 1 := if_pos h
theorem gh_l1_n {a : me_S} {n s i : Nat} (h : ¬ gh_ly a n s i) : gh_l1 a n s i = 0 := if_neg h
theorem y_cntLying {a : me_S} {μ : me_M} (hC : me_RC a μ) (hI : me_Iv a) {n s : Nat} (hn : n < 16) (hs : s < 16) : ∀ (d f i c : Nat), i + d = a.np → d < f → f_Post_countLying_h5 μ f (me_N n) (me_N s) (me_N c) (me_N i) = some (me_N (c + me_sm (gh_l1 a n s) i d)) := by
  have hnp := hI.n200
  intro d
  induction d with
  | zero =>
    intro f i c h1 h2
    obtain ⟨f, rfl⟩ : ∃ g, f = g + 1 := ⟨f - 1, by omega⟩
    show f_Post_countLying_b5 _ _ _ _ _ _ = _
    unfold f_Post_countLying_b5
    rw [hC.np, if_pos (by rw [me_N_le (by omega) (by omega)]; omega)]
    rfl
  | succ d ih =>
    intro f i c h1 h2
    obtain ⟨f, rfl⟩ : ∃ g, f = g + 1 := ⟨f - 1, by omega⟩
    show f_Post_countLying_b5 _ _ _ _ _ _ = some (me_N (c + (gh_l1 a n s i + me_sm (gh_l1 a n s) (i + 1) d)))
    unfold f_Post_countLying_b5
    rw [hC.np, if_neg (by rw [me_N_le (by omega) (by omega)]; omega), me_gd_n (by omega) (by omega), me_N_ix (by omega)]
    rcases y_lies hC hI hn hs (i := i) (by omega) with ⟨h, e⟩ | ⟨h, e⟩
    · rw [e, me_bd_s, if_neg (by decide), me_lt_s, me_N_inc, me_lt_s, me_N_inc, ih f (i + 1) (c + 1) (by omega) (by omega), gh_l1_p h, Nat.add_assoc]
    · rw [e, me_bd_s, if_pos rfl, me_lt_s, me_N_inc, ih f (i + 1) c (by omega) (by omega), gh_l1_n h, Nat.zero_add]
theorem m_cntLying {a : me_S} {μ : me_M} (hM : me_RM a μ) (hI : me_Iv a) {n s : Nat} (hn : n < 16) (hs : s < 16) : ∀ (d f i c : Nat), i + d = a.np → d < f → f_M_lying_h36 f μ (me_N n) (me_N s) (me_N c) (me_N i) = some (μ, me_N (c + me_sm (gh_l1 a n s) i d)) := by
  have hnp := hI.n200
  intro d
  induction d with
  | zero =>
    intro f i c h1 h2
    obtain ⟨f, rfl⟩ : ∃ g, f = g + 1 := ⟨f - 1, by omega⟩
    show f_M_lying_b36 _ _ _ _ _ _ = _
    unfold f_M_lying_b36
    rw [hM.np, if_pos (by rw [me_N_le (by omega) (by omega)]; omega)]
    rfl
  | succ d ih =>
    intro f i c h1 h2
    obtain ⟨f, rfl⟩ : ∃ g, f = g + 1 := ⟨f - 1, by omega⟩
    show f_M_lying_b36 _ _ _ _ _ _ = some (μ, me_N (c + (gh_l1 a n s i + me_sm (gh_l1 a n s) (i + 1) d)))
    unfold f_M_lying_b36
    rw [hM.np, if_neg (by rw [me_N_le (by omega) (by omega)]; omega)]
    rcases m_lies hM hI hn hs (i := i) (by omega) with ⟨h, e⟩ | ⟨h, e⟩
    · rw [e, me_bd_s, if_neg (by decide), me_lt_s, me_N_1, me_N_add, me_lt_s, me_N_inc, ih f (i + 1) (c + 1) (by omega) (by omega), gh_l1_p h, Nat.add_assoc]
    · rw [e, me_bd_s, if_pos rfl, me_lt_s, me_N_0, me_N_add, me_lt_s, me_N_inc, ih f (i + 1) (c + 0) (by omega) (by omega), gh_l1_n h, Nat.zero_add]
      rfl
/-- the first that lies there -/
noncomputable def gh_fl (a : me_S) (n s : Nat) : Nat → Nat → Option Nat → Option Nat
  | _, 0, b => b
  | i, d + 1, b => gh_fl a n s (i + 1) d (@ite _ (gh_ly a n s i) (Classical.propDecidable _) (match b with
    | none => some i
    | some j => if me_Op (a.dn j) ≤ me_Op (a.dn i) then some j else some i) b)
theorem gh_fl_p {a : me_S} {n s i d : Nat} {b : Option Nat} (h : gh_ly a n s i) : gh_fl a n s i (d + 1) b = gh_fl a n s (i + 1) d (match b with
    | none => some i
    | some j => if me_Op (a.dn j) ≤ me_Op (a.dn i) then some j else some i) := by
  show gh_fl a n s (i + 1) d (@ite _ (gh_ly a n s i) (Classical.propDecidable _) _ b) = _
  rw [if_pos h]
theorem gh_fl_n {a : me_S} {n s i d : Nat} {b : Option Nat} (h : ¬ gh_ly a n s i) : gh_fl a n s i (d + 1) b = gh_fl a n s (i + 1) d b := by
  show gh_fl a n s (i + 1) d (@ite _ (gh_ly a n s i) (Classical.propDecidable _) _ b) = _
  rw [if_neg h]
theorem gh_fl_ok {a : me_S} {n s : Nat} : ∀ (d i : Nat) (b : Option Nat), i + d = a.np → (∀ j, b = some j → j < a.np ∧ gh_ly a n s j) → ∀ j, gh_fl a n s i d b = some j → j < a.np ∧ gh_ly a n s j := by
  intro d
  induction d with
  | zero => intro i b _ hb j hj; exact hb j hj
  | succ d ih =>
    intro i b h1 hb j hj
    by_cases h : gh_ly a n s i
    · rw [gh_fl_p h] at hj
      refine ih (i + 1) _ (by omega) (fun k hk => ?_) j hj
      cases b with
      | none =>
        cases hk
        exact ⟨by omega, h⟩
      | some m =>
        dsimp only at hk
        split at hk
        · exact hb k hk
        · cases hk; exact ⟨by omega, h⟩
    · rw [gh_fl_n h] at hj
      exact ih (i + 1) b (by omega) hb j hj
theorem y_first {a : me_S} {μ : me_M} (hC : me_RC a μ) (hI : me_Iv a) {n s : Nat} (hn : n < 16) (hs : s < 16) : ∀ (d f i : Nat) (b : Option Nat), i + d = a.np → d < f → (∀ j, b = some j → j < a.np) → f_Post_firstLying_h5 μ f (me_N n) (me_N s) b (me_N i) = some (gh_fl a n s i d b) := by
  have hnp := hI.n200
  intro d
  induction d with
  | zero =>
    intro f i b h1 h2 hb
    obtain ⟨f, rfl⟩ : ∃ g, f = g + 1 := ⟨f - 1, by omega⟩
    show f_Post_firstLying_b5 _ _ _ _ _ _ = _
    unfold f_Post_firstLying_b5
    rw [hC.np, if_pos (by rw [me_N_le (by omega) (by omega)]; omega)]
    cases b <;> rfl
  | succ d ih =>
    intro f i b h1 h2 hb
    obtain ⟨f, rfl⟩ : ∃ g, f = g + 1 := ⟨f - 1, by omega⟩
    show f_Post_firstLying_b5 _ _ _ _ _ _ = _
    unfold f_Post_firstLying_b5 f_Post_firstLying_b50
    simp only [me_lt_s, me_N_inc]
    rw [hC.np, if_neg (by rw [me_N_le (by omega) (by omega)]; omega), me_gd_n (by omega) (by omega), me_N_ix (by omega)]
    rcases y_lies hC hI hn hs (i := i) (by omega) with ⟨h, e⟩ | ⟨h, e⟩
    · rw [e, me_bd_s, if_neg (by decide), gh_fl_p h]
      cases b with
      | none =>
        rw [me_oq_n]
        exact ih f (i + 1) _ (by omega) (by omega) (fun j hj => by cases hj; omega)
      | some m =>
        rw [me_oq_s, hC.dn m (hb m rfl), hC.dn i (by omega)]
        dsimp only
        by_cases c : me_Op (a.dn m) ≤ me_Op (a.dn i)
        · rw [if_pos c, if_pos c]
          exact ih f (i + 1) _ (by omega) (by omega) (fun j hj => by cases hj; exact hb m rfl)
        · rw [if_neg c, if_neg c]
          exact ih f (i + 1) _ (by omega) (by omega) (fun j hj => by cases hj; omega)
    · rw [e, me_bd_s, if_pos rfl, gh_fl_n h]
      exact ih f (i + 1) b (by omega) (by omega) hb
theorem m_first {a : me_S} {μ : me_M} (hM : me_RM a μ) (hI : me_Iv a) {n s : Nat} (hn : n < 16) (hs : s < 16) : ∀ (d f i : Nat) (b : Option Nat), i + d = a.np → d < f → (∀ j, b = some j → j < a.np ∧ gh_ly a n s j) → f_M_firstLying_h5 μ f (me_N n) (me_N s) (me_Op b) (me_N i) = some (me_Op (gh_fl a n s i d b)) := by
  have hnp := hI.n200
  intro d
  induction d with
  | zero =>
    intro f i b h1 h2 hb
    obtain ⟨f, rfl⟩ : ∃ g, f = g + 1 := ⟨f - 1, by omega⟩
    show f_M_firstLying_b5 _ _ _ _ _ _ = _
    unfold f_M_firstLying_b5
    rw [hM.np, if_pos (by rw [me_N_le (by omega) (by omega)]; omega)]
    rfl
  | succ d ih =>
    intro f i b h1 h2 hb
    obtain ⟨f, rfl⟩ : ∃ g, f = g + 1 := ⟨f - 1, by omega⟩
    show f_M_firstLying_b5 _ _ _ _ _ _ = _
    unfold f_M_firstLying_b5 f_M_firstLying_b51 f_M_firstLying_b46
    simp only [me_lt_s, me_N_inc]
    rw [hM.np, if_neg (by rw [me_N_le (by omega) (by omega)]; omega)]
    rcases m_lies hM hI hn hs (i := i) (by omega) with ⟨h, e⟩ | ⟨h, e⟩
    · rw [e, me_bd_s, if_neg (by decide), gh_fl_p h]
      cases b with
      | none =>
        rw [if_pos (show me_Op none = -1 from rfl)]
        exact ih f (i + 1) (some i) (by omega) (by omega) (fun j hj => by cases hj; exact ⟨by omega, h⟩)
      | some m =>
        obtain ⟨hm, hl⟩ := hb m rfl
        rw [show me_Op (some m) = me_N m from rfl, if_neg (me_N_nm1 (by omega)), me_gd_n (by omega) (by omega), me_gd_n (by omega) (by omega), me_N_ix (by omega), me_N_ix (by omega), hM.dn m hm (Or.inl hl.2.1), hM.dn i (by omega) (Or.inl h.2.1)]
        dsimp only
        by_cases c : me_Op (a.dn m) ≤ me_Op (a.dn i)
        · rw [if_pos c, if_pos c]
          exact ih f (i + 1) (some m) (by omega) (by omega) (fun j hj => by cases hj; exact ⟨hm, hl⟩)
        · rw [if_neg c, if_neg c]
          exact ih f (i + 1) (some i) (by omega) (by omega) (fun j hj => by cases hj; exact ⟨by omega, h⟩)
    · rw [e, me_bd_s, if_pos rfl, gh_fl_n h]
      exact ih f (i + 1) b (by omega) (by omega) hb
theorem t_11 {T : Nat} {a : me_S} {μ : me_M} {o : Int64 × UInt64} {s1 s2 s3 s4 s5 : Int32} (hR : me_R T a μ) : ∃ μ' o' a', f_case_11 μ o s1 s2 s3 s4 s5 = some (μ', o') ∧ me_R T a' μ' := by
  obtain ⟨hC, hM, hI, hbt, hT, hwk⟩ := id hR
  have hwh := hI.wh
  have hnp := hI.n200
  have hD : me_Dd a a μ := ⟨hC, hM, hwk⟩
  have z0 : (0 : Int32) = me_N 0 := rfl
  by_cases hb : me_isB s1 (a.w * a.h)
  · by_cases hb2 : me_isB s2 (a.w * a.h)
    · obtain ⟨n, hn, rfl⟩ := hb
      obtain ⟨m, hm, rfl⟩ := hb2
      have e1 := y_nodes_o hC hI hn hm
      have e2 := m_node_o hM hI hn
      have e3 := m_node_o hM hI hm
      have c1 : f_Post_countLying_h5 μ me_FU (me_N n) (me_N m) 0 0 = _ := y_cntLying hC hI (n := n) (s := m) (by omega) (by omega) a.np me_FU 0 0 (Nat.zero_add _) (show _ < 1000 by omega)
      have c2 : f_M_lying_h36 me_FU (me_up μ 36 0 42 0) (me_N n) (me_N m) 0 0 = _ := m_cntLying (hR.th 0).2.1 hI (n := n) (s := m) (by omega) (by omega) a.np me_FU 0 0 (Nat.zero_add _) (show _ < 1000 by omega)
      refine ⟨_, (Int32.toInt64 (me_N (0 + me_sm (gh_l1 a n m) 0 a.np)), o.2), a, ?_, hR.th 0⟩
      simp [f_case_11, f_L_lying, f_Y_lying, f_Post_countLying, f_M_lying, f_M_lying_b22, me_bd_s, me_b2_s, me_lt_s, me_oq_n, me_oq_s, me_xb_o, me_xb_e, me_xb2_o, me_xb2_e, me_xm_o, me_xm_e, f_M_thrown, m_th0, m_th1, me_cmp_self, me_up_at, if_true, if_false, me_nr_z, me_nr_o, me_gd_t, me_up_kn, me_up_jn, e1, e2, e3, c1, c2]
    · obtain ⟨n, hn, rfl⟩ := hb
      have e1 := y_nodes_n (μ := μ) hC hI (v := me_N n) (u := s2) (fun q => hb2 q.2)
      have e2 := m_node_o hM hI hn
      have e3 := m_node_n hM hI hb2
      refine ⟨_, o, a, ?_, hR.th 1⟩
      simp [f_case_11, f_L_lying, f_Y_lying, f_M_lying, f_M_lying_b17, f_M_lying_b22, me_bd_s, me_b2_s, me_lt_s, me_oq_n, me_oq_s, me_xb_o, me_xb_e, me_xb2_o, me_xb2_e, me_xm_o, me_xm_e, f_M_thrown, m_th0, m_th1, me_cmp_self, me_up_at, if_true, if_false, me_nr_z, me_nr_o, me_gd_t, me_up_kn, me_up_jn, e1, e2, e3]
  · have e1 := y_nodes_n (μ := μ) hC hI (v := s1) (u := s2) (fun q => hb q.1)
    have e2 := m_node_n hM hI hb
    refine ⟨_, o, a, ?_, hR.th 1⟩
    simp [f_case_11, f_L_lying, f_Y_lying, f_M_lying, f_M_lying_b17, f_M_lying_b22, me_bd_s, me_b2_s, me_lt_s, me_oq_n, me_oq_s, me_xb_o, me_xb_e, me_xb2_o, me_xb2_e, me_xm_o, me_xm_e, f_M_thrown, m_th0, m_th1, me_cmp_self, me_up_at, if_true, if_false, me_nr_z, me_nr_o, me_gd_t, me_up_kn, me_up_jn, e1, e2]
/-- a state that is none of a packet in a row may change -/
theorem me_Wm.st_ch {w h np : Nat} {kd st st' : Nat → Int32} {sr gl bo pt tk : Nat → Nat} {hd : Nat → Option Nat} {q : Nat → List (Nat × Nat × Nat)} {ro rh : Nat → Option Nat} {aw : Nat → Bool} (h0 : me_Wm w h np kd st sr gl bo pt tk hd q ro rh aw) (h1 : ∀ i, st' i = 119 ↔ st i = 119) (h2 : ∀ i, st' i = 108 ↔ st i = 108) : me_Wm w h np kd st' sr gl bo pt tk hd q ro rh aw :=
  me_Wm.mk h0.in4 (fun r e he => by have := h0.iel r e he; exact ⟨this.1, this.2.1, (h1 _).mpr this.2.2.1, this.2.2.2⟩) h0.idi h0.icr h0.ice (fun r p hp => by have := h0.iow r p hp; exact ⟨this.1, this.2.1, (h1 _).mpr this.2.2.1, this.2.2.2⟩) h0.iun h0.iso h0.ifo h0.ion (fun r p hp hh => h0.ivd r p (by
    rcases hp with hp | ⟨q1, q2, q3, q4⟩ | hp
    · exact Or.inl hp
    · exact Or.inr (Or.inl ⟨q1, q2, (h1 _).mp q3, q4⟩)
    · exact Or.inr (Or.inr hp)) hh) h0.itl h0.ihm (fun r e p he hr hp hn hs hc => h0.ifi r e p he hr hp hn ((h1 _).mp hs) hc) h0.ihd (fun p i hp hs => h0.iex p i hp ((h1 _).mp hs)) (fun p hp hs => h0.ict p hp (fun q => hs ((h2 _).mpr q))) (fun p j hp h3 h4 h5 h6 => by
    rcases h0.ifp p j hp h3 h4 h5 h6 with e | e
    · exact Or.inl e
    · exact Or.inr ((h2 _).mpr e)) h0.isl
theorem t_12 {T : Nat} {a : me_S} {μ : me_M} {o : Int64 × UInt64} {s1 s2 s3 s4 s5 : Int32} (hR : me_R T a μ) : ∃ μ' o' a', f_case_12 μ o s1 s2 s3 s4 s5 = some (μ', o') ∧ me_R T a' μ' := by
  obtain ⟨hC, hM, hI, hbt, hT, hwk⟩ := id hR
  have hwh := hI.wh
  have hnp := hI.n200
  have hD : me_Dd a a μ := ⟨hC, hM, hwk⟩
  by_cases hb : me_isB s1 (a.w * a.h)
  · by_cases hb2 : me_isB s2 (a.w * a.h)
    · obtain ⟨n, hn, rfl⟩ := hb
      obtain ⟨m, hm, rfl⟩ := hb2
      have e1 := y_nodes_o hC hI hn hm
      have c1 : f_Post_firstLying_h5 μ me_FU (me_N n) (me_N m) none 0 = _ := y_first hC hI (n := n) (s := m) (by omega) (by omega) a.np me_FU 0 none (Nat.zero_add _) (show _ < 1000 by omega) (fun j hj => by cases hj)
      have c2 : ∀ μ', me_RM a μ' → f_M_firstLying_h5 μ' me_FU (me_N n) (me_N m) (-1) 0 = some (me_Op (gh_fl a n m 0 a.np none)) := fun μ' h => m_first h hI (n := n) (s := m) (by omega) (by omega) a.np me_FU 0 none (Nat.zero_add _) (show _ < 1000 by omega) (fun j hj => by cases hj)
      cases hf : gh_fl a n m 0 a.np none with
      | none =>
        rw [hf] at c1 c2
        have e2 := m_node_o hM hI hn
        have e3 := m_node_o hM hI hm
        refine ⟨_, o, a, ?_, (hR.th 0).th 2⟩
        simp [f_case_12, f_L_receive, f_Y_receive, f_Post_firstLying, f_M_receive, f_M_receive_b22, f_M_receive_b49, f_M_firstLying, me_bd_s, me_b2_s, me_lt_s, me_oq_n, me_oq_s, me_xb_o, me_xb_e, me_xb2_o, me_xb2_e, me_xm_o, me_xm_e, f_M_thrown, m_th0, m_th1, me_cmp_self, me_up_at, if_true, if_false, me_nr_z, me_nr_o, me_gd_t, me_up_kn, me_up_jn, e1, e2, e3, c1, c2 _ (hR.th 0).2.1, me_Op]
      | some j =>
        obtain ⟨hj, hl⟩ := gh_fl_ok a.np 0 none (Nat.zero_add _) (fun j hj => by cases hj) j hf
        rw [hf] at c1 c2
        have g1 : ∀ α (k : Option α), me_gd (me_inb (me_N j) 200) k = k := fun α k => me_gd_n (by omega) (by omega)
        have g2 : me_ix (me_N j) = j := me_N_ix (by omega)
        have g3 : ¬ me_N j = -1 := me_N_nm1 (by omega)
        have D1 := hD.c (hC.w_st j 114) (by decide) (Or.inl (by decide))
        have e2 := m_node_o D1.2.1 hI hn
        have e3 := m_node_o D1.2.1 hI hm
        have D3 := (D1.th 0).th 0
        have D4 := D3.m (D3.2.1.w_st j 114 (fun _ => D3.2.1.dn j hj (Or.inl hl.2.1))) (by decide)
        have hp := hI.2.1
        have hst : ∀ i, ¬ i = j → me_fu a.st j 114 i = a.st i := fun i h => me_fu_ne h
        have hI2 : me_Iv (a.s_st (me_fu a.st j 114)) := by
          refine ⟨hI.1, ?_, hI.2.2.1, hI.2.2.2.1, ?_, ?_, hI.2.2.2.2.2.2⟩
          · refine me_IP.mk hp.ile ?_ hp.ikd (fun i hi => ?_) hp.isr hp.igl hp.ibo hp.ipt hp.ima (fun i hi hs => ?_) hp.idm hp.ipl hp.ian (fun i hi hs => ?_) (fun i hi hs => ?_) (fun i hi hs => ?_)
            · refine hp.iow.trans (List.countP_congr (fun i _ => ?_))
              show me_qs a.kd a.st i = true ↔ me_qs a.kd (me_fu a.st j 114) i = true
              by_cases e : i = j
              · subst e
                unfold me_qs
                rw [hl.1]
                simp
              · unfold me_qs
                rw [hst i e]
            · show me_fu a.st j 114 i = 115 ∨ me_fu a.st j 114 i = 119 ∨ me_fu a.st j 114 i = 100 ∨ me_fu a.st j 114 i = 114 ∨ me_fu a.st j 114 i = 108
              by_cases e : i = j
              · rw [e, me_fu_at]; simp
              · rw [hst i e]; exact hp.ist i hi
            · replace hs : me_fu a.st j 114 i = 100 ∨ me_fu a.st j 114 i = 114 := hs
              by_cases e : i = j
              · rw [e]; exact hp.idn j hj (Or.inl hl.2.1)
              · rw [hst i e] at hs; exact hp.idn i hi hs
            · replace hs : me_fu a.st j 114 i = 115 := hs
              by_cases e : i = j
              · rw [e, me_fu_at] at hs; exact absurd hs (by decide)
              · rw [hst i e] at hs; exact hp.is0 i hi hs
            · replace hs : me_fu a.st j 114 i = 119 := hs
              by_cases e : i = j
              · rw [e, me_fu_at] at hs; exact absurd hs (by decide)
              · rw [hst i e] at hs; exact hp.is1 i hi hs
            · replace hs : me_fu a.st j 114 i = 100 ∨ me_fu a.st j 114 i = 114 := hs
              by_cases e : i = j
              · rw [e]; exact hp.is2 j hj (Or.inl hl.2.1)
              · rw [hst i e] at hs; exact hp.is2 i hi hs
          · refine hI.2.2.2.2.1.st_ch (fun i => ?_) (fun i => ?_)
            · show me_fu a.st j 114 i = 119 ↔ a.st i = 119
              by_cases e : i = j
              · rw [e, me_fu_at, hl.2.1]; decide
              · rw [hst i e]
            · show me_fu a.st j 114 i = 108 ↔ a.st i = 108
              by_cases e : i = j
              · rw [e, me_fu_at, hl.2.1]; decide
              · rw [hst i e]
          · intro n' c k h1 h2 h3 h4
            rcases hI.2.2.2.2.2.1 n' c k h1 h2 h3 h4 with e | e
            · exact Or.inl e
            · refine Or.inr ?_
              show me_fu a.st j 114 k = 108
              by_cases e' : k = j
              · rw [e', hl.2.1] at e; exact absurd e (by decide)
              · rw [hst k e']; exact e
        refine ⟨_, (Int32.toInt64 (me_N j), o.2), _, ?_, D4.R rfl hI2 hbt hT⟩
        simp [f_case_12, f_L_receive, f_Y_receive, f_Post_firstLying, f_M_receive, f_M_receive_b22, f_M_receive_b49, f_M_firstLying, me_bd_s, me_b2_s, me_lt_s, me_oq_n, me_oq_s, me_xb_o, me_xb_e, me_xb2_o, me_xb2_e, me_xm_o, me_xm_e, f_M_thrown, m_th0, m_th1, me_cmp_self, me_up_at, if_true, if_false, me_nr_z, me_nr_o, me_gd_t, me_up_kn, me_up_jn, e1, e2, e3, c1, c2 _ (D1.th 0).2.1, hC.p0 j (by omega), g1, g2, g3, me_Op, show vp_nar .char 114 = (114 : Int32) from rfl]
    · obtain ⟨n, hn, rfl⟩ := hb
      have e1 := y_nodes_n (μ := μ) hC hI (v := me_N n) (u := s2) (fun q => hb2 q.2)
      have e2 := m_node_o hM hI hn
      have e3 := m_node_n hM hI hb2
      refine ⟨_, o, a, ?_, hR.th 1⟩
      simp [f_case_12, f_L_receive, f_Y_receive, f_M_receive, f_M_receive_b17, f_M_receive_b22, me_bd_s, me_b2_s, me_lt_s, me_oq_n, me_oq_s, me_xb_o, me_xb_e, me_xb2_o, me_xb2_e, me_xm_o, me_xm_e, f_M_thrown, m_th0, m_th1, me_cmp_self, me_up_at, if_true, if_false, me_nr_z, me_nr_o, me_gd_t, me_up_kn, me_up_jn, e1, e2, e3]
  · have e1 := y_nodes_n (μ := μ) hC hI (v := s1) (u := s2) (fun q => hb q.1)
    have e2 := m_node_n hM hI hb
    refine ⟨_, o, a, ?_, hR.th 1⟩
    simp [f_case_12, f_L_receive, f_Y_receive, f_M_receive, f_M_receive_b17, f_M_receive_b22, me_bd_s, me_b2_s, me_lt_s, me_oq_n, me_oq_s, me_xb_o, me_xb_e, me_xb2_o, me_xb2_e, me_xm_o, me_xm_e, f_M_thrown, m_th0, m_th1, me_cmp_self, me_up_at, if_true, if_false, me_nr_z, me_nr_o, me_gd_t, me_up_kn, me_up_jn, e1, e2]
