/-! a core sends, receives; what a core does; all cores, side by side -/
theorem me_up_id {μ : me_M} {k i j : Nat} {x : Int32} (h : μ k i j = x) : me_up μ k i j x = μ := by
  funext a b c
  rw [me_up_ap]
  by_cases e : a = k ∧ b = i ∧ c = j
  · rw [if_pos e, e.1, e.2.1, e.2.2]
    exact h.symm
  · rw [if_neg e]
theorem me_up_up {μ : me_M} {k i j : Nat} {x y : Int32} : me_up (me_up μ k i j x) k i j y = me_up μ k i j y := by
  funext a b c
  rw [me_up_ap, me_up_ap, me_up_ap]
  by_cases e : a = k ∧ b = i ∧ c = j
  · rw [if_pos e, if_pos e]
  · rw [if_neg e, if_neg e, if_neg e]
theorem me_b2_u {X : Option (me_M × Unit)} : me_b2 X (fun μ _ => some (μ, ())) = X := by
  cases X with
  | none => rfl
  | some p => obtain ⟨a, b⟩ := p; rfl
theorem y_hasRoom {a : me_S} {μ : me_M} (hC : me_RC a μ) (hI : me_Iv a) : f_Post_hasRoom μ (me_N 1) = some (if a.np + a.ow + 1 ≤ 200 then 1 else 0) := by
  have h2 := hI.2.1.ile
  unfold f_Post_hasRoom
  rw [hC.np, hC.ow, me_N_add, me_N_add, me_N_200]
  by_cases h : a.np + a.ow + 1 ≤ 200
  · rw [if_neg (by rw [me_N_lt (by omega) (by omega)]; omega), if_pos h]
  · rw [if_pos (by rw [me_N_lt (by omega) (by omega)]; omega), if_neg h]
theorem bb_send {a : me_S} {W : Nat → Bool} {v : Int32} {μ ν : me_M} (hX : bb_X a a W v v μ ν) {n g : Nat} (hn : n < a.w * a.h) (hg : g < a.w * a.h) (hc : a.co n = 114) (hca : a.ca n < 12) : bb_Q a W v μ ν (f_Works_sendWord μ (me_N n) n (me_N g) (me_N a.bt)) (f_M_sends ν (me_N n) (me_N g)) := by
  obtain ⟨hC, hM, hI, h4, h5, h6, h7, h8, h9⟩ := id hX
  have hwh := hI.wh
  have hdp := hI.2.2.1.idp n
  have hle := hI.2.1.ile
  have hn16 : n < 16 := by omega
  have hc45 : ¬ a.co n = 45 := by rw [hc]; decide
  unfold f_Works_sendWord f_M_sends
  rcases bb_has hX hn16 (show 1 < 10 by decide) hc45 with ⟨e, d1, d2⟩ | ⟨μ', ν', d1, d2, d3, d4⟩
  · rw [me_N_1, d1, d2, me_b2_s, me_b2_s, if_neg (by decide), if_neg (by decide), y_hasRoom hC hI, m_room hM hI, me_bd_s, me_bd_s]
    by_cases hr : a.np + a.ow + 1 ≤ 200
    · obtain ⟨p1, p2, p3, p4⟩ := bb_pop hX hn16 e
      obtain ⟨μ9, e1, c1, f1⟩ := y_make0 p3.1 (k := 109) (s := n) (g := g) (w := a.sk n (a.dp n - 1)) (b := 1) (by decide) (by decide +kernel) (show a.np < 200 by omega)
      obtain ⟨ν9, e2, c2, f2, f3⟩ := m_made5 p3.2.1 (k := 109) (s := n) (g := g) (w := a.sk n (a.dp n - 1)) (b := 1) (by decide) (by decide +kernel) (show a.np < 200 by omega)
      have e1 : f_Post_make (me_up μ 22 n 4 (me_N (a.dp n - 1))) 109 (me_N n) (me_N g) (a.sk n (a.dp n - 1)) (me_N 1) (me_N a.bt) = some (μ9, me_N a.np) := e1
      have e2 : f_M_made (me_up ν 87 0 n (me_N (a.dp n - 1))) 109 (me_N n) (me_N g) (a.sk n (a.dp n - 1)) (me_N 1) = some (ν9, me_N a.np) := e2
      have hI2 : me_Iv (gh_mk (me_S.s_dp a (me_fu a.dp n (a.dp n - 1))) 109 n g (a.sk n (a.dp n - 1)) 1) := gh_iv0 p3.2.2.1 (Or.inl rfl) (show a.np + 1 + a.ow ≤ 200 by omega) hn hg ⟨Nat.le_refl _, by omega⟩
      obtain ⟨k1, k2⟩ := bb_fin p3 c1 c2 hI2 rfl rfl rfl rfl (v' := v) (fun k hk => f1 k (by omega) (by omega)) (by rw [f3 5 (by decide)]; exact p3.2.2.2.2.2.1) (f3 42 (by decide)) (fun k hk => f2 k (by omega))
      obtain ⟨q1, q2⟩ := bb_go k2 (n := n) (m := a.ca n + 1) hn16 (by omega) hc
      have z1 : μ9 22 n 6 = me_N (a.ca n) := c1.ca n hn16
      have z2 : ν9 91 0 n = me_N (a.ca n) := (c2.ca n hn16).trans (if_neg hc45)
      refine ⟨_, _, _, ?_, ?_, (p2.tr_ k1).tr_ q1, q2⟩
      · rw [if_pos hr, if_neg (by decide), hC.dp n hn16, me_N_sub e, me_lt_s, me_up_at, me_gd_n (by omega) (by omega), me_N_ix (by omega), me_up_kn (show ¬ 24 = 22 by decide), p4, e1, me_b2_s, z1, me_N_add, me_lt_s]
      · rw [if_pos (by rw [me_N_le (by omega) (by omega)]; omega), p1, me_b2_s, e2, me_b2_s, me_gd_n (by omega) hn16, me_gd_n (by omega) hn16, me_N_ix (by omega), z2, me_N_add, me_lt_s]
    · obtain ⟨μ', ν', d1, d2, d3, d4, -⟩ := bb_fail hX (f := 112) hn16 (by simp) (by decide +kernel) hc45
      refine ⟨μ', ν', _, ?_, ?_, d3, d4⟩
      · rw [if_neg hr, if_pos (by rfl), d1, me_b2_s]
      · rw [if_neg (by rw [me_N_le (by omega) (by omega)]; omega), d2, me_b2_s]
  · rw [me_N_1, d1, d2, me_b2_s, me_b2_s, if_pos (by rfl), if_pos (by rfl)]
    exact ⟨μ', ν', _, rfl, rfl, d3, d4⟩
/-- the reference's push where there is room -/
theorem m_push_o {a : me_S} {ν : me_M} (hM : me_RM a ν) {n : Nat} {x : Int32} (hn : n < 16) (hd : a.dp n < 6) (hc : ¬ a.co n = 45) : f_M_push ν (me_N n) x = some (me_up (me_up (me_up ν 78 n (a.dp n) x) 87 0 n (me_N (a.dp n + 1))) 91 0 n (me_N (a.ca n + 1)), ()) := by
  have zd' := hM.dp n hn
  unfold f_M_push
  rw [me_gd_n (by omega) hn, me_N_ix (a := n) (by omega), zd', if_neg (by rw [show (6 : Int32) = me_N 6 from rfl, me_N_inj (by omega) (by omega)]; omega)]
  simp only [me_gd_n (show n < 2147483648 by omega) hn, me_gd_n (show a.dp n < 2147483648 by omega) hd, me_N_ix (show a.dp n < 2147483648 by omega), me_lt_s, me_up_kn (show ¬ 87 = 78 by decide), zd', me_N_1, me_N_add, me_up_kn (show ¬ 91 = 87 by decide), me_up_kn (show ¬ 91 = 78 by decide), (hM.ca n hn).trans (if_neg hc)]
theorem bb_take {a : me_S} {W : Nat → Bool} {v : Int32} {μ ν : me_M} (hX : bb_X a a W v v μ ν) {n s : Nat} (hn : n < a.w * a.h) (hs : s < a.w * a.h) (hc : a.co n = 114 ∨ a.co n = 119) (hca : a.ca n < 12) (hln : a.ca n < a.ln n ∧ a.nm n (a.ca n) = 114) : bb_Q a W v μ ν (f_Works_receiveWord μ (me_N n) n (me_N s)) (f_M_takes (me_up ν 89 0 n 114) (me_N n) (me_N s)) := by
  obtain ⟨hC, hM, hI, h4, h5, h6, h7, h8, h9⟩ := id hX
  have hwh := hI.wh
  have hnp := hI.n200
  have hdp := hI.2.2.1.idp n
  have hn16 : n < 16 := by omega
  have hc45 : ¬ a.co n = 45 := by
    rcases hc with q | q <;> · rw [q]; decide
  obtain ⟨s1, s2⟩ := bb_set hX (s := 114) hn16 hc45 (Or.inl rfl) (fun e => absurd e (by decide)) (fun e => absurd e (by decide))
  have c1 : f_Post_firstLying μ (me_N n) (me_N s) = some (gh_fl a n s 0 a.np none) := y_first hC hI (n := n) (s := s) (by omega) (by omega) a.np me_FU 0 none (Nat.zero_add _) (show _ < 1000 by omega) (fun j hj => by cases hj)
  have c2 : f_M_firstLying_h5 (me_up ν 89 0 n 114) me_FU (me_N n) (me_N s) (me_Op none) (me_N 0) = some (me_Op (gh_fl (me_S.s_co a (me_fu a.co n 114)) n s 0 a.np none)) := m_first s2.2.1 s2.2.2.1 (n := n) (s := s) (by omega) (by omega) a.np me_FU 0 none (Nat.zero_add _) (show _ < 1000 by omega) (fun j hj => by cases hj)
  have efl : ∀ (d i : Nat) (b : Option Nat), gh_fl (me_S.s_co a (me_fu a.co n 114)) n s i d b = gh_fl a n s i d b := by
    intro d
    induction d with
    | zero => intro i b; rfl
    | succ d ih => intro i b; exact ih (i + 1) _
  rw [efl] at c2
  unfold f_Works_receiveWord f_M_takes f_M_firstLying f_Works_receiveWord_b43
  have c2 : f_M_firstLying_h5 (me_up ν 89 0 n 114) me_FU (me_N n) (me_N s) (-1) 0 = some (me_Op (gh_fl a n s 0 a.np none)) := c2
  rw [c1, c2, me_bd_s, me_bd_s]
  cases hf : gh_fl a n s 0 a.np none with
  | none =>
    rw [me_oq_n, if_pos (show me_Op none = -1 from rfl), me_gd_n (by omega) hn16, me_N_ix (by omega), show vp_nar .char 119 = (119 : Int32) from rfl, me_lt_s, me_lt_s, me_up_up]
    obtain ⟨k1, k2⟩ := bb_set hX (s := 119) hn16 hc45 (Or.inr (Or.inl rfl)) (fun _ => hln) (fun e => absurd e (by decide))
    exact ⟨_, _, _, rfl, rfl, k1, k2⟩
  | some j =>
    obtain ⟨hj, hl⟩ := gh_fl_ok a.np 0 none (Nat.zero_add _) (fun j hj => by cases hj) j hf
    have zw : me_up ν 89 0 n 114 41 0 j = a.wd j := by rw [me_up_kn (by decide)]; exact hM.wd j hj
    have zd : me_up ν 89 0 n 114 87 0 n = me_N (a.dp n) := by rw [me_up_kn (by decide)]; exact hM.dp n hn16
    rw [me_oq_s, if_neg (show ¬ me_Op (some j) = -1 from me_N_nm1 (by omega)), me_gd_n (by omega) hn16, me_N_ix (by omega), zd]
    show bb_Q a W v μ ν _ (if (6 : Int32) ≤ me_N (a.dp n) then f_M_takes_b37 (me_up ν 89 0 n 114) (me_N n) (me_N j) 0 else f_M_takes_b37 (me_up ν 89 0 n 114) (me_N n) (me_N j) 1)
    unfold f_Core_isFull f_M_takes_b37
    rw [hC.dp n hn16, me_gd_n (by omega) (by omega), me_N_ix (a := j) (by omega), zw]
    by_cases e : a.dp n < 6
    · rw [if_pos (by rw [show (6 : Int32) = me_N 6 from rfl, me_N_lt (by omega) (by omega)]; exact e), me_bd_s, if_pos (by rfl), if_neg (by rw [show (6 : Int32) = me_N 6 from rfl, me_N_le (by omega) (by omega)]; omega), me_lt_s, me_lt_s]
      -- the message is taken
      obtain ⟨t1, t2⟩ := bb_w2 hX (hC.w_st j 114) (hM.w_st j 114 (fun _ => hM.dn j hj (Or.inl hl.2.1))) (gh_iv_rc hI hj hl) rfl rfl rfl rfl ⟨by decide, by decide, by decide⟩ ⟨by decide, by decide⟩
      obtain ⟨u1, u2⟩ := bb_set t2 (s := 114) hn16 hc45 (Or.inl rfl) (fun e => absurd e (by decide)) (fun e => absurd e (by decide))
      rw [me_up_cm (k := 38) (k' := 89) (by decide)] at u1 u2
      obtain ⟨μ3, ν3, a3, g1, g2, g3, g4⟩ := bb_push u2 (n := n) (x := a.wd j) hn16 me_fu_at hca
      have o1 := m_push_o u2.2.1 (n := n) (x := a.wd j) hn16 e (by show ¬ me_fu a.co n 114 n = 45; rw [me_fu_at]; decide)
      have o2 := m_push_o s2.2.1 (n := n) (x := a.wd j) hn16 e (by show ¬ me_fu a.co n 114 n = 45; rw [me_fu_at]; decide)
      have o1 : f_M_push (me_up (me_up ν 89 0 n 114) 38 0 j 114) (me_N n) (a.wd j) = some (me_up (me_up (me_up (me_up (me_up ν 89 0 n 114) 38 0 j 114) 78 n (a.dp n) (a.wd j)) 87 0 n (me_N (a.dp n + 1))) 91 0 n (me_N (a.ca n + 1)), ()) := o1
      have o2 : f_M_push (me_up ν 89 0 n 114) (me_N n) (a.wd j) = some (me_up (me_up (me_up (me_up ν 89 0 n 114) 78 n (a.dp n) (a.wd j)) 87 0 n (me_N (a.dp n + 1))) 91 0 n (me_N (a.ca n + 1)), ()) := o2
      rw [o1] at g2
      have zw2 : me_up (me_up μ 8 j 2 114) 22 n 7 114 8 j 5 = a.wd j := u2.1.wd j
      refine ⟨μ3, ν3, a3, ?_, ?_, (t1.tr_ u1).tr_ g3, g4⟩
      · rw [zw2, me_b2_u]
        exact g1
      · rw [o2, me_b2_s, if_neg (by decide), me_gd_n (by omega) (by omega), me_gd_n (by omega) (by omega), show vp_nar .char 114 = (114 : Int32) from rfl, me_lt_s, me_up_cm (k := 91) (k' := 38) (by decide), me_up_cm (k := 87) (k' := 38) (by decide), me_up_cm (k := 78) (k' := 38) (by decide)]
        exact g2
    · rw [if_neg (by rw [show (6 : Int32) = me_N 6 from rfl, me_N_lt (by omega) (by omega)]; exact e), me_bd_s, if_neg (by decide), if_pos (by rw [show (6 : Int32) = me_N 6 from rfl, me_N_le (by omega) (by omega)]; omega), me_b2_u]
      obtain ⟨μ', ν', d1, d2, d3, d4, -, -⟩ := bb_fail hX (f := 111) hn16 (by simp) (by decide +kernel) hc45
      have p1 : f_Core_pushAndGoOn μ n (μ 8 j 5) = some (μ', ()) := by
        unfold f_Core_pushAndGoOn f_Core_isFull
        rw [hC.dp n hn16, if_neg (by rw [show (6 : Int32) = me_N 6 from rfl, me_N_lt (by omega) (by omega)]; exact e), me_bd_s, if_neg (by decide), d1, me_b2_s]
      have ff : f_M_fails (me_up ν 89 0 n 114) (me_N n) 111 = some (ν', ()) := by
        rw [← d2]
        unfold f_M_fails
        simp only [me_gd_n (show n < 2147483648 by omega) hn16, me_N_ix (show n < 2147483648 by omega), me_lt_s, show vp_nar .char 120 = (120 : Int32) from rfl, me_up_up]
      have p2 : f_M_push (me_up ν 89 0 n 114) (me_N n) (a.wd j) = some (ν', ()) := by
        unfold f_M_push
        rw [me_gd_n (by omega) hn16, me_N_ix (a := n) (by omega), zd, if_pos (by rw [show (6 : Int32) = me_N 6 from rfl, me_N_inj (by omega) (by omega)]; omega), ff, me_b2_s]
      have zst : ν' 38 0 j = 100 := by
        have : ν' 38 0 j = a.st j := d4.2.1.st j hj
        rw [this]
        exact hl.2.1
      refine ⟨μ', ν', _, p1, ?_, d3, d4⟩
      rw [p2, me_b2_s, if_pos (by rfl), me_gd_n (by omega) (by omega), me_gd_n (by omega) (by omega), zst, show vp_nar .char 100 = (100 : Int32) from rfl, me_lt_s, me_up_id zst]
theorem bb_does {a : me_S} {W : Nat → Bool} {v : Int32} {μ ν : me_M} (hX : bb_X a a W v v μ ν) {n : Nat} (hn : n < a.w * a.h) (hc : a.co n = 114 ∨ a.co n = 119) : bb_Q a W v μ ν (f_Works_runOne μ (me_N n) n (me_N a.bt)) (f_M_does ν (me_N n)) := by
  obtain ⟨hC, hM, hI, h4, h5, h6, h7, h8, h9⟩ := id hX
  have hwh := hI.wh
  have hIC := hI.2.2.1
  have hca := hIC.ica n
  have hln := hIC.iln n
  have hn16 : n < 16 := by omega
  have hc45 : ¬ a.co n = 45 := by
    rcases hc with q | q <;> · rw [q]; decide
  have zca : ν 91 0 n = me_N (a.ca n) := (hM.ca n hn16).trans (if_neg hc45)
  unfold f_Works_runOne f_Core_hasInstruction f_M_does
  rw [hC.ca n hn16, hC.ln n hn16, if_neg (me_N_nneg (by omega)), me_gd_n (by omega) hn16, me_N_ix (a := n) (by omega), zca, me_lt_s (x := me_N (a.ca n)), me_gd_n (by omega) hn16, hM.ln n hn16]
  by_cases e : a.ca n < a.ln n
  · have hca12 : a.ca n < 12 := by omega
    have zn : μ 25 n (a.ca n) = a.nm n (a.ca n) := hC.nm n _ hn16 e
    have zu : μ 26 n (a.ca n) = a.nu n (a.ca n) := hC.nu n _ hn16 e
    have zn' : ν 80 n (a.ca n) = a.nm n (a.ca n) := hM.nm n _ hn16 e
    have zu' : ν 82 n (a.ca n) = a.nu n (a.ca n) := hM.nu n _ hn16 e
    rw [if_neg (by rw [me_N_le (by omega) (by omega)]; omega), if_neg (by rw [me_N_12, me_N_le (by omega) (by omega)]; omega), me_bd_s, if_neg (by decide), if_pos (by rw [me_N_lt (by omega) (by omega)]; exact e)]
    simp only [me_gd_n (show n < 2147483648 by omega) hn16, me_gd_n (show a.ca n < 2147483648 by omega) hca12, me_N_ix (show a.ca n < 2147483648 by omega), me_lt_s, zn, zu, zn', zu', show vp_nar .char 114 = (114 : Int32) from rfl, show vp_nar .char 98 = (98 : Int32) from rfl, show vp_nar .char 104 = (104 : Int32) from rfl, me_b2_u]
    have hk := hIC.iok n (a.ca n) e
    by_cases h114 : a.nm n (a.ca n) = 114
    · obtain ⟨x, hx, hxu⟩ : ∃ x, x < a.w * a.h ∧ a.nu n (a.ca n) = me_N x := by
        rcases hk with q | ⟨q, -⟩ | ⟨-, q⟩ | ⟨q, -⟩
        · rw [h114] at q
          exact absurd q (by decide)
        · rw [h114] at q
          exact absurd q (by decide)
        · exact q
        · rw [h114] at q
          exact absurd q (by decide)
      simp only [h114, hxu, if_neg (show ¬ (114 : Int32) = 98 by decide), if_neg (show ¬ (114 : Int32) = 100 by decide), if_neg (show ¬ (114 : Int32) = 104 by decide), if_neg (show ¬ (114 : Int32) = 106 by decide), if_neg (show ¬ (114 : Int32) = 108 by decide), if_neg (show ¬ (114 : Int32) = 112 by decide), if_pos (Eq.refl (114 : Int32)), if_true]
      exact bb_take hX hn hx hc hca12 ⟨e, h114⟩
    · have hc1 : a.co n = 114 := by
        rcases hc with q | q
        · exact q
        · exact absurd (hIC.iwt n q).2 h114
      rw [me_up_id (show ν 89 0 n = 114 by rw [hM.co n hn16]; exact hc1)]
      rcases hk with q | ⟨q, x, hx, hxu⟩ | ⟨q, x, hx, hxu⟩ | ⟨q, x, hx, hxu⟩
      · rcases q with q | q | q | q | q | q
        · simp only [q, if_neg (show ¬ (112 : Int32) = 98 by decide), if_neg (show ¬ (112 : Int32) = 100 by decide), if_neg (show ¬ (112 : Int32) = 104 by decide), if_neg (show ¬ (112 : Int32) = 106 by decide), if_neg (show ¬ (112 : Int32) = 108 by decide), if_pos (Eq.refl (112 : Int32)), if_true]
          exact bb_push hX hn16 hc1 hca12
        · simp only [q, if_neg (show ¬ (43 : Int32) = 98 by decide), if_neg (show ¬ (43 : Int32) = 100 by decide), if_neg (show ¬ (43 : Int32) = 104 by decide), if_neg (show ¬ (43 : Int32) = 106 by decide), if_neg (show ¬ (43 : Int32) = 108 by decide), if_neg (show ¬ (43 : Int32) = 112 by decide), if_neg (show ¬ (43 : Int32) = 114 by decide), if_neg (show ¬ (43 : Int32) = 115 by decide)]
          exact bb_reckon hX hn16 (Or.inl rfl) hc1 hca12
        · simp only [q, if_neg (show ¬ (45 : Int32) = 98 by decide), if_neg (show ¬ (45 : Int32) = 100 by decide), if_neg (show ¬ (45 : Int32) = 104 by decide), if_neg (show ¬ (45 : Int32) = 106 by decide), if_neg (show ¬ (45 : Int32) = 108 by decide), if_neg (show ¬ (45 : Int32) = 112 by decide), if_neg (show ¬ (45 : Int32) = 114 by decide), if_neg (show ¬ (45 : Int32) = 115 by decide)]
          exact bb_reckon hX hn16 (Or.inr (Or.inl rfl)) hc1 hca12
        · simp only [q, if_neg (show ¬ (42 : Int32) = 98 by decide), if_neg (show ¬ (42 : Int32) = 100 by decide), if_neg (show ¬ (42 : Int32) = 104 by decide), if_neg (show ¬ (42 : Int32) = 106 by decide), if_neg (show ¬ (42 : Int32) = 108 by decide), if_neg (show ¬ (42 : Int32) = 112 by decide), if_neg (show ¬ (42 : Int32) = 114 by decide), if_neg (show ¬ (42 : Int32) = 115 by decide)]
          exact bb_reckon hX hn16 (Or.inr (Or.inr rfl)) hc1 hca12
        · simp only [q, if_pos (Eq.refl (98 : Int32)), if_true]
          obtain ⟨k1, k2⟩ := bb_set hX (s := 98) hn16 hc45 (by simp) (fun e => absurd e (by decide)) (fun _ => e)
          exact ⟨_, _, _, rfl, rfl, k1, k2⟩
        · simp only [q, if_neg (show ¬ (104 : Int32) = 98 by decide), if_neg (show ¬ (104 : Int32) = 100 by decide), if_pos (Eq.refl (104 : Int32)), if_true]
          obtain ⟨k1, k2⟩ := bb_set hX (s := 104) hn16 hc45 (by simp) (fun e => absurd e (by decide)) (fun e => absurd e (by decide))
          exact ⟨_, _, _, rfl, rfl, k1, k2⟩
      · rcases q with q | q
        · simp only [q, hxu, if_neg (show ¬ (108 : Int32) = 98 by decide), if_neg (show ¬ (108 : Int32) = 100 by decide), if_neg (show ¬ (108 : Int32) = 104 by decide), if_neg (show ¬ (108 : Int32) = 106 by decide), if_pos (Eq.refl (108 : Int32)), if_true]
          unfold f_Core_load
          rw [if_neg (me_N_nneg (by omega)), if_neg (by rw [me_N_8, me_N_le (by omega) (by omega)]; omega), me_gd_n (by omega) hx, me_gd_n (by omega) hx, me_N_ix (by omega), hC.mm n x hn16 hx, hM.mm n x hn16 hx, me_b2_u]
          exact bb_push hX hn16 hc1 hca12
        · simp only [q, hxu, if_neg (show ¬ (115 : Int32) = 98 by decide), if_neg (show ¬ (115 : Int32) = 100 by decide), if_neg (show ¬ (115 : Int32) = 104 by decide), if_neg (show ¬ (115 : Int32) = 106 by decide), if_neg (show ¬ (115 : Int32) = 108 by decide), if_neg (show ¬ (115 : Int32) = 112 by decide), if_neg (show ¬ (115 : Int32) = 114 by decide), if_pos (Eq.refl (115 : Int32)), if_true]
          have := bb_store hX hn16 hx hc1 hca12
          simp only [me_gd_n (show n < 2147483648 by omega) hn16, me_N_ix (show n < 2147483648 by omega)] at this
          exact this
      · rcases q with q | q
        · simp only [q, hxu, if_neg (show ¬ (100 : Int32) = 98 by decide), if_pos (Eq.refl (100 : Int32)), if_true]
          exact bb_send hX hn hx hc1 hca12
        · exact absurd q h114
      · simp only [q, hxu, if_neg (show ¬ (106 : Int32) = 98 by decide), if_neg (show ¬ (106 : Int32) = 100 by decide), if_neg (show ¬ (106 : Int32) = 104 by decide), if_pos (Eq.refl (106 : Int32)), if_true]
        exact bb_jump hX hn16 hx hc1 hca12
  · obtain ⟨μ', ν', d1, d2, d3, d4, -⟩ := bb_fail hX (f := 106) hn16 (by simp) (by decide +kernel) hc45
    rw [if_pos (by rw [me_N_le (by omega) (by omega)]; omega), me_bd_s, if_pos (by rfl), if_neg (by rw [me_N_lt (by omega) (by omega)]; exact e), me_b2_u, me_b2_u]
    exact ⟨μ', ν', _, d1, d2, d3, d4⟩
theorem bb_cores {v : Int32} {W : Nat → Bool} : ∀ (d f f' n : Nat) (a : me_S) (μ ν : me_M), n + d = a.w * a.h → d < f → d < f' → bb_X a a W v v μ ν → ∃ μ' ν' a', f_Works_runCores_h2 f μ (me_N a.bt) (me_N n) = some (μ', ()) ∧ f_M_beatNow_h30 f' ν (me_N n) = f_M_beatNow_h73 me_FU ν' 0 ∧ bb_F a a' μ μ' ν ν' ∧ bb_X a' a' W v v μ' ν' := by
  intro d
  induction d with
  | zero =>
    intro f f' n a μ ν h1 h2 h3 hX
    obtain ⟨f, rfl⟩ : ∃ g, f = g + 1 := ⟨f - 1, by omega⟩
    obtain ⟨f', rfl⟩ : ∃ g, f' = g + 1 := ⟨f' - 1, by omega⟩
    have hwh := hX.2.2.1.wh
    have hC := hX.1
    have hM := hX.2.1
    refine ⟨μ, ν, a, ?_, ?_, bb_F.re, hX⟩
    · show f_Works_runCores_b2 _ _ _ _ = _
      unfold f_Works_runCores_b2
      rw [hC.nn, if_pos (by rw [me_N_le (by omega) (by omega)]; omega)]
    · show f_M_beatNow_b30 _ _ _ = _
      unfold f_M_beatNow_b30 f_M_nodes
      rw [hM.w, hM.h, me_N_mul, me_bd_s, if_pos (by rw [me_N_le (by omega) (by omega)]; omega)]
  | succ d ih =>
    intro f f' n a μ ν h1 h2 h3 hX
    obtain ⟨f, rfl⟩ : ∃ g, f = g + 1 := ⟨f - 1, by omega⟩
    obtain ⟨f', rfl⟩ : ∃ g, f' = g + 1 := ⟨f' - 1, by omega⟩
    have hwh := hX.2.2.1.wh
    have hC := hX.1
    have hM := hX.2.1
    have eA : f_Works_runCores_h2 (f + 1) μ (me_N a.bt) (me_N n) = if a.co n = 114 ∨ a.co n = 119 then me_b2 (f_Works_runOne μ (me_N n) n (me_N a.bt)) (fun μ8 _ => f_Works_runCores_h2 f μ8 (me_N a.bt) (me_N (n + 1))) else f_Works_runCores_h2 f μ (me_N a.bt) (me_N (n + 1)) := by
      show f_Works_runCores_b2 _ _ _ _ = _
      unfold f_Works_runCores_b2 f_Core_isActive f_Core_isActive_b18
      rw [hC.nn, if_neg (by rw [me_N_le (by omega) (by omega)]; omega), me_gd_n (by omega) (by omega), me_gd_n (by omega) (by omega), me_N_ix (by omega), hC.co n (by omega), me_N_inc, me_lt_s]
      by_cases e1 : a.co n = 114
      · rw [if_pos e1, me_bd_s, if_neg (by decide), if_pos (Or.inl e1)]
        rfl
      · rw [if_neg e1]
        by_cases e2 : a.co n = 119
        · rw [if_pos e2, me_bd_s, if_neg (by decide), if_pos (Or.inr e2)]
          rfl
        · rw [if_neg e2, me_bd_s, if_pos (by rfl), if_neg (fun q => q.elim e1 e2)]
    have eB : f_M_beatNow_h30 (f' + 1) ν (me_N n) = if a.co n = 114 ∨ a.co n = 119 then me_b2 (f_M_does ν (me_N n)) (fun μ2 _ => f_M_beatNow_h30 f' μ2 (me_N (n + 1))) else f_M_beatNow_h30 f' ν (me_N (n + 1)) := by
      show f_M_beatNow_b30 _ _ _ = _
      unfold f_M_beatNow_b30 f_M_beatNow_b60 f_M_nodes
      rw [hM.w, hM.h, me_N_mul, me_bd_s, if_neg (by rw [me_N_le (by omega) (by omega)]; omega), me_gd_n (by omega) (by omega), me_gd_n (by omega) (by omega), me_N_ix (by omega), hM.co n (by omega), me_N_inc, me_lt_s]
      by_cases e1 : a.co n = 114
      · rw [if_pos e1, if_pos (Or.inl e1)]
        rfl
      · rw [if_neg e1]
        by_cases e2 : a.co n = 119
        · rw [if_pos e2, if_pos (Or.inr e2)]
          rfl
        · rw [if_neg e2, if_neg (fun q => q.elim e1 e2)]
    rw [eA, eB]
    by_cases e : a.co n = 114 ∨ a.co n = 119
    · obtain ⟨μ1, ν1, a1, g1, g2, g3, g4⟩ := bb_does hX (n := n) (by omega) e
      obtain ⟨μ', ν', a', k1, k2, k3, k4⟩ := ih f f' (n + 1) a1 μ1 ν1 (by rw [g3.1, g3.2.1]; omega) (by omega) (by omega) g4
      rw [g3.2.2.1] at k1
      rw [if_pos e, if_pos e, g1, g2, me_b2_s, me_b2_s]
      exact ⟨μ', ν', a', k1, k2, g3.tr_ k3, k4⟩
    · rw [if_neg e, if_neg e]
      exact ih f f' (n + 1) a μ ν (by omega) (by omega) (by omega) hX
