/-! LINKS; fail, sleep -/
def me_nbok (w h n d : Nat) : Bool := match me_nb w h n d with
  | none => true
  | some n' => decide (n' < w * h) && decide (me_nb w h n' (me_op d) = some n)
theorem me_nb_all : ∀ w, w < 5 → ∀ h, h < 5 → ∀ n, n < w * h → ∀ d, d < 4 → me_nbok w h n d = true := by decide +kernel
theorem me_nb_ok {w h n d n' : Nat} (hw : w < 5) (hh : h < 5) (hn : n < w * h) (hd : d < 4) (e : me_nb w h n d = some n') : n' < w * h ∧ me_nb w h n' (me_op d) = some n := by
  have := me_nb_all w hw h hh n hn d hd
  unfold me_nbok at this
  rw [e] at this
  simpa using this
theorem me_op_lt (d : Nat) : me_op d < 4 := by
  unfold me_op
  split <;> omega
theorem me_op_op {d : Nat} (h : d < 4) : me_op (me_op d) = d := by
  match d, h with
  | 0, _ => rfl
  | 1, _ => rfl
  | 2, _ => rfl
  | 3, _ => rfl
theorem me_op_opn {d : Nat} (h : d < 4) : me_opn d = me_N (me_op d) := by
  match d, h with
  | 0, _ => rfl
  | 1, _ => rfl
  | 2, _ => rfl
  | 3, _ => rfl
theorem me_op_xor {d : Nat} (h : d < 4) : me_N d ^^^ 1 = me_N (me_op d) := by
  match d, h with
  | 0, _ => rfl
  | 1, _ => rfl
  | 2, _ => rfl
  | 3, _ => rfl
theorem m_beside2 {a b : me_S} {μ : me_M} (hM : me_RM b μ) (ew : b.w = a.w) (eh : b.h = a.h) (hI : me_Iv a) {n d : Nat} (hn : n < a.w * a.h) (hd : d < 4) : f_M_beside μ (me_N n) (me_N d) = some (me_Op (me_nb a.w a.h n d)) := by
  have hwh := hI.wh
  have hw := hI.1.iw
  have hh := hI.1.ih
  have h1 : me_nz (me_N a.w) = true := by
    unfold me_nz
    rw [decide_eq_true_eq, me_N_0, me_N_inj (by omega) (by omega)]
    omega
  have h2 : n % a.w < a.w := Nat.mod_lt _ (by omega)
  have h3 : n / a.w ≤ n := Nat.div_le_self _ _
  unfold f_M_beside
  rw [hM.w, hM.h, ew, eh, me_gd_t h1, me_N_rem (by omega) (by omega) (by omega), me_lt_s, me_gd_t h1, me_N_div (by omega) (by omega) (by omega), me_lt_s]
  have c0 : (me_N a.w ≤ me_N (n % a.w) + 1) ↔ a.w ≤ n % a.w + 1 := by rw [me_N_1, me_N_add, me_N_le (by omega) (by omega)]
  have c1 : (me_N (n % a.w) ≤ 0) ↔ n % a.w ≤ 0 := by rw [me_N_0, me_N_le (by omega) (by omega)]
  have c2 : (me_N a.h ≤ me_N (n / a.w) + 1) ↔ a.h ≤ n / a.w + 1 := by rw [me_N_1, me_N_add, me_N_le (by omega) (by omega)]
  have c3 : (me_N (n / a.w) ≤ 0) ↔ n / a.w ≤ 0 := by rw [me_N_0, me_N_le (by omega) (by omega)]
  match d, hd with
  | 0, _ =>
    rw [if_pos (by decide)]
    show _ = some (me_Op (if n % a.w + 1 < a.w then some (n + 1) else none))
    by_cases e : n % a.w + 1 < a.w
    · rw [if_pos e, if_neg (by rw [c0]; omega), me_N_1, me_N_add]
      rfl
    · rw [if_neg e, if_pos (by rw [c0]; omega)]
      rfl
  | 1, _ =>
    rw [if_neg (by decide), if_pos (by decide)]
    show _ = some (me_Op (if 0 < n % a.w then some (n - 1) else none))
    by_cases e : 0 < n % a.w
    · have := Nat.mod_le n a.w
      rw [if_pos e, if_neg (by rw [c1]; omega), me_N_1, me_N_sub (by omega)]
      rfl
    · rw [if_neg e, if_pos (by rw [c1]; omega)]
      rfl
  | 2, _ =>
    rw [if_neg (by decide), if_neg (by decide), if_pos (by decide)]
    show _ = some (me_Op (if n / a.w + 1 < a.h then some (n + a.w) else none))
    by_cases e : n / a.w + 1 < a.h
    · rw [if_pos e, if_neg (by rw [c2]; omega), me_N_add]
      rfl
    · rw [if_neg e, if_pos (by rw [c2]; omega)]
      rfl
  | 3, _ =>
    rw [if_neg (by decide), if_neg (by decide), if_neg (by decide), if_pos (by decide)]
    show _ = some (me_Op (if 0 < n / a.w then some (n - a.w) else none))
    by_cases e : 0 < n / a.w
    · have h4 : a.w ≤ n := by
        rcases Nat.lt_or_ge n a.w with q | q
        · rw [Nat.div_eq_of_lt q] at e; omega
        · exact q
      rw [if_pos e, if_neg (by rw [c3]; omega), me_N_sub h4]
      rfl
    · rw [if_neg e, if_pos (by rw [c3]; omega)]
      rfl
theorem m_beside {a : me_S} {μ : me_M} (hM : me_RM a μ) (hI : me_Iv a) {n d : Nat} (hn : n < a.w * a.h) (hd : d < 4) : f_M_beside μ (me_N n) (me_N d) = some (me_Op (me_nb a.w a.h n d)) := m_beside2 hM rfl rfl hI hn hd
theorem me_fl_sym {w h : Nat} {fl : Nat → Nat → Int32} {n d n' : Nat} {b : Int32} (hw : w < 5) (hh : h < 5) (sym : ∀ x y x', y < 4 → x < w * h → me_nb w h x y = some x' → fl x' (me_op y) = fl x y) (hn : n < w * h) (hd : d < 4) (hnx : me_nb w h n d = some n') {x y x' : Nat} (hy : y < 4) (hx : x < w * h) (hxx : me_nb w h x y = some x') : me_fu2 (me_fu2 fl n d b) n' (me_op d) b x' (me_op y) = me_fu2 (me_fu2 fl n d b) n' (me_op d) b x y := by
  obtain ⟨hn', hnn⟩ := me_nb_ok hw hh hn hd hnx
  have fw : ∀ x y x', y < 4 → x < w * h → me_nb w h x y = some x' → ((x = n ∧ y = d) ∨ (x = n' ∧ y = me_op d)) → ((x' = n ∧ me_op y = d) ∨ (x' = n' ∧ me_op y = me_op d)) := by
    intro x y x' hy hx hxx hp
    rcases hp with ⟨rfl, rfl⟩ | ⟨rfl, rfl⟩
    · rw [hnx] at hxx
      exact Or.inr ⟨(Option.some.inj hxx).symm, rfl⟩
    · rw [hnn] at hxx
      exact Or.inl ⟨(Option.some.inj hxx).symm, me_op_op hd⟩
  obtain ⟨hx', hxb⟩ := me_nb_ok hw hh hx hy hxx
  have f2 : ∀ x y, me_fu2 (me_fu2 fl n d b) n' (me_op d) b x y = if (x = n ∧ y = d) ∨ (x = n' ∧ y = me_op d) then b else fl x y := by
    intro x y
    unfold me_fu2
    by_cases c2 : x = n' ∧ y = me_op d
    · rw [if_pos c2, if_pos (Or.inr c2)]
    · rw [if_neg c2]
      by_cases c1 : x = n ∧ y = d
      · rw [if_pos c1, if_pos (Or.inl c1)]
      · rw [if_neg c1, if_neg (fun q => q.elim c1 c2)]
  rw [f2, f2]
  by_cases c : (x = n ∧ y = d) ∨ (x = n' ∧ y = me_op d)
  · rw [if_pos c, if_pos (fw x y x' hy hx hxx c)]
  · rw [if_neg c, if_neg, sym x y x' hy hx hxx]
    intro q
    have := fw x' (me_op y) x (me_op_lt y) hx' hxb q
    rw [me_op_op hy] at this
    exact c this
theorem me_Op_lt {a : me_S} (hI : me_Iv a) {n d n' : Nat} (hn : n < a.w * a.h) (hd : d < 4) (e : me_nb a.w a.h n d = some n') : n' < a.w * a.h ∧ me_nb a.w a.h n' (me_op d) = some n :=
  me_nb_ok (by have := hI.1.iw; omega) (by have := hI.1.ih; omega) hn hd e
theorem t_20 {T : Nat} {a : me_S} {μ : me_M} {o : Int64 × UInt64} {s1 s2 s3 s4 s5 : Int32} (hR : me_R T a μ) : ∃ μ' o' a', f_case_20 μ o s1 s2 s3 s4 s5 = some (μ', o') ∧ me_R T a' μ' := by
  obtain ⟨hC, hM, hI, hbt, hT, hwk⟩ := id hR
  have hwh := hI.wh
  have hD : me_Dd a a μ := ⟨hC, hM, hwk⟩
  have key : ∀ b : Int32, b = 0 ∨ b = 1 → ∃ μ' o' a', me_b2 (f_L_fail μ o s1 (me_i2c' s2) b) (fun μ3 r2 => me_b2 (f_M_fail μ3 s1 (me_i2c' s2) b) (fun μ6 r5 => me_bd (f_M_thrown μ6) (fun r7 => if r7 = (r2.2) then (if (r2.2) = 0 then (if r5 = 0 then (if (lg_cmp (r2.1.1) (0 : Int64)) = 0 then (some (μ6, r2.1)) else (none)) else (if (lg_cmp (r2.1.1) (1 : Int64)) = 0 then (some (μ6, r2.1)) else (none))) else (some (μ6, r2.1))) else (none)))) = some (μ', o') ∧ me_R T a' μ' := by
    intro b hb01
    have hnb : vp_nar .boolean b = b := by rcases hb01 with rfl | rfl <;> rfl
    unfold f_L_fail f_Y_fail f_M_fail
    generalize me_i2c' s2 = v
    have i1 : ∀ μ, f_Str_indexOf1 μ 1 v = some (me_fi (me_sb 1) v 0) := fun μ => s_indexOf (by decide)
    by_cases hb : me_isB s1 (a.w * a.h)
    · obtain ⟨n, hn, rfl⟩ := hb
      have h16 : n < 16 := by omega
      have g1 : ∀ α (k : Option α), me_gd (me_inb (me_N n) 16) k = k := fun α k => me_gd_n (by omega) (by omega)
      have g2 : me_ix (me_N n) = n := me_N_ix (by omega)
      have e1 := y_node_o hC hI hn
      have e2 : ∀ μ', me_RM a μ' → f_M_isNoNode μ' (me_N n) = some 0 := fun μ' h => m_node_o h hI hn
      have e2' : ∀ μ' b', me_RM b' μ' → b'.w = a.w → b'.h = a.h → f_M_isNoNode μ' (me_N n) = some 0 := fun μ' b' h hw hh => by
        unfold f_M_isNoNode f_M_nodes
        rw [me_bd_s, h.w, h.h, me_N_mul, hw, hh, m_isIn0_o (by omega) hn, me_bd_s, if_neg (by decide)]
      by_cases hx : ∃ d, d < 4 ∧ me_fi (me_sb 1) v 0 = me_N d
      · obtain ⟨d, hd, hv⟩ := hx
        rw [hv] at i1
        have g3 : me_N n * 4 + me_N d = me_N (n * 4 + d) := by rw [me_N_4, me_N_mul, me_N_add]
        have g4 : ∀ α (k : Option α), me_gd (me_inb (me_N (n * 4 + d)) 64) k = k := fun α k => me_gd_n (by omega) (by omega)
        have g5 : me_ix (me_N (n * 4 + d)) = n * 4 + d := me_N_ix (by omega)
        have g6 : ¬ me_N d < 0 := me_N_nneg (by omega)
        have g7 : me_N d < 4 := by rw [me_N_4, me_N_lt (by omega) (by omega)]; exact hd
        have e5 : ∀ μ, f_M_isIn μ (me_N d) 0 3 = some 1 := fun μ => m_isIn_o (a := 0) (b := 3) (by omega) (by omega) ⟨d, by omega, by omega, rfl⟩
        have q1 := hC.ah n d hn hd
        have e6 := m_beside ((hR.th 0).th 0).2.1 hI hn hd
        cases hnx : me_nb a.w a.h n d with
        | none =>
          rw [hnx] at q1 e6
          refine ⟨_, o, a, ?_, (((hR.th 0).th 0).th 3)⟩
          simp [f_M_fail_b38, f_M_fail_b62, me_bd_s, me_b2_s, me_lt_s, me_oq_n, me_oq_s, me_xb_o, me_xb_e, me_xb2_o, me_xb2_e, me_xm_o, me_xm_e, f_M_thrown, m_th0, m_th1, me_cmp_self, me_up_at, if_true, if_false, me_nr_z, me_nr_o, me_gd_t, me_up_kn, me_up_jn, e1, e2 _ hM, i1, g3, g4, g5, g6, g7, e5, q1, e6, me_Op]
        | some n' =>
          obtain ⟨hn', hnn⟩ := me_Op_lt hI hn hd hnx
          rw [hnx] at q1
          have hq1 : μ 2 0 (n * 4 + d) = me_N n' := q1
          have ho := me_op_lt d
          have g8 : ¬ me_N n' = -1 := me_N_nm1 (by omega)
          have g9 : me_N n' * 4 + me_N (me_op d) = me_N (n' * 4 + me_op d) := by rw [me_N_4, me_N_mul, me_N_add]
          have g10 : ∀ α (k : Option α), me_gd (me_inb (me_N (n' * 4 + me_op d)) 64) k = k := fun α k => me_gd_n (by omega) (by omega)
          have g11 : me_ix (me_N (n' * 4 + me_op d)) = n' * 4 + me_op d := me_N_ix (by omega)
          have g12 : me_nr .boolean (a.fl n d) = true := by rcases hI.1.ifl n d with e | e <;> rw [e] <;> decide +kernel
          have g13 := me_op_xor hd
          have g14 : ∀ α (k : Option α), me_gd (me_inb (me_N n') 16) k = k := fun α k => me_gd_n (by omega) (by omega)
          have g15 : me_ix (me_N n') = n' := me_N_ix (by omega)
          have g16 : ∀ α (k : Option α), me_gd (me_inb (me_N d) 5) k = k := fun α k => me_gd_n (by omega) (by omega)
          have g17 : me_ix (me_N d) = d := me_N_ix (by omega)
          have g18 : ∀ α (k : Option α), me_gd (me_inb (me_N d) 4) k = k := fun α k => me_gd_n (by omega) (by omega)
          have g19 : ∀ α (k : Option α), me_gd (me_inb (me_N (me_op d)) 5) k = k := fun α k => me_gd_n (by omega) (by omega)
          have g20 : me_ix (me_N (me_op d)) = me_op d := me_N_ix (by omega)
          have g21 := me_op_opn hd
          have D1 := hD.c (hC.w_fl n d b (by omega) hd) (by decide) (Or.inl (by decide))
          have D2 := D1.c (D1.1.w_fl n' (me_op d) b (by omega) ho) (by decide) (Or.inl (by decide))
          have h9 : f_Net_hasNode (me_up μ 3 0 (n * 4 + d) b) (me_N n') = some 1 := by
            unfold f_Net_hasNode
            rw [if_neg (me_N_nneg (by omega)), D1.1.nn, if_neg (by show ¬ me_N (a.w * a.h) ≤ _; rw [me_N_le (by omega) (by omega)]; omega)]
          have D5 := ((D2.th 0).th 0).th 0
          have D6 := D5.m (D5.2.1.w_fl n d b) (by decide)
          have D7 := D6.m (D6.2.1.w_fl n' (me_op d) b) (by decide)
          have hi0 := hI.1
          have hI2 : me_Iv ((a.s_fl (me_fu2 a.fl n d b)).s_fl (me_fu2 (me_fu2 a.fl n d b) n' (me_op d) b)) := ⟨me_I0.mk hi0.iw hi0.ih hi0.irp hi0.iwy (fun x y => by
            show me_fu2 (me_fu2 a.fl n d b) n' (me_op d) b x y = 0 ∨ me_fu2 (me_fu2 a.fl n d b) n' (me_op d) b x y = 1
            unfold me_fu2
            split
            · exact hb01
            · split
              · exact hb01
              · exact hi0.ifl x y) (fun x y x' hy hxn hxx => me_fl_sym (by have := hi0.iw; omega) (by have := hi0.ih; omega) hi0.ifs hn hd hnx hy hxn hxx), hI.2⟩
          have e7 : f_M_beside (me_up (me_up (me_up (me_up (me_up (me_up μ 3 0 (n * 4 + d) b) 3 0 (n' * 4 + me_op d) b) 36 0 42 0) 36 0 42 0) 36 0 42 0) 74 n d b) (me_N n) (me_N d) = some (me_Op (me_nb a.w a.h n d)) := m_beside2 (a := a) D6.2.1 rfl rfl hI hn hd
          rw [hnx] at e6 e7
          have hq7 : (me_Op (some n') : Int32) = me_N n' := rfl
          rw [hq7] at e6 e7
          refine ⟨_, (if a.fl n d = 0 then 0 else 1, o.2), _, ?_, D7.R rfl hI2 hbt hT⟩
          have hfl := hI.1.ifl n d
          have m1 : me_RM a (me_up (me_up (me_up (me_up μ 3 0 (n * 4 + d) b) 3 0 (n' * 4 + me_op d) b) 36 0 42 0) 36 0 42 0) := ((D2.th 0).th 0).2.1
          have e9 := m_beside m1 hI hn hd
          rw [hnx, hq7] at e9
          rcases hfl with hf | hf <;> simp [f_Net_setFailed, f_Net_opposite, f_M_fail_b38, f_M_fail_b62, me_bd_s, me_b2_s, me_lt_s, me_oq_n, me_oq_s, me_xb_o, me_xb_e, me_xb2_o, me_xb2_e, me_xm_o, me_xm_e, f_M_thrown, m_th0, m_th1, me_cmp_self, me_up_at, if_true, if_false, me_nr_z, me_nr_o, me_gd_t, me_up_kn, me_up_jn, e1, e2 _ D2.2.1, i1, g3, g4, g5, g6, g7, e5, hq1, e6, e7, e9, g8, g9, g10, g11, g12, g13, g14, g15, g16, g17, g18, g19, g20, g21, h9, hnb, hC.fl n d h16 hd, hM.fl n d h16 hd, hf, g1, g2]
      · have hx2 : ∀ μ, f_M_isIn μ (me_fi (me_sb 1) v 0) 0 3 = some 0 := fun μ => m_isIn_n (a := 0) (b := 3) (by omega) (by omega) (fun ⟨d, q1, q2, q3⟩ => hx ⟨d, by omega, q3⟩)
        refine ⟨_, o, a, ?_, ((hR.th 0).th 2)⟩
        rcases s_side v with ⟨d, hd, e⟩ | e
        · have hd4 : d = 4 := by
            rcases Nat.lt_or_ge d 4 with q | q
            · exact absurd ⟨d, q, e⟩ hx
            · omega
          subst hd4
          rw [e] at i1 hx2
          have k1 : ¬ me_N 4 < 0 := by decide
          have k2 : ¬ me_N 4 < 4 := by decide
          simp [f_Y_fail_b24, f_M_fail_b38, me_bd_s, me_b2_s, me_lt_s, me_oq_n, me_oq_s, me_xb_o, me_xb_e, me_xb2_o, me_xb2_e, me_xm_o, me_xm_e, f_M_thrown, m_th0, m_th1, me_cmp_self, me_up_at, if_true, if_false, me_nr_z, me_nr_o, me_gd_t, me_up_kn, me_up_jn, e1, e2 _ hM, i1, hx2, k1, k2]
        · rw [e] at i1 hx2
          have k1 : (-1 : Int32) < 0 := by decide
          simp [f_Y_fail_b24, f_M_fail_b38, me_bd_s, me_b2_s, me_lt_s, me_oq_n, me_oq_s, me_xb_o, me_xb_e, me_xb2_o, me_xb2_e, me_xm_o, me_xm_e, f_M_thrown, m_th0, m_th1, me_cmp_self, me_up_at, if_true, if_false, me_nr_z, me_nr_o, me_gd_t, me_up_kn, me_up_jn, e1, e2 _ hM, i1, hx2, k1]
    · have e1 := y_node_n hC hI hb
      have e2 := m_node_n hM hI hb
      refine ⟨_, o, a, ?_, hR.th 1⟩
      simp [me_bd_s, me_b2_s, me_lt_s, me_oq_n, me_oq_s, me_xb_o, me_xb_e, me_xb2_o, me_xb2_e, me_xm_o, me_xm_e, f_M_thrown, m_th0, m_th1, me_cmp_self, me_up_at, if_true, if_false, me_nr_z, me_nr_o, me_gd_t, me_up_kn, me_up_jn, e1, e2, i1]
  unfold f_case_20
  by_cases h3 : s3 = 0
  · rw [if_pos h3]
    simp only [if_pos h3]
    exact key 0 (Or.inl rfl)
  · rw [if_neg h3]
    simp only [if_neg h3]
    exact key 1 (Or.inr rfl)
