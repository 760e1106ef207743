/-! sleep -/
def gh_al (P : Nat → Bool) : Nat → Nat → Bool
  | _, 0 => true
  | i, d + 1 => P i && gh_al P (i + 1) d
theorem gh_al_iff {P : Nat → Bool} : ∀ (d i : Nat), gh_al P i d = true ↔ ∀ k, i ≤ k → k < i + d → P k = true := by
  intro d
  induction d with
  | zero => intro i; exact ⟨fun _ k h1 h2 => by omega, fun _ => rfl⟩
  | succ d ih =>
    intro i
    show (P i && gh_al P (i + 1) d) = true ↔ _
    rw [Bool.and_eq_true, ih]
    constructor
    · rintro ⟨h1, h2⟩ k h3 h4
      by_cases e : k = i
      · rw [e]; exact h1
      · exact h2 k (by omega) (by omega)
    · intro h
      exact ⟨h i (Nat.le_refl _) (by omega), fun k h1 h2 => h k (by omega) (by omega)⟩
def me_ie (a : me_S) (r : Nat) : Bool := decide ((a.q r).length = 0) && decide (a.ro r = none)
theorem me_ro_m1 {a : me_S} (hI : me_Iv a) (r : Nat) : (me_Op (a.ro r) = -1) ↔ a.ro r = none := me_Op_m1 (fun n h => by
  have := (hI.2.2.2.2.1.iow r n h).2.1
  have := hI.n200
  omega)
theorem me_ql (a : me_S) (hI : me_Iv a) (r : Nat) : (a.q r).length ≤ 4 := hI.2.2.2.2.1.in4 r
theorem y_idle {a : me_S} {μ : me_M} (hC : me_RC a μ) (hI : me_Iv a) {n : Nat} (hn : n < 16) : ∀ (d f i : Nat), i + d = 10 → d < f → f_Router_isIdle_h2 μ f n (me_N i) = some (me_bi (gh_al (fun k => me_ie a (10 * n + k)) i d)) := by
  intro d
  induction d with
  | zero =>
    intro f i h1 h2
    obtain ⟨f, rfl⟩ : ∃ g, f = g + 1 := ⟨f - 1, by omega⟩
    show f_Router_isIdle_b2 _ _ _ _ = _
    unfold f_Router_isIdle_b2
    rw [if_pos (by rw [me_N_10, me_N_le (by omega) (by omega)]; omega)]
    rfl
  | succ d ih =>
    intro f i h1 h2
    obtain ⟨f, rfl⟩ : ∃ g, f = g + 1 := ⟨f - 1, by omega⟩
    have hl := me_ql a hI (10 * n + i)
    show f_Router_isIdle_b2 _ _ _ _ = some (me_bi (me_ie a (10 * n + i) && gh_al (fun k => me_ie a (10 * n + k)) (i + 1) d))
    unfold f_Router_isIdle_b2
    rw [if_neg (by rw [me_N_10, me_N_le (by omega) (by omega)]; omega), me_gd_n (by omega) (by omega), me_gd_n (by omega) (by omega), me_N_ix (by omega), hC.qn _ (by omega), hC.ro _ (by omega), me_N_inc, me_lt_s, ih f (i + 1) (by omega) (by omega)]
    unfold me_ie
    by_cases e1 : (a.q (10 * n + i)).length = 0
    · rw [if_neg (by rw [me_N_0, me_N_lt (by omega) (by omega)]; omega)]
      by_cases e2 : a.ro (10 * n + i) = none
      · rw [if_pos ((me_ro_m1 hI _).mpr e2), decide_eq_true e1, decide_eq_true e2]
        rfl
      · rw [if_neg (fun q => e2 ((me_ro_m1 hI _).mp q)), decide_eq_true e1, decide_eq_false e2]
        rfl
    · rw [if_pos (by rw [me_N_0, me_N_lt (by omega) (by omega)]; omega), decide_eq_false e1]
      rfl
theorem m_idle5 {a : me_S} {μ : me_M} (hM : me_RM a μ) (hI : me_Iv a) {n c : Nat} (hn : n < 16) (hc : c < 2) {K31 : me_M → Int32 → Int32 → Int32 → Option (me_M × Int32)} : ∀ (d f i : Nat) (b : Bool), i + d = 5 → d < f → f_M_sleep_h39 K31 f μ (me_N n) (me_bi b) (me_N c) (me_N i) = K31 μ (me_N n) (me_bi (b && gh_al (fun k => me_ie a (5 * (2 * n + c) + k)) i d)) (me_N (c + 1)) := by
  intro d
  induction d with
  | zero =>
    intro f i b h1 h2
    obtain ⟨f, rfl⟩ : ∃ g, f = g + 1 := ⟨f - 1, by omega⟩
    show f_M_sleep_b39 _ _ _ _ _ _ _ = _
    unfold f_M_sleep_b39
    rw [if_pos (by rw [me_N_5, me_N_le (by omega) (by omega)]; omega), me_lt_s, me_N_inc]
    show _ = K31 μ (me_N n) (me_bi (b && true)) (me_N (c + 1))
    rw [Bool.and_true]
  | succ d ih =>
    intro f i b h1 h2
    obtain ⟨f, rfl⟩ : ∃ g, f = g + 1 := ⟨f - 1, by omega⟩
    have hl := me_ql a hI (5 * (2 * n + c) + i)
    show f_M_sleep_b39 _ _ _ _ _ _ _ = K31 μ (me_N n) (me_bi (b && (me_ie a (5 * (2 * n + c) + i) && gh_al (fun k => me_ie a (5 * (2 * n + c) + k)) (i + 1) d))) (me_N (c + 1))
    have z1 : me_bi b &&& 1 = me_bi b := by cases b <;> rfl
    have z0 : me_bi b &&& 0 = me_bi false := by cases b <;> rfl
    unfold f_M_sleep_b39 f_M_sleep_b79
    simp only [me_gd_n (show n < 2147483648 by omega) hn, me_gd_n (show c < 2147483648 by omega) hc, me_gd_n (show i < 2147483648 by omega) (show i < 5 by omega), me_N_ix (show n < 2147483648 by omega), me_N_ix (show c < 2147483648 by omega), me_N_ix (show i < 2147483648 by omega), me_lt_s, me_N_inc, z0, z1]
    rw [if_neg (by rw [me_N_5, me_N_le (by omega) (by omega)]; omega), hM.qn _ _ (by omega) (by omega), hM.ro _ _ (by omega) (by omega), ih f (i + 1) b (by omega) (by omega), ih f (i + 1) false (by omega) (by omega)]
    unfold me_ie
    by_cases e1 : (a.q (5 * (2 * n + c) + i)).length = 0
    · rw [if_pos (by rw [e1]; rfl)]
      by_cases e2 : a.ro (5 * (2 * n + c) + i) = none
      · rw [if_pos ((me_ro_m1 hI _).mpr e2), decide_eq_true e1, decide_eq_true e2]
        rfl
      · rw [if_neg (fun q => e2 ((me_ro_m1 hI _).mp q)), decide_eq_true e1, decide_eq_false e2]
        cases b <;> rfl
    · rw [if_neg (by rw [me_N_0, me_N_inj (by omega) (by omega)]; exact e1), decide_eq_false e1]
      cases b <;> rfl
theorem gh_al_10 {P : Nat → Bool} {n : Nat} : (gh_al (fun k => P (5 * (2 * n + 0) + k)) 0 5 && gh_al (fun k => P (5 * (2 * n + 1) + k)) 0 5) = gh_al (fun k => P (10 * n + k)) 0 10 := by
  have e0 : (fun k => P (5 * (2 * n + 0) + k)) = fun k => P (10 * n + k) := funext fun k => congrArg P (by omega)
  have e1 : (fun k => P (5 * (2 * n + 1) + k)) = fun k => P (10 * n + (5 + k)) := funext fun k => congrArg P (by omega)
  rw [e0, e1]
  simp only [gh_al, Bool.and_assoc, Bool.and_true]
theorem m_idle {a : me_S} {μ : me_M} (hM : me_RM a μ) (hI : me_Iv a) {n : Nat} (hn : n < 16) (b : Bool) : f_M_sleep_h31 me_FU μ (me_N n) (me_bi b) 0 = f_M_sleep_b104 μ (me_N n) (me_ni (b && gh_al (fun k => me_ie a (10 * n + k)) 0 10)) := by
  show f_M_sleep_h31 (998 + 1 + 1) μ (me_N n) (me_bi b) (me_N 0) = _
  show f_M_sleep_b31 _ _ _ _ _ = _
  unfold f_M_sleep_b31
  rw [if_neg (by decide), show (0 : Int32) = me_N 0 from rfl, m_idle5 hM hI hn (by decide) 5 me_FU 0 b rfl (by decide)]
  show f_M_sleep_b31 _ _ _ _ _ = _
  unfold f_M_sleep_b31
  rw [if_neg (by decide), show (0 : Int32) = me_N 0 from rfl, m_idle5 hM hI hn (by decide) 5 me_FU 0 _ rfl (by decide)]
  show f_M_sleep_b31 (f_M_sleep_h31 997) _ _ _ _ = _
  unfold f_M_sleep_b31
  rw [if_pos (by decide), Bool.and_assoc, gh_al_10]
  cases (b && gh_al (fun k => me_ie a (10 * n + k)) 0 10) <;> rfl
theorem t_21 {T : Nat} {a : me_S} {μ : me_M} {o : Int64 × UInt64} {s1 s2 s3 s4 s5 : Int32} (hR : me_R T a μ) : ∃ μ' o' a', f_case_21 μ o s1 s2 s3 s4 s5 = some (μ', o') ∧ me_R T a' μ' := by
  obtain ⟨hC, hM, hI, hbt, hT, hwk⟩ := id hR
  have hwh := hI.wh
  have hnp := hI.n200
  have hD : me_Dd a a μ := ⟨hC, hM, hwk⟩
  by_cases hb : me_isB s1 (a.w * a.h)
  · obtain ⟨n, hn, rfl⟩ := hb
    have g1 : ∀ α (k : Option α), me_gd (me_inb (me_N n) 16) k = k := fun α k => me_gd_n (by omega) (by omega)
    have g2 : me_ix (me_N n) = n := me_N_ix (by omega)
    have h16 : n < 16 := by omega
    have e1 := y_node_o hC hI hn
    have e2 : ∀ μ', me_RM a μ' → f_M_isNoNode μ' (me_N n) = some 0 := fun μ' h => m_node_o h hI hn
    have hM2 := (hR.th 0).2.1
    have e5 := y_busy hC h16
    have e7 : f_Router_isIdle μ n = some (me_bi (gh_al (fun k => me_ie a (10 * n + k)) 0 10)) := y_idle hC hI h16 10 me_FU 0 rfl (by decide)
    by_cases hid : gh_al (fun k => me_ie a (10 * n + k)) 0 10 = true ∧ ¬ (a.co n = 114 ∨ a.co n = 119 ∨ a.co n = 98)
    · rw [hid.1] at e7
      rw [if_neg hid.2] at e5
      have e7' : f_Router_isIdle μ n = some 1 := e7
      have D1 := hD.c (hC.w_aw n false) (by decide) (Or.inr (by decide))
      rw [show me_bi false = (0 : Int32) from rfl] at D1
      have D2 := D1.th 0
      have e6 := m_busy D2.2.1 h16
      rw [if_neg hid.2] at e6
      have e8 := m_idle D2.2.1 hI h16 true
      rw [hid.1] at e8
      have e8' : f_M_sleep_h31 me_FU (me_up (me_up μ 13 n 3 0) 36 0 42 0) (me_N n) 1 0 = f_M_sleep_b104 (me_up (me_up μ 13 n 3 0) 36 0 42 0) (me_N n) 0 := e8
      have e6' : f_M_isBusy (me_up (me_up μ 13 n 3 0) 36 0 42 0) (me_N n) = some 0 := e6
      have D3 := D2.th 0
      have D4 := D3.m (D3.2.1.w_aw n false) (by decide)
      rw [show me_ni false = (1 : Int32) from rfl] at D4
      have hz := (gh_al_iff 10 0).mp hid.1
      have hw0 := hI.2.2.2.2.1
      have hI2 : me_Iv (a.s_aw (me_fu a.aw n false)) := by
        refine ⟨hI.1, hI.2.1, hI.2.2.1, hI.2.2.2.1, ?_, hI.2.2.2.2.2⟩
        exact me_Wm.mk hw0.in4 hw0.iel hw0.idi hw0.icr hw0.ice hw0.iow hw0.iun hw0.iso hw0.ifo hw0.ion hw0.ivd hw0.itl hw0.ihm hw0.ifi hw0.ihd hw0.iex hw0.ict hw0.ifp (fun r hr => by
          replace hr : me_fu a.aw n false (r / 10) = false := hr
          rw [me_fu_ap] at hr
          by_cases e : r / 10 = n
          · have h9 : me_ie a (10 * n + r % 10) = true := hz (r % 10) (Nat.zero_le _) (by omega)
            have h8 : 10 * n + r % 10 = r := by omega
            rw [h8] at h9
            unfold me_ie at h9
            rw [Bool.and_eq_true, decide_eq_true_eq, decide_eq_true_eq] at h9
            exact ⟨List.length_eq_zero_iff.mp h9.1, h9.2⟩
          · rw [if_neg e] at hr
            exact hw0.isl r hr)
      refine ⟨_, (if a.aw n = true then 1 else 0, o.2), _, ?_, D4.R rfl hI2 hbt hT⟩
      have z1 : vp_nar .boolean 1 = 1 := rfl
      have z2 : me_bi false = 0 := rfl
      have z3 : me_ni false = 1 := rfl
      cases hw : a.aw n <;> simp [f_case_21, f_L_sleep, f_Y_sleep, f_M_sleep, f_M_sleep_b104, f_M_sleep_b127, me_bd_s, me_b2_s, me_lt_s, me_oq_n, me_oq_s, me_xb_o, me_xb_e, me_xb2_o, me_xb2_e, me_xm_o, me_xm_e, f_M_thrown, m_th0, m_th1, me_cmp_self, me_up_at, if_true, if_false, me_nr_z, me_nr_o, me_gd_t, me_up_kn, me_up_jn, e1, e2 _ D1.2.1, e5, e6', e7', e8', hC.aw n h16, hM.aw n h16, hw, me_bi, me_ni, g1, g2, z1]
    · refine ⟨_, o, a, ?_, ((hR.th 0).th 2)⟩
      have e6 := m_busy (hR.th 0).2.1 h16
      have e8 := fun b => m_idle (hR.th 0).2.1 hI h16 b
      by_cases hq : a.co n = 114 ∨ a.co n = 119 ∨ a.co n = 98
      · rw [if_pos hq] at e5 e6
        have e8' : f_M_sleep_h31 me_FU (me_up μ 36 0 42 0) (me_N n) 0 0 = f_M_sleep_b104 (me_up μ 36 0 42 0) (me_N n) 1 := e8 false
        cases hx : gh_al (fun k => me_ie a (10 * n + k)) 0 10 with
        | true =>
          rw [hx] at e7
          simp [f_case_21, f_L_sleep, f_Y_sleep, f_Y_sleep_b31, f_M_sleep, f_M_sleep_b104, me_bd_s, me_b2_s, me_lt_s, me_oq_n, me_oq_s, me_xb_o, me_xb_e, me_xb2_o, me_xb2_e, me_xm_o, me_xm_e, f_M_thrown, m_th0, m_th1, me_cmp_self, me_up_at, if_true, if_false, me_nr_z, me_nr_o, me_gd_t, me_up_kn, me_up_jn, e1, e2 _ hM, e5, e6, e7, e8', me_bi, g1, g2]
        | false =>
          rw [hx] at e7
          simp [f_case_21, f_L_sleep, f_Y_sleep, f_Y_sleep_b31, f_M_sleep, f_M_sleep_b104, me_bd_s, me_b2_s, me_lt_s, me_oq_n, me_oq_s, me_xb_o, me_xb_e, me_xb2_o, me_xb2_e, me_xm_o, me_xm_e, f_M_thrown, m_th0, m_th1, me_cmp_self, me_up_at, if_true, if_false, me_nr_z, me_nr_o, me_gd_t, me_up_kn, me_up_jn, e1, e2 _ hM, e5, e6, e7, e8', me_bi, g1, g2]
      · rw [if_neg hq] at e5 e6
        cases hx : gh_al (fun k => me_ie a (10 * n + k)) 0 10 with
        | true => exact absurd ⟨hx, hq⟩ hid
        | false =>
          rw [hx] at e7
          have e8' := e8 true
          rw [hx] at e8'
          have e9 : f_M_sleep_h31 me_FU (me_up μ 36 0 42 0) (me_N n) 1 0 = f_M_sleep_b104 (me_up μ 36 0 42 0) (me_N n) 1 := e8'
          simp [f_case_21, f_L_sleep, f_Y_sleep, f_Y_sleep_b31, f_M_sleep, f_M_sleep_b104, me_bd_s, me_b2_s, me_lt_s, me_oq_n, me_oq_s, me_xb_o, me_xb_e, me_xb2_o, me_xb2_e, me_xm_o, me_xm_e, f_M_thrown, m_th0, m_th1, me_cmp_self, me_up_at, if_true, if_false, me_nr_z, me_nr_o, me_gd_t, me_up_kn, me_up_jn, e1, e2 _ hM, e5, e6, e7, e9, me_bi, g1, g2]
  · have e1 := y_node_n hC hI hb
    have e2 := m_node_n hM hI hb
    refine ⟨_, o, a, ?_, hR.th 1⟩
    simp [f_case_21, f_L_sleep, f_Y_sleep, f_M_sleep, me_bd_s, me_b2_s, me_lt_s, me_oq_n, me_oq_s, me_xb_o, me_xb_e, me_xb2_o, me_xb2_e, me_xm_o, me_xm_e, f_M_thrown, m_th0, m_th1, me_cmp_self, me_up_at, if_true, if_false, me_nr_z, me_nr_o, me_gd_t, me_up_kn, me_up_jn, e1, e2]
