/-! cost -/
theorem me_N_abs {a b : Nat} (ha : a < 1000) (hb : b < 1000) : me_abs' (me_N a - me_N b) = me_N ((a - b) + (b - a)) := by
  unfold me_abs'
  have h := (me_N_dif ha hb).2
  by_cases e : b ≤ a
  · rw [if_pos (h.mpr e), me_N_sub e, show a - b + (b - a) = a - b by omega]
  · rw [if_neg (fun q => e (h.mp q)), show a - b + (b - a) = b - a by omega]
    rw [← me_N_ofInt, ← me_N_ofInt, ← me_N_ofInt, ← Int32.ofInt_sub, show (0 : Int32) = Int32.ofInt 0 from rfl, ← Int32.ofInt_sub]
    congr 1
    omega
theorem me_ds_sy (w x y : Nat) : me_ds w x y = me_ds w y x := by
  unfold me_ds
  omega
theorem y_steps {a : me_S} {μ : me_M} (hC : me_RC a μ) (hI : me_Iv a) {x y : Nat} (hx : x < a.w * a.h) (hy : y < a.w * a.h) : f_Net_stepsBetween μ (me_N x) (me_N y) = some (me_N (me_ds a.w x y)) := by
  have hwh := hI.wh
  have h1 : x % a.w ≤ x := Nat.mod_le _ _
  have h2 : y % a.w ≤ y := Nat.mod_le _ _
  have h3 : x / a.w ≤ x := Nat.div_le_self _ _
  have h4 : y / a.w ≤ y := Nat.div_le_self _ _
  unfold f_Net_stepsBetween me_ds
  simp only [me_gd_n (show x < 2147483648 by omega) (show x < 16 by omega), me_gd_n (show y < 2147483648 by omega) (show y < 16 by omega), me_N_ix (show x < 2147483648 by omega), me_N_ix (show y < 2147483648 by omega), hC.cl x hx, hC.cl y hy, hC.li x hx, hC.li y hy]
  rw [me_N_abs (by omega) (by omega), me_N_abs (by omega) (by omega), me_N_add]
theorem m_steps {a : me_S} {μ : me_M} (hM : me_RM a μ) (hI : me_Iv a) {x y : Nat} (hx : x < a.w * a.h) (hy : y < a.w * a.h) : f_M_stepsOf μ (me_N x) (me_N y) = some (me_N (me_ds a.w x y)) := by
  have hwh := hI.wh
  have hw := hI.1.iw
  have h1 : x % a.w ≤ x := Nat.mod_le _ _
  have h2 : y % a.w ≤ y := Nat.mod_le _ _
  have h3 : x / a.w ≤ x := Nat.div_le_self _ _
  have h4 : y / a.w ≤ y := Nat.div_le_self _ _
  have hz : me_nz (me_N a.w) = true := by
    unfold me_nz
    rw [decide_eq_true_eq, me_N_0, me_N_inj (by omega) (by omega)]
    omega
  unfold f_M_stepsOf me_ds
  rw [hM.w, me_gd_t hz, me_gd_t hz, me_gd_t hz, me_gd_t hz, me_N_rem (by omega) (by omega) (by omega), me_N_rem (by omega) (by omega) (by omega), me_N_div (by omega) (by omega) (by omega), me_N_div (by omega) (by omega) (by omega), me_N_abs (by omega) (by omega), me_N_abs (by omega) (by omega), me_N_add]
/-- the traffic of two tasks times their steps -/
def gh_T (a : me_S) (i j : Nat) : Nat := a.tr i j * me_ds a.w (a.tn i) (a.tn j)
theorem y_cost16 {a : me_S} {μ : me_M} (hC : me_RC a μ) (hI : me_Iv a) {K4 : Int32 → Int32 → Option Int32} {i : Nat} (hi : i < a.nt) : ∀ (d f j c : Nat), j + d = a.nt → d < f → f_Placing_countCost_h16 μ K4 f (me_N c) (me_N i) (me_N j) = K4 (me_N (c + me_sm (gh_T a i) j d)) (me_N (i + 1)) := by
  have hnt := hI.2.2.2.1.int
  intro d
  induction d with
  | zero =>
    intro f j c h1 h2
    obtain ⟨f, rfl⟩ : ∃ g, f = g + 1 := ⟨f - 1, by omega⟩
    show f_Placing_countCost_b16 _ _ _ _ _ _ = _
    unfold f_Placing_countCost_b16
    rw [hC.nt, if_pos (by rw [me_N_le (by omega) (by omega)]; omega), me_lt_s, me_N_inc]
    rfl
  | succ d ih =>
    intro f j c h1 h2
    obtain ⟨f, rfl⟩ : ∃ g, f = g + 1 := ⟨f - 1, by omega⟩
    show f_Placing_countCost_b16 _ _ _ _ _ _ = K4 (me_N (c + (gh_T a i j + me_sm (gh_T a i) (j + 1) d))) (me_N (i + 1))
    unfold f_Placing_countCost_b16
    rw [hC.nt, if_neg (by rw [me_N_le (by omega) (by omega)]; omega), me_N_8, me_N_mul, me_N_add, me_gd_n (by omega) (by omega), me_gd_n (by omega) (by omega), me_gd_n (by omega) (by omega), me_N_ix (by omega), me_N_ix (by omega), me_N_ix (by omega), hC.tn i hi, hC.tn j (by omega), y_steps hC hI (hI.2.2.2.1.itn i hi) (hI.2.2.2.1.itn j (by omega)), me_bd_s, hC.tr i j (by omega) (by omega), me_N_mul, me_N_add, me_lt_s, me_N_inc, me_lt_s, ih f (j + 1) _ (by omega) (by omega), Nat.add_assoc]
    rfl
theorem y_cost4 {a : me_S} {μ : me_M} (hC : me_RC a μ) (hI : me_Iv a) : ∀ (d f i c : Nat), i + d = a.nt → d < f → f_Placing_countCost_h4 μ f (me_N c) (me_N i) = some (me_N (c + me_sm (fun i => me_sm (gh_T a i) (i + 1) (a.nt - (i + 1))) i d)) := by
  have hnt := hI.2.2.2.1.int
  intro d
  induction d with
  | zero =>
    intro f j c h1 h2
    obtain ⟨f, rfl⟩ : ∃ g, f = g + 1 := ⟨f - 1, by omega⟩
    show f_Placing_countCost_b4 _ _ _ _ = _
    unfold f_Placing_countCost_b4
    rw [hC.nt, if_pos (by rw [me_N_le (by omega) (by omega)]; omega)]
    rfl
  | succ d ih =>
    intro f i c h1 h2
    obtain ⟨f, rfl⟩ : ∃ g, f = g + 1 := ⟨f - 1, by omega⟩
    show f_Placing_countCost_b4 _ _ _ _ = some (me_N (c + (me_sm (gh_T a i) (i + 1) (a.nt - (i + 1)) + me_sm (fun i => me_sm (gh_T a i) (i + 1) (a.nt - (i + 1))) (i + 1) d)))
    unfold f_Placing_countCost_b4
    rw [hC.nt, if_neg (by rw [me_N_le (by omega) (by omega)]; omega), me_N_1, me_N_add, me_lt_s, y_cost16 hC hI (by omega) (a.nt - (i + 1)) me_FU (i + 1) c (by omega) (show _ < 1000 by omega), ih f (i + 1) _ (by omega) (by omega), Nat.add_assoc]
theorem m_cost14 {a : me_S} {μ : me_M} (hM : me_RM a μ) (hI : me_Iv a) {K4 : Int32 → Int32 → Option Int32} {i : Nat} (hi : i < a.nt) : ∀ (d f j c : Nat), j + d = i → d < f → f_M_costNow_h14 μ K4 f (me_N c) (me_N i) (me_N j) = K4 (me_N (c + me_sm (gh_T a i) j d)) (me_N (i + 1)) := by
  have hnt := hI.2.2.2.1.int
  intro d
  induction d with
  | zero =>
    intro f j c h1 h2
    obtain ⟨f, rfl⟩ : ∃ g, f = g + 1 := ⟨f - 1, by omega⟩
    show f_M_costNow_b14 _ _ _ _ _ _ = _
    unfold f_M_costNow_b14
    rw [if_pos (by rw [me_N_le (by omega) (by omega)]; omega), me_lt_s, me_N_inc]
    rfl
  | succ d ih =>
    intro f j c h1 h2
    obtain ⟨f, rfl⟩ : ∃ g, f = g + 1 := ⟨f - 1, by omega⟩
    show f_M_costNow_b14 _ _ _ _ _ _ = K4 (me_N (c + (gh_T a i j + me_sm (gh_T a i) (j + 1) d))) (me_N (i + 1))
    unfold f_M_costNow_b14
    rw [if_neg (by rw [me_N_le (by omega) (by omega)]; omega), me_gd_n (by omega) (by omega), me_gd_n (by omega) (by omega), me_gd_n (by omega) (by omega), me_gd_n (by omega) (by omega), me_N_ix (by omega), me_N_ix (by omega), hM.tn i hi, hM.tn j (by omega), m_steps hM hI (hI.2.2.2.1.itn i hi) (hI.2.2.2.1.itn j (by omega)), me_bd_s, hM.tr i j (by omega) (by omega), me_N_mul, me_N_add, me_lt_s, me_N_inc, me_lt_s, ih f (j + 1) _ (by omega) (by omega), Nat.add_assoc]
    rfl
theorem m_cost4 {a : me_S} {μ : me_M} (hM : me_RM a μ) (hI : me_Iv a) : ∀ (d f i c : Nat), i + d = a.nt → d < f → f_M_costNow_h4 μ f (me_N c) (me_N i) = some (me_N (c + me_sm (fun i => me_sm (gh_T a i) 0 i) i d)) := by
  have hnt := hI.2.2.2.1.int
  intro d
  induction d with
  | zero =>
    intro f j c h1 h2
    obtain ⟨f, rfl⟩ : ∃ g, f = g + 1 := ⟨f - 1, by omega⟩
    show f_M_costNow_b4 _ _ _ _ = _
    unfold f_M_costNow_b4
    rw [hM.nt, if_pos (by rw [me_N_le (by omega) (by omega)]; omega)]
    rfl
  | succ d ih =>
    intro f i c h1 h2
    obtain ⟨f, rfl⟩ : ∃ g, f = g + 1 := ⟨f - 1, by omega⟩
    show f_M_costNow_b4 _ _ _ _ = some (me_N (c + (me_sm (gh_T a i) 0 i + me_sm (fun i => me_sm (gh_T a i) 0 i) (i + 1) d)))
    unfold f_M_costNow_b4
    rw [hM.nt, if_neg (by rw [me_N_le (by omega) (by omega)]; omega), me_N_0, m_cost14 hM hI (by omega) i me_FU 0 c (by omega) (show _ < 1000 by omega), ih f (i + 1) _ (by omega) (by omega), Nat.add_assoc]
theorem me_sm_add {g h : Nat → Nat} : ∀ (d i : Nat), me_sm (fun k => g k + h k) i d = me_sm g i d + me_sm h i d := by
  intro d
  induction d with
  | zero => intro i; rfl
  | succ d ih =>
    intro i
    show g i + h i + me_sm (fun k => g k + h k) (i + 1) d = g i + me_sm g (i + 1) d + (h i + me_sm h (i + 1) d)
    rw [ih]
    omega
/-- pairs counted from the first are pairs counted from the second -/
theorem gh_pairs {T : Nat → Nat → Nat} (hs : ∀ i j, T i j = T j i) : ∀ n, me_sm (fun i => me_sm (T i) (i + 1) (n - (i + 1))) 0 n = me_sm (fun i => me_sm (T i) 0 i) 0 n := by
  intro n
  induction n with
  | zero => rfl
  | succ n ih =>
    rw [me_sm_snoc, me_sm_snoc, ← ih]
    have e1 : me_sm (fun i => me_sm (T i) (i + 1) (n + 1 - (i + 1))) 0 n = me_sm (fun i => me_sm (T i) (i + 1) (n - (i + 1)) + T n i) 0 n := me_sm_cg n 0 (fun j h1 h2 => by
      show me_sm (T j) (j + 1) (n + 1 - (j + 1)) = me_sm (T j) (j + 1) (n - (j + 1)) + T n j
      rw [show n + 1 - (j + 1) = (n - (j + 1)) + 1 by omega, me_sm_snoc, show j + 1 + (n - (j + 1)) = n by omega, hs j n])
    rw [e1, me_sm_add]
    simp only [Nat.zero_add, Nat.sub_self]
    show _ + 0 = _
    rfl
theorem gh_Tsy {a : me_S} (hI : me_Iv a) (i j : Nat) : gh_T a i j = gh_T a j i := by
  unfold gh_T
  rw [hI.2.2.2.1.isy i j, me_ds_sy]
def gh_cost (a : me_S) : Nat := me_sm (fun i => me_sm (gh_T a i) 0 i) 0 a.nt
theorem y_cost {a : me_S} {μ : me_M} (hC : me_RC a μ) (hI : me_Iv a) : f_Placing_countCost μ = some (me_N (gh_cost a)) := by
  have hnt := hI.2.2.2.1.int
  have h := y_cost4 hC hI a.nt me_FU 0 0 (Nat.zero_add _) (show _ < 1000 by omega)
  rw [gh_pairs (gh_Tsy hI), Nat.zero_add] at h
  exact h
theorem m_cost {a : me_S} {μ : me_M} (hM : me_RM a μ) (hI : me_Iv a) : f_M_costNow μ = some (me_N (gh_cost a)) := by
  have hnt := hI.2.2.2.1.int
  have h := m_cost4 hM hI a.nt me_FU 0 0 (Nat.zero_add _) (show _ < 1000 by omega)
  rw [Nat.zero_add] at h
  exact h
theorem t_37 {T : Nat} {a : me_S} {μ : me_M} {o : Int64 × UInt64} {s1 s2 s3 s4 s5 : Int32} (hR : me_R T a μ) : ∃ μ' o' a', f_case_37 μ o s1 s2 s3 s4 s5 = some (μ', o') ∧ me_R T a' μ' := by
  obtain ⟨hC, hM, hI, hbt, hT, hwk⟩ := id hR
  have hwh := hI.wh
  have hnp := hI.n200
  have hD : me_Dd a a μ := ⟨hC, hM, hwk⟩
  have c1 := y_cost hC hI
  have c2 := m_cost (hR.th 0).2.1 hI
  refine ⟨_, o, a, ?_, hR.th 0⟩
  simp [f_case_37, f_Y_cost, f_M_cost, me_bd_s, me_b2_s, me_lt_s, me_oq_n, me_oq_s, me_xb_o, me_xb_e, me_xb2_o, me_xb2_e, me_xm_o, me_xm_e, f_M_thrown, m_th0, m_th1, me_cmp_self, me_up_at, if_true, if_false, me_nr_z, me_nr_o, me_gd_t, me_up_kn, me_up_jn, c1, c2]
