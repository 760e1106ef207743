/-! multicast -/
theorem me_sm_snoc {g : Nat → Nat} : ∀ (d i : Nat), me_sm g i (d + 1) = me_sm g i d + g (i + d) := by
  intro d
  induction d with
  | zero => intro i; show g i + 0 = 0 + g (i + 0); rw [Nat.add_zero, Nat.zero_add, Nat.add_zero]
  | succ d ih =>
    intro i
    show g i + me_sm g (i + 1) (d + 1) = (g i + me_sm g (i + 1) d) + g (i + (d + 1))
    rw [ih (i + 1), show i + (d + 1) = i + 1 + d by omega]
    omega
theorem gh_bits_sm (k : Nat) : ∀ n, gh_bits k n = me_sm (fun g => k / 2 ^ g % 2) 0 n := by
  intro n
  induction n with
  | zero => rfl
  | succ n ih =>
    rw [me_sm_snoc, ← ih, Nat.zero_add]
    show k / 2 ^ n % 2 + gh_bits k n = gh_bits k n + k / 2 ^ n % 2
    exact Nat.add_comm _ _
theorem me_sm_cat {g : Nat → Nat} : ∀ (e d i : Nat), me_sm g i d ≤ me_sm g i (d + e) := by
  intro e
  induction e with
  | zero => intro d i; exact Nat.le_refl _
  | succ e ih =>
    intro d i
    rw [← Nat.add_assoc, me_sm_snoc]
    have := ih d i
    omega
theorem gh_count {μ : me_M} {k : Nat} (h : k < 65536) : f_Int_bitCount μ (me_N k) = some (me_N (gh_bits k 16)) := by
  rw [← gh_bc_ok h]
  have a1 : ∀ x c : Nat, x &&& c ≤ x := fun x c => Nat.and_le_left
  have h1 : k / 2 &&& 1431655765 ≤ k := Nat.le_trans (a1 _ _) (Nat.div_le_self _ _)
  unfold f_Int_bitCount gh_bc
  simp only [me_lt_s]
  rw [show (1 : Int32) = me_N 1 from rfl, show (2 : Int32) = me_N 2 from rfl, show (4 : Int32) = me_N 4 from rfl, show (8 : Int32) = me_N 8 from rfl, show (16 : Int32) = me_N 16 from rfl, show (1431655765 : Int32) = me_N 1431655765 from rfl, show (858993459 : Int32) = me_N 858993459 from rfl, show (252645135 : Int32) = me_N 252645135 from rfl, show (63 : Int32) = me_N 63 from rfl]
  rw [me_N_ushr (by omega) (by omega), show (2 : Nat) ^ 1 = 2 from rfl, me_N_and (by omega) (by omega), me_N_sub h1]
  generalize hx1 : k - (k / 2 &&& 1431655765) = x1
  have b1 : x1 < 65536 := by omega
  rw [me_N_ushr (by omega) (by omega), show (2 : Nat) ^ 2 = 4 from rfl, me_N_and (by omega) (by omega), me_N_and (by omega) (by omega), me_N_add]
  generalize hx2 : (x1 &&& 858993459) + (x1 / 4 &&& 858993459) = x2
  have b2 : x2 < 200000 := by
    have := a1 x1 858993459
    have := a1 (x1 / 4) 858993459
    omega
  rw [me_N_ushr (by omega) (by omega), show (2 : Nat) ^ 4 = 16 from rfl, me_N_add, me_N_and (by omega) (by omega)]
  generalize hx3 : (x2 + x2 / 16 &&& 252645135) = x3
  have b3 : x3 < 400000 := by
    have := a1 (x2 + x2 / 16) 252645135
    omega
  rw [me_N_ushr (by omega) (by omega), show (2 : Nat) ^ 8 = 256 from rfl, me_N_add, me_N_ushr (by omega) (by omega), show (2 : Nat) ^ 16 = 65536 from rfl, me_N_add, me_N_and (by omega) (by omega)]
theorem gh_neg {v : Int32} {N : Nat} (h : v < 0) (hN : N ≤ 16) : ¬ me_ushr v (me_N N) = 0 := by
  intro q
  unfold me_ushr at q
  have h2 : ∀ b, b < 32 → (me_N b).toUInt32 &&& Int32.toUInt32 31 = UInt32.ofNat b := by decide +kernel
  rw [h2 N (by omega)] at q
  have h3 : v.toUInt32 >>> UInt32.ofNat N = 0 := by
    have := congrArg Int32.toUInt32 q
    exact this
  have h4 := congrArg UInt32.toNat h3
  rw [UInt32.toNat_shiftRight, UInt32.toNat_ofNat', Nat.mod_eq_of_lt (show N < 2 ^ 32 by omega), Nat.mod_eq_of_lt (show N < 32 by omega), Nat.shiftRight_eq_div_pow] at h4
  have h5 : 2147483648 ≤ v.toUInt32.toNat := by
    rw [Int32.lt_iff_toInt_lt] at h
    have h6 : v.toInt < 0 := h
    have h7 : v.toInt = v.toBitVec.toInt := rfl
    rw [h7, BitVec.toInt_eq_toNat_cond] at h6
    have h8 : v.toUInt32.toNat = v.toBitVec.toNat := rfl
    rw [h8]
    split at h6
    · omega
    · omega
  have h9 : 2 ^ N ≤ 65536 := Nat.pow_le_pow_right (by omega) hN
  have h10 : 0 < 2 ^ N := Nat.pow_pos (by omega)
  have h11 : 1 ≤ v.toUInt32.toNat / 2 ^ N := (Nat.le_div_iff_mul_le h10).mpr (by omega)
  have h12 : (0 : UInt32).toNat = 0 := rfl
  omega
theorem gh_goals {v : Int32} {N : Nat} (h1 : 1 ≤ N) (h2 : N ≤ 16) : (∃ k, 1 ≤ k ∧ k < 2 ^ N ∧ v = me_N k ∧ ¬ v = 0 ∧ me_ushr v (me_N N) = 0 ∧ ¬ v < 1 ∧ v < (1 : Int32) <<< (me_N N &&& 31)) ∨ ((v = 0 ∨ ¬ me_ushr v (me_N N) = 0) ∧ (v < 1 ∨ (¬ v < 1 ∧ ¬ v < (1 : Int32) <<< (me_N N &&& 31)))) := by
  have hs : ∀ N, N < 17 → (1 : Int32) <<< (me_N N &&& 31) = me_N (2 ^ N) := by decide +kernel
  have h9 : 2 ^ N ≤ 65536 := Nat.pow_le_pow_right (by omega) h2
  have h10 : 0 < 2 ^ N := Nat.pow_pos (by omega)
  rw [hs N (by omega)]
  by_cases h0 : v < 0
  · refine Or.inr ⟨Or.inr (gh_neg h0 h2), Or.inl ?_⟩
    rw [Int32.lt_iff_toInt_lt] at h0 ⊢
    have : (0 : Int32).toInt = 0 := rfl
    have : (1 : Int32).toInt = 1 := rfl
    omega
  · obtain ⟨k, hk, rfl⟩ := me_N_of h0
    rw [me_N_ushr hk (by omega), me_N_0, me_N_1, me_N_lt hk (by omega), me_N_lt hk (by omega), me_N_inj hk (by omega), me_N_inj (Nat.lt_of_le_of_lt (Nat.div_le_self _ _) hk) (by omega)]
    by_cases e : 1 ≤ k ∧ k < 2 ^ N
    · exact Or.inl ⟨k, e.1, e.2, rfl, by omega, Nat.div_eq_of_lt e.2, by omega, e.2⟩
    · refine Or.inr ⟨?_, ?_⟩
      · by_cases e0 : k = 0
        · exact Or.inl e0
        · refine Or.inr (fun q => ?_)
          have : 1 ≤ k / 2 ^ N := (Nat.le_div_iff_mul_le h10).mpr (by omega)
          omega
      · by_cases e0 : k < 1
        · exact Or.inl e0
        · exact Or.inr ⟨e0, by omega⟩
def gh_mcg (n k : Nat) (w : Int32) : Nat → Nat → me_S → me_S
  | _, 0, a => a
  | i, d + 1, a => gh_mcg n k w (i + 1) d (if k / 2 ^ i % 2 = 0 then a else gh_mk a 109 n i w 1)
theorem gh_mcg_iv {n k : Nat} {w : Int32} : ∀ (d i : Nat) (a : me_S), me_Iv a → n < a.w * a.h → i + d = a.w * a.h → a.np + a.ow + me_sm (fun g => k / 2 ^ g % 2) i d ≤ 200 → me_Iv (gh_mcg n k w i d a) ∧ (gh_mcg n k w i d a).bt = a.bt := by
  intro d
  induction d with
  | zero => intro i a hI _ _ _; exact ⟨hI, rfl⟩
  | succ d ih =>
    intro i a hI hn hi hr
    have hr : a.np + a.ow + (k / 2 ^ i % 2 + me_sm (fun g => k / 2 ^ g % 2) (i + 1) d) ≤ 200 := hr
    show me_Iv (gh_mcg n k w (i + 1) d (if k / 2 ^ i % 2 = 0 then a else gh_mk a 109 n i w 1)) ∧ _
    by_cases e : k / 2 ^ i % 2 = 0
    · rw [if_pos e]
      have := ih (i + 1) a hI hn (by omega) (by omega)
      refine ⟨this.1, ?_⟩
      show (gh_mcg n k w (i + 1) d (if k / 2 ^ i % 2 = 0 then a else gh_mk a 109 n i w 1)).bt = a.bt
      rw [if_pos e]
      exact this.2
    · rw [if_neg e]
      have := ih (i + 1) (gh_mk a 109 n i w 1) (gh_iv0 hI (Or.inl rfl) (by omega) hn (by omega) ⟨Nat.le_refl _, by omega⟩) hn (show i + 1 + d = a.w * a.h by omega) (by show a.np + 1 + a.ow + _ ≤ 200; omega)
      refine ⟨this.1, ?_⟩
      show (gh_mcg n k w (i + 1) d (if k / 2 ^ i % 2 = 0 then a else gh_mk a 109 n i w 1)).bt = a.bt
      rw [if_neg e]
      exact this.2
theorem y_mcast {n k : Nat} {w r : Int32} (hk : k < 65536) : ∀ (d f i : Nat) (a : me_S) (μ : me_M), me_RC a μ → me_Iv a → n < a.w * a.h → i + d = a.w * a.h → d < f → a.np + a.ow + me_sm (fun g => k / 2 ^ g % 2) i d ≤ 200 → ∃ μ', f_Y_multicast_h46 f μ (me_N n) (me_N k) w r (me_N i) = some (μ', .ok r) ∧ me_RC (gh_mcg n k w i d a) μ' ∧ ∀ k', ¬ k' = 8 → ¬ k' = 6 → μ' k' = μ k' := by
  intro d
  induction d with
  | zero =>
    intro f i a μ hC hI hn hi hf hr
    have hwh := hI.wh
    obtain ⟨f, rfl⟩ : ∃ g, f = g + 1 := ⟨f - 1, by omega⟩
    refine ⟨μ, ?_, hC, fun _ _ _ => rfl⟩
    show f_Y_multicast_b46 _ _ _ _ _ _ _ = _
    unfold f_Y_multicast_b46
    rw [hC.nn, if_pos (by rw [me_N_le (by omega) (by omega)]; omega)]
  | succ d ih =>
    intro f i a μ hC hI hn hi hf hr
    have hwh := hI.wh
    obtain ⟨f, rfl⟩ : ∃ g, f = g + 1 := ⟨f - 1, by omega⟩
    have hr : a.np + a.ow + (k / 2 ^ i % 2 + me_sm (fun g => k / 2 ^ g % 2) (i + 1) d) ≤ 200 := hr
    have hb : k / 2 ^ i ≤ k := Nat.div_le_self _ _
    have hbit : me_ushr (me_N k) (me_N i) &&& 1 = me_N (k / 2 ^ i % 2) := by
      rw [me_N_ushr (by omega) (by omega), me_N_1, me_N_and (by omega) (by omega), Nat.and_one_is_mod]
    show ∃ μ', f_Y_multicast_b46 _ _ _ _ _ _ _ = _ ∧ me_RC (gh_mcg n k w (i + 1) d (if k / 2 ^ i % 2 = 0 then a else gh_mk a 109 n i w 1)) μ' ∧ _
    unfold f_Y_multicast_b46
    rw [hC.nn, if_neg (by rw [me_N_le (by omega) (by omega)]; omega), hbit]
    by_cases e : k / 2 ^ i % 2 = 0
    · rw [if_pos (by rw [e]; rfl), if_pos e, me_lt_s, me_N_inc]
      exact ih f (i + 1) a μ hC hI hn (by omega) (by omega) (by omega)
    · rw [if_neg (by rw [me_N_0, me_N_inj (by omega) (by omega)]; exact e), if_neg e]
      obtain ⟨μ1, e1, hC1, hf1⟩ := y_make0 hC (k := 109) (s := n) (g := i) (w := w) (b := 1) (by decide) (by decide +kernel) (by omega)
      have e1 : f_Post_make μ 109 (me_N n) (me_N i) w 1 (me_N a.bt) = some (μ1, me_N a.np) := e1
      rw [hC.bt, e1, me_b2_s, me_lt_s, me_N_inc]
      obtain ⟨μ2, g1, g2, g3⟩ := ih f (i + 1) (gh_mk a 109 n i w 1) μ1 hC1 (gh_iv0 hI (Or.inl rfl) (by omega) hn (by omega) ⟨Nat.le_refl _, by omega⟩) hn (show i + 1 + d = a.w * a.h by omega) (by omega) (by show a.np + 1 + a.ow + _ ≤ 200; omega)
      exact ⟨μ2, g1, g2, fun k' h8 h6 => (g3 k' h8 h6).trans (hf1 k' h8 h6)⟩
theorem m_mcast {n k : Nat} {w : Int32} (hk : k < 65536) : ∀ (d f i : Nat) (a : me_S) (μ : me_M), me_RM a μ → me_Iv a → n < a.w * a.h → i + d = a.w * a.h → d < f → a.np + a.ow + me_sm (fun g => k / 2 ^ g % 2) i d ≤ 200 → ∃ μ', f_M_multicast_h70 f μ (me_N n) (me_N k) w (me_N i) = some (μ', me_N (gh_bits k 16)) ∧ me_RM (gh_mcg n k w i d a) μ' ∧ (∀ k', k' < 36 → μ' k' = μ k') ∧ μ' 36 0 42 = μ 36 0 42 := by
  intro d
  induction d with
  | zero =>
    intro f i a μ hM hI hn hi hf hr
    have hwh := hI.wh
    obtain ⟨f, rfl⟩ : ∃ g, f = g + 1 := ⟨f - 1, by omega⟩
    refine ⟨μ, ?_, hM, fun _ _ => rfl, rfl⟩
    show f_M_multicast_b70 _ _ _ _ _ _ = _
    unfold f_M_multicast_b70 f_M_nodes
    rw [me_bd_s, hM.w, hM.h, me_N_mul, if_pos (by rw [me_N_le (by omega) (by omega)]; omega), gh_count hk, me_bd_s]
  | succ d ih =>
    intro f i a μ hM hI hn hi hf hr
    have hwh := hI.wh
    obtain ⟨f, rfl⟩ : ∃ g, f = g + 1 := ⟨f - 1, by omega⟩
    have hr : a.np + a.ow + (k / 2 ^ i % 2 + me_sm (fun g => k / 2 ^ g % 2) (i + 1) d) ≤ 200 := hr
    have hb : k / 2 ^ i ≤ k := Nat.div_le_self _ _
    have hbit : (me_N k >>> (me_N i &&& 31)) &&& 1 = me_N (k / 2 ^ i % 2) := by
      rw [me_N_sshr hk (by omega), me_N_1, me_N_and (by omega) (by omega), Nat.and_one_is_mod]
    show ∃ μ', f_M_multicast_b70 _ _ _ _ _ _ = _ ∧ me_RM (gh_mcg n k w (i + 1) d (if k / 2 ^ i % 2 = 0 then a else gh_mk a 109 n i w 1)) μ' ∧ _
    unfold f_M_multicast_b70 f_M_nodes
    rw [me_bd_s, hM.w, hM.h, me_N_mul, if_neg (by rw [me_N_le (by omega) (by omega)]; omega), hbit]
    by_cases e : k / 2 ^ i % 2 = 0
    · rw [if_neg (by rw [me_N_1, me_N_inj (by omega) (by omega)]; omega), if_pos e, me_lt_s, me_N_inc]
      exact ih f (i + 1) a μ hM hI hn (by omega) (by omega) (by omega)
    · rw [if_pos (by rw [me_N_1, me_N_inj (by omega) (by omega)]; omega), if_neg e]
      obtain ⟨μ1, e1, hM1, hf1, ht1, -⟩ := m_made0 hM (k := 109) (s := n) (g := i) (w := w) (b := 1) (by decide) (by decide +kernel) (by omega)
      have e1 : f_M_made μ 109 (me_N n) (me_N i) w 1 = some (μ1, me_N a.np) := e1
      rw [e1, me_b2_s, me_lt_s, me_N_inc]
      obtain ⟨μ2, g1, g2, g3, g4⟩ := ih f (i + 1) (gh_mk a 109 n i w 1) μ1 hM1 (gh_iv0 hI (Or.inl rfl) (by omega) hn (by omega) ⟨Nat.le_refl _, by omega⟩) hn (show i + 1 + d = a.w * a.h by omega) (by omega) (by show a.np + 1 + a.ow + _ ≤ 200; omega)
      exact ⟨μ2, g1, g2, fun k' h => (g3 k' h).trans (hf1 k' h), g4.trans ht1⟩
theorem t_1 {T : Nat} {a : me_S} {μ : me_M} {o : Int64 × UInt64} {s1 s2 s3 s4 s5 : Int32} (hR : me_R T a μ) : ∃ μ' o' a', f_case_1 μ o s1 s2 s3 s4 s5 = some (μ', o') ∧ me_R T a' μ' := by
  obtain ⟨hC, hM, hI, hbt, hT, hwk⟩ := id hR
  have hwh := hI.wh
  have hnp := hI.n200
  have hD : me_Dd a a μ := ⟨hC, hM, hwk⟩
  by_cases hb : me_isB s1 (a.w * a.h)
  · obtain ⟨n, hn, rfl⟩ := hb
    have g1 : ∀ α (k : Option α), me_gd (me_inb (me_N n) 16) k = k := fun α k => me_gd_n (by omega) (by omega)
    have g2 : me_ix (me_N n) = n := me_N_ix (by omega)
    have h16 : n < 16 := by omega
    have e1 := y_node_o hC hI hn
    have e2 : ∀ μ', me_RM a μ' → f_M_isNoNode μ' (me_N n) = some 0 := fun μ' h => m_node_o h hI hn
    have hM2 := (hR.th 0).2.1
    rcases gh_goals (v := s2) hwh.2 hwh.1 with ⟨k, hk1, hk2, rfl, v1, v2, v3, v4⟩ | ⟨v12, v34⟩
    · have hk : k < 65536 := Nat.lt_of_lt_of_le hk2 (Nat.pow_le_pow_right (by omega) hwh.1)
      have e3 : ∀ μ', f_Int_bitCount μ' (me_N k) = some (me_N (gh_bits k 16)) := fun μ' => gh_count hk
      have hbl : gh_bits k 16 ≤ 16 := by
        rw [gh_bits_sm]
        exact me_sm_l1 (fun g => by omega) 16 0
      rcases y_room hC hI (m := gh_bits k 16) (by omega) with ⟨hr, e6⟩ | ⟨hr, e6⟩
      · have hr2 : a.np + a.ow + me_sm (fun g => k / 2 ^ g % 2) 0 (a.w * a.h) ≤ 200 := by
          have h5 := me_sm_cat (g := fun g => k / 2 ^ g % 2) (16 - a.w * a.h) (a.w * a.h) 0
          rw [show a.w * a.h + (16 - a.w * a.h) = 16 by omega, ← gh_bits_sm k 16] at h5
          omega
        obtain ⟨μ1, e7, hC1, hf1⟩ := y_mcast (r := me_N (gh_bits k 16)) (w := s3) hk (a.w * a.h) me_FU 0 a μ hC hI hn (Nat.zero_add _) (show _ < 1000 by omega) hr2
        have D1 := hD.cM hC1 hf1
        have D4 := ((D1.th 0).th 0).th 0
        obtain ⟨μ2, e8, hM2, hf2, ht2⟩ := m_mcast (w := s3) hk (a.w * a.h) me_FU 0 a _ D4.2.1 hI hn (Nat.zero_add _) (show _ < 1000 by omega) hr2
        have D5 := D4.mM hM2 hf2
        obtain ⟨hI2, hb2⟩ := gh_mcg_iv (w := s3) (a.w * a.h) 0 a hI hn (Nat.zero_add _) hr2
        have ht3 : μ2 36 0 42 = 0 := ht2.trans me_up_at
        have e9 := m_room ((D1.th 0).th 0).2.1 hI
        have e10 : me_N (gh_bits k 16) ≤ me_N (200 - (a.np + a.ow)) := by rw [me_N_le (by omega) (by omega)]; omega
        have e7 : f_Y_multicast_h46 me_FU μ (me_N n) (me_N k) s3 (me_N (gh_bits k 16)) 0 = _ := e7
        have e8 : f_M_multicast_h70 me_FU _ (me_N n) (me_N k) s3 0 = _ := e8
        refine ⟨_, (Int32.toInt64 (me_N (gh_bits k 16)), o.2), _, ?_, D5.R rfl hI2 (by rw [hb2]; exact hbt) hT⟩
        have q1 := D1.2.1.w
        have q2 := D1.2.1.h
        simp [f_case_1, f_L_multicast, f_Y_multicast, f_M_multicast, f_M_multicast_b34, f_M_multicast_b58, f_M_nodes, me_N_mul, me_bd_s, me_b2_s, me_lt_s, me_oq_n, me_oq_s, me_xb_o, me_xb_e, me_xb2_o, me_xb2_e, me_xm_o, me_xm_e, f_M_thrown, m_th0, m_th1, me_cmp_self, me_up_at, if_true, if_false, me_nr_z, me_nr_o, me_gd_t, me_up_kn, me_up_jn, e1, e2 _ D1.2.1, e3, v1, v2, v3, v4, hC.nn, e6, e7, q1, q2, e9, e10, e8, ht3]
      · have e9 := m_room ((hR.th 0).th 0).2.1 hI
        have h2 := hI.2.1.ile
        have e10 : ¬ me_N (gh_bits k 16) ≤ me_N (200 - (a.np + a.ow)) := by rw [me_N_le (by omega) (by omega)]; omega
        refine ⟨_, o, a, ?_, ((hR.th 0).th 0).th 3⟩
        simp [f_case_1, f_L_multicast, f_Y_multicast, f_M_multicast, f_M_multicast_b34, f_M_multicast_b58, f_M_nodes, me_N_mul, me_bd_s, me_b2_s, me_lt_s, me_oq_n, me_oq_s, me_xb_o, me_xb_e, me_xb2_o, me_xb2_e, me_xm_o, me_xm_e, f_M_thrown, m_th0, m_th1, me_cmp_self, me_up_at, if_true, if_false, me_nr_z, me_nr_o, me_gd_t, me_up_kn, me_up_jn, e1, e2 _ hM, e3, v1, v2, v3, v4, hC.nn, hM.w, hM.h, e6, e9, e10]
    · refine ⟨_, o, a, ?_, (hR.th 0).th 2⟩
      have m1 : f_M_multicast μ (me_N n) s2 s3 = some (me_up (me_up μ 36 0 42 0) 36 0 42 2, 0) := by
        rcases v34 with v3 | ⟨v3, v4⟩ <;> simp [f_M_multicast, f_M_multicast_b29, f_M_multicast_b34, f_M_nodes, me_N_mul, me_bd_s, me_b2_s, me_lt_s, me_oq_n, me_oq_s, me_xb_o, me_xb_e, me_xb2_o, me_xb2_e, me_xm_o, me_xm_e, f_M_thrown, m_th0, m_th1, me_cmp_self, me_up_at, if_true, if_false, me_nr_z, me_nr_o, me_gd_t, me_up_kn, me_up_jn, e2 _ hM, v3, *, hM.w, hM.h]
      have y1 : f_Y_multicast μ (me_N n) s2 s3 = some (μ, .error 2) := by
        rcases v12 with v1 | v2
        · simp [f_Y_multicast, f_Y_multicast_b21, me_bd_s, me_b2_s, me_lt_s, me_oq_n, me_oq_s, me_xb_o, me_xb_e, me_xb2_o, me_xb2_e, me_xm_o, me_xm_e, f_M_thrown, m_th0, m_th1, me_cmp_self, me_up_at, if_true, if_false, me_nr_z, me_nr_o, me_gd_t, me_up_kn, me_up_jn, e1, v1]
        · by_cases v1 : s2 = 0
          · simp [f_Y_multicast, f_Y_multicast_b21, me_bd_s, me_b2_s, me_lt_s, me_oq_n, me_oq_s, me_xb_o, me_xb_e, me_xb2_o, me_xb2_e, me_xm_o, me_xm_e, f_M_thrown, m_th0, m_th1, me_cmp_self, me_up_at, if_true, if_false, me_nr_z, me_nr_o, me_gd_t, me_up_kn, me_up_jn, e1, v1]
          · simp [f_Y_multicast, f_Y_multicast_b21, me_bd_s, me_b2_s, me_lt_s, me_oq_n, me_oq_s, me_xb_o, me_xb_e, me_xb2_o, me_xb2_e, me_xm_o, me_xm_e, f_M_thrown, m_th0, m_th1, me_cmp_self, me_up_at, if_true, if_false, me_nr_z, me_nr_o, me_gd_t, me_up_kn, me_up_jn, e1, v1, v2, hC.nn]
      simp [f_case_1, f_L_multicast, y1, m1, me_bd_s, me_b2_s, me_lt_s, me_oq_n, me_oq_s, me_xb_o, me_xb_e, me_xb2_o, me_xb2_e, me_xm_o, me_xm_e, f_M_thrown, m_th0, m_th1, me_cmp_self, me_up_at, if_true, if_false, me_nr_z, me_nr_o, me_gd_t, me_up_kn, me_up_jn]
  · have e1 := y_node_n hC hI hb
    have e2 := m_node_n hM hI hb
    refine ⟨_, o, a, ?_, hR.th 1⟩
    simp [f_case_1, f_L_multicast, f_Y_multicast, f_M_multicast, me_bd_s, me_b2_s, me_lt_s, me_oq_n, me_oq_s, me_xb_o, me_xb_e, me_xb2_o, me_xb2_e, me_xm_o, me_xm_e, f_M_thrown, m_th0, m_th1, me_cmp_self, me_up_at, if_true, if_false, me_nr_z, me_nr_o, me_gd_t, me_up_kn, me_up_jn, e1, e2]
