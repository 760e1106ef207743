/-! what net and the constructor set anew: cores, routers, traffic -/
def gh_cr1 (μ μ' : me_M) (n i : Nat) : Prop := ∀ k i' j, μ' k i' j = if k = 23 ∧ i' = n ∧ i ≤ j ∧ j < 8 then 0 else if k = 22 ∧ i' = n ∧ 4 ≤ j ∧ j ≤ 6 then 0 else if k = 22 ∧ i' = n ∧ 7 ≤ j ∧ j ≤ 8 then 45 else μ k i' j
theorem y_cr1 {n : Nat} : ∀ (d f i : Nat) (μ : me_M), i + d = 8 → d < f → ∃ μ', f_Core_reset_h2 f μ n (me_N i) = some (μ', ()) ∧ gh_cr1 μ μ' n i := by
  intro d
  induction d with
  | zero =>
    intro f i μ h1 h2
    obtain ⟨f, rfl⟩ : ∃ g, f = g + 1 := ⟨f - 1, by omega⟩
    refine ⟨me_up (me_up (me_up (me_up (me_up μ 22 n 4 0) 22 n 5 0) 22 n 6 0) 22 n 7 45) 22 n 8 45, ?_, ?_⟩
    · show f_Core_reset_b2 _ _ _ _ = _
      unfold f_Core_reset_b2
      rw [if_pos (by rw [me_N_8, me_N_le (by omega) (by omega)]; omega)]
      simp only [me_lt_s]
    · intro k i' j
      have n0 : ¬ (k = 23 ∧ i' = n ∧ i ≤ j ∧ j < 8) := fun q => by omega
      simp only [me_up_ap]
      rw [if_neg n0]
      by_cases e : k = 22 ∧ i' = n
      · obtain ⟨rfl, rfl⟩ := e
        by_cases h8 : j = 8
        · subst h8; simp
        by_cases h7 : j = 7
        · subst h7; simp
        by_cases h6 : j = 6
        · subst h6; simp
        by_cases h5 : j = 5
        · subst h5; simp
        by_cases h4 : j = 4
        · subst h4; simp
        · have n1 : ¬ (4 ≤ j ∧ j ≤ 6) := by omega
          have n2 : ¬ (7 ≤ j ∧ j ≤ 8) := by omega
          simp only [h4, h5, h6, h7, h8, n1, n2, and_false, if_false]
      · have n1 : ∀ P : Prop, ¬ (k = 22 ∧ i' = n ∧ P) := fun _ q => e ⟨q.1, q.2.1⟩
        simp only [n1, if_false]
  | succ d ih =>
    intro f i μ h1 h2
    obtain ⟨f, rfl⟩ : ∃ g, f = g + 1 := ⟨f - 1, by omega⟩
    obtain ⟨μ', g1, g2⟩ := ih f (i + 1) (me_up μ 23 n i 0) (by omega) (by omega)
    refine ⟨μ', ?_, fun k i' j => ?_⟩
    · show f_Core_reset_b2 _ _ _ _ = _
      unfold f_Core_reset_b2
      rw [if_neg (by rw [me_N_8, me_N_le (by omega) (by omega)]; omega), me_gd_n (by omega) (by omega), me_N_ix (by omega), me_lt_s, me_N_inc, me_lt_s]
      exact g1
    · rw [g2, me_up_ap]
      by_cases e : k = 23 ∧ i' = n ∧ i ≤ j ∧ j < 8
      · rw [if_pos e]
        by_cases e2 : k = 23 ∧ i' = n ∧ i + 1 ≤ j ∧ j < 8
        · rw [if_pos e2]
        · rw [if_neg e2, if_neg (fun q => by omega), if_neg (fun q => by omega), if_pos ⟨e.1, e.2.1, by omega⟩]
      · rw [if_neg e, if_neg (fun q => e ⟨q.1, q.2.1, by omega, q.2.2.2⟩)]
        by_cases e3 : k = 22 ∧ i' = n ∧ 4 ≤ j ∧ j ≤ 6
        · rw [if_pos e3, if_pos e3]
        · rw [if_neg e3, if_neg e3]
          by_cases e4 : k = 22 ∧ i' = n ∧ 7 ≤ j ∧ j ≤ 8
          · rw [if_pos e4, if_pos e4]
          · rw [if_neg e4, if_neg e4, if_neg (fun q => e ⟨q.1, q.2.1, by omega, by omega⟩)]
def gh_rt1 (μ μ' : me_M) (n i : Nat) : Prop := ∀ k i' j, μ' k i' j = if k = 17 ∧ 10 * n + i ≤ i' ∧ i' < 10 * n + 10 ∧ (j = 3 ∨ j = 7) then 0 else if k = 17 ∧ 10 * n + i ≤ i' ∧ i' < 10 * n + 10 ∧ (j = 5 ∨ j = 6) then -1 else if k = 15 ∧ i' = n ∧ i ≤ j ∧ j < 10 then 0 else if k = 16 ∧ i' = n ∧ j < 2 then 0 else if k = 13 ∧ i' = n ∧ j = 3 then 1 else if k = 13 ∧ i' = n ∧ j = 4 then 0 else μ k i' j
theorem y_rt1 {n : Nat} : ∀ (d f i : Nat) (μ : me_M), i + d = 10 → d < f → ∃ μ', f_Router_reset_h2 f μ n (me_N i) = some (μ', ()) ∧ gh_rt1 μ μ' n i := by
  intro d
  induction d with
  | zero =>
    intro f i μ h1 h2
    obtain ⟨f, rfl⟩ : ∃ g, f = g + 1 := ⟨f - 1, by omega⟩
    refine ⟨me_up (me_up (me_up (me_up μ 16 n 0 0) 16 n 1 0) 13 n 3 1) 13 n 4 0, ?_, ?_⟩
    · show f_Router_reset_b2 _ _ _ _ = _
      unfold f_Router_reset_b2
      rw [if_pos (by rw [me_N_10, me_N_le (by omega) (by omega)]; omega)]
      simp only [me_lt_s]
    · intro k i' j
      simp only [me_up_ap]
      have n5 : ∀ P : Prop, ¬ (k = 17 ∧ 10 * n + i ≤ i' ∧ i' < 10 * n + 10 ∧ P) := fun _ q => by omega
      simp only [n5, if_false]
      by_cases e : k = 13 ∧ i' = n
      · obtain ⟨rfl, rfl⟩ := e
        by_cases h3 : j = 3
        · subst h3; simp
        by_cases h4 : j = 4
        · subst h4; simp
        · simp [h3, h4]
      · by_cases e2 : k = 16 ∧ i' = n
        · obtain ⟨rfl, rfl⟩ := e2
          by_cases h3 : j = 0
          · subst h3; simp
          by_cases h4 : j = 1
          · subst h4; simp
          · have : ¬ j < 2 := by omega
            simp [h3, h4, this]
        · have n1 : ¬ (k = 15 ∧ i' = n ∧ i ≤ j ∧ j < 10) := by omega
          have n2 : ¬ (k = 16 ∧ i' = n ∧ j < 2) := fun q => e2 ⟨q.1, q.2.1⟩
          have n3 : ∀ m, ¬ (k = 13 ∧ i' = n ∧ j = m) := fun m q => e ⟨q.1, q.2.1⟩
          have n4 : ∀ m, ¬ (k = 16 ∧ i' = n ∧ j = m) := fun m q => e2 ⟨q.1, q.2.1⟩
          simp only [n1, n2, n3, n4, if_false]
  | succ d ih =>
    intro f i μ h1 h2
    obtain ⟨f, rfl⟩ : ∃ g, f = g + 1 := ⟨f - 1, by omega⟩
    obtain ⟨μ', g1, g2⟩ := ih f (i + 1) (me_up (me_up (me_up (me_up (me_up μ 17 (10 * n + i) 3 0) 17 (10 * n + i) 5 (-1)) 17 (10 * n + i) 6 (-1)) 17 (10 * n + i) 7 0) 15 n i 0) (by omega) (by omega)
    refine ⟨μ', ?_, fun k i' j => ?_⟩
    · show f_Router_reset_b2 _ _ _ _ = _
      unfold f_Router_reset_b2 f_Row_reset
      rw [if_neg (by rw [me_N_10, me_N_le (by omega) (by omega)]; omega), me_gd_n (by omega) (by omega), me_N_ix (by omega)]
      simp only [me_lt_s, me_b2_s, me_gd_n (show i < 2147483648 by omega) (show i < 10 by omega), me_N_inc]
      exact g1
    · rw [g2]
      simp only [me_up_ap]
      by_cases e : k = 17
      · subst e
        have m1 : ∀ a b c : Prop, ¬ (17 = 15 ∧ a) := fun _ _ _ q => absurd q.1 (by decide)
        by_cases hi : i' = 10 * n + i
        · subst hi
          by_cases h3 : j = 3
          · subst h3; simp; omega
          by_cases h5 : j = 5
          · subst h5; simp; omega
          by_cases h6 : j = 6
          · subst h6; simp; omega
          by_cases h7 : j = 7
          · subst h7; simp; omega
          · simp [h3, h5, h6, h7]
        · have q1 : (10 * n + (i + 1) ≤ i') = (10 * n + i ≤ i') := propext ⟨fun _ => by omega, fun _ => by omega⟩
          simp [hi, q1]
      · by_cases e15 : k = 15 ∧ i' = n
        · obtain ⟨rfl, rfl⟩ := e15
          by_cases h3 : j = i
          · subst h3
            have : j < 10 := by omega
            simp [this]
          · have q1 : (i + 1 ≤ j) = (i ≤ j) := propext ⟨fun _ => by omega, fun _ => by omega⟩
            simp [h3, q1]
        · have n1 : ∀ P : Prop, ¬ (k = 17 ∧ P) := fun _ q => e q.1
          have n2 : ∀ P : Prop, ¬ (k = 15 ∧ i' = n ∧ P) := fun _ q => e15 ⟨q.1, q.2.1⟩
          simp only [n1, n2, if_false]
def gh_tr1 (μ μ' : me_M) (i : Nat) : Prop := ∀ k i' j, μ' k i' j = if k = 11 ∧ i' = 0 ∧ i ≤ j ∧ j < 64 then 0 else μ k i' j
theorem y_tr1 : ∀ (d f i : Nat) (μ : me_M), i + d = 64 → d < f → ∃ μ', f_Placing_reset_h7 f μ (me_N i) = some (μ', ()) ∧ gh_tr1 μ μ' i := by
  intro d
  induction d with
  | zero =>
    intro f i μ h1 h2
    obtain ⟨f, rfl⟩ : ∃ g, f = g + 1 := ⟨f - 1, by omega⟩
    refine ⟨μ, ?_, fun k i' j => ?_⟩
    · show f_Placing_reset_b7 _ _ _ = _
      unfold f_Placing_reset_b7
      rw [if_pos (by rw [me_N_64, me_N_le (by omega) (by omega)]; omega)]
    · rw [if_neg (fun q => by omega)]
  | succ d ih =>
    intro f i μ h1 h2
    obtain ⟨f, rfl⟩ : ∃ g, f = g + 1 := ⟨f - 1, by omega⟩
    obtain ⟨μ', g1, g2⟩ := ih f (i + 1) (me_up μ 11 0 i 0) (by omega) (by omega)
    refine ⟨μ', ?_, fun k i' j => ?_⟩
    · show f_Placing_reset_b7 _ _ _ = _
      unfold f_Placing_reset_b7
      rw [if_neg (by rw [me_N_64, me_N_le (by omega) (by omega)]; omega), me_gd_n (by omega) (by omega), me_N_ix (by omega), me_lt_s, me_N_inc, me_lt_s]
      exact g1
    · rw [g2, me_up_ap]
      by_cases e : k = 11 ∧ i' = 0 ∧ i ≤ j ∧ j < 64
      · rw [if_pos e]
        by_cases e2 : k = 11 ∧ i' = 0 ∧ i + 1 ≤ j ∧ j < 64
        · rw [if_pos e2]
        · rw [if_neg e2, if_pos ⟨e.1, e.2.1, by omega⟩]
      · rw [if_neg e, if_neg (fun q => e ⟨q.1, q.2.1, by omega, q.2.2.2⟩), if_neg (fun q => e ⟨q.1, q.2.1, by omega, by omega⟩)]
