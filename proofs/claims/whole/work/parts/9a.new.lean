/-! all is set anew -/
def gh_fz (μ μ' : me_M) (i : Nat) : Prop := ∀ k i' j, μ' k i' j = if k = 3 ∧ i' = 0 ∧ i ≤ j ∧ j < 64 then 0 else μ k i' j
theorem y_fz1 : ∀ (d f i : Nat) (μ : me_M), i + d = 64 → d < f → ∃ μ', f_Net_lay_h161 f μ (me_N i) = some (μ', ()) ∧ gh_fz μ μ' i := by
  intro d
  induction d with
  | zero =>
    intro f i μ h1 h2
    obtain ⟨f, rfl⟩ : ∃ g, f = g + 1 := ⟨f - 1, by omega⟩
    refine ⟨μ, ?_, fun k i' j => ?_⟩
    · show f_Net_lay_b161 _ _ _ = _
      unfold f_Net_lay_b161
      rw [if_pos (by rw [me_N_64, me_N_le (by omega) (by omega)]; omega)]
    · rw [if_neg (fun q => by omega)]
  | succ d ih =>
    intro f i μ h1 h2
    obtain ⟨f, rfl⟩ : ∃ g, f = g + 1 := ⟨f - 1, by omega⟩
    obtain ⟨μ', g1, g2⟩ := ih f (i + 1) (me_up μ 3 0 i 0) (by omega) (by omega)
    refine ⟨μ', ?_, fun k i' j => ?_⟩
    · show f_Net_lay_b161 _ _ _ = _
      unfold f_Net_lay_b161
      rw [if_neg (by rw [me_N_64, me_N_le (by omega) (by omega)]; omega), me_gd_n (by omega) (by omega), me_N_ix (by omega), me_lt_s, me_N_inc, me_lt_s, me_nar_b0]
      exact g1
    · rw [g2, me_up_ap]
      by_cases e : k = 3 ∧ i' = 0 ∧ i ≤ j ∧ j < 64
      · rw [if_pos e]
        by_cases e2 : k = 3 ∧ i' = 0 ∧ i + 1 ≤ j ∧ j < 64
        · rw [if_pos e2]
        · rw [if_neg e2, if_pos ⟨e.1, e.2.1, by omega⟩]
      · rw [if_neg e, if_neg (fun q => e ⟨q.1, q.2.1, by omega, q.2.2.2⟩), if_neg (fun q => e ⟨q.1, q.2.1, by omega, by omega⟩)]
theorem y_lay2 {w h : Nat} (hw : 1 ≤ w ∧ w ≤ 4) (hh : h ≤ 4) : ∀ (d f y : Nat) (μ : me_M), y + d = h → d < f → (∀ m, m < y * w → gh_lf w h μ m) → ∃ μ', f_Net_lay_h12 f μ (me_N w) (me_N h) (me_N (y * w)) (me_N y) = some (μ', ()) ∧ (∀ m, m < h * w → gh_lf w h μ' m) ∧ (∀ j, j < 64 → μ' 3 0 j = 0) ∧ ∀ k, ¬ k = 2 → ¬ k = 3 → ¬ k = 4 → ¬ k = 5 → μ' k = μ k := by
  intro d
  induction d with
  | zero =>
    intro f y μ h1 h2 h3
    obtain ⟨f, rfl⟩ : ∃ g, f = g + 1 := ⟨f - 1, by omega⟩
    have : y = h := by omega
    subst this
    obtain ⟨μ', g1, g2⟩ := y_fz1 64 me_FU 0 μ rfl (by decide)
    refine ⟨μ', ?_, fun m hm => ?_, fun j hj => ?_, fun k _ k3 _ _ => ?_⟩
    · show f_Net_lay_b12 _ _ _ _ _ _ = _
      unfold f_Net_lay_b12
      rw [if_pos (by rw [me_N_le (by omega) (by omega)]; omega), me_N_0]
      exact g1
    · obtain ⟨q1, q2, q3⟩ := h3 m hm
      refine ⟨?_, ?_, fun k hk => ?_⟩
      · rw [g2, if_neg (fun q => absurd q.1 (by decide))]; exact q1
      · rw [g2, if_neg (fun q => absurd q.1 (by decide))]; exact q2
      · rw [g2, if_neg (fun q => absurd q.1 (by decide))]; exact q3 k hk
    · rw [g2, if_pos ⟨rfl, rfl, Nat.zero_le _, hj⟩]
    · funext i' j
      rw [g2, if_neg (fun q => k3 q.1)]
  | succ d ih =>
    intro f y μ h1 h2 h3
    obtain ⟨f, rfl⟩ : ∃ g, f = g + 1 := ⟨f - 1, by omega⟩
    obtain ⟨μ1, k1, k2, k3⟩ := y_lay1 (K12 := f_Net_lay_h12 f) hw hh (show y < h by omega) w me_FU 0 μ (Nat.zero_add _) (show w < 1000 by omega) h3
    rw [Nat.add_zero] at k1
    have e : y * w + w = (y + 1) * w := by rw [Nat.add_mul, Nat.one_mul]
    rw [e] at k1 k2
    obtain ⟨μ', g1, g2, g3, g4⟩ := ih f (y + 1) μ1 (by omega) (by omega) k2
    refine ⟨μ', ?_, g2, g3, fun k a2 a3 a4 a5 => (g4 k a2 a3 a4 a5).trans (k3 k a2 a4 a5)⟩
    show f_Net_lay_b12 _ _ _ _ _ _ = _
    unfold f_Net_lay_b12
    rw [if_neg (by rw [me_N_le (by omega) (by omega)]; omega), show (0 : Int32) = me_N 0 from rfl, k1]
    exact g1
theorem y_lay {w h : Nat} (hw : 1 ≤ w ∧ w ≤ 4) (hh : h ≤ 4) (μ : me_M) : ∃ μ', f_Net_lay μ (me_N w) (me_N h) = some (μ', ()) ∧ μ' 1 0 4 = me_N (w * h) ∧ (∀ m, m < w * h → gh_lf w h μ' m) ∧ (∀ j, j < 64 → μ' 3 0 j = 0) ∧ ∀ k, ¬ k = 1 → ¬ k = 2 → ¬ k = 3 → ¬ k = 4 → ¬ k = 5 → μ' k = μ k := by
  obtain ⟨μ', g1, g2, g3, g4⟩ := y_lay2 hw hh h me_FU 0 (me_up μ 1 0 4 (me_N (w * h))) (Nat.zero_add _) (show h < 1000 by omega) (fun m hm => by omega)
  refine ⟨μ', ?_, ?_, by rw [Nat.mul_comm]; exact g2, g3, fun k a1 a2 a3 a4 a5 => (g4 k a2 a3 a4 a5).trans ?_⟩
  · unfold f_Net_lay
    rw [me_lt_s, me_N_mul]
    rw [Nat.zero_mul] at g1
    exact g1
  · rw [g4 1 (by decide) (by decide) (by decide) (by decide), me_up_at]
  · funext i j
    exact me_up_kn a1
/-- nodes from lo on are set anew -/
def gh_nd (μ' : me_M) (n : Nat) : Prop := (μ' 22 n 4 = 0 ∧ μ' 22 n 5 = 0 ∧ μ' 22 n 6 = 0 ∧ μ' 22 n 7 = 45 ∧ μ' 22 n 8 = 45) ∧ (∀ j, j < 8 → μ' 23 n j = 0) ∧ (μ' 13 n 3 = 1 ∧ μ' 13 n 4 = 0 ∧ μ' 16 n 0 = 0 ∧ μ' 16 n 1 = 0) ∧ ∀ j, j < 10 → μ' 15 n j = 0 ∧ μ' 17 (10 * n + j) 3 = 0 ∧ μ' 17 (10 * n + j) 5 = -1 ∧ μ' 17 (10 * n + j) 6 = -1 ∧ μ' 17 (10 * n + j) 7 = 0
def gh_kk (k : Nat) : Prop := ¬ k = 13 ∧ ¬ k = 15 ∧ ¬ k = 16 ∧ ¬ k = 17 ∧ ¬ k = 22 ∧ ¬ k = 23
theorem y_node1 {n : Nat} (μ : me_M) : ∃ μ1 μ2, f_Router_reset μ n = some (μ1, ()) ∧ f_Core_reset μ1 n = some (μ2, ()) ∧ gh_nd μ2 n ∧ (∀ m, ¬ m = n → gh_nd μ m → gh_nd μ2 m) ∧ (∀ k, gh_kk k → μ2 k = μ k) ∧ ∀ r, μ2 17 r 4 = μ 17 r 4 := by
  obtain ⟨μ1, g1, g2⟩ := y_rt1 (n := n) 10 me_FU 0 μ rfl (by decide)
  obtain ⟨μ2, g3, g4⟩ := y_cr1 (n := n) 8 me_FU 0 μ1 rfl (by decide)
  have h13 : ∀ k i j, ¬ k = 22 → ¬ k = 23 → μ2 k i j = μ1 k i j := fun k i j a b => by
    rw [g4, if_neg (fun q => b q.1), if_neg (fun q => a q.1), if_neg (fun q => a q.1)]
  refine ⟨μ1, μ2, g1, g3, ?_, fun m hm hd => ?_, fun k hk => ?_, fun r => ?_⟩
  · refine ⟨⟨?_, ?_, ?_, ?_, ?_⟩, fun j hj => ?_, ⟨?_, ?_, ?_, ?_⟩, fun j hj => ⟨?_, ?_, ?_, ?_, ?_⟩⟩
    · rw [g4]; simp
    · rw [g4]; simp
    · rw [g4]; simp
    · rw [g4]; simp
    · rw [g4]; simp
    · rw [g4, if_pos ⟨rfl, rfl, Nat.zero_le _, hj⟩]
    · rw [h13 _ _ _ (by decide) (by decide), g2]; simp
    · rw [h13 _ _ _ (by decide) (by decide), g2]; simp
    · rw [h13 _ _ _ (by decide) (by decide), g2]; simp
    · rw [h13 _ _ _ (by decide) (by decide), g2]; simp
    · rw [h13 _ _ _ (by decide) (by decide), g2]; simp [hj]
    · rw [h13 _ _ _ (by decide) (by decide), g2, if_pos ⟨rfl, by omega, by omega, Or.inl rfl⟩]
    · rw [h13 _ _ _ (by decide) (by decide), g2, if_neg (fun q => by omega), if_pos ⟨rfl, by omega, by omega, Or.inl rfl⟩]
    · rw [h13 _ _ _ (by decide) (by decide), g2, if_neg (fun q => by omega), if_pos ⟨rfl, by omega, by omega, Or.inr rfl⟩]
    · rw [h13 _ _ _ (by decide) (by decide), g2, if_pos ⟨rfl, by omega, by omega, Or.inr rfl⟩]
  · have k1 : ∀ k j, ¬ k = 17 → μ1 k m j = μ k m j := fun k j a => by
      rw [g2, if_neg (fun q => a q.1), if_neg (fun q => a q.1), if_neg (fun q => hm q.2.1), if_neg (fun q => hm q.2.1), if_neg (fun q => hm q.2.1), if_neg (fun q => hm q.2.1)]
    have k2 : ∀ k j, ¬ k = 17 → μ2 k m j = μ k m j := fun k j a => by
      rw [g4, if_neg (fun q => hm q.2.1), if_neg (fun q => hm q.2.1), if_neg (fun q => hm q.2.1), k1 k j a]
    have k3 : ∀ j s, j < 10 → μ2 17 (10 * m + j) s = μ 17 (10 * m + j) s := fun j s hj => by
      rw [h13 _ _ _ (by decide) (by decide), g2, if_neg (fun q => by omega), if_neg (fun q => by omega), if_neg (fun q => absurd q.1 (by decide)), if_neg (fun q => absurd q.1 (by decide)), if_neg (fun q => absurd q.1 (by decide)), if_neg (fun q => absurd q.1 (by decide))]
    obtain ⟨a1, a2, a3, a4⟩ := hd
    unfold gh_nd
    simp only [k2 22 _ (by decide), k2 23 _ (by decide), k2 13 _ (by decide), k2 16 _ (by decide), k2 15 _ (by decide)]
    exact ⟨a1, a2, a3, fun j hj => by rw [k3 j 3 hj, k3 j 5 hj, k3 j 6 hj, k3 j 7 hj]; exact a4 j hj⟩
  · obtain ⟨b1, b2, b3, b4, b5, b6⟩ := hk
    funext i j
    rw [h13 k i j b5 b6, g2, if_neg (fun q => b4 q.1), if_neg (fun q => b4 q.1), if_neg (fun q => b2 q.1), if_neg (fun q => b3 q.1), if_neg (fun q => b1 q.1), if_neg (fun q => b1 q.1)]
  · rw [h13 _ _ _ (by decide) (by decide), g2, if_neg (fun q => by omega), if_neg (fun q => by omega), if_neg (fun q => absurd q.1 (by decide)), if_neg (fun q => absurd q.1 (by decide)), if_neg (fun q => absurd q.1 (by decide)), if_neg (fun q => absurd q.1 (by decide))]
theorem y_nodes1 : ∀ (d f n : Nat) (μ : me_M), n + d = 16 → d < f → (∀ m, m < n → gh_nd μ m) → ∃ μ1, f_Y_makeAnew_h41 f μ (me_N n) = me_b2 (f_Y_setAllPlaces μ1 2) (fun μ3 r2 => some (μ3, ())) ∧ (∀ m, m < 16 → gh_nd μ1 m) ∧ (∀ k, gh_kk k → μ1 k = μ k) ∧ ∀ r, μ1 17 r 4 = μ 17 r 4 := by
  intro d
  induction d with
  | zero =>
    intro f n μ h1 h2 h3
    obtain ⟨f, rfl⟩ : ∃ g, f = g + 1 := ⟨f - 1, by omega⟩
    refine ⟨μ, ?_, fun m hm => h3 m (by omega), fun _ _ => rfl, fun _ => rfl⟩
    show f_Y_makeAnew_b41 _ _ _ = _
    unfold f_Y_makeAnew_b41
    rw [if_pos (by rw [me_N_16, me_N_le (by omega) (by omega)]; omega)]
  | succ d ih =>
    intro f n μ h1 h2 h3
    obtain ⟨f, rfl⟩ : ∃ g, f = g + 1 := ⟨f - 1, by omega⟩
    obtain ⟨μ1, μ2, k1, k2, k3, k4, k5, k6⟩ := y_node1 (n := n) μ
    obtain ⟨μ', g1, g2, g3, g4⟩ := ih f (n + 1) μ2 (by omega) (by omega) (fun m hm => by
      by_cases e : m = n
      · rw [e]; exact k3
      · exact k4 m e (h3 m (by omega)))
    refine ⟨μ', ?_, g2, fun k hk => (g3 k hk).trans (k5 k hk), fun r => (g4 r).trans (k6 r)⟩
    rw [← g1]
    show f_Y_makeAnew_b41 _ _ _ = _
    unfold f_Y_makeAnew_b41
    rw [if_neg (by rw [me_N_16, me_N_le (by omega) (by omega)]; omega), me_gd_n (by omega) (by omega), me_N_ix (by omega), k1, me_b2_s, me_gd_n (by omega) (by omega), k2, me_b2_s, me_lt_s, me_N_inc]
