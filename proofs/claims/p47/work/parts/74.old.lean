/-! FROM THE ROWS OF whole that speak of the class alone (taken out by gen/extract.py) -/
theorem y_lay1 {w h y : Nat} {K12 : me_M → Int32 → Int32 → Int32 → Int32 → Option (me_M × Unit)} (hw : 1 ≤ w ∧ w ≤ 4) (hh : h ≤ 4) (hy : y < h) : ∀ (d f x : Nat) (μ : me_M), x + d = w → d < f → (∀ m, m < y * w + x → gh_lf w h μ m) → ∃ μ', f_Net_lay_h21 K12 f μ (me_N w) (me_N h) (me_N (y * w + x)) (me_N y) (me_N x) = K12 μ' (me_N w) (me_N h) (me_N (y * w + w)) (me_N (y + 1)) ∧ (∀ m, m < y * w + w → gh_lf w h μ' m) ∧ ∀ k, ¬ k = 2 → ¬ k = 4 → ¬ k = 5 → μ' k = μ k := by
  have hyw : y * w + w ≤ 16 := by
    have h1 : (y + 1) * w ≤ 4 * 4 := Nat.mul_le_mul (by omega) hw.2
    rw [Nat.add_mul] at h1
    omega
  intro d
  induction d with
  | zero =>
    intro f x μ h1 h2 h3
    obtain ⟨f, rfl⟩ : ∃ g, f = g + 1 := ⟨f - 1, by omega⟩
    have : x = w := by omega
    subst this
    refine ⟨μ, ?_, h3, fun _ _ _ _ => rfl⟩
    show f_Net_lay_b21 _ _ _ _ _ _ _ _ = _
    unfold f_Net_lay_b21
    rw [if_pos (by rw [me_N_le (by omega) (by omega)]; omega), me_lt_s, me_N_inc]
  | succ d ih =>
    intro f x μ h1 h2 h3
    obtain ⟨f, rfl⟩ : ∃ g, f = g + 1 := ⟨f - 1, by omega⟩
    have hx : x < w := by omega
    have hm1 : (y * w + x) % w = x := by rw [Nat.add_comm, Nat.add_mul_mod_self_right, Nat.mod_eq_of_lt hx]
    have hm2 : (y * w + x) / w = y := by rw [Nat.add_comm, Nat.add_mul_div_right _ _ (by omega), Nat.div_eq_of_lt hx, Nat.zero_add]
    have c0 : (me_N w ≤ me_N x + 1) ↔ w ≤ x + 1 := by rw [me_N_1, me_N_add, me_N_le (by omega) (by omega)]
    have c1 : (me_N x ≤ 0) ↔ x ≤ 0 := by rw [me_N_0, me_N_le (by omega) (by omega)]
    have c2 : (me_N h ≤ me_N y + 1) ↔ h ≤ y + 1 := by rw [me_N_1, me_N_add, me_N_le (by omega) (by omega)]
    have c3 : (me_N y ≤ 0) ↔ y ≤ 0 := by rw [me_N_0, me_N_le (by omega) (by omega)]
    have v0 : me_Op (me_nb w h (y * w + x) 0) = if me_N w ≤ me_N x + 1 then -1 else me_N (y * w + x) + 1 := by
      show me_Op (if (y * w + x) % w + 1 < w then some (y * w + x + 1) else none) = _
      rw [hm1]
      by_cases e : x + 1 < w
      · rw [if_pos e, if_neg (by rw [c0]; omega), me_N_1, me_N_add]; rfl
      · rw [if_neg e, if_pos (by rw [c0]; omega)]; rfl
    have v1 : me_Op (me_nb w h (y * w + x) 1) = if me_N x ≤ 0 then -1 else me_N (y * w + x) - 1 := by
      show me_Op (if 0 < (y * w + x) % w then some (y * w + x - 1) else none) = _
      rw [hm1]
      by_cases e : 0 < x
      · rw [if_pos e, if_neg (by rw [c1]; omega), me_N_1, me_N_sub (by omega)]; rfl
      · rw [if_neg e, if_pos (by rw [c1]; omega)]; rfl
    have v2 : me_Op (me_nb w h (y * w + x) 2) = if me_N h ≤ me_N y + 1 then -1 else me_N (y * w + x) + me_N w := by
      show me_Op (if (y * w + x) / w + 1 < h then some (y * w + x + w) else none) = _
      rw [hm2]
      by_cases e : y + 1 < h
      · rw [if_pos e, if_neg (by rw [c2]; omega), me_N_add]; rfl
      · rw [if_neg e, if_pos (by rw [c2]; omega)]; rfl
    have v3 : me_Op (me_nb w h (y * w + x) 3) = if me_N y ≤ 0 then -1 else me_N (y * w + x) - me_N w := by
      show me_Op (if 0 < (y * w + x) / w then some (y * w + x - w) else none) = _
      rw [hm2]
      by_cases e : 0 < y
      · have h9 : w ≤ y * w := Nat.le_mul_of_pos_left w e
        rw [if_pos e, if_neg (by rw [c3]; omega), me_N_sub (by omega)]; rfl
      · rw [if_neg e, if_pos (by rw [c3]; omega)]; rfl
    have hnew : ∀ m, m < y * w + (x + 1) → gh_lf w h (me_up (me_up (me_up (me_up (me_up (me_up μ 4 0 (y * w + x) (me_N x)) 5 0 (y * w + x) (me_N y)) 2 0 ((y * w + x) * 4 + 0) (me_Op (me_nb w h (y * w + x) 0))) 2 0 ((y * w + x) * 4 + 1) (me_Op (me_nb w h (y * w + x) 1))) 2 0 ((y * w + x) * 4 + 2) (me_Op (me_nb w h (y * w + x) 2))) 2 0 ((y * w + x) * 4 + 3) (me_Op (me_nb w h (y * w + x) 3))) m := by
      intro m hm
      by_cases e : m = y * w + x
      · subst e
        refine ⟨?_, ?_, fun k hk => ?_⟩
        · rw [me_up_kn (by decide), me_up_kn (by decide), me_up_kn (by decide), me_up_kn (by decide), me_up_kn (by decide), me_up_at, hm1]
        · rw [me_up_kn (by decide), me_up_kn (by decide), me_up_kn (by decide), me_up_kn (by decide), me_up_at, hm2]
        · match k, hk with
          | 0, _ => rw [me_up_jn (by omega), me_up_jn (by omega), me_up_jn (by omega), me_up_at]
          | 1, _ => rw [me_up_jn (by omega), me_up_jn (by omega), me_up_at]
          | 2, _ => rw [me_up_jn (by omega), me_up_at]
          | 3, _ => rw [me_up_at]
      · exact gh_lf_up e (h3 m (by omega))
    obtain ⟨μ', g1, g2, g3⟩ := ih f (x + 1) _ (by omega) (by omega) hnew
    refine ⟨μ', ?_, g2, fun k k2 k4 k5 => (g3 k k2 k4 k5).trans ?_⟩
    · rw [← g1]
      show f_Net_lay_b21 _ _ _ _ _ _ _ _ = _
      unfold f_Net_lay_b21 f_Net_lay_b73 f_Net_lay_b95 f_Net_lay_b120
      have i0 : me_N (y * w + x) * 4 + 0 = me_N ((y * w + x) * 4 + 0) := by rw [me_N_4, me_N_0, me_N_mul, me_N_add]
      have i1 : me_N (y * w + x) * 4 + 1 = me_N ((y * w + x) * 4 + 1) := by rw [me_N_4, me_N_1, me_N_mul, me_N_add]
      have i2 : me_N (y * w + x) * 4 + 2 = me_N ((y * w + x) * 4 + 2) := by rw [me_N_4, me_N_2, me_N_mul, me_N_add]
      have i3 : me_N (y * w + x) * 4 + 3 = me_N ((y * w + x) * 4 + 3) := by rw [me_N_4, me_N_3, me_N_mul, me_N_add]
      rw [if_neg (by rw [me_N_le (by omega) (by omega)]; omega), if_neg (by rw [me_N_16, me_N_le (by omega) (by omega)]; omega), i0, i1, i2, i3]
      have j : ∀ e, e < 4 → ∀ α (k : Option α), me_gd (me_inb (me_N ((y * w + x) * 4 + e)) 64) k = k := fun e he α k => me_gd_n (by omega) (by omega)
      have j2 : ∀ e, e < 4 → me_ix (me_N ((y * w + x) * 4 + e)) = (y * w + x) * 4 + e := fun e he => me_N_ix (by omega)
      simp only [me_lt_s, me_gd_n (show y * w + x < 2147483648 by omega) (show y * w + x < 16 by omega), me_N_ix (show y * w + x < 2147483648 by omega), j 0 (by decide), j 1 (by decide), j 2 (by decide), j 3 (by decide), j2 0 (by decide), j2 1 (by decide), j2 2 (by decide), j2 3 (by decide), me_N_inc, v0, v1, v2, v3, Nat.add_assoc]
      by_cases a0 : me_N w ≤ me_N x + 1 <;> by_cases a1 : me_N x ≤ 0 <;> by_cases a2 : me_N h ≤ me_N y + 1 <;> by_cases a3 : me_N y ≤ 0 <;> simp only [a0, a1, a2, a3, if_true, if_false]
    · funext i j
      rw [me_up_kn k2, me_up_kn k2, me_up_kn k2, me_up_kn k2, me_up_kn k5, me_up_kn k4]
def gh_fz (μ μ' : me_M) (i : Nat) : Prop := ∀ k i' j, μ' k i' j = if k = 3 ∧ i' = 0 ∧ i ≤ j ∧ j < 64 then 0 else μ k i' j
theorem y_fz1 : ∀ (d f i : Nat) (μ : me_M), i + d = 64 → d < f → ∃ μ', f_Net_lay_h161 f μ (me_N i) = some (μ', ()) ∧ gh_fz μ μ' i := by
  intro d
  induction d with
  | zero =>
    intro f i μ h1 h2
    obtain ⟨f, rfl⟩ : ∃ g, f = g + 1 := ⟨f - 1, by omega⟩
    refine ⟨μ, ?_, fun k i' j => ?_⟩
    · show f_Net_lay_b161 _ _ _ = _
      unfold f_Net_lay_b161
      rw [if_pos (by rw [me_N_64, me_N_le (by omega) (by omega)]; omega)]
    · rw [if_neg (fun q => by omega)]
  | succ d ih =>
    intro f i μ h1 h2
    obtain ⟨f, rfl⟩ : ∃ g, f = g + 1 := ⟨f - 1, by omega⟩
    obtain ⟨μ', g1, g2⟩ := ih f (i + 1) (me_up μ 3 0 i 0) (by omega) (by omega)
    refine ⟨μ', ?_, fun k i' j => ?_⟩
    · show f_Net_lay_b161 _ _ _ = _
      unfold f_Net_lay_b161
      rw [if_neg (by rw [me_N_64, me_N_le (by omega) (by omega)]; omega), me_gd_n (by omega) (by omega), me_N_ix (by omega), me_lt_s, me_N_inc, me_lt_s, me_nar_b0]
      exact g1
    · rw [g2, me_up_ap]
      by_cases e : k = 3 ∧ i' = 0 ∧ i ≤ j ∧ j < 64
      · rw [if_pos e]
        by_cases e2 : k = 3 ∧ i' = 0 ∧ i + 1 ≤ j ∧ j < 64
        · rw [if_pos e2]
        · rw [if_neg e2, if_pos ⟨e.1, e.2.1, by omega⟩]
      · rw [if_neg e, if_neg (fun q => e ⟨q.1, q.2.1, by omega, q.2.2.2⟩), if_neg (fun q => e ⟨q.1, q.2.1, by omega, by omega⟩)]
theorem y_lay2 {w h : Nat} (hw : 1 ≤ w ∧ w ≤ 4) (hh : h ≤ 4) : ∀ (d f y : Nat) (μ : me_M), y + d = h → d < f → (∀ m, m < y * w → gh_lf w h μ m) → ∃ μ', f_Net_lay_h12 f μ (me_N w) (me_N h) (me_N (y * w)) (me_N y) = some (μ', ()) ∧ (∀ m, m < h * w → gh_lf w h μ' m) ∧ (∀ j, j < 64 → μ' 3 0 j = 0) ∧ ∀ k, ¬ k = 2 → ¬ k = 3 → ¬ k = 4 → ¬ k = 5 → μ' k = μ k := by
  intro d
  induction d with
  | zero =>
    intro f y μ h1 h2 h3
    obtain ⟨f, rfl⟩ : ∃ g, f = g + 1 := ⟨f - 1, by omega⟩
    have : y = h := by omega
    subst this
    obtain ⟨μ', g1, g2⟩ := y_fz1 64 me_FU 0 μ rfl (by decide)
    refine ⟨μ', ?_, fun m hm => ?_, fun j hj => ?_, fun k _ k3 _ _ => ?_⟩
    · show f_Net_lay_b12 _ _ _ _ _ _ = _
      unfold f_Net_lay_b12
      rw [if_pos (by rw [me_N_le (by omega) (by omega)]; omega), me_N_0]
      exact g1
    · obtain ⟨q1, q2, q3⟩ := h3 m hm
      refine ⟨?_, ?_, fun k hk => ?_⟩
      · rw [g2, if_neg (fun q => absurd q.1 (by decide))]; exact q1
      · rw [g2, if_neg (fun q => absurd q.1 (by decide))]; exact q2
      · rw [g2, if_neg (fun q => absurd q.1 (by decide))]; exact q3 k hk
    · rw [g2, if_pos ⟨rfl, rfl, Nat.zero_le _, hj⟩]
    · funext i' j
      rw [g2, if_neg (fun q => k3 q.1)]
  | succ d ih =>
    intro f y μ h1 h2 h3
    obtain ⟨f, rfl⟩ : ∃ g, f = g + 1 := ⟨f - 1, by omega⟩
    obtain ⟨μ1, k1, k2, k3⟩ := y_lay1 (K12 := f_Net_lay_h12 f) hw hh (show y < h by omega) w me_FU 0 μ (Nat.zero_add _) (show w < 1000 by omega) h3
    rw [Nat.add_zero] at k1
    have e : y * w + w = (y + 1) * w := by rw [Nat.add_mul, Nat.one_mul]
    rw [e] at k1 k2
    obtain ⟨μ', g1, g2, g3, g4⟩ := ih f (y + 1) μ1 (by omega) (by omega) k2
    refine ⟨μ', ?_, g2, g3, fun k a2 a3 a4 a5 => (g4 k a2 a3 a4 a5).trans (k3 k a2 a4 a5)⟩
    show f_Net_lay_b12 _ _ _ _ _ _ = _
    unfold f_Net_lay_b12
    rw [if_neg (by rw [me_N_le (by omega) (by omega)]; omega), show (0 : Int32) = me_N 0 from rfl, k1]
    exact g1
theorem y_lay {w h : Nat} (hw : 1 ≤ w ∧ w ≤ 4) (hh : h ≤ 4) (μ : me_M) : ∃ μ', f_Net_lay μ (me_N w) (me_N h) = some (μ', ()) ∧ μ' 1 0 4 = me_N (w * h) ∧ (∀ m, m < w * h → gh_lf w h μ' m) ∧ (∀ j, j < 64 → μ' 3 0 j = 0) ∧ ∀ k, ¬ k = 1 → ¬ k = 2 → ¬ k = 3 → ¬ k = 4 → ¬ k = 5 → μ' k = μ k := by
  obtain ⟨μ', g1, g2, g3, g4⟩ := y_lay2 hw hh h me_FU 0 (me_up μ 1 0 4 (me_N (w * h))) (Nat.zero_add _) (show h < 1000 by omega) (fun m hm => by omega)
  refine ⟨μ', ?_, ?_, by rw [Nat.mul_comm]; exact g2, g3, fun k a1 a2 a3 a4 a5 => (g4 k a2 a3 a4 a5).trans ?_⟩
  · unfold f_Net_lay
    rw [me_lt_s, me_N_mul]
    rw [Nat.zero_mul] at g1
    exact g1
  · rw [g4 1 (by decide) (by decide) (by decide) (by decide), me_up_at]
  · funext i j
    exact me_up_kn a1
/-- nodes from lo on are set anew -/
def gh_nd (μ' : me_M) (n : Nat) : Prop := (μ' 22 n 4 = 0 ∧ μ' 22 n 5 = 0 ∧ μ' 22 n 6 = 0 ∧ μ' 22 n 7 = 45 ∧ μ' 22 n 8 = 45) ∧ (∀ j, j < 8 → μ' 23 n j = 0) ∧ (μ' 13 n 3 = 1 ∧ μ' 13 n 4 = 0 ∧ μ' 16 n 0 = 0 ∧ μ' 16 n 1 = 0) ∧ ∀ j, j < 10 → μ' 15 n j = 0 ∧ μ' 17 (10 * n + j) 3 = 0 ∧ μ' 17 (10 * n + j) 5 = -1 ∧ μ' 17 (10 * n + j) 6 = -1 ∧ μ' 17 (10 * n + j) 7 = 0
def gh_kk (k : Nat) : Prop := ¬ k = 13 ∧ ¬ k = 15 ∧ ¬ k = 16 ∧ ¬ k = 17 ∧ ¬ k = 22 ∧ ¬ k = 23
theorem y_node1 {n : Nat} (μ : me_M) : ∃ μ1 μ2, f_Router_reset μ n = some (μ1, ()) ∧ f_Core_reset μ1 n = some (μ2, ()) ∧ gh_nd μ2 n ∧ (∀ m, ¬ m = n → gh_nd μ m → gh_nd μ2 m) ∧ (∀ k, gh_kk k → μ2 k = μ k) ∧ ∀ r, μ2 17 r 4 = μ 17 r 4 := by
  obtain ⟨μ1, g1, g2⟩ := y_rt1 (n := n) 10 me_FU 0 μ rfl (by decide)
  obtain ⟨μ2, g3, g4⟩ := y_cr1 (n := n) 8 me_FU 0 μ1 rfl (by decide)
  have h13 : ∀ k i j, ¬ k = 22 → ¬ k = 23 → μ2 k i j = μ1 k i j := fun k i j a b => by
    rw [g4, if_neg (fun q => b q.1), if_neg (fun q => a q.1), if_neg (fun q => a q.1)]
  refine ⟨μ1, μ2, g1, g3, ?_, fun m hm hd => ?_, fun k hk => ?_, fun r => ?_⟩
  · refine ⟨⟨?_, ?_, ?_, ?_, ?_⟩, fun j hj => ?_, ⟨?_, ?_, ?_, ?_⟩, fun j hj => ⟨?_, ?_, ?_, ?_, ?_⟩⟩
    · rw [g4]; simp
    · rw [g4]; simp
    · rw [g4]; simp
    · rw [g4]; simp
    · rw [g4]; simp
    · rw [g4, if_pos ⟨rfl, rfl, Nat.zero_le _, hj⟩]
    · rw [h13 _ _ _ (by decide) (by decide), g2]; simp
    · rw [h13 _ _ _ (by decide) (by decide), g2]; simp
    · rw [h13 _ _ _ (by decide) (by decide), g2]; simp
    · rw [h13 _ _ _ (by decide) (by decide), g2]; simp
    · rw [h13 _ _ _ (by decide) (by decide), g2]; simp [hj]
    · rw [h13 _ _ _ (by decide) (by decide), g2, if_pos ⟨rfl, by omega, by omega, Or.inl rfl⟩]
    · rw [h13 _ _ _ (by decide) (by decide), g2, if_neg (fun q => by omega), if_pos ⟨rfl, by omega, by omega, Or.inl rfl⟩]
    · rw [h13 _ _ _ (by decide) (by decide), g2, if_neg (fun q => by omega), if_pos ⟨rfl, by omega, by omega, Or.inr rfl⟩]
    · rw [h13 _ _ _ (by decide) (by decide), g2, if_pos ⟨rfl, by omega, by omega, Or.inr rfl⟩]
  · have k1 : ∀ k j, ¬ k = 17 → μ1 k m j = μ k m j := fun k j a => by
      rw [g2, if_neg (fun q => a q.1), if_neg (fun q => a q.1), if_neg (fun q => hm q.2.1), if_neg (fun q => hm q.2.1), if_neg (fun q => hm q.2.1), if_neg (fun q => hm q.2.1)]
    have k2 : ∀ k j, ¬ k = 17 → μ2 k m j = μ k m j := fun k j a => by
      rw [g4, if_neg (fun q => hm q.2.1), if_neg (fun q => hm q.2.1), if_neg (fun q => hm q.2.1), k1 k j a]
    have k3 : ∀ j s, j < 10 → μ2 17 (10 * m + j) s = μ 17 (10 * m + j) s := fun j s hj => by
      rw [h13 _ _ _ (by decide) (by decide), g2, if_neg (fun q => by omega), if_neg (fun q => by omega), if_neg (fun q => absurd q.1 (by decide)), if_neg (fun q => absurd q.1 (by decide)), if_neg (fun q => absurd q.1 (by decide)), if_neg (fun q => absurd q.1 (by decide))]
    obtain ⟨a1, a2, a3, a4⟩ := hd
    unfold gh_nd
    simp only [k2 22 _ (by decide), k2 23 _ (by decide), k2 13 _ (by decide), k2 16 _ (by decide), k2 15 _ (by decide)]
    exact ⟨a1, a2, a3, fun j hj => by rw [k3 j 3 hj, k3 j 5 hj, k3 j 6 hj, k3 j 7 hj]; exact a4 j hj⟩
  · obtain ⟨b1, b2, b3, b4, b5, b6⟩ := hk
    funext i j
    rw [h13 k i j b5 b6, g2, if_neg (fun q => b4 q.1), if_neg (fun q => b4 q.1), if_neg (fun q => b2 q.1), if_neg (fun q => b3 q.1), if_neg (fun q => b1 q.1), if_neg (fun q => b1 q.1)]
  · rw [h13 _ _ _ (by decide) (by decide), g2, if_neg (fun q => by omega), if_neg (fun q => by omega), if_neg (fun q => absurd q.1 (by decide)), if_neg (fun q => absurd q.1 (by decide)), if_neg (fun q => absurd q.1 (by decide)), if_neg (fun q => absurd q.1 (by decide))]
theorem y_nodes1 : ∀ (d f n : Nat) (μ : me_M), n + d = 16 → d < f → (∀ m, m < n → gh_nd μ m) → ∃ μ1, f_Y_makeAnew_h41 f μ (me_N n) = me_b2 (f_Y_setAllPlaces μ1 2) (fun μ3 r2 => some (μ3, ())) ∧ (∀ m, m < 16 → gh_nd μ1 m) ∧ (∀ k, gh_kk k → μ1 k = μ k) ∧ ∀ r, μ1 17 r 4 = μ 17 r 4 := by
  intro d
  induction d with
  | zero =>
    intro f n μ h1 h2 h3
    obtain ⟨f, rfl⟩ : ∃ g, f = g + 1 := ⟨f - 1, by omega⟩
    refine ⟨μ, ?_, fun m hm => h3 m (by omega), fun _ _ => rfl, fun _ => rfl⟩
    show f_Y_makeAnew_b41 _ _ _ = _
    unfold f_Y_makeAnew_b41
    rw [if_pos (by rw [me_N_16, me_N_le (by omega) (by omega)]; omega)]
  | succ d ih =>
    intro f n μ h1 h2 h3
    obtain ⟨f, rfl⟩ : ∃ g, f = g + 1 := ⟨f - 1, by omega⟩
    obtain ⟨μ1, μ2, k1, k2, k3, k4, k5, k6⟩ := y_node1 (n := n) μ
    obtain ⟨μ', g1, g2, g3, g4⟩ := ih f (n + 1) μ2 (by omega) (by omega) (fun m hm => by
      by_cases e : m = n
      · rw [e]; exact k3
      · exact k4 m e (h3 m (by omega)))
    refine ⟨μ', ?_, g2, fun k hk => (g3 k hk).trans (k5 k hk), fun r => (g4 r).trans (k6 r)⟩
    rw [← g1]
    show f_Y_makeAnew_b41 _ _ _ = _
    unfold f_Y_makeAnew_b41
    rw [if_neg (by rw [me_N_16, me_N_le (by omega) (by omega)]; omega), me_gd_n (by omega) (by omega), me_N_ix (by omega), k1, me_b2_s, me_gd_n (by omega) (by omega), k2, me_b2_s, me_lt_s, me_N_inc]
def me_L (q : Nat → List (Nat × Nat × Nat)) (p i x : Nat) : Prop := ∃ c, (p, i, c) ∈ q x
def me_Wl (w h np : Nat) (kd st : Nat → Int32) (sr gl bo pt tk : Nat → Nat) (hd : Nat → Option Nat) (L : Nat → Nat → Nat → Prop) (ro rh : Nat → Option Nat) (aw : Nat → Bool) : Prop :=
  (∀ p i x, L p i x → x / 10 < w * h ∧ p < np ∧ st p = 119 ∧ me_ch (kd p) = x % 10 / 5 ∧ tk p ≤ i ∧ i < pt p ∧ me_ds w (sr p) (x / 10) + me_ds w (x / 10) (gl p) = me_ds w (sr p) (gl p)) ∧
  (∀ p i x, L p i x → ¬ x % 5 = 4 → ro x = some p) ∧
  (∀ r, r % 5 = 4 → ro r = none) ∧
  (∀ p i x, L p i x → x % 5 = 4 → sr p = x / 10) ∧
  (∀ r p, ro r = some p → r / 10 < w * h ∧ p < np ∧ st p = 119 ∧ me_ch (kd p) = r % 10 / 5 ∧ me_ds w (sr p) (r / 10) + me_ds w (r / 10) (gl p) = me_ds w (sr p) (gl p) ∧ 1 ≤ me_ds w (sr p) (r / 10)) ∧
  (∀ r r' p, ro r = some p → ro r' = some p → me_ds w (sr p) (r / 10) = me_ds w (sr p) (r' / 10) → r = r') ∧
  (∀ p i j x y, L p i x → L p j y → i < j → x = y ∨ me_ds w (sr p) (y / 10) < me_ds w (sr p) (x / 10)) ∧
  (∀ p i x y, L p i x → L p i y → x = y) ∧
  (∀ x p, (∃ i, L p i x) ∨ (x = me_cr kd sr p ∧ p < np ∧ st p = 119 ∧ pt p ≤ bo p) ∨ ro x = some p → ¬ L p 0 x → me_Vd w h kd sr gl ro rh x p) ∧
  (∀ x y p, L p (bo p) x → ro y = some p → me_ds w (sr p) (x / 10) ≤ me_ds w (sr p) (y / 10)) ∧
  (∀ x y p, L p 0 x → ro y = some p → me_ds w (sr p) (y / 10) ≤ me_ds w (sr p) (x / 10)) ∧
  (∀ x p' i p, L p' i x → x % 5 = 4 → p' < p → p < np → st p = 119 → me_cr kd sr p = x → L p 0 x) ∧
  (∀ p, p < np → (∀ n, hd p = some n → ∃ x, L p 0 x ∧ x / 10 = n) ∧ (hd p = none → ∀ x, ¬ L p 0 x)) ∧
  (∀ p i, p < np → st p = 119 → tk p ≤ i → i < pt p → ∃ x, L p i x) ∧
  (∀ p j, p < np → 0 < pt p → j < p → sr j = sr p → me_ch (kd j) = me_ch (kd p) → pt j = bo j + 1 ∨ st j = 108) ∧
  (∀ x, aw (x / 10) = false → (∀ p i, ¬ L p i x) ∧ ro x = none)
theorem me_Wl.iel {w h np : Nat} {kd st : Nat → Int32} {sr gl bo pt tk : Nat → Nat} {hd : Nat → Option Nat} {L : Nat → Nat → Nat → Prop} {ro rh : Nat → Option Nat} {aw : Nat → Bool} (hyp : me_Wl w h np kd st sr gl bo pt tk hd L ro rh aw) : ∀ p i x, L p i x → x / 10 < w * h ∧ p < np ∧ st p = 119 ∧ me_ch (kd p) = x % 10 / 5 ∧ tk p ≤ i ∧ i < pt p ∧ me_ds w (sr p) (x / 10) + me_ds w (x / 10) (gl p) = me_ds w (sr p) (gl p) := hyp.1
theorem me_Wl.idi {w h np : Nat} {kd st : Nat → Int32} {sr gl bo pt tk : Nat → Nat} {hd : Nat → Option Nat} {L : Nat → Nat → Nat → Prop} {ro rh : Nat → Option Nat} {aw : Nat → Bool} (hyp : me_Wl w h np kd st sr gl bo pt tk hd L ro rh aw) : ∀ p i x, L p i x → ¬ x % 5 = 4 → ro x = some p := hyp.2.1
theorem me_Wl.icr {w h np : Nat} {kd st : Nat → Int32} {sr gl bo pt tk : Nat → Nat} {hd : Nat → Option Nat} {L : Nat → Nat → Nat → Prop} {ro rh : Nat → Option Nat} {aw : Nat → Bool} (hyp : me_Wl w h np kd st sr gl bo pt tk hd L ro rh aw) : ∀ r, r % 5 = 4 → ro r = none := hyp.2.2.1
theorem me_Wl.ice {w h np : Nat} {kd st : Nat → Int32} {sr gl bo pt tk : Nat → Nat} {hd : Nat → Option Nat} {L : Nat → Nat → Nat → Prop} {ro rh : Nat → Option Nat} {aw : Nat → Bool} (hyp : me_Wl w h np kd st sr gl bo pt tk hd L ro rh aw) : ∀ p i x, L p i x → x % 5 = 4 → sr p = x / 10 := hyp.2.2.2.1
theorem me_Wl.iow {w h np : Nat} {kd st : Nat → Int32} {sr gl bo pt tk : Nat → Nat} {hd : Nat → Option Nat} {L : Nat → Nat → Nat → Prop} {ro rh : Nat → Option Nat} {aw : Nat → Bool} (hyp : me_Wl w h np kd st sr gl bo pt tk hd L ro rh aw) : ∀ r p, ro r = some p → r / 10 < w * h ∧ p < np ∧ st p = 119 ∧ me_ch (kd p) = r % 10 / 5 ∧ me_ds w (sr p) (r / 10) + me_ds w (r / 10) (gl p) = me_ds w (sr p) (gl p) ∧ 1 ≤ me_ds w (sr p) (r / 10) := hyp.2.2.2.2.1
theorem me_Wl.iun {w h np : Nat} {kd st : Nat → Int32} {sr gl bo pt tk : Nat → Nat} {hd : Nat → Option Nat} {L : Nat → Nat → Nat → Prop} {ro rh : Nat → Option Nat} {aw : Nat → Bool} (hyp : me_Wl w h np kd st sr gl bo pt tk hd L ro rh aw) : ∀ r r' p, ro r = some p → ro r' = some p → me_ds w (sr p) (r / 10) = me_ds w (sr p) (r' / 10) → r = r' := hyp.2.2.2.2.2.1
theorem me_Wl.ifo {w h np : Nat} {kd st : Nat → Int32} {sr gl bo pt tk : Nat → Nat} {hd : Nat → Option Nat} {L : Nat → Nat → Nat → Prop} {ro rh : Nat → Option Nat} {aw : Nat → Bool} (hyp : me_Wl w h np kd st sr gl bo pt tk hd L ro rh aw) : ∀ p i j x y, L p i x → L p j y → i < j → x = y ∨ me_ds w (sr p) (y / 10) < me_ds w (sr p) (x / 10) := hyp.2.2.2.2.2.2.1
theorem me_Wl.ion {w h np : Nat} {kd st : Nat → Int32} {sr gl bo pt tk : Nat → Nat} {hd : Nat → Option Nat} {L : Nat → Nat → Nat → Prop} {ro rh : Nat → Option Nat} {aw : Nat → Bool} (hyp : me_Wl w h np kd st sr gl bo pt tk hd L ro rh aw) : ∀ p i x y, L p i x → L p i y → x = y := hyp.2.2.2.2.2.2.2.1
theorem me_Wl.ivd {w h np : Nat} {kd st : Nat → Int32} {sr gl bo pt tk : Nat → Nat} {hd : Nat → Option Nat} {L : Nat → Nat → Nat → Prop} {ro rh : Nat → Option Nat} {aw : Nat → Bool} (hyp : me_Wl w h np kd st sr gl bo pt tk hd L ro rh aw) : ∀ x p, (∃ i, L p i x) ∨ (x = me_cr kd sr p ∧ p < np ∧ st p = 119 ∧ pt p ≤ bo p) ∨ ro x = some p → ¬ L p 0 x → me_Vd w h kd sr gl ro rh x p := hyp.2.2.2.2.2.2.2.2.1
theorem me_Wl.itl {w h np : Nat} {kd st : Nat → Int32} {sr gl bo pt tk : Nat → Nat} {hd : Nat → Option Nat} {L : Nat → Nat → Nat → Prop} {ro rh : Nat → Option Nat} {aw : Nat → Bool} (hyp : me_Wl w h np kd st sr gl bo pt tk hd L ro rh aw) : ∀ x y p, L p (bo p) x → ro y = some p → me_ds w (sr p) (x / 10) ≤ me_ds w (sr p) (y / 10) := hyp.2.2.2.2.2.2.2.2.2.1
theorem me_Wl.ihm {w h np : Nat} {kd st : Nat → Int32} {sr gl bo pt tk : Nat → Nat} {hd : Nat → Option Nat} {L : Nat → Nat → Nat → Prop} {ro rh : Nat → Option Nat} {aw : Nat → Bool} (hyp : me_Wl w h np kd st sr gl bo pt tk hd L ro rh aw) : ∀ x y p, L p 0 x → ro y = some p → me_ds w (sr p) (y / 10) ≤ me_ds w (sr p) (x / 10) := hyp.2.2.2.2.2.2.2.2.2.2.1
theorem me_Wl.ifi {w h np : Nat} {kd st : Nat → Int32} {sr gl bo pt tk : Nat → Nat} {hd : Nat → Option Nat} {L : Nat → Nat → Nat → Prop} {ro rh : Nat → Option Nat} {aw : Nat → Bool} (hyp : me_Wl w h np kd st sr gl bo pt tk hd L ro rh aw) : ∀ x p' i p, L p' i x → x % 5 = 4 → p' < p → p < np → st p = 119 → me_cr kd sr p = x → L p 0 x := hyp.2.2.2.2.2.2.2.2.2.2.2.1
theorem me_Wl.ihd {w h np : Nat} {kd st : Nat → Int32} {sr gl bo pt tk : Nat → Nat} {hd : Nat → Option Nat} {L : Nat → Nat → Nat → Prop} {ro rh : Nat → Option Nat} {aw : Nat → Bool} (hyp : me_Wl w h np kd st sr gl bo pt tk hd L ro rh aw) : ∀ p, p < np → (∀ n, hd p = some n → ∃ x, L p 0 x ∧ x / 10 = n) ∧ (hd p = none → ∀ x, ¬ L p 0 x) := hyp.2.2.2.2.2.2.2.2.2.2.2.2.1
theorem me_Wl.iex {w h np : Nat} {kd st : Nat → Int32} {sr gl bo pt tk : Nat → Nat} {hd : Nat → Option Nat} {L : Nat → Nat → Nat → Prop} {ro rh : Nat → Option Nat} {aw : Nat → Bool} (hyp : me_Wl w h np kd st sr gl bo pt tk hd L ro rh aw) : ∀ p i, p < np → st p = 119 → tk p ≤ i → i < pt p → ∃ x, L p i x := hyp.2.2.2.2.2.2.2.2.2.2.2.2.2.1
theorem me_Wl.ifp {w h np : Nat} {kd st : Nat → Int32} {sr gl bo pt tk : Nat → Nat} {hd : Nat → Option Nat} {L : Nat → Nat → Nat → Prop} {ro rh : Nat → Option Nat} {aw : Nat → Bool} (hyp : me_Wl w h np kd st sr gl bo pt tk hd L ro rh aw) : ∀ p j, p < np → 0 < pt p → j < p → sr j = sr p → me_ch (kd j) = me_ch (kd p) → pt j = bo j + 1 ∨ st j = 108 := hyp.2.2.2.2.2.2.2.2.2.2.2.2.2.2.1
theorem me_Wl.isl {w h np : Nat} {kd st : Nat → Int32} {sr gl bo pt tk : Nat → Nat} {hd : Nat → Option Nat} {L : Nat → Nat → Nat → Prop} {ro rh : Nat → Option Nat} {aw : Nat → Bool} (hyp : me_Wl w h np kd st sr gl bo pt tk hd L ro rh aw) : ∀ x, aw (x / 10) = false → (∀ p i, ¬ L p i x) ∧ ro x = none := hyp.2.2.2.2.2.2.2.2.2.2.2.2.2.2.2
theorem me_Wl.mk {w h np : Nat} {kd st : Nat → Int32} {sr gl bo pt tk : Nat → Nat} {hd : Nat → Option Nat} {L : Nat → Nat → Nat → Prop} {ro rh : Nat → Option Nat} {aw : Nat → Bool} (iel : ∀ p i x, L p i x → x / 10 < w * h ∧ p < np ∧ st p = 119 ∧ me_ch (kd p) = x % 10 / 5 ∧ tk p ≤ i ∧ i < pt p ∧ me_ds w (sr p) (x / 10) + me_ds w (x / 10) (gl p) = me_ds w (sr p) (gl p)) (idi : ∀ p i x, L p i x → ¬ x % 5 = 4 → ro x = some p) (icr : ∀ r, r % 5 = 4 → ro r = none) (ice : ∀ p i x, L p i x → x % 5 = 4 → sr p = x / 10) (iow : ∀ r p, ro r = some p → r / 10 < w * h ∧ p < np ∧ st p = 119 ∧ me_ch (kd p) = r % 10 / 5 ∧ me_ds w (sr p) (r / 10) + me_ds w (r / 10) (gl p) = me_ds w (sr p) (gl p) ∧ 1 ≤ me_ds w (sr p) (r / 10)) (iun : ∀ r r' p, ro r = some p → ro r' = some p → me_ds w (sr p) (r / 10) = me_ds w (sr p) (r' / 10) → r = r') (ifo : ∀ p i j x y, L p i x → L p j y → i < j → x = y ∨ me_ds w (sr p) (y / 10) < me_ds w (sr p) (x / 10)) (ion : ∀ p i x y, L p i x → L p i y → x = y) (ivd : ∀ x p, (∃ i, L p i x) ∨ (x = me_cr kd sr p ∧ p < np ∧ st p = 119 ∧ pt p ≤ bo p) ∨ ro x = some p → ¬ L p 0 x → me_Vd w h kd sr gl ro rh x p) (itl : ∀ x y p, L p (bo p) x → ro y = some p → me_ds w (sr p) (x / 10) ≤ me_ds w (sr p) (y / 10)) (ihm : ∀ x y p, L p 0 x → ro y = some p → me_ds w (sr p) (y / 10) ≤ me_ds w (sr p) (x / 10)) (ifi : ∀ x p' i p, L p' i x → x % 5 = 4 → p' < p → p < np → st p = 119 → me_cr kd sr p = x → L p 0 x) (ihd : ∀ p, p < np → (∀ n, hd p = some n → ∃ x, L p 0 x ∧ x / 10 = n) ∧ (hd p = none → ∀ x, ¬ L p 0 x)) (iex : ∀ p i, p < np → st p = 119 → tk p ≤ i → i < pt p → ∃ x, L p i x) (ifp : ∀ p j, p < np → 0 < pt p → j < p → sr j = sr p → me_ch (kd j) = me_ch (kd p) → pt j = bo j + 1 ∨ st j = 108) (isl : ∀ x, aw (x / 10) = false → (∀ p i, ¬ L p i x) ∧ ro x = none) : me_Wl w h np kd st sr gl bo pt tk hd L ro rh aw := ⟨iel, idi, icr, ice, iow, iun, ifo, ion, ivd, itl, ihm, ifi, ihd, iex, ifp, isl⟩
section MeWl
variable {w h np : Nat} {kd st : Nat → Int32} {sr gl bo pt tk : Nat → Nat} {hd : Nat → Option Nat} {ro rh : Nat → Option Nat} {aw : Nat → Bool}
theorem me_Wm.wl {q : Nat → List (Nat × Nat × Nat)} (hW : me_Wm w h np kd st sr gl bo pt tk hd q ro rh aw) : me_Wl w h np kd st sr gl bo pt tk hd (me_L q) ro rh aw :=
  me_Wl.mk
    (fun p i x ⟨c, hc⟩ => hW.iel x (p, i, c) hc)
    (fun p i x ⟨c, hc⟩ hx => hW.idi x (p, i, c) hc hx)
    hW.icr
    (fun p i x ⟨c, hc⟩ hx => hW.ice x (p, i, c) hc hx)
    hW.iow hW.iun
    (fun p i j x y ⟨c, hc⟩ ⟨c', hc'⟩ hij => hW.ifo x y (p, i, c) (p, j, c') hc hc' rfl hij)
    (fun p i x y ⟨c, hc⟩ ⟨c', hc'⟩ => hW.ion x y (p, i, c) (p, i, c') hc hc' rfl rfl)
    (fun x p ha hz => hW.ivd x p (ha.imp (fun ⟨i, c, hc⟩ => ⟨(p, i, c), hc, rfl⟩) id) (fun c hc => hz ⟨c, hc⟩))
    (fun x y p ⟨c, hc⟩ => hW.itl x y p c hc)
    (fun x y p ⟨c, hc⟩ => hW.ihm x y p c hc)
    (fun x p' i p ⟨c, hc⟩ => hW.ifi x (p', i, c) p hc)
    (fun p hp => ⟨fun n e => (hW.ihd p hp).1 n e |>.elim fun r hr => hr.elim fun c hc => ⟨r, ⟨c, hc.1⟩, hc.2⟩, fun e x ⟨c, hc⟩ => (hW.ihd p hp).2 e x c hc⟩)
    (fun p i a b c d => hW.iex p i a b c d)
    hW.ifp
    (fun x e => ⟨fun p i ⟨c, hc⟩ => by rw [(hW.isl x e).1] at hc; exact absurd hc List.not_mem_nil, (hW.isl x e).2⟩)
theorem me_Wl.wm {q : Nat → List (Nat × Nat × Nat)} (hL : me_Wl w h np kd st sr gl bo pt tk hd (me_L q) ro rh aw) (h4 : ∀ r, (q r).length ≤ 4) (hs : ∀ r, (q r).Pairwise (fun e e' => e.1 < e'.1 ∨ (e.1 = e'.1 ∧ e.2.1 < e'.2.1))) (hc : ∀ p, p < np → ¬ st p = 108 → ((List.range 160).map (fun r => (q r).countP (fun e => decide (e.1 = p)))).sum = pt p - tk p) : me_Wm w h np kd st sr gl bo pt tk hd q ro rh aw :=
  me_Wm.mk h4
    (fun r e he => hL.iel e.1 e.2.1 r ⟨e.2.2, he⟩)
    (fun r e he hx => hL.idi e.1 e.2.1 r ⟨e.2.2, he⟩ hx)
    hL.icr
    (fun r e he hx => hL.ice e.1 e.2.1 r ⟨e.2.2, he⟩ hx)
    hL.iow hL.iun hs
    (fun r r' e e' he he' e1 e2 => hL.ifo e.1 e.2.1 e'.2.1 r r' ⟨e.2.2, he⟩ ⟨e'.2.2, by rw [e1]; exact he'⟩ e2)
    (fun r r' e e' he he' e1 e2 => hL.ion e.1 e.2.1 r r' ⟨e.2.2, he⟩ ⟨e'.2.2, by rw [e1, e2]; exact he'⟩)
    (fun r p ha hz => hL.ivd r p (ha.imp (fun ⟨e, he, e1⟩ => ⟨e.2.1, e.2.2, by rw [← e1]; exact he⟩) id) (fun ⟨c, hc⟩ => hz c hc))
    (fun r r' p c hc => hL.itl r r' p ⟨c, hc⟩)
    (fun r r' p c hc => hL.ihm r r' p ⟨c, hc⟩)
    (fun r e p he a b c d e' => hL.ifi r e.1 e.2.1 p ⟨e.2.2, he⟩ a b c d e')
    (fun p hp => ⟨fun n e => (hL.ihd p hp).1 n e |>.elim fun x hx => hx.1.elim fun c hc => ⟨x, c, hc, hx.2⟩, fun e r c hc => (hL.ihd p hp).2 e r ⟨c, hc⟩⟩)
    (fun p i a b c d => hL.iex p i a b c d)
    hc hL.ifp
    (fun r e => ⟨List.eq_nil_iff_forall_not_mem.mpr (fun e' he' => (hL.isl r e).1 e'.1 e'.2.1 ⟨e'.2.2, he'⟩), (hL.isl r e).2⟩)
end MeWl
theorem me_ch_lt (k : Int32) : me_ch k < 2 := by
  unfold me_ch
  split <;> decide
theorem me_ds_self (w x : Nat) : me_ds w x x = 0 := by
  unfold me_ds
  omega
theorem me_rw_at {n c k : Nat} (hc : c < 2) (hk : k < 5) : me_rw n c k / 10 = n ∧ me_rw n c k % 5 = k ∧ me_rw n c k % 10 / 5 = c := by
  unfold me_rw
  omega
theorem me_Wl.ahH {w h np : Nat} {kd st : Nat → Int32} {sr gl bo pt tk : Nat → Nat} {hd : Nat → Option Nat} {L L' : Nat → Nat → Nat → Prop} {ro rh : Nat → Option Nat} {aw : Nat → Bool} (h0 : me_Wl w h np kd st sr gl bo pt tk hd L ro rh aw) (hbo : ∀ p, p < np → 1 ≤ bo p) {p r n' d r' : Nat} (hL : L p 0 r) (hf : ∀ p' i', L p' i' r → r % 5 = 4 → p ≤ p') (hd4 : d < 4) (hnb : me_nb w h (r / 10) d = some n') (hn' : n' < w * h) (hD : me_ds w (sr p) n' = me_ds w (sr p) (r / 10) + 1) (hS : me_ds w (sr p) n' + me_ds w n' (gl p) = me_ds w (sr p) (gl p)) (hr : r' = me_rw n' (me_ch (kd p)) (me_op d)) (hro : ro r' = none) (haw : aw n' = true) (hL' : ∀ p' i' x, L' p' i' x ↔ (p' = p ∧ i' = 0 ∧ x = r') ∨ (¬ (p' = p ∧ i' = 0) ∧ L p' i' x)) : me_Wl w h np kd st sr gl bo pt tk (me_fu hd p (some n')) L' (me_fu ro r' (some p)) (me_fu rh r (some d)) aw := by
  obtain ⟨c1, c2, c3, c4, c5, c6, c7⟩ := h0.iel p 0 r hL
  have ho := me_op_lt d
  obtain ⟨e1, e2', e3⟩ := me_rw_at (n := n') (me_ch_lt (kd p)) (show me_op d < 5 by omega)
  rw [← hr] at e1 e2' e3
  have e2 : ¬ r' % 5 = 4 := by omega
  have hne : ¬ r' = r := fun q => by rw [q] at e1; rw [← e1] at hD; omega
  have inv : ∀ p' i' x, L' p' i' x → (p' = p ∧ i' = 0 ∧ x = r') ∨ (¬ (p' = p ∧ i' = 0) ∧ L p' i' x) := fun p' i' x => (hL' p' i' x).mp
  have old : ∀ p' i' x, L p' i' x → ¬ (p' = p ∧ i' = 0) → L' p' i' x := fun p' i' x hl hn => (hL' p' i' x).mpr (Or.inr ⟨hn, hl⟩)
  have new0 : L' p 0 r' := (hL' _ _ _).mpr (Or.inl ⟨rfl, rfl, rfl⟩)
  have nr' : ∀ p' i', ¬ L p' i' r' := fun p' i' hl => by
    have := h0.idi p' i' r' hl e2
    rw [hro] at this
    cases this
  apply me_Wl.mk
  case iel =>
    intro p' i' x hl
    rcases inv _ _ _ hl with ⟨a1, a2, a3⟩ | ⟨_, hl⟩
    · rw [a1, a2, a3, e1]
      exact ⟨hn', c2, c3, e3.symm, c5, c6, hS⟩
    · exact h0.iel p' i' x hl
  case idi =>
    intro p' i' x hl hx
    rw [me_fu_ap]
    rcases inv _ _ _ hl with ⟨a1, a2, a3⟩ | ⟨_, hl⟩
    · rw [if_pos a3, a1]
    · rw [if_neg (fun (q : x = r') => nr' p' i' (q ▸ hl))]
      exact h0.idi p' i' x hl hx
  case icr =>
    intro x hx
    rw [me_fu_ap, if_neg (fun (q : x = r') => e2 (q ▸ hx))]
    exact h0.icr x hx
  case ice =>
    intro p' i' x hl hx
    rcases inv _ _ _ hl with ⟨a1, a2, a3⟩ | ⟨_, hl⟩
    · exact absurd (a3 ▸ hx) e2
    · exact h0.ice p' i' x hl hx
  case iow =>
    intro x p' e
    rw [me_fu_ap] at e
    by_cases q : x = r'
    · rw [if_pos q] at e
      have ep : p = p' := Option.some.inj e
      rw [← ep, q, e1]
      exact ⟨hn', c2, c3, e3.symm, hS, by omega⟩
    · rw [if_neg q] at e
      exact h0.iow x p' e
  case iun =>
    intro x y p' ex ey hq
    rw [me_fu_ap] at ex ey
    by_cases qx : x = r' <;> by_cases qy : y = r'
    · rw [qx, qy]
    · rw [if_pos qx] at ex
      rw [if_neg qy] at ey
      have ep : p = p' := Option.some.inj ex
      exfalso
      have := h0.ihm r y p hL (by rw [ep]; exact ey)
      rw [← ep, qx, e1] at hq
      omega
    · rw [if_neg qx] at ex
      rw [if_pos qy] at ey
      have ep : p = p' := Option.some.inj ey
      exfalso
      have := h0.ihm r x p hL (by rw [ep]; exact ex)
      rw [← ep, qy, e1] at hq
      omega
    · rw [if_neg qx] at ex
      rw [if_neg qy] at ey
      exact h0.iun x y p' ex ey hq
  case ifo =>
    intro p' i j x y hx hy hij
    rcases inv _ _ _ hx with ⟨a1, a2, a3⟩ | ⟨a4, hx⟩
    · rcases inv _ _ _ hy with ⟨b1, b2, b3⟩ | ⟨b4, hy⟩
      · omega
      · right
        rw [a1] at hy
        rw [a3, e1, a1]
        rcases h0.ifo p 0 j r y hL hy (by omega) with q | q
        · rw [← q]
          omega
        · omega
    · rcases inv _ _ _ hy with ⟨b1, b2, b3⟩ | ⟨b4, hy⟩
      · omega
      · exact h0.ifo p' i j x y hx hy hij
  case ion =>
    intro p' i x y hx hy
    rcases inv _ _ _ hx with ⟨a1, a2, a3⟩ | ⟨a4, hx⟩
    · rcases inv _ _ _ hy with ⟨b1, b2, b3⟩ | ⟨b4, hy⟩
      · rw [a3, b3]
      · exact absurd ⟨a1, a2⟩ b4
    · rcases inv _ _ _ hy with ⟨b1, b2, b3⟩ | ⟨b4, hy⟩
      · exact absurd ⟨b1, b2⟩ a4
      · exact h0.ion p' i x y hx hy
  case ivd =>
    intro x p' ha hz
    by_cases qx : x = r
    · by_cases qp : p' = p
      · right
        refine ⟨d, n', hd4, ?_, ?_, ?_, ?_⟩
        · rw [me_fu_ap, if_pos qx]
        · rw [qx]
          exact hnb
        · rw [qp, ← hr, me_fu_ap, if_pos rfl]
        · rw [qp, qx]
          exact hD
      · exfalso
        have qr : ¬ x = r' := fun q => hne (q.symm.trans qx)
        have key : L p' 0 r := by
          by_cases h5 : r % 5 = 4
          · have hne' : ro r = none := h0.icr r h5
            have ce := h0.ice p 0 r hL h5
            rcases ha with ⟨i, hl⟩ | ⟨b1, b2, b3, b4⟩ | b
            · rcases inv _ _ _ hl with ⟨a1, _, _⟩ | ⟨_, hl⟩
              · exact absurd a1 qp
              · rw [qx] at hl
                obtain ⟨l1, l2, l3, l4, -⟩ := h0.iel p' i r hl
                have l5 := h0.ice p' i r hl h5
                have l6 := hf p' i hl h5
                exact h0.ifi r p 0 p' hL h5 (by omega) l2 l3 (by unfold me_cr; omega)
            · rw [qx] at b1
              have hc := me_ch_lt (kd p')
              have b1' := b1
              unfold me_cr at b1'
              have : p < p' := by
                rcases Nat.lt_or_ge p p' with q | q
                · exact q
                · exfalso
                  rcases h0.ifp p p' c2 c6 (by omega) (by omega) (by omega) with q1 | q1
                  · omega
                  · rw [b3] at q1
                    exact absurd q1 (by decide)
              exact h0.ifi r p 0 p' hL h5 this b2 b3 b1.symm
            · rw [me_fu_ap, if_neg qr, qx, hne'] at b
              cases b
          · have hp := h0.idi p 0 r hL h5
            rcases ha with ⟨i, hl⟩ | ⟨b1, b2, b3, b4⟩ | b
            · rcases inv _ _ _ hl with ⟨a1, _, _⟩ | ⟨_, hl⟩
              · exact absurd a1 qp
              · rw [qx] at hl
                have := h0.idi p' i r hl h5
                rw [hp] at this
                exact absurd (Option.some.inj this).symm qp
            · exfalso
              apply h5
              rw [← qx, b1]
              unfold me_cr
              omega
            · rw [me_fu_ap, if_neg qr, qx, hp] at b
              exact absurd (Option.some.inj b).symm qp
        rw [qx] at hz
        exact hz (old p' 0 r key (fun q => qp q.1))
    · by_cases qx' : x = r'
      · exfalso
        by_cases qp : p' = p
        · exact hz (by rw [qx', qp]; exact new0)
        · rcases ha with ⟨i, hl⟩ | ⟨b1, b2, b3, b4⟩ | b
          · rcases inv _ _ _ hl with ⟨a1, _, _⟩ | ⟨_, hl⟩
            · exact qp a1
            · exact nr' p' i (qx' ▸ hl)
          · apply e2
            rw [← qx', b1]
            unfold me_cr
            omega
          · rw [me_fu_ap, if_pos qx'] at b
            exact qp (Option.some.inj b).symm
      · have ha' : (∃ i, L p' i x) ∨ (x = me_cr kd sr p' ∧ p' < np ∧ st p' = 119 ∧ pt p' ≤ bo p') ∨ ro x = some p' := by
          rcases ha with ⟨i, hl⟩ | b | b
          · rcases inv _ _ _ hl with ⟨_, _, a3⟩ | ⟨_, hl⟩
            · exact absurd a3 qx'
            · exact Or.inl ⟨i, hl⟩
          · exact Or.inr (Or.inl b)
          · rw [me_fu_ap, if_neg qx'] at b
            exact Or.inr (Or.inr b)
        have hz' : ¬ L p' 0 x := fun q => by
          by_cases qp : p' = p
          · exact qx (h0.ion p 0 x r (qp ▸ q) hL)
          · exact hz (old p' 0 x q (fun e => qp e.1))
        rcases h0.ivd x p' ha' hz' with ⟨v1, v2⟩ | ⟨d1, n1, v1, v2, v3, v4, v5⟩
        · left
          exact ⟨by rw [me_fu_ap, if_neg qx]; exact v1, v2⟩
        · right
          refine ⟨d1, n1, v1, ?_, v3, ?_, v5⟩
          · rw [me_fu_ap, if_neg qx]
            exact v2
          · rw [me_fu_ap, if_neg (fun q => by rw [q, hro] at v4; cases v4)]
            exact v4
  case itl =>
    intro x y p' hx hy
    rw [me_fu_ap] at hy
    rcases inv _ _ _ hx with ⟨a1, a2, a3⟩ | ⟨_, hx⟩
    · exfalso
      have := hbo p c2
      rw [a1] at a2
      omega
    · by_cases qy : y = r'
      · rw [if_pos qy] at hy
        have ep : p = p' := Option.some.inj hy
        rw [← ep] at hx ⊢
        rw [qy, e1]
        have hb := hbo p c2
        rcases h0.ifo p 0 (bo p) r x hL hx (by omega) with q | q
        · rw [← q]
          omega
        · omega
      · rw [if_neg qy] at hy
        exact h0.itl x y p' hx hy
  case ihm =>
    intro x y p' hx hy
    rw [me_fu_ap] at hy
    rcases inv _ _ _ hx with ⟨a1, a2, a3⟩ | ⟨a4, hx⟩
    · rw [a1, a3, e1]
      by_cases qy : y = r'
      · rw [qy, e1]
        exact Nat.le_refl _
      · rw [if_neg qy, a1] at hy
        have := h0.ihm r y p hL hy
        omega
    · by_cases qy : y = r'
      · rw [if_pos qy] at hy
        exact absurd ⟨(Option.some.inj hy).symm, rfl⟩ a4
      · rw [if_neg qy] at hy
        exact h0.ihm x y p' hx hy
  case ifi =>
    intro x p1 i p' hl h5 hlt hp hst hcr
    rcases inv _ _ _ hl with ⟨_, _, a3⟩ | ⟨_, hl⟩
    · exact absurd (a3 ▸ h5) e2
    · have k := h0.ifi x p1 i p' hl h5 hlt hp hst hcr
      refine old p' 0 x k (fun q => ?_)
      have q1 := q.1
      have qx : x = r := h0.ion p 0 x r (q1 ▸ k) hL
      have := hf p1 i (qx ▸ hl) (qx ▸ h5)
      omega
  case ihd =>
    intro p' hp
    rw [me_fu_ap]
    by_cases qp : p' = p
    · rw [if_pos qp]
      refine ⟨fun n e => ⟨r', by rw [qp]; exact new0, e1.trans (Option.some.inj e)⟩, fun e => by cases e⟩
    · rw [if_neg qp]
      refine ⟨fun n e => ?_, fun e x hl => ?_⟩
      · obtain ⟨x, l1, l2⟩ := (h0.ihd p' hp).1 n e
        exact ⟨x, old p' 0 x l1 (fun q => qp q.1), l2⟩
      · rcases inv _ _ _ hl with ⟨a1, _, _⟩ | ⟨_, hl⟩
        · exact qp a1
        · exact (h0.ihd p' hp).2 e x hl
  case iex =>
    intro p' i hp hst h1 h2
    by_cases q : p' = p ∧ i = 0
    · exact ⟨r', by rw [q.1, q.2]; exact new0⟩
    · obtain ⟨x, hl⟩ := h0.iex p' i hp hst h1 h2
      exact ⟨x, old p' i x hl q⟩
  case ifp => exact h0.ifp
  case isl =>
    intro x e
    have o := h0.isl x e
    refine ⟨fun p' i hl => ?_, ?_⟩
    · rcases inv _ _ _ hl with ⟨_, _, a3⟩ | ⟨_, hl⟩
      · rw [a3, e1, haw] at e
        cases e
      · exact o.1 p' i hl
    · rw [me_fu_ap, if_neg (fun q => by rw [q, e1, haw] at e; cases e)]
      exact o.2
theorem me_Wl.ahB {w h np : Nat} {kd st : Nat → Int32} {sr gl bo pt tk : Nat → Nat} {hd : Nat → Option Nat} {L L' : Nat → Nat → Nat → Prop} {ro ro' rh : Nat → Option Nat} {aw : Nat → Bool} (h0 : me_Wl w h np kd st sr gl bo pt tk hd L ro rh aw) {p i r n' d r' : Nat} (hi : 0 < i) (hL : L p i r) (hf : ∀ i', L p i' r → i ≤ i') (hpt : pt p ≤ bo p + 1) (hD : me_ds w (sr p) n' = me_ds w (sr p) (r / 10) + 1) (hr : r' = me_rw n' (me_ch (kd p)) (me_op d)) (hro : ro r' = some p) (hro' : ∀ x, ro' x = if x = r ∧ i = bo p then none else ro x) (hL' : ∀ p' i' x, L' p' i' x ↔ (p' = p ∧ i' = i ∧ x = r') ∨ (¬ (p' = p ∧ i' = i) ∧ L p' i' x)) : me_Wl w h np kd st sr gl bo pt tk hd L' ro' rh aw := by
  obtain ⟨c1, c2, c3, c4, c5, c6, c7⟩ := h0.iel p i r hL
  have ho := me_op_lt d
  obtain ⟨e1, e2', e3⟩ := me_rw_at (n := n') (me_ch_lt (kd p)) (show me_op d < 5 by omega)
  rw [← hr] at e1 e2' e3
  have e2 : ¬ r' % 5 = 4 := by omega
  have hne : ¬ r' = r := fun q => by rw [q] at e1; rw [← e1] at hD; omega
  have inv : ∀ p' i' x, L' p' i' x → (p' = p ∧ i' = i ∧ x = r') ∨ (¬ (p' = p ∧ i' = i) ∧ L p' i' x) := fun p' i' x => (hL' p' i' x).mp
  have old : ∀ p' i' x, L p' i' x → ¬ (p' = p ∧ i' = i) → L' p' i' x := fun p' i' x hl hn => (hL' p' i' x).mpr (Or.inr ⟨hn, hl⟩)
  have new0 : L' p i r' := (hL' _ _ _).mpr (Or.inl ⟨rfl, rfl, rfl⟩)
  obtain ⟨o1, o2, o3, o4, o5, o6⟩ := h0.iow r' p hro
  rw [e1] at o1 o5 o6
  have ros : ∀ x p', ro' x = some p' → ro x = some p' ∧ ¬ (x = r ∧ i = bo p) := fun x p' e => by
    rw [hro'] at e
    by_cases q : x = r ∧ i = bo p
    · rw [if_pos q] at e
      cases e
    · rw [if_neg q] at e
      exact ⟨e, q⟩
  apply me_Wl.mk
  case iel =>
    intro p' i' x hl
    rcases inv _ _ _ hl with ⟨a1, a2, a3⟩ | ⟨_, hl⟩
    · rw [a1, a2, a3, e1]
      exact ⟨o1, c2, c3, e3.symm, c5, c6, o5⟩
    · exact h0.iel p' i' x hl
  case idi =>
    intro p' i' x hl hx
    rw [hro']
    rcases inv _ _ _ hl with ⟨a1, a2, a3⟩ | ⟨a4, hl⟩
    · rw [a3, if_neg (fun q => hne q.1), a1]
      exact hro
    · have k := h0.idi p' i' x hl hx
      rw [if_neg ?_]
      · exact k
      · rintro ⟨q1, q2⟩
        rw [q1] at hl k hx
        have k2 := h0.idi p i r hL hx
        rw [k2] at k
        have ep : p = p' := Option.some.inj k
        rw [← ep] at hl a4
        have l1 := hf i' hl
        obtain ⟨-, -, -, -, -, l2, -⟩ := h0.iel p i' r hl
        exact a4 ⟨rfl, by omega⟩
  case icr =>
    intro x hx
    rw [hro']
    split
    · rfl
    · exact h0.icr x hx
  case ice =>
    intro p' i' x hl hx
    rcases inv _ _ _ hl with ⟨a1, a2, a3⟩ | ⟨_, hl⟩
    · exact absurd (a3 ▸ hx) e2
    · exact h0.ice p' i' x hl hx
  case iow => exact fun x p' e => h0.iow x p' (ros x p' e).1
  case iun => exact fun x y p' ex ey hq => h0.iun x y p' (ros x p' ex).1 (ros y p' ey).1 hq
  case ifo =>
    intro p' i1 j x y hx hy hij
    rcases inv _ _ _ hx with ⟨a1, a2, a3⟩ | ⟨a4, hx⟩
    · rcases inv _ _ _ hy with ⟨b1, b2, b3⟩ | ⟨b4, hy⟩
      · omega
      · right
        rw [a1] at hy
        rw [a3, e1, a1]
        rcases h0.ifo p i j r y hL hy (by omega) with q | q
        · rw [← q]
          omega
        · omega
    · rcases inv _ _ _ hy with ⟨b1, b2, b3⟩ | ⟨b4, hy⟩
      · rw [b1] at hx ⊢
        rw [b3, e1]
        rcases h0.ifo p i1 i x r hx hL (by omega) with q | q
        · exfalso
          rw [q] at hx
          have := hf i1 hx
          omega
        · by_cases g : me_ds w (sr p) n' < me_ds w (sr p) (x / 10)
          · exact Or.inr g
          · left
            have g' : me_ds w (sr p) (x / 10) = me_ds w (sr p) (r' / 10) := by rw [e1]; omega
            by_cases h5 : x % 5 = 4
            · exfalso
              have s := h0.ice p i1 x hx h5
              have z : me_ds w (sr p) (x / 10) = 0 := by rw [← s]; exact me_ds_self w (sr p)
              omega
            · exact h0.iun x r' p (h0.idi p i1 x hx h5) hro g'
      · exact h0.ifo p' i1 j x y hx hy hij
  case ion =>
    intro p' i' x y hx hy
    rcases inv _ _ _ hx with ⟨a1, a2, a3⟩ | ⟨a4, hx⟩
    · rcases inv _ _ _ hy with ⟨b1, b2, b3⟩ | ⟨b4, hy⟩
      · rw [a3, b3]
      · exact absurd ⟨a1, a2⟩ b4
    · rcases inv _ _ _ hy with ⟨b1, b2, b3⟩ | ⟨b4, hy⟩
      · exact absurd ⟨b1, b2⟩ a4
      · exact h0.ion p' i' x y hx hy
  case ivd =>
    intro x p' ha hz
    have ha0 : (∃ i, L p' i x) ∨ (x = me_cr kd sr p' ∧ p' < np ∧ st p' = 119 ∧ pt p' ≤ bo p') ∨ ro x = some p' := by
      rcases ha with ⟨i1, hl⟩ | b | b
      · rcases inv _ _ _ hl with ⟨a1, _, a3⟩ | ⟨_, hl⟩
        · exact Or.inr (Or.inr (by rw [a1, a3]; exact hro))
        · exact Or.inl ⟨i1, hl⟩
      · exact Or.inr (Or.inl b)
      · exact Or.inr (Or.inr (ros x p' b).1)
    have hz0 : ¬ L p' 0 x := fun q => hz (old p' 0 x q (fun e => by have := e.2; omega))
    rcases h0.ivd x p' ha0 hz0 with ⟨v1, v2⟩ | ⟨d1, n1, v1, v2, v3, v4, v5⟩
    · left
      exact ⟨v1, v2⟩
    · right
      refine ⟨d1, n1, v1, v2, v3, ?_, v5⟩
      rw [hro', if_neg ?_]
      · exact v4
      · rintro ⟨q1, q2⟩
        have hop := me_op_lt d1
        have en := (me_rw_at (n := n1) (me_ch_lt (kd p')) (show me_op d1 < 5 by omega)).1
        rw [q1] at v4 en
        have h5 : ¬ r % 5 = 4 := fun q => by rw [h0.icr r q] at v4; cases v4
        have k := h0.idi p i r hL h5
        rw [k] at v4
        have ep : p = p' := Option.some.inj v4
        rw [← ep, ← en] at v5
        rcases ha with ⟨i1, hl⟩ | ⟨b1, b2, b3, b4⟩ | b
        · rcases inv _ _ _ hl with ⟨_, _, a3⟩ | ⟨a4, hl⟩
          · rw [a3, e1] at v5
            omega
          · rw [← ep] at hl a4
            obtain ⟨-, -, -, -, -, l2, -⟩ := h0.iel p i1 x hl
            have hi1 : ¬ i1 = i := fun q => a4 ⟨rfl, q⟩
            rcases h0.ifo p i1 i x r hl hL (by omega) with q | q
            · rw [q] at v5
              omega
            · omega
        · rw [← ep] at b4
          omega
        · have k3 := (ros x p' b).1
          rw [← ep] at k3
          have := h0.itl r x p (q2 ▸ hL) k3
          omega
  case itl =>
    intro x y p' hx hy
    have hy0 := ros y p' hy
    rcases inv _ _ _ hx with ⟨a1, a2, a3⟩ | ⟨_, hx⟩
    · rw [a1] at hy0 a2 ⊢
      rw [a3, e1]
      have t := h0.itl r y p (by rw [a2]; exact hL) hy0.1
      have hyr : ¬ y = r := fun q => hy0.2 ⟨q, a2.symm⟩
      by_cases h5 : r % 5 = 4
      · have s := h0.ice p i r hL h5
        have z : me_ds w (sr p) (r / 10) = 0 := by rw [← s]; exact me_ds_self w (sr p)
        obtain ⟨-, -, -, -, -, k6⟩ := h0.iow y p hy0.1
        omega
      · have k := h0.idi p i r hL h5
        have : ¬ me_ds w (sr p) (y / 10) = me_ds w (sr p) (r / 10) := fun q => hyr (h0.iun y r p hy0.1 k q)
        omega
    · exact h0.itl x y p' hx hy0.1
  case ihm =>
    intro x y p' hx hy
    rcases inv _ _ _ hx with ⟨_, a2, _⟩ | ⟨_, hx⟩
    · omega
    · exact h0.ihm x y p' hx (ros y p' hy).1
  case ifi =>
    intro x p1 i1 p' hl h5 hlt hp hst hcr
    rcases inv _ _ _ hl with ⟨_, _, a3⟩ | ⟨_, hl⟩
    · exact absurd (a3 ▸ h5) e2
    · exact old p' 0 x (h0.ifi x p1 i1 p' hl h5 hlt hp hst hcr) (fun q => by have := q.2; omega)
  case ihd =>
    intro p' hp
    refine ⟨fun n e => ?_, fun e x hl => ?_⟩
    · obtain ⟨x, l1, l2⟩ := (h0.ihd p' hp).1 n e
      exact ⟨x, old p' 0 x l1 (fun q => by have := q.2; omega), l2⟩
    · rcases inv _ _ _ hl with ⟨_, a2, _⟩ | ⟨_, hl⟩
      · omega
      · exact (h0.ihd p' hp).2 e x hl
  case iex =>
    intro p' i' hp hst h1 h2
    by_cases q : p' = p ∧ i' = i
    · exact ⟨r', by rw [q.1, q.2]; exact new0⟩
    · obtain ⟨x, hl⟩ := h0.iex p' i' hp hst h1 h2
      exact ⟨x, old p' i' x hl q⟩
  case ifp => exact h0.ifp
  case isl =>
    intro x e
    have o := h0.isl x e
    refine ⟨fun p' i' hl => ?_, ?_⟩
    · rcases inv _ _ _ hl with ⟨_, _, a3⟩ | ⟨_, hl⟩
      · rw [← a3, o.2] at hro
        cases hro
      · exact o.1 p' i' hl
    · rw [hro']
      split
      · rfl
      · exact o.2
theorem me_Wl.coL {w h np : Nat} {kd st st' : Nat → Int32} {sr gl bo pt tk tk' : Nat → Nat} {hd hd' : Nat → Option Nat} {L L' : Nat → Nat → Nat → Prop} {ro ro' rh rh' : Nat → Option Nat} {aw : Nat → Bool} (h0 : me_Wl w h np kd st sr gl bo pt tk hd L ro rh aw) {p i r : Nat} (hL : L p i r) (hf : ∀ p' i', L p' i' r → (r % 5 = 4 → p ≤ p') ∧ (p' = p → i ≤ i')) (hpt : pt p ≤ bo p + 1) (hg : r / 10 = gl p) (hv : i = 0 ∨ rh r = some 4) (hst' : ∀ p', st' p' = if p' = p ∧ i = bo p then 100 else st p') (htk' : ∀ p', tk' p' = if p' = p then tk p + 1 else tk p') (hhd' : ∀ p', hd' p' = if p' = p ∧ i = 0 then none else hd p') (hro' : ∀ x, ro' x = if x = r ∧ i = bo p then none else ro x) (hrh' : ∀ x, rh' x = if x = r ∧ i = 0 then some 4 else rh x) (hL' : ∀ p' i' x, L' p' i' x ↔ ¬ (p' = p ∧ i' = i) ∧ L p' i' x) : tk p = i ∧ me_Wl w h np kd st' sr gl bo pt tk' hd' L' ro' rh' aw := by
  obtain ⟨c1, c2, c3, c4, c5, c6, c7⟩ := h0.iel p i r hL
  have inv : ∀ p' i' x, L' p' i' x → ¬ (p' = p ∧ i' = i) ∧ L p' i' x := fun p' i' x => (hL' p' i' x).mp
  have old : ∀ p' i' x, L p' i' x → ¬ (p' = p ∧ i' = i) → L' p' i' x := fun p' i' x hl hn => (hL' p' i' x).mpr ⟨hn, hl⟩
  have ros : ∀ x p', ro' x = some p' → ro x = some p' ∧ ¬ (x = r ∧ i = bo p) := fun x p' e => by
    rw [hro'] at e
    by_cases q : x = r ∧ i = bo p
    · rw [if_pos q] at e
      cases e
    · rw [if_neg q] at e
      exact ⟨e, q⟩
  have htk : tk p = i := by
    rcases Nat.lt_or_ge (tk p) i with g | g
    · exfalso
      obtain ⟨x0, l0⟩ := h0.iex p (tk p) c2 c3 (Nat.le_refl _) (by omega)
      obtain ⟨-, -, -, -, -, -, l7⟩ := h0.iel p (tk p) x0 l0
      rw [← hg] at l7
      rcases h0.ifo p (tk p) i x0 r l0 hL g with q | q
      · rw [q] at l0
        have := (hf p (tk p) l0).2 rfl
        omega
      · omega
    · omega
  have gone : i = bo p → (∀ y, ¬ ro' y = some p) ∧ ∀ i' x, ¬ L' p i' x := fun qt => by
    refine ⟨fun y e => ?_, fun i' x hl => ?_⟩
    · obtain ⟨e0, en⟩ := ros y p e
      have t := h0.itl r y p (qt ▸ hL) e0
      obtain ⟨-, -, -, -, k5, k6⟩ := h0.iow y p e0
      rw [← hg] at k5
      by_cases h5 : r % 5 = 4
      · have s := h0.ice p i r hL h5
        have z : me_ds w (sr p) (r / 10) = 0 := by rw [← s]; exact me_ds_self w (sr p)
        omega
      · have k := h0.idi p i r hL h5
        exact en ⟨h0.iun y r p e0 k (by omega), qt⟩
    · obtain ⟨a4, hl⟩ := inv _ _ _ hl
      obtain ⟨-, -, -, -, l5, l6, -⟩ := h0.iel p i' x hl
      exact a4 ⟨rfl, by omega⟩
  have s119 : ∀ p', st' p' = 119 → st p' = 119 ∧ ¬ (p' = p ∧ i = bo p) := fun p' e => by
    rw [hst'] at e
    by_cases q : p' = p ∧ i = bo p
    · rw [if_pos q] at e
      exact absurd e (by decide)
    · rw [if_neg q] at e
      exact ⟨e, q⟩
  refine ⟨htk, ?_⟩
  apply me_Wl.mk
  case iel =>
    intro p' i' x hl
    obtain ⟨a4, hl0⟩ := inv _ _ _ hl
    obtain ⟨b1, b2, b3, b4, b5, b6, b7⟩ := h0.iel p' i' x hl0
    have hn : ¬ (p' = p ∧ i = bo p) := fun q => (gone q.2).2 i' x (q.1 ▸ hl)
    refine ⟨b1, b2, by rw [hst', if_neg hn]; exact b3, b4, ?_, b6, b7⟩
    rw [htk']
    by_cases qp : p' = p
    · rw [if_pos qp]
      rw [qp] at b5
      have : ¬ i' = i := fun q => a4 ⟨qp, q⟩
      omega
    · rw [if_neg qp]
      exact b5
  case idi =>
    intro p' i' x hl hx
    obtain ⟨a4, hl0⟩ := inv _ _ _ hl
    have k := h0.idi p' i' x hl0 hx
    rw [hro', if_neg ?_]
    · exact k
    · rintro ⟨q1, q2⟩
      rw [q1] at k hx
      rw [h0.idi p i r hL hx] at k
      have ep : p = p' := Option.some.inj k
      exact (gone q2).2 i' x (ep ▸ hl)
  case icr =>
    intro x hx
    rw [hro']
    split
    · rfl
    · exact h0.icr x hx
  case ice => exact fun p' i' x hl hx => h0.ice p' i' x (inv _ _ _ hl).2 hx
  case iow =>
    intro x p' e
    obtain ⟨b1, b2, b3, b4, b5, b6⟩ := h0.iow x p' (ros x p' e).1
    exact ⟨b1, b2, by rw [hst', if_neg (fun (q : p' = p ∧ i = bo p) => (gone q.2).1 x (q.1 ▸ e))]; exact b3, b4, b5, b6⟩
  case iun => exact fun x y p' ex ey hq => h0.iun x y p' (ros x p' ex).1 (ros y p' ey).1 hq
  case ifo => exact fun p' i1 j x y hx hy hij => h0.ifo p' i1 j x y (inv _ _ _ hx).2 (inv _ _ _ hy).2 hij
  case ion => exact fun p' i' x y hx hy => h0.ion p' i' x y (inv _ _ _ hx).2 (inv _ _ _ hy).2
  case ivd =>
    intro x p' ha hz
    by_cases qt : p' = p ∧ i = bo p
    · exfalso
      rcases ha with ⟨i1, hl⟩ | ⟨b1, b2, b3, b4⟩ | b
      · exact (gone qt.2).2 i1 x (qt.1 ▸ hl)
      · exact (s119 p' b3).2 qt
      · exact (gone qt.2).1 x (qt.1 ▸ b)
    · by_cases q0 : x = r ∧ i = 0
      · by_cases qp : p' = p
        · left
          exact ⟨by rw [hrh', if_pos q0], by rw [q0.1, qp]; exact hg⟩
        · exfalso
          have qx := q0.1
          have hL0 : L p 0 r := q0.2 ▸ hL
          have key : L p' 0 r := by
            by_cases h5 : r % 5 = 4
            · have hne' : ro r = none := h0.icr r h5
              have ce := h0.ice p i r hL h5
              rcases ha with ⟨i1, hl⟩ | ⟨b1, b2, b3, b4⟩ | b
              · obtain ⟨_, hl⟩ := inv _ _ _ hl
                rw [qx] at hl
                obtain ⟨l1, l2, l3, l4, -⟩ := h0.iel p' i1 r hl
                have l5 := h0.ice p' i1 r hl h5
                have l6 := (hf p' i1 hl).1 h5
                exact h0.ifi r p 0 p' hL0 h5 (by omega) l2 l3 (by unfold me_cr; omega)
              · rw [qx] at b1
                have hc := me_ch_lt (kd p')
                have b1' := b1
                unfold me_cr at b1'
                have b3' := (s119 p' b3).1
                have : p < p' := by
                  rcases Nat.lt_or_ge p p' with q | q
                  · exact q
                  · exfalso
                    rcases h0.ifp p p' c2 (by omega) (by omega) (by omega) (by omega) with q1 | q1
                    · omega
                    · rw [b3'] at q1
                      exact absurd q1 (by decide)
                exact h0.ifi r p 0 p' hL0 h5 this b2 b3' b1.symm
              · have := (ros x p' b).1
                rw [qx, hne'] at this
                cases this
            · have hp := h0.idi p i r hL h5
              rcases ha with ⟨i1, hl⟩ | ⟨b1, b2, b3, b4⟩ | b
              · obtain ⟨_, hl⟩ := inv _ _ _ hl
                rw [qx] at hl
                have := h0.idi p' i1 r hl h5
                rw [hp] at this
                exact absurd (Option.some.inj this).symm qp
              · exfalso
                apply h5
                rw [← qx, b1]
                unfold me_cr
                omega
              · have := (ros x p' b).1
                rw [qx, hp] at this
                exact absurd (Option.some.inj this).symm qp
          rw [qx] at hz
          exact hz (old p' 0 r key (fun q => qp q.1))
      · have ha0 : (∃ i, L p' i x) ∨ (x = me_cr kd sr p' ∧ p' < np ∧ st p' = 119 ∧ pt p' ≤ bo p') ∨ ro x = some p' := by
          rcases ha with ⟨i1, hl⟩ | ⟨b1, b2, b3, b4⟩ | b
          · exact Or.inl ⟨i1, (inv _ _ _ hl).2⟩
          · exact Or.inr (Or.inl ⟨b1, b2, (s119 p' b3).1, b4⟩)
          · exact Or.inr (Or.inr (ros x p' b).1)
        by_cases qz : L p' 0 x
        · -- the head itself was taken, from another row
          exfalso
          have qi : p' = p ∧ 0 = i := by
            by_cases q : p' = p ∧ 0 = i
            · exact q
            · exact absurd (old p' 0 x qz q) hz
          have hl : L p i x := qi.1 ▸ qi.2 ▸ qz
          exact q0 ⟨h0.ion p i x r hl hL, qi.2.symm⟩
        · rcases h0.ivd x p' ha0 qz with ⟨v1, v2⟩ | ⟨d1, n1, v1, v2, v3, v4, v5⟩
          · left
            exact ⟨by rw [hrh', if_neg q0]; exact v1, v2⟩
          · right
            refine ⟨d1, n1, v1, by rw [hrh', if_neg q0]; exact v2, v3, ?_, v5⟩
            rw [hro', if_neg ?_]
            · exact v4
            · rintro ⟨q1, q2⟩
              rw [q1] at v4
              by_cases h5 : r % 5 = 4
              · rw [h0.icr r h5] at v4
                cases v4
              · rw [h0.idi p i r hL h5] at v4
                exact qt ⟨(Option.some.inj v4).symm, q2⟩
  case itl => exact fun x y p' hx hy => h0.itl x y p' (inv _ _ _ hx).2 (ros y p' hy).1
  case ihm => exact fun x y p' hx hy => h0.ihm x y p' (inv _ _ _ hx).2 (ros y p' hy).1
  case ifi =>
    intro x p1 i1 p' hl h5 hlt hp hst hcr
    obtain ⟨_, hl⟩ := inv _ _ _ hl
    have k := h0.ifi x p1 i1 p' hl h5 hlt hp (s119 p' hst).1 hcr
    refine old p' 0 x k (fun q => ?_)
    have q1 := q.1
    have hl' : L p i x := q.1 ▸ q.2 ▸ k
    have qx : x = r := h0.ion p i x r hl' hL
    have := (hf p1 i1 (qx ▸ hl)).1 (qx ▸ h5)
    omega
  case ihd =>
    intro p' hp
    rw [hhd']
    by_cases q : p' = p ∧ i = 0
    · rw [if_pos q]
      exact ⟨fun n e => (by cases e), fun _ x hl => (inv _ _ _ hl).1 ⟨q.1, q.2.symm⟩⟩
    · rw [if_neg q]
      refine ⟨fun n e => ?_, fun e x hl => (h0.ihd p' hp).2 e x (inv _ _ _ hl).2⟩
      obtain ⟨x, l1, l2⟩ := (h0.ihd p' hp).1 n e
      exact ⟨x, old p' 0 x l1 (fun q' => q ⟨q'.1, q'.2.symm⟩), l2⟩
  case iex =>
    intro p' i' hp hst h1 h2
    rw [htk'] at h1
    by_cases qp : p' = p
    · rw [if_pos qp] at h1
      obtain ⟨x, hl⟩ := h0.iex p' i' hp (s119 p' hst).1 (by rw [qp]; omega) h2
      exact ⟨x, old p' i' x hl (fun q => by have := q.2; omega)⟩
    · rw [if_neg qp] at h1
      obtain ⟨x, hl⟩ := h0.iex p' i' hp (s119 p' hst).1 h1 h2
      exact ⟨x, old p' i' x hl (fun q => qp q.1)⟩
  case ifp =>
    intro p0 j h1 h2 h3 h4 h5
    rcases h0.ifp p0 j h1 h2 h3 h4 h5 with q | q
    · exact Or.inl q
    · right
      rw [hst', if_neg (fun e => by rw [e.1, c3] at q; exact absurd q (by decide))]
      exact q
  case isl =>
    intro x e
    have o := h0.isl x e
    refine ⟨fun p' i' hl => o.1 p' i' (inv _ _ _ hl).2, ?_⟩
    rw [hro']
    split
    · rfl
    · exact o.2
theorem me_Wl.lose {w h np : Nat} {kd st st' : Nat → Int32} {sr gl bo pt tk : Nat → Nat} {hd hd' : Nat → Option Nat} {L L' : Nat → Nat → Nat → Prop} {ro ro' rh : Nat → Option Nat} {aw : Nat → Bool} (h0 : me_Wl w h np kd st sr gl bo pt tk hd L ro rh aw) {p : Nat} (hst' : ∀ p', st' p' = if p' = p then 108 else st p') (hhd' : ∀ p', hd' p' = if p' = p then none else hd p') (hro' : ∀ x, ro' x = if ro x = some p then none else ro x) (hL' : ∀ p' i' x, L' p' i' x ↔ ¬ p' = p ∧ L p' i' x) : me_Wl w h np kd st' sr gl bo pt tk hd' L' ro' rh aw := by
  have inv : ∀ p' i' x, L' p' i' x → ¬ p' = p ∧ L p' i' x := fun p' i' x => (hL' p' i' x).mp
  have old : ∀ p' i' x, L p' i' x → ¬ p' = p → L' p' i' x := fun p' i' x hl hn => (hL' p' i' x).mpr ⟨hn, hl⟩
  have ros : ∀ x p', ro' x = some p' → ro x = some p' ∧ ¬ p' = p := fun x p' e => by
    rw [hro'] at e
    by_cases q : ro x = some p
    · rw [if_pos q] at e
      cases e
    · rw [if_neg q] at e
      exact ⟨e, fun q' => q (q' ▸ e)⟩
  have sne : ∀ p', ¬ p' = p → st' p' = st p' := fun p' q => by rw [hst', if_neg q]
  have s119 : ∀ p', st' p' = 119 → st p' = 119 ∧ ¬ p' = p := fun p' e => by
    rw [hst'] at e
    by_cases q : p' = p
    · rw [if_pos q] at e
      exact absurd e (by decide)
    · rw [if_neg q] at e
      exact ⟨e, q⟩
  apply me_Wl.mk
  case iel =>
    intro p' i' x hl
    obtain ⟨qp, hl⟩ := inv _ _ _ hl
    rw [sne p' qp]
    exact h0.iel p' i' x hl
  case idi =>
    intro p' i' x hl hx
    obtain ⟨qp, hl⟩ := inv _ _ _ hl
    have k := h0.idi p' i' x hl hx
    rw [hro', if_neg (fun q => qp (Option.some.inj (k.symm.trans q)))]
    exact k
  case icr =>
    intro x hx
    rw [hro']
    split
    · rfl
    · exact h0.icr x hx
  case ice => exact fun p' i' x hl hx => h0.ice p' i' x (inv _ _ _ hl).2 hx
  case iow =>
    intro x p' e
    obtain ⟨e0, qp⟩ := ros x p' e
    rw [sne p' qp]
    exact h0.iow x p' e0
  case iun => exact fun x y p' ex ey hq => h0.iun x y p' (ros x p' ex).1 (ros y p' ey).1 hq
  case ifo => exact fun p' i1 j x y hx hy hij => h0.ifo p' i1 j x y (inv _ _ _ hx).2 (inv _ _ _ hy).2 hij
  case ion => exact fun p' i' x y hx hy => h0.ion p' i' x y (inv _ _ _ hx).2 (inv _ _ _ hy).2
  case ivd =>
    intro x p' ha hz
    have ha0 : ((∃ i, L p' i x) ∨ (x = me_cr kd sr p' ∧ p' < np ∧ st p' = 119 ∧ pt p' ≤ bo p') ∨ ro x = some p') ∧ ¬ p' = p := by
      rcases ha with ⟨i1, hl⟩ | ⟨b1, b2, b3, b4⟩ | b
      · exact ⟨Or.inl ⟨i1, (inv _ _ _ hl).2⟩, (inv _ _ _ hl).1⟩
      · exact ⟨Or.inr (Or.inl ⟨b1, b2, (s119 p' b3).1, b4⟩), (s119 p' b3).2⟩
      · exact ⟨Or.inr (Or.inr (ros x p' b).1), (ros x p' b).2⟩
    rcases h0.ivd x p' ha0.1 (fun q => hz (old p' 0 x q ha0.2)) with ⟨v1, v2⟩ | ⟨d1, n1, v1, v2, v3, v4, v5⟩
    · left
      exact ⟨v1, v2⟩
    · right
      refine ⟨d1, n1, v1, v2, v3, ?_, v5⟩
      rw [hro', if_neg (fun q => ha0.2 (Option.some.inj (v4.symm.trans q)))]
      exact v4
  case itl => exact fun x y p' hx hy => h0.itl x y p' (inv _ _ _ hx).2 (ros y p' hy).1
  case ihm => exact fun x y p' hx hy => h0.ihm x y p' (inv _ _ _ hx).2 (ros y p' hy).1
  case ifi =>
    intro x p1 i1 p' hl h5 hlt hp hst hcr
    obtain ⟨_, hl⟩ := inv _ _ _ hl
    exact old p' 0 x (h0.ifi x p1 i1 p' hl h5 hlt hp (s119 p' hst).1 hcr) (s119 p' hst).2
  case ihd =>
    intro p' hp
    rw [hhd']
    by_cases q : p' = p
    · rw [if_pos q]
      exact ⟨fun n e => (by cases e), fun _ x hl => (inv _ _ _ hl).1 q⟩
    · rw [if_neg q]
      refine ⟨fun n e => ?_, fun e x hl => (h0.ihd p' hp).2 e x (inv _ _ _ hl).2⟩
      obtain ⟨x, l1, l2⟩ := (h0.ihd p' hp).1 n e
      exact ⟨x, old p' 0 x l1 q, l2⟩
  case iex =>
    intro p' i' hp hst h1 h2
    obtain ⟨x, hl⟩ := h0.iex p' i' hp (s119 p' hst).1 h1 h2
    exact ⟨x, old p' i' x hl (s119 p' hst).2⟩
  case ifp =>
    intro p0 j h1 h2 h3 h4 h5
    rcases h0.ifp p0 j h1 h2 h3 h4 h5 with q | q
    · exact Or.inl q
    · right
      rw [hst']
      split
      · rfl
      · exact q
  case isl =>
    intro x e
    have o := h0.isl x e
    refine ⟨fun p' i' hl => o.1 p' i' (inv _ _ _ hl).2, ?_⟩
    rw [hro']
    split
    · rfl
    · exact o.2
theorem me_Wl.put {w h np : Nat} {kd st st' : Nat → Int32} {sr gl bo pt pt' tk : Nat → Nat} {hd hd' : Nat → Option Nat} {L L' : Nat → Nat → Nat → Prop} {ro rh : Nat → Option Nat} {aw : Nat → Bool} (h0 : me_Wl w h np kd st sr gl bo pt tk hd L ro rh aw) {p r : Nat} (hp : p < np) (hr : r = me_cr kd sr p) (hb : pt p ≤ bo p) (hs : st p = 115 ∨ st p = 119) (hs0 : st p = 115 → pt p = 0) (hs1 : ∀ j, j < np → st j = 119 → 0 < pt j) (htk : tk p ≤ pt p) (hsr : sr p < w * h) (haw : aw (sr p) = true) (hfst : ∀ j, j < p → sr j = sr p → me_ch (kd j) = me_ch (kd p) → pt j = bo j + 1 ∨ st j = 108) (hst' : ∀ p', st' p' = if p' = p then 119 else st p') (hpt' : ∀ p', pt' p' = if p' = p then pt p + 1 else pt p') (hhd' : ∀ p', hd' p' = if p' = p ∧ pt p = 0 then some (sr p) else hd p') (hL' : ∀ p' i' x, L' p' i' x ↔ (p' = p ∧ i' = pt p ∧ x = r) ∨ L p' i' x) : me_Wl w h np kd st' sr gl bo pt' tk hd' L' ro rh aw := by
  have hch := me_ch_lt (kd p)
  have r1 : r / 10 = sr p := by rw [hr]; unfold me_cr; omega
  have r2 : r % 5 = 4 := by rw [hr]; unfold me_cr; omega
  have r3 : r % 10 / 5 = me_ch (kd p) := by rw [hr]; unfold me_cr; omega
  have z : me_ds w (sr p) (r / 10) = 0 := by rw [r1]; exact me_ds_self w (sr p)
  have inv : ∀ p' i' x, L' p' i' x → (p' = p ∧ i' = pt p ∧ x = r) ∨ L p' i' x := fun p' i' x => (hL' p' i' x).mp
  have old : ∀ p' i' x, L p' i' x → L' p' i' x := fun p' i' x hl => (hL' p' i' x).mpr (Or.inr hl)
  have new0 : L' p (pt p) r := (hL' _ _ _).mpr (Or.inl ⟨rfl, rfl, rfl⟩)
  have later : ∀ j, j < np → p < j → sr j = sr p → me_ch (kd j) = me_ch (kd p) → ¬ 0 < pt j := fun j hj hlt e1 e2 g => by
    rcases h0.ifp j p hj g hlt e1.symm e2.symm with q | q
    · omega
    · rcases hs with s | s <;> · rw [s] at q; exact absurd q (by decide)
  have on : ¬ pt p = 0 → st p = 119 := fun q => hs.resolve_left (fun s => q (hs0 s))
  have ssp : ∀ p', st' p' = 119 → p' = p ∨ st p' = 119 := fun p' e => by
    by_cases q : p' = p
    · exact Or.inl q
    · rw [hst', if_neg q] at e
      exact Or.inr e
  apply me_Wl.mk
  case iel =>
    intro p' i' x hl
    rcases inv _ _ _ hl with ⟨a1, a2, a3⟩ | hl
    · rw [a1, a2, a3, z, r1, hst', if_pos rfl, hpt', if_pos rfl]
      exact ⟨hsr, hp, rfl, r3.symm, htk, by omega, by omega⟩
    · obtain ⟨b1, b2, b3, b4, b5, b6, b7⟩ := h0.iel p' i' x hl
      refine ⟨b1, b2, ?_, b4, b5, ?_, b7⟩
      · rw [hst']
        split
        · rfl
        · exact b3
      · rw [hpt']
        by_cases q : p' = p
        · rw [if_pos q]
          rw [q] at b6
          omega
        · rw [if_neg q]
          exact b6
  case idi =>
    intro p' i' x hl hx
    rcases inv _ _ _ hl with ⟨a1, a2, a3⟩ | hl
    · rw [a3] at hx
      exact absurd r2 hx
    · exact h0.idi p' i' x hl hx
  case icr => exact h0.icr
  case ice =>
    intro p' i' x hl hx
    rcases inv _ _ _ hl with ⟨a1, a2, a3⟩ | hl
    · rw [a1, a3, r1]
    · exact h0.ice p' i' x hl hx
  case iow =>
    intro x p' e
    obtain ⟨b1, b2, b3, b4, b5, b6⟩ := h0.iow x p' e
    refine ⟨b1, b2, ?_, b4, b5, b6⟩
    rw [hst']
    split
    · rfl
    · exact b3
  case iun => exact h0.iun
  case ifo =>
    intro p' i1 j x y hx hy hij
    rcases inv _ _ _ hx with ⟨a1, a2, a3⟩ | hx
    · rcases inv _ _ _ hy with ⟨b1, b2, b3⟩ | hy
      · omega
      · rw [a1] at hy
        obtain ⟨-, -, -, -, -, l6, -⟩ := h0.iel p j y hy
        omega
    · rcases inv _ _ _ hy with ⟨b1, b2, b3⟩ | hy
      · rw [b1] at hx ⊢
        rw [b3, z]
        obtain ⟨-, -, -, l4, -, -, -⟩ := h0.iel p i1 x hx
        by_cases h5 : x % 5 = 4
        · left
          have s := h0.ice p i1 x hx h5
          omega
        · right
          obtain ⟨-, -, -, -, -, k6⟩ := h0.iow x p (h0.idi p i1 x hx h5)
          omega
      · exact h0.ifo p' i1 j x y hx hy hij
  case ion =>
    intro p' i' x y hx hy
    rcases inv _ _ _ hx with ⟨a1, a2, a3⟩ | hx
    · rcases inv _ _ _ hy with ⟨b1, b2, b3⟩ | hy
      · rw [a3, b3]
      · rw [a1] at hy
        obtain ⟨-, -, -, -, -, l6, -⟩ := h0.iel p i' y hy
        omega
    · rcases inv _ _ _ hy with ⟨b1, b2, b3⟩ | hy
      · rw [b1] at hx
        obtain ⟨-, -, -, -, -, l6, -⟩ := h0.iel p i' x hx
        omega
      · exact h0.ion p' i' x y hx hy
  case ivd =>
    intro x p' ha hz
    have hz0 : ¬ L p' 0 x := fun q => hz (old p' 0 x q)
    have ha0 : (∃ i, L p' i x) ∨ (x = me_cr kd sr p' ∧ p' < np ∧ st p' = 119 ∧ pt p' ≤ bo p') ∨ ro x = some p' := by
      rcases ha with ⟨i1, hl⟩ | ⟨b1, b2, b3, b4⟩ | b
      · rcases inv _ _ _ hl with ⟨a1, a2, a3⟩ | hl
        · have g : ¬ pt p = 0 := fun q => hz (by rw [a1, a3]; rw [q] at new0; exact new0)
          exact Or.inr (Or.inl ⟨by rw [a1, a3]; exact hr, by rw [a1]; exact hp, by rw [a1]; exact on g, by rw [a1]; exact hb⟩)
        · exact Or.inl ⟨i1, hl⟩
      · by_cases qp : p' = p
        · have g : ¬ pt p = 0 := fun q => hz (by rw [b1, qp, ← hr]; rw [q] at new0; exact new0)
          exact Or.inr (Or.inl ⟨b1, b2, by rw [qp]; exact on g, by rw [qp]; exact hb⟩)
        · rw [hst', if_neg qp] at b3
          rw [hpt', if_neg qp] at b4
          exact Or.inr (Or.inl ⟨b1, b2, b3, b4⟩)
      · exact Or.inr (Or.inr b)
    exact h0.ivd x p' ha0 hz0
  case itl =>
    intro x y p' hx hy
    rcases inv _ _ _ hx with ⟨a1, a2, a3⟩ | hx
    · rw [a1, a3, z]
      exact Nat.zero_le _
    · exact h0.itl x y p' hx hy
  case ihm =>
    intro x y p' hx hy
    rcases inv _ _ _ hx with ⟨a1, a2, a3⟩ | hx
    · exfalso
      rw [a1] at hy
      obtain ⟨-, -, k3, -⟩ := h0.iow y p hy
      have := hs1 p hp k3
      omega
    · exact h0.ihm x y p' hx hy
  case ifi =>
    intro x p1 i1 p' hl h5 hlt hp' hst hcr
    by_cases qp : p' = p
    · have ex : x = r := by rw [← hcr, qp, ← hr]
      by_cases g : pt p = 0
      · rw [qp, ex]
        rw [g] at new0
        exact new0
      · rcases inv _ _ _ hl with ⟨a1, _, _⟩ | hl
        · omega
        · exact old p' 0 x (h0.ifi x p1 i1 p' hl h5 hlt hp' (by rw [qp]; exact on g) hcr)
    · have s' : st p' = 119 := (ssp p' hst).resolve_left qp
      rcases inv _ _ _ hl with ⟨a1, _, a3⟩ | hl
      · exfalso
        have hc' := me_ch_lt (kd p')
        rw [a3, hr] at hcr
        unfold me_cr at hcr
        exact later p' hp' (by omega) (by omega) (by omega) (hs1 p' hp' s')
      · exact old p' 0 x (h0.ifi x p1 i1 p' hl h5 hlt hp' s' hcr)
  case ihd =>
    intro p' hp'
    rw [hhd']
    by_cases q : p' = p ∧ pt p = 0
    · rw [if_pos q]
      refine ⟨fun n e => ⟨r, ?_, r1.trans (Option.some.inj e)⟩, fun e => by cases e⟩
      rw [q.1]
      have := new0
      rw [q.2] at this
      exact this
    · rw [if_neg q]
      refine ⟨fun n e => ?_, fun e x hl => ?_⟩
      · obtain ⟨x, l1, l2⟩ := (h0.ihd p' hp').1 n e
        exact ⟨x, old p' 0 x l1, l2⟩
      · rcases inv _ _ _ hl with ⟨a1, a2, _⟩ | hl
        · exact q ⟨a1, a2.symm⟩
        · exact (h0.ihd p' hp').2 e x hl
  case iex =>
    intro p' i' hp' hst h1 h2
    rw [hpt'] at h2
    by_cases qp : p' = p
    · rw [if_pos qp] at h2
      by_cases g : i' = pt p
      · exact ⟨r, by rw [qp, g]; exact new0⟩
      · obtain ⟨x, hl⟩ := h0.iex p' i' hp' (by rw [qp]; exact on (by omega)) h1 (by rw [qp]; omega)
        exact ⟨x, old p' i' x hl⟩
    · rw [if_neg qp] at h2
      obtain ⟨x, hl⟩ := h0.iex p' i' hp' ((ssp p' hst).resolve_left qp) h1 h2
      exact ⟨x, old p' i' x hl⟩
  case ifp =>
    intro p0 j h1 h2 h3 h4 h5
    rw [hpt'] at h2
    by_cases qj : j = p
    · exfalso
      rw [qj] at h3 h4 h5
      rw [if_neg (by omega)] at h2
      exact later p0 h1 h3 h4.symm h5.symm h2
    · rw [hpt', if_neg qj, hst', if_neg qj]
      by_cases q0 : p0 = p
      · rw [q0] at h3 h4 h5
        exact hfst j h3 h4 h5
      · rw [if_neg q0] at h2
        exact h0.ifp p0 j h1 h2 h3 h4 h5
  case isl =>
    intro x e
    have o := h0.isl x e
    refine ⟨fun p' i' hl => ?_, o.2⟩
    rcases inv _ _ _ hl with ⟨_, _, a3⟩ | hl
    · rw [a3, r1, haw] at e
      cases e
    · exact o.1 p' i' hl
def me_pq (p : Nat) (e : Nat × Nat × Nat) : Bool := decide (e.1 = p)
def me_cs (q : Nat → List (Nat × Nat × Nat)) (p : Nat) : Nat := ((List.range 160).map (fun r => (q r).countP (me_pq p))).sum
theorem me_su_cg {f g : Nat → Nat} (n : Nat) (h : ∀ x, x < n → f x = g x) : ((List.range n).map f).sum = ((List.range n).map g).sum := by
  rw [List.map_congr_left (fun x hx => h x (List.mem_range.mp hx))]
theorem me_su_one {f g : Nat → Nat} {r : Nat} (hx : ∀ x, ¬ x = r → f x = g x) : ∀ n, r < n → ((List.range n).map f).sum + g r = ((List.range n).map g).sum + f r := by
  intro n
  induction n with
  | zero => intro h; exact absurd h (Nat.not_lt_zero _)
  | succ n ih =>
    intro h
    rw [List.range_succ, List.map_append, List.map_append, List.sum_append, List.sum_append]
    simp only [List.map_cons, List.map_nil, List.sum_cons, List.sum_nil]
    by_cases e : r = n
    · rw [← e, me_su_cg (f := f) (g := g) r (fun x hx' => hx x (by omega))]
      omega
    · have := ih (by omega)
      have := hx n (fun q => e q.symm)
      omega
theorem me_ct_fu {q : Nat → List (Nat × Nat × Nat)} {r : Nat} {l : List (Nat × Nat × Nat)} (hr : r < 160) (p : Nat) : me_cs (me_fu q r l) p + (q r).countP (me_pq p) = me_cs q p + l.countP (me_pq p) := by
  have := me_su_one (f := fun x => (me_fu q r l x).countP (me_pq p)) (g := fun x => (q x).countP (me_pq p)) (r := r) (fun x hx => by rw [me_fu_ne hx]) 160 hr
  rw [me_fu_at] at this
  exact this
