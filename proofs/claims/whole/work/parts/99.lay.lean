/-! the net is laid -/
def gh_lf (w h : Nat) (μ : me_M) (m : Nat) : Prop := μ 4 0 m = me_N (m % w) ∧ μ 5 0 m = me_N (m / w) ∧ ∀ d, d < 4 → μ 2 0 (m * 4 + d) = me_Op (me_nb w h m d)
theorem gh_lf_up {w h m m' : Nat} {μ : me_M} {a b c d e g : Int32} (hm : ¬ m' = m) (h0 : gh_lf w h μ m') : gh_lf w h (me_up (me_up (me_up (me_up (me_up (me_up μ 4 0 m a) 5 0 m b) 2 0 (m * 4 + 0) c) 2 0 (m * 4 + 1) d) 2 0 (m * 4 + 2) e) 2 0 (m * 4 + 3) g) m' := by
  obtain ⟨h1, h2, h3⟩ := h0
  refine ⟨?_, ?_, fun k hk => ?_⟩
  · rw [me_up_kn (by decide), me_up_kn (by decide), me_up_kn (by decide), me_up_kn (by decide), me_up_kn (by decide), me_up_jn hm]
    exact h1
  · rw [me_up_kn (by decide), me_up_kn (by decide), me_up_kn (by decide), me_up_kn (by decide), me_up_jn hm, me_up_kn (by decide)]
    exact h2
  · rw [me_up_jn (by omega), me_up_jn (by omega), me_up_jn (by omega), me_up_jn (by omega), me_up_kn (by decide), me_up_kn (by decide)]
    exact h3 k hk
theorem y_lay1 {w h y : Nat} {K12 : me_M → Int32 → Int32 → Int32 → Int32 → Option (me_M × Unit)} (hw : 1 ≤ w ∧ w ≤ 4) (hh : h ≤ 4) (hy : y < h) : ∀ (d f x : Nat) (μ : me_M), x + d = w → d < f → (∀ m, m < y * w + x → gh_lf w h μ m) → ∃ μ', f_Net_lay_h21 K12 f μ (me_N w) (me_N h) (me_N (y * w + x)) (me_N y) (me_N x) = K12 μ' (me_N w) (me_N h) (me_N (y * w + w)) (me_N (y + 1)) ∧ (∀ m, m < y * w + w → gh_lf w h μ' m) ∧ ∀ k, ¬ k = 2 → ¬ k = 4 → ¬ k = 5 → μ' k = μ k := by
  have hyw : y * w + w ≤ 16 := by
    have h1 : (y + 1) * w ≤ 4 * 4 := Nat.mul_le_mul (by omega) hw.2
    rw [Nat.add_mul] at h1
    omega
  intro d
  induction d with
  | zero =>
    intro f x μ h1 h2 h3
    obtain ⟨f, rfl⟩ : ∃ g, f = g + 1 := ⟨f - 1, by omega⟩
    have : x = w := by omega
    subst this
    refine ⟨μ, ?_, h3, fun _ _ _ _ => rfl⟩
    show f_Net_lay_b21 _ _ _ _ _ _ _ _ = _
    unfold f_Net_lay_b21
    rw [if_pos (by rw [me_N_le (by omega) (by omega)]; omega), me_lt_s, me_N_inc]
  | succ d ih =>
    intro f x μ h1 h2 h3
    obtain ⟨f, rfl⟩ : ∃ g, f = g + 1 := ⟨f - 1, by omega⟩
    have hx : x < w := by omega
    have hm1 : (y * w + x) % w = x := by rw [Nat.add_comm, Nat.add_mul_mod_self_right, Nat.mod_eq_of_lt hx]
    have hm2 : (y * w + x) / w = y := by rw [Nat.add_comm, Nat.add_mul_div_right _ _ (by omega), Nat.div_eq_of_lt hx, Nat.zero_add]
    have c0 : (me_N w ≤ me_N x + 1) ↔ w ≤ x + 1 := by rw [me_N_1, me_N_add, me_N_le (by omega) (by omega)]
    have c1 : (me_N x ≤ 0) ↔ x ≤ 0 := by rw [me_N_0, me_N_le (by omega) (by omega)]
    have c2 : (me_N h ≤ me_N y + 1) ↔ h ≤ y + 1 := by rw [me_N_1, me_N_add, me_N_le (by omega) (by omega)]
    have c3 : (me_N y ≤ 0) ↔ y ≤ 0 := by rw [me_N_0, me_N_le (by omega) (by omega)]
    have v0 : me_Op (me_nb w h (y * w + x) 0) = if me_N w ≤ me_N x + 1 then -1 else me_N (y * w + x) + 1 := by
      show me_Op (if (y * w + x) % w + 1 < w then some (y * w + x + 1) else none) = _
      rw [hm1]
      by_cases e : x + 1 < w
      · rw [if_pos e, if_neg (by rw [c0]; omega), me_N_1, me_N_add]; rfl
      · rw [if_neg e, if_pos (by rw [c0]; omega)]; rfl
    have v1 : me_Op (me_nb w h (y * w + x) 1) = if me_N x ≤ 0 then -1 else me_N (y * w + x) - 1 := by
      show me_Op (if 0 < (y * w + x) % w then some (y * w + x - 1) else none) = _
      rw [hm1]
      by_cases e : 0 < x
      · rw [if_pos e, if_neg (by rw [c1]; omega), me_N_1, me_N_sub (by omega)]; rfl
      · rw [if_neg e, if_pos (by rw [c1]; omega)]; rfl
    have v2 : me_Op (me_nb w h (y * w + x) 2) = if me_N h ≤ me_N y + 1 then -1 else me_N (y * w + x) + me_N w := by
      show me_Op (if (y * w + x) / w + 1 < h then some (y * w + x + w) else none) = _
      rw [hm2]
      by_cases e : y + 1 < h
      · rw [if_pos e, if_neg (by rw [c2]; omega), me_N_add]; rfl
      · rw [if_neg e, if_pos (by rw [c2]; omega)]; rfl
    have v3 : me_Op (me_nb w h (y * w + x) 3) = if me_N y ≤ 0 then -1 else me_N (y * w + x) - me_N w := by
      show me_Op (if 0 < (y * w + x) / w then some (y * w + x - w) else none) = _
      rw [hm2]
      by_cases e : 0 < y
      · have h9 : w ≤ y * w := Nat.le_mul_of_pos_left w e
        rw [if_pos e, if_neg (by rw [c3]; omega), me_N_sub (by omega)]; rfl
      · rw [if_neg e, if_pos (by rw [c3]; omega)]; rfl
    have hnew : ∀ m, m < y * w + (x + 1) → gh_lf w h (me_up (me_up (me_up (me_up (me_up (me_up μ 4 0 (y * w + x) (me_N x)) 5 0 (y * w + x) (me_N y)) 2 0 ((y * w + x) * 4 + 0) (me_Op (me_nb w h (y * w + x) 0))) 2 0 ((y * w + x) * 4 + 1) (me_Op (me_nb w h (y * w + x) 1))) 2 0 ((y * w + x) * 4 + 2) (me_Op (me_nb w h (y * w + x) 2))) 2 0 ((y * w + x) * 4 + 3) (me_Op (me_nb w h (y * w + x) 3))) m := by
      intro m hm
      by_cases e : m = y * w + x
      · subst e
        refine ⟨?_, ?_, fun k hk => ?_⟩
        · rw [me_up_kn (by decide), me_up_kn (by decide), me_up_kn (by decide), me_up_kn (by decide), me_up_kn (by decide), me_up_at, hm1]
        · rw [me_up_kn (by decide), me_up_kn (by decide), me_up_kn (by decide), me_up_kn (by decide), me_up_at, hm2]
        · match k, hk with
          | 0, _ => rw [me_up_jn (by omega), me_up_jn (by omega), me_up_jn (by omega), me_up_at]
          | 1, _ => rw [me_up_jn (by omega), me_up_jn (by omega), me_up_at]
          | 2, _ => rw [me_up_jn (by omega), me_up_at]
          | 3, _ => rw [me_up_at]
      · exact gh_lf_up e (h3 m (by omega))
    obtain ⟨μ', g1, g2, g3⟩ := ih f (x + 1) _ (by omega) (by omega) hnew
    refine ⟨μ', ?_, g2, fun k k2 k4 k5 => (g3 k k2 k4 k5).trans ?_⟩
    · rw [← g1]
      show f_Net_lay_b21 _ _ _ _ _ _ _ _ = _
      unfold f_Net_lay_b21 f_Net_lay_b73 f_Net_lay_b95 f_Net_lay_b120
      have i0 : me_N (y * w + x) * 4 + 0 = me_N ((y * w + x) * 4 + 0) := by rw [me_N_4, me_N_0, me_N_mul, me_N_add]
      have i1 : me_N (y * w + x) * 4 + 1 = me_N ((y * w + x) * 4 + 1) := by rw [me_N_4, me_N_1, me_N_mul, me_N_add]
      have i2 : me_N (y * w + x) * 4 + 2 = me_N ((y * w + x) * 4 + 2) := by rw [me_N_4, me_N_2, me_N_mul, me_N_add]
      have i3 : me_N (y * w + x) * 4 + 3 = me_N ((y * w + x) * 4 + 3) := by rw [me_N_4, me_N_3, me_N_mul, me_N_add]
      rw [if_neg (by rw [me_N_le (by omega) (by omega)]; omega), if_neg (by rw [me_N_16, me_N_le (by omega) (by omega)]; omega), i0, i1, i2, i3]
      have j : ∀ e, e < 4 → ∀ α (k : Option α), me_gd (me_inb (me_N ((y * w + x) * 4 + e)) 64) k = k := fun e he α k => me_gd_n (by omega) (by omega)
      have j2 : ∀ e, e < 4 → me_ix (me_N ((y * w + x) * 4 + e)) = (y * w + x) * 4 + e := fun e he => me_N_ix (by omega)
      simp only [me_lt_s, me_gd_n (show y * w + x < 2147483648 by omega) (show y * w + x < 16 by omega), me_N_ix (show y * w + x < 2147483648 by omega), j 0 (by decide), j 1 (by decide), j 2 (by decide), j 3 (by decide), j2 0 (by decide), j2 1 (by decide), j2 2 (by decide), j2 3 (by decide), me_N_inc, v0, v1, v2, v3, Nat.add_assoc]
      by_cases a0 : me_N w ≤ me_N x + 1 <;> by_cases a1 : me_N x ≤ 0 <;> by_cases a2 : me_N h ≤ me_N y + 1 <;> by_cases a3 : me_N y ≤ 0 <;> simp only [a0, a1, a2, a3, if_true, if_false]
    · funext i j
      rw [me_up_kn k2, me_up_kn k2, me_up_kn k2, me_up_kn k2, me_up_kn k5, me_up_kn k4]
