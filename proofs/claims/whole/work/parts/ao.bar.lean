/-! the barrier, and the end of a beat -/
def gh_ac (a : me_S) (n : Nat) : Prop := a.co n = 114 ∨ a.co n = 119
/-- those at the barrier up to m run on -/
def gh_b1 (a : me_S) (m : Nat) : me_S := me_S.s_ca (me_S.s_co a (fun n => if n < m ∧ a.co n = 98 then 114 else a.co n)) (fun n => if n < m ∧ a.co n = 98 then a.ca n + 1 else a.ca n)
theorem gh_b1_0 {a : me_S} : me_Eq a (gh_b1 a 0) := by
  have e1 : a.co = fun n => if n < 0 ∧ a.co n = 98 then 114 else a.co n := funext fun n => (if_neg (fun q => absurd q.1 (Nat.not_lt_zero _))).symm
  have e2 : a.ca = fun n => if n < 0 ∧ a.co n = 98 then a.ca n + 1 else a.ca n := funext fun n => (if_neg (fun q => absurd q.1 (Nat.not_lt_zero _))).symm
  exact ⟨rfl, rfl, rfl, rfl, rfl, rfl, rfl, rfl, rfl, rfl, rfl, rfl, rfl, rfl, rfl, rfl, rfl, rfl, rfl, rfl, rfl, rfl, rfl, rfl, rfl, rfl, rfl, rfl, rfl, rfl, rfl, rfl, rfl, rfl, rfl, e2, e1, rfl, rfl, rfl, rfl⟩
theorem gh_b1_s {a : me_S} {m : Nat} (h : a.co m = 98) : me_Eq (me_S.s_ca (me_S.s_co (gh_b1 a m) (me_fu (gh_b1 a m).co m 114)) (me_fu (gh_b1 a m).ca m (a.ca m + 1))) (gh_b1 a (m + 1)) := by
  have e1 : me_fu (gh_b1 a m).co m 114 = fun n => if n < m + 1 ∧ a.co n = 98 then 114 else a.co n := by
    funext n
    rw [me_fu_ap]
    by_cases e : n = m
    · rw [if_pos e, if_pos ⟨by omega, by rw [e]; exact h⟩]
    · rw [if_neg e]
      show (if n < m ∧ a.co n = 98 then (114 : Int32) else a.co n) = _
      by_cases g : n < m ∧ a.co n = 98
      · rw [if_pos g, if_pos ⟨by omega, g.2⟩]
      · rw [if_neg g, if_neg (fun q => g ⟨by omega, q.2⟩)]
  have e2 : me_fu (gh_b1 a m).ca m (a.ca m + 1) = fun n => if n < m + 1 ∧ a.co n = 98 then a.ca n + 1 else a.ca n := by
    funext n
    rw [me_fu_ap]
    by_cases e : n = m
    · rw [if_pos e, if_pos ⟨by omega, by rw [e]; exact h⟩, e]
    · rw [if_neg e]
      show (if n < m ∧ a.co n = 98 then a.ca n + 1 else a.ca n) = _
      by_cases g : n < m ∧ a.co n = 98
      · rw [if_pos g, if_pos ⟨by omega, g.2⟩]
      · rw [if_neg g, if_neg (fun q => g ⟨by omega, q.2⟩)]
  exact ⟨rfl, rfl, rfl, rfl, rfl, rfl, rfl, rfl, rfl, rfl, rfl, rfl, rfl, rfl, rfl, rfl, rfl, rfl, rfl, rfl, rfl, rfl, rfl, rfl, rfl, rfl, rfl, rfl, rfl, rfl, rfl, rfl, rfl, rfl, rfl, e2, e1, rfl, rfl, rfl, rfl⟩
theorem me_Eq.re {a : me_S} : me_Eq a a := ⟨rfl, rfl, rfl, rfl, rfl, rfl, rfl, rfl, rfl, rfl, rfl, rfl, rfl, rfl, rfl, rfl, rfl, rfl, rfl, rfl, rfl, rfl, rfl, rfl, rfl, rfl, rfl, rfl, rfl, rfl, rfl, rfl, rfl, rfl, rfl, rfl, rfl, rfl, rfl, rfl, rfl⟩
theorem gh_b1_n {a : me_S} {m : Nat} (h : ¬ a.co m = 98) : me_Eq (gh_b1 a m) (gh_b1 a (m + 1)) := by
  have e1 : (fun n => if n < m ∧ a.co n = 98 then (114 : Int32) else a.co n) = fun n => if n < m + 1 ∧ a.co n = 98 then 114 else a.co n := by
    funext n
    by_cases g : n < m ∧ a.co n = 98
    · rw [if_pos g, if_pos ⟨by omega, g.2⟩]
    · rw [if_neg g, if_neg (fun q => g ⟨by
        by_cases e : n = m
        · rw [e] at q
          exact absurd q.2 h
        · omega, q.2⟩)]
  have e2 : (fun n => if n < m ∧ a.co n = 98 then a.ca n + 1 else a.ca n) = fun n => if n < m + 1 ∧ a.co n = 98 then a.ca n + 1 else a.ca n := by
    funext n
    by_cases g : n < m ∧ a.co n = 98
    · rw [if_pos g, if_pos ⟨by omega, g.2⟩]
    · rw [if_neg g, if_neg (fun q => g ⟨by
        by_cases e : n = m
        · rw [e] at q
          exact absurd q.2 h
        · omega, q.2⟩)]
  have e3 : gh_b1 a m = gh_b1 a (m + 1) := by
    unfold gh_b1
    rw [e1, e2]
  rw [e3]
  exact me_Eq.re
theorem gh_b1_co {a : me_S} {m : Nat} : (gh_b1 a m).co m = a.co m := if_neg (fun q => absurd q.1 (Nat.lt_irrefl _))
theorem gh_b1_ca {a : me_S} {m : Nat} : (gh_b1 a m).ca m = a.ca m := if_neg (fun q => absurd q.1 (Nat.lt_irrefl _))
theorem y_bar34 {a : me_S} (hwh : a.w * a.h ≤ 16) : ∀ (d f m : Nat) (μ : me_M), m + d = a.w * a.h → d < f → me_RC (gh_b1 a m) μ → ∃ μ', f_Works_passBarrier_h34 f μ (me_N m) = some (μ', ()) ∧ me_RC (gh_b1 a (a.w * a.h)) μ' ∧ ∀ k, ¬ k = 22 → μ' k = μ k := by
  intro d
  induction d with
  | zero =>
    intro f m μ h1 h2 hC
    obtain ⟨f, rfl⟩ : ∃ g, f = g + 1 := ⟨f - 1, by omega⟩
    have zn : μ 1 0 4 = me_N (a.w * a.h) := hC.nn
    have em : m = a.w * a.h := by omega
    refine ⟨μ, ?_, em ▸ hC, fun _ _ => rfl⟩
    show f_Works_passBarrier_b34 _ _ _ = _
    unfold f_Works_passBarrier_b34
    rw [zn, if_pos (by rw [me_N_le (by omega) (by omega)]; omega)]
  | succ d ih =>
    intro f m μ h1 h2 hC
    obtain ⟨f, rfl⟩ : ∃ g, f = g + 1 := ⟨f - 1, by omega⟩
    have zn : μ 1 0 4 = me_N (a.w * a.h) := hC.nn
    have zco : μ 22 m 7 = a.co m := (hC.co m (by omega)).trans gh_b1_co
    have zca : μ 22 m 6 = me_N (a.ca m) := (hC.ca m (by omega)).trans (by rw [gh_b1_ca])
    by_cases e : a.co m = 98
    · have c1 : me_RC (gh_b1 a (m + 1)) (me_up (me_up μ 22 m 7 114) 22 m 6 (me_N (a.ca m + 1))) := ((hC.w_co m 114).w_ca m (a.ca m + 1)).eq (gh_b1_s e)
      obtain ⟨μ', k1, k2, k3⟩ := ih f (m + 1) _ (by omega) (by omega) c1
      refine ⟨μ', ?_, k2, fun k hk => ?_⟩
      · show f_Works_passBarrier_b34 _ _ _ = _
        unfold f_Works_passBarrier_b34
        rw [zn, if_neg (by rw [me_N_le (by omega) (by omega)]; omega), me_gd_n (by omega) (by omega), me_N_ix (by omega), zco, if_pos e, me_lt_s, me_up_jn (show ¬ 6 = 7 by decide), zca, me_N_1, me_N_add, me_lt_s, me_N_inc, me_lt_s]
        exact k1
      · rw [k3 k hk]
        funext i j
        rw [me_up_kn hk, me_up_kn hk]
    · obtain ⟨μ', k1, k2, k3⟩ := ih f (m + 1) μ (by omega) (by omega) (hC.eq (gh_b1_n e))
      refine ⟨μ', ?_, k2, k3⟩
      show f_Works_passBarrier_b34 _ _ _ = _
      unfold f_Works_passBarrier_b34
      rw [zn, if_neg (by rw [me_N_le (by omega) (by omega)]; omega), me_gd_n (by omega) (by omega), me_N_ix (by omega), zco, if_neg e, me_N_inc, me_lt_s]
      exact k1
theorem y_bar2 {a : me_S} {μ : me_M} (hC : me_RC a μ) (hwh : a.w * a.h ≤ 16) : ∀ (d f m : Nat), m + d = a.w * a.h → d < f → ((∃ i, m ≤ i ∧ i < a.w * a.h ∧ gh_ac a i) ∧ f_Works_passBarrier_h2 f μ (me_N m) = some (μ, ())) ∨ ((¬ ∃ i, m ≤ i ∧ i < a.w * a.h ∧ gh_ac a i) ∧ f_Works_passBarrier_h2 f μ (me_N m) = f_Works_passBarrier_h34 me_FU μ 0) := by
  intro d
  induction d with
  | zero =>
    intro f m h1 h2
    obtain ⟨f, rfl⟩ : ∃ g, f = g + 1 := ⟨f - 1, by omega⟩
    right
    refine ⟨fun q => by obtain ⟨i, q1, q2, -⟩ := q; omega, ?_⟩
    show f_Works_passBarrier_b2 _ _ _ = _
    unfold f_Works_passBarrier_b2
    rw [hC.nn, if_pos (by rw [me_N_le (by omega) (by omega)]; omega)]
  | succ d ih =>
    intro f m h1 h2
    obtain ⟨f, rfl⟩ : ∃ g, f = g + 1 := ⟨f - 1, by omega⟩
    have eqn : f_Works_passBarrier_h2 (f + 1) μ (me_N m) = if a.co m = 114 then some (μ, ()) else if a.co m = 119 then some (μ, ()) else f_Works_passBarrier_h2 f μ (me_N (m + 1)) := by
      show f_Works_passBarrier_b2 _ _ _ = _
      unfold f_Works_passBarrier_b2 f_Core_isActive f_Core_isActive_b18
      rw [hC.nn, if_neg (by rw [me_N_le (by omega) (by omega)]; omega), me_gd_n (by omega) (by omega), me_N_ix (by omega), hC.co m (by omega), me_N_inc, me_lt_s]
      by_cases e1 : a.co m = 114
      · rw [if_pos e1, if_pos e1, me_bd_s, if_neg (by decide)]
      · rw [if_neg e1, if_neg e1]
        by_cases e2 : a.co m = 119
        · rw [if_pos e2, if_pos e2, me_bd_s, if_neg (by decide)]
        · rw [if_neg e2, if_neg e2, me_bd_s, if_pos (by rfl)]
    rw [eqn]
    by_cases e1 : a.co m = 114
    · left
      exact ⟨⟨m, Nat.le_refl _, by omega, Or.inl e1⟩, if_pos e1⟩
    · by_cases e2 : a.co m = 119
      · left
        exact ⟨⟨m, Nat.le_refl _, by omega, Or.inr e2⟩, by rw [if_neg e1, if_pos e2]⟩
      · rw [if_neg e1, if_neg e2]
        rcases ih f (m + 1) (by omega) (by omega) with ⟨⟨i, q1, q2, q3⟩, q4⟩ | ⟨q1, q2⟩
        · exact Or.inl ⟨⟨i, by omega, q2, q3⟩, q4⟩
        · refine Or.inr ⟨fun q => ?_, q2⟩
          obtain ⟨i, g1, g2, g3⟩ := q
          by_cases e : i = m
          · rw [e] at g3
            exact g3.elim e1 e2
          · exact q1 ⟨i, by omega, g2, g3⟩
/-- after the barrier -/
noncomputable def gh_bar (a : me_S) : me_S := @ite _ (∃ i, i < a.w * a.h ∧ gh_ac a i) (Classical.propDecidable _) a (gh_b1 a (a.w * a.h))
theorem y_bar {a : me_S} {μ : me_M} (hC : me_RC a μ) (hwh : a.w * a.h ≤ 16) : ∃ μ', f_Works_passBarrier μ = some (μ', ()) ∧ me_RC (gh_bar a) μ' ∧ ∀ k, ¬ k = 22 → μ' k = μ k := by
  unfold gh_bar
  rcases y_bar2 hC hwh (a.w * a.h) me_FU 0 (Nat.zero_add _) (by unfold me_FU; omega) with ⟨⟨i, q1, q2, q3⟩, q4⟩ | ⟨q1, q2⟩
  · rw [if_pos ⟨i, q2, q3⟩]
    exact ⟨μ, q4, hC, fun _ _ => rfl⟩
  · rw [if_neg (fun q => by obtain ⟨i, g1, g2⟩ := q; exact q1 ⟨i, Nat.zero_le _, g1, g2⟩)]
    obtain ⟨μ', k1, k2, k3⟩ := y_bar34 hwh (a.w * a.h) me_FU 0 μ (Nat.zero_add _) (by unfold me_FU; omega) (hC.eq gh_b1_0)
    exact ⟨μ', q2.trans k1, k2, k3⟩
/-- those woken up to m are awake -/
def gh_w1 (a : me_S) (W : Nat → Bool) (m : Nat) : me_S := me_S.s_aw a (fun n => a.aw n || (decide (n < m) && W n))
theorem gh_w1_0 {a : me_S} {W : Nat → Bool} : me_Eq a (gh_w1 a W 0) := by
  have e1 : a.aw = fun n => a.aw n || (decide (n < 0) && W n) := funext fun n => by rw [decide_eq_false (Nat.not_lt_zero n), Bool.false_and, Bool.or_false]
  exact ⟨rfl, rfl, rfl, rfl, rfl, rfl, rfl, rfl, rfl, rfl, rfl, rfl, rfl, rfl, rfl, rfl, rfl, rfl, rfl, rfl, rfl, rfl, rfl, rfl, rfl, rfl, rfl, rfl, e1, rfl, rfl, rfl, rfl, rfl, rfl, rfl, rfl, rfl, rfl, rfl, rfl⟩
theorem gh_w1_s {a : me_S} {W : Nat → Bool} {m : Nat} : me_Eq (me_S.s_aw (gh_w1 a W m) (me_fu (gh_w1 a W m).aw m (a.aw m || W m))) (gh_w1 a W (m + 1)) := by
  have e1 : me_fu (gh_w1 a W m).aw m (a.aw m || W m) = fun n => a.aw n || (decide (n < m + 1) && W n) := by
    funext n
    rw [me_fu_ap]
    by_cases e : n = m
    · rw [if_pos e, e, decide_eq_true (Nat.lt_succ_self m), Bool.true_and]
    · rw [if_neg e]
      show (a.aw n || (decide (n < m) && W n)) = _
      rw [show decide (n < m) = decide (n < m + 1) from decide_eq_decide.mpr ⟨fun h => by omega, fun h => by omega⟩]
  exact ⟨rfl, rfl, rfl, rfl, rfl, rfl, rfl, rfl, rfl, rfl, rfl, rfl, rfl, rfl, rfl, rfl, rfl, rfl, rfl, rfl, rfl, rfl, rfl, rfl, rfl, rfl, rfl, rfl, e1, rfl, rfl, rfl, rfl, rfl, rfl, rfl, rfl, rfl, rfl, rfl, rfl⟩
theorem gh_w1_n {a : me_S} {W : Nat → Bool} {m : Nat} (h : W m = false) : me_Eq (gh_w1 a W m) (gh_w1 a W (m + 1)) := by
  have e1 : (fun n => a.aw n || (decide (n < m) && W n)) = fun n => a.aw n || (decide (n < m + 1) && W n) := by
    funext n
    by_cases e : n = m
    · rw [e, h, Bool.and_false, Bool.and_false]
    · rw [show decide (n < m) = decide (n < m + 1) from decide_eq_decide.mpr ⟨fun h => by omega, fun h => by omega⟩]
  have e2 : gh_w1 a W m = gh_w1 a W (m + 1) := congrArg (me_S.s_aw a) e1
  rw [e2]
  exact me_Eq.re
theorem gh_w1_aw {a : me_S} {W : Nat → Bool} {m : Nat} : (gh_w1 a W m).aw m = a.aw m := by
  show (a.aw m || (decide (m < m) && W m)) = a.aw m
  rw [decide_eq_false (Nat.lt_irrefl m), Bool.false_and, Bool.or_false]
theorem y_end {a : me_S} {W : Nat → Bool} {B : Nat} (hwh : a.w * a.h ≤ 16) : ∀ (d f m : Nat) (μ : me_M), m + d = a.w * a.h → d < f → me_RC (gh_w1 a W m) μ → μ 30 0 6 = me_N B → (∀ n, m ≤ n → n < 16 → μ 13 n 4 = me_bi (W n)) → (∀ n, n < m → μ 13 n 4 = 0) → (∀ n, ¬ n < a.w * a.h → W n = false) → ∃ μ', f_Mover_endBeat_h2 f μ (me_N m) = some (μ', ()) ∧ me_RC (me_S.s_bt (gh_w1 a W (a.w * a.h)) B) μ' ∧ (∀ n, n < 16 → μ' 13 n 4 = 0) ∧ μ' 30 0 7 = μ 30 0 7 ∧ ∀ k, ¬ k = 13 → ¬ k = 30 → μ' k = μ k := by
  intro d
  induction d with
  | zero =>
    intro f m μ h1 h2 hC hnow hw1 hw0 hwo
    obtain ⟨f, rfl⟩ : ∃ g, f = g + 1 := ⟨f - 1, by omega⟩
    have zn : μ 1 0 4 = me_N (a.w * a.h) := hC.nn
    have em : m = a.w * a.h := by omega
    refine ⟨me_up μ 30 0 5 (me_N B), ?_, (em ▸ hC).w_bt B, fun n hn => ?_, me_up_jn (by decide), fun k _ hk => ?_⟩
    · show f_Mover_endBeat_b2 _ _ _ = _
      unfold f_Mover_endBeat_b2
      rw [zn, if_pos (by rw [me_N_le (by omega) (by omega)]; omega), hnow, me_lt_s]
    · rw [me_up_kn (by decide)]
      by_cases e : n < m
      · exact hw0 n e
      · rw [hw1 n (by omega) hn, hwo n (by omega)]
        rfl
    · funext i j
      rw [me_up_kn hk]
  | succ d ih =>
    intro f m μ h1 h2 hC hnow hw1 hw0 hwo
    obtain ⟨f, rfl⟩ : ∃ g, f = g + 1 := ⟨f - 1, by omega⟩
    have zn : μ 1 0 4 = me_N (a.w * a.h) := hC.nn
    have zw := hw1 m (Nat.le_refl _) (by omega)
    cases hW : W m with
    | false =>
      rw [hW] at zw
      obtain ⟨μ', k1, k2⟩ := ih f (m + 1) μ (by omega) (by omega) (hC.eq (gh_w1_n hW)) hnow (fun n h => hw1 n (by omega)) (fun n hn => by
        by_cases e : n = m
        · rw [e]
          exact zw
        · exact hw0 n (by omega)) hwo
      refine ⟨μ', ?_, k2⟩
      show f_Mover_endBeat_b2 _ _ _ = _
      unfold f_Mover_endBeat_b2
      rw [zn, if_neg (by rw [me_N_le (by omega) (by omega)]; omega), me_gd_n (by omega) (by omega), me_N_ix (by omega), zw, if_pos (by rfl), me_N_inc, me_lt_s]
      exact k1
    | true =>
      rw [hW] at zw
      have c1 : me_RC (gh_w1 a W (m + 1)) (me_up (me_up μ 13 m 3 1) 13 m 4 0) := by
        refine ((hC.w_aw m true).w_wk m 0).eq ?_
        have h := gh_w1_s (a := a) (W := W) (m := m)
        rw [hW, Bool.or_true] at h
        exact h
      obtain ⟨μ', k1, k2, k3, k4, k5⟩ := ih f (m + 1) _ (by omega) (by omega) c1 (by rw [me_up_kn (by decide), me_up_kn (by decide)]; exact hnow) (fun n h1' h2' => by
        rw [me_up_in (by omega), me_up_in (by omega)]
        exact hw1 n (by omega) h2') (fun n hn => by
        by_cases e : n = m
        · rw [e, me_up_at]
        · rw [me_up_in e, me_up_in e]
          exact hw0 n (by omega)) hwo
      refine ⟨μ', ?_, k2, k3, ?_, fun k hk hk' => ?_⟩
      · show f_Mover_endBeat_b2 _ _ _ = _
        unfold f_Mover_endBeat_b2
        rw [zn, if_neg (by rw [me_N_le (by omega) (by omega)]; omega), me_gd_n (by omega) (by omega), me_N_ix (by omega), zw, if_neg (by decide), me_lt_s, me_lt_s, me_N_inc, me_lt_s]
        exact k1
      · rw [k4, me_up_kn (by decide), me_up_kn (by decide)]
      · rw [k5 k hk hk']
        funext i j
        rw [me_up_kn hk, me_up_kn hk]
theorem me_bi_or {b c : Bool} : me_bi b ||| me_bi c = me_bi (b || c) := by
  cases b <;> cases c <;> decide
theorem me_ni_and {b c : Bool} : vp_nar .boolean (me_ni b &&& me_ni c) = me_ni (b || c) := by
  cases b <;> cases c <;> decide +kernel
theorem m_149 {a : me_S} {W : Nat → Bool} (hwh : a.w * a.h ≤ 16) : ∀ (d f m : Nat) (p q : Bool) (ν : me_M), m + d = a.w * a.h → d < f → me_RM (gh_w1 a W m) ν → (∀ n, n < a.w * a.h → ν 86 0 n = me_bi (W n)) → ∃ ν' p' q', f_M_beatNow_h149 f ν (me_bi p) (me_bi q) (me_N m) = f_M_beatNow_h237 me_FU ν' (me_bi p') (me_bi q') 0 ∧ me_RM (gh_w1 a W (a.w * a.h)) ν' ∧ (p' = true ↔ p = true ∨ ∃ i, m ≤ i ∧ i < a.w * a.h ∧ a.co i = 98) ∧ (q' = true ↔ q = true ∨ ∃ i, m ≤ i ∧ i < a.w * a.h ∧ gh_ac a i) ∧ ∀ k, ¬ k = 85 → ν' k = ν k := by
  intro d
  induction d with
  | zero =>
    intro f m p q ν h1 h2 hM hw
    obtain ⟨f, rfl⟩ : ∃ g, f = g + 1 := ⟨f - 1, by omega⟩
    have zw : ν 36 0 0 = me_N a.w := hM.w
    have zh : ν 36 0 1 = me_N a.h := hM.h
    have em : m = a.w * a.h := by omega
    refine ⟨ν, p, q, ?_, em ▸ hM, ⟨Or.inl, fun g => g.elim id (fun g => by obtain ⟨i, g1, g2, -⟩ := g; omega)⟩, ⟨Or.inl, fun g => g.elim id (fun g => by obtain ⟨i, g1, g2, -⟩ := g; omega)⟩, fun _ _ => rfl⟩
    show f_M_beatNow_b149 _ _ _ _ _ = _
    unfold f_M_beatNow_b149 f_M_nodes
    rw [zw, zh, me_N_mul, me_bd_s, if_pos (by rw [me_N_le (by omega) (by omega)]; omega)]
  | succ d ih =>
    intro f m p q ν h1 h2 hM hw
    obtain ⟨f, rfl⟩ : ∃ g, f = g + 1 := ⟨f - 1, by omega⟩
    have zw : ν 36 0 0 = me_N a.w := hM.w
    have zh : ν 36 0 1 = me_N a.h := hM.h
    have zaw : ν 85 0 m = me_ni (a.aw m) := (hM.aw m (by omega)).trans (by rw [gh_w1_aw])
    have zco : ∀ x, me_up ν 85 0 m x 89 0 m = a.co m := fun x => by rw [me_up_kn (by decide)]; exact hM.co m (by omega)
    have c1 : me_RM (gh_w1 a W (m + 1)) (me_up ν 85 0 m (me_ni (a.aw m || W m))) := (hM.w_aw m (a.aw m || W m)).eq gh_w1_s.m
    have e178 : f_M_beatNow_h149 (f + 1) ν (me_bi p) (me_bi q) (me_N m) = f_M_beatNow_b178 (f_M_beatNow_h149 f) ν (me_bi p) (me_bi q) (me_N m) (me_ni (W m)) (me_ni (a.aw m)) (me_N m) := by
      show f_M_beatNow_b149 _ _ _ _ _ = _
      unfold f_M_beatNow_b149 f_M_nodes
      rw [zw, zh, me_N_mul, me_bd_s, if_neg (by rw [me_N_le (by omega) (by omega)]; omega), me_gd_n (by omega) (by omega), me_gd_n (by omega) (by omega), me_N_ix (by omega), hw m (by omega), zaw]
      cases W m with
      | false => rw [if_pos (by rfl)]; rfl
      | true => rw [if_neg (by decide)]; rfl
    have e149 : f_M_beatNow_h149 (f + 1) ν (me_bi p) (me_bi q) (me_N m) = f_M_beatNow_h149 f (me_up ν 85 0 m (me_ni (a.aw m || W m))) (me_bi (p || decide (a.co m = 98))) (me_bi (q || (decide (a.co m = 114) || decide (a.co m = 119)))) (me_N (m + 1)) := by
      rw [e178]
      unfold f_M_beatNow_b178
      rw [me_gd_n (by omega) (by omega), me_N_ix (by omega), me_ni_and, me_lt_s, me_gd_n (by omega) (by omega), zco]
      have e197 : ∀ s0 : Bool, f_M_beatNow_b197 (f_M_beatNow_h149 f) (me_up ν 85 0 m (me_ni (a.aw m || W m))) (me_bi q) (me_N m) (me_bi s0) (me_bi p) = f_M_beatNow_h149 f (me_up ν 85 0 m (me_ni (a.aw m || W m))) (me_bi (p || s0)) (me_bi (q || (decide (a.co m = 114) || decide (a.co m = 119)))) (me_N (m + 1)) := fun s0 => by
        unfold f_M_beatNow_b197 f_M_beatNow_b222
        rw [me_bi_or, me_lt_s, me_gd_n (by omega) (by omega), me_N_ix (by omega), zco, me_gd_n (by omega) (by omega)]
        have o1 : me_bi q ||| (1 : Int32) = me_bi (q || true) := me_bi_or (c := true)
        have o0 : me_bi q ||| (0 : Int32) = me_bi (q || false) := me_bi_or (c := false)
        by_cases g1 : a.co m = 114
        · rw [if_pos g1, o1, me_lt_s, me_N_inc, me_lt_s, decide_eq_true g1, Bool.true_or]
        · rw [if_neg g1]
          by_cases g2 : a.co m = 119
          · rw [if_pos g2, o1, me_lt_s, me_N_inc, me_lt_s, decide_eq_true g2, Bool.or_true, Bool.or_true, Bool.or_true]
          · rw [if_neg g2, o0, me_lt_s, me_N_inc, me_lt_s, decide_eq_false g1, decide_eq_false g2, Bool.or_false, Bool.or_false, Bool.or_false]
      by_cases g : a.co m = 98
      · rw [if_pos g, decide_eq_true g]
        exact e197 true
      · rw [if_neg g, decide_eq_false g]
        exact e197 false
    obtain ⟨ν', p', q', k1, k2, k3, k4, k5⟩ := ih f (m + 1) (p || decide (a.co m = 98)) (q || (decide (a.co m = 114) || decide (a.co m = 119))) _ (by omega) (by omega) c1 (fun n hn => by rw [me_up_kn (by decide)]; exact hw n hn)
    refine ⟨ν', p', q', e149.trans k1, k2, ?_, ?_, fun k hk => ?_⟩
    · rw [k3, Bool.or_eq_true, decide_eq_true_eq]
      constructor
      · rintro ((g | g) | ⟨i, g1, g2, g3⟩)
        · exact Or.inl g
        · exact Or.inr ⟨m, Nat.le_refl _, by omega, g⟩
        · exact Or.inr ⟨i, by omega, g2, g3⟩
      · rintro (g | ⟨i, g1, g2, g3⟩)
        · exact Or.inl (Or.inl g)
        · by_cases e : i = m
          · rw [e] at g3
            exact Or.inl (Or.inr g3)
          · exact Or.inr ⟨i, by omega, g2, g3⟩
    · rw [k4, Bool.or_eq_true, Bool.or_eq_true, decide_eq_true_eq, decide_eq_true_eq]
      constructor
      · rintro ((g | g) | ⟨i, g1, g2, g3⟩)
        · exact Or.inl g
        · exact Or.inr ⟨m, Nat.le_refl _, by omega, g⟩
        · exact Or.inr ⟨i, by omega, g2, g3⟩
      · rintro (g | ⟨i, g1, g2, g3⟩)
        · exact Or.inl (Or.inl g)
        · by_cases e : i = m
          · rw [e] at g3
            exact Or.inl (Or.inr g3)
          · exact Or.inr ⟨i, by omega, g2, g3⟩
    · rw [k5 k hk]
      funext i j
      rw [me_up_kn hk]
theorem m_237 {a : me_S} (hwh : a.w * a.h ≤ 16) : ∀ (d f m : Nat) (ν : me_M), m + d = a.w * a.h → d < f → me_RM (gh_b1 a m) ν → ∃ ν', f_M_beatNow_h237 f ν 1 0 (me_N m) = some (ν', ()) ∧ me_RM (me_S.s_bt (gh_b1 a (a.w * a.h)) (a.bt + 1)) ν' ∧ (∀ k, ¬ (k = 36 ∨ k = 89 ∨ k = 91) → ν' k = ν k) ∧ ∀ j, ¬ j = 4 → ν' 36 0 j = ν 36 0 j := by
  intro d
  induction d with
  | zero =>
    intro f m ν h1 h2 hM
    obtain ⟨f, rfl⟩ : ∃ g, f = g + 1 := ⟨f - 1, by omega⟩
    have zw : ν 36 0 0 = me_N a.w := hM.w
    have zh : ν 36 0 1 = me_N a.h := hM.h
    have zb : ν 36 0 4 = me_N a.bt := hM.bt
    have em : m = a.w * a.h := by omega
    refine ⟨me_up ν 36 0 4 (me_N (a.bt + 1)), ?_, (em ▸ hM).w_bt (a.bt + 1), fun k hk => ?_, fun j hj => me_up_jn hj⟩
    · show f_M_beatNow_b237 _ _ _ _ _ = _
      unfold f_M_beatNow_b237 f_M_beatNow_b288 f_M_nodes
      rw [zw, zh, me_N_mul, me_bd_s, if_pos (by rw [me_N_le (by omega) (by omega)]; omega), zb, me_N_1, me_N_add, me_lt_s]
    · funext i j
      rw [me_up_kn (by omega)]
  | succ d ih =>
    intro f m ν h1 h2 hM
    obtain ⟨f, rfl⟩ : ∃ g, f = g + 1 := ⟨f - 1, by omega⟩
    have zw : ν 36 0 0 = me_N a.w := hM.w
    have zh : ν 36 0 1 = me_N a.h := hM.h
    have zco : ν 89 0 m = a.co m := (hM.co m (by omega)).trans gh_b1_co
    have h10 : ¬ (1 : Int32) = 0 := by decide
    by_cases e : a.co m = 98
    · have hc98 : (gh_b1 a m).co m = 98 := gh_b1_co.trans e
      have zca : ν 91 0 m = me_N (a.ca m) := (hM.ca m (by omega)).trans (by rw [hc98, if_neg (by decide), gh_b1_ca])
      have c0 := hM.w_co m 114 (fun q => absurd q (by decide)) (by rw [zca, if_neg (by decide), gh_b1_ca])
      have c1 : me_RM (gh_b1 a (m + 1)) (me_up (me_up ν 89 0 m 114) 91 0 m (me_N (a.ca m + 1))) := (c0.w_ca m (a.ca m + 1) (by show ¬ me_fu (gh_b1 a m).co m 114 m = 45; rw [me_fu_at]; decide)).eq (gh_b1_s e).m
      obtain ⟨ν', k1, k2, k3, k4⟩ := ih f (m + 1) _ (by omega) (by omega) c1
      refine ⟨ν', ?_, k2, fun k hk => ?_, fun j hj => ?_⟩
      · show f_M_beatNow_b237 _ _ _ _ _ = _
        unfold f_M_beatNow_b237 f_M_nodes
        rw [zw, zh, me_N_mul, me_bd_s, if_neg (by rw [me_N_le (by omega) (by omega)]; omega), if_neg h10, if_pos (Eq.refl (0 : Int32)), me_gd_n (by omega) (by omega), me_N_ix (by omega), zco, if_pos e, me_gd_n (by omega) (by omega), show vp_nar .char 114 = (114 : Int32) from rfl, me_lt_s, me_gd_n (by omega) (by omega), me_gd_n (by omega) (by omega), me_up_kn (show ¬ 91 = 89 by decide), zca, show (me_N (a.ca m) + 1 : Int32) = me_N (a.ca m + 1) from me_N_add _ 1, me_lt_s, me_N_inc, me_lt_s]
        exact k1
      · rw [k3 k hk]
        funext i j
        rw [me_up_kn (by omega), me_up_kn (by omega)]
      · rw [k4 j hj, me_up_kn (by decide), me_up_kn (by decide)]
    · obtain ⟨ν', k1, k2, k3, k4⟩ := ih f (m + 1) ν (by omega) (by omega) (hM.eq (gh_b1_n e).m)
      refine ⟨ν', ?_, k2, k3, k4⟩
      show f_M_beatNow_b237 _ _ _ _ _ = _
      unfold f_M_beatNow_b237 f_M_nodes
      rw [zw, zh, me_N_mul, me_bd_s, if_neg (by rw [me_N_le (by omega) (by omega)]; omega), if_neg h10, if_pos (Eq.refl (0 : Int32)), me_gd_n (by omega) (by omega), me_N_ix (by omega), zco, if_neg e, me_N_inc, me_lt_s]
      exact k1
