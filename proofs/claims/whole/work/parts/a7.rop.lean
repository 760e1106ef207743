/-! the reference's rows: a piece added, dropped -/
theorem m_add {a : me_S} {μ : me_M} (hM : me_RM a μ) {n c k p i : Nat} (hn : n < 16) (hc : c < 2) (hk : k < 5) (hl : (a.q (5 * (2 * n + c) + k)).length < 4) : ∃ μ', f_M_adds μ (me_N n) (me_N c) (me_N k) (me_N (8 * p + i)) = some (μ', ()) ∧ me_RM (me_S.s_q a (me_fu a.q (5 * (2 * n + c) + k) (a.q (5 * (2 * n + c) + k) ++ [(p, i, a.bt + 1)]))) μ' ∧ μ' 36 0 5 = 1 ∧ (∀ k', ¬ (k' = 36 ∨ k' = 53 ∨ k' = 57 ∨ k' = 60) → μ' k' = μ k') ∧ ∀ j, ¬ j = 5 → μ' 36 0 j = μ 36 0 j := by
  have hs := hM.qn (2 * n + c) k (by omega) hk
  unfold f_M_adds
  simp only [me_gd_n (show n < 2147483648 by omega) hn, me_gd_n (show c < 2147483648 by omega) hc, me_gd_n (show k < 2147483648 by omega) hk, me_N_ix (show n < 2147483648 by omega), me_N_ix (show c < 2147483648 by omega), me_N_ix (show k < 2147483648 by omega), me_lt_s, hs, me_gd_n (show (a.q (5 * (2 * n + c) + k)).length < 2147483648 by omega) hl, me_N_ix (show (a.q (5 * (2 * n + c) + k)).length < 2147483648 by omega)]
  refine ⟨_, rfl, (me_RM.w_q hM hk (fun k' i' j h => ?_) ?_ (fun j e he => ?_)).w_mv 1, me_up_at, fun k' h => ?_, fun j hj => ?_⟩
  · rw [me_up_ap, if_neg (by omega), me_up_ap, if_neg (by omega), me_up_ap, if_neg (by omega)]
  · rw [me_up_at, me_up_kn (by decide), me_up_kn (by decide), hs, me_N_1, me_N_add, List.length_append]
    rfl
  · rcases me_lst1 he with ⟨h1, h2⟩ | ⟨h1, h2⟩
    · refine ⟨?_, ?_⟩
      · rw [me_up_kn (by decide), me_up_kn (by decide), me_up_jn (by omega)]
        exact hM.q1 (2 * n + c) k j e (by omega) hk h1
      · rw [me_up_kn (by decide), me_up_jn (by omega), me_up_kn (by decide)]
        exact hM.q3 (2 * n + c) k j e (by omega) hk h1
    · rw [h1, h2]
      refine ⟨?_, ?_⟩
      · rw [me_up_kn (by decide), me_up_kn (by decide), me_up_at]
      · rw [me_up_kn (by decide), me_up_at, me_up_kn (by decide), hM.bt, me_N_1, me_N_add]
  · funext i' j
    rw [me_up_kn (by omega), me_up_kn (by omega), me_up_kn (by omega), me_up_kn (by omega)]
  · rw [me_up_jn hj, me_up_kn (by decide), me_up_kn (by decide), me_up_kn (by decide)]
theorem me_cpok_o {x y n : Nat} (h1 : x + n ≤ 4) (h2 : y + n ≤ 4) : me_cpok (me_N x) (me_N y) (me_N n) 4 = true := by
  unfold me_cpok
  rw [decide_eq_true (me_N_nneg (show x < 2147483648 by omega)), decide_eq_true (me_N_nneg (show y < 2147483648 by omega)), decide_eq_true (me_N_nneg (show n < 2147483648 by omega))]
  have e : ∀ {z : Nat}, z < 2147483648 → (me_N z).toNatClampNeg = z := fun {z} h => me_N_ix h
  rw [e (show x < 2147483648 by omega), e (show y < 2147483648 by omega), e (show n < 2147483648 by omega), decide_eq_true h1, decide_eq_true h2]
  rfl
theorem me_cpy_ap {μ : me_M} {k i x y n k' i' j' : Nat} (hx : x < 2147483648) (hy : y < 2147483648) (hn : n < 2147483648) : me_cpy μ k i (me_N x) (me_N y) (me_N n) k' i' j' = if k' = k ∧ i' = i then (if y ≤ j' ∧ j' < y + n then μ k i (x + (j' - y)) else μ k i j') else μ k' i' j' := by
  have e : ∀ {z : Nat}, z < 2147483648 → (me_N z).toNatClampNeg = z := fun {z} h => me_N_ix h
  unfold me_cpy va_cpy
  rw [e hx, e hy, e hn]
theorem m_drop {a : me_S} {μ : me_M} (hM : me_RM a μ) {n c k j : Nat} (hn : n < 16) (hc : c < 2) (hk : k < 5) (hl : (a.q (5 * (2 * n + c) + k)).length ≤ 4) (hj : j < (a.q (5 * (2 * n + c) + k)).length) : ∃ μ', f_M_drops μ (me_N n) (me_N c) (me_N k) (me_N j) = some (μ', ()) ∧ me_RM (me_S.s_q a (me_fu a.q (5 * (2 * n + c) + k) ((a.q (5 * (2 * n + c) + k)).eraseIdx j))) μ' ∧ ∀ k', ¬ (k' = 53 ∨ k' = 57 ∨ k' = 60) → μ' k' = μ k' := by
  have hs := hM.qn (2 * n + c) k (by omega) hk
  unfold f_M_drops
  simp only [me_gd_n (show n < 2147483648 by omega) hn, me_gd_n (show c < 2147483648 by omega) hc, me_gd_n (show k < 2147483648 by omega) hk, me_N_ix (show n < 2147483648 by omega), me_N_ix (show c < 2147483648 by omega), me_N_ix (show k < 2147483648 by omega), me_lt_s, hs, me_N_sub (show j ≤ (a.q (5 * (2 * n + c) + k)).length by omega), me_N_1, me_N_sub (show 1 ≤ (a.q (5 * (2 * n + c) + k)).length - j by omega), me_N_add, me_gd_t (me_cpok_o (x := j + 1) (y := j) (n := (a.q (5 * (2 * n + c) + k)).length - j - 1) (by omega) (by omega))]
  refine ⟨_, rfl, me_RM.w_q hM hk (fun k' i' j' h => ?_) ?_ (fun j' e he => ?_), fun k' h => ?_⟩
  · rw [me_up_ap, if_neg (by omega), me_cpy_ap (by omega) (by omega) (by omega), if_neg (by omega), me_cpy_ap (by omega) (by omega) (by omega), if_neg (by omega)]
  · rw [me_up_at, me_cpy_ap (by omega) (by omega) (by omega), if_neg (by omega), me_cpy_ap (by omega) (by omega) (by omega), if_neg (by omega), hs, me_N_sub (by omega), List.length_eraseIdx, if_pos hj]
  · have hlt : j' < (a.q (5 * (2 * n + c) + k)).length - 1 := by
      have := (List.getElem?_eq_some_iff.mp he).1
      rw [List.length_eraseIdx, if_pos hj] at this
      exact this
    rw [List.getElem?_eraseIdx] at he
    refine ⟨?_, ?_⟩
    · rw [me_up_kn (by decide), me_cpy_ap (by omega) (by omega) (by omega), if_neg (by omega), me_cpy_ap (by omega) (by omega) (by omega), if_pos ⟨rfl, rfl⟩]
      by_cases g : j' < j
      · rw [if_pos g] at he
        rw [if_neg (by omega)]
        exact hM.q1 (2 * n + c) k j' e (by omega) hk he
      · rw [if_neg g] at he
        rw [if_pos (by omega), show j + 1 + (j' - j) = j' + 1 by omega]
        exact hM.q1 (2 * n + c) k (j' + 1) e (by omega) hk he
    · rw [me_up_kn (by decide), me_cpy_ap (by omega) (by omega) (by omega), if_pos ⟨rfl, rfl⟩]
      by_cases g : j' < j
      · rw [if_pos g] at he
        rw [if_neg (by omega), me_cpy_ap (by omega) (by omega) (by omega), if_neg (by omega)]
        exact hM.q3 (2 * n + c) k j' e (by omega) hk he
      · rw [if_neg g] at he
        rw [if_pos (by omega), me_cpy_ap (by omega) (by omega) (by omega), if_neg (by omega), show j + 1 + (j' - j) = j' + 1 by omega]
        exact hM.q3 (2 * n + c) k (j' + 1) e (by omega) hk he
  · funext i' j'
    rw [me_up_kn (by omega), me_cpy_ap (by omega) (by omega) (by omega), if_neg (by omega), me_cpy_ap (by omega) (by omega) (by omega), if_neg (by omega)]
