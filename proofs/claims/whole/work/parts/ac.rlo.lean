/-! the reference loses a packet -/
theorem me_inc_m1 {x : Int32} : me_inc x (-1) = x - 1 := by
  unfold me_inc
  rw [show Int32.ofInt (-1) = -1 from rfl, Int32.sub_eq_add_neg]
theorem m_lose49 {p n c k : Nat} (hp : p < 200) (hn : n < 16) (hc : c < 2) (hk : k < 5) {K10 : me_M → Int32 → Int32 → Option (me_M × Unit)} {K20 : me_M → Int32 → Int32 → Int32 → Option (me_M × Unit)} {K28 : me_M → Int32 → Int32 → Int32 → Int32 → Option (me_M × Unit)} : ∀ (d f : Nat) (l1 l2 : List (Nat × Nat × Nat)) (g : me_S) (μ : me_M), l1.length = d → d < f → (l1 ++ l2).length ≤ 4 → (∀ e ∈ l1, e.1 < 200 ∧ e.2.1 < 8) → (∀ m, g.ro (5 * (2 * n + c) + k) = some m → m < 200) → g.q (5 * (2 * n + c) + k) = l1 ++ l2 → me_RM g μ → ∃ μ', f_M_loses_h49 K10 K20 K28 f μ (me_N p) (me_N n) (me_N c) (me_N k) (me_N d - 1) = K28 μ' (me_N p) (me_N n) (me_N c) (me_N (k + 1)) ∧ me_RM (me_S.s_q (me_S.s_ro g (me_fu g.ro (5 * (2 * n + c) + k) (if g.ro (5 * (2 * n + c) + k) = some p then none else g.ro (5 * (2 * n + c) + k)))) (me_fu g.q (5 * (2 * n + c) + k) (me_dr p l1 ++ l2))) μ' ∧ ∀ k', ¬ (k' = 53 ∨ k' = 57 ∨ k' = 60 ∨ k' = 63) → μ' k' = μ k' := by
  intro d
  induction d with
  | zero =>
    intro f l1 l2 g μ hl hf h4 he hb hq hM
    obtain ⟨f, rfl⟩ : ∃ g, f = g + 1 := ⟨f - 1, by omega⟩
    have el : l1 = [] := List.length_eq_zero_iff.mp hl
    rw [el, List.nil_append] at hq
    have zo := hM.ro (2 * n + c) k (by omega) hk
    have hmem : ∀ v, me_RM (me_S.s_ro g (me_fu g.ro (5 * (2 * n + c) + k) v)) (me_up μ 63 (2 * n + c) k (me_Op v)) → me_RM (me_S.s_q (me_S.s_ro g (me_fu g.ro (5 * (2 * n + c) + k) v)) (me_fu g.q (5 * (2 * n + c) + k) (me_dr p l1 ++ l2))) (me_up μ 63 (2 * n + c) k (me_Op v)) := fun v h => by
      refine h.eq ?_
      have e1 : g.q = me_fu g.q (5 * (2 * n + c) + k) (me_dr p l1 ++ l2) := by
        rw [el]
        exact (me_fu_id hq).symm
      exact ⟨rfl, rfl, rfl, rfl, rfl, rfl, rfl, rfl, rfl, rfl, rfl, rfl, rfl, rfl, rfl, rfl, rfl, rfl, e1, rfl, rfl, rfl, rfl, rfl, rfl, rfl, rfl, rfl, rfl, rfl, rfl, rfl, rfl, rfl, rfl, rfl, rfl⟩
    have eqn : f_M_loses_h49 K10 K20 K28 (f + 1) μ (me_N p) (me_N n) (me_N c) (me_N k) (me_N 0 - 1) = if me_Op (g.ro (5 * (2 * n + c) + k)) = me_N p then K28 (me_up μ 63 (2 * n + c) k (-1)) (me_N p) (me_N n) (me_N c) (me_N (k + 1)) else K28 (me_up μ 63 (2 * n + c) k (me_Op (g.ro (5 * (2 * n + c) + k)))) (me_N p) (me_N n) (me_N c) (me_N (k + 1)) := by
      show f_M_loses_b49 _ _ _ _ _ _ _ _ _ _ = _
      unfold f_M_loses_b49
      rw [if_pos (by decide)]
      simp only [me_gd_n (show n < 2147483648 by omega) hn, me_gd_n (show c < 2147483648 by omega) hc, me_gd_n (show k < 2147483648 by omega) hk, me_N_ix (show n < 2147483648 by omega), me_N_ix (show c < 2147483648 by omega), me_N_ix (show k < 2147483648 by omega), me_lt_s, zo, me_N_inc]
    rw [eqn]
    by_cases h : g.ro (5 * (2 * n + c) + k) = some p
    · rw [if_pos (by rw [h]; rfl), if_pos h]
      refine ⟨_, rfl, hmem none (hM.w_ro (2 * n + c) k none hk), fun k' hk' => ?_⟩
      funext i j
      rw [me_up_kn (by omega)]
    · rw [if_neg h]
      refine ⟨me_up μ 63 (2 * n + c) k (me_Op (g.ro (5 * (2 * n + c) + k))), ?_, hmem _ (hM.w_ro (2 * n + c) k _ hk), fun k' hk' => ?_⟩
      · rw [if_neg]
        cases ho : g.ro (5 * (2 * n + c) + k) with
        | none => exact me_N_m1n (by omega)
        | some m =>
          have := hb m ho
          intro q
          rw [ho] at h
          have q : me_N m = me_N p := q
          rw [me_N_inj (by omega) (by omega)] at q
          exact h (congrArg some q)
      · funext i j
        rw [me_up_kn (by omega)]
  | succ d ih =>
    intro f l1 l2 g μ hl hf h4 he hb hq hM
    obtain ⟨f, rfl⟩ : ∃ g, f = g + 1 := ⟨f - 1, by omega⟩
    obtain ⟨l, e, rfl⟩ : ∃ l e, l1 = l ++ [e] := by
      rcases List.eq_nil_or_concat l1 with h | ⟨l, e, h⟩
      · rw [h] at hl
        cases hl
      · exact ⟨l, e, by rw [h, List.concat_eq_append]⟩
    have hll : l.length = d := by
      rw [List.length_append] at hl
      exact Nat.succ.inj hl
    have hd4 : d < 4 := by
      rw [List.length_append, List.length_append, hll] at h4
      have h4 : d + 1 + l2.length ≤ 4 := h4
      omega
    have hdl : d < (g.q (5 * (2 * n + c) + k)).length := by
      rw [hq, List.length_append, List.length_append, hll]
      show d < d + 1 + l2.length
      omega
    have hj : (g.q (5 * (2 * n + c) + k))[d]? = some e := by
      rw [hq, List.append_assoc, List.getElem?_append_right (by omega), hll, Nat.sub_self]
      rfl
    obtain ⟨be1, be2⟩ := he e (List.mem_append.mpr (Or.inr List.mem_cons_self))
    have zp := hM.q1 (2 * n + c) k d e (by omega) hk hj
    have zdiv : me_N (8 * e.1 + e.2.1) / (8 : Int32) = me_N e.1 := by
      rw [me_N_8, me_N_div (by omega) (by omega) (by omega)]
      congr 1
      omega
    have edp : me_dr p (l ++ [e]) ++ l2 = if e.1 = p then me_dr p l ++ l2 else me_dr p l ++ (e :: l2) := by
      unfold me_dr
      rw [List.filter_append]
      by_cases h : e.1 = p
      · rw [if_pos h, List.filter_cons_of_neg (by unfold me_pq; rw [decide_eq_true h]; decide), List.filter_nil, List.append_nil]
      · rw [if_neg h, List.filter_cons_of_pos (by unfold me_pq; rw [decide_eq_false h]; rfl), List.filter_nil, List.append_assoc]
        rfl
    have eqn : f_M_loses_h49 K10 K20 K28 (f + 1) μ (me_N p) (me_N n) (me_N c) (me_N k) (me_N (d + 1) - 1) = if e.1 = p then me_b2 (f_M_drops μ (me_N n) (me_N c) (me_N k) (me_N d)) (fun μ24 _ => f_M_loses_h49 K10 K20 K28 f μ24 (me_N p) (me_N n) (me_N c) (me_N k) (me_N d - 1)) else f_M_loses_h49 K10 K20 K28 f μ (me_N p) (me_N n) (me_N c) (me_N k) (me_N d - 1) := by
      rw [me_N_1, me_N_sub (by omega), Nat.add_sub_cancel]
      show f_M_loses_b49 _ _ _ _ _ _ _ _ _ _ = _
      unfold f_M_loses_b49
      rw [if_neg (me_N_nneg (by omega))]
      simp only [me_gd_n (show n < 2147483648 by omega) hn, me_gd_n (show c < 2147483648 by omega) hc, me_gd_n (show k < 2147483648 by omega) hk, me_gd_n (show d < 2147483648 by omega) hd4, me_N_ix (show n < 2147483648 by omega), me_N_ix (show c < 2147483648 by omega), me_N_ix (show k < 2147483648 by omega), me_N_ix (show d < 2147483648 by omega), zp, zdiv, me_N_inj (show e.1 < 2147483648 by omega) (show p < 2147483648 by omega), me_lt_s, me_inc_m1]
      rfl
    rw [eqn, edp]
    by_cases h : e.1 = p
    · rw [if_pos h, if_pos h]
      obtain ⟨μ2, c1, c2, c3⟩ := m_drop hM hn hc hk (j := d) (by rw [hq]; exact h4) hdl
      have er : (g.q (5 * (2 * n + c) + k)).eraseIdx d = l ++ l2 := by
        rw [hq, List.append_assoc, List.eraseIdx_append_of_length_le (by omega), hll, Nat.sub_self]
        rfl
      rw [er] at c2
      obtain ⟨μ', g1, g2, g3⟩ := ih f l l2 (me_S.s_q g (me_fu g.q (5 * (2 * n + c) + k) (l ++ l2))) μ2 hll (by omega) (by rw [List.length_append, List.length_append] at h4; rw [List.length_append]; omega) (fun e' he' => he e' (List.mem_append.mpr (Or.inl he'))) hb me_fu_at c2
      refine ⟨μ', ?_, ?_, fun k' hk' => by rw [g3 k' hk', c3 k' (by omega)]⟩
      · rw [c1, me_b2_s]
        exact g1
      · refine g2.eq ?_
        have e1 : me_fu (me_fu g.q (5 * (2 * n + c) + k) (l ++ l2)) (5 * (2 * n + c) + k) (me_dr p l ++ l2) = me_fu g.q (5 * (2 * n + c) + k) (me_dr p l ++ l2) := by
          funext x
          rw [me_fu_ap, me_fu_ap, me_fu_ap]
          by_cases ex : x = 5 * (2 * n + c) + k
          · rw [if_pos ex, if_pos ex]
          · rw [if_neg ex, if_neg ex, if_neg ex]
        exact ⟨rfl, rfl, rfl, rfl, rfl, rfl, rfl, rfl, rfl, rfl, rfl, rfl, rfl, rfl, rfl, rfl, rfl, rfl, e1, rfl, rfl, rfl, rfl, rfl, rfl, rfl, rfl, rfl, rfl, rfl, rfl, rfl, rfl, rfl, rfl, rfl, rfl⟩
    · rw [if_neg h, if_neg h]
      exact ih f l (e :: l2) g μ hll (by omega) (by rw [List.append_assoc] at h4; exact h4) (fun e' he' => he e' (List.mem_append.mpr (Or.inl he'))) hb (by rw [hq, List.append_assoc]; rfl) hM
theorem m_lose28 {a : me_S} (hb : gh_bd a) {p n c : Nat} (hp : p < 200) (hn : n < 16) (hc : c < 2) {K10 : me_M → Int32 → Int32 → Option (me_M × Unit)} {K20 : me_M → Int32 → Int32 → Int32 → Option (me_M × Unit)} : ∀ (d f k : Nat) (P : Nat → Bool) (μ : me_M), k + d = 5 → d < f → me_RM (gh_ls a p P) μ → ∃ μ' P', f_M_loses_h28 K10 K20 f μ (me_N p) (me_N n) (me_N c) (me_N k) = K20 μ' (me_N p) (me_N n) (me_N (c + 1)) ∧ me_RM (gh_ls a p P') μ' ∧ (∀ x, P x = true ∨ (10 * n + 5 * c + k ≤ x ∧ x < 10 * n + 5 * c + 5) → P' x = true) ∧ ∀ k', ¬ (k' = 53 ∨ k' = 57 ∨ k' = 60 ∨ k' = 63) → μ' k' = μ k' := by
  intro d
  induction d with
  | zero =>
    intro f k P μ h1 h2 hM
    obtain ⟨f, rfl⟩ : ∃ g, f = g + 1 := ⟨f - 1, by omega⟩
    refine ⟨μ, P, ?_, hM, fun x q => ?_, fun _ _ => rfl⟩
    · show f_M_loses_b28 _ _ _ _ _ _ _ _ = _
      unfold f_M_loses_b28
      rw [if_pos (by rw [me_N_5, me_N_le (by omega) (by omega)]; omega), me_N_inc, me_lt_s]
    · rcases q with q | q
      · exact q
      · omega
  | succ d ih =>
    intro f k P μ h1 h2 hM
    obtain ⟨f, rfl⟩ : ∃ g, f = g + 1 := ⟨f - 1, by omega⟩
    have zs := hM.qn (2 * n + c) k (by omega) (by omega)
    obtain ⟨μ7, c1, c2, c3⟩ := m_lose49 hp hn hc (show k < 5 by omega) (K10 := K10) (K20 := K20) (K28 := f_M_loses_h28 K10 K20 f) ((gh_ls a p P).q (5 * (2 * n + c) + k)).length me_FU ((gh_ls a p P).q (5 * (2 * n + c) + k)) [] (gh_ls a p P) μ rfl (by have := Nat.le_trans (gh_ls_len (a := a) (p := p) (P := P) (x := 5 * (2 * n + c) + k)) (hb.1 _); unfold me_FU; omega) (by rw [List.append_nil]; exact Nat.le_trans gh_ls_len (hb.1 _)) (fun e he => hb.2.1 _ e (gh_ls_mem he)) (fun m hm => hb.2.2.1 _ m (gh_ls_own hm)) (List.append_nil _).symm hM
    rw [List.append_nil] at c2
    obtain ⟨μ', P', g1, g2, g3, g4⟩ := ih f (k + 1) _ μ7 (by omega) (by omega) (c2.eq gh_ls_step.m)
    refine ⟨μ', P', ?_, g2, fun x q => g3 x ?_, fun k' hk' => by rw [g4 k' hk', c3 k' hk']⟩
    · show f_M_loses_b28 _ _ _ _ _ _ _ _ = _
      unfold f_M_loses_b28
      rw [if_neg (by rw [me_N_5, me_N_le (by omega) (by omega)]; omega)]
      simp only [me_gd_n (show n < 2147483648 by omega) hn, me_gd_n (show c < 2147483648 by omega) hc, me_gd_n (show k < 2147483648 by omega) (show k < 5 by omega), me_N_ix (show n < 2147483648 by omega), me_N_ix (show c < 2147483648 by omega), me_N_ix (show k < 2147483648 by omega), zs, me_lt_s]
      exact c1.trans g1
    · rw [Bool.or_eq_true, decide_eq_true_eq]
      rcases q with q | q
      · exact Or.inl (Or.inl q)
      · by_cases e : x = 5 * (2 * n + c) + k
        · exact Or.inl (Or.inr e)
        · right; omega
theorem m_lose20 {a : me_S} (hb : gh_bd a) {p n : Nat} (hp : p < 200) (hn : n < 16) {K10 : me_M → Int32 → Int32 → Option (me_M × Unit)} : ∀ (d f c : Nat) (P : Nat → Bool) (μ : me_M), c + d = 2 → d < f → me_RM (gh_ls a p P) μ → ∃ μ' P', f_M_loses_h20 K10 f μ (me_N p) (me_N n) (me_N c) = K10 μ' (me_N p) (me_N (n + 1)) ∧ me_RM (gh_ls a p P') μ' ∧ (∀ x, P x = true ∨ (10 * n + 5 * c ≤ x ∧ x < 10 * n + 10) → P' x = true) ∧ ∀ k', ¬ (k' = 53 ∨ k' = 57 ∨ k' = 60 ∨ k' = 63) → μ' k' = μ k' := by
  intro d
  induction d with
  | zero =>
    intro f c P μ h1 h2 hM
    obtain ⟨f, rfl⟩ : ∃ g, f = g + 1 := ⟨f - 1, by omega⟩
    refine ⟨μ, P, ?_, hM, fun x q => ?_, fun _ _ => rfl⟩
    · show f_M_loses_b20 _ _ _ _ _ _ = _
      unfold f_M_loses_b20
      rw [if_pos (by rw [me_N_2, me_N_le (by omega) (by omega)]; omega), me_N_inc, me_lt_s]
    · rcases q with q | q
      · exact q
      · omega
  | succ d ih =>
    intro f c P μ h1 h2 hM
    obtain ⟨f, rfl⟩ : ∃ g, f = g + 1 := ⟨f - 1, by omega⟩
    obtain ⟨μ7, P1, c1, c2, c3, c4⟩ := m_lose28 hb hp hn (show c < 2 by omega) (K10 := K10) (K20 := f_M_loses_h20 K10 f) 5 me_FU 0 P μ (by omega) (by unfold me_FU; omega) hM
    obtain ⟨μ', P', g1, g2, g3, g4⟩ := ih f (c + 1) P1 μ7 (by omega) (by omega) c2
    refine ⟨μ', P', ?_, g2, fun x q => g3 x ?_, fun k' hk' => by rw [g4 k' hk', c4 k' hk']⟩
    · show f_M_loses_b20 _ _ _ _ _ _ = _
      unfold f_M_loses_b20
      rw [if_neg (by rw [me_N_2, me_N_le (by omega) (by omega)]; omega)]
      exact c1.trans g1
    · rcases q with q | q
      · exact Or.inl (c3 x (Or.inl q))
      · by_cases e : x < 10 * n + 5 * c + 5
        · exact Or.inl (c3 x (Or.inr (by omega)))
        · right; omega
theorem m_lose10 {a : me_S} (hb : gh_bd a) {p : Nat} (hp : p < 200) : ∀ (d f n : Nat) (P : Nat → Bool) (μ : me_M), n + d = a.w * a.h → d < f → me_RM (gh_ls a p P) μ → ∃ μ' P', f_M_loses_h10 f μ (me_N p) (me_N n) = some (μ', ()) ∧ me_RM (gh_ls a p P') μ' ∧ (∀ x, P x = true ∨ (n ≤ x / 10 ∧ x / 10 < a.w * a.h) → P' x = true) ∧ ∀ k', ¬ (k' = 53 ∨ k' = 57 ∨ k' = 60 ∨ k' = 63) → μ' k' = μ k' := by
  have hwh := hb.2.2.2
  intro d
  induction d with
  | zero =>
    intro f n P μ h1 h2 hM
    obtain ⟨f, rfl⟩ : ∃ g, f = g + 1 := ⟨f - 1, by omega⟩
    have zn : f_M_nodes μ = some (me_N (a.w * a.h)) := by
      unfold f_M_nodes
      rw [hM.w, hM.h, me_N_mul]
      rfl
    refine ⟨μ, P, ?_, hM, fun x q => ?_, fun _ _ => rfl⟩
    · show f_M_loses_b10 _ _ _ _ = _
      unfold f_M_loses_b10
      rw [zn, me_bd_s, if_pos (by rw [me_N_le (by omega) (by omega)]; omega)]
    · rcases q with q | q
      · exact q
      · omega
  | succ d ih =>
    intro f n P μ h1 h2 hM
    obtain ⟨f, rfl⟩ : ∃ g, f = g + 1 := ⟨f - 1, by omega⟩
    have zn : f_M_nodes μ = some (me_N (a.w * a.h)) := by
      unfold f_M_nodes
      rw [hM.w, hM.h, me_N_mul]
      rfl
    obtain ⟨μ7, P1, c1, c2, c3, c4⟩ := m_lose20 hb hp (show n < 16 by omega) (K10 := f_M_loses_h10 f) 2 me_FU 0 P μ (by omega) (by unfold me_FU; omega) hM
    obtain ⟨μ', P', g1, g2, g3, g4⟩ := ih f (n + 1) P1 μ7 (by omega) (by omega) c2
    refine ⟨μ', P', ?_, g2, fun x q => g3 x ?_, fun k' hk' => by rw [g4 k' hk', c4 k' hk']⟩
    · show f_M_loses_b10 _ _ _ _ = _
      unfold f_M_loses_b10
      rw [zn, me_bd_s, if_neg (by rw [me_N_le (by omega) (by omega)]; omega)]
      exact c1.trans g1
    · rcases q with q | q
      · exact Or.inl (c3 x (Or.inl q))
      · by_cases e : x / 10 = n
        · exact Or.inl (c3 x (Or.inr (by omega)))
        · right; omega
theorem m_lose {a : me_S} {μ : me_M} (hM : me_RM a μ) (hI : me_Iv a) {p : Nat} (hp : p < a.np) : ∃ μ', f_M_loses μ (me_N p) = some (μ', ()) ∧ me_RM (gh_lz (gh_l0 a p) p) μ' ∧ ∀ k, ¬ (k = 38 ∨ k = 53 ∨ k = 57 ∨ k = 60 ∨ k = 63) → μ' k = μ k := by
  have hnp := hI.n200
  have hwh := hI.wh
  have hb0 := gh_iv_bd hI
  have hb : gh_bd (gh_l0 a p) := hb0
  have h1 : me_RM (gh_l0 a p) (me_up μ 38 0 p 108) := (hM.w_st p 108 (fun q => by rcases q with q | q <;> exact absurd q (by decide))).eq ⟨rfl, rfl, rfl, rfl, rfl, rfl, rfl, rfl, rfl, rfl, rfl, rfl, rfl, rfl, rfl, rfl, rfl, rfl, rfl, rfl, rfl, rfl, rfl, rfl, rfl, rfl, rfl, rfl, rfl, rfl, rfl, rfl, rfl, rfl, rfl, rfl, rfl⟩
  have k2' : me_RM (gh_ls (gh_l0 a p) p (fun _ => false)) (me_up μ 38 0 p 108) := by
    refine h1.eq ?_
    have e1 : (gh_l0 a p).q = fun x => if false = true then me_dr p ((gh_l0 a p).q x) else (gh_l0 a p).q x := by
      funext x
      rw [if_neg (by decide)]
    have e2 : (gh_l0 a p).ro = fun x => if false = true ∧ (gh_l0 a p).ro x = some p then none else (gh_l0 a p).ro x := by
      funext x
      rw [if_neg (fun q => by cases q.1)]
    exact ⟨rfl, rfl, rfl, rfl, rfl, rfl, rfl, rfl, rfl, rfl, rfl, rfl, rfl, rfl, rfl, rfl, rfl, rfl, e1, e2, rfl, rfl, rfl, rfl, rfl, rfl, rfl, rfl, rfl, rfl, rfl, rfl, rfl, rfl, rfl, rfl, rfl⟩
  obtain ⟨μ', P', g1, g2, g3, g4⟩ := m_lose10 hb (p := p) (by omega) (a.w * a.h) me_FU 0 _ _ (by rw [Nat.zero_add]; rfl) (by unfold me_FU; omega) k2'
  refine ⟨μ', ?_, g2.eq (gh_ls_all (fun x hx => ⟨fun e he q => ?_, fun q => ?_⟩)).m, fun k hk => ?_⟩
  · unfold f_M_loses
    rw [me_gd_n (by omega) (by omega), me_N_ix (by omega), show vp_nar .char 108 = (108 : Int32) from rfl, me_lt_s]
    exact g1
  · obtain ⟨b1, -⟩ := hI.2.2.2.2.1.iel x e he
    exact hx (g3 x (Or.inr ⟨Nat.zero_le _, b1⟩))
  · obtain ⟨b1, -⟩ := hI.2.2.2.2.1.iow x p q
    exact hx (g3 x (Or.inr ⟨Nat.zero_le _, b1⟩))
  · rw [g4 k (by omega)]
    funext i j
    rw [me_up_kn (by omega)]
