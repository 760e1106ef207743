/-! a core's instruction, side by side -/
theorem bb_set {a : me_S} {W : Nat → Bool} {v : Int32} {μ ν : me_M} (hX : bb_X a a W v v μ ν) {n : Nat} {s : Int32} (hn : n < 16) (hc : ¬ a.co n = 45) (h0 : s = 114 ∨ s = 119 ∨ s = 98 ∨ s = 104) (h1 : s = 119 → a.ca n < a.ln n ∧ a.nm n (a.ca n) = 114) (h2 : s = 98 → a.ca n < a.ln n) : bb_F a (me_S.s_co a (me_fu a.co n s)) μ (me_up μ 22 n 7 s) ν (me_up ν 89 0 n s) ∧ bb_X (me_S.s_co a (me_fu a.co n s)) (me_S.s_co a (me_fu a.co n s)) W v v (me_up μ 22 n 7 s) (me_up ν 89 0 n s) := by
  obtain ⟨hC, hM, hI, h4, h5, h6, h7, h8, h9⟩ := id hX
  have zca : ν 91 0 n = me_N (a.ca n) := (hM.ca n hn).trans (if_neg hc)
  refine bb_w2 hX (hC.w_co n s) (hM.w_co n s (fun e => ?_) ?_) (gh_iv_k hI ?_ h1 h2) rfl rfl rfl rfl ⟨by decide, by decide, by decide⟩ ⟨by decide, by decide⟩
  · rw [e] at h0
    rcases h0 with q | q | q | q <;> exact absurd q (by decide)
  · rw [zca, if_neg]
    intro e
    rw [e] at h0
    rcases h0 with q | q | q | q <;> exact absurd q (by decide)
  · rcases h0 with q | q | q | q
    · exact Or.inr (Or.inl q)
    · exact Or.inr (Or.inr (Or.inl q))
    · exact Or.inr (Or.inr (Or.inr (Or.inl q)))
    · exact Or.inr (Or.inr (Or.inr (Or.inr (Or.inl q))))
theorem bb_store {a : me_S} {W : Nat → Bool} {v : Int32} {μ ν : me_M} (hX : bb_X a a W v v μ ν) {n x : Nat} (hn : n < 16) (hx : x < 8) (hc : a.co n = 114) (hca : a.ca n < 12) : bb_Q a W v μ ν (f_Core_store μ n (me_N x)) (me_b2 (f_M_has ν (me_N n) (1 : Int32)) (fun μ42 r41 =>
  if r41 = 0 then
  (some (μ42, ()))
  else
  (me_gd (me_inb (me_N n) 16) (
  me_b2 (f_M_pop μ42 (me_N n)) (fun μ46 r45 =>
  me_gd (me_inb (me_N x) 8) (
  me_lt (me_up μ46 76 (me_ix (me_N n)) (me_ix (me_N x)) r45) (fun μ48 =>
  me_gd (me_inb (me_N n) 16) (
  me_gd (me_inb (me_N n) 16) (
  me_lt (me_up μ48 91 0 (me_ix (me_N n)) ((μ48 91 0 (me_ix (me_N n))) + (1 : Int32))) (fun μ51 =>
  some (μ51, ()))))))))))) := by
  obtain ⟨hC, hM, hI, h4, h5, h6, h7, h8, h9⟩ := id hX
  have hdp := hI.2.2.1.idp n
  have hc45 : ¬ a.co n = 45 := by rw [hc]; decide
  unfold f_Core_store
  rw [if_neg (me_N_nneg (by omega)), if_neg (by rw [me_N_8, me_N_le (by omega) (by omega)]; omega)]
  rcases bb_has hX hn (show 1 < 10 by decide) hc45 with ⟨e, d1, d2⟩ | ⟨μ', ν', d1, d2, d3, d4⟩
  · obtain ⟨p1, p2, p3, p4⟩ := bb_pop hX hn e
    have hI1 := p3.2.2.1
    have zca : ν 91 0 n = me_N (a.ca n) := (hM.ca n hn).trans (if_neg hc45)
    obtain ⟨q1, q2⟩ := bb_w2 p3 (p3.1.w_mm n x (a.sk n (a.dp n - 1))) (p3.2.1.w_mm n x (a.sk n (a.dp n - 1))) hI1 rfl rfl rfl rfl ⟨by decide, by decide, by decide⟩ ⟨by decide, by decide⟩
    obtain ⟨r1, r2⟩ := bb_go q2 (n := n) (m := a.ca n + 1) hn (by omega) hc
    refine ⟨_, _, _, ?_, ?_, (p2.tr_ q1).tr_ r1, r2⟩
    · rw [me_N_1, d1, me_b2_s, if_neg (by decide), hC.dp n hn, me_N_sub e, me_lt_s, me_up_at, me_gd_n (by omega) (by omega), me_gd_n (by omega) hx, me_N_ix (by omega), me_N_ix (by omega), me_up_kn (show ¬ 24 = 22 by decide), p4, me_lt_s, me_up_kn (show ¬ 22 = 23 by decide), me_up_jn (show ¬ 6 = 4 by decide), hC.ca n hn, me_N_add, me_lt_s]
    · rw [me_N_1, d2, me_b2_s, if_neg (by decide), me_gd_n (by omega) hn, p1, me_b2_s, me_gd_n (by omega) hx, me_N_ix (by omega), me_N_ix (by omega), me_lt_s, me_gd_n (by omega) hn, me_gd_n (by omega) hn, me_up_kn (show ¬ 91 = 76 by decide), me_up_kn (show ¬ 91 = 87 by decide), zca, me_N_add, me_lt_s]
  · refine ⟨μ', ν', _, ?_, ?_, d3, d4⟩
    · rw [me_N_1, d1, me_b2_s, if_pos (by rfl)]
    · rw [me_N_1, d2, me_b2_s, if_pos (by rfl)]
theorem bb_jump {a : me_S} {W : Nat → Bool} {v : Int32} {μ ν : me_M} (hX : bb_X a a W v v μ ν) {n x : Nat} (hn : n < 16) (hx : x < 12) (hc : a.co n = 114) (hca : a.ca n < 12) : bb_Q a W v μ ν (f_Core_jump μ n (me_N x)) (me_b2 (f_M_has ν (me_N n) (1 : Int32)) (fun μ24 r23 =>
  if r23 = 0 then
  (some (μ24, ()))
  else
  (me_b2 (f_M_pop μ24 (me_N n)) (fun μ27 r26 =>
  if r26 = 0 then
  (f_M_does_b253 μ27 (me_N (a.ca n) + (1 : Int32)) (me_N n))
  else
  (f_M_does_b253 μ27 (me_N x) (me_N n)))))) := by
  obtain ⟨hC, hM, hI, h4, h5, h6, h7, h8, h9⟩ := id hX
  have hdp := hI.2.2.1.idp n
  have hc45 : ¬ a.co n = 45 := by rw [hc]; decide
  unfold f_Core_jump f_M_does_b253
  rcases bb_has hX hn (show 1 < 10 by decide) hc45 with ⟨e, d1, d2⟩ | ⟨μ', ν', d1, d2, d3, d4⟩
  · obtain ⟨p1, p2, p3, p4⟩ := bb_pop hX hn e
    rw [me_N_1, d1, d2, me_b2_s, me_b2_s, if_neg (by decide), if_neg (by decide), p1, me_b2_s, hC.dp n hn, me_N_sub e, me_lt_s, me_up_at, me_gd_n (by omega) (by omega), me_N_ix (by omega), me_up_kn (show ¬ 24 = 22 by decide), p4, me_gd_n (by omega) hn, me_N_ix (a := n) (by omega), me_lt_s, me_gd_n (by omega) hn, me_lt_s, me_lt_s, me_lt_s, me_up_jn (show ¬ 6 = 4 by decide), hC.ca n hn, me_N_add]
    by_cases g : a.sk n (a.dp n - 1) = 0
    · rw [if_pos g, if_pos g]
      obtain ⟨r1, r2⟩ := bb_go p3 (n := n) (m := a.ca n + 1) hn (by omega) hc
      exact ⟨_, _, _, rfl, rfl, p2.tr_ r1, r2⟩
    · rw [if_neg g, if_neg g]
      obtain ⟨r1, r2⟩ := bb_go p3 (n := n) (m := x) hn (by omega) hc
      exact ⟨_, _, _, rfl, rfl, p2.tr_ r1, r2⟩
  · rw [me_N_1, d1, d2, me_b2_s, me_b2_s, if_pos (by rfl), if_pos (by rfl)]
    exact ⟨μ', ν', _, rfl, rfl, d3, d4⟩
theorem me_fu_fu {α : Type} {f : Nat → α} {i : Nat} {u v : α} : me_fu (me_fu f i u) i v = me_fu f i v := by
  funext j
  rw [me_fu_ap, me_fu_ap, me_fu_ap]
  by_cases e : j = i
  · rw [if_pos e, if_pos e]
  · rw [if_neg e, if_neg e, if_neg e]
/-- a reckoned word in place of the two upper ones -/
theorem bb_rec1 {a : me_S} {W : Nat → Bool} {v : Int32} {μ ν : me_M} (hX : bb_X a a W v v μ ν) {n : Nat} {z : Int32} (hn : n < 16) (hd : 2 ≤ a.dp n) (hc : a.co n = 114) (hca : a.ca n < 12) : bb_Q a W v μ ν (f_Core_reckon_b73 μ n z (me_N (a.dp n) - 2) n) (f_M_does_b337 (me_up (me_up ν 87 0 n (me_N (a.dp n - 1))) 87 0 n (me_N (a.dp n - 2))) z (me_N n)) := by
  obtain ⟨hC, hM, hI, h4, h5, h6, h7, h8, h9⟩ := id hX
  have hdp := hI.2.2.1.idp n
  have hc45 : ¬ a.co n = 45 := by rw [hc]; decide
  have zca : ν 91 0 n = me_N (a.ca n) := (hM.ca n hn).trans (if_neg hc45)
  have c1 := hC.w_sk n (a.dp n - 2) z
  have c2 := c1.w_dp n (a.dp n - 1) (fun j hj => by
    show me_up μ 24 n (a.dp n - 2) z 24 n j = me_fu2 a.sk n (a.dp n - 2) z n j
    unfold me_fu2
    rw [me_up_ap]
    by_cases q : j = a.dp n - 2
    · rw [if_pos ⟨rfl, rfl, q⟩, if_pos ⟨rfl, q⟩]
    · rw [if_neg (fun k => q k.2.2), if_neg (fun k => q k.2)]
      exact hC.sk n j hn (by omega))
  have c3 := c2.w_ca n (a.ca n + 1)
  have r0 := (hM.w_dp n (a.dp n - 1) (fun j hj => hM.sk n j hn (by omega))).w_dp n (a.dp n - 2) (fun j hj => by rw [me_up_kn (by decide)]; exact hM.sk n j hn (by omega))
  have r1 := r0.w_sk n (a.dp n - 2) z
  have r2 := r1.w_dp n (a.dp n - 2 + 1) (fun j hj => by
    show me_up (me_up (me_up ν 87 0 n (me_N (a.dp n - 1))) 87 0 n (me_N (a.dp n - 2))) 78 n (a.dp n - 2) z 78 n j = me_fu2 a.sk n (a.dp n - 2) z n j
    unfold me_fu2
    rw [me_up_ap]
    by_cases q : j = a.dp n - 2
    · rw [if_pos ⟨rfl, rfl, q⟩, if_pos ⟨rfl, q⟩]
    · rw [if_neg (fun k => q k.2.2), if_neg (fun k => q k.2), me_up_kn (by decide), me_up_kn (by decide)]
      exact hM.sk n j hn (by omega))
  have r3 := r2.w_ca n (a.ca n + 1) hc45
  have hI1 : me_Iv (me_S.s_sk a (me_fu2 a.sk n (a.dp n - 2) z)) := hI
  have hI2 := gh_iv_dp hI1 (n := n) (v := a.dp n - 1) (by omega)
  have hI3 := gh_iv_ca hI2 (n := n) (v := a.ca n + 1) (by omega) (by show ¬ a.co n = 119; rw [hc]; decide) (by show ¬ a.co n = 98; rw [hc]; decide)
  have edp : me_fu (me_fu (me_fu a.dp n (a.dp n - 1)) n (a.dp n - 2)) n (a.dp n - 2 + 1) = me_fu a.dp n (a.dp n - 1) := by
    rw [me_fu_fu, me_fu_fu]
    congr 1
    omega
  have r4 : me_RM (me_S.s_ca (me_S.s_dp (me_S.s_sk a (me_fu2 a.sk n (a.dp n - 2) z)) (me_fu a.dp n (a.dp n - 1))) (me_fu a.ca n (a.ca n + 1))) _ := r3.eq ⟨rfl, rfl, rfl, rfl, rfl, rfl, rfl, rfl, rfl, rfl, rfl, rfl, rfl, rfl, rfl, rfl, rfl, rfl, rfl, rfl, rfl, rfl, rfl, rfl, rfl, rfl, rfl, edp, rfl, rfl, rfl, rfl, rfl, rfl, rfl, rfl, rfl⟩
  obtain ⟨k1, k2⟩ := bb_fin hX c3 r4 hI3 rfl rfl rfl rfl (v' := v) (fun k hk => by
    funext i j
    rw [me_up_kn (by omega), me_up_kn (by omega), me_up_kn (by omega)]) (by rw [me_up_kn (by decide), me_up_kn (by decide), me_up_kn (by decide), me_up_kn (by decide), me_up_kn (by decide)]; exact h6) (by rw [me_up_kn (by decide), me_up_kn (by decide), me_up_kn (by decide), me_up_kn (by decide), me_up_kn (by decide)]) (fun k hk => by
    funext i j
    rw [me_up_kn (by omega), me_up_kn (by omega), me_up_kn (by omega), me_up_kn (by omega), me_up_kn (by omega)])
  refine ⟨_, _, _, ?_, ?_, k1, k2⟩
  · unfold f_Core_reckon_b73
    rw [me_N_2, me_N_sub hd, me_gd_n (by omega) (by omega), me_N_ix (by omega), me_lt_s, me_up_kn (show ¬ 22 = 24 by decide), hC.dp n hn, me_N_1, me_N_sub (by omega), me_lt_s, me_up_jn (show ¬ 6 = 4 by decide), me_up_kn (show ¬ 22 = 24 by decide), hC.ca n hn, me_N_add, me_lt_s]
  · unfold f_M_does_b337 f_M_push
    rw [me_gd_n (by omega) hn, me_N_ix (a := n) (by omega), me_up_at, if_neg (by rw [show (6 : Int32) = me_N 6 from rfl, me_N_inj (by omega) (by omega)]; omega)]
    simp only [me_gd_n (show n < 2147483648 by omega) hn, me_gd_n (show a.dp n - 2 < 2147483648 by omega) (show a.dp n - 2 < 6 by omega), me_N_ix (show a.dp n - 2 < 2147483648 by omega), me_lt_s, me_up_kn (show ¬ 87 = 78 by decide), me_up_at, me_N_1, me_N_add, me_up_kn (show ¬ 91 = 87 by decide), me_up_kn (show ¬ 91 = 78 by decide), zca, me_b2_s]
theorem bb_reckon {a : me_S} {W : Nat → Bool} {v : Int32} {μ ν : me_M} (hX : bb_X a a W v v μ ν) {n : Nat} {x : Int32} (hn : n < 16) (hx : x = 43 ∨ x = 45 ∨ x = 42) (hc : a.co n = 114) (hca : a.ca n < 12) : bb_Q a W v μ ν (f_Core_reckon μ n x) (me_b2 (f_M_has ν (me_N n) (2 : Int32)) (fun μ53 r52 =>
  if r52 = 0 then
  (some (μ53, ()))
  else
  (me_b2 (f_M_pop μ53 (me_N n)) (fun μ56 r55 =>
  me_b2 (f_M_pop μ56 (me_N n)) (fun μ58 r57 =>
  if x = (43 : Int32) then
  (f_M_does_b337 μ58 (r57 + r55) (me_N n))
  else
  (if x = (45 : Int32) then
  (f_M_does_b337 μ58 (r57 - r55) (me_N n))
  else
  (f_M_does_b337 μ58 (r57 * r55) (me_N n)))))))) := by
  obtain ⟨hC, hM, hI, h4, h5, h6, h7, h8, h9⟩ := id hX
  have hdp := hI.2.2.1.idp n
  have hc45 : ¬ a.co n = 45 := by rw [hc]; decide
  unfold f_Core_reckon
  rcases bb_has hX hn (show 2 < 10 by decide) hc45 with ⟨e, d1, d2⟩ | ⟨μ', ν', d1, d2, d3, d4⟩
  · obtain ⟨p1, p2, p3, p4⟩ := bb_pop hX hn (show 1 ≤ a.dp n by omega)
    have ed : (me_S.s_dp a (me_fu a.dp n (a.dp n - 1))).dp n = a.dp n - 1 := me_fu_at
    obtain ⟨s1, s2, s3, s4⟩ := bb_pop p3 hn (show 1 ≤ (me_S.s_dp a (me_fu a.dp n (a.dp n - 1))).dp n by rw [ed]; omega)
    have s1 : f_M_pop (me_up ν 87 0 n (me_N (a.dp n - 1))) (me_N n) = some (me_up (me_up ν 87 0 n (me_N (a.dp n - 1))) 87 0 n (me_N (a.dp n - 2)), a.sk n (a.dp n - 2)) := by
      rw [ed, show a.dp n - 1 - 1 = a.dp n - 2 by omega] at s1
      exact s1
    have zs2 : μ 24 n (a.dp n - 2) = a.sk n (a.dp n - 2) := hC.sk n (a.dp n - 2) hn (by omega)
    have e2 : me_N (a.dp n) - (2 : Int32) = me_N (a.dp n - 2) := by rw [me_N_2, me_N_sub e]
    have e1 : me_N (a.dp n) - (1 : Int32) = me_N (a.dp n - 1) := by rw [me_N_1, me_N_sub (by omega)]
    rw [me_N_2] at *
    rw [d1, d2, me_b2_s, me_b2_s, if_neg (by decide), if_neg (by decide), p1, me_b2_s, s1, me_b2_s, hC.dp n hn, e1, me_N_sub e, me_gd_n (by omega) (by omega), me_N_ix (by omega), p4, me_lt_s, me_gd_n (by omega) (by omega), me_N_ix (by omega), zs2, me_lt_s]
    unfold f_Core_reckon_b47
    rw [hC.dp n hn]
    have a1 : ¬ (43 : Int32) = 42 := by decide
    have a2 : ¬ (45 : Int32) = 43 := by decide
    have a3 : ¬ (45 : Int32) = 42 := by decide
    have a4 : ¬ (42 : Int32) = 43 := by decide
    have a5 : ¬ (42 : Int32) = 45 := by decide
    rcases hx with q | q | q
    · simp only [q, if_neg a1, if_pos (Eq.refl (43 : Int32))]
      exact bb_rec1 hX hn e hc hca
    · simp only [q, if_neg a2, if_neg a3, if_pos (Eq.refl (45 : Int32))]
      exact bb_rec1 hX hn e hc hca
    · simp only [q, if_neg a4, if_neg a5, if_pos (Eq.refl (42 : Int32))]
      exact bb_rec1 hX hn e hc hca
  · rw [me_N_2, d1, d2, me_b2_s, me_b2_s, if_pos (by rfl), if_pos (by rfl)]
    exact ⟨μ', ν', _, rfl, rfl, d3, d4⟩
