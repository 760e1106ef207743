/-! send, ask -/
theorem y_make0 {a : me_S} {μ : me_M} (hC : me_RC a μ) {k : Int32} {s g : Nat} {w : Int32} {b : Nat} (hk : ¬ k = 113) (hc : me_nr .char k = true) (hn : a.np < 200) : ∃ μ', f_Post_make μ k (me_N s) (me_N g) w (me_N b) (me_N a.bt) = some (μ', me_N a.np) ∧ me_RC (gh_mk a k s g w b) μ' ∧ ∀ k', ¬ k' = 8 → ¬ k' = 6 → μ' k' = μ k' := by
  have h1 := hC.w_make0 k s g w b
  refine ⟨_, ?_, h1, fun k' h8 h6 => ?_⟩
  · unfold f_Post_make f_Post_make_b129
    simp only [me_lt_s]
    rw [hC.np, if_pos (by rw [me_N_200, me_N_lt (by omega) (by omega)]; omega), me_gd_n (by omega) hn, me_gd_t hc, if_neg hk, me_N_ix (by omega), me_N_1, me_N_add]
    simp only [me_up_kn (show ¬ 6 = 8 by decide)]
    rw [hC.np, me_N_add, me_up_kn (show ¬ 8 = 6 by decide)]
    simp only [me_up_jn (show ¬ 0 = 1 by decide), me_up_jn (show ¬ 0 = 2 by decide), me_up_jn (show ¬ 0 = 3 by decide), me_up_jn (show ¬ 0 = 4 by decide), me_up_jn (show ¬ 0 = 5 by decide), me_up_jn (show ¬ 0 = 6 by decide), me_up_jn (show ¬ 0 = 7 by decide), me_up_jn (show ¬ 0 = 8 by decide), me_up_jn (show ¬ 0 = 9 by decide), me_up_jn (show ¬ 0 = 10 by decide), me_up_jn (show ¬ 0 = 11 by decide), me_up_jn (show ¬ 0 = 12 by decide), me_up_jn (show ¬ 0 = 13 by decide), me_up_jn (show ¬ 0 = 14 by decide)]
    rw [hC.p0 a.np hn]
  · funext i j
    simp only [me_up_kn h8, me_up_kn h6]
theorem y_makeQ {a : me_S} {μ : me_M} (hC : me_RC a μ) {s g : Nat} {w : Int32} {b : Nat} (hn : a.np < 200) : ∃ μ', f_Post_make μ 113 (me_N s) (me_N g) w (me_N b) (me_N a.bt) = some (μ', me_N a.np) ∧ me_RC (me_S.s_ow (gh_mk a 113 s g w b) (a.ow + 1)) μ' ∧ ∀ k', ¬ k' = 8 → ¬ k' = 6 → μ' k' = μ k' := by
  have h1 := hC.w_makeQ 113 s g w b
  refine ⟨_, ?_, h1, fun k' h8 h6 => ?_⟩
  · unfold f_Post_make f_Post_make_b129
    simp only [me_lt_s]
    rw [hC.np, if_pos (by rw [me_N_200, me_N_lt (by omega) (by omega)]; omega), me_gd_n (by omega) hn, me_gd_t (by decide +kernel), if_pos trivial, me_N_ix (by omega), me_N_1, me_N_add]
    simp only [me_up_kn (show ¬ 6 = 8 by decide), me_up_jn (show ¬ 1 = 2 by decide)]
    rw [hC.np, hC.ow, me_N_add, me_N_add, me_up_kn (show ¬ 8 = 6 by decide), me_up_kn (show ¬ 8 = 6 by decide)]
    simp only [me_up_jn (show ¬ 0 = 1 by decide), me_up_jn (show ¬ 0 = 2 by decide), me_up_jn (show ¬ 0 = 3 by decide), me_up_jn (show ¬ 0 = 4 by decide), me_up_jn (show ¬ 0 = 5 by decide), me_up_jn (show ¬ 0 = 6 by decide), me_up_jn (show ¬ 0 = 7 by decide), me_up_jn (show ¬ 0 = 8 by decide), me_up_jn (show ¬ 0 = 9 by decide), me_up_jn (show ¬ 0 = 10 by decide), me_up_jn (show ¬ 0 = 11 by decide), me_up_jn (show ¬ 0 = 12 by decide), me_up_jn (show ¬ 0 = 13 by decide), me_up_jn (show ¬ 0 = 14 by decide)]
    rw [hC.p0 a.np hn]
  · funext i j
    simp only [me_up_kn h8, me_up_kn h6]
theorem m_made0 {a : me_S} {μ : me_M} (hM : me_RM a μ) {k : Int32} {s g : Nat} {w : Int32} {b : Nat} (hk : ¬ k = 113) (hc : me_nr .char k = true) (hn : a.np < 200) : ∃ μ', f_M_made μ k (me_N s) (me_N g) w (me_N b) = some (μ', me_N a.np) ∧ me_RM (gh_mk a k s g w b) μ' ∧ (∀ k', k' < 36 → μ' k' = μ k') ∧ μ' 36 0 42 = μ 36 0 42 ∧ μ' 86 = μ 86 := by
  have h1 := hM.w_made0 k s g w b hk
  refine ⟨_, ?_, h1, fun k' h => ?_, ?_, ?_⟩
  · unfold f_M_made
    have z5 : vp_nar .char 115 = (115 : Int32) := rfl
    simp only [me_lt_s, me_up_kn (show ¬ 36 = 37 by decide), me_up_kn (show ¬ 36 = 38 by decide), me_up_kn (show ¬ 36 = 39 by decide), me_up_kn (show ¬ 36 = 40 by decide), me_up_kn (show ¬ 36 = 41 by decide), me_up_kn (show ¬ 36 = 42 by decide), me_up_kn (show ¬ 36 = 43 by decide), me_up_kn (show ¬ 36 = 44 by decide), me_up_kn (show ¬ 36 = 49 by decide), hM.np, hM.bt, me_gd_n (show a.np < 2147483648 by omega) hn, me_N_ix (show a.np < 2147483648 by omega), me_nar_c hc, z5, me_up_at]
    rw [me_N_1, me_N_add, me_N_sub (by omega)]
    rfl
  · funext i j
    simp only [me_up_kn (show ¬ k' = 37 by omega), me_up_kn (show ¬ k' = 38 by omega), me_up_kn (show ¬ k' = 39 by omega), me_up_kn (show ¬ k' = 40 by omega), me_up_kn (show ¬ k' = 41 by omega), me_up_kn (show ¬ k' = 42 by omega), me_up_kn (show ¬ k' = 43 by omega), me_up_kn (show ¬ k' = 44 by omega), me_up_kn (show ¬ k' = 49 by omega), me_up_kn (show ¬ k' = 36 by omega)]
  · simp only [me_up_kn (show ¬ 36 = 37 by decide), me_up_kn (show ¬ 36 = 38 by decide), me_up_kn (show ¬ 36 = 39 by decide), me_up_kn (show ¬ 36 = 40 by decide), me_up_kn (show ¬ 36 = 41 by decide), me_up_kn (show ¬ 36 = 42 by decide), me_up_kn (show ¬ 36 = 43 by decide), me_up_kn (show ¬ 36 = 44 by decide), me_up_kn (show ¬ 36 = 49 by decide), me_up_jn (show ¬ 42 = 19 by decide)]
  · funext i j
    simp only [me_up_kn (show ¬ 86 = 37 by decide), me_up_kn (show ¬ 86 = 38 by decide), me_up_kn (show ¬ 86 = 39 by decide), me_up_kn (show ¬ 86 = 40 by decide), me_up_kn (show ¬ 86 = 41 by decide), me_up_kn (show ¬ 86 = 42 by decide), me_up_kn (show ¬ 86 = 43 by decide), me_up_kn (show ¬ 86 = 44 by decide), me_up_kn (show ¬ 86 = 49 by decide), me_up_kn (show ¬ 86 = 36 by decide)]
theorem m_madeQ {a : me_S} {μ : me_M} (hM : me_RM a μ) {s g : Nat} {w : Int32} {b pp : Nat} {fl mo : Int32} (hn : a.np < 200) : ∃ μ', f_M_made μ 113 (me_N s) (me_N g) w (me_N b) = some (μ', me_N a.np) ∧ μ' 36 0 42 = μ 36 0 42 ∧ me_RM (me_S.s_ad (me_S.s_pl (me_S.s_ow (gh_mk a 113 s g w b) (a.ow + 1)) (me_fu (me_fu a.pl a.np 0) a.np pp)) (me_fu (me_fu a.ad a.np 0) a.np (if fl = 0 then 0 else mo))) (me_up (me_up (me_up μ' 46 0 a.np (me_N pp)) 47 0 a.np fl) 48 0 a.np mo) ∧ ∀ k', k' < 36 → μ' k' = μ k' := by
  have h1 := hM.w_madeQ 113 s g w b pp fl mo
  refine ⟨_, ?_, ?_, h1, fun k' h => ?_⟩
  · unfold f_M_made
    have z5 : vp_nar .char 115 = (115 : Int32) := rfl
    have z6 : vp_nar .char 113 = (113 : Int32) := rfl
    simp only [me_lt_s, me_up_kn (show ¬ 36 = 37 by decide), me_up_kn (show ¬ 36 = 38 by decide), me_up_kn (show ¬ 36 = 39 by decide), me_up_kn (show ¬ 36 = 40 by decide), me_up_kn (show ¬ 36 = 41 by decide), me_up_kn (show ¬ 36 = 42 by decide), me_up_kn (show ¬ 36 = 43 by decide), me_up_kn (show ¬ 36 = 44 by decide), me_up_kn (show ¬ 36 = 49 by decide), hM.np, hM.bt, me_gd_n (show a.np < 2147483648 by omega) hn, me_N_ix (show a.np < 2147483648 by omega), z5, z6, me_up_at]
    rw [me_N_1, me_N_add, me_N_sub (by omega)]
    rfl
  · simp only [me_up_kn (show ¬ 36 = 37 by decide), me_up_kn (show ¬ 36 = 38 by decide), me_up_kn (show ¬ 36 = 39 by decide), me_up_kn (show ¬ 36 = 40 by decide), me_up_kn (show ¬ 36 = 41 by decide), me_up_kn (show ¬ 36 = 42 by decide), me_up_kn (show ¬ 36 = 43 by decide), me_up_kn (show ¬ 36 = 44 by decide), me_up_kn (show ¬ 36 = 49 by decide), me_up_jn (show ¬ 42 = 19 by decide)]
  · funext i j
    simp only [me_up_kn (show ¬ k' = 37 by omega), me_up_kn (show ¬ k' = 38 by omega), me_up_kn (show ¬ k' = 39 by omega), me_up_kn (show ¬ k' = 40 by omega), me_up_kn (show ¬ k' = 41 by omega), me_up_kn (show ¬ k' = 42 by omega), me_up_kn (show ¬ k' = 43 by omega), me_up_kn (show ¬ k' = 44 by omega), me_up_kn (show ¬ k' = 49 by omega), me_up_kn (show ¬ k' = 36 by omega)]
theorem gh_cnt {P : Nat → Bool} : ∀ (d i : Nat), me_sm (fun k => if P k = true then 1 else 0) i d = (List.range' i d).countP P := by
  intro d
  induction d with
  | zero => intro i; rfl
  | succ d ih =>
    intro i
    show (if P i = true then 1 else 0) + me_sm _ (i + 1) d = _
    rw [ih, List.range'_succ, List.countP_cons, Nat.add_comm]
theorem gh_ow {a : me_S} (hI : me_Iv a) : me_sm (fun k => if me_qs a.kd a.st k = true then 1 else 0) 0 a.np = a.ow := by
  rw [gh_cnt, hI.2.1.iow, List.range_eq_range']
theorem m_room1 {a : me_S} {μ : me_M} (hM : me_RM a μ) (hI : me_Iv a) : ∀ (d f i c : Nat), i + d = a.np → d < f → c + me_sm (fun k => if me_qs a.kd a.st k = true then 1 else 0) i d ≤ 200 → f_M_room_h7 μ f (me_N c) (me_N i) = some (me_N (200 - (c + me_sm (fun k => if me_qs a.kd a.st k = true then 1 else 0) i d))) := by
  have hnp := hI.n200
  intro d
  induction d with
  | zero =>
    intro f i c h1 h2 h3
    obtain ⟨f, rfl⟩ : ∃ g, f = g + 1 := ⟨f - 1, by omega⟩
    show f_M_room_b7 _ _ _ _ = _
    unfold f_M_room_b7
    have h3 : c + 0 ≤ 200 := h3
    rw [hM.np, if_pos (by rw [me_N_le (by omega) (by omega)]; omega), me_N_200, me_N_sub (by omega)]
    rfl
  | succ d ih =>
    intro f i c h1 h2 h3
    obtain ⟨f, rfl⟩ : ∃ g, f = g + 1 := ⟨f - 1, by omega⟩
    have h3 : c + ((if me_qs a.kd a.st i = true then 1 else 0) + me_sm (fun k => if me_qs a.kd a.st k = true then 1 else 0) (i + 1) d) ≤ 200 := h3
    show f_M_room_b7 _ _ _ _ = some (me_N (200 - (c + ((if me_qs a.kd a.st i = true then 1 else 0) + me_sm (fun k => if me_qs a.kd a.st k = true then 1 else 0) (i + 1) d))))
    unfold f_M_room_b7 f_M_room_b49 f_M_room_b53
    simp only [me_lt_s, me_N_inc, Int32.add_zero, me_gd_n (show i < 2147483648 by omega) (show i < 200 by omega), me_N_ix (show i < 2147483648 by omega), hM.kd i (by omega), hM.st i (by omega)]
    rw [hM.np, if_neg (by rw [me_N_le (by omega) (by omega)]; omega), show me_N c + 1 = me_N (c + 1) by rw [me_N_1, me_N_add]]
    by_cases hq : me_qs a.kd a.st i = true
    · rw [if_pos hq] at h3 ⊢
      unfold me_qs at hq
      rw [Bool.and_eq_true, Bool.or_eq_true, decide_eq_true_eq, decide_eq_true_eq, decide_eq_true_eq] at hq
      rw [if_pos hq.1, ih f (i + 1) (c + 1) (by omega) (by omega) (by omega), Nat.add_assoc]
      rcases hq.2 with e | e
      · rw [if_pos e]
      · rw [e, if_neg (by decide), if_pos rfl]
    · rw [if_neg hq, Nat.zero_add] at h3 ⊢
      rw [ih f (i + 1) c (by omega) (by omega) h3]
      unfold me_qs at hq
      rw [Bool.and_eq_true, Bool.or_eq_true, decide_eq_true_eq, decide_eq_true_eq, decide_eq_true_eq] at hq
      by_cases e1 : a.kd i = 113
      · rw [if_pos e1, if_neg (fun e => hq ⟨e1, Or.inl e⟩), if_neg (fun e => hq ⟨e1, Or.inr e⟩)]
      · rw [if_neg e1]
theorem m_room {a : me_S} {μ : me_M} (hM : me_RM a μ) (hI : me_Iv a) : f_M_room μ = some (me_N (200 - (a.np + a.ow))) := by
  have hnp := hI.n200
  have h1 := gh_ow hI
  have h2 := hI.2.1.ile
  unfold f_M_room
  rw [me_lt_s, hM.np, me_N_0, m_room1 hM hI a.np me_FU 0 a.np (Nat.zero_add _) (show _ < 1000 by omega) (by omega), h1]
theorem y_room {a : me_S} {μ : me_M} (hC : me_RC a μ) (hI : me_Iv a) {m : Nat} (hm : m ≤ 1000) : (a.np + a.ow + m ≤ 200 ∧ f_Y_needRoom μ (me_N m) = some (.ok ())) ∨ (¬ a.np + a.ow + m ≤ 200 ∧ f_Y_needRoom μ (me_N m) = some (.error 3)) := by
  have h2 := hI.2.1.ile
  unfold f_Y_needRoom f_Post_hasRoom
  rw [hC.np, hC.ow, me_N_add, me_N_add, me_N_200]
  by_cases h : a.np + a.ow + m ≤ 200
  · exact Or.inl ⟨h, by rw [if_neg (by rw [me_N_lt (by omega) (by omega)]; omega), me_bd_s, if_neg (by decide)]⟩
  · exact Or.inr ⟨h, by rw [if_pos (by rw [me_N_lt (by omega) (by omega)]; omega), me_bd_s, if_pos rfl]⟩
theorem me_Dd.cM {a a' b : me_S} {μ μ' : me_M} (h : me_Dd a b μ) (hC : me_RC a' μ') (e : ∀ k', ¬ k' = 8 → ¬ k' = 6 → μ' k' = μ k') : me_Dd a' b μ' :=
  ⟨hC, h.2.1.co_ (fun k hk => ⟨fun i j _ => Or.inr (by rw [e k (by omega) (by omega)]), fun _ _ _ => e k (by omega) (by omega)⟩), fun n hn => by rw [e 13 (by decide) (by decide)]; exact h.2.2 n hn⟩
theorem me_Dd.mM {a b b' : me_S} {μ μ' : me_M} (h : me_Dd a b μ) (hM : me_RM b' μ') (e : ∀ k', k' < 36 → μ' k' = μ k') : me_Dd a b' μ' :=
  ⟨h.1.co_ e, hM, fun n hn => by rw [e 13 (by decide)]; exact h.2.2 n hn⟩
theorem t_0 {T : Nat} {a : me_S} {μ : me_M} {o : Int64 × UInt64} {s1 s2 s3 s4 s5 : Int32} (hR : me_R T a μ) : ∃ μ' o' a', f_case_0 μ o s1 s2 s3 s4 s5 = some (μ', o') ∧ me_R T a' μ' := by
  obtain ⟨hC, hM, hI, hbt, hT, hwk⟩ := id hR
  have hwh := hI.wh
  have hnp := hI.n200
  have hD : me_Dd a a μ := ⟨hC, hM, hwk⟩
  by_cases hb : me_isB s1 (a.w * a.h)
  · by_cases hb2 : me_isB s2 (a.w * a.h)
    · obtain ⟨n, hn, rfl⟩ := hb
      obtain ⟨m, hm, rfl⟩ := hb2
      have e1 := y_nodes_o hC hI hn hm
      have e2 : ∀ μ', me_RM a μ' → f_M_isNoNode μ' (me_N n) = some 0 := fun μ' h => m_node_o h hI hn
      have e3 : ∀ μ', me_RM a μ' → f_M_isNoNode μ' (me_N m) = some 0 := fun μ' h => m_node_o h hI hm
      by_cases hc : me_isRg s4 1 4
      · have e4 : f_Y_needRange μ s4 1 4 = some (.ok ()) := y_range_o (a := 1) (b := 4) (by omega) (by omega) hc
        have e5 : ∀ μ, f_M_isIn μ s4 1 4 = some 1 := fun μ => m_isIn_o (a := 1) (b := 4) (by omega) (by omega) hc
        obtain ⟨b, hb0, hb4, rfl⟩ := hc
        rcases y_room hC hI (m := 1) (by omega) with ⟨hr, e6⟩ | ⟨hr, e6⟩
        · have e6 : f_Y_needRoom μ 1 = some (.ok ()) := e6
          obtain ⟨μ1, e7, hC1, hf1⟩ := y_make0 hC (k := 109) (s := n) (g := m) (w := s3) (b := b) (by decide) (by decide +kernel) (by omega)
          have D1 := hD.cM hC1 hf1
          have D4 := ((D1.th 0).th 0).th 0
          obtain ⟨μ2, e8, hM2, hf2, ht2, -⟩ := m_made0 D4.2.1 (k := 109) (s := n) (g := m) (w := s3) (b := b) (by decide) (by decide +kernel) (by omega)
          have D5 := D4.mM hM2 hf2
          have ht3 : μ2 36 0 42 = 0 := ht2.trans me_up_at
          have e9 := m_room ((D1.th 0).th 0).2.1 hI
          have e10 : (1 : Int32) ≤ me_N (200 - (a.np + a.ow)) := by rw [me_N_1, me_N_le (by omega) (by omega)]; omega
          refine ⟨_, (Int32.toInt64 (me_N a.np), o.2), _, ?_, D5.R rfl (gh_iv0 hI (Or.inl rfl) (by omega) hn hm ⟨hb0, hb4⟩) hbt hT⟩
          simp [f_case_0, f_L_send, f_Y_send, f_M_send, f_M_send_b22, f_M_send_b45, f_M_send_b66, me_bd_s, me_b2_s, me_lt_s, me_oq_n, me_oq_s, me_xb_o, me_xb_e, me_xb2_o, me_xb2_e, me_xm_o, me_xm_e, f_M_thrown, m_th0, m_th1, me_cmp_self, me_up_at, if_true, if_false, me_nr_z, me_nr_o, me_gd_t, me_up_kn, me_up_jn, e1, e2 _ D1.2.1, e3 _ D1.2.1, e4, e5, e6, hC.bt, e7, e8, e9, e10, ht3]
        · have e6 : f_Y_needRoom μ 1 = some (.error 3) := e6
          have e9 := m_room ((hR.th 0).th 0).2.1 hI
          have h2 := hI.2.1.ile
          have e10 : ¬ (1 : Int32) ≤ me_N (200 - (a.np + a.ow)) := by rw [me_N_1, me_N_le (by omega) (by omega)]; omega
          refine ⟨_, o, a, ?_, ((hR.th 0).th 0).th 3⟩
          simp [f_case_0, f_L_send, f_Y_send, f_M_send, f_M_send_b22, f_M_send_b45, f_M_send_b66, me_bd_s, me_b2_s, me_lt_s, me_oq_n, me_oq_s, me_xb_o, me_xb_e, me_xb2_o, me_xb2_e, me_xm_o, me_xm_e, f_M_thrown, m_th0, m_th1, me_cmp_self, me_up_at, if_true, if_false, me_nr_z, me_nr_o, me_gd_t, me_up_kn, me_up_jn, e1, e2 _ hM, e3 _ hM, e4, e5, e6, e9, e10]
      · have e4 : f_Y_needRange μ s4 1 4 = some (.error 2) := y_range_n (a := 1) (b := 4) (by omega) (by omega) hc
        have e5 : ∀ μ, f_M_isIn μ s4 1 4 = some 0 := fun μ => m_isIn_n (a := 1) (b := 4) (by omega) (by omega) hc
        refine ⟨_, o, a, ?_, (hR.th 0).th 2⟩
        simp [f_case_0, f_L_send, f_Y_send, f_M_send, f_M_send_b22, f_M_send_b45, me_bd_s, me_b2_s, me_lt_s, me_oq_n, me_oq_s, me_xb_o, me_xb_e, me_xb2_o, me_xb2_e, me_xm_o, me_xm_e, f_M_thrown, m_th0, m_th1, me_cmp_self, me_up_at, if_true, if_false, me_nr_z, me_nr_o, me_gd_t, me_up_kn, me_up_jn, e1, e2 _ hM, e3 _ hM, e4, e5]
    · obtain ⟨n, hn, rfl⟩ := hb
      have e1 := y_nodes_n (μ := μ) hC hI (v := me_N n) (u := s2) (fun q => hb2 q.2)
      have e2 := m_node_o hM hI hn
      have e3 := m_node_n hM hI hb2
      refine ⟨_, o, a, ?_, hR.th 1⟩
      simp [f_case_0, f_L_send, f_Y_send, f_M_send, f_M_send_b17, f_M_send_b22, me_bd_s, me_b2_s, me_lt_s, me_oq_n, me_oq_s, me_xb_o, me_xb_e, me_xb2_o, me_xb2_e, me_xm_o, me_xm_e, f_M_thrown, m_th0, m_th1, me_cmp_self, me_up_at, if_true, if_false, me_nr_z, me_nr_o, me_gd_t, me_up_kn, me_up_jn, e1, e2, e3]
  · have e1 := y_nodes_n (μ := μ) hC hI (v := s1) (u := s2) (fun q => hb q.1)
    have e2 := m_node_n hM hI hb
    refine ⟨_, o, a, ?_, hR.th 1⟩
    simp [f_case_0, f_L_send, f_Y_send, f_M_send, f_M_send_b17, f_M_send_b22, me_bd_s, me_b2_s, me_lt_s, me_oq_n, me_oq_s, me_xb_o, me_xb_e, me_xb2_o, me_xb2_e, me_xm_o, me_xm_e, f_M_thrown, m_th0, m_th1, me_cmp_self, me_up_at, if_true, if_false, me_nr_z, me_nr_o, me_gd_t, me_up_kn, me_up_jn, e1, e2]
