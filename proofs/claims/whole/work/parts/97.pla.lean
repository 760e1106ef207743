/-! places -/
theorem me_RC.w_pls {a : me_S} {μ μ' : me_M} (h : me_RC a μ) (v : Nat) (e9 : ∀ k i j, ¬ k = 17 → ¬ k = 0 → μ' k i j = μ k i j) (e17 : ∀ i j, ¬ j = 4 → μ' 17 i j = μ 17 i j) (e4 : ∀ r, r < 160 → μ' 17 r 4 = me_N v) (e0 : μ' 0 0 9 = me_N v) : me_RC (me_S.s_rp a v) μ' :=
  me_RC.mk (e0)
    ((e9 1 _ _ (by decide) (by decide)).trans (h.nn))
    (fun n d g0 g1 => (e9 2 _ _ (by decide) (by decide)).trans (h.ah n d g0 g1))
    (fun n d g0 g1 => (e9 3 _ _ (by decide) (by decide)).trans (h.fl n d g0 g1))
    (fun n g0 => (e9 4 _ _ (by decide) (by decide)).trans (h.cl n g0))
    (fun n g0 => (e9 5 _ _ (by decide) (by decide)).trans (h.li n g0))
    ((e9 6 _ _ (by decide) (by decide)).trans (h.np))
    ((e9 6 _ _ (by decide) (by decide)).trans (h.ow))
    (fun i g0 => (e9 8 _ _ (by decide) (by decide)).trans (h.p0 i g0))
    (fun i => (e9 8 _ _ (by decide) (by decide)).trans (h.kd i))
    (fun i => (e9 8 _ _ (by decide) (by decide)).trans (h.st i))
    (fun i => (e9 8 _ _ (by decide) (by decide)).trans (h.sr i))
    (fun i => (e9 8 _ _ (by decide) (by decide)).trans (h.gl i))
    (fun i => (e9 8 _ _ (by decide) (by decide)).trans (h.wd i))
    (fun i g0 => (e9 8 _ _ (by decide) (by decide)).trans (h.bo i g0))
    (fun i => (e9 8 _ _ (by decide) (by decide)).trans (h.pt i))
    (fun i => (e9 8 _ _ (by decide) (by decide)).trans (h.tk i))
    (fun i g0 => (e9 8 _ _ (by decide) (by decide)).trans (h.hd i g0))
    (fun i => (e9 8 _ _ (by decide) (by decide)).trans (h.ma i))
    (fun i g0 => (e9 8 _ _ (by decide) (by decide)).trans (h.dn i g0))
    (fun i => (e9 8 _ _ (by decide) (by decide)).trans (h.pl i))
    (fun i => (e9 8 _ _ (by decide) (by decide)).trans (h.ad i))
    (fun i g0 => (e9 8 _ _ (by decide) (by decide)).trans (h.an i g0))
    ((e9 9 _ _ (by decide) (by decide)).trans (h.nt))
    (fun i g0 => (e9 10 _ _ (by decide) (by decide)).trans (h.tn i g0))
    (fun i j g0 g1 => (e9 11 _ _ (by decide) (by decide)).trans (h.tr i j g0 g1))
    (fun n g0 => (e9 13 _ _ (by decide) (by decide)).trans (h.aw n g0))
    (fun n k g0 g1 => (e9 15 _ _ (by decide) (by decide)).trans (h.lr n k g0 g1))
    (fun n c g0 g1 => (e9 16 _ _ (by decide) (by decide)).trans (h.fp n c g0 g1))
    (fun r g0 => (e17 _ 3 (by decide)).trans (h.qn r g0))
    (fun r g0 => e4 r g0)
    (fun r g0 => (e17 _ 5 (by decide)).trans (h.ro r g0))
    (fun r g0 => (e17 _ 6 (by decide)).trans (h.rh r g0))
    (fun r g0 => (e17 _ 7 (by decide)).trans (h.rg r g0))
    (fun r j e g0 g1 => (e9 18 _ _ (by decide) (by decide)).trans (h.q1 r j e g0 g1))
    (fun r j e g0 g1 => (e9 19 _ _ (by decide) (by decide)).trans (h.q2 r j e g0 g1))
    (fun r j e g0 g1 => (e9 20 _ _ (by decide) (by decide)).trans (h.q3 r j e g0 g1))
    (fun n g0 => (e9 22 _ _ (by decide) (by decide)).trans (h.dp n g0))
    (fun n g0 => (e9 22 _ _ (by decide) (by decide)).trans (h.ln n g0))
    (fun n g0 => (e9 22 _ _ (by decide) (by decide)).trans (h.ca n g0))
    (fun n g0 => (e9 22 _ _ (by decide) (by decide)).trans (h.co n g0))
    (fun n g0 => (e9 22 _ _ (by decide) (by decide)).trans (h.fa n g0))
    (fun n j g0 g1 => (e9 23 _ _ (by decide) (by decide)).trans (h.mm n j g0 g1))
    (fun n j g0 g1 => (e9 24 _ _ (by decide) (by decide)).trans (h.sk n j g0 g1))
    (fun n j g0 g1 => (e9 25 _ _ (by decide) (by decide)).trans (h.nm n j g0 g1))
    (fun n j g0 g1 => (e9 26 _ _ (by decide) (by decide)).trans (h.nu n j g0 g1))
    ((e9 27 _ _ (by decide) (by decide)).trans (h.wy))
    ((e9 30 _ _ (by decide) (by decide)).trans (h.bt))
/-- rows lo to hi have their places set -/
def gh_ps (μ μ' : me_M) (v : Int32) (lo hi : Nat) : Prop := ∀ k i j, μ' k i j = if k = 17 ∧ j = 4 ∧ lo ≤ i ∧ i < hi then v else μ k i j
theorem gh_ps_cat {μ μ1 μ2 : me_M} {v : Int32} {lo mid hi : Nat} (h1 : gh_ps μ μ1 v lo mid) (h2 : gh_ps μ1 μ2 v mid hi) (ha : lo ≤ mid) (hb : mid ≤ hi) : gh_ps μ μ2 v lo hi := by
  intro k i j
  rw [h2, h1]
  by_cases e : k = 17 ∧ j = 4 ∧ mid ≤ i ∧ i < hi
  · rw [if_pos e, if_pos ⟨e.1, e.2.1, by omega, e.2.2.2⟩]
  · rw [if_neg e]
    by_cases e2 : k = 17 ∧ j = 4 ∧ lo ≤ i ∧ i < mid
    · rw [if_pos e2, if_pos ⟨e2.1, e2.2.1, e2.2.2.1, by omega⟩]
    · rw [if_neg e2, if_neg]
      rintro ⟨q1, q2, q3, q4⟩
      by_cases q : i < mid
      · exact e2 ⟨q1, q2, q3, q⟩
      · exact e ⟨q1, q2, by omega, q4⟩
theorem y_sp1 {v : Int32} {n : Nat} (hn : n < 16) : ∀ (d f i : Nat) (μ : me_M), i + d = 10 → d < f → ∃ μ', f_Router_setPlaces_h2 f μ n v (me_N i) = some (μ', ()) ∧ gh_ps μ μ' v (10 * n + i) (10 * n + 10) := by
  intro d
  induction d with
  | zero =>
    intro f i μ h1 h2
    obtain ⟨f, rfl⟩ : ∃ g, f = g + 1 := ⟨f - 1, by omega⟩
    refine ⟨μ, ?_, fun k i' j => ?_⟩
    · show f_Router_setPlaces_b2 _ _ _ _ _ = _
      unfold f_Router_setPlaces_b2
      rw [if_pos (by rw [me_N_10, me_N_le (by omega) (by omega)]; omega)]
    · rw [if_neg]
      rintro ⟨-, -, q1, q2⟩
      omega
  | succ d ih =>
    intro f i μ h1 h2
    obtain ⟨f, rfl⟩ : ∃ g, f = g + 1 := ⟨f - 1, by omega⟩
    obtain ⟨μ', g1, g2⟩ := ih f (i + 1) (me_up μ 17 (10 * n + i) 4 v) (by omega) (by omega)
    refine ⟨μ', ?_, gh_ps_cat (mid := 10 * n + (i + 1)) (fun k i' j => ?_) g2 (by omega) (by omega)⟩
    · show f_Router_setPlaces_b2 _ _ _ _ _ = _
      unfold f_Router_setPlaces_b2
      rw [if_neg (by rw [me_N_10, me_N_le (by omega) (by omega)]; omega), me_gd_n (by omega) (by omega), me_N_ix (by omega), me_lt_s, me_N_inc, me_lt_s]
      exact g1
    · rw [me_up_ap]
      by_cases e : k = 17 ∧ i' = 10 * n + i ∧ j = 4
      · rw [if_pos e, if_pos ⟨e.1, e.2.2, by omega, by omega⟩]
      · rw [if_neg e, if_neg]
        rintro ⟨q1, q2, q3, q4⟩
        exact e ⟨q1, by omega, q2⟩
theorem y_sp2 {v : Int32} : ∀ (d f n : Nat) (μ : me_M), n + d = 16 → d < f → ∃ μ', f_Y_setAllPlaces_h7 f μ v (me_N n) = some (μ', ()) ∧ gh_ps μ μ' v (10 * n) 160 := by
  intro d
  induction d with
  | zero =>
    intro f n μ h1 h2
    obtain ⟨f, rfl⟩ : ∃ g, f = g + 1 := ⟨f - 1, by omega⟩
    refine ⟨μ, ?_, fun k i' j => ?_⟩
    · show f_Y_setAllPlaces_b7 _ _ _ _ = _
      unfold f_Y_setAllPlaces_b7
      rw [if_pos (by rw [me_N_16, me_N_le (by omega) (by omega)]; omega)]
    · rw [if_neg]
      rintro ⟨-, -, q1, q2⟩
      omega
  | succ d ih =>
    intro f n μ h1 h2
    obtain ⟨f, rfl⟩ : ∃ g, f = g + 1 := ⟨f - 1, by omega⟩
    obtain ⟨μ1, k1, k2⟩ := y_sp1 (v := v) (n := n) (by omega) 10 me_FU 0 μ rfl (by decide)
    obtain ⟨μ', g1, g2⟩ := ih f (n + 1) μ1 (by omega) (by omega)
    refine ⟨μ', ?_, gh_ps_cat (mid := 10 * (n + 1)) (by rw [show 10 * (n + 1) = 10 * n + 10 by omega]; exact k2) g2 (by omega) (by omega)⟩
    show f_Y_setAllPlaces_b7 _ _ _ _ = _
    unfold f_Y_setAllPlaces_b7 f_Router_setPlaces
    rw [if_neg (by rw [me_N_16, me_N_le (by omega) (by omega)]; omega), me_gd_n (by omega) (by omega), me_N_ix (by omega), me_N_0, k1, me_b2_s, me_lt_s, me_N_inc]
    exact g1
theorem y_setPl {a : me_S} {μ : me_M} (hC : me_RC a μ) (v : Nat) : ∃ μ', f_Y_setAllPlaces μ (me_N v) = some (μ', ()) ∧ me_RC (me_S.s_rp a v) μ' ∧ ∀ k, ¬ k = 17 → ¬ k = 0 → μ' k = μ k := by
  obtain ⟨μ', g1, g2⟩ := y_sp2 (v := me_N v) 16 me_FU 0 (me_up μ 0 0 9 (me_N v)) rfl (by decide)
  have e : ∀ k i j, ¬ k = 17 → ¬ k = 0 → μ' k i j = μ k i j := fun k i j h1 h2 => by
    rw [g2, if_neg (fun q => h1 q.1), me_up_kn h2]
  refine ⟨μ', ?_, hC.w_pls v e (fun i j h => ?_) (fun r hr => ?_) ?_, fun k h1 h2 => funext fun i => funext fun j => e k i j h1 h2⟩
  · unfold f_Y_setAllPlaces
    rw [me_lt_s, me_N_0]
    exact g1
  · rw [g2, if_neg (fun q => h q.2.1), me_up_kn (by decide)]
  · rw [g2, if_pos ⟨rfl, rfl, by omega, hr⟩]
  · rw [g2, if_neg (fun q => absurd q.1 (by decide)), me_up_at]
theorem t_17 {T : Nat} {a : me_S} {μ : me_M} {o : Int64 × UInt64} {s1 s2 s3 s4 s5 : Int32} (hR : me_R T a μ) : ∃ μ' o' a', f_case_17 μ o s1 s2 s3 s4 s5 = some (μ', o') ∧ me_R T a' μ' := by
  obtain ⟨hC, hM, hI, hbt, hT, hwk⟩ := id hR
  have hwh := hI.wh
  have hnp := hI.n200
  have hD : me_Dd a a μ := ⟨hC, hM, hwk⟩
  by_cases hc : me_isRg s1 1 4
  · have e4 : f_Y_needRange μ s1 1 4 = some (.ok ()) := y_range_o (a := 1) (b := 4) (by omega) (by omega) hc
    have e5 : ∀ μ, f_M_isIn μ s1 1 4 = some 1 := fun μ => m_isIn_o (a := 1) (b := 4) (by omega) (by omega) hc
    obtain ⟨v, hv1, hv4, rfl⟩ := hc
    obtain ⟨μ1, e6, hC1, hf1⟩ := y_setPl hC v
    have D1 : me_Dd (me_S.s_rp a v) a μ1 := ⟨hC1, hM.co_ (fun k hk => ⟨fun i j _ => Or.inr (by rw [hf1 k (by omega) (by omega)]), fun _ _ _ => hf1 k (by omega) (by omega)⟩), fun n hn => by rw [hf1 13 (by decide) (by decide)]; exact hwk n hn⟩
    have D2 := D1.th 0
    have D3 := D2.m (D2.2.1.w_rp v) (by decide)
    have q1 := D1.2.1.rp
    have hI2 : me_Iv (me_S.s_rp a v) := ⟨me_I0.mk hI.1.iw hI.1.ih ⟨hv1, hv4⟩ hI.1.iwy hI.1.ifl hI.1.ifs, hI.2⟩
    refine ⟨_, (Int32.toInt64 (me_N a.rp), o.2), _, ?_, D3.R rfl hI2 hbt hT⟩
    simp [f_case_17, f_L_places, f_Y_places, f_M_places, f_M_places_b15, me_bd_s, me_b2_s, me_lt_s, me_oq_n, me_oq_s, me_xb_o, me_xb_e, me_xb2_o, me_xb2_e, me_xm_o, me_xm_e, f_M_thrown, m_th0, m_th1, me_cmp_self, me_up_at, if_true, if_false, me_nr_z, me_nr_o, me_gd_t, me_up_kn, me_up_jn, e4, e5, e6, hC.rp, q1]
  · have e4 : f_Y_needRange μ s1 1 4 = some (.error 2) := y_range_n (a := 1) (b := 4) (by omega) (by omega) hc
    have e5 : ∀ μ, f_M_isIn μ s1 1 4 = some 0 := fun μ => m_isIn_n (a := 1) (b := 4) (by omega) (by omega) hc
    refine ⟨_, o, a, ?_, hR.th 1⟩
    simp [f_case_17, f_L_places, f_Y_places, f_M_places, f_M_places_b15, me_bd_s, me_b2_s, me_lt_s, me_oq_n, me_oq_s, me_xb_o, me_xb_e, me_xb2_o, me_xb2_e, me_xm_o, me_xm_e, f_M_thrown, m_th0, m_th1, me_cmp_self, me_up_at, if_true, if_false, me_nr_z, me_nr_o, me_gd_t, me_up_kn, me_up_jn, e4, e5]
