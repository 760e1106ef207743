/-! the law's calls that change: over a ghost, between beats -/
section GlCal
variable {a : me_S} {μ : me_M}
theorem gl_nB {N : Nat} (h : N < 1000) : ¬ me_isB (me_N N) N := fun q => by
  obtain ⟨n, h1, h2⟩ := q
  rw [me_N_inj (by omega) (by omega)] at h2
  omega
theorem gl_nR {v lo hi : Nat} (h1 : v < 1000) (h2 : hi < 1000) (h : v < lo ∨ hi < v) : ¬ me_isRg (me_N v) lo hi := fun q => by
  obtain ⟨n, h3, h4, h5⟩ := q
  rw [me_N_inj (by omega) (by omega)] at h5
  omega
theorem gl_send_n (hS : gb_S a μ) {N : Nat} (hN : N = a.w * a.h) : f_L_send μ 0 (me_N N) 1 1 = some (μ, -900001) := by
  have hwh := hS.2.1.wh
  unfold f_L_send f_Y_send
  rw [y_nodes_n hS.1 hS.2.1 (fun q => gl_nB (N := a.w * a.h) (by omega) (by rw [← hN] at q ⊢; exact q.2)), me_bd_s, me_xb2_e, me_b2_s, me_xm_e, if_pos rfl]
theorem gl_send_r (hS : gb_S a μ) : f_L_send μ 0 0 1 5 = some (μ, -900002) := by
  have hwh := hS.2.1.wh
  have hp : 0 < a.w * a.h := by omega
  have e1 : f_Y_needNodes μ 0 0 = some (.ok ()) := y_nodes_o hS.1 hS.2.1 (n := 0) (m := 0) hp hp
  have e2 : f_Y_needRange μ 5 1 4 = some (.error 2) := y_range_n (a := 1) (b := 4) (v := me_N 5) (by decide) (by decide) (gl_nR (by decide) (by decide) (Or.inr (by decide)))
  unfold f_L_send f_Y_send
  rw [e1, me_bd_s, me_xb2_o, e2, me_bd_s, me_xb2_e, me_b2_s, me_xm_e, if_neg (by decide), if_pos rfl]
theorem gl_send_o (hS : gb_S a μ) {n m b : Nat} {w : Int32} (hn : n < a.w * a.h) (hm : m < a.w * a.h) (hb : 1 ≤ b ∧ b ≤ 4) (hr : a.np + a.ow + 1 ≤ 200) : ∃ μ', f_L_send μ (me_N n) (me_N m) w (me_N b) = some (μ', me_N a.np) ∧ gb_S (gh_mk a 109 n m w b) μ' ∧ gb_F μ μ' := by
  have hwh := hS.2.1.wh
  have e2 : f_Y_needRange μ (me_N b) 1 4 = some (.ok ()) := y_range_o (a := 1) (b := 4) (by decide) (by decide) ⟨b, hb.1, hb.2, rfl⟩
  have e3 : f_Y_needRoom μ 1 = some (.ok ()) := by
    rcases y_room hS.1 hS.2.1 (m := 1) (by omega) with ⟨-, e⟩ | ⟨h, -⟩
    · exact e
    · exact absurd hr h
  obtain ⟨μ', e4, e5, e6⟩ := y_make0 hS.1 (k := 109) (s := n) (g := m) (w := w) (b := b) (by decide) (by decide +kernel) (by omega)
  refine ⟨μ', ?_, ⟨e5, gh_iv0 hS.2.1 (Or.inl rfl) (by omega) hn hm hb, fun q hq => by rw [e6 13 (by decide) (by decide)]; exact hS.2.2 q hq⟩, fun k hk => e6 k (by omega) (by omega)⟩
  unfold f_L_send f_Y_send
  rw [y_nodes_o hS.1 hS.2.1 hn hm, me_bd_s, me_xb2_o, e2, me_bd_s, me_xb2_o, e3, me_bd_s, me_xb2_o, hS.1.bt, e4, me_b2_s, me_b2_s, me_xm_o]
theorem gl_ask_p (hS : gb_S a μ) {n m : Nat} {b w : Int32} (hn : n < a.w * a.h) (hm : m < a.w * a.h) : f_L_ask μ (me_N n) (me_N m) 8 b w = some (μ, -900002) := by
  have e2 : f_Y_needRange μ 8 0 7 = some (.error 2) := y_range_n (a := 0) (b := 7) (v := me_N 8) (by decide) (by decide) (gl_nR (by decide) (by decide) (Or.inr (by decide)))
  unfold f_L_ask f_Y_ask
  rw [y_nodes_o hS.1 hS.2.1 hn hm, me_bd_s, me_xb2_o, e2, me_bd_s, me_xb2_e, me_b2_s, me_xm_e, if_neg (by decide), if_pos rfl]
theorem gl_ask_o (hS : gb_S a μ) {n m pp : Nat} {b w : Int32} (hn : n < a.w * a.h) (hm : m < a.w * a.h) (hp : pp < 8) (hr : a.np + a.ow + 2 ≤ 200) : ∃ μ', f_L_ask μ (me_N n) (me_N m) (me_N pp) b w = some (μ', me_N a.np) ∧ gb_S (gh_mkQ a n m 1 pp (if b = 0 then 0 else w)) μ' ∧ gb_F μ μ' := by
  have hwh := hS.2.1.wh
  have e2 : f_Y_needRange μ (me_N pp) 0 7 = some (.ok ()) := y_range_o (a := 0) (b := 7) (by decide) (by decide) ⟨pp, Nat.zero_le _, by omega, rfl⟩
  have e3 : f_Y_needRoom μ 2 = some (.ok ()) := by
    rcases y_room hS.1 hS.2.1 (m := 2) (by omega) with ⟨-, e⟩ | ⟨h, -⟩
    · exact e
    · exact absurd hr h
  obtain ⟨μ1, e4, e5, e6⟩ := y_makeQ hS.1 (s := n) (g := m) (w := 0) (b := 1) (by omega)
  have e4 : f_Post_make μ 113 (me_N n) (me_N m) 0 1 (me_N a.bt) = some (μ1, me_N a.np) := e4
  have e7 : f_Post_find μ1 (me_N a.np) = some (some a.np) := by
    have hnp1 : μ1 6 0 1 = me_N (a.np + 1) := e5.np
    unfold f_Post_find
    rw [if_neg (me_N_nneg (by omega)), hnp1, if_neg (by rw [me_N_le (by omega) (by omega)]; omega), if_neg (by rw [me_N_200, me_N_le (by omega) (by omega)]; omega), me_gd_n (by omega) (by omega), me_N_ix (by omega)]
  have c1 := e5.w_pl a.np pp
  have c2 := c1.w_ad a.np (if b = 0 then 0 else w)
  refine ⟨me_up (me_up μ1 8 a.np 12 (me_N pp)) 8 a.np 13 (if b = 0 then 0 else w), ?_, ⟨c2, gh_ivQ hS.2.1 (by omega) hn hm (by decide) hp, fun q hq => ?_⟩, fun k hk => ?_⟩
  · unfold f_L_ask f_Y_ask f_Y_ask_b76
    rw [y_nodes_o hS.1 hS.2.1 hn hm, me_bd_s, me_xb2_o, e2, me_bd_s, me_xb2_o, e3, me_bd_s, me_xb2_o, hS.1.bt, e4, me_b2_s, e7, me_bd_s, me_oq_s, me_lt_s]
    by_cases e : b = 0
    · rw [if_pos e, if_pos e, me_lt_s, me_b2_s, me_xm_o]
    · rw [if_neg e, if_neg e, me_lt_s, me_b2_s, me_xm_o]
  · rw [me_up_kn (by decide), me_up_kn (by decide), e6 13 (by decide) (by decide)]
    exact hS.2.2 q hq
  · funext i j
    rw [me_up_kn (by omega), me_up_kn (by omega), e6 k (by omega) (by omega)]
theorem gl_net_n : f_L_net μ 5 1 = some (μ, -900001) := by
  have e2 : f_Y_needRange μ 5 1 4 = some (.error 2) := y_range_n (a := 1) (b := 4) (v := me_N 5) (by decide) (by decide) (gl_nR (by decide) (by decide) (Or.inr (by decide)))
  unfold f_L_net f_Y_net
  rw [e2, me_bd_s, me_xb2_e, me_b2_s, me_xm_e, if_pos rfl]
theorem gl_net_o (hC : me_RC a μ) {w h : Nat} (hw : 1 ≤ w ∧ w ≤ 4) (hh : 1 ≤ h ∧ h ≤ 4) : ∃ μ', f_L_net μ (me_N w) (me_N h) = some (μ', me_N (w * h)) ∧ gb_S (gh_nw a w h 2) μ' ∧ gb_F μ μ' := by
  have e1 : f_Y_needRange μ (me_N w) 1 4 = some (.ok ()) := y_range_o (a := 1) (b := 4) (by decide) (by decide) ⟨w, hw.1, hw.2, rfl⟩
  have e2 : f_Y_needRange μ (me_N h) 1 4 = some (.ok ()) := y_range_o (a := 1) (b := 4) (by decide) (by decide) ⟨h, hh.1, hh.2, rfl⟩
  obtain ⟨μ1, e3, c1, f1, z1⟩ := y_anew hC.c0 hw hh
  have zn : μ1 1 0 4 = me_N (w * h) := c1.nn
  refine ⟨μ1, ?_, ⟨c1, gh_nw_iv hw hh, z1⟩, f1⟩
  unfold f_L_net f_Y_net
  rw [e1, me_bd_s, me_xb2_o, e2, me_bd_s, me_xb2_o, e3, me_b2_s, me_b2_s, me_xm_o, zn]
theorem gl_way_n : f_L_way μ 122 = some (μ, -900001) := by
  have e1 : f_Str_indexOf1 μ 0 122 = some (me_fi (me_sb 0) 122 0) := s_indexOf (by decide)
  have e2 : ¬ 0 ≤ me_fi (me_sb 0) 122 0 := by
    rcases s_way 122 with ⟨h, -⟩ | ⟨-, -, -, h⟩
    · rcases h with h | h | h <;> exact absurd h (by decide)
    · exact h
  unfold f_L_way f_Y_way
  rw [e1, me_bd_s, if_neg e2, me_b2_s, me_xm_e, if_pos rfl]
theorem gl_way_o (hS : gb_S a μ) {v : Int32} (hv : v = 120 ∨ v = 121) : ∃ μ', f_L_way μ v = some (μ', a.wy) ∧ gb_S (me_S.s_wy a v) μ' ∧ gb_F μ μ' := by
  have hI := hS.2.1
  have e1 : f_Str_indexOf1 μ 0 v = some (me_fi (me_sb 0) v 0) := s_indexOf (by decide)
  have hv3 : v = 120 ∨ v = 121 ∨ v = 116 := by
    rcases hv with h | h
    · exact Or.inl h
    · exact Or.inr (Or.inl h)
  have e2 : 0 ≤ me_fi (me_sb 0) v 0 := by
    rcases s_way v with ⟨-, h⟩ | ⟨h1, h2, -, -⟩
    · exact h
    · rcases hv with h | h
      · exact absurd h h1
      · exact absurd h h2
  have hc : me_nr .char v = true := me_chr (by rcases hv with e | e <;> simp [e])
  have hc2 : me_nr .char a.wy = true := me_chr (by rcases hI.1.2.2.2.1 with e | e | e <;> simp [e])
  refine ⟨me_up μ 27 0 4 v, ?_, ⟨hS.1.w_wy v, ⟨me_I0.mk hI.1.iw hI.1.ih hI.1.irp hv3 hI.1.2.2.2.2.1 hI.1.2.2.2.2.2, hI.2⟩, fun m hm => by rw [me_up_kn (by decide)]; exact hS.2.2 m hm⟩, fun k hk => by funext i j; rw [me_up_kn (by omega)]⟩
  unfold f_L_way f_Y_way
  rw [e1, me_bd_s, if_pos e2, me_lt_s, me_gd_t hc, me_lt_s, hS.1.wy, me_gd_t hc2, me_b2_s, me_xm_o]
theorem gl_places_n : f_L_places μ 5 = some (μ, -900001) := by
  have e2 : f_Y_needRange μ 5 1 4 = some (.error 2) := y_range_n (a := 1) (b := 4) (v := me_N 5) (by decide) (by decide) (gl_nR (by decide) (by decide) (Or.inr (by decide)))
  unfold f_L_places f_Y_places
  rw [e2, me_bd_s, me_xb2_e, me_b2_s, me_xm_e, if_pos rfl]
theorem gl_places_o (hS : gb_S a μ) {v : Nat} (hv : 1 ≤ v ∧ v ≤ 4) : ∃ μ', f_L_places μ (me_N v) = some (μ', me_N a.rp) ∧ gb_S (me_S.s_rp a v) μ' ∧ gb_F μ μ' := by
  have hI := hS.2.1
  have e2 : f_Y_needRange μ (me_N v) 1 4 = some (.ok ()) := y_range_o (a := 1) (b := 4) (by decide) (by decide) ⟨v, hv.1, hv.2, rfl⟩
  obtain ⟨μ1, e3, c1, f1⟩ := y_setPl hS.1 v
  refine ⟨μ1, ?_, ⟨c1, ⟨me_I0.mk hI.1.iw hI.1.ih hv hI.1.2.2.2.1 hI.1.2.2.2.2.1 hI.1.2.2.2.2.2, hI.2⟩, fun m hm => by rw [f1 13 (by decide) (by decide)]; exact hS.2.2 m hm⟩, fun k hk => f1 k (by omega) (by omega)⟩
  unfold f_L_places f_Y_places
  rw [e2, me_bd_s, me_xb2_o, me_lt_s, e3, me_b2_s, me_b2_s, me_xm_o, hS.1.rp]
theorem gl_beats_n : f_L_beats μ 0 = some (μ, -900001) := by
  have e2 : f_Y_needRange μ 0 1 100 = some (.error 2) := y_range_n (a := 1) (b := 100) (v := me_N 0) (by decide) (by decide) (gl_nR (by decide) (by decide) (Or.inl (by decide)))
  unfold f_L_beats f_Y_beats
  rw [e2, me_bd_s, me_xb2_e, me_b2_s, me_xm_e, if_pos rfl]
/-- how beats ends -/
theorem gl_beatsE {f m : Nat} {v : Int32} (hm : m ≤ 100) (h7 : μ 30 0 7 = v) (hv : v = 0 ∨ v = 1) : f_Y_beats_h10 (f + 1) μ (me_N m) (me_N m) = some (μ, .ok v) := by
  show f_Y_beats_b10 _ _ _ _ = _
  unfold f_Y_beats_b10
  rw [if_pos (by rw [me_N_le (by omega) (by omega)]; omega), h7, me_gd_t (by rcases hv with e | e <;> rw [e]; exact me_nr_z; exact me_nr_o)]
theorem gl_beats_o {μ' : me_M} {m : Nat} {v : Int32} (hm : 1 ≤ m ∧ m ≤ 100) (h : f_Y_beats_h10 me_FU μ (me_N m) (me_N 0) = some (μ', .ok v)) (hv : v = 0 ∨ v = 1) : f_L_beats μ (me_N m) = some (μ', v) := by
  have e2 : f_Y_needRange μ (me_N m) 1 100 = some (.ok ()) := y_range_o (a := 1) (b := 100) (by decide) (by decide) ⟨m, hm.1, hm.2, rfl⟩
  unfold f_L_beats f_Y_beats
  rw [e2, me_bd_s, me_xb2_o, show (0 : Int32) = me_N 0 from rfl, h, me_b2_s, me_xm_o]
  rcases hv with e | e
  · rw [e]
    rfl
  · rw [e]
    rfl
theorem gl_lost (hS : gb_S a μ) (h : ∀ i, i < a.np → ¬ a.st i = 108) (h6 : a.np = 6) : f_Y_lostShare μ = some (.ok (FP.fdiv (FP.i2f 0) (FP.i2f 6))) := by
  have hz : me_sm (gh_lo a) 0 a.np = 0 := me_sm_zero a.np 0 (fun k _ h2 => by
    unfold gh_lo
    rw [if_neg (h k (by omega))])
  have c1 : f_Post_countLost μ = some (me_N (0 + me_sm (gh_lo a) 0 a.np)) := y_lost hS.1 hS.2.1 a.np me_FU 0 0 (Nat.zero_add _) (by rw [h6]; unfold me_FU; omega)
  rw [hz] at c1
  unfold f_Y_lostShare
  rw [hS.1.np, h6, if_neg (by decide), c1, me_bd_s]
  exact me_gd_t (by decide +kernel)
theorem gl_lost0 : (Op.cmpValue (FP.fcmp (FP.fdiv (FP.i2f 0) (FP.i2f 6)) (FP.fconst0)) .l) = 0 := by decide +kernel
theorem gl_sound (hS : gb_S a μ) : ∃ μ', f_Y_isSound μ = some (μ', 1) := by
  have hwh := hS.2.1.wh
  have hnp := hS.2.1.n200
  obtain ⟨μ1, e1, -, -⟩ := y_pas hS.2.1 a.np me_FU 0 μ (Nat.zero_add _) (by unfold me_FU; omega) hS.1
  have e1 : f_Y_packetsAreSound μ = some (μ1, 1) := e1
  have e0 : f_Audit_rowsAreSound μ = some 1 := y_rs2 hS.1 hS.2.1 (a.w * a.h) me_FU 0 (Nat.zero_add _) (by unfold me_FU; omega)
  refine ⟨μ1, ?_⟩
  unfold f_Y_isSound
  rw [e0, me_bd_s, if_neg (by decide), e1, me_b2_s, if_neg (by decide)]
end GlCal
