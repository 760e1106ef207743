/-! the class: a piece goes to the core, is delivered -/
theorem y_chan {a : me_S} {μ : me_M} (hC : me_RC a μ) (p : Nat) : f_Packet_channel μ p = some (me_N (me_ch (a.kd p))) := by
  unfold f_Packet_channel me_ch
  rw [hC.kd]
  by_cases e : a.kd p = 97
  · rw [if_pos e, if_pos e]
    rfl
  · rw [if_neg e, if_neg e]
    rfl
theorem y_tail {a : me_S} {μ : me_M} (hC : me_RC a μ) {p i : Nat} (hp : p < a.np) (hi : i < 1000) (hb : a.bo p < 1000) : f_Packet_isTail μ p (me_N i) = some (me_bi (decide (i = a.bo p))) := by
  unfold f_Packet_isTail
  rw [hC.bo p hp, me_N_1, me_N_sub (by omega), Nat.add_sub_cancel]
  by_cases e : i = a.bo p
  · rw [if_pos (by rw [e]), decide_eq_true e]
    rfl
  · rw [if_neg (by rw [me_N_inj (by omega) (by omega)]; exact e), decide_eq_false e]
    rfl
/-- delivered, and answered -/
def gh_dl (a : me_S) (p : Nat) : me_S := me_S.s_dn (me_S.s_st a (me_fu a.st p 100)) (me_fu a.dn p (some (a.bt + 1)))
def gh_aw (a : me_S) (p : Nat) : me_S := me_S.s_ow (me_S.s_mm a (me_fu2 a.mm (a.gl p) (a.pl p) (a.mm (a.gl p) (a.pl p) + a.ad p))) (a.ow - 1)
def gh_aq (a : me_S) (p : Nat) : me_S := me_S.s_an (gh_mk (gh_aw a p) 97 (a.gl p) (a.sr p) (a.mm (a.gl p) (a.pl p)) 1) (me_fu (gh_mk (gh_aw a p) 97 (a.gl p) (a.sr p) (a.mm (a.gl p) (a.pl p)) 1).an p (some a.np))
theorem y_deliver {a : me_S} {μ : me_M} (hC : me_RC a μ) {p : Nat} (hnow : μ 30 0 6 = me_N (a.bt + 1)) (hg : a.gl p < 16) (hpl : a.kd p = 113 → a.pl p < 8 ∧ 1 ≤ a.ow ∧ a.np < 200) (how : a.ow < 1000) : ∃ μ', f_Mover_deliver μ p = some (μ', ()) ∧ me_RC (if a.kd p = 113 then gh_aq (gh_dl a p) p else gh_dl a p) μ' ∧ ∀ k, ¬ (k = 6 ∨ k = 8 ∨ k = 23) → μ' k = μ k := by
  have h1 : me_RC (gh_dl a p) (me_up (me_up μ 8 p 2 100) 8 p 11 (me_N (a.bt + 1))) := (hC.w_st p 100).w_dn p (some (a.bt + 1))
  have f1 : ∀ k, ¬ k = 8 → me_up (me_up μ 8 p 2 100) 8 p 11 (me_N (a.bt + 1)) k = μ k := fun k hk => by
    funext i j
    rw [me_up_kn hk, me_up_kn hk]
  unfold f_Mover_deliver
  rw [me_lt_s, me_up_kn (show ¬ 30 = 8 by decide), hnow, me_lt_s]
  generalize me_up (me_up μ 8 p 2 100) 8 p 11 (me_N (a.bt + 1)) = μ2 at h1 f1 ⊢
  have z1 : μ2 8 p 1 = a.kd p := h1.kd p
  rw [z1]
  by_cases hk : a.kd p = 113
  · obtain ⟨hpl, ho, hn⟩ := hpl hk
    have z4 : μ2 8 p 4 = me_N (a.gl p) := h1.gl p
    have z12 : μ2 8 p 12 = me_N (a.pl p) := h1.pl p
    have z13 : μ2 8 p 13 = a.ad p := h1.ad p
    have z3 : μ2 8 p 3 = me_N (a.sr p) := h1.sr p
    have zm : μ2 23 (a.gl p) (a.pl p) = a.mm (a.gl p) (a.pl p) := h1.mm _ _ hg hpl
    have zo : μ2 6 0 2 = me_N a.ow := h1.ow
    have zb : μ2 30 0 5 = me_N a.bt := h1.bt
    have h3 : me_RC (gh_aw (gh_dl a p) p) (me_up (me_up μ2 23 (a.gl p) (a.pl p) (a.mm (a.gl p) (a.pl p) + a.ad p)) 6 0 2 (me_N (a.ow - 1))) := (h1.w_mm (a.gl p) (a.pl p) (a.mm (a.gl p) (a.pl p) + a.ad p)).w_ow (a.ow - 1)
    obtain ⟨μ11, e1, h4, f4⟩ := y_make0 h3 (k := 97) (s := a.gl p) (g := a.sr p) (w := a.mm (a.gl p) (a.pl p)) (b := 1) (by decide) (by decide +kernel) hn
    have e1 : f_Post_make (me_up (me_up μ2 23 (a.gl p) (a.pl p) (a.mm (a.gl p) (a.pl p) + a.ad p)) 6 0 2 (me_N (a.ow - 1))) 97 (me_N (a.gl p)) (me_N (a.sr p)) (a.mm (a.gl p) (a.pl p)) (me_N 1) (me_N a.bt) = some (μ11, me_N a.np) := e1
    refine ⟨me_up μ11 8 p 14 (me_N a.np), ?_, ?_, fun k hk' => ?_⟩
    · rw [if_pos hk, z4, z12, me_gd_n (by omega) hg, me_gd_n (by omega) hpl, me_lt_s, me_N_ix (by omega), me_N_ix (by omega), me_gd_n (by omega) hpl, zm, z13, me_lt_s, me_up_kn (show ¬ 6 = 23 by decide), zo, me_N_1, me_N_sub ho, me_lt_s, me_up_kn (show ¬ 8 = 6 by decide), me_up_kn (show ¬ 8 = 23 by decide), z4, me_up_kn (show ¬ 8 = 6 by decide), me_up_kn (show ¬ 8 = 23 by decide), z3, me_up_kn (show ¬ 30 = 6 by decide), me_up_kn (show ¬ 30 = 23 by decide), zb, e1, me_b2_s, me_lt_s]
    · rw [if_pos hk]
      exact h4.w_an p (some a.np)
    · funext i j
      rw [me_up_kn (by omega), f4 k (by omega) (by omega), me_up_kn (by omega), me_up_kn (by omega), f1 k (by omega)]
  · exact ⟨μ2, by rw [if_neg hk], by rw [if_neg hk]; exact h1, fun k hk' => f1 k (by omega)⟩
/-- a first piece given away -/
def gh_g0 (a : me_S) (p i r : Nat) (t : List (Nat × Nat × Nat)) : me_S := me_S.s_tk (me_S.s_q (me_S.s_ro (me_S.s_rg a (me_fu a.rg r (a.bt + 1))) (if i = a.bo p then me_fu a.ro r none else a.ro)) (me_fu a.q r t)) (me_fu a.tk p (a.tk p + 1))
/-- the first of a row goes to the core -/
def gh_cy (a : me_S) (p i r : Nat) (t : List (Nat × Nat × Nat)) : me_S := if i = a.bo p then (if a.kd p = 113 then gh_aq (gh_dl (gh_g0 a p i r t) p) p else gh_dl (gh_g0 a p i r t) p) else gh_g0 a p i r t
theorem y_gf {a : me_S} {μ : me_M} (hC : me_RC a μ) {r p i : Nat} (hr : r < 160) {e : Nat × Nat × Nat} {t : List (Nat × Nat × Nat)} (hq : a.q r = e :: t) (h4 : t.length < 4) : ∃ μ', f_Row_giveFirst μ r (me_bi (decide (i = a.bo p))) (me_N (a.bt + 1)) = some (μ', ()) ∧ me_RC (me_S.s_q (me_S.s_ro (me_S.s_rg a (me_fu a.rg r (a.bt + 1))) (if i = a.bo p then me_fu a.ro r none else a.ro)) (me_fu a.q r t)) μ' ∧ ∀ k, ¬ (17 ≤ k ∧ k ≤ 20) → μ' k = μ k := by
  obtain ⟨⟨μ1, a1, a2, a3⟩, ⟨μ2, b1, b2, b3⟩⟩ := y_give hC (g := a.bt + 1) hr hq h4
  by_cases g : i = a.bo p
  · rw [decide_eq_true g]
    refine ⟨μ2, b1, ?_, b3⟩
    rw [if_pos g]
    exact b2
  · rw [decide_eq_false g]
    refine ⟨μ1, a1, ?_, a3⟩
    rw [if_neg g]
    exact a2.eq ⟨rfl, rfl, rfl, rfl, rfl, rfl, rfl, rfl, rfl, rfl, rfl, rfl, rfl, rfl, rfl, rfl, rfl, rfl, rfl, rfl, rfl, rfl, rfl, rfl, rfl, rfl, rfl, rfl, rfl, rfl, rfl, rfl, rfl, rfl, rfl, rfl, rfl, rfl, rfl, rfl, rfl⟩
theorem y_core2 {a : me_S} {μ : me_M} (hC : me_RC a μ) {r p i : Nat} {e : Nat × Nat × Nat} {t : List (Nat × Nat × Nat)} (hr : r < 160) (hq : a.q r = e :: t) (h4 : t.length < 4) (hp : p < a.np) (hi : i < 1000) (hb : a.bo p < 1000) (hnow : μ 30 0 6 = me_N (a.bt + 1)) (hg : a.gl p < 16) (hpl : a.kd p = 113 → a.pl p < 8 ∧ 1 ≤ a.ow ∧ a.np < 200) (how : a.ow < 1000) : ∃ μ', f_Mover_giveToCore_b21 μ r p (me_N i) = some (μ', ()) ∧ me_RC (gh_cy a p i r t) μ' ∧ ∀ k, ¬ (k = 6 ∨ k = 8 ∨ k = 23 ∨ (17 ≤ k ∧ k ≤ 20)) → μ' k = μ k := by
  obtain ⟨μ3, c1, c2, c3⟩ := y_gf hC (p := p) (i := i) hr hq h4
  have c4 : me_RC (gh_g0 a p i r t) (me_up μ3 8 p 8 (me_N (a.tk p + 1))) := c2.w_tk p (a.tk p + 1)
  have ztk : μ3 8 p 8 = me_N (a.tk p) := c2.tk p
  have t2 : f_Packet_isTail (me_up μ3 8 p 8 (me_N (a.tk p + 1))) p (me_N i) = some (me_bi (decide (i = a.bo p))) := y_tail c4 hp hi hb
  have n3 : me_up μ3 8 p 8 (me_N (a.tk p + 1)) 30 0 6 = me_N (a.bt + 1) := by rw [me_up_kn (by decide), c3 30 (by decide)]; exact hnow
  have f3 : ∀ k, ¬ (k = 8 ∨ (17 ≤ k ∧ k ≤ 20)) → me_up μ3 8 p 8 (me_N (a.tk p + 1)) k = μ k := fun k hk => by
    funext x y
    rw [me_up_kn (by omega), c3 k (by omega)]
  unfold f_Mover_giveToCore_b21
  rw [y_tail hC hp hi hb, me_bd_s, hnow, c1, me_b2_s, ztk, me_N_1, me_N_add, me_lt_s, t2, me_bd_s]
  unfold gh_cy
  by_cases g : i = a.bo p
  · obtain ⟨μ8, d1, d2, d3⟩ := y_deliver c4 (p := p) n3 hg hpl how
    rw [decide_eq_true g, if_neg (by decide), if_pos g, d1, me_b2_s]
    exact ⟨μ8, rfl, d2, fun k hk => by rw [d3 k (by omega), f3 k (by omega)]⟩
  · rw [decide_eq_false g, if_pos (by rfl), if_neg g]
    exact ⟨_, rfl, c4, fun k hk => f3 k (by omega)⟩
/-- the way of a head to the core is noted -/
def gh_hc (a : me_S) (p i r : Nat) : me_S := if i = 0 then me_S.s_hd (me_S.s_rh a (me_fu a.rh r (some 4))) (me_fu a.hd p none) else a
theorem y_core {a : me_S} {μ : me_M} (hC : me_RC a μ) {r p i c : Nat} {t : List (Nat × Nat × Nat)} (hr : r < 160) (hq : a.q r = (p, i, c) :: t) (h4 : t.length < 4) (hp : p < a.np) (hi : i < 1000) (hb : a.bo p < 1000) (hnow : μ 30 0 6 = me_N (a.bt + 1)) (hg : a.gl p < 16) (hpl : a.kd p = 113 → a.pl p < 8 ∧ 1 ≤ a.ow ∧ a.np < 200) (how : a.ow < 1000) : ∃ μ', f_Mover_giveToCore μ r p = some (μ', ()) ∧ me_RC (gh_cy (gh_hc a p i r) p i r t) μ' ∧ ∀ k, ¬ (k = 6 ∨ k = 8 ∨ k = 23 ∨ (17 ≤ k ∧ k ≤ 20)) → μ' k = μ k := by
  have hx : μ 19 r 0 = me_N i := hC.q2 r 0 (p, i, c) hr (by rw [hq]; rfl)
  unfold f_Mover_giveToCore gh_hc
  rw [me_lt_s, hx]
  by_cases e : i = 0
  · have h1 : me_RC (me_S.s_hd (me_S.s_rh a (me_fu a.rh r (some 4))) (me_fu a.hd p none)) (me_up (me_up μ 17 r 6 4) 8 p 9 (-1)) := (hC.w_rh r (some 4)).w_hd p none
    rw [if_pos (by rw [e]; rfl), if_pos e, me_lt_s, me_lt_s]
    obtain ⟨μ', d1, d2, d3⟩ := y_core2 h1 (p := p) (i := i) hr hq h4 hp hi hb (by rw [me_up_kn (by decide), me_up_kn (by decide)]; exact hnow) hg hpl how
    refine ⟨μ', d1, d2, fun k hk => ?_⟩
    rw [d3 k hk]
    funext x y
    rw [me_up_kn (by omega), me_up_kn (by omega)]
  · rw [if_neg (by rw [me_N_0, me_N_inj (by omega) (by omega)]; exact e), if_neg e]
    exact y_core2 hC hr hq h4 hp hi hb hnow hg hpl how
/-- a first piece goes ahead -/
def gh_ay0 (a : me_S) (p i r r' : Nat) (t : List (Nat × Nat × Nat)) : me_S := me_S.s_q (me_S.s_q (me_S.s_ro (me_S.s_rg a (me_fu a.rg r (a.bt + 1))) (if i = a.bo p then me_fu a.ro r none else a.ro)) (me_fu a.q r t)) (me_fu (me_fu a.q r t) r' (a.q r' ++ [(p, i, a.bt + 1)]))
def gh_ha (a : me_S) (p i r r' d n' : Nat) : me_S := if i = 0 then me_S.s_hd (me_S.s_ro (me_S.s_rh a (me_fu a.rh r (some d))) (me_fu a.ro r' (some p))) (me_fu a.hd p (some n')) else a
theorem y_ahead2 {a : me_S} {μ : me_M} (hC : me_RC a μ) {r r' p i : Nat} {e : Nat × Nat × Nat} {t : List (Nat × Nat × Nat)} (hr : r < 160) (hr' : r' < 160) (hne : ¬ r' = r) (hq : a.q r = e :: t) (h4 : t.length < 4) (hl : (a.q r').length < 4) (hp : p < a.np) (hp2 : p < 200) (hi : i < 1000) (hb : a.bo p < 1000) (hnow : μ 30 0 6 = me_N (a.bt + 1)) : ∃ μ', f_Mover_givesAhead_b136 μ r p (me_N i) r' = some (μ', 1) ∧ me_RC (gh_ay0 a p i r r' t) μ' ∧ ∀ k, ¬ (17 ≤ k ∧ k ≤ 20) → μ' k = μ k := by
  obtain ⟨μ3, c1, c2, c3⟩ := y_gf hC (p := p) (i := i) hr hq h4
  have hq' : (me_S.s_q (me_S.s_ro (me_S.s_rg a (me_fu a.rg r (a.bt + 1))) (if i = a.bo p then me_fu a.ro r none else a.ro)) (me_fu a.q r t)).q r' = a.q r' := me_fu_ne hne
  obtain ⟨μ5, d1, d2, d3⟩ := y_add c2 (p := p) (i := i) (g := a.bt + 1) hr' (by rw [hq']; exact hl)
  rw [hq'] at d2
  have z0 : μ3 8 p 0 = me_N p := by rw [c3 8 (by decide)]; exact hC.p0 p hp2
  have zn : μ3 30 0 6 = me_N (a.bt + 1) := by rw [c3 30 (by decide)]; exact hnow
  refine ⟨μ5, ?_, d2, fun k hk => by rw [d3 k hk, c3 k hk]⟩
  unfold f_Mover_givesAhead_b136
  rw [y_tail hC hp hi hb, me_bd_s, hnow, c1, me_b2_s, z0, zn, d1, me_b2_s]
theorem y_ahead {a : me_S} {μ : me_M} (hC : me_RC a μ) {r r' p i d n' : Nat} {e : Nat × Nat × Nat} {t : List (Nat × Nat × Nat)} (hr : r < 160) (hr' : r' < 160) (hne : ¬ r' = r) (hq : a.q r = e :: t) (h4 : t.length < 4) (hl : (a.q r').length < 4) (hp : p < a.np) (hp2 : p < 200) (hi : i < 1000) (hb : a.bo p < 1000) (hnow : μ 30 0 6 = me_N (a.bt + 1)) : ∃ μ', f_Mover_givesAhead_b110 μ (me_N n') (me_N d) r p (me_N i) r' = some (μ', 1) ∧ me_RC (gh_ay0 (gh_ha a p i r r' d n') p i r r' t) μ' ∧ ∀ k, ¬ (k = 8 ∨ (17 ≤ k ∧ k ≤ 20)) → μ' k = μ k := by
  unfold f_Mover_givesAhead_b110 gh_ha
  by_cases e : i = 0
  · have z0 : μ 8 p 0 = me_N p := hC.p0 p hp2
    have h1 : me_RC (me_S.s_hd (me_S.s_ro (me_S.s_rh a (me_fu a.rh r (some d))) (me_fu a.ro r' (some p))) (me_fu a.hd p (some n'))) (me_up (me_up (me_up μ 17 r 6 (me_N d)) 17 r' 5 (me_N p)) 8 p 9 (me_N n')) := ((hC.w_rh r (some d)).w_ro r' (some p)).w_hd p (some n')
    rw [if_pos (by rw [e]; rfl), if_pos e, me_lt_s, me_up_kn (show ¬ 8 = 17 by decide), z0, me_lt_s, me_lt_s]
    obtain ⟨μ', d1, d2, d3⟩ := y_ahead2 h1 (p := p) (i := i) hr hr' hne hq h4 hl hp hp2 hi hb (by rw [me_up_kn (by decide), me_up_kn (by decide), me_up_kn (by decide)]; exact hnow)
    refine ⟨μ', d1, d2, fun k hk => ?_⟩
    rw [d3 k (by omega)]
    funext x y
    rw [me_up_kn (by omega), me_up_kn (by omega), me_up_kn (by omega)]
  · rw [if_neg (by rw [me_N_0, me_N_inj (by omega) (by omega)]; exact e), if_neg e]
    obtain ⟨μ', d1, d2, d3⟩ := y_ahead2 hC (p := p) (i := i) hr hr' hne hq h4 hl hp hp2 hi hb hnow
    exact ⟨μ', d1, d2, fun k hk => d3 k (by omega)⟩
