/-! a core puts a piece, side by side; all cores -/
theorem y_b77 {a : me_S} {μ : me_M} (hC : me_RC a μ) {p r : Nat} (hp : p < 200) (hr : r < 160) (hl : (a.q r).length < 4) (hnow : μ 30 0 6 = me_N (a.bt + 1)) : ∃ μ', f_Mover_putPiece_b77 μ p r = some (me_up μ' 30 0 7 1, ()) ∧ me_RC (gh_pu a p r) μ' ∧ ∀ k, ¬ (k = 8 ∨ (17 ≤ k ∧ k ≤ 20)) → μ' k = μ k := by
  obtain ⟨μ2, d1, d2, d3⟩ := y_add hC (p := p) (i := a.pt p) (g := a.bt + 1) hr hl
  have z7 : μ2 8 p 7 = me_N (a.pt p) := d2.pt p
  refine ⟨me_up μ2 8 p 7 (me_N (a.pt p + 1)), ?_, d2.w_pt p (a.pt p + 1), fun k hk => ?_⟩
  · unfold f_Mover_putPiece_b77
    rw [hC.p0 p hp, hC.pt, hnow, d1, me_b2_s, z7, me_N_1, me_N_add, me_lt_s, me_lt_s]
  · funext i j
    rw [me_up_kn (by omega), d3 k (by omega)]
theorem bb_fp {a : me_S} {W : Nat → Bool} {v : Int32} {μ ν : me_M} (hX : bb_X a a W v v μ ν) {n c F : Nat} (hc : c < 2) (hI : me_Iv (me_S.s_fp a (me_fu a.fp (2 * n + c) F))) : bb_F a (me_S.s_fp a (me_fu a.fp (2 * n + c) F)) μ (me_up μ 16 n c (me_N F)) ν ν ∧ bb_X (me_S.s_fp a (me_fu a.fp (2 * n + c) F)) (me_S.s_fp a (me_fu a.fp (2 * n + c) F)) W v v (me_up μ 16 n c (me_N F)) ν := by
  obtain ⟨hC, hM, hI0, h4, h5, h6, h7, h8, h9⟩ := id hX
  exact bb_fin hX (hC.w_fp n c F hc) (hM.eq ⟨rfl, rfl, rfl, rfl, rfl, rfl, rfl, rfl, rfl, rfl, rfl, rfl, rfl, rfl, rfl, rfl, rfl, rfl, rfl, rfl, rfl, rfl, rfl, rfl, rfl, rfl, rfl, rfl, rfl, rfl, rfl, rfl, rfl, rfl, rfl, rfl, rfl⟩) hI rfl rfl rfl rfl (fun k hk => by funext i j; rw [me_up_kn (by omega)]) h6 rfl (fun _ _ => rfl)
theorem bb_put1 {a : me_S} {W : Nat → Bool} {v : Int32} {μ ν : me_M} (hX : bb_X a a W v v μ ν) {p n c : Nat} (hn : n < a.w * a.h) (hc : c < 2) (hp : p < a.np) (hy : gh_yp a n c p) (hfst : ∀ j, j < p → ¬ gh_yp a n c j) (hfp : a.fp (2 * n + c) ≤ p) (haw : a.aw n = true) (hl : (a.q (5 * (2 * n + c) + 4)).length < a.rp) : ∃ μ' ν' a', (if a.pt p = 0 then f_Mover_putPiece_b77 (me_up (me_up μ 8 p 2 119) 8 p 9 (me_N n)) p (5 * (2 * n + c) + 4) else f_Mover_putPiece_b77 μ p (5 * (2 * n + c) + 4)) = some (μ', ()) ∧ (me_b2 (f_M_adds ν (me_N n) (me_N c) 4 ((8 : Int32) * me_N p + me_N (a.pt p))) (fun μ10 _ => some (me_up (me_up μ10 43 0 p (μ10 43 0 p + 1)) 38 0 p 119, ()))) = some (ν', ()) ∧ bb_F a a' μ μ' ν ν' ∧ bb_X a' a' W 1 1 μ' ν' := by
  obtain ⟨hC, hM, hI, h4, h5, h6, h7, h8, h9⟩ := id hX
  obtain ⟨y1, y2, y3, y4⟩ := hy
  have hwh := hI.wh
  have hrp := hI.1.irp
  have hnp := hI.n200
  have ecr : 5 * (2 * n + c) + 4 = me_cr a.kd a.sr p := by unfold me_cr; omega
  have kI : ∀ b : me_S, _ → _ → _ → _ → _ → _ → _ → _ → me_Iv b := fun b => gh_iv_pu hI hp ecr y3 y4 (by rw [y1]; exact haw) (by rw [y1, y2]; exact hfst) (by omega) (by rw [y1, y2]; exact hfp)
  obtain ⟨ν1, g1, g2, g3, g4, g5⟩ := m_add hM (p := p) (i := a.pt p) (show n < 16 by omega) hc (show 4 < 5 by omega) (by omega)
  have z43 : ν1 43 0 p = me_N (a.pt p) := g2.pt p hp
  have g6 : me_RM (me_S.s_st (gh_pu a p (5 * (2 * n + c) + 4)) (me_fu a.st p 119)) (me_up (me_up ν1 43 0 p (me_N (a.pt p + 1))) 38 0 p 119) := (g2.w_pt p (a.pt p + 1)).w_st p 119 (fun q => by rcases q with q | q <;> exact absurd q (by decide))
  have hB : me_b2 (f_M_adds ν (me_N n) (me_N c) 4 ((8 : Int32) * me_N p + me_N (a.pt p))) (fun μ10 _ => some (me_up (me_up μ10 43 0 p (μ10 43 0 p + 1)) 38 0 p 119, ())) = some (me_up (me_up ν1 43 0 p (me_N (a.pt p + 1))) 38 0 p 119, ()) := by
    rw [me_N_8, me_N_mul, me_N_add, me_N_4, g1, me_b2_s, z43, me_N_1, me_N_add]
  have hpt : ∀ p', me_fu a.pt p (a.pt p + 1) p' = if p' = p then a.pt p + 1 else a.pt p' := fun p' => rfl
  by_cases e : a.pt p = 0
  · have h1 : me_RC (me_S.s_hd (me_S.s_st a (me_fu a.st p 119)) (me_fu a.hd p (some n))) (me_up (me_up μ 8 p 2 119) 8 p 9 (me_N n)) := (hC.w_st p 119).w_hd p (some n)
    obtain ⟨μ', d1, d2, d3⟩ := y_b77 h1 (p := p) (r := 5 * (2 * n + c) + 4) (by omega) (by omega) (show (a.q (5 * (2 * n + c) + 4)).length < 4 by omega) (by rw [me_up_kn (by decide), me_up_kn (by decide)]; exact h4)
    have hI' : me_Iv (gh_pu (me_S.s_hd (me_S.s_st a (me_fu a.st p 119)) (me_fu a.hd p (some n))) p (5 * (2 * n + c) + 4)) := by
      refine kI _ ⟨rfl, rfl, rfl, rfl, rfl⟩ ⟨rfl, rfl, rfl, rfl, rfl, rfl, rfl, rfl, rfl, rfl⟩ ⟨rfl, rfl, rfl, rfl, rfl, rfl, rfl, rfl, rfl, rfl⟩ ⟨rfl, rfl, rfl, rfl, rfl, rfl, rfl, rfl⟩ rfl (fun p' => rfl) hpt (fun p' => ?_)
      show me_fu a.hd p (some n) p' = _
      rw [me_fu_ap]
      by_cases q : p' = p
      · rw [if_pos q, if_pos ⟨q, e⟩, y1]
      · rw [if_neg q, if_neg (fun k => q k.1)]
    have g7 : me_RM (gh_pu (me_S.s_hd (me_S.s_st a (me_fu a.st p 119)) (me_fu a.hd p (some n))) p (5 * (2 * n + c) + 4)) (me_up (me_up ν1 43 0 p (me_N (a.pt p + 1))) 38 0 p 119) := g6.eq ⟨rfl, rfl, rfl, rfl, rfl, rfl, rfl, rfl, rfl, rfl, rfl, rfl, rfl, rfl, rfl, rfl, rfl, rfl, rfl, rfl, rfl, rfl, rfl, rfl, rfl, rfl, rfl, rfl, rfl, rfl, rfl, rfl, rfl, rfl, rfl, rfl, rfl⟩
    obtain ⟨k1, k2⟩ := bb_fin hX d2 g7 hI' rfl rfl rfl rfl (fun k hk => by
      rw [d3 k (by omega)]
      funext i j
      rw [me_up_kn (by omega), me_up_kn (by omega)]) (v' := 1) (by rw [me_up_kn (by decide), me_up_kn (by decide)]; exact g3) (by rw [me_up_kn (by decide), me_up_kn (by decide)]; exact g5 42 (by decide)) (fun k hk => by
      funext i j
      rw [me_up_kn (by omega), me_up_kn (by omega), g4 k (by omega)])
    obtain ⟨q1, q2⟩ := bb_mv k2
    exact ⟨_, _, _, by rw [if_pos e]; exact d1, hB, k1.tr_ q1, q2⟩
  · have hst : a.st p = 119 := by
      have ht := (hI.2.1.ipt p hp).1
      rcases hI.2.1.ist p hp with q | q | q | q | q
      · exact absurd (hI.2.1.is0 p hp q) e
      · exact q
      · have := hI.2.1.is2 p hp (Or.inl q)
        omega
      · have := hI.2.1.is2 p hp (Or.inr q)
        omega
      · exact absurd q y4
    obtain ⟨μ', d1, d2, d3⟩ := y_b77 hC (p := p) (r := 5 * (2 * n + c) + 4) (by omega) (by omega) (by omega) h4
    have est : me_fu a.st p 119 = a.st := me_fu_id hst
    have hI' : me_Iv (gh_pu a p (5 * (2 * n + c) + 4)) := by
      refine kI _ ⟨rfl, rfl, rfl, rfl, rfl⟩ ⟨rfl, rfl, rfl, rfl, rfl, rfl, rfl, rfl, rfl, rfl⟩ ⟨rfl, rfl, rfl, rfl, rfl, rfl, rfl, rfl, rfl, rfl⟩ ⟨rfl, rfl, rfl, rfl, rfl, rfl, rfl, rfl⟩ rfl (fun p' => ?_) hpt (fun p' => ?_)
      · show a.st p' = _
        by_cases q : p' = p
        · rw [if_pos q, q]
          exact hst
        · rw [if_neg q]
      · show a.hd p' = _
        rw [if_neg (fun k => e k.2)]
    have g7 : me_RM (gh_pu a p (5 * (2 * n + c) + 4)) (me_up (me_up ν1 43 0 p (me_N (a.pt p + 1))) 38 0 p 119) := g6.eq ⟨rfl, rfl, rfl, rfl, rfl, rfl, rfl, est, rfl, rfl, rfl, rfl, rfl, rfl, rfl, rfl, rfl, rfl, rfl, rfl, rfl, rfl, rfl, rfl, rfl, rfl, rfl, rfl, rfl, rfl, rfl, rfl, rfl, rfl, rfl, rfl, rfl⟩
    obtain ⟨k1, k2⟩ := bb_fin hX d2 g7 hI' rfl rfl rfl rfl (fun k hk => d3 k (by omega)) (v' := 1) (by rw [me_up_kn (by decide), me_up_kn (by decide)]; exact g3) (by rw [me_up_kn (by decide), me_up_kn (by decide)]; exact g5 42 (by decide)) (fun k hk => by
      funext i j
      rw [me_up_kn (by omega), me_up_kn (by omega), g4 k (by omega)])
    obtain ⟨q1, q2⟩ := bb_mv k2
    exact ⟨_, _, _, by rw [if_neg e]; exact d1, hB, k1.tr_ q1, q2⟩
theorem bb_put {a : me_S} {W : Nat → Bool} {v : Int32} {μ ν : me_M} (hX : bb_X a a W v v μ ν) {n c : Nat} (hn : n < a.w * a.h) (hc : c < 2) : ∃ μ' ν' a' W' v', f_Mover_putPiece μ (me_N n) (me_N c) = some (μ', ()) ∧ f_M_puts ν (me_N n) (me_N c) = some (ν', ()) ∧ bb_F a a' μ μ' ν ν' ∧ bb_X a' a' W' v' v' μ' ν' ∧ (v' = v ∨ v' = 1) := by
  obtain ⟨hC, hM, hI, h4, h5, h6, h7, h8, h9⟩ := id hX
  have hwh := hI.wh
  have hnp := hI.n200
  have hrp := hI.1.irp
  have hfp0 := hI.2.2.2.2.2.2.2.2 (2 * n + c)
  obtain ⟨F, k1, k2, k3, k4, k5⟩ := y_fput hC hI hn hc (a.np - a.fp (2 * n + c)) me_FU (a.fp (2 * n + c)) (by omega) (by unfold me_FU; omega)
  have hIf := gh_iv_fp hI hc k2 k3
  obtain ⟨q1, q2⟩ := bb_fp hX hc hIf
  -- all before F are in, or lost
  have all : ∀ j, j < F → ¬ gh_yp a n c j := fun j hj hy => by
    by_cases g : j < a.fp (2 * n + c)
    · rcases hI.2.2.2.2.2.1 n c j g (by omega) hy.1 hy.2.1 with q | q
      · have := hy.2.2.1
        omega
      · exact hy.2.2.2 q
    · exact k3 j (by omega) hj hy
  obtain ⟨o, ho, eR⟩ := m_fput hM hI hn hc a.np me_FU none (Nat.le_refl _) (by unfold me_FU; omega) ⟨fun i h1 h2 h3 => by omega, fun F e => by cases e⟩
  have eB : f_M_puts ν (me_N n) (me_N c) = f_M_puts_b10 (fun _ _ _ _ _ => none) ν (me_N n) (me_N c) (me_Op o) (-1) := by
    unfold f_M_puts
    rw [me_lt_s, hM.np]
    exact eR
  have eA : f_Mover_putPiece μ (me_N n) (me_N c) = if F < a.np then (if a.aw n = true then (if (a.q (5 * (2 * n + c) + 4)).length < a.rp then (if a.pt F = 0 then f_Mover_putPiece_b77 (me_up (me_up (me_up μ 16 n c (me_N F)) 8 F 2 119) 8 F 9 (me_N n)) F (5 * (2 * n + c) + 4) else f_Mover_putPiece_b77 (me_up μ 16 n c (me_N F)) F (5 * (2 * n + c) + 4)) else some (me_up μ 16 n c (me_N F), ())) else some (me_up (me_up μ 16 n c (me_N F)) 13 n 4 1, ())) else some (me_up μ 16 n c (me_N F), ()) := by
    have hC2 := q2.1
    unfold f_Mover_putPiece f_Mover_firstToPut
    rw [me_gd_n (by omega) (by omega), me_N_ix (by omega), me_gd_n (by omega) hc, me_N_ix (by omega), hC.fp n c (by omega) hc, me_lt_s, k5]
    unfold f_Mover_firstToPut_b67
    rw [me_gd_n (by omega) hc, me_N_ix (by omega), me_lt_s]
    by_cases g : F < a.np
    · have zaw : me_up μ 16 n c (me_N F) 13 n 3 = me_bi (a.aw n) := hC2.aw n (by omega)
      have zpl : f_Row_hasPlace (me_up μ 16 n c (me_N F)) (5 * (2 * n + c) + 4) = some (me_bi (decide ((a.q (5 * (2 * n + c) + 4)).length < a.rp))) := y_place hC2 hIf (by omega)
      have zpt : me_up μ 16 n c (me_N F) 8 F 7 = me_N (a.pt F) := hC2.pt F
      have hpt1 := (hI.2.1.ipt F g).2
      have hbo1 := hI.2.1.ibo F g
      rw [y_find_o hC2 hIf g, me_bd_s, me_oq_s, me_b2_s, me_oq_s, zaw, if_pos g]
      by_cases haw : a.aw n = true
      · rw [haw, if_neg (by decide), if_pos rfl, me_N_5, me_N_mul, me_N_4, me_N_add, me_gd_n (by omega) (by omega), me_N_ix (by omega), show 10 * n + (c * 5 + 4) = 5 * (2 * n + c) + 4 by omega, zpl, me_bd_s]
        by_cases hl : (a.q (5 * (2 * n + c) + 4)).length < a.rp
        · rw [decide_eq_true hl, if_neg (by decide), if_pos hl, zpt, me_lt_s, me_lt_s]
          by_cases e : a.pt F = 0
          · rw [if_pos (by rw [e]; rfl), if_pos e]
          · rw [if_neg (by rw [me_N_0, me_N_inj (by omega) (by omega)]; exact e), if_neg e]
        · rw [decide_eq_false hl, if_pos (by rfl), if_neg hl]
      · rw [show a.aw n = false by cases hb : a.aw n with | true => exact absurd hb haw | false => rfl, if_pos (by rfl), if_neg (by decide), me_lt_s]
    · rw [y_find_n hC2 hIf (fun q => by
        obtain ⟨m, hm, e⟩ := q
        have hm : m < a.np := hm
        rw [me_N_inj (by omega) (by omega)] at e
        omega), me_bd_s, me_oq_n, me_b2_s, me_oq_n, if_neg g]
  rw [eA, eB]
  by_cases g : F < a.np
  · have hy := k4 g
    have eo : o = some F := by
      obtain ⟨F', e1, e2⟩ := ho.1 F (Nat.zero_le _) g hy
      have h3 := (ho.2 F' e1).2.2
      by_cases e : F' = F
      · rw [e1, e]
      · exact absurd h3 (all F' (by omega))
    have hpt1 := (hI.2.1.ipt F g).2
    have hbo1 := hI.2.1.ibo F g
    have h4' := me_ql a hI (5 * (2 * n + c) + 4)
    have eB2 : f_M_puts_b10 (fun _ _ _ _ _ => none) ν (me_N n) (me_N c) (me_Op o) (-1) = if a.aw n = true then (if (a.q (5 * (2 * n + c) + 4)).length < a.rp then me_b2 (f_M_adds ν (me_N n) (me_N c) 4 ((8 : Int32) * me_N F + me_N (a.pt F))) (fun μ10 _ => some (me_up (me_up μ10 43 0 F (μ10 43 0 F + 1)) 38 0 F 119, ())) else some (ν, ())) else some (me_up ν 86 0 n 1, ()) := by
      rw [eo]
      show f_M_puts_b10 _ ν (me_N n) (me_N c) (me_N F) (-1) = _
      unfold f_M_puts_b10
      rw [if_pos (show (-1 : Int32) < 0 by decide), if_neg (me_N_nm1 (by omega)), me_gd_n (by omega) (by omega), me_N_ix (by omega), hM.aw n (by omega)]
      by_cases haw : a.aw n = true
      · rw [haw, if_pos (by rfl), if_pos rfl, me_gd_n (by omega) (by omega), me_gd_n (by omega) hc, me_N_ix (by omega), hM.rp, hM.qn (2 * n + c) 4 (by omega) (by omega)]
        by_cases hl : (a.q (5 * (2 * n + c) + 4)).length < a.rp
        · rw [if_neg (by rw [me_N_le (by omega) (by omega)]; omega), if_pos hl, me_gd_n (by omega) (by omega), me_N_ix (by omega), hM.pt F g]
          simp only [me_gd_n (show F < 2147483648 by omega) (show F < 200 by omega), me_lt_s, show vp_nar .char 119 = (119 : Int32) from rfl]
        · rw [if_pos (by rw [me_N_le (by omega) (by omega)]; omega), if_neg hl]
      · rw [show a.aw n = false by cases hb : a.aw n with | true => exact absurd hb haw | false => rfl, if_neg (by decide), if_neg (by decide), show vp_nar .boolean 1 = (1 : Int32) from rfl, me_lt_s, me_gd_n (by omega) (by omega)]
    rw [if_pos g, eB2]
    by_cases haw : a.aw n = true
    · rw [if_pos haw, if_pos haw]
      by_cases hl : (a.q (5 * (2 * n + c) + 4)).length < a.rp
      · rw [if_pos hl, if_pos hl]
        obtain ⟨μ', ν', a', d1, d2, d3, d4⟩ := bb_put1 q2 (p := F) (n := n) (c := c) hn hc g hy all (by show me_fu a.fp (2 * n + c) F (2 * n + c) ≤ F; rw [me_fu_at]; exact Nat.le_refl _) haw hl
        exact ⟨μ', ν', a', W, 1, d1, d2, q1.tr_ d3, d4, Or.inr rfl⟩
      · rw [if_neg hl, if_neg hl]
        exact ⟨_, _, _, W, v, rfl, rfl, q1, q2, Or.inl rfl⟩
    · rw [if_neg haw, if_neg haw]
      obtain ⟨r1, r2⟩ := bb_wake q2 (m := n) hn
      exact ⟨_, _, _, _, v, rfl, rfl, q1.tr_ r1, r2, Or.inl rfl⟩
  · have eo : o = none := by
      cases h : o with
      | none => rfl
      | some F' =>
        obtain ⟨-, r2, r3⟩ := ho.2 F' h
        exact absurd r3 (all F' (by omega))
    rw [if_neg g, eo]
    have eB2 : f_M_puts_b10 (fun _ _ _ _ _ => none) ν (me_N n) (me_N c) (me_Op none) (-1) = some (ν, ()) := by
      unfold f_M_puts_b10
      rw [if_pos (show (-1 : Int32) < 0 by decide)]
      exact if_pos rfl
    rw [eB2]
    exact ⟨_, _, _, W, v, rfl, rfl, q1, q2, Or.inl rfl⟩
theorem bb_puts : ∀ (d f f' n : Nat) (v : Int32) (a : me_S) (W : Nat → Bool) (μ ν : me_M), n + d = a.w * a.h → d < f → d < f' → bb_X a a W v v μ ν → ∃ μ' ν' a' W' v', f_Mover_putAll_h2 f μ (me_N n) = some (μ', ()) ∧ f_M_beatNow_h117 f' ν (me_N n) = f_M_beatNow_h149 me_FU ν' 0 0 0 ∧ bb_F a a' μ μ' ν ν' ∧ bb_X a' a' W' v' v' μ' ν' ∧ (v' = v ∨ v' = 1) := by
  intro d
  induction d with
  | zero =>
    intro f f' n v a W μ ν h1 h2 h3 hX
    obtain ⟨f, rfl⟩ : ∃ g, f = g + 1 := ⟨f - 1, by omega⟩
    obtain ⟨f', rfl⟩ : ∃ g, f' = g + 1 := ⟨f' - 1, by omega⟩
    have hwh := hX.2.2.1.wh
    have hC := hX.1
    have hM := hX.2.1
    refine ⟨μ, ν, a, W, v, ?_, ?_, bb_F.re, hX, Or.inl rfl⟩
    · show f_Mover_putAll_b2 _ _ _ = _
      unfold f_Mover_putAll_b2
      rw [hC.nn, if_pos (by rw [me_N_le (by omega) (by omega)]; omega)]
    · show f_M_beatNow_b117 _ _ _ = _
      unfold f_M_beatNow_b117 f_M_nodes
      rw [hM.w, hM.h, me_N_mul, me_bd_s, if_pos (by rw [me_N_le (by omega) (by omega)]; omega)]
  | succ d ih =>
    intro f f' n v a W μ ν h1 h2 h3 hX
    obtain ⟨f, rfl⟩ : ∃ g, f = g + 1 := ⟨f - 1, by omega⟩
    obtain ⟨f', rfl⟩ : ∃ g, f' = g + 1 := ⟨f' - 1, by omega⟩
    have hwh := hX.2.2.1.wh
    have hC := hX.1
    have hM := hX.2.1
    obtain ⟨μ1, ν1, a1, W1, v1, g1, g2, g3, g4, g5⟩ := bb_put hX (n := n) (c := 1) (by omega) (by decide)
    obtain ⟨μ2, ν2, a2, W2, v2, k1, k2, k3, k4, k5⟩ := bb_put g4 (n := n) (c := 0) (by rw [g3.1, g3.2.1]; omega) (by decide)
    obtain ⟨μ', ν', a', W', v', l1, l2, l3, l4, l5⟩ := ih f f' (n + 1) v2 a2 W2 μ2 ν2 (by rw [k3.1, k3.2.1, g3.1, g3.2.1]; omega) (by omega) (by omega) k4
    refine ⟨μ', ν', a', W', v', ?_, ?_, (g3.tr_ k3).tr_ l3, l4, ?_⟩
    · show f_Mover_putAll_b2 _ _ _ = _
      unfold f_Mover_putAll_b2
      rw [hC.nn, if_neg (by rw [me_N_le (by omega) (by omega)]; omega), me_N_1, g1, me_b2_s, me_N_0, k1, me_b2_s, me_N_inc, me_lt_s]
      exact l1
    · show f_M_beatNow_b117 _ _ _ = _
      unfold f_M_beatNow_b117 f_M_nodes
      rw [hM.w, hM.h, me_N_mul, me_bd_s, if_neg (by rw [me_N_le (by omega) (by omega)]; omega), me_N_1, g2, me_b2_s, me_N_0, k2, me_b2_s, me_N_inc, me_lt_s]
      exact l2
    · rcases l5 with q | q
      · rcases k5 with r | r
        · rcases g5 with s | s
          · exact Or.inl (q.trans (r.trans s))
          · exact Or.inr (q.trans (r.trans s))
        · exact Or.inr (q.trans r)
      · exact Or.inr q
