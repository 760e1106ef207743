/-! a core puts a piece, the class alone; all cores, one packet alone -/
theorem gb_fp {a : me_S} {W : Nat → Bool} {v : Int32} {μ : me_M} (hX : gb_X a W v μ) {n c F : Nat} (hc : c < 2) (hI : me_Iv (me_S.s_fp a (me_fu a.fp (2 * n + c) F))) : gb_X (me_S.s_fp a (me_fu a.fp (2 * n + c) F)) W v (me_up μ 16 n c (me_N F)) ∧ gb_F μ (me_up μ 16 n c (me_N F)) := gb_fin hX (hX.1.w_fp n c F hc) hI rfl rfl rfl (fun k hk => by funext i j; rw [me_up_kn (by omega)])
theorem gb_mv {a : me_S} {W : Nat → Bool} {v : Int32} {μ : me_M} (hX : gb_X a W v μ) : gb_X a W 1 (me_up μ 30 0 7 1) ∧ gb_F μ (me_up μ 30 0 7 1) := by
  obtain ⟨hC, hI, h4, h5, h7, h9⟩ := hX
  refine ⟨⟨hC.w_mv 1, hI, ?_, me_up_at, fun n hn => ?_, h9⟩, fun k hk => ?_⟩
  · rw [me_up_jn (by decide)]
    exact h4
  · rw [me_up_kn (by decide)]
    exact h7 n hn
  · funext i j
    rw [me_up_kn (by omega)]
/-- the ghost as the packet p puts its next piece into the row r -/
def gb_pg (a : me_S) (p n r : Nat) : me_S := if a.pt p = 0 then gh_pu (me_S.s_hd (me_S.s_st a (me_fu a.st p 119)) (me_fu a.hd p (some n))) p r else gh_pu a p r
theorem gb_put1 {a : me_S} {W : Nat → Bool} {v : Int32} {μ : me_M} (hX : gb_X a W v μ) {p n c : Nat} (hn : n < a.w * a.h) (hc : c < 2) (hp : p < a.np) (hy : gh_yp a n c p) (hfst : ∀ j, j < p → ¬ gh_yp a n c j) (hfp : a.fp (2 * n + c) ≤ p) (haw : a.aw n = true) (hl : (a.q (5 * (2 * n + c) + 4)).length < a.rp) : ∃ μ', (if a.pt p = 0 then f_Mover_putPiece_b77 (me_up (me_up μ 8 p 2 119) 8 p 9 (me_N n)) p (5 * (2 * n + c) + 4) else f_Mover_putPiece_b77 μ p (5 * (2 * n + c) + 4)) = some (μ', ()) ∧ gb_X (gb_pg a p n (5 * (2 * n + c) + 4)) W 1 μ' ∧ gb_F μ μ' := by
  obtain ⟨hC, hI, h4, h5, h7, h9⟩ := id hX
  obtain ⟨y1, y2, y3, y4⟩ := hy
  have hwh := hI.wh
  have hrp := hI.1.irp
  have hnp := hI.n200
  have ecr : 5 * (2 * n + c) + 4 = me_cr a.kd a.sr p := by unfold me_cr; omega
  have kI : ∀ b : me_S, _ → _ → _ → _ → _ → _ → _ → _ → me_Iv b := fun b => gh_iv_pu hI hp ecr y3 y4 (by rw [y1]; exact haw) (by rw [y1, y2]; exact hfst) (by omega) (by rw [y1, y2]; exact hfp)
  have hpt : ∀ p', me_fu a.pt p (a.pt p + 1) p' = if p' = p then a.pt p + 1 else a.pt p' := fun p' => rfl
  unfold gb_pg
  by_cases e : a.pt p = 0
  · have h1 : me_RC (me_S.s_hd (me_S.s_st a (me_fu a.st p 119)) (me_fu a.hd p (some n))) (me_up (me_up μ 8 p 2 119) 8 p 9 (me_N n)) := (hC.w_st p 119).w_hd p (some n)
    obtain ⟨μ', d1, d2, d3⟩ := y_b77 h1 (p := p) (r := 5 * (2 * n + c) + 4) (by omega) (by omega) (show (a.q (5 * (2 * n + c) + 4)).length < 4 by omega) (by rw [me_up_kn (by decide), me_up_kn (by decide)]; exact h4)
    have hI' : me_Iv (gh_pu (me_S.s_hd (me_S.s_st a (me_fu a.st p 119)) (me_fu a.hd p (some n))) p (5 * (2 * n + c) + 4)) := by
      refine kI _ ⟨rfl, rfl, rfl, rfl, rfl⟩ ⟨rfl, rfl, rfl, rfl, rfl, rfl, rfl, rfl, rfl, rfl⟩ ⟨rfl, rfl, rfl, rfl, rfl, rfl, rfl, rfl, rfl, rfl⟩ ⟨rfl, rfl, rfl, rfl, rfl, rfl, rfl, rfl⟩ rfl (fun p' => rfl) hpt (fun p' => ?_)
      show me_fu a.hd p (some n) p' = _
      rw [me_fu_ap]
      by_cases q : p' = p
      · rw [if_pos q, if_pos ⟨q, e⟩, y1]
      · rw [if_neg q, if_neg (fun k => q k.1)]
    obtain ⟨k1, k2⟩ := gb_fin hX d2 hI' rfl rfl rfl (fun k hk => by
      rw [d3 k (by omega)]
      funext i j
      rw [me_up_kn (by omega), me_up_kn (by omega)])
    obtain ⟨q1, q2⟩ := gb_mv k1
    rw [if_pos e, if_pos e]
    exact ⟨_, d1, q1, k2.tr q2⟩
  · have hst : a.st p = 119 := by
      have ht := (hI.2.1.ipt p hp).1
      rcases hI.2.1.ist p hp with q | q | q | q | q
      · exact absurd (hI.2.1.is0 p hp q) e
      · exact q
      · have := hI.2.1.is2 p hp (Or.inl q)
        omega
      · have := hI.2.1.is2 p hp (Or.inr q)
        omega
      · exact absurd q y4
    obtain ⟨μ', d1, d2, d3⟩ := y_b77 hC (p := p) (r := 5 * (2 * n + c) + 4) (by omega) (by omega) (by omega) h4
    have hI' : me_Iv (gh_pu a p (5 * (2 * n + c) + 4)) := by
      refine kI _ ⟨rfl, rfl, rfl, rfl, rfl⟩ ⟨rfl, rfl, rfl, rfl, rfl, rfl, rfl, rfl, rfl, rfl⟩ ⟨rfl, rfl, rfl, rfl, rfl, rfl, rfl, rfl, rfl, rfl⟩ ⟨rfl, rfl, rfl, rfl, rfl, rfl, rfl, rfl⟩ rfl (fun p' => ?_) hpt (fun p' => ?_)
      · show a.st p' = _
        by_cases q : p' = p
        · rw [if_pos q, q]
          exact hst
        · rw [if_neg q]
      · show a.hd p' = _
        rw [if_neg (fun k => e k.2)]
    obtain ⟨k1, k2⟩ := gb_fin hX d2 hI' rfl rfl rfl (fun k hk => d3 k (by omega))
    obtain ⟨q1, q2⟩ := gb_mv k1
    rw [if_neg e, if_neg e]
    exact ⟨_, d1, q1, k2.tr q2⟩
/-- a core's turn to put: which packet is the first, and what comes of it -/
theorem gb_put {a : me_S} {W : Nat → Bool} {v : Int32} {μ : me_M} (hX : gb_X a W v μ) {n c : Nat} (hn : n < a.w * a.h) (hc : c < 2) : ∃ F μ' a1, F ≤ a.np ∧ (∀ j, j < F → ¬ gh_yp a n c j) ∧ (F < a.np → gh_yp a n c F) ∧ a1 = me_S.s_fp a (me_fu a.fp (2 * n + c) F) ∧ f_Mover_putPiece μ (me_N n) (me_N c) = some (μ', ()) ∧ gb_F μ μ' ∧
    ((F = a.np ∧ gb_X a1 W v μ') ∨ (F < a.np ∧ a.aw n = false ∧ gb_X a1 (me_fu W n true) v μ') ∨ (F < a.np ∧ a.aw n = true ∧ ¬ (a.q (5 * (2 * n + c) + 4)).length < a.rp ∧ gb_X a1 W v μ') ∨ (F < a.np ∧ a.aw n = true ∧ (a.q (5 * (2 * n + c) + 4)).length < a.rp ∧ gb_X (gb_pg a1 F n (5 * (2 * n + c) + 4)) W 1 μ')) := by
  obtain ⟨hC, hI, h4, h5, h7, h9⟩ := id hX
  have hwh := hI.wh
  have hnp := hI.n200
  have hrp := hI.1.irp
  have hfp0 := hI.2.2.2.2.2.2.2.2 (2 * n + c)
  obtain ⟨F, k1, k2, k3, k4, k5⟩ := y_fput hC hI hn hc (a.np - a.fp (2 * n + c)) me_FU (a.fp (2 * n + c)) (by omega) (by unfold me_FU; omega)
  have hIf := gh_iv_fp hI hc k2 k3
  obtain ⟨q2, q1⟩ := gb_fp hX hc hIf
  have all : ∀ j, j < F → ¬ gh_yp a n c j := fun j hj hy => by
    by_cases g : j < a.fp (2 * n + c)
    · rcases hI.2.2.2.2.2.1 n c j g (by omega) hy.1 hy.2.1 with q | q
      · have := hy.2.2.1
        omega
      · exact hy.2.2.2 q
    · exact k3 j (by omega) hj hy
  have eA : f_Mover_putPiece μ (me_N n) (me_N c) = if F < a.np then (if a.aw n = true then (if (a.q (5 * (2 * n + c) + 4)).length < a.rp then (if a.pt F = 0 then f_Mover_putPiece_b77 (me_up (me_up (me_up μ 16 n c (me_N F)) 8 F 2 119) 8 F 9 (me_N n)) F (5 * (2 * n + c) + 4) else f_Mover_putPiece_b77 (me_up μ 16 n c (me_N F)) F (5 * (2 * n + c) + 4)) else some (me_up μ 16 n c (me_N F), ())) else some (me_up (me_up μ 16 n c (me_N F)) 13 n 4 1, ())) else some (me_up μ 16 n c (me_N F), ()) := by
    have hC2 := q2.1
    unfold f_Mover_putPiece f_Mover_firstToPut
    rw [me_gd_n (by omega) (by omega), me_N_ix (by omega), me_gd_n (by omega) hc, me_N_ix (by omega), hC.fp n c (by omega) hc, me_lt_s, k5]
    unfold f_Mover_firstToPut_b67
    rw [me_gd_n (by omega) hc, me_N_ix (by omega), me_lt_s]
    by_cases g : F < a.np
    · have zaw : me_up μ 16 n c (me_N F) 13 n 3 = me_bi (a.aw n) := hC2.aw n (by omega)
      have zpl : f_Row_hasPlace (me_up μ 16 n c (me_N F)) (5 * (2 * n + c) + 4) = some (me_bi (decide ((a.q (5 * (2 * n + c) + 4)).length < a.rp))) := y_place hC2 hIf (by omega)
      have zpt : me_up μ 16 n c (me_N F) 8 F 7 = me_N (a.pt F) := hC2.pt F
      have hpt1 := (hI.2.1.ipt F g).2
      have hbo1 := hI.2.1.ibo F g
      rw [y_find_o hC2 hIf g, me_bd_s, me_oq_s, me_b2_s, me_oq_s, zaw, if_pos g]
      by_cases haw : a.aw n = true
      · rw [haw, if_neg (by decide), if_pos rfl, me_N_5, me_N_mul, me_N_4, me_N_add, me_gd_n (by omega) (by omega), me_N_ix (by omega), show 10 * n + (c * 5 + 4) = 5 * (2 * n + c) + 4 by omega, zpl, me_bd_s]
        by_cases hl : (a.q (5 * (2 * n + c) + 4)).length < a.rp
        · rw [decide_eq_true hl, if_neg (by decide), if_pos hl, zpt, me_lt_s, me_lt_s]
          by_cases e : a.pt F = 0
          · rw [if_pos (by rw [e]; rfl), if_pos e]
          · rw [if_neg (by rw [me_N_0, me_N_inj (by omega) (by omega)]; exact e), if_neg e]
        · rw [decide_eq_false hl, if_pos (by rfl), if_neg hl]
      · rw [show a.aw n = false by cases hb : a.aw n with | true => exact absurd hb haw | false => rfl, if_pos (by rfl), if_neg (by decide), me_lt_s]
    · rw [y_find_n hC2 hIf (fun q => by
        obtain ⟨m, hm, e⟩ := q
        have hm : m < a.np := hm
        rw [me_N_inj (by omega) (by omega)] at e
        omega), me_bd_s, me_oq_n, me_b2_s, me_oq_n, if_neg g]
  by_cases g : F < a.np
  · have hy := k4 g
    by_cases haw : a.aw n = true
    · by_cases hl : (a.q (5 * (2 * n + c) + 4)).length < a.rp
      · obtain ⟨μ', d1, d2, d3⟩ := gb_put1 q2 (p := F) (n := n) (c := c) hn hc g hy all (by show me_fu a.fp (2 * n + c) F (2 * n + c) ≤ F; rw [me_fu_at]; exact Nat.le_refl _) haw hl
        have d1 : (if a.pt F = 0 then f_Mover_putPiece_b77 (me_up (me_up (me_up μ 16 n c (me_N F)) 8 F 2 119) 8 F 9 (me_N n)) F (5 * (2 * n + c) + 4) else f_Mover_putPiece_b77 (me_up μ 16 n c (me_N F)) F (5 * (2 * n + c) + 4)) = some (μ', ()) := d1
        exact ⟨F, μ', _, k2, all, k4, rfl, by rw [eA, if_pos g, if_pos haw, if_pos hl]; exact d1, q1.tr d3, Or.inr (Or.inr (Or.inr ⟨g, haw, hl, d2⟩))⟩
      · exact ⟨F, _, _, k2, all, k4, rfl, by rw [eA, if_pos g, if_pos haw, if_neg hl], q1, Or.inr (Or.inr (Or.inl ⟨g, haw, hl, q2⟩))⟩
    · obtain ⟨r1, r2⟩ := gb_wake q2 (m := n) hn
      exact ⟨F, _, _, k2, all, k4, rfl, by rw [eA, if_pos g, if_neg haw], q1.tr r2, Or.inr (Or.inl ⟨g, by cases hb : a.aw n with | true => exact absurd hb haw | false => rfl, r1⟩)⟩
  · exact ⟨F, _, _, k2, all, k4, rfl, by rw [eA, if_neg g], q1, Or.inl ⟨by omega, q2⟩⟩
/-- all other packets are wholly in -/
def gw_O (p : Nat) (a : me_S) : Prop := ∀ i, i < a.np → ¬ i = p → a.pt i = a.bo i + 1
theorem gw_O.k {p : Nat} {a a' : me_S} (h : gw_O p a) (k : gw_K p a a') : gw_O p a' := fun i hi hp => by
  obtain ⟨y1, y2, y3, y4, y5, y6, y7, y8, y9, y10, y11, y12, y13, y14, y15, y16, y17⟩ := k.k1
  rw [(k.k2 i hp).2.1, y10]
  exact h i (by rw [← y4]; exact hi) hp
/-- what came of the packet's turn to put -/
def gw_P (s b : Nat) (u u' : Nat → Nat) (aw W W' : Nat → Bool) : Prop := (u' = me_fu u 0 (u 0 + 1) ∧ aw s = true ∧ W' = W) ∨ (u' = u ∧ aw s = false ∧ W' = me_fu W s true) ∨ (u' = u ∧ aw s = true ∧ u 1 + 2 ≤ u 0 ∧ W' = W)
theorem gw_put {a : me_S} {W : Nat → Bool} {v : Int32} {μ : me_M} {us u : Nat → Nat} {x : Bool} {p c s g b D : Nat} {wn wd : Nat → Nat} (hX : gb_X a W v μ) (hM : gw_M a us u x p c s g b D wn wd) (hO : gw_O p a) (hus : us 0 ≤ u 0) {n c' : Nat} (hn : n < a.w * a.h) (hc : c' < 2) : ∃ μ' a' W' v' u', f_Mover_putPiece μ (me_N n) (me_N c') = some (μ', ()) ∧ gb_F μ μ' ∧ gb_X a' W' v' μ' ∧ gw_M a' us u' x p c s g b D wn wd ∧ gw_K p a a' ∧ a'.dn p = a.dn p ∧ (v' = v ∨ v' = 1) ∧ ((n = s ∧ c' = c ∧ u 0 ≤ b) → gw_P s b u u' a.aw W W') ∧ (¬ (n = s ∧ c' = c ∧ u 0 ≤ b) → u' = u ∧ W' = W ∧ v' = v) := by
  have hwh := hX.2.1.wh
  have hb := hM.mb
  have hrp := hM.mrp
  obtain ⟨F, μ', a1, k1, k2, k3, ea1, k4, k5, k6⟩ := gb_put hX hn hc
  have hM1 : gw_M a1 us u x p c s g b D wn wd := by
    rw [ea1]
    exact hM
  have hK1 : gw_K p a a1 := by
    rw [ea1]
    exact gw_K.mk ⟨rfl, rfl, rfl, rfl, rfl, rfl, rfl, rfl, rfl, rfl, rfl, rfl, rfl, rfl, rfl, rfl, rfl⟩ (fun _ _ => ⟨rfl, rfl, rfl⟩)
  have hd1 : a1.dn p = a.dn p := by rw [ea1]; rfl
  have hFp : F < a.np → F = p ∧ n = s ∧ c' = c ∧ u 0 ≤ b := fun h => by
    obtain ⟨y1, y2, y3, y4⟩ := k3 h
    by_cases e : F = p
    · rw [e] at y1 y2 y3
      rw [hM.msr] at y1
      rw [hM.mch] at y2
      rw [hM.mpt, hM.mbo] at y3
      exact ⟨e, y1.symm, y2.symm, y3⟩
    · have := hO F h e
      omega
  have hFn : F = a.np → ¬ (n = s ∧ c' = c ∧ u 0 ≤ b) := fun h q => by
    refine k2 p (by rw [h]; exact hM.mnp) ⟨by rw [hM.msr, q.1], by rw [hM.mch, q.2.1], by rw [hM.mpt, hM.mbo]; exact q.2.2, fun e => ?_⟩
    by_cases e0 : u 0 = 0
    · rw [hM.ms0 e0] at e
      exact absurd e (by decide)
    · rw [hM.ms1 (by omega) (by
        have := hM.anti (D + 1) 0 (by omega) (Nat.le_refl _)
        omega)] at e
      exact absurd e (by decide)
  rcases k6 with ⟨q1, q2⟩ | ⟨q1, q2, q3⟩ | ⟨q1, q2, q3, q4⟩ | ⟨q1, q2, q3, q4⟩
  · exact ⟨μ', a1, W, v, u, k4, k5, q2, hM1, hK1, hd1, Or.inl rfl, fun q => absurd q (hFn q1), fun _ => ⟨rfl, rfl, rfl⟩⟩
  · obtain ⟨e1, e2, e3, e4⟩ := hFp q1
    exact ⟨μ', a1, _, v, u, k4, k5, q3, hM1, hK1, hd1, Or.inl rfl, fun _ => Or.inr (Or.inl ⟨rfl, by rw [← e2]; exact q2, by rw [e2]⟩), fun q => absurd ⟨e2, e3, e4⟩ q⟩
  · obtain ⟨e1, e2, e3, e4⟩ := hFp q1
    refine ⟨μ', a1, W, v, u, k4, k5, q4, hM1, hK1, hd1, Or.inl rfl, fun _ => Or.inr (Or.inr ⟨rfl, by rw [← e2]; exact q2, ?_, rfl⟩), fun q => absurd ⟨e2, e3, e4⟩ q⟩
    have hl := hM.len (j := 0) (Nat.zero_le _)
    have ex : gw_x c wn wd 0 = 5 * (2 * n + c') + 4 := by
      show 5 * (2 * wn 0 + c) + 4 = _
      rw [hM.mW.w0, e2, e3]
    rw [ex] at hl
    have hl : (a.q (5 * (2 * n + c') + 4)).length = u 0 - u 1 := hl
    omega
  · obtain ⟨e1, e2, e3, e4⟩ := hFp q1
    have ex : gw_x c wn wd 0 = 5 * (2 * n + c') + 4 := by
      show 5 * (2 * wn 0 + c) + 4 = _
      rw [hM.mW.w0, e2, e3]
    rw [e1] at q4
    have hpt := hM1.mpt
    refine ⟨μ', _, W, 1, me_fu u 0 (u 0 + 1), k4, k5, q4, ?_, ?_, ?_, Or.inr rfl, fun _ => Or.inl ⟨rfl, by rw [← e2]; exact q2, rfl⟩, fun q => absurd ⟨e2, e3, e4⟩ q⟩
    · unfold gb_pg
      rw [← ex, hpt]
      by_cases e0 : u 0 = 0
      · rw [if_pos e0]
        refine hM1.put e4 hus (by rw [ea1, ← e2]; exact q2) ⟨rfl, rfl, rfl, rfl, rfl, rfl, rfl, rfl, rfl, rfl, rfl, rfl, rfl, rfl, rfl, rfl⟩ (fun r => ?_) ?_ me_fu_at me_fu_at
        · rw [← hpt]
          rfl
        · rw [if_pos e0, ← e2]
          exact me_fu_at
      · rw [if_neg e0]
        refine hM1.put e4 hus (by rw [ea1, ← e2]; exact q2) ⟨rfl, rfl, rfl, rfl, rfl, rfl, rfl, rfl, rfl, rfl, rfl, rfl, rfl, rfl, rfl, rfl⟩ (fun r => ?_) ?_ me_fu_at ?_
        · rw [← hpt]
          rfl
        · rw [if_neg e0]
          rfl
        · exact hM1.ms1 (by omega) (by
            have := hM.anti (D + 1) 0 (by omega) (Nat.le_refl _)
            omega)
    · refine hK1.tr ?_
      unfold gb_pg
      split
      · exact gw_K.mk ⟨rfl, rfl, rfl, rfl, rfl, rfl, rfl, rfl, rfl, rfl, rfl, rfl, rfl, rfl, rfl, rfl, rfl⟩ (fun i hi => ⟨me_fu_ne hi, me_fu_ne hi, rfl⟩)
      · exact gw_K.mk ⟨rfl, rfl, rfl, rfl, rfl, rfl, rfl, rfl, rfl, rfl, rfl, rfl, rfl, rfl, rfl, rfl, rfl⟩ (fun i hi => ⟨rfl, me_fu_ne hi, rfl⟩)
    · refine Eq.trans ?_ hd1
      unfold gb_pg
      split
      · rfl
      · rfl
theorem gw_puts {us : Nat → Nat} {x : Bool} {p c s g b D : Nat} {wn wd : Nat → Nat} : ∀ (d f n : Nat) (a : me_S) (W : Nat → Bool) (v : Int32) (μ : me_M) (u : Nat → Nat), n + d = a.w * a.h → d < f → gb_X a W v μ → gw_M a us u x p c s g b D wn wd → gw_O p a → us 0 ≤ u 0 → ∃ μ' a' W' v' u', f_Mover_putAll_h2 f μ (me_N n) = some (μ', ()) ∧ gb_F μ μ' ∧ gb_X a' W' v' μ' ∧ gw_M a' us u' x p c s g b D wn wd ∧ gw_K p a a' ∧ a'.dn p = a.dn p ∧ (v' = v ∨ v' = 1) ∧ ((n ≤ s ∧ u 0 ≤ b) → gw_P s b u u' a.aw W W') ∧ (¬ (n ≤ s ∧ u 0 ≤ b) → u' = u ∧ W' = W ∧ v' = v) := by
  intro d
  induction d with
  | zero =>
    intro f n a W v μ u h1 h2 hX hM hO hus
    obtain ⟨f, rfl⟩ : ∃ g, f = g + 1 := ⟨f - 1, by omega⟩
    have hwh := hX.2.1.wh
    have hs := hM.mW.wl 0 (Nat.zero_le _)
    rw [hM.mW.w0] at hs
    refine ⟨μ, a, W, v, u, ?_, gb_F.rf, hX, hM, gw_K.rf, rfl, Or.inl rfl, fun q => by omega, fun _ => ⟨rfl, rfl, rfl⟩⟩
    show f_Mover_putAll_b2 _ _ _ = _
    unfold f_Mover_putAll_b2
    rw [hX.1.nn, if_pos (by rw [me_N_le (by omega) (by omega)]; omega)]
  | succ d ih =>
    intro f n a W v μ u h1 h2 hX hM hO hus
    obtain ⟨f, rfl⟩ : ∃ g, f = g + 1 := ⟨f - 1, by omega⟩
    have hwh := hX.2.1.wh
    have hc2 := hM.mc
    obtain ⟨μ1, a1, W1, v1, u1, e1, e2, e3, e4, e5, e6, ev, e7, e8⟩ := gw_put hX hM hO hus (n := n) (c' := 1) (by omega) (by decide)
    have y := e5.k1
    have hus1 : us 0 ≤ u1 0 := by
      by_cases q : n = s ∧ 1 = c ∧ u 0 ≤ b
      · rcases e7 q with ⟨r, -⟩ | ⟨r, -⟩ | ⟨r, -⟩
        · rw [r, me_fu_at]
          omega
        · rw [r]; exact hus
        · rw [r]; exact hus
      · rw [(e8 q).1]; exact hus
    obtain ⟨μ2, a2, W2, v2, u2, f1, f2, f3, f4, f5, f6, fv, f7, f8⟩ := gw_put e3 e4 (hO.k e5) hus1 (n := n) (c' := 0) (by rw [y.1, y.2.1]; omega) (by decide)
    have hus2 : us 0 ≤ u2 0 := by
      by_cases q : n = s ∧ 0 = c ∧ u1 0 ≤ b
      · rcases f7 q with ⟨r, -⟩ | ⟨r, -⟩ | ⟨r, -⟩
        · rw [r, me_fu_at]
          omega
        · rw [r]; exact hus1
        · rw [r]; exact hus1
      · rw [(f8 q).1]; exact hus1
    have z := (e5.tr f5).k1
    obtain ⟨μ', a', W', v', u', g1, g2, g3, g4, g5, g6, gv, g7, g8⟩ := ih f (n + 1) a2 W2 v2 μ2 u2 (by rw [z.1, z.2.1]; omega) (by omega) f3 f4 ((hO.k e5).k f5) hus2
    refine ⟨μ', a', W', v', u', ?_, (e2.tr f2).tr g2, g3, g4, (e5.tr f5).tr g5, g6.trans (f6.trans e6), ?_, fun q => ?_, fun q => ?_⟩
    · show f_Mover_putAll_b2 _ _ _ = _
      unfold f_Mover_putAll_b2
      rw [hX.1.nn, if_neg (by rw [me_N_le (by omega) (by omega)]; omega), me_N_1, e1, me_b2_s, me_N_0, f1, me_b2_s, me_N_inc, me_lt_s]
      exact g1
    · rcases gv with q | q
      · rcases fv with r | r
        · rcases ev with s | s
          · exact Or.inl (q.trans (r.trans s))
          · exact Or.inr (q.trans (r.trans s))
        · exact Or.inr (q.trans r)
      · exact Or.inr q
    · by_cases qn : n = s
      · obtain ⟨r1, r2, r3⟩ := g8 (fun r => by omega)
        rcases (by omega : c = 0 ∨ c = 1) with q0 | q0
        · obtain ⟨t1, t2, t3⟩ := e8 (fun r => by omega)
          have t4 := f7 ⟨qn, q0.symm, by rw [t1]; exact q.2⟩
          have ya : a1.aw = a.aw := y.2.2.2.2.2.2.2.2.2.2.2.2.2.2.2.2
          rw [t1, t2, ya] at t4
          rw [r1, r2]
          exact t4
        · obtain ⟨t1, t2, t3⟩ := f8 (fun r => by omega)
          have t4 := e7 ⟨qn, q0.symm, q.2⟩
          rw [r1, r2, t1, t2]
          exact t4
      · obtain ⟨t1, t2, t3⟩ := e8 (fun r => qn r.1)
        obtain ⟨r1, r2, r3⟩ := f8 (fun r => qn r.1)
        have t4 := g7 ⟨by omega, by rw [r1, t1]; exact q.2⟩
        have ya : a2.aw = a.aw := z.2.2.2.2.2.2.2.2.2.2.2.2.2.2.2.2
        rw [r1, r2, t1, t2, ya] at t4
        exact t4
    · obtain ⟨t1, t2, t3⟩ := e8 (fun r => q ⟨by omega, r.2.2⟩)
      obtain ⟨r1, r2, r3⟩ := f8 (fun r => q ⟨by omega, by rw [← t1]; exact r.2.2⟩)
      obtain ⟨s1, s2, s3⟩ := g8 (fun r => q ⟨by omega, by rw [← t1, ← r1]; exact r.2⟩)
      exact ⟨s1.trans (r1.trans t1), s2.trans (r2.trans t2), s3.trans (r3.trans t3)⟩
