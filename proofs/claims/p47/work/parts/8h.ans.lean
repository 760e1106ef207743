/-! THE BEAT in which a question's last piece is taken: the answer is made, and its head is put in the same beat -/
def gq_D (p : Nat) (a a' : me_S) : Prop :=
  (a'.w = a.w ∧ a'.h = a.h ∧ a'.np = a.np + 1 ∧ a'.kd = me_fu a.kd a.np 97 ∧ a'.wd = me_fu a.wd a.np (a.mm (a.gl p) (a.pl p)) ∧ a'.an = me_fu (me_fu a.an a.np none) p (some a.np) ∧ a'.mm = me_fu2 a.mm (a.gl p) (a.pl p) (a.mm (a.gl p) (a.pl p) + a.ad p)) ∧
  (∀ i, i < a.np → a'.st i = me_fu a.st p 100 i) ∧
  (gb_co a') ∧
  (∀ r, a'.rg r ≤ a'.bt) ∧
  (gw_O a.np a') ∧
  (a'.bt = a.bt + 1) ∧
  (∀ n, a'.aw n = a.aw n)
theorem gq_D.d1 {p : Nat} {a a' : me_S} (hyp : gq_D p a a') : a'.w = a.w ∧ a'.h = a.h ∧ a'.np = a.np + 1 ∧ a'.kd = me_fu a.kd a.np 97 ∧ a'.wd = me_fu a.wd a.np (a.mm (a.gl p) (a.pl p)) ∧ a'.an = me_fu (me_fu a.an a.np none) p (some a.np) ∧ a'.mm = me_fu2 a.mm (a.gl p) (a.pl p) (a.mm (a.gl p) (a.pl p) + a.ad p) := hyp.1
theorem gq_D.d2 {p : Nat} {a a' : me_S} (hyp : gq_D p a a') : ∀ i, i < a.np → a'.st i = me_fu a.st p 100 i := hyp.2.1
theorem gq_D.d3 {p : Nat} {a a' : me_S} (hyp : gq_D p a a') : gb_co a' := hyp.2.2.1
theorem gq_D.d4 {p : Nat} {a a' : me_S} (hyp : gq_D p a a') : ∀ r, a'.rg r ≤ a'.bt := hyp.2.2.2.1
theorem gq_D.d5 {p : Nat} {a a' : me_S} (hyp : gq_D p a a') : gw_O a.np a' := hyp.2.2.2.2.1
theorem gq_D.d6 {p : Nat} {a a' : me_S} (hyp : gq_D p a a') : a'.bt = a.bt + 1 := hyp.2.2.2.2.2.1
theorem gq_D.d7 {p : Nat} {a a' : me_S} (hyp : gq_D p a a') : ∀ n, a'.aw n = a.aw n := hyp.2.2.2.2.2.2
theorem gq_D.mk {p : Nat} {a a' : me_S} (d1 : a'.w = a.w ∧ a'.h = a.h ∧ a'.np = a.np + 1 ∧ a'.kd = me_fu a.kd a.np 97 ∧ a'.wd = me_fu a.wd a.np (a.mm (a.gl p) (a.pl p)) ∧ a'.an = me_fu (me_fu a.an a.np none) p (some a.np) ∧ a'.mm = me_fu2 a.mm (a.gl p) (a.pl p) (a.mm (a.gl p) (a.pl p) + a.ad p)) (d2 : ∀ i, i < a.np → a'.st i = me_fu a.st p 100 i) (d3 : gb_co a') (d4 : ∀ r, a'.rg r ≤ a'.bt) (d5 : gw_O a.np a') (d6 : a'.bt = a.bt + 1) (d7 : ∀ n, a'.aw n = a.aw n) : gq_D p a a' := ⟨d1, d2, d3, d4, d5, d6, d7⟩
theorem gq_beat {a : me_S} {μ : me_M} {u : Nat → Nat} {x : Bool} {p s g D D' : Nat} {wn wd wn' wd' : Nat → Nat} (hS : gb_S a μ) (hco : gb_co a) (hbt : a.bt < 1000000) (hkd : a.kd p = 113) (hM : gw_M a u u x p 0 s g 1 D wn wd) (hu1 : u (D + 1) = 1) (hN : gw_N 1 D u) (hO : gw_O p a) (hnp : a.np = p + 1) (hst : ∀ i, i < p → a.st i = 100 ∨ a.st i = 114) (hrg : ∀ r, a.rg r ≤ a.bt) (hW' : gw_W x a.w a.h g s D' wn' wd') {K10 : me_M → Int32 → Int32 → Option (me_M × (Except Nat Int32))} {m i : Nat} (hi : i < m) (hm : m ≤ 100) : ∃ μ' a', f_Y_beats_b10 K10 μ (me_N m) (me_N i) = K10 μ' (me_N m) (me_N (i + 1)) ∧ gb_F μ μ' ∧ gb_S a' μ' ∧ gw_M a' (me_fu (fun _ => 0) 0 1) (me_fu (fun _ => 0) 0 1) x a.np 1 g s 1 D' wn' wd' ∧ gq_D p a a' := by
  obtain ⟨hC, hI, hz⟩ := id hS
  have hwh := hI.wh
  have han := hM.anti
  have hu0 := hM.mu0
  have huD : u D = 2 := by
    have h1 := han (D + 1) D (by omega) (Nat.le_refl _)
    have h2 := han D 0 (Nat.zero_le _) (by omega)
    rcases hN D (Nat.le_refl _) (by omega) with q | q <;> omega
  have hu2 : ∀ j, j ≤ D → u j = 2 := fun j hj => by
    have h1 := han D j hj (by omega)
    have h2 := han j 0 (Nat.zero_le _) (by omega)
    omega
  have hlt : u (D + 1) < u D := by omega
  obtain ⟨ci, t, hq, ht⟩ := hM.first (Nat.le_refl D) hlt
  obtain rfl : t = [] := ht.eq_nil (by omega)
  have hu := hM.un hI hbt (Nat.le_refl D) hq rfl hlt
  have hsd := hM.sd (Nat.le_refl D) hlt
  rw [if_pos rfl] at hsd
  have haw := hM.maw D (Nat.le_refl D) (by omega)
  have hwD := hM.mW.wD
  have hgl : g < a.w * a.h := by
    have := hM.mW.wl D (Nat.le_refl _)
    rw [hwD] at this
    exact this
  have hk := gw_k5 wd D
  have ex : gw_x 0 wn wd D = 5 * (2 * g + 0) + gw_k wd D := by
    show 5 * (2 * wn D + 0) + gw_k wd D = _
    rw [hwD]
  rw [ex, hu1] at hq
  rw [ex] at hu
  rw [ex, hu1] at hsd
  rw [hwD] at haw
  have hemp : ∀ r, ¬ r = 5 * (2 * g + 0) + gw_k wd D → a.q r = [] := fun r hr => by
    by_cases e : ∃ j, j ≤ D ∧ r = gw_x 0 wn wd j
    · obtain ⟨j, h1, h2⟩ := e
      by_cases e2 : j = D
      · exact absurd (by rw [h2, e2, ex]) hr
      · rw [h2]
        exact (hM.mq j h1).eq_nil (by rw [hu2 j h1, hu2 (j + 1) (by omega)]; exact Nat.le_refl _)
    · exact hM.mqn r (fun j hj q => e ⟨j, hj, q⟩)
  have c1 : me_RC a (me_up (me_up μ 30 0 6 (me_N (a.bt + 1))) 30 0 7 0) := (hC.w_nw _).w_mv 0
  have hX : gb_X a (fun _ => false) 0 (me_up (me_up μ 30 0 6 (me_N (a.bt + 1))) 30 0 7 0) := by
    refine ⟨c1, hI, by rw [me_up_jn (by decide), me_up_at], me_up_at, fun n hn => ?_, fun n _ => rfl⟩
    rw [me_up_kn (by decide), me_up_kn (by decide)]
    exact hz n hn
  have p1 : f_Works_runCores (me_up (me_up μ 30 0 6 (me_N (a.bt + 1))) 30 0 7 0) (me_N a.bt) = some (me_up (me_up μ 30 0 6 (me_N (a.bt + 1))) 30 0 7 0, ()) := gb_idle hX hco (a.w * a.h) me_FU 0 (by omega) (by unfold me_FU; omega)
  obtain ⟨μ1, g1, g2, g3⟩ := gb_core hX (show g < 16 by omega) (by decide) hk hq hu hsd
  have hbo := hM.mbo
  have eH : gh_hc a p 1 (5 * (2 * g + 0) + gw_k wd D) = a := if_neg (by decide)
  have eA : gh_cy (gh_hc a p 1 (5 * (2 * g + 0) + gw_k wd D)) p 1 (5 * (2 * g + 0) + gw_k wd D) [] = gh_aq (gh_dl (gh_g0 a p 1 (5 * (2 * g + 0) + gw_k wd D) []) p) p := by
    rw [eH]
    exact (if_pos hbo.symm).trans (if_pos hkd)
  rw [eA] at g2
  have hXA := g2
  have eqA : ∀ r, (gh_aq (gh_dl (gh_g0 a p 1 (5 * (2 * g + 0) + gw_k wd D) []) p) p).q r = [] := fun r => by
    rw [ga_q, gd_q, me_fu_ap]
    by_cases e : r = 5 * (2 * g + 0) + gw_k wd D
    · rw [if_pos e]
    · rw [if_neg e]
      exact hemp r e
  obtain ⟨μ2, k1, k2, k3⟩ := gb_one (f := me_FU - (g + 1)) hX hgl haw (by decide) hk (show 4 < 5 by decide) hq hu hsd (fun c' k' q1 q2 q3 => hemp _ (fun e => q3 (by omega))) (b := true) g1 hXA (by rw [ga_w, gd_w]) (by rw [ga_h, gd_h]) (fun c' k' _ _ _ => eqA _) (Or.inr ⟨rfl, by rw [ga_rg, gd_rg, me_fu_at, ga_bt, gd_bt]⟩)
  rw [if_pos rfl, if_pos rfl] at k3
  generalize hl : me_fu (gh_aq (gh_dl (gh_g0 a p 1 (5 * (2 * g + 0) + gw_k wd D) []) p) p).lr (10 * g + (0 * 5 + 4)) (gw_k wd D) = ll at k3
  -- the answer, not yet begun
  have hp : p < a.np := by omega
  have hst4 : ∀ i, i < a.np → (gh_aq (gh_dl (gh_g0 a p 1 (5 * (2 * g + 0) + gw_k wd D) []) p) p).st i = me_fu a.st p 100 i := fun i hi => by
    rw [ga_st, gd_st, gd_np, me_fu_ne (by omega)]
  have hro : ∀ r, (gh_aq (gh_dl (gh_g0 a p 1 (5 * (2 * g + 0) + gw_k wd D) []) p) p).ro r = none := fun r => by
    cases h : (gh_aq (gh_dl (gh_g0 a p 1 (5 * (2 * g + 0) + gw_k wd D) []) p) p).ro r with
    | none => rfl
    | some i =>
      obtain ⟨-, h1, h2, -⟩ := hXA.2.1.2.2.2.2.1.iow r i h
      rw [ga_np, gd_np] at h1
      by_cases e : i = a.np
      · rw [e, ga_st, gd_np, me_fu_at] at h2
        exact absurd h2 (by decide)
      · rw [hst4 i (by omega)] at h2
        by_cases e2 : i = p
        · rw [e2, me_fu_at] at h2
          exact absurd h2 (by decide)
        · rw [me_fu_ne e2] at h2
          rcases hst i (by omega) with q | q
          · rw [q] at h2; exact absurd h2 (by decide)
          · rw [q] at h2; exact absurd h2 (by decide)
  have hM0 : gw_M (gh_aq (gh_dl (gh_g0 a p 1 (5 * (2 * g + 0) + gw_k wd D) []) p) p) (fun _ => 0) (fun _ => 0) x a.np 1 g s 1 D' wn' wd' := by
    refine gw_zeroM (by rw [ga_kd, gd_np, me_fu_at]; rfl) (by rw [ga_sr, gd_np, me_fu_at, gd_gl]; exact hM.mgl) (by rw [ga_gl, gd_np, me_fu_at, gd_sr]; exact hM.msr) (by rw [ga_bo, gd_np, me_fu_at]) (by decide) (by rw [ga_rp, gd_rp]; exact hM.mrp) (by rw [ga_np, gd_np]; exact Nat.lt_succ_self _) (by rw [ga_w, ga_h, gd_w, gd_h]; exact hW') (by rw [ga_wy, gd_wy]; exact hM.mwy) (by rw [ga_fl, gd_fl]; exact hM.mfl) (by rw [ga_pt, gd_np, me_fu_at]) (by rw [ga_tk, gd_np, me_fu_at]) eqA hro (fun j hj e => ?_) (by rw [ga_hd, gd_np, me_fu_at]) (by rw [ga_st, gd_np, me_fu_at])
    rw [ga_rg, gd_rg, ga_bt, gd_bt, me_fu_ap] at e
    have h1 : ¬ gw_x 1 wn' wd' j = 5 * (2 * g + 0) + gw_k wd D := fun q => by
      have := gw_k5 wd' j
      unfold gw_x at q
      omega
    rw [if_neg h1] at e
    have := hrg (gw_x 1 wn' wd' j)
    omega
  have hO0 : gw_O a.np (gh_aq (gh_dl (gh_g0 a p 1 (5 * (2 * g + 0) + gw_k wd D) []) p) p) := fun i hi hne => by
    rw [ga_np, gd_np] at hi
    rw [ga_pt, ga_bo, gd_np, gd_pt, gd_bo, me_fu_ne hne, me_fu_ne hne]
    by_cases e : i = p
    · rw [e, hM.mpt, hbo, hu2 0 (Nat.zero_le _)]
    · exact hO i (by omega) e
  have hcoA : gb_co (gh_aq (gh_dl (gh_g0 a p 1 (5 * (2 * g + 0) + gw_k wd D) []) p) p) := fun n => by
    rw [ga_co, gd_co]
    exact hco n
  have eF1 : (gh_aq (gh_dl (gh_g0 a p 1 (5 * (2 * g + 0) + gw_k wd D) []) p) p).w = a.w ∧ (gh_aq (gh_dl (gh_g0 a p 1 (5 * (2 * g + 0) + gw_k wd D) []) p) p).h = a.h ∧ (gh_aq (gh_dl (gh_g0 a p 1 (5 * (2 * g + 0) + gw_k wd D) []) p) p).np = a.np + 1 ∧ (gh_aq (gh_dl (gh_g0 a p 1 (5 * (2 * g + 0) + gw_k wd D) []) p) p).kd = me_fu a.kd a.np 97 ∧ (gh_aq (gh_dl (gh_g0 a p 1 (5 * (2 * g + 0) + gw_k wd D) []) p) p).wd = me_fu a.wd a.np (a.mm (a.gl p) (a.pl p)) ∧ (gh_aq (gh_dl (gh_g0 a p 1 (5 * (2 * g + 0) + gw_k wd D) []) p) p).an = me_fu (me_fu a.an a.np none) p (some a.np) ∧ (gh_aq (gh_dl (gh_g0 a p 1 (5 * (2 * g + 0) + gw_k wd D) []) p) p).mm = me_fu2 a.mm (a.gl p) (a.pl p) (a.mm (a.gl p) (a.pl p) + a.ad p) ∧ (gh_aq (gh_dl (gh_g0 a p 1 (5 * (2 * g + 0) + gw_k wd D) []) p) p).bt = a.bt ∧ (gh_aq (gh_dl (gh_g0 a p 1 (5 * (2 * g + 0) + gw_k wd D) []) p) p).aw = a.aw := by
    refine ⟨by rw [ga_w, gd_w], by rw [ga_h, gd_h], by rw [ga_np, gd_np], by rw [ga_kd, gd_kd, gd_np], by rw [ga_wd, gd_wd, gd_np, gd_mm, gd_gl, gd_pl], by rw [ga_an, gd_an, gd_np], by rw [ga_mm, gd_mm, gd_gl, gd_pl, gd_ad], by rw [ga_bt, gd_bt], by rw [ga_aw, gd_aw]⟩
  generalize hAA : gh_aq (gh_dl (gh_g0 a p 1 (5 * (2 * g + 0) + gw_k wd D) []) p) p = A at eqA hst4 hro hM0 hO0 hcoA eF1 k3 hl
  obtain ⟨y1, y2, y3, y4, y5, y6, y7, y8, y9⟩ := eF1
  have hM0l := hM0.lr ll
  -- the moves
  have mv : f_Mover_moveAll (me_up (me_up μ 30 0 6 (me_N (a.bt + 1))) 30 0 7 0) = some (μ2, ()) := by
    have q1 := gb_skips hX g (me_FU - g) 0 (by omega) (fun n' c k _ h2 hc hk' => Or.inl (hemp _ (fun e => by omega)))
    have q2 := gb_skips k3 (a.w * a.h - (g + 1)) (me_FU - (g + 1) - (a.w * a.h - (g + 1))) (g + 1) (by
      show g + 1 + (a.w * a.h - (g + 1)) ≤ A.w * A.h
      rw [y1, y2]
      omega) (fun n' c k _ _ _ _ => Or.inl (eqA _))
    have q3 := gb_end k3 (f := me_FU - (g + 1) - (a.w * a.h - (g + 1)) - 1)
    have q3 : f_Mover_moveAll_h2 (me_FU - (g + 1) - (a.w * a.h - (g + 1)) - 1 + 1) μ2 (me_N (A.w * A.h)) = some (μ2, ()) := q3
    rw [y1, y2] at q3
    unfold f_Mover_moveAll
    have q1 : f_Mover_moveAll_h2 (me_FU - g + g) (me_up (me_up μ 30 0 6 (me_N (a.bt + 1))) 30 0 7 0) (me_N 0) = f_Mover_moveAll_h2 (me_FU - g) (me_up (me_up μ 30 0 6 (me_N (a.bt + 1))) 30 0 7 0) (me_N (0 + g)) := q1
    have f0 : me_FU = 1000 := rfl
    rw [show me_FU - g + g = me_FU by omega] at q1
    rw [show me_FU - (g + 1) - (a.w * a.h - (g + 1)) + (a.w * a.h - (g + 1)) = me_FU - (g + 1) by omega, show g + 1 + (a.w * a.h - (g + 1)) = a.w * a.h by omega] at q2
    rw [show me_FU - (g + 1) - (a.w * a.h - (g + 1)) - 1 + 1 = me_FU - (g + 1) - (a.w * a.h - (g + 1)) by omega] at q3
    rw [show me_FU - (g + 1) + 1 = me_FU - g by omega] at k1
    rw [Nat.zero_add] at q1
    exact q1.trans (k1.trans (q2.trans q3))
  -- the puts
  obtain ⟨μ4, a4, W4, v4, u4, r1, r2, r3, r4, r5, r6, rv, r7, r8⟩ := gw_puts (us := fun _ => 0) (a.w * a.h) me_FU 0 (me_S.s_lr A ll) (fun _ => false) 1 μ2 (fun _ => 0) (by
    show 0 + a.w * a.h = A.w * A.h
    rw [y1, y2]
    omega) (by unfold me_FU; omega) k3 hM0l (fun i hi hne => hO0 i hi hne) (Nat.le_refl _)
  have hput : u4 = me_fu (fun _ => 0) 0 1 ∧ W4 = fun _ => false := by
    have hag : (me_S.s_lr A ll).aw g = true := by
      show A.aw g = true
      rw [y9]
      exact haw
    rcases r7 ⟨Nat.zero_le _, Nat.zero_le _⟩ with ⟨e1, e2, e3⟩ | ⟨e1, e2, e3⟩ | ⟨e1, e2, e3, e4⟩
    · exact ⟨e1, e3⟩
    · rw [hag] at e2; cases e2
    · exact absurd e3 (by decide)
  rw [hput.1] at r4
  obtain ⟨μ5, μ6, s1, s2, s3, s4, s5⟩ := gb_endb r3
  obtain ⟨z1, z2, z3, z4, z5, z6, z7, z8, z9, z10, z11, z12, z13, z14, z15, z16, z17⟩ := r5.k1
  have hco4 : gb_co a4 := fun n => by rw [z16]; exact hcoA n
  obtain ⟨t1, t2, t3, t4⟩ := gb_enF (W := W4) hco4
  obtain ⟨w1, w2, w3, w4, w5, w6, w7, w8, w9, w10, w11, w12, w13, w14, w15, w16, w17, w18, w19⟩ := t2
  obtain ⟨x1, x2, x3, x4, x5, x6, x7, x8⟩ := t4
  have mvl : (me_S.s_lr A ll).w = A.w ∧ (me_S.s_lr A ll).h = A.h ∧ (me_S.s_lr A ll).bt = A.bt ∧ (me_S.s_lr A ll).np = A.np ∧ (me_S.s_lr A ll).kd = A.kd ∧ (me_S.s_lr A ll).wd = A.wd ∧ (me_S.s_lr A ll).an = A.an ∧ (me_S.s_lr A ll).mm = A.mm ∧ (me_S.s_lr A ll).aw = A.aw ∧ (me_S.s_lr A ll).st = A.st ∧ (me_S.s_lr A ll).pt = A.pt ∧ (me_S.s_lr A ll).bo = A.bo := ⟨rfl, rfl, rfl, rfl, rfl, rfl, rfl, rfl, rfl, rfl, rfl, rfl⟩
  obtain ⟨v1, v2, v3, v4', v5, v6, v7, v8, v9, v10, v11, v12⟩ := mvl
  refine ⟨μ6, gh_en a4 W4, ?_, ?_, s3, r4.fin r3.2.1.2.2.2.2.2.2.2.1 ⟨w1, w2, w3, w4, w5, w6, w7, w8, w9, w10, w11, w12, w13, w14, w15, w16, w17, w18, w19⟩ (fun n hn => by rw [t3, hn]; rfl), gq_D.mk ⟨by rw [w1, z1, v1, y1], by rw [w2, z2, v2, y2], by rw [w7, z4, v4', y3], by rw [w8, z6, v5, y4], by rw [x2, z9, v6, y5], by rw [x6, z14, v7, y6], by rw [x7, z15, v8, y7]⟩ (fun i hi => by rw [w14, (r5.k2 i (by omega)).1, v10]; exact hst4 i hi) t1 (fun r => by rw [w17, w6]; exact r3.2.1.2.2.2.2.2.2.2.1 r) (fun i hi hne => ?_) (by rw [w6, z3, v3, y8]) (fun n => ?_)⟩
  · unfold f_Y_beats_b10 f_Mover_beginBeat
    have r1 : f_Mover_putAll μ2 = some (μ4, ()) := r1
    rw [if_neg (by rw [me_N_le (by omega) (by omega)]; omega), hC.bt, me_N_1, me_N_add, me_lt_s, me_lt_s, me_b2_s, me_up_jn (show ¬ 5 = 7 by decide), me_up_jn (show ¬ 5 = 6 by decide), hC.bt, p1, me_b2_s, mv, me_b2_s, r1, me_b2_s, s1, me_b2_s, s2, me_b2_s, me_N_inc, me_lt_s]
  · intro k hk
    rw [s5 k hk, r2 k hk, k2 k hk, g3 k hk]
    funext i j
    rw [me_up_kn (by omega), me_up_kn (by omega)]
  · rw [w12, w11, (r5.k2 i hne).2.1, z10, v11, v12]
    refine hO0 i ?_ hne
    rw [← v4', ← z4, ← w7]
    exact hi
  · rw [t3, hput.2, z17, v9, y9, Bool.and_false, Bool.or_false]
