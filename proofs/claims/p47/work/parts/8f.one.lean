/-! A ROUND of the law, whole -/
section GlRound2
variable {sL : Nat} {xs : Nat → Int32} {x : Bool} {w h n : Nat} {v7 v8 : Int32}
/-- the send and what is asked behind it; the law's reckoning of the beats -/
theorem gl_sendL {K187 : me_M → Int32 → Int32 → Int32 → Int32 → Int32 → Int32 → Option (me_M × Int32)} {a : me_S} {μ : me_M} {s g b acc : Nat} {wo v7 : Int32} (hI : gw_I n x w h a) (hn : n < 4) (hS : gb_S a μ) (hA : gl_A (w * h) a.aw μ) (hs : s < w * h) (hg : g < w * h) (hb : 1 ≤ b ∧ b ≤ 4) (hacc : acc ≤ 7) {K405 : me_M → Int32 → Int32 → Int32 → Int32 → Int32 → Int32 → Int32 → Int32 → Int32 → Int32 → Int32 → Int32 → Option (me_M × Int32)} : ∃ μ', f_L_law_b405 sL xs K187 K405 μ (me_N w) (me_N (w * h)) (me_bi x) 1 v7 v8 (me_N s) (me_N g) wo (me_N b) (me_N acc) (me_N g) = f_L_law_h576 sL xs K187 me_F576 μ' (me_N w) (me_N (w * h)) (me_bi x) 1 v7 v8 (me_N s) (me_N g) (me_N s) (me_N n) (me_N (me_ds w s g + b + 2 + acc)) 0 (me_N (if a.aw s = true then 0 else 1)) (me_N 1) ∧ gb_S (gh_mk a 109 s g wo b) μ' ∧ gl_A (w * h) a.aw μ' := by
  have hwh := hS.2.1.wh
  have hw5 := hS.2.1.1.iw
  have hh5 := hS.2.1.1.ih
  have hs' : s < a.w * a.h := by rw [hI.iwh.1, hI.iwh.2]; exact hs
  have hg' : g < a.w * a.h := by rw [hI.iwh.1, hI.iwh.2]; exact hg
  have e16 : w * h = a.w * a.h := by rw [hI.iwh.1, hI.iwh.2]
  have hix : me_ix (me_N (w * h)) = w * h := me_N_ix (by omega)
  have hnp := hI.inp
  have how := hI.iow
  obtain ⟨μ', e1, e2, e3⟩ := gl_send_o hS hs' hg' hb (w := wo) (by omega)
  have hA' := hA.k e3
  have hp : a.np < (gh_mk a 109 s g wo b).np := by rw [gm_np]; exact Nat.lt_succ_self _
  have h1 := gl_state e2 hp
  rw [gm_st, me_fu_at] at h1
  have h2 := gl_head_n e2 hp (by rw [gm_hd, me_fu_at])
  have h3 := gl_time_n e2 hp (by rw [gm_st, me_fu_at])
  have h4 := gl_kind e2 hp
  rw [gm_kd, me_fu_at] at h4
  have h5 := gl_word e2 hp
  rw [gm_wd, me_fu_at] at h5
  refine ⟨μ', ?_, e2, hA'⟩
  have hw : w < 5 := by rw [← hI.iwh.1]; omega
  have hh : h < 5 := by rw [← hI.iwh.2]; omega
  unfold f_L_law_b405 f_L_law_b530
  rw [if_pos rfl, gl_packets hS, me_bd_s, e1, me_b2_s, if_pos rfl, h1, me_b2_s, if_pos rfl, h2, me_b2_s, if_pos rfl, h3, me_b2_s, if_pos rfl, h4, me_bd_s, me_xm_o, if_pos rfl, h5, me_bd_s, me_xm_o, if_pos rfl, me_lt_s, gl_and1, gw_lsteps hw hh hs hg, me_bd_s, me_N_2, me_N_add, me_N_add, me_N_add, me_lt_s, hix, me_gd_n (by omega) hs, me_N_ix (by omega), hA' s hs, hnp]
  cases a.aw s with
  | true => rw [if_pos (by rfl), if_pos rfl]; rfl
  | false => rw [if_neg (by decide), if_neg (by decide)]; rfl
/-- the end of a round: the packet lies, is received, the rows are free -/
theorem gl_endL {K187 : me_M → Int32 → Int32 → Int32 → Int32 → Int32 → Int32 → Option (me_M × Int32)} {a : me_S} {μ : me_M} {u : Nat → Nat} {s g b D due t : Nat} {wn wd : Nat → Nat} {v15 v18 v19 : Int32} {K576 : me_M → Int32 → Int32 → Int32 → Int32 → Int32 → Int32 → Int32 → Int32 → Int32 → Int32 → Int32 → Int32 → Int32 → Int32 → Option (me_M × Int32)} (hS : gb_S a μ) (hM : gw_M a u u x n 0 s g b D wn wd) (hu : u (D + 1) = b + 1) (hQ : gw_Q a) (hnp : a.np = n + 1) (hn : n < 4) (how : a.ow = 0) (hst : ∀ i, i < n → a.st i = 114) (hmm : ∀ k i, a.mm k i = 0) (hwh : a.w = w ∧ a.h = h) (hkd : ∀ i, i < n + 1 → a.kd i = 109) (hdue : due < 1000) (hdn : a.dn n = some (t + due)) (hma : a.ma n = t) : ∃ μ' a', f_L_law_b576 sL xs K187 K576 μ (me_N w) (me_N (w * h)) (me_bi x) 1 v7 v8 (me_N s) (me_N g) v15 (me_N n) (me_N due) v18 v19 (me_N (due + 1)) = K187 μ' (me_N w) (me_N (w * h)) (me_bi x) 1 v7 (me_inc v8 1) ∧ gb_S a' μ' ∧ gw_I (n + 1) x w h a' ∧ a'.bt = a.bt := by
  have hp : n < a.np := by omega
  have hwl := hS.2.1.wh
  have hg : g < a.w * a.h := by
    have := hM.mW.wl D (Nat.le_refl _)
    rw [hM.mW.wD] at this
    exact this
  have hs : s < a.w * a.h := by
    have := hM.mW.wl 0 (Nat.zero_le _)
    rw [hM.mW.w0] at this
    exact this
  have h100 := hM.ms2 hu
  have hly : gh_ly a g s n := ⟨hkd n (Nat.lt_succ_self n), h100, hM.mgl, hM.msr⟩
  have hno : ∀ j, j < a.np → ¬ j = n → ¬ gh_ly a g s j := fun j h1 h2 q => by
    have := q.2.1
    rw [hst j (by omega)] at this
    exact absurd this (by decide)
  have e1 := gl_time_o hS hp h100 hdn hma (by omega)
  have e2 := gl_lying hS hg hs
  have e2' : me_sm (gh_l1 a g s) 0 a.np = 1 := by
    have k1 := me_sm_one (f := gh_l1 a g s) (g := fun i => if i = n then 0 else gh_l1 a g s i) (r := n) (fun i hi => by rw [if_neg hi]) a.np 0 (Nat.zero_le _) (by omega)
    rw [gh_l1_p hly, if_pos rfl, me_sm_zero (g := fun i => if i = n then 0 else gh_l1 a g s i) a.np 0 (fun j _ h2 => by
      by_cases e : j = n
      · exact if_pos e
      · show (if j = n then 0 else gh_l1 a g s j) = 0
        rw [if_neg e, gh_l1_n (hno j (by omega) e)])] at k1
    omega
  rw [e2'] at e2
  have e3 := gl_pieces hS hp (by rw [h100]; decide) (by rw [hM.mpt, hM.mtk, hu, gw_all hM hu (Nat.zero_le _)])
  obtain ⟨μ1, e4, e5, e6⟩ := gl_receive_o hS hg hs hp hly hno
  have hQ1 := hQ.rcv n
  have hst1 : ∀ i, i < n + 1 → (me_S.s_st a (me_fu a.st n 114)).st i = 114 := fun i hi => by
    show me_fu a.st n 114 i = 114
    by_cases e : i = n
    · rw [e, me_fu_at]
    · rw [me_fu_ne e]
      exact hst i (by omega)
  have hI1 : gw_I (n + 1) x w h (me_S.s_st a (me_fu a.st n 114)) := gw_I.mk hQ1 hnp how hst1 hkd hmm hM.mwy hwh
  have hno1 : ∀ j, j < (me_S.s_st a (me_fu a.st n 114)).np → ¬ gh_ly (me_S.s_st a (me_fu a.st n 114)) g s j := fun j h1 q => by
    have h1 : j < a.np := h1
    have := q.2.1
    rw [hst1 j (by omega)] at this
    exact absurd this (by decide)
  have e7 := gl_receive_n e5 (n := g) (s := s) hg hs hno1
  have e8 := gl_state e5 (p := n) hp
  rw [hst1 n (by omega)] at e8
  have e9 := gl_lying e5 (n := g) (s := s) hg hs
  rw [me_sm_zero (g := gh_l1 (me_S.s_st a (me_fu a.st n 114)) g s) _ 0 (fun j _ h2 => gh_l1_n (hno1 j (by omega)))] at e9
  refine ⟨μ1, _, ?_, e5, hI1, rfl⟩
  have e10 := gl_h902 (sL := sL) (xs := xs) (K187 := K187) (v2 := me_N w) (v5 := me_bi x) (v7 := v7) (v8 := v8) e5 hQ1 (a.w * a.h) me_F902 0 (Nat.zero_add _) (by unfold me_F902; omega)
  have ewh : w * h = (me_S.s_st a (me_fu a.st n 114)).w * (me_S.s_st a (me_fu a.st n 114)).h := by
    show w * h = a.w * a.h
    rw [hwh.1, hwh.2]
  have e1 : f_L_time μ (me_N n) = some (μ, me_N due) := by rw [e1, show t + due - t = due by omega]
  unfold f_L_law_b576 f_L_law_b838
  rw [if_pos (by rw [me_N_lt (by omega) (by omega)]; omega), e1, me_b2_s, if_pos rfl, e2, me_b2_s, if_pos (by decide), e3, me_bd_s, me_xm_o, if_pos rfl, me_lt_s, gl_and1, e4, me_b2_s, if_pos rfl, e7, me_b2_s, if_pos rfl, e8, me_b2_s, if_pos rfl, e9, me_b2_s, if_pos (by decide), me_lt_s, gl_and1, ewh]
  exact e10
theorem gl_round {K187 : me_M → Int32 → Int32 → Int32 → Int32 → Int32 → Int32 → Option (me_M × Int32)} {a : me_S} {μ : me_M} (hL : sL ≤ 260) (hn : n < 4) (hS : gb_S a μ) (hI : gw_I n x w h a) (hbt : a.bt < 900000) : ∃ μ' a', f_L_law_b187 sL xs K187 μ (me_N w) (me_N (w * h)) (me_bi x) 1 (me_N a.bt) (me_N n) = K187 μ' (me_N w) (me_N (w * h)) (me_bi x) 1 (me_N a'.bt) (me_N (n + 1)) ∧ gb_S a' μ' ∧ gw_I (n + 1) x w h a' ∧ a'.bt ≤ a.bt + 19 := by
  have hwh := hS.2.1.wh
  have hw5 := hS.2.1.1.iw
  have hh5 := hS.2.1.1.ih
  have e16 : a.w * a.h = w * h := by rw [hI.iwh.1, hI.iwh.2]
  have hw : w < 5 := by rw [← hI.iwh.1]; omega
  have hh : h < 5 := by rw [← hI.iwh.2]; omega
  have h16 : w * h ≤ 16 := by omega
  have h0 : 0 < w * h := by omega
  obtain ⟨s, hs, e1⟩ := gw_in (L := sL) (xs := xs) (m := 10 + n) (n := w * h) hL (by omega) h0 (by omega) μ
  obtain ⟨g, hg, e2⟩ := gw_in (L := sL) (xs := xs) (m := 20 + n) (n := w * h) hL (by omega) h0 (by omega) μ
  obtain ⟨wo, hwo, e3⟩ := gw_in (L := sL) (xs := xs) (m := 30 + n) (n := 9999) hL (by omega) (by decide) (by decide) μ
  obtain ⟨b, hb, e4⟩ := gw_in (L := sL) (xs := xs) (m := 40 + n) (n := 4) hL (by omega) (by decide) (by decide) μ
  have e3 : f_L_in sL xs μ (me_N (30 + n)) (9999 : Int32) = some (me_N wo) := e3
  have e4 : f_L_in sL xs μ (me_N (40 + n)) (4 : Int32) = some (me_N b) := e4
  have hix : me_ix (me_N (w * h)) = w * h := me_N_ix (by omega)
  have hS0 : gb_S a (me_zc μ (36 + w * h) 0) := hS.co_ (fun k hk => by
    funext i j
    unfold me_zc
    rw [if_neg (fun q => by omega)])
  obtain ⟨μ1, a1, f1, s1, i1, b1⟩ := gl_h259 (K187 := K187) (v9 := me_N s) (v10 := me_N g) (v11 := me_N wo) (v12 := me_N (1 + b)) (v7 := me_N a.bt) hL hn h0 h16 3 me_F259 0 a (me_zc μ (36 + w * h) 0) (by decide) (by decide) hS0 hI
  have e161 : a1.w * a1.h = w * h := by rw [i1.iwh.1, i1.iwh.2]
  obtain ⟨μ2, f2, s2, A2⟩ := gl_h351 (sL := sL) (xs := xs) (K187 := K187) (x := x) (v8 := me_N n) (v10 := me_N g) (v11 := me_N wo) (v12 := me_N (1 + b)) (v7 := me_N a.bt) e161 hs (w * h) me_F351 0 μ1 (Nat.zero_add _) (by unfold me_F351; omega) s1 (fun k hk => absurd hk (Nat.not_lt_zero _))
  have hW := gw_way x hw hh hs hg
  have hD := gl_dsT w hw h hh s hs g hg
  obtain ⟨ff, f3⟩ := gl_h405 (sL := sL) (xs := xs) (K187 := K187) (v8 := me_N n) (v9 := me_N s) (v11 := me_N wo) (v12 := me_N (1 + b)) (v7 := me_N a.bt) h16 hw hh hg hW A2 (me_ds w s g) me_F405 0 (if a1.aw s = true then 0 else 1) (Nat.zero_add _) (by unfold me_F405; omega)
  rw [hW.w0] at f3
  have hA1 := gl_Ale (wn := gw_n x w h s g) (al := a1.aw) (me_ds w s g) (0 + 1)
  have hacc : (if a1.aw s = true then 0 else 1) + gw_A (gw_n x w h s g) a1.aw (0 + 1) (me_ds w s g) ≤ 7 := by
    split <;> omega
  obtain ⟨μ3, f4, s3, A3⟩ := gl_sendL (sL := sL) (xs := xs) (K187 := K187) (v7 := me_N a.bt) (v8 := me_N n) (wo := me_N wo) (b := 1 + b) (K405 := f_L_law_h405 sL xs K187 ff) i1 hn s2 A2 hs hg (by omega) hacc
  generalize hX : (if a1.aw s = true then 0 else 1) + gw_A (gw_n x w h s g) a1.aw (0 + 1) (me_ds w s g) = acc at f3 f4 hacc
  have hW1 : gw_W x a1.w a1.h s g (me_ds w s g) (gw_n x w h s g) (gw_d x w h s g) := by rw [i1.iwh.1, i1.iwh.2]; exact hW
  have M0 : gw_M (gh_mk a1 109 s g (me_N wo) (1 + b)) (fun _ => 0) (fun _ => 0) x n 0 s g (1 + b) (me_ds w s g) (gw_n x w h s g) (gw_d x w h s g) := by
    have := gw_new (k := 109) (w := me_N wo) (b := 1 + b) i1.iq hW1 i1.iwy (by omega)
    rw [i1.inp] at this
    exact this
  have O0 : gw_O n (gh_mk a1 109 s g (me_N wo) (1 + b)) := by
    have := gw_newO (k := 109) (s := s) (g := g) (b := 1 + b) (w := me_N wo) i1.iq
    rw [i1.inp] at this
    exact this
  have kd0 : (gh_mk a1 109 s g (me_N wo) (1 + b)).kd n = 109 := by rw [gm_kd, i1.inp, me_fu_at]
  have hrg0 : ∀ r, (gh_mk a1 109 s g (me_N wo) (1 + b)).rg r ≤ (gh_mk a1 109 s g (me_N wo) (1 + b)).bt := fun r => by
    rw [gm_rg, gm_bt]
    exact i1.iq.qrg r
  have P0 : gw_Ph (gh_mk a1 109 s g (me_N wo) (1 + b)) (fun _ => 0) s (1 + b) (me_ds w s g) (gw_n x w h s g) a1.aw (me_ds w s g + (1 + b) + 2 + acc) (me_N s) 0 (me_N (if a1.aw s = true then 0 else 1)) := by
    refine Or.inl ⟨⟨rfl, fun m _ _ => by rw [gm_aw], ?_⟩, rfl, rfl, by rw [gm_aw]⟩
    rw [gm_aw, ← hX, show (0 + 1 : Nat) = 1 from rfl]
    omega
  have btm : (gh_mk a1 109 s g (me_N wo) (1 + b)).bt = a1.bt := gm_bt
  obtain ⟨f', μ4, a4, u4, w15, w18, w19, g1, g2, g3, g4, g5, g6, g7, g8, g9⟩ := gl_loop (sL := sL) (xs := xs) (K187 := K187) (due := me_ds w s g + (1 + b) + 2 + acc) (v8 := me_N n) h16 hw hh hg (by omega) (me_ds w s g + (1 + b) + 2 + acc) me_F576 _ μ3 (fun _ => 0) (me_N s) 0 (me_N (if a1.aw s = true then 0 else 1)) (by unfold me_F576; omega) s3 (fun q => by rw [gm_co]; exact i1.iq.qco q) (by rw [btm, b1]; omega) (by rw [kd0]; decide) M0 O0 gw_newN ⟨by rw [gm_w]; exact i1.iwh.1, by rw [gm_h]; exact i1.iwh.2⟩ A3 P0 (Nat.le_refl _) hrg0 (fun q => by omega)
  rw [btm, b1] at g1 g8
  rw [show me_ds w s g + (1 + b) + 2 + acc + 1 - (me_ds w s g + (1 + b) + 2 + acc) = 1 by omega] at g1
  obtain ⟨z1, z2, z3, z4, z5, z6, z7, z8, z9, z10, z11, z12, z13, z14⟩ := g6.l1
  have st4 : ∀ i, i < n → a4.st i = 114 := fun i hi => by
    rw [(g6.l2 i (by omega)).1, gm_st, i1.inp, me_fu_ne (by omega)]
    exact i1.ist i hi
  have np4 : a4.np = n + 1 := by rw [z3, gm_np, i1.inp]
  have Q4 : gw_Q a4 := gw_done g3.2.1 g4 g5 g7 (fun i hi hne => Or.inr (st4 i (by omega))) g6.l3 g6.l4
  obtain ⟨μ5, a5, k1, k2, k3, k4⟩ := gl_endL (sL := sL) (xs := xs) (K187 := K187) (w := w) (h := h) (due := me_ds w s g + (1 + b) + 2 + acc) (t := a.bt) (v7 := me_N (a.bt + (me_ds w s g + (1 + b) + 2 + acc))) (v8 := me_N n) (v15 := w15) (v18 := w18) (v19 := w19) (K576 := f_L_law_h576 sL xs K187 f') g3 g4 g5 Q4 np4 hn (by rw [z4, gm_ow, i1.iow]) st4 (fun k i => by rw [z14, gm_mm]; exact i1.imm k i) ⟨by rw [z1, gm_w]; exact i1.iwh.1, by rw [z2, gm_h]; exact i1.iwh.2⟩ (fun i hi => by
    rw [z5, gm_kd, i1.inp]
    by_cases e : i = n
    · rw [e, me_fu_at]
    · rw [me_fu_ne e]
      exact i1.ikd i (by omega)) (by omega) (by rw [g9, g8]) (by rw [z10, gm_ma, i1.inp, me_fu_at, b1])
  refine ⟨μ5, a5, ?_, k2, k3, by rw [k4, g8]; omega⟩
  have c1 : (10 : Int32) + me_N n = me_N (10 + n) := by rw [me_N_10, me_N_add]
  have c2 : (20 : Int32) + me_N n = me_N (20 + n) := by rw [show (20 : Int32) = me_N 20 from rfl, me_N_add]
  have c3 : (30 : Int32) + me_N n = me_N (30 + n) := by rw [show (30 : Int32) = me_N 30 from rfl, me_N_add]
  have c4 : (40 : Int32) + me_N n = me_N (40 + n) := by rw [show (40 : Int32) = me_N 40 from rfl, me_N_add]
  have c5 : (1 : Int32) + me_N b = me_N (1 + b) := by rw [me_N_1, me_N_add]
  have k1 : f_L_law_h576 sL xs K187 (f' + 1) μ4 (me_N w) (me_N (w * h)) (me_bi x) 1 (me_N (a.bt + (me_ds w s g + (1 + b) + 2 + acc))) (me_N n) (me_N s) (me_N g) w15 (me_N n) (me_N (me_ds w s g + (1 + b) + 2 + acc)) w18 w19 (me_N (me_ds w s g + (1 + b) + 2 + acc + 1)) = _ := k1
  have f4 : f_L_law_h405 sL xs K187 (ff + 1) μ2 (me_N w) (me_N (w * h)) (me_bi x) 1 (me_N a.bt) (me_N n) (me_N s) (me_N g) (me_N wo) (me_N (1 + b)) (me_N acc) (me_N g) = _ := f4
  have f1 : f_L_law_h259 sL xs K187 me_F259 (me_zc μ (36 + w * h) 0) (me_N w) (me_N (w * h)) (me_bi x) 1 (me_N a.bt) (me_N n) (me_N s) (me_N g) (me_N wo) (me_N (1 + b)) 0 0 = _ := f1
  unfold f_L_law_b187
  rw [if_neg (by rw [me_N_4, me_N_le (by omega) (by omega)]; omega), c1, e1, me_bd_s, c2, e2, me_bd_s, c3, e3, me_bd_s, c4, e4, me_bd_s, c5, me_lt_s, me_gd_n (by omega) (by omega), hix, me_lt_s, f1, f2, f3, f4, g1, k1, me_N_inc, k4, g8]
end GlRound2
