/-! THE LAW, whole -/
theorem gw_QS {a : me_S} (hQ : gw_Q a) (m : Nat → Nat → Int32) : gw_Q (me_S.s_mm a m) := gw_Q.mk hQ.qco hQ.qq hQ.qro hQ.qpt hQ.qst hQ.qfl hQ.qrp hQ.qrg
theorem gl_askL {sL : Nat} {xs : Nat → Int32} {x : Bool} {w h : Nat} {a : me_S} {μ : me_M} {s g pp : Nat} {wo mo b : Int32} (hS : gb_S a μ) (hI : gw_I 4 x w h a) (hbt : a.bt < 900000) (hs : s < w * h) (hg : g < w * h) (hpp : pp < 8) (hb : b = 0 ∨ b = 1) : ∃ μ', f_L_law_b1074 sL xs μ 1 (me_N s) (me_N g) (me_N pp) wo mo b = some (μ', 1) := by
  have e16 : w * h = a.w * a.h := by rw [hI.iwh.1, hI.iwh.2]
  rw [e16] at hs hg
  have hnp := hI.inp
  obtain ⟨μ1, e1, e2, -⟩ := gl_set (v := wo) hS hg hpp
  rw [hI.imm] at e1
  have hQ1 := gw_QS hI.iq (me_fu2 a.mm g pp wo)
  have np1 : (me_S.s_mm a (me_fu2 a.mm g pp wo)).np = 4 := hnp
  have ow1 : (me_S.s_mm a (me_fu2 a.mm g pp wo)).ow = 0 := hI.iow
  have st1 : ∀ i, i < 4 → (me_S.s_mm a (me_fu2 a.mm g pp wo)).st i = 114 := hI.ist
  have kd1 : ∀ i, i < 4 → (me_S.s_mm a (me_fu2 a.mm g pp wo)).kd i = 109 := hI.ikd
  have mm1 : (me_S.s_mm a (me_fu2 a.mm g pp wo)).mm = me_fu2 a.mm g pp wo := rfl
  have wh1 : (me_S.s_mm a (me_fu2 a.mm g pp wo)).w = a.w ∧ (me_S.s_mm a (me_fu2 a.mm g pp wo)).h = a.h ∧ (me_S.s_mm a (me_fu2 a.mm g pp wo)).wy = a.wy ∧ (me_S.s_mm a (me_fu2 a.mm g pp wo)).bt = a.bt := ⟨rfl, rfl, rfl, rfl⟩
  generalize me_S.s_mm a (me_fu2 a.mm g pp wo) = A at e2 hQ1 np1 ow1 st1 kd1 mm1 wh1
  obtain ⟨w1, w2, w3, w4⟩ := wh1
  have hs1 : s < A.w * A.h := by rw [w1, w2]; exact hs
  have hg1 : g < A.w * A.h := by rw [w1, w2]; exact hg
  have e3 := gl_ask_p e2 (b := 1) (w := 0) hs1 hg1
  obtain ⟨μ2, e4, e5, -⟩ := gl_ask_o e2 (b := b) (w := mo) hs1 hg1 hpp (by omega)
  rw [np1] at e4
  have hM : ∀ D wn wd, gw_W x (gh_mkQ A s g 1 pp (if b = 0 then 0 else mo)).w (gh_mkQ A s g 1 pp (if b = 0 then 0 else mo)).h s g D wn wd → gw_M (gh_mkQ A s g 1 pp (if b = 0 then 0 else mo)) (fun _ => 0) (fun _ => 0) x 4 0 s g 1 D wn wd := fun D wn wd hW => by
    refine gw_zeroM (by rw [gq_kd, np1, me_fu_at]; rfl) (by rw [gq_sr, np1, me_fu_at]) (by rw [gq_gl, np1, me_fu_at]) (by rw [gq_bo, np1, me_fu_at]) (by decide) (by rw [gq_rp]; exact hQ1.qrp) (by rw [gq_np, np1]; decide) hW (by rw [gq_wy, w3]; exact hI.iwy) (by rw [gq_fl]; exact hQ1.qfl) (by rw [gq_pt, np1, me_fu_at]) (by rw [gq_tk, np1, me_fu_at]) (by rw [gq_q]; exact hQ1.qq) (by rw [gq_ro]; exact hQ1.qro) (fun j hj e => ?_) (by rw [gq_hd, np1, me_fu_at]) (by rw [gq_st, np1, me_fu_at])
    rw [gq_rg, gq_bt] at e
    have := hQ1.qrg (gw_x 0 wn wd j)
    omega
  have hO : gw_O 4 (gh_mkQ A s g 1 pp (if b = 0 then 0 else mo)) := fun i hi hne => by
    rw [gq_np, np1] at hi
    rw [gq_pt, gq_bo, np1, me_fu_ne hne, me_fu_ne hne]
    exact hQ1.qpt i (by omega)
  have q1 : (gh_mkQ A s g 1 pp (if b = 0 then 0 else mo)).w = a.w ∧ (gh_mkQ A s g 1 pp (if b = 0 then 0 else mo)).h = a.h ∧ (gh_mkQ A s g 1 pp (if b = 0 then 0 else mo)).np = 5 ∧ (gh_mkQ A s g 1 pp (if b = 0 then 0 else mo)).bt = a.bt ∧ (gh_mkQ A s g 1 pp (if b = 0 then 0 else mo)).kd 4 = 113 ∧ (gh_mkQ A s g 1 pp (if b = 0 then 0 else mo)).kd 0 = 109 ∧ (gh_mkQ A s g 1 pp (if b = 0 then 0 else mo)).an 4 = none ∧ (gh_mkQ A s g 1 pp (if b = 0 then 0 else mo)).gl 4 = g ∧ (gh_mkQ A s g 1 pp (if b = 0 then 0 else mo)).pl 4 = pp ∧ (gh_mkQ A s g 1 pp (if b = 0 then 0 else mo)).ad 4 = (if b = 0 then 0 else mo) ∧ (gh_mkQ A s g 1 pp (if b = 0 then 0 else mo)).mm g pp = wo := by
    refine ⟨by rw [gq_w, w1], by rw [gq_h, w2], by rw [gq_np, np1], by rw [gq_bt, w4], by rw [gq_kd, np1, me_fu_at], ?_, by rw [gq_an, np1, me_fu_at], by rw [gq_gl, np1, me_fu_at], by rw [gq_pl, np1, me_fu_at], by rw [gq_ad, np1, me_fu_at], ?_⟩
    · rw [gq_kd, np1, me_fu_ne (by decide)]
      exact kd1 0 (by decide)
    · rw [gq_mm, mm1]
      unfold me_fu2
      rw [if_pos ⟨rfl, rfl⟩]
  have st2 : ∀ i, i < 4 → (gh_mkQ A s g 1 pp (if b = 0 then 0 else mo)).st i = 114 := fun i hi => by
    rw [gq_st, np1, me_fu_ne (by omega)]
    exact st1 i hi
  have co2 : gb_co (gh_mkQ A s g 1 pp (if b = 0 then 0 else mo)) := fun n => by rw [gq_co]; exact hQ1.qco n
  have rg2 : ∀ r, (gh_mkQ A s g 1 pp (if b = 0 then 0 else mo)).rg r ≤ (gh_mkQ A s g 1 pp (if b = 0 then 0 else mo)).bt := fun r => by rw [gq_rg, gq_bt]; exact hQ1.qrg r
  generalize hX : (if b = 0 then (0 : Int32) else mo) = ad at e5 hM hO q1 st2 co2 rg2
  generalize gh_mkQ A s g 1 pp ad = Q at e5 hM hO q1 st2 co2 rg2
  obtain ⟨y1, y2, y3, y4, y5, y6, y7, y8, y9, y10, y11⟩ := q1
  have e6 := gl_answer_n e5 (p := 4) (by omega) y5 y7
  have e7 := gl_answer_k e5 (p := 0) (by omega) (by rw [y6]; decide)
  obtain ⟨μ3, a3, e8, e9, hQ3, ⟨z1, z2, z3, z4, z5, z6, z7⟩, z8, z9, z10⟩ := gq_beats e5 co2 (by omega) y5 (by rw [y1, y2]; exact hs) (by rw [y1, y2]; exact hg) hM hO (by omega) (fun i hi => Or.inr (st2 i hi)) rg2
  rw [y3] at z3 z4 z5 z6 z10
  rw [y8, y9, y11] at z5
  rw [y8, y9, y11, y10] at z7
  have e10 := gl_answer_o e9 (p := 4) (r := 5) (by omega) (by rw [z4, me_fu_ne (by decide)]; exact y5) (by rw [z6, me_fu_at]) (by decide)
  have e11 := gl_kind e9 (p := 5) (by omega)
  rw [z4, me_fu_at] at e11
  have e12 := gl_word e9 (p := 5) (by omega)
  rw [z5, me_fu_at] at e12
  have e13 := gl_state e9 (p := 4) (by omega)
  rw [z9] at e13
  have e14 := gl_state e9 (p := 5) (by omega)
  rw [z10] at e14
  have e15 := gl_memory e9 (n := g) (i := pp) (by rw [z1, z2, y1, y2]; exact hg) hpp
  rw [show a3.mm g pp = wo + ad by
    rw [z7]
    unfold me_fu2
    rw [if_pos ⟨rfl, rfl⟩]] at e15
  have e16' := gl_lying e9 (n := s) (s := g) (by rw [z1, z2, y1, y2]; exact hs) (by rw [z1, z2, y1, y2]; exact hg)
  rw [me_sm_zero (g := gh_l1 a3 s g) _ 0 (fun j _ h2 => gh_l1_n (fun q => by
    by_cases e4 : j < 4
    · have := q.2.1
      rw [z8 j e4, st2 j e4] at this
      exact absurd this (by decide)
    · by_cases e5 : j = 4
      · have := q.1
        rw [z4, e5, me_fu_ne (by decide), y5] at this
        exact absurd this (by decide)
      · have h5 : j = 5 := by omega
        have := q.1
        rw [z4, h5, me_fu_at] at this
        exact absurd this (by decide)))] at e16'
  have e17 := gl_lost e9 (fun i hi q => by
    rcases hQ3.qst i hi with r | r
    · rw [r] at q; exact absurd q (by decide)
    · rw [r] at q; exact absurd q (by decide)) (by omega)
  have e18 := gl_packets e9
  obtain ⟨μ4, e19⟩ := gl_sound e9
  refine ⟨μ4, ?_⟩
  have c4 : f_L_answer μ2 (me_N 4) = some (μ2, -900003) := e6
  have c5 : f_L_answer μ2 0 = some (μ2, -900002) := e7
  have t4 : me_N 4 + 1 = me_N 5 := rfl
  have t5 : me_N 4 + 2 = me_N 6 := rfl
  have last : f_L_law_b1276 sL xs μ3 (me_N 4) 1 1 = some (μ4, 1) := by
    unfold f_L_law_b1276
    rw [gl_and1, me_lt_s, if_neg (by decide), e17, me_bd_s, me_xm_o, if_pos gl_lost0, e18, me_bd_s, z3, t5, if_pos rfl, e19, me_b2_s, if_neg (by decide)]
  have l2 : ∀ v, f_L_law_b1257 sL xs μ3 (me_N s) (me_N g) (me_N 4) v v 1 = some (μ4, 1) := fun v => by
    unfold f_L_law_b1257
    rw [if_pos rfl, e16', me_b2_s, if_pos (by rfl), last]
  have l3 : f_L_law_b1168 sL xs μ3 (me_N s) (me_N g) (me_N pp) wo mo b (me_N 4) 1 1 = some (μ4, 1) := by
    unfold f_L_law_b1168
    rw [gl_and1, me_lt_s, e10, me_b2_s, t4, if_pos rfl, e11, me_bd_s, me_xm_o, if_pos rfl, e12, me_bd_s, me_xm_o, if_pos rfl, e13, me_b2_s, if_pos rfl, e14, me_b2_s, if_pos rfl, e15, me_b2_s]
    rcases hb with rfl | rfl
    · rw [if_pos rfl] at hX
      rw [if_pos rfl, ← hX, Int32.add_zero]
      exact l2 _
    · rw [if_neg (by decide)] at hX
      rw [if_neg (by decide), ← hX]
      exact l2 _
  unfold f_L_law_b1074
  rw [gl_packets hS, me_bd_s, hnp, e1, me_b2_s, if_pos rfl, e3, me_b2_s, if_pos rfl, e4, me_b2_s, if_pos rfl, c4, me_b2_s, if_pos rfl, c5, me_b2_s, if_pos rfl, e8, me_b2_s, if_pos rfl]
  exact l3
theorem gl_rounds {sL : Nat} {xs : Nat → Int32} {x : Bool} {w h : Nat} (hL : sL ≤ 260) : ∀ (d f n : Nat) (a : me_S) (μ : me_M), n + d = 4 → d < f → gb_S a μ → gw_I n x w h a → a.bt ≤ 19 * n → ∃ μ', f_L_law_h187 sL xs f μ (me_N w) (me_N (w * h)) (me_bi x) 1 (me_N a.bt) (me_N n) = some (μ', 1) := by
  intro d
  induction d with
  | zero =>
    intro f n a μ h1 h2 hS hI hbt
    obtain ⟨f, rfl⟩ : ∃ k, f = k + 1 := ⟨f - 1, by omega⟩
    obtain rfl : n = 4 := by omega
    have hwh := hS.2.1.wh
    have e16 : a.w * a.h = w * h := by rw [hI.iwh.1, hI.iwh.2]
    have h0 : 0 < w * h := by omega
    obtain ⟨s, hs, e1⟩ := gw_in (L := sL) (xs := xs) (m := 90) (n := w * h) hL (by omega) h0 (by omega) μ
    obtain ⟨g, hg, e2⟩ := gw_in (L := sL) (xs := xs) (m := 91) (n := w * h) hL (by omega) h0 (by omega) μ
    obtain ⟨pp, hpp, e3⟩ := gw_in (L := sL) (xs := xs) (m := 92) (n := 8) hL (by omega) (by decide) (by decide) μ
    obtain ⟨wo, hwo, e4⟩ := gw_in (L := sL) (xs := xs) (m := 93) (n := 500) hL (by omega) (by decide) (by decide) μ
    obtain ⟨mo, hmo, e5⟩ := gw_in (L := sL) (xs := xs) (m := 94) (n := 500) hL (by omega) (by decide) (by decide) μ
    obtain ⟨r, hr, e6⟩ := gw_in (L := sL) (xs := xs) (m := 95) (n := 2) hL (by omega) (by decide) (by decide) μ
    have e1 : f_L_in sL xs μ (90 : Int32) (me_N (w * h)) = some (me_N s) := e1
    have e2 : f_L_in sL xs μ (91 : Int32) (me_N (w * h)) = some (me_N g) := e2
    have e3 : f_L_in sL xs μ (92 : Int32) (8 : Int32) = some (me_N pp) := e3
    have e4 : f_L_in sL xs μ (93 : Int32) (500 : Int32) = some (me_N wo) := e4
    have e5 : f_L_in sL xs μ (94 : Int32) (500 : Int32) = some (me_N mo) := e5
    have e6 : f_L_in sL xs μ (95 : Int32) (2 : Int32) = some (me_N r) := e6
    obtain ⟨μ1, k1⟩ := gl_askL (sL := sL) (xs := xs) (wo := me_N wo) (mo := me_N mo) (b := 1) hS hI (by omega) hs hg hpp (Or.inr rfl)
    obtain ⟨μ0, k0⟩ := gl_askL (sL := sL) (xs := xs) (wo := me_N wo) (mo := me_N mo) (b := 0) hS hI (by omega) hs hg hpp (Or.inl rfl)
    show ∃ μ', f_L_law_b187 _ _ _ _ _ _ _ _ _ _ = _
    unfold f_L_law_b187
    rw [if_pos (by decide), e1, me_bd_s, e2, me_bd_s, e3, me_bd_s, e4, me_bd_s, e5, me_bd_s, e6, me_bd_s]
    by_cases e : me_N r = 0
    · rw [if_pos e]
      exact ⟨μ1, k1⟩
    · rw [if_neg e]
      exact ⟨μ0, k0⟩
  | succ d ih =>
    intro f n a μ h1 h2 hS hI hbt
    obtain ⟨f, rfl⟩ : ∃ k, f = k + 1 := ⟨f - 1, by omega⟩
    obtain ⟨μ1, a1, e1, e2, e3, e4⟩ := gl_round (K187 := f_L_law_h187 sL xs f) (xs := xs) hL (by omega : n < 4) hS hI (by omega)
    obtain ⟨μ', k⟩ := ih f (n + 1) a1 μ1 (by omega) (by omega) e2 e3 (by omega)
    exact ⟨μ', e1.trans k⟩
theorem gl_start {a : me_S} {w h r : Nat} {x : Bool} (hr : 2 ≤ r) : gw_I 0 x w h (me_S.s_rp (me_S.s_wy (gh_nw a w h 2) (if x = true then 120 else 121)) r) := by
  refine gw_I.mk (gw_Q.mk (fun _ => rfl) (fun _ => rfl) (fun _ => rfl) (fun i hi => absurd hi (Nat.not_lt_zero i)) (fun i hi => absurd hi (Nat.not_lt_zero i)) (fun _ _ => rfl) hr (fun _ => Nat.le_refl 0)) rfl rfl (fun i hi => absurd hi (Nat.not_lt_zero i)) (fun i hi => absurd hi (Nat.not_lt_zero i)) (fun _ _ => rfl) rfl ⟨rfl, rfl⟩
theorem gl_b45 {sL : Nat} {xs : Nat → Int32} {x : Bool} {w h : Nat} (hL : sL ≤ 260) {a : me_S} {μ : me_M} (hS : gb_S a μ) (hw : 1 ≤ w ∧ w ≤ 4) (hh : 1 ≤ h ∧ h ≤ 4) : ∃ μ', f_L_law_b45 sL xs μ (me_N w) (me_N h) (me_N (w * h)) (me_bi x) = some (μ', 1) := by
  obtain ⟨μ1, e1, e2, -⟩ := gl_net_o hS.1 hw hh
  have wy1 : (gh_nw a w h 2).wy = 120 := rfl
  have hv : (if x = true then (120 : Int32) else 121) = 120 ∨ (if x = true then (120 : Int32) else 121) = 121 := by
    cases x
    · exact Or.inr rfl
    · exact Or.inl rfl
  obtain ⟨μ2, e3, e4, -⟩ := gl_way_o e2 hv
  rw [wy1] at e3
  obtain ⟨r, hr, e5⟩ := gw_in (L := sL) (xs := xs) (m := 3) (n := 3) hL (by omega) (by decide) (by decide) μ2
  have e5 : f_L_in sL xs μ2 (3 : Int32) (3 : Int32) = some (me_N r) := e5
  have rp1 : (me_S.s_wy (gh_nw a w h 2) (if x = true then 120 else 121)).rp = 2 := rfl
  obtain ⟨μ3, e6, e7, -⟩ := gl_places_o e4 (v := 2 + r) (by omega)
  rw [rp1] at e6
  have hI0 : gw_I 0 x w h (me_S.s_rp (me_S.s_wy (gh_nw a w h 2) (if x = true then 120 else 121)) (2 + r)) := gl_start (by omega)
  have bt0 : (me_S.s_rp (me_S.s_wy (gh_nw a w h 2) (if x = true then 120 else 121)) (2 + r)).bt = 0 := rfl
  generalize me_S.s_rp (me_S.s_wy (gh_nw a w h 2) (if x = true then 120 else 121)) (2 + r) = A at e7 hI0 bt0
  have e8 := gl_send_n e7 (N := w * h) (by rw [hI0.iwh.1, hI0.iwh.2])
  have e9 := gl_send_r e7
  have e10 := gl_state_n e7 hI0.inp
  obtain ⟨μ4, e11⟩ := gl_rounds (sL := sL) (xs := xs) hL 4 me_F187 0 A μ3 rfl (by decide) e7 hI0 (by omega)
  rw [bt0] at e11
  have e11 : f_L_law_h187 sL xs me_F187 μ3 (me_N w) (me_N (w * h)) (me_bi x) 1 0 0 = some (μ4, 1) := e11
  have c6 : (2 : Int32) + me_N r = me_N (2 + r) := by rw [me_N_2, me_N_add]
  have e6 : f_L_places μ2 (me_N (2 + r)) = some (μ3, 2) := e6
  refine ⟨μ4, ?_⟩
  have h93 : f_L_law_b93 sL xs μ1 (me_N w) (me_N (w * h)) (me_bi x) (if x = true then 120 else 121) = some (μ4, 1) := by
    unfold f_L_law_b93 f_L_law_b179
    rw [e3, me_b2_s, if_pos rfl, gl_places_n, me_b2_s, if_pos rfl, e5, me_bd_s, c6, e6, me_b2_s, if_pos rfl, e8, me_b2_s, if_pos rfl, e9, me_b2_s, if_pos rfl, e10, me_b2_s, if_pos rfl, gl_beats_n, me_b2_s, if_pos rfl]
    exact e11
  unfold f_L_law_b45
  rw [gl_net_n, me_b2_s, if_pos rfl, e1, me_b2_s, if_pos rfl, gl_way_n, me_b2_s, if_pos rfl]
  cases x with
  | true => rw [if_neg (by decide)]; exact h93
  | false => rw [if_pos (by rfl)]; exact h93
theorem gl_law {sL : Nat} {xs : Nat → Int32} (hL : sL ≤ 260) {a : me_S} {μ : me_M} (hS : gb_S a μ) : ∃ μ', f_L_law sL xs μ = some (μ', 1) := by
  obtain ⟨k0, h0, e0⟩ := gw_in (L := sL) (xs := xs) (m := 0) (n := 3) hL (by omega) (by decide) (by decide) μ
  obtain ⟨k1, h1, e1⟩ := gw_in (L := sL) (xs := xs) (m := 1) (n := 4) hL (by omega) (by decide) (by decide) μ
  obtain ⟨k2, h2, e2⟩ := gw_in (L := sL) (xs := xs) (m := 2) (n := 2) hL (by omega) (by decide) (by decide) μ
  have e0 : f_L_in sL xs μ (0 : Int32) (3 : Int32) = some (me_N k0) := e0
  have e1 : f_L_in sL xs μ (1 : Int32) (4 : Int32) = some (me_N k1) := e1
  have e2 : f_L_in sL xs μ (2 : Int32) (2 : Int32) = some (me_N k2) := e2
  obtain ⟨μt, et⟩ := gl_b45 (xs := xs) (x := true) (w := 2 + k0) (h := 1 + k1) hL hS (by omega) (by omega)
  obtain ⟨μf, ef⟩ := gl_b45 (xs := xs) (x := false) (w := 2 + k0) (h := 1 + k1) hL hS (by omega) (by omega)
  unfold f_L_law
  rw [e0, me_bd_s, me_N_2, me_N_add, me_lt_s, ← me_N_2, e1, me_bd_s, me_N_1, me_N_add, me_lt_s, me_N_mul, me_lt_s, e2, me_bd_s]
  by_cases e : me_N k2 = 0
  · rw [if_pos e]
    exact ⟨μt, et⟩
  · rw [if_neg e]
    exact ⟨μf, ef⟩
theorem me_pure : me_Pure := by
  obtain ⟨⟨n1, r1, μ1⟩, e1, c1, c2, c3, c4, c5⟩ := y_init
  have c1 : ∀ k, 35 < k → n1 k = 0 := c1
  have c2 : gc_S n1 r1 (fun _ _ _ => False) := c2
  have c3 : me_RC (gh_nw gc_a0 4 4 2) μ1 := c3
  have c5 : ∀ n, n < 16 → μ1 13 n 4 = 0 := c5
  exact ⟨n1, r1, μ1, e1, fun k hk => c1 k (by omega), fun k i j hk hi hj => c2 k i j hk hi hj (fun q => q), fun xs L hL => gl_law hL ⟨c3, gh_nw_iv (by decide) (by decide), c5⟩⟩
