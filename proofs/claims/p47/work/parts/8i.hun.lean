/-! A HUNDRED BEATS: a question, its answer, and then nothing -/
def gw_Ps (a : me_S) (u : Nat → Nat) (s b D : Nat) (wn : Nat → Nat) (al : Nat → Bool) (rem : Nat) : Prop := ∃ v15 v18 v19, gw_Ph a u s b D wn al rem v15 v18 v19
section GqRun
variable {a a' : me_S} {u u' : Nat → Nat} {x : Bool} {p c s g b D : Nat} {wn wd : Nat → Nat} {W al : Nat → Bool} {rem m : Nat}
theorem gw_Ps.t0 (h : gw_Ps a u s b D wn al 0) : u (D + 1) = b + 1 := by
  obtain ⟨v15, v18, v19, ⟨⟨h1, h2, h3⟩, -⟩ | ⟨j, ⟨h1, h2, h3, h4, h5⟩, -⟩ | ⟨⟨h1, h2⟩, -⟩⟩ := h <;> omega
theorem gw_Ps.t1 (hb : 1 ≤ b) (h : gw_Ps a u s b D wn al 1) : u (D + 1) = b := by
  obtain ⟨v15, v18, v19, ⟨⟨h1, h2, h3⟩, -⟩ | ⟨j, ⟨h1, h2, h3, h4, h5⟩, -⟩ | ⟨⟨h1, h2⟩, -⟩⟩ := h <;> omega
theorem gw_Ps.t2 (hM : gw_M a u u x p c s g b D wn wd) (hr : 2 ≤ rem) (h : gw_Ps a u s b D wn al rem) : u (D + 1) < b := by
  have hb := hM.mb
  obtain ⟨v15, v18, v19, ⟨⟨h1, h2, h3⟩, -⟩ | ⟨j, ⟨h1, h2, h3, h4, h5⟩, -⟩ | ⟨⟨h1, h2⟩, -⟩⟩ := h
  · have := hM.anti (D + 1) 0 (Nat.zero_le _) (Nat.le_refl _)
    omega
  · have := hM.anti (D + 1) (j + 1) (by omega) (Nat.le_refl _)
    omega
  · omega
theorem gq_step (hwh : a.w * a.h ≤ 16) (hw : a.w < 5) (hh : a.h < 5) (hM : gw_M a u u x p c s g b D wn wd) (hM' : gw_M a' u' u' x p c s g b D wn wd) (hT : gw_T s b D u u' a.aw W wn) (haw : ∀ n, a'.aw n = (a.aw n || (decide (n < a.w * a.h) && W n))) (hN : gw_N b D u) (hP : gw_Ps a u s b D wn al (rem + 1)) : gw_Ps a' u' s b D wn al rem := by
  obtain ⟨v15, v18, v19, hP⟩ := hP
  have hg : g < a.w * a.h := by
    have := hM.mW.wl D (Nat.le_refl _)
    rw [hM.mW.wD] at this
    exact this
  obtain ⟨w15, w18, w19, h1, -⟩ := gl_step (w := a.w) (h := a.h) (μ := fun _ _ k => me_bi (!al k)) (due := 0) (sL := 0) (xs := fun _ => 0) (K187 := fun _ _ _ _ _ _ _ => none) (K576 := fun _ _ _ _ _ _ _ _ _ _ _ _ _ _ _ => none) (v7 := 0) (v8 := 0) (v16 := 0) (v20 := 0) hwh hw hh hg ⟨rfl, rfl⟩ (fun _ _ => rfl) hM hM' hT haw hN hP
  exact ⟨w15, w18, w19, h1⟩
theorem gq_run (hm : m ≤ 100) : ∀ (k F i : Nat) (a : me_S) (μ : me_M) (u : Nat → Nat), k ≤ F → i + k ≤ m → gb_S a μ → gb_co a → a.bt + k < 1000000 → (¬ a.kd p = 113 ∨ 1 ≤ rem) → gw_M a u u x p c s g b D wn wd → gw_O p a → gw_N b D u → (∀ r, a.rg r ≤ a.bt) → gw_Ps a u s b D wn al (rem + k) → ∃ μ' a' u', f_Y_beats_h10 F μ (me_N m) (me_N i) = f_Y_beats_h10 (F - k) μ' (me_N m) (me_N (i + k)) ∧ gb_F μ μ' ∧ gb_S a' μ' ∧ gw_M a' u' u' x p c s g b D wn wd ∧ gw_L p a a' ∧ gw_O p a' ∧ gw_N b D u' ∧ gw_Ps a' u' s b D wn al rem ∧ a'.bt = a.bt + k := by
  intro k
  induction k with
  | zero =>
    intro F i a μ u h1 h2 hS hco hbt hkd hM hO hN hrg hP
    exact ⟨μ, a, u, rfl, gb_F.rf, hS, hM, gw_L.rf hco hrg, hO, hN, hP, rfl⟩
  | succ k ih =>
    intro F i a μ u h1 h2 hS hco hbt hkd hM hO hN hrg hP
    obtain ⟨F, rfl⟩ : ∃ f, F = f + 1 := ⟨F - 1, by omega⟩
    have hwh := hS.2.1.wh
    have hw5 := hS.2.1.1.iw
    have hh5 := hS.2.1.1.ih
    obtain ⟨μ1, a1, W, v, u1, e1, e2, e3, e4, e5, e6, e7, e8, e9, e10, e11, e12, e13⟩ := gb_beat hS hco (by omega) (hkd.imp id (fun q => hP.t2 hM (by omega))) hM hO (K10 := f_Y_beats_h10 F) (m := m) (i := i) (by omega) hm
    have hP1 := gq_step (rem := rem + k) (by omega) (by omega) (by omega) hM e4 e9 e8 hN hP
    obtain ⟨μ', a', u', r1, r2, r3, r4, r5, r6, r7, r8, r9⟩ := ih F (i + 1) a1 μ1 u1 (by omega) (by omega) e3 e5.l3 (by rw [e7]; omega) (by rw [e5.l1.2.2.2.2.1]; exact hkd) e4 e6 (gw_N.step hM e4 e9 hN) e5.l4 hP1
    refine ⟨μ', a', u', ?_, e2.tr r2, r3, r4, e5.tr r5, r6, r7, r8, by rw [r9, e7]; omega⟩
    rw [show F + 1 - (k + 1) = F - k by omega, show i + (k + 1) = i + 1 + k by omega, ← r1]
    exact e1
theorem gq_still (hm : m ≤ 100) : ∀ (k F i : Nat) (a : me_S) (μ : me_M) (u : Nat → Nat), k ≤ F → i + k ≤ m → gb_S a μ → gb_co a → a.bt + k < 1000000 → ¬ a.kd p = 113 → gw_M a u u x p c s g b D wn wd → u (D + 1) = b + 1 → gw_O p a → (∀ r, a.rg r ≤ a.bt) → (μ 30 0 7 = 0 ∨ 1 ≤ k) → ∃ μ' a' u', f_Y_beats_h10 F μ (me_N m) (me_N i) = f_Y_beats_h10 (F - k) μ' (me_N m) (me_N (i + k)) ∧ gb_F μ μ' ∧ gb_S a' μ' ∧ gw_M a' u' u' x p c s g b D wn wd ∧ u' (D + 1) = b + 1 ∧ gw_L p a a' ∧ gw_O p a' ∧ μ' 30 0 7 = 0 := by
  intro k
  induction k with
  | zero =>
    intro F i a μ u h1 h2 hS hco hbt hkd hM hu hO hrg h7
    exact ⟨μ, a, u, rfl, gb_F.rf, hS, hM, hu, gw_L.rf hco hrg, hO, h7.resolve_right (by decide)⟩
  | succ k ih =>
    intro F i a μ u h1 h2 hS hco hbt hkd hM hu hO hrg h7
    obtain ⟨F, rfl⟩ : ∃ f, F = f + 1 := ⟨F - 1, by omega⟩
    obtain ⟨μ1, a1, W, v, u1, e1, e2, e3, e4, e5, e6, e7, e8, e9, e10, e11, e12, e13⟩ := gb_beat hS hco (by omega) (Or.inl hkd) hM hO (K10 := f_Y_beats_h10 F) (m := m) (i := i) (by omega) hm
    have hu1 : u1 (D + 1) = b + 1 := by
      have q1 := gw_le e9 (D + 1) (Nat.le_refl _)
      have q2 := e4.anti (D + 1) 0 (Nat.zero_le _) (Nat.le_refl _)
      have q3 := e4.mu0
      omega
    have hv : v = 0 := e13 (fun j hj => by
      rw [gw_all hM hu (j := j) (by omega), gw_all hM hu (j := j + 1) (by omega)]
      exact Nat.le_refl _) (by
      rw [gw_all hM hu (j := 0) (Nat.zero_le _)]
      omega)
    obtain ⟨μ', a', u', r1, r2, r3, r4, r5, r6, r7, r8⟩ := ih F (i + 1) a1 μ1 u1 (by omega) (by omega) e3 e5.l3 (by rw [e7]; omega) (by rw [e5.l1.2.2.2.2.1]; exact hkd) e4 hu1 e6 e5.l4 (Or.inl (e11.trans hv))
    refine ⟨μ', a', u', ?_, e2.tr r2, r3, r4, r5, e5.tr r6, r7, r8⟩
    rw [show F + 1 - (k + 1) = F - k by omega, show i + (k + 1) = i + 1 + k by omega, ← r1]
    exact e1
end GqRun
theorem gq_beats {a : me_S} {μ : me_M} {x : Bool} {p s g : Nat} (hS : gb_S a μ) (hco : gb_co a) (hbt : a.bt < 900000) (hkd : a.kd p = 113) (hs : s < a.w * a.h) (hg : g < a.w * a.h) (hM : ∀ D wn wd, gw_W x a.w a.h s g D wn wd → gw_M a (fun _ => 0) (fun _ => 0) x p 0 s g 1 D wn wd) (hO : gw_O p a) (hnp : a.np = p + 1) (hst : ∀ i, i < p → a.st i = 100 ∨ a.st i = 114) (hrg : ∀ r, a.rg r ≤ a.bt) : ∃ μ' a', f_L_beats μ 100 = some (μ', 0) ∧ gb_S a' μ' ∧ gw_Q a' ∧ (a'.w = a.w ∧ a'.h = a.h ∧ a'.np = a.np + 1 ∧ a'.kd = me_fu a.kd a.np 97 ∧ a'.wd = me_fu a.wd a.np (a.mm (a.gl p) (a.pl p)) ∧ a'.an = me_fu (me_fu a.an a.np none) p (some a.np) ∧ a'.mm = me_fu2 a.mm (a.gl p) (a.pl p) (a.mm (a.gl p) (a.pl p) + a.ad p)) ∧ (∀ i, i < p → a'.st i = a.st i) ∧ a'.st p = 100 ∧ a'.st a.np = 100 := by
  have hwh := hS.2.1.wh
  have hw5 := hS.2.1.1.iw
  have hh5 := hS.2.1.1.ih
  have hw : a.w < 5 := by omega
  have hh : a.h < 5 := by omega
  have hW := gw_way x hw hh hs hg
  have hW' := gw_way x hw hh hg hs
  have hD := gl_dsT a.w hw a.h hh s hs g hg
  have hD' := gl_dsT a.w hw a.h hh g hg s hs
  have M0 := hM _ _ _ hW
  generalize me_ds a.w s g = D at hW hD M0
  generalize gw_n x a.w a.h s g = wn at hW M0
  generalize gw_d x a.w a.h s g = wd at hW M0
  generalize me_ds a.w g s = D' at hW' hD'
  generalize gw_n x a.w a.h g s = wn' at hW'
  generalize gw_d x a.w a.h g s = wd' at hW'
  have hA1 := gl_Ale (wn := wn) (al := a.aw) D 1
  obtain ⟨k1, hk1, hk1'⟩ : ∃ k1, 1 + k1 = (if a.aw s = true then 0 else 1) + D + gw_A wn a.aw 1 D + 1 + 2 ∧ k1 ≤ 15 := by
    refine ⟨(if a.aw s = true then 0 else 1) + D + gw_A wn a.aw 1 D + 2, by omega, ?_⟩
    split <;> omega
  have P0 : gw_Ps a (fun _ => 0) s 1 D wn a.aw (1 + k1) := ⟨_, _, _, Or.inl ⟨⟨rfl, fun _ _ _ => rfl, hk1⟩, rfl, rfl, rfl⟩⟩
  obtain ⟨μ1, a1, u1, b1, b2, b3, b4, b5, b6, b7, b8, b9⟩ := gq_run (m := 100) (by decide) k1 me_FU 0 a μ _ (by unfold me_FU; omega) (by omega) hS hco (by omega) (Or.inr (Nat.le_refl 1)) M0 hO gw_newN hrg P0
  obtain ⟨z1, z2, z3, z4, z5, z6, z7, z8, z9, z10, z11, z12, z13, z14⟩ := b5.l1
  have f0 : me_FU = 1000 := rfl
  obtain ⟨F1, hF1⟩ : ∃ F1, me_FU - k1 = F1 + 1 := ⟨me_FU - k1 - 1, by omega⟩
  obtain ⟨μ2, a2, c1, c2, c3, c4, c5⟩ := gq_beat b3 b5.l3 (by omega) (by rw [z5]; exact hkd) b4 (b8.t1 (Nat.le_refl 1)) b7 b6 (by rw [z3]; exact hnp) (fun i hi => by rw [(b5.l2 i (by omega)).1]; exact hst i hi) b5.l4 (by rw [z1, z2]; exact hW') (K10 := f_Y_beats_h10 F1) (m := 100) (i := 0 + k1) (by omega) (by decide)
  rw [z3] at c4
  obtain ⟨y1, y2, y3, y4, y5, y6, y7⟩ := c5.d1
  have hO2 := c5.d5
  rw [z3] at hO2
  have N2 : gw_N 1 D' (me_fu (fun _ => 0) 0 1) := fun j hj h1 => by
    by_cases e : j = 0
    · rw [e, me_fu_at, me_fu_ne (by decide)]
      exact Or.inl (by decide)
    · rw [me_fu_ne e] at h1
      exact absurd h1 (by decide)
  have hA2 := gl_Ale (wn := wn') (al := a2.aw) (D' - 1) 2
  obtain ⟨k2, hk2, hk2'⟩ : ∃ k2, k2 = (D' - 0) + (if 0 < D' ∧ a2.aw (wn' (0 + 1)) = false then 1 else 0) + gw_A wn' a2.aw (0 + 2) (D' - (0 + 1)) + 1 + 1 ∧ k2 ≤ 15 := by
    refine ⟨_, rfl, ?_⟩
    rw [show (0 : Nat) + 2 = 2 from rfl, show (0 : Nat) + 1 = 1 from rfl]
    split <;> omega
  have P2 : gw_Ps a2 (me_fu (fun _ => 0) 0 1) g 1 D' wn' a2.aw (0 + k2) := ⟨_, _, _, Or.inr (Or.inl ⟨0, ⟨Nat.zero_le _, by rw [me_fu_at]; exact Nat.le_refl 1, me_fu_ne (by decide), fun _ _ _ => rfl, by rw [Nat.zero_add]; exact hk2⟩, rfl, rfl, rfl⟩)⟩
  have kd2 : ¬ a2.kd a.np = 113 := by
    rw [y4, z3, me_fu_at]
    decide
  obtain ⟨μ3, a3, u3, d1, d2, d3, d4, d5, d6, d7, d8, d9⟩ := gq_run (m := 100) (by decide) k2 F1 (0 + k1 + 1) a2 μ2 _ (by omega) (by omega) c3 c5.d3 (by rw [c5.d6, b9]; omega) (Or.inl kd2) c4 hO2 N2 c5.d4 P2
  obtain ⟨x1, x2, x3, x4, x5, x6, x7, x8, x9, x10, x11, x12, x13, x14⟩ := d5.l1
  have hu3 : u3 (D' + 1) = 1 + 1 := d8.t0
  obtain ⟨μ4, a4, u4, g1, g2, g3, g4, g5, g6, g7, g8⟩ := gq_still (m := 100) (by decide) (100 - (0 + k1 + 1 + k2)) (F1 - k2) (0 + k1 + 1 + k2) a3 μ3 u3 (by omega) (by omega) d3 d5.l3 (by rw [d9, c5.d6, b9]; omega) (by rw [x5]; exact kd2) d4 hu3 d6 d5.l4 (Or.inr (by omega))
  obtain ⟨t1, t2, t3, t4, t5, t6, t7, t8, t9, t10, t11, t12, t13, t14⟩ := g6.l1
  have st4 : ∀ i, i < a.np → a4.st i = me_fu a1.st p 100 i := fun i hi => by
    rw [(g6.l2 i (by omega)).1, (d5.l2 i (by omega)).1, c5.d2 i (by rw [z3]; exact hi)]
  have st4p : ∀ i, i < p → a4.st i = a.st i := fun i hi => by
    rw [st4 i (by omega), me_fu_ne (by omega), (b5.l2 i (by omega)).1]
  have st4q : a4.st p = 100 := by rw [st4 p (by omega), me_fu_at]
  have np4 : a4.np = a.np + 1 := by rw [t3, x3, y3, z3]
  have hQ : gw_Q a4 := gw_done g3.2.1 g4 g5 g7 (fun i hi hne => by
    by_cases e : i = p
    · rw [e, st4q]
      exact Or.inl rfl
    · rw [st4p i (by omega)]
      exact hst i (by omega)) g6.l3 g6.l4
  refine ⟨μ4, a4, ?_, g3, hQ, ⟨by rw [t1, x1, y1, z1], by rw [t2, x2, y2, z2], np4, by rw [t5, x5, y4, z5, z3], by rw [t8, x8, y5, z8, z3, z14, z7, z11], by rw [t13, x13, y6, z13, z3], by rw [t14, x14, y7, z14, z7, z11, z12]⟩, st4p, st4q, g4.ms2 g5⟩
  refine gl_beats_o (m := 100) (by decide) ?_ (Or.inl rfl)
  obtain ⟨F2, hF2⟩ : ∃ F2, F1 - k2 - (100 - (0 + k1 + 1 + k2)) = F2 + 1 := ⟨F1 - k2 - (100 - (0 + k1 + 1 + k2)) - 1, by omega⟩
  rw [b1, hF1]
  refine Eq.trans c1 ?_
  rw [d1, g1, hF2, show 0 + k1 + 1 + k2 + (100 - (0 + k1 + 1 + k2)) = 100 by omega]
  exact gl_beatsE (by decide) g8 (Or.inl rfl)
