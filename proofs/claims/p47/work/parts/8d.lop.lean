/-! THE LAW'S BEATS to the end of a way -/
theorem gw_L.rf {p : Nat} {a : me_S} (hco : gb_co a) (hrg : ∀ r, a.rg r ≤ a.bt) : gw_L p a a := gw_L.mk ⟨rfl, rfl, rfl, rfl, rfl, rfl, rfl, rfl, rfl, rfl, rfl, rfl, rfl, rfl⟩ (fun _ _ => ⟨rfl, rfl, rfl⟩) hco hrg
theorem gl_loop {sL : Nat} {xs : Nat → Int32} {K187 : me_M → Int32 → Int32 → Int32 → Int32 → Int32 → Int32 → Option (me_M × Int32)} {x : Bool} {p c s g b D w h due : Nat} {wn wd : Nat → Nat} {al : Nat → Bool} {v8 : Int32} (hwh : w * h ≤ 16) (hw : w < 5) (hh : h < 5) (hg : g < w * h) (hdue : due < 1000) : ∀ (rem f : Nat) (a : me_S) (μ : me_M) (u : Nat → Nat) (v15 v18 v19 : Int32), rem < f → gb_S a μ → gb_co a → a.bt + rem < 1000000 → ¬ a.kd p = 113 → gw_M a u u x p c s g b D wn wd → gw_O p a → gw_N b D u → a.w = w ∧ a.h = h → gl_A (w * h) al μ → gw_Ph a u s b D wn al rem v15 v18 v19 → rem ≤ due → (∀ r, a.rg r ≤ a.bt) → (rem = 0 → a.dn p = some a.bt) → ∃ f' μ' a' u' v15' v18' v19', f_L_law_h576 sL xs K187 f μ (me_N w) (me_N (w * h)) (me_bi x) 1 (me_N a.bt) v8 (me_N s) (me_N g) v15 (me_N p) (me_N due) v18 v19 (me_N (due + 1 - rem)) = f_L_law_h576 sL xs K187 (f' + 1) μ' (me_N w) (me_N (w * h)) (me_bi x) 1 (me_N (a.bt + rem)) v8 (me_N s) (me_N g) v15' (me_N p) (me_N due) v18' v19' (me_N (due + 1)) ∧ gb_F μ μ' ∧ gb_S a' μ' ∧ gw_M a' u' u' x p c s g b D wn wd ∧ u' (D + 1) = b + 1 ∧ gw_L p a a' ∧ gw_O p a' ∧ a'.bt = a.bt + rem ∧ a'.dn p = some a'.bt := by
  intro rem
  induction rem with
  | zero =>
    intro f a μ u v15 v18 v19 hf hS hco hbt hkd hM hO hN eW hA hP hr hrg hdn
    obtain ⟨f, rfl⟩ : ∃ k, f = k + 1 := ⟨f - 1, by omega⟩
    have hu : u (D + 1) = b + 1 := by
      have hb := hM.mb
      rcases hP with ⟨⟨h1, h2, h3⟩, -⟩ | ⟨j, ⟨h1, h2, h3, h4, h5⟩, -⟩ | ⟨⟨h1, h2⟩, -⟩ <;> omega
    exact ⟨f, μ, a, u, v15, v18, v19, rfl, gb_F.rf, hS, hM, hu, gw_L.rf hco hrg, hO, rfl, hdn rfl⟩
  | succ rem ih =>
    intro f a μ u v15 v18 v19 hf hS hco hbt hkd hM hO hN eW hA hP hr hrg hdn
    obtain ⟨f, rfl⟩ : ∃ k, f = k + 1 := ⟨f - 1, by omega⟩
    obtain ⟨μ1, a1, W, v, u1, e1, e2, e3, e4, e5, e6, e7, e8, e9, e10, e11, e12, e13⟩ := gb_beat hS hco (by omega) (Or.inl hkd) hM hO (K10 := f_Y_beats_h10 999) (m := 1) (i := 0) (by decide) (by decide)
    have b1 : f_L_beats μ 1 = some (μ1, v) := gl_beats_o (m := 1) (by decide) (e1.trans (gl_beatsE (by decide) e11 e12)) e12
    have hb := hM.mb
    obtain ⟨v15', v18', v19', p1, p2⟩ := gl_step (due := due) (sL := sL) (xs := xs) (K187 := K187) (K576 := f_L_law_h576 sL xs K187 f) (v7 := me_N a.bt) (v8 := v8) (v16 := me_N p) (v20 := me_N (due + 1 - (rem + 1))) hwh hw hh hg eW (hA.k e2) hM e4 e9 e8 hN hP
    obtain ⟨E, S, q1, q2, q3, q4⟩ := gl_obs e3 e4 p1 (by omega) hdue
    have hN1 := gw_N.step hM e4 e9 hN
    have hdn1 : rem = 0 → a1.dn p = some a1.bt := fun h0 => by
      have hu1 : u1 (D + 1) = b + 1 ∧ ¬ u (D + 1) = b + 1 := by
        refine ⟨?_, ?_⟩
        · rcases p1 with ⟨⟨h1, h2, h3⟩, -⟩ | ⟨j, ⟨h1, h2, h3, h4, h5⟩, -⟩ | ⟨⟨h1, h2⟩, -⟩ <;> omega
        · rcases hP with ⟨⟨h1, h2, h3⟩, -⟩ | ⟨j, ⟨h1, h2, h3, h4, h5⟩, -⟩ | ⟨⟨h1, h2⟩, -⟩ <;> omega
      rw [e10, if_pos hu1, e7]
    obtain ⟨f', μ', a', u', w15, w18, w19, r1, r2, r3, r4, r5, r6, r7, r8, r9⟩ := ih f a1 μ1 u1 v15' v18' v19' (by omega) e3 e5.l3 (by rw [e7]; omega) (by rw [e5.l1.2.2.2.2.1]; exact hkd) e4 e6 hN1 ⟨by rw [e5.l1.1]; exact eW.1, by rw [e5.l1.2.1]; exact eW.2⟩ (hA.k e2) p1 (by omega) e5.l4 hdn1
    refine ⟨f', μ', a', u', w15, w18, w19, ?_, e2.tr r2, r3, r4, r5, e5.tr r6, r7, by rw [r8, e7]; omega, r9⟩
    rw [e7] at r1
    rw [show a.bt + (rem + 1) = a.bt + 1 + rem by omega, ← r1]
    show f_L_law_b576 sL xs K187 (f_L_law_h576 sL xs K187 f) _ _ _ _ _ _ _ _ _ _ _ _ _ _ _ = _
    unfold f_L_law_b576
    rw [if_neg (by rw [me_N_lt (by omega) (by omega)]; omega), b1, me_b2_s, if_neg (show ¬ v < 0 by
      rcases e12 with q | q <;> rw [q] <;> decide), p2, me_N_inc]
    rw [show due + 1 - (rem + 1) = due - rem by omega]
    rw [gl_b715 q1 q2 q3 q4 (by rw [gl_beat e3, e7]), me_N_inc, show due - rem + 1 = due + 1 - rem by omega]
/-- the law's end of a round: the rows -/
theorem gl_h912 {sL : Nat} {xs : Nat → Int32} {K187 : me_M → Int32 → Int32 → Int32 → Int32 → Int32 → Int32 → Option (me_M × Int32)} {K902 : me_M → Int32 → Int32 → Int32 → Int32 → Int32 → Int32 → Int32 → Option (me_M × Int32)} {a : me_S} {μ : me_M} {k : Nat} {v2 v4 v5 v7 v8 : Int32} (hS : gb_S a μ) (hQ : gw_Q a) (hk : k < a.w * a.h) : f_L_law_h912 sL xs K187 K902 me_F912 μ v2 v4 v5 1 v7 v8 (me_N k) 0 = K902 μ v2 v4 v5 1 v7 v8 (me_N (k + 1)) := by
  have st : ∀ (K912 : me_M → Int32 → Int32 → Int32 → Int32 → Int32 → Int32 → Int32 → Int32 → Option (me_M × Int32)) (d : Nat) (v : Int32), d < 4 → me_fi (me_sb 1) v 0 = me_N d → f_L_law_b952 sL xs K187 K902 K912 μ v2 v4 v5 1 v7 v8 (me_N k) (me_N d) v = K912 μ v2 v4 v5 1 v7 v8 (me_N k) (me_N (d + 1)) := fun K912 d v hd hv => by
    unfold f_L_law_b952
    rw [gl_row hS hk hd hv hQ.qq, me_b2_s, if_pos rfl, gl_owner hS hk hd hv hQ.qro, me_b2_s, if_pos rfl, me_lt_s, gl_and1, me_N_inc, me_lt_s]
  have h0 : ∀ f, f_L_law_h912 sL xs K187 K902 (f + 1) μ v2 v4 v5 1 v7 v8 (me_N k) (me_N 0) = f_L_law_h912 sL xs K187 K902 f μ v2 v4 v5 1 v7 v8 (me_N k) (me_N 1) := fun f => by
    show f_L_law_b912 _ _ _ _ _ _ _ _ _ _ _ _ _ _ = _
    unfold f_L_law_b912
    rw [if_neg (by decide), if_pos (by decide)]
    exact st _ 0 101 (by decide) rfl
  have h1 : ∀ f, f_L_law_h912 sL xs K187 K902 (f + 1) μ v2 v4 v5 1 v7 v8 (me_N k) (me_N 1) = f_L_law_h912 sL xs K187 K902 f μ v2 v4 v5 1 v7 v8 (me_N k) (me_N 2) := fun f => by
    show f_L_law_b912 _ _ _ _ _ _ _ _ _ _ _ _ _ _ = _
    unfold f_L_law_b912
    rw [if_neg (by decide), if_neg (by decide), if_pos (by decide)]
    exact st _ 1 119 (by decide) rfl
  have h2 : ∀ f, f_L_law_h912 sL xs K187 K902 (f + 1) μ v2 v4 v5 1 v7 v8 (me_N k) (me_N 2) = f_L_law_h912 sL xs K187 K902 f μ v2 v4 v5 1 v7 v8 (me_N k) (me_N 3) := fun f => by
    show f_L_law_b912 _ _ _ _ _ _ _ _ _ _ _ _ _ _ = _
    unfold f_L_law_b912
    rw [if_neg (by decide), if_neg (by decide), if_neg (by decide), if_pos (by decide)]
    exact st _ 2 115 (by decide) rfl
  have h3 : ∀ f, f_L_law_h912 sL xs K187 K902 (f + 1) μ v2 v4 v5 1 v7 v8 (me_N k) (me_N 3) = f_L_law_h912 sL xs K187 K902 f μ v2 v4 v5 1 v7 v8 (me_N k) (me_N 4) := fun f => by
    show f_L_law_b912 _ _ _ _ _ _ _ _ _ _ _ _ _ _ = _
    unfold f_L_law_b912
    rw [if_neg (by decide), if_neg (by decide), if_neg (by decide), if_neg (by decide)]
    exact st _ 3 110 (by decide) rfl
  have h4 : ∀ f, f_L_law_h912 sL xs K187 K902 (f + 1) μ v2 v4 v5 1 v7 v8 (me_N k) (me_N 4) = K902 μ v2 v4 v5 1 v7 v8 (me_N (k + 1)) := fun f => by
    show f_L_law_b912 _ _ _ _ _ _ _ _ _ _ _ _ _ _ = _
    unfold f_L_law_b912
    rw [if_pos (by decide), me_lt_s, me_N_inc]
  show f_L_law_h912 sL xs K187 K902 (7 + 1) μ v2 v4 v5 1 v7 v8 (me_N k) (me_N 0) = _
  rw [h0, h1, h2, h3, h4]
theorem gl_h902 {sL : Nat} {xs : Nat → Int32} {K187 : me_M → Int32 → Int32 → Int32 → Int32 → Int32 → Int32 → Option (me_M × Int32)} {a : me_S} {μ : me_M} {v2 v5 v7 v8 : Int32} (hS : gb_S a μ) (hQ : gw_Q a) : ∀ (d f k : Nat), k + d = a.w * a.h → d < f → f_L_law_h902 sL xs K187 f μ v2 (me_N (a.w * a.h)) v5 1 v7 v8 (me_N k) = K187 μ v2 (me_N (a.w * a.h)) v5 1 v7 (me_inc v8 1) := by
  have hwh := hS.2.1.wh
  intro d
  induction d with
  | zero =>
    intro f k h1 h2
    obtain ⟨f, rfl⟩ : ∃ k, f = k + 1 := ⟨f - 1, by omega⟩
    show f_L_law_b902 _ _ _ _ _ _ _ _ _ _ _ _ = _
    unfold f_L_law_b902
    rw [if_pos (by rw [me_N_le (by omega) (by omega)]; omega), me_lt_s]
  | succ d ih =>
    intro f k h1 h2
    obtain ⟨f, rfl⟩ : ∃ k, f = k + 1 := ⟨f - 1, by omega⟩
    show f_L_law_b902 _ _ _ _ _ _ _ _ _ _ _ _ = _
    unfold f_L_law_b902
    rw [if_neg (by rw [me_N_le (by omega) (by omega)]; omega), gl_h912 hS hQ (by omega)]
    exact ih f (k + 1) (by omega) (by omega)
