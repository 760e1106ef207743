/-! THE LAW'S BEATS, one packet alone -/
theorem gl_and1 : ((1 : Int32) &&& 1) = 1 := by decide
/-- the law's array: who slept -/
def gl_A (N : Nat) (al : Nat → Bool) (μ : me_M) : Prop := ∀ k, k < N → μ (36 + N) 0 k = me_bi (!al k)
theorem gl_A.k {N : Nat} {al : Nat → Bool} {μ μ' : me_M} (h : gl_A N al μ) (f : gb_F μ μ') : gl_A N al μ' := fun k hk => by rw [f (36 + N) (by omega)]; exact h k hk
theorem gl_b715 {sL : Nat} {xs : Nat → Int32} {K187 : me_M → Int32 → Int32 → Int32 → Int32 → Int32 → Int32 → Option (me_M × Int32)} {K576 : me_M → Int32 → Int32 → Int32 → Int32 → Int32 → Int32 → Int32 → Int32 → Int32 → Int32 → Int32 → Int32 → Int32 → Int32 → Option (me_M × Int32)} {μ : me_M} {v2 v4 v5 v7 v8 v9 v10 v15 v16 v17 v18 v19 v20 E S : Int32} (hh : f_L_head μ v16 = some (μ, E)) (hE : (v18 = 0 ∧ E = -900002) ∨ (¬ v18 = 0 ∧ v15 < 0 ∧ E = -900002) ∨ (¬ v18 = 0 ∧ ¬ v15 < 0 ∧ E = v15)) (hs : f_L_state μ v16 = some (μ, S)) (hS : (v20 = v17 ∧ S = 100) ∨ (¬ v20 = v17 ∧ v18 = 0 ∧ S = 115) ∨ (¬ v20 = v17 ∧ ¬ v18 = 0 ∧ S = 119)) (hb : f_Y_beat μ = some v7) : f_L_law_b715 sL xs K187 K576 μ v2 v4 v5 1 v7 v8 v9 v10 v15 v16 v17 v18 v19 v20 = K576 μ v2 v4 v5 1 v7 v8 v9 v10 v15 v16 v17 v18 v19 (me_inc v20 1) := by
  have h773 : ∀ S, f_L_law_b773 sL xs K187 K576 μ v2 v4 v5 v7 v8 v9 v10 v15 v16 v17 v18 v19 v20 S S 1 = K576 μ v2 v4 v5 1 v7 v8 v9 v10 v15 v16 v17 v18 v19 (me_inc v20 1) := fun S => by
    unfold f_L_law_b773
    rw [if_pos rfl, hb, me_bd_s, if_pos rfl, me_lt_s, me_lt_s, gl_and1]
  have h740 : ∀ E, f_L_law_b740 sL xs K187 K576 μ v2 v4 v5 v7 v8 v9 v10 v15 v16 v17 v18 v19 v20 E E 1 = K576 μ v2 v4 v5 1 v7 v8 v9 v10 v15 v16 v17 v18 v19 (me_inc v20 1) := fun E => by
    unfold f_L_law_b740
    rw [if_pos rfl, hs, me_b2_s]
    rcases hS with ⟨h1, h2⟩ | ⟨h1, h2, h3⟩ | ⟨h1, h2, h3⟩
    · rw [if_pos h1, h2]
      exact h773 _
    · rw [if_neg h1, if_pos h2, h3]
      exact h773 _
    · rw [if_neg h1, if_neg h2, h3]
      exact h773 _
  unfold f_L_law_b715 f_L_law_b738
  rw [hh, me_b2_s]
  rcases hE with ⟨h1, h2⟩ | ⟨h1, h2, h3⟩ | ⟨h1, h2, h3⟩
  · rw [if_pos h1, h2]
    exact h740 _
  · rw [if_neg h1, if_pos h2, h3]
    exact h740 _
  · rw [if_neg h1, if_neg h2, h3]
    exact h740 _
/-- where the packet is, and what the law has of it -/
def gw_Ph (a : me_S) (u : Nat → Nat) (s b D : Nat) (wn : Nat → Nat) (al : Nat → Bool) (rem : Nat) (v15 v18 v19 : Int32) : Prop :=
  (gw_P0 a u s b D wn al rem ∧ v15 = me_N s ∧ v18 = 0 ∧ v19 = me_N (if a.aw s = true then 0 else 1)) ∨
  (∃ j, gw_P1 a u b D wn al j rem ∧ v15 = me_N (wn j) ∧ v18 = 1 ∧ v19 = me_N (if j < D ∧ a.aw (wn (j + 1)) = false then 1 else 0)) ∨
  (gw_P2 u b D rem ∧ v15 = -1 ∧ v18 = 1 ∧ v19 = me_N (100 - u (D + 1)))
section GlLoop
variable {a a' : me_S} {μ μ' : me_M} {u u' : Nat → Nat} {x : Bool} {p c s g b D w h : Nat} {wn wd : Nat → Nat} {W al : Nat → Bool} {rem due : Nat} {v7 v8 v15 v16 v18 v19 v20 : Int32}
theorem gl_obs (hS : gb_S a μ) (hM : gw_M a u u x p c s g b D wn wd) (hP : gw_Ph a u s b D wn al rem v15 v18 v19) (hr : rem ≤ due) (hd : due < 1000) : ∃ E S, f_L_head μ (me_N p) = some (μ, E) ∧ ((v18 = 0 ∧ E = -900002) ∨ (¬ v18 = 0 ∧ v15 < 0 ∧ E = -900002) ∨ (¬ v18 = 0 ∧ ¬ v15 < 0 ∧ E = v15)) ∧ f_L_state μ (me_N p) = some (μ, S) ∧ ((me_N (due - rem) = me_N due ∧ S = 100) ∨ (¬ me_N (due - rem) = me_N due ∧ v18 = 0 ∧ S = 115) ∨ (¬ me_N (due - rem) = me_N due ∧ ¬ v18 = 0 ∧ S = 119)) := by
  have hp := hM.mnp
  have hwh := hS.2.1.wh
  have hb := hM.mb
  have hne : 1 ≤ rem → ¬ me_N (due - rem) = me_N due := fun h1 => by
    rw [me_N_inj (by omega) (by omega)]
    omega
  have h10 : ¬ (1 : Int32) = 0 := by decide
  rcases hP with ⟨⟨h1, h2, h3⟩, h4, h5, h6⟩ | ⟨j, ⟨h1, h2, h3, h4, h5⟩, h6, h7, h8⟩ | ⟨⟨h1, h2⟩, h3, h4, h5⟩
  · exact ⟨_, _, gl_head_n hS hp (hM.mh0 h1), Or.inl ⟨h5, rfl⟩, gl_state hS hp, Or.inr (Or.inl ⟨hne (by omega), h5, hM.ms0 h1⟩)⟩
  · have hl := hM.mW.wl j h1
    have h0 := hM.anti j 0 (Nat.zero_le _) (by omega)
    have h9 := hM.anti (D + 1) (j + 1) (by omega) (Nat.le_refl _)
    refine ⟨_, _, gl_head_o hS hp (hM.mhj j h1 h2 h3) (by omega), Or.inr (Or.inr ⟨by rw [h7]; exact h10, ?_, h6.symm⟩), gl_state hS hp, Or.inr (Or.inr ⟨hne (by omega), by rw [h7]; exact h10, hM.ms1 (by omega) (by omega)⟩)⟩
    rw [h6]
    exact me_N_nneg (by omega)
  · have h9 := hM.anti (D + 1) 0 (Nat.zero_le _) (Nat.le_refl _)
    refine ⟨_, _, gl_head_n hS hp (hM.mhD h1), Or.inr (Or.inl ⟨by rw [h4]; exact h10, by rw [h3]; decide, rfl⟩), gl_state hS hp, ?_⟩
    by_cases e : rem = 0
    · exact Or.inl ⟨by rw [e, Nat.sub_zero], hM.ms2 (by omega)⟩
    · exact Or.inr (Or.inr ⟨hne (by omega), by rw [h4]; exact h10, hM.ms1 (by omega) (by omega)⟩)
theorem gl_next (hW : gw_W x w h s g D wn wd) (hw : w < 5) (hh : h < 5) (hg : g < w * h) {j : Nat} (hj : j < D) : f_L_next μ (me_N w) (me_N (wn j)) (me_N g) (me_bi x) = some (me_N (wn (j + 1))) ∧ ¬ wn j = g := by
  have hne : ¬ wn j = g := fun e => by
    have := hW.wi j D (by omega) (Nat.le_refl _) (by rw [e, hW.wD])
    omega
  refine ⟨?_, hne⟩
  rw [gw_lnext x hw hh (hW.wl j (by omega)) hg hne, hW.wsd j hj, hW.wnb j hj]
  rfl
theorem gl_step {sL : Nat} {xs : Nat → Int32} {K187 : me_M → Int32 → Int32 → Int32 → Int32 → Int32 → Int32 → Option (me_M × Int32)} {K576 : me_M → Int32 → Int32 → Int32 → Int32 → Int32 → Int32 → Int32 → Int32 → Int32 → Int32 → Int32 → Int32 → Int32 → Int32 → Option (me_M × Int32)} (hwh : w * h ≤ 16) (hw : w < 5) (hh : h < 5) (hg : g < w * h) (eW : a.w = w ∧ a.h = h) (hA : gl_A (w * h) al μ) (hM : gw_M a u u x p c s g b D wn wd) (hM' : gw_M a' u' u' x p c s g b D wn wd) (hT : gw_T s b D u u' a.aw W wn) (haw : ∀ n, a'.aw n = (a.aw n || (decide (n < a.w * a.h) && W n))) (hN : gw_N b D u) (hP : gw_Ph a u s b D wn al (rem + 1) v15 v18 v19) : ∃ v15' v18' v19', gw_Ph a' u' s b D wn al rem v15' v18' v19' ∧ f_L_law_b598 sL xs K187 K576 μ (me_N w) (me_N (w * h)) (me_bi x) v7 v8 (me_N s) (me_N g) v15 v16 (me_N due) v18 v19 v20 1 1 = f_L_law_b715 sL xs K187 K576 μ (me_N w) (me_N (w * h)) (me_bi x) 1 (me_inc v7 1) v8 (me_N s) (me_N g) v15' v16 (me_N due) v18' v19' v20 := by
  have hb := hM.mb
  have h10 : ¬ (1 : Int32) = 0 := by decide
  have hWw : gw_W x w h s g D wn wd := by rw [← eW.1, ← eW.2]; exact hM.mW
  have hix : me_ix (me_N (w * h)) = w * h := me_N_ix (by omega)
  have hle0 : me_N 0 ≤ 0 := by decide
  -- a wait
  have waits : ∀ (m : Nat) (v15 v18 : Int32), 1 ≤ m → m ≤ 100 → f_L_law_b598 sL xs K187 K576 μ (me_N w) (me_N (w * h)) (me_bi x) v7 v8 (me_N s) (me_N g) v15 v16 (me_N due) v18 (me_N m) v20 1 1 = f_L_law_b715 sL xs K187 K576 μ (me_N w) (me_N (w * h)) (me_bi x) 1 (me_inc v7 1) v8 (me_N s) (me_N g) v15 v16 (me_N due) v18 (me_N (m - 1)) v20 := fun m v15 v18 q1 q2 => by
    unfold f_L_law_b598
    rw [me_lt_s, me_lt_s, gl_and1, if_neg (by rw [me_N_0, me_N_le (by omega) (by omega)]; omega), me_lt_s, me_N_dec (by omega)]
  -- what the array says of the next node
  have arr : ∀ (α : Type) (j : Nat) (k1 k2 : Option α), j ≤ D → me_gd (me_inb (me_N (wn j)) (me_ix (me_N (w * h)))) (if μ (36 + me_ix (me_N (w * h))) 0 (me_ix (me_N (wn j))) = 0 then k1 else k2) = if al (wn j) = false then k2 else k1 := fun α j k1 k2 hj => by
    have hl := hWw.wl j hj
    rw [hix, me_gd_n (by omega) hl, me_N_ix (by omega), hA (wn j) hl]
    cases al (wn j) with
    | true => rfl
    | false => rfl
  rcases hP with ⟨hP, h4, h5, h6⟩ | ⟨j, hP, h6, h7, h8⟩ | ⟨hP, h3, h4, h5⟩
  · cases hs : a.aw s with
    | false =>
      obtain ⟨q1, q2, q3⟩ := gw_t0w hM hT haw hP hs
      rw [hs, if_neg (by decide)] at h6
      refine ⟨v15, v18, me_N 0, Or.inl ⟨q2, h4, h5, by rw [q3, if_pos rfl]⟩, ?_⟩
      rw [h6]
      exact waits 1 v15 v18 (by decide) (by decide)
    | true =>
      obtain ⟨q1, q2, q3⟩ := gw_t0 hM hT haw hP hs
      rw [hs, if_pos rfl] at h6
      refine ⟨v15, 1, me_N (if 0 < D ∧ a'.aw (wn (0 + 1)) = false then 1 else 0), Or.inr (Or.inl ⟨0, q2, by rw [h4, hWw.w0], rfl, rfl⟩), ?_⟩
      unfold f_L_law_b598 f_L_law_b651
      rw [me_lt_s, me_lt_s, gl_and1, h6, if_pos hle0, if_pos h5, h4]
      by_cases hD : 0 < D
      · obtain ⟨e1, e2⟩ := gl_next (μ := μ) hWw hw hh hg hD
        rw [hWw.w0] at e1 e2
        rw [if_neg (by
          have := hWw.wl 0 (Nat.zero_le _)
          rw [hWw.w0] at this
          rw [me_N_inj (by omega) (by omega)]
          exact e2), e1, me_bd_s, arr _ 1 _ _ (by omega)]
        have q4 : a'.aw (wn (0 + 1)) = al (wn 1) := q3 hD
        rw [q4]
        cases al (wn 1) with
        | true => rw [if_neg (by decide), if_neg (fun q => absurd q.2 (by decide))]; rfl
        | false => rw [if_pos rfl, if_pos ⟨hD, rfl⟩]; rfl
      · have e0 : D = 0 := by omega
        have e1 : s = g := by rw [← hWw.w0, ← hWw.wD, e0]
        rw [if_pos (by rw [e1]), if_neg (fun q => hD q.1)]
        rfl
  · by_cases hj : j < D
    · cases hs : a.aw (wn (j + 1)) with
      | false =>
        obtain ⟨q1, q2, q3⟩ := gw_t1w hM hM' hT haw hP hj hs
        rw [hs, if_pos ⟨hj, rfl⟩] at h8
        refine ⟨v15, v18, me_N 0, Or.inr (Or.inl ⟨j, q2, h6, h7, by rw [q3, if_neg (fun q => absurd q.2 (by decide))]⟩), ?_⟩
        rw [h8]
        exact waits 1 v15 v18 (by decide) (by decide)
      | true =>
        obtain ⟨q1, q2, q3⟩ := gw_t1 hM hT haw hP hj hs
        rw [hs, if_neg (fun q => absurd q.2 (by decide))] at h8
        refine ⟨me_N (wn (j + 1)), 1, me_N (if j + 1 < D ∧ a'.aw (wn (j + 1 + 1)) = false then 1 else 0), Or.inr (Or.inl ⟨j + 1, q2, rfl, rfl, rfl⟩), ?_⟩
        obtain ⟨e1, e2⟩ := gl_next (μ := μ) hWw hw hh hg hj
        have hl := hWw.wl j (by omega)
        have hl1 := hWw.wl (j + 1) (by omega)
        unfold f_L_law_b598 f_L_law_b703
        rw [me_lt_s, me_lt_s, gl_and1, h8, if_pos hle0, h7, if_neg h10, h6, if_neg (by rw [me_N_inj (by omega) (by omega)]; exact e2), e1, me_bd_s]
        by_cases hD : j + 1 < D
        · obtain ⟨e3, e4⟩ := gl_next (μ := μ) hWw hw hh hg hD
          rw [if_neg (by rw [me_N_inj (by omega) (by omega)]; exact e4), e3, me_bd_s, arr _ (j + 1 + 1) _ _ (by omega)]
          have q4 : a'.aw (wn (j + 1 + 1)) = al (wn (j + 1 + 1)) := q3 hD
          rw [q4]
          cases al (wn (j + 1 + 1)) with
          | true => rw [if_neg (by decide), if_neg (fun q => absurd q.2 (by decide))]; rfl
          | false => rw [if_pos rfl, if_pos ⟨hD, rfl⟩]; rfl
        · have e0 : j + 1 = D := by omega
          rw [if_pos (by rw [e0, hWw.wD]), if_neg (fun q => hD q.1)]
          rfl
    · have e0 : j = D := by
        have := hP.1
        omega
      subst e0
      obtain ⟨q1, q2⟩ := gw_t1D hT hP
      have q4 : u' (j + 1) = 1 := by
        have h9 := hP.2.2.2.2
        rw [if_neg (fun r => hj r.1), show j - (j + 1) = 0 by omega] at h9
        have e4 : gw_A wn al (j + 2) 0 = 0 := rfl
        rw [e4] at h9
        have := q2.2
        omega
      rw [if_neg (fun q => hj q.1)] at h8
      refine ⟨-1, 1, 99, Or.inr (Or.inr ⟨q2, rfl, rfl, by rw [q4]; rfl⟩), ?_⟩
      unfold f_L_law_b598
      rw [me_lt_s, me_lt_s, gl_and1, h8, if_pos hle0, h7, if_neg h10, h6, if_pos (by rw [hWw.wD])]
  · have q2 := gw_t2 hM hT hN hP (by omega)
    have h9 := hM.anti (D + 1) 0 (Nat.zero_le _) (Nat.le_refl _)
    have h0 := hM.mu0
    have q3 := hP.2
    have q4 := q2.2
    refine ⟨v15, v18, me_N (100 - u (D + 1) - 1), Or.inr (Or.inr ⟨q2, h3, h4, by congr 1; omega⟩), ?_⟩
    rw [h5]
    exact waits _ v15 v18 (by omega) (by omega)
end GlLoop
