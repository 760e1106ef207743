/-! all routers in a beat, one packet alone -/
/-- what became of the row j: it gave a piece, or had none to give, or the node ahead sleeps and is woken, or the row ahead has two pieces or more -/
def gw_R (D : Nat) (us u : Nat → Nat) (aw W : Nat → Bool) (wn : Nat → Nat) (j : Nat) : Prop := (u (j + 1) = us (j + 1) + 1 ∧ us (j + 1) < us j ∧ (j < D → aw (wn (j + 1)) = true)) ∨ (u (j + 1) = us (j + 1) ∧ (us j ≤ us (j + 1) ∨ (j < D ∧ us (j + 1) = 0 ∧ aw (wn (j + 1)) = false ∧ W (wn (j + 1)) = true) ∨ (j < D ∧ us (j + 1 + 1) + 2 ≤ us (j + 1))))
theorem gw_R.mono {D : Nat} {us u u1 : Nat → Nat} {aw W W1 : Nat → Bool} {wn : Nat → Nat} {j : Nat} (h : gw_R D us u aw W wn j) (hu : u1 (j + 1) = u (j + 1)) (hW : ∀ m, W m = true → W1 m = true) : gw_R D us u1 aw W1 wn j := by
  unfold gw_R at h ⊢
  rw [hu]
  rcases h with h | ⟨h1, h | ⟨h2, h3, h4, h5⟩ | h⟩
  · exact Or.inl h
  · exact Or.inr ⟨h1, Or.inl h⟩
  · exact Or.inr ⟨h1, Or.inr (Or.inl ⟨h2, h3, h4, hW _ h5⟩)⟩
  · exact Or.inr ⟨h1, Or.inr (Or.inr h)⟩
theorem gw_node1 {a : me_S} {W : Nat → Bool} {v : Int32} {μ : me_M} {us u : Nat → Nat} {x : Bool} {p c s g b D : Nat} {wn wd : Nat → Nat} (hX : gb_X a W v μ) (hbt : a.bt < 1000000) (hkd : ¬ a.kd p = 113 ∨ us (D + 1) < b) (hM : gw_M a us u x p c s g b D wn wd) (hle : ∀ m, m ≤ D + 1 → us m ≤ u m) {j f : Nat} (hj : j ≤ D) (h1 : us (j + 1) = u (j + 1)) (h2 : u (j + 1) < us j) : ∃ μ2 a2 W2 v2 u2, f_Mover_moveAll_h2 (f + 1) μ (me_N (wn j)) = f_Mover_moveAll_h2 f μ2 (me_N (wn j + 1)) ∧ gb_F μ μ2 ∧ gb_X a2 W2 v2 μ2 ∧ gw_M a2 us u2 x p c s g b D wn wd ∧ gw_K p a a2 ∧ (v2 = v ∨ v2 = 1) ∧ (∀ m, ¬ m = j + 1 → u2 m = u m) ∧ gw_R D us u2 a.aw W2 wn j ∧ (∀ m, W m = true → W2 m = true) ∧ (∀ m, W2 m = true → W m = true ∨ (j < D ∧ m = wn (j + 1) ∧ us (j + 1) = 0 ∧ 1 ≤ us j)) ∧ a2.dn p = (if u2 (D + 1) = b + 1 ∧ ¬ u (D + 1) = b + 1 then some (a.bt + 1) else a.dn p) := by
  have hI := hX.2.1
  have hwh := hI.wh
  have hc := hM.mc
  have hlj := hle j (by omega)
  have hlt : u (j + 1) < u j := by omega
  have hnl := hM.mW.wl j hj
  have hk := gw_k5 wd j
  obtain ⟨ci, t, hq, -⟩ := hM.first hj hlt
  have hu := hM.un hI hbt hj hq h1 h2
  have hsd := hM.sd hj hlt
  have haw := hM.maw j hj (by omega)
  have he : ∀ c' k', c' < 2 → k' < 5 → ¬ (c' = c ∧ k' = gw_k wd j) → a.q (5 * (2 * wn j + c') + k') = [] := fun c' k' g1 g2 g3 => hM.emp g2 g1 (fun j' hj' e => by
    rw [hM.mW.wi j' j hj' hj e]
    exact g3)
  have hop := fun n => me_op_lt n
  by_cases hD : j = D
  · subst hD
    rw [if_pos rfl] at hsd
    obtain ⟨μ1, g1, g2, g3⟩ := gb_core hX (show wn j < 16 by omega) hc hk hq hu hsd
    obtain ⟨F0, F1, F2, F3, F4, F5, F6, F7, F8, F9⟩ := gw_cyF (a := a) (p := p) (i := u (j + 1)) (r := gw_x c wn wd j) (t := t) (hkd.imp id (fun q e => by rw [hM.mbo] at e; omega)) (by rw [hM.mbo]; have := hM.mb; omega)
    obtain ⟨μ2, k1, k2, k3⟩ := gb_one (f := f) hX hnl haw hc hk (show 4 < 5 by decide) hq hu hsd he (b := true) g1 g2 F0.1 F0.2.1 (fun c' k' q1 q2 q3 => by
      refine (F1 _).trans ?_
      rw [if_neg]
      · exact he c' k' q1 q2 q3
      · intro e
        have e : 5 * (2 * wn j + c') + k' = 5 * (2 * wn j + c) + gw_k wd j := e
        exact q3 (by omega)) (Or.inr ⟨rfl, by
      have := F2 (gw_x c wn wd j)
      rw [if_pos rfl] at this
      refine Eq.trans this ?_
      exact congrArg (· + 1) F0.2.2.2.2.2.1.symm⟩)
    rw [if_pos rfl, if_pos rfl] at k3
    have hbo := hM.mbo
    rw [hbo] at F3 F7 F9
    refine ⟨μ2, _, W, 1, _, k1, g3.tr k2, k3, (hM.core hlt hq (by omega) F0 F1 F2 F3 F4 F5 F6 F7).lr _, F8.lr _, Or.inr rfl, fun m hm => me_fu_ne hm, Or.inl ⟨?_, by omega, fun q => by omega⟩, fun m hm => hm, fun m hm => Or.inl hm, ?_⟩
    · rw [me_fu_at, h1]
    · refine Eq.trans F9 ?_
      rw [me_fu_at]
      by_cases e : u (j + 1) = b
      · rw [if_pos e, if_pos ⟨by omega, by omega⟩]
      · rw [if_neg e, if_neg (fun q => e (by omega))]
  · rw [if_neg hD] at hsd
    have hjD : j < D := by omega
    have hw4 := hM.mW.w4 j hjD
    have hnb := hM.mW.wnb j hjD
    have hx1 : 5 * (2 * wn (j + 1) + c) + me_op (wd j) = gw_x c wn wd (j + 1) := rfl
    have hlen := hM.len (j := j + 1) (by omega)
    have hl2 := hle (j + 1 + 1) (by omega)
    have hrp := hM.mrp
    have dsame : ∀ u2 : Nat → Nat, u2 (D + 1) = u (D + 1) → a.dn p = (if u2 (D + 1) = b + 1 ∧ ¬ u (D + 1) = b + 1 then some (a.bt + 1) else a.dn p) := fun u2 e => (if_neg (fun q => q.2 (e.symm.trans q.1))).symm
    rcases gb_ahead hX hnl hc hk hw4 hq hu hsd hnb (hM.mfl _ _) with ⟨q1, q2, q3, μ1, g1, g2, g3⟩ | ⟨q1, q2, q3, g1⟩ | ⟨q1, q2, g1⟩
    · obtain ⟨A, eA, F0, F1, F2, F3, F4, F5, F6, F7⟩ := gw_ayF (a := a) (p := p) (i := u (j + 1)) (r := gw_x c wn wd j) (r' := gw_x c wn wd (j + 1)) (d := wd j) (n' := wn (j + 1)) (t := t)
      subst eA
      obtain ⟨μ2, k1, k2, k3⟩ := gb_one (f := f) hX hnl haw hc hk (show wd j < 5 by omega) hq hu hsd he (b := true) g1 g2 F0.1 F0.2.1 (fun c' k' q1' q2' q3' => by
        refine (F1 _).trans ?_
        rw [if_neg, if_neg]
        · exact he c' k' q1' q2' q3'
        · intro e
          have e : 5 * (2 * wn j + c') + k' = 5 * (2 * wn j + c) + gw_k wd j := e
          exact q3' (by omega)
        · intro e
          have e : 5 * (2 * wn j + c') + k' = 5 * (2 * wn (j + 1) + c) + me_op (wd j) := e
          have h3 := hop (wd j)
          have h4 := hM.mW.wi j (j + 1) (by omega) (by omega) (by omega)
          omega) (Or.inr ⟨rfl, by
        have := F2 (gw_x c wn wd j)
        rw [if_pos rfl] at this
        refine Eq.trans this ?_
        exact congrArg (· + 1) F0.2.2.2.2.2.1.symm⟩)
      rw [if_pos rfl, if_pos rfl] at k3
      have hbo := hM.mbo
      rw [hbo] at F3
      refine ⟨μ2, _, W, 1, _, k1, g3.tr k2, k3, (hM.ahead hjD hlt (by omega) q1 hq F0 F1 F2 F3 F4 F5).lr _, F6.lr _, Or.inr rfl, fun m hm => me_fu_ne hm, Or.inl ⟨?_, by omega, fun _ => q1⟩, fun m hm => hm, fun m hm => Or.inl hm, ?_⟩
      · rw [me_fu_at, h1]
      · refine Eq.trans (congrFun F7 p) ?_
        exact dsame _ (me_fu_ne (by omega))
    · obtain ⟨w1, w2⟩ := gb_wake hX q3
      obtain ⟨μ2, k1, k2, k3⟩ := gb_one (f := f) hX hnl haw hc hk (show wd j < 5 by omega) hq hu hsd he (b := false) g1 w1 rfl rfl he (Or.inl ⟨rfl, rfl, rfl, rfl⟩)
      rw [if_neg (by decide), if_neg (by decide)] at k3
      refine ⟨μ2, a, _, v, u, k1, w2.tr k2, k3, hM, gw_K.rf, Or.inl rfl, fun m hm => rfl, Or.inr ⟨h1.symm, Or.inr (Or.inl ⟨hjD, by omega, q1, me_fu_at⟩)⟩, fun m hm => ?_, fun m hm => ?_, dsame u rfl⟩
      · rw [me_fu_ap]
        split
        · rfl
        · exact hm
      · rw [me_fu_ap] at hm
        by_cases e : m = wn (j + 1)
        · exact Or.inr ⟨hjD, e, by omega, by omega⟩
        · rw [if_neg e] at hm
          exact Or.inl hm
    · obtain ⟨μ2, k1, k2, k3⟩ := gb_one (f := f) hX hnl haw hc hk (show wd j < 5 by omega) hq hu hsd he (b := false) g1 hX rfl rfl he (Or.inl ⟨rfl, rfl, rfl, rfl⟩)
      rw [if_neg (by decide), if_neg (by decide)] at k3
      refine ⟨μ2, a, W, v, u, k1, k2, k3, hM, gw_K.rf, Or.inl rfl, fun m hm => rfl, Or.inr ⟨h1.symm, Or.inr (Or.inr ⟨hjD, ?_⟩)⟩, fun m hm => hm, fun m hm => Or.inl hm, dsame u rfl⟩
      rw [hx1] at q2
      by_cases hl : (a.q (gw_x c wn wd (j + 1))).length < a.rp
      · refine absurd ⟨hl, fun e => ?_⟩ q2
        rw [hM.mro (j + 1) (by omega), if_neg (by omega)]
      · omega
theorem gw_moves {us : Nat → Nat} {x : Bool} {p c s g b D : Nat} {wn wd : Nat → Nat} : ∀ (d f n : Nat) (a : me_S) (W : Nat → Bool) (v : Int32) (μ : me_M) (u : Nat → Nat), n + d = a.w * a.h → d < f → gb_X a W v μ → a.bt < 1000000 → (¬ a.kd p = 113 ∨ us (D + 1) < b) → gw_M a us u x p c s g b D wn wd → (∀ m, m ≤ D + 1 → us m ≤ u m) → u 0 = us 0 → (∀ j, j ≤ D → n ≤ wn j → u (j + 1) = us (j + 1)) → (∀ j, j ≤ D → wn j < n → gw_R D us u a.aw W wn j) → ∃ μ' a' W' v' u', f_Mover_moveAll_h2 f μ (me_N n) = some (μ', ()) ∧ gb_F μ μ' ∧ gb_X a' W' v' μ' ∧ gw_M a' us u' x p c s g b D wn wd ∧ gw_K p a a' ∧ (∀ m, m ≤ D + 1 → u m ≤ u' m) ∧ u' 0 = us 0 ∧ (∀ j, j ≤ D → gw_R D us u' a.aw W' wn j) ∧ (∀ m, W m = true → W' m = true) ∧ (∀ m, W' m = true → W m = true ∨ ∃ j, j < D ∧ m = wn (j + 1) ∧ us (j + 1) = 0 ∧ 1 ≤ us j) ∧ (v' = v ∨ (v' = 1 ∧ ∃ j, j ≤ D ∧ us (j + 1) < us j)) ∧ a'.dn p = (if u' (D + 1) = b + 1 ∧ ¬ u (D + 1) = b + 1 then some (a.bt + 1) else a.dn p) := by
  intro d
  induction d with
  | zero =>
    intro f n a W v μ u h1 h2 hX hbt hkd hM hle hu0 hun hR
    obtain ⟨f, rfl⟩ : ∃ g, f = g + 1 := ⟨f - 1, by omega⟩
    obtain rfl : n = a.w * a.h := by omega
    exact ⟨μ, a, W, v, u, gb_end hX, gb_F.rf, hX, hM, gw_K.rf, fun m _ => Nat.le_refl _, hu0, fun j hj => hR j hj (hM.mW.wl j hj), fun m hm => hm, fun m hm => Or.inl hm, Or.inl rfl, (if_neg (fun q => q.2 q.1)).symm⟩
  | succ d ih =>
    intro f n a W v μ u h1 h2 hX hbt hkd hM hle hu0 hun hR
    obtain ⟨f, rfl⟩ : ∃ g, f = g + 1 := ⟨f - 1, by omega⟩
    have hwh := hX.2.1.wh
    by_cases hj : ∃ j, j ≤ D ∧ wn j = n ∧ us (j + 1) < us j
    · obtain ⟨j, hj, rfl, hlt⟩ := hj
      have huj := hun j hj (Nat.le_refl _)
      obtain ⟨μ2, a2, W2, v2, u2, e1, e2, e3, e4, e5, ev, e6, e7, e8, e9, e10⟩ := gw_node1 (f := f) hX hbt hkd hM hle hj huj.symm (by omega)
      obtain ⟨y1, y2, y3, y4, y5, y6, y7, y8, y9, y10, y11, y12, y13, y14, y15, y16, y17⟩ := e5.k1
      have hmon : ∀ m, u m ≤ u2 m := fun m => by
        by_cases q : m = j + 1
        · rw [q]
          rcases e7 with q | q <;> omega
        · rw [e6 m q]
          exact Nat.le_refl _
      obtain ⟨μ', a', W', v', u', g1, g2, g3, g4, g5, g6, g7, g8, g9, g10, g11, g12⟩ := ih f (wn j + 1) a2 W2 v2 μ2 u2 (by rw [y1, y2]; omega) (by omega) e3 (by rw [y3]; exact hbt) (by rw [y6]; exact hkd) e4 (fun m hm => by
        by_cases q : m = j + 1
        · rw [q]
          rcases e7 with q | q <;> omega
        · rw [e6 m q]
          exact hle m hm) (by rw [e6 0 (by omega)]; exact hu0) (fun j' hj' hn' => by
        rw [e6 (j' + 1) (fun q => by
          have : j' = j := by omega
          rw [this] at hn'
          omega)]
        exact hun j' hj' (by omega)) (fun j' hj' hn' => by
        rw [y17]
        by_cases q : j' = j
        · rw [q]
          exact e7
        · have hne : ¬ wn j' = wn j := fun e => q (hM.mW.wi j' j hj' hj e)
          exact (hR j' hj' (by omega)).mono (e6 (j' + 1) (by omega)) e8)
      refine ⟨μ', a', W', v', u', e1.trans g1, e2.tr g2, g3, g4, e5.tr g5, fun m hm => Nat.le_trans (hmon m) (g6 m hm), g7, fun j' hj' => by rw [← y17]; exact g8 j' hj', fun m hm => g9 m (e8 m hm), fun m hm => ?_, ?_, ?_⟩
      · rcases g10 m hm with q | q
        · rcases e9 m q with r | r
          · exact Or.inl r
          · exact Or.inr ⟨j, r⟩
        · exact Or.inr q
      · rcases g11 with q | ⟨q, r⟩
        · rcases ev with s | s
          · exact Or.inl (q.trans s)
          · exact Or.inr ⟨q.trans s, j, hj, hlt⟩
        · exact Or.inr ⟨q, r⟩
      · rw [g12, e10, y3]
        have hb1 := g4.anti (D + 1) 0 (by omega) (Nat.le_refl _)
        have hb2 := g4.mu0
        have hb4 := hmon (D + 1)
        have hb6 := g6 (D + 1) (Nat.le_refl _)
        have hb5 : u2 (D + 1) = b + 1 → u' (D + 1) = b + 1 := fun q => by
          have := g6 (D + 1) (Nat.le_refl _)
          omega
        by_cases q1 : u' (D + 1) = b + 1
        · by_cases q2 : u2 (D + 1) = b + 1
          · rw [if_neg (fun q => q.2 q2)]
            by_cases q3 : u (D + 1) = b + 1
            · rw [if_neg (fun q => q.2 q3), if_neg (fun q => q.2 q3)]
            · rw [if_pos ⟨q2, q3⟩, if_pos ⟨q1, q3⟩]
          · rw [if_pos ⟨q1, q2⟩, if_pos ⟨q1, fun q => q2 (by omega)⟩]
        · rw [if_neg (fun q => q1 q.1), if_neg (fun q => q1 (hb5 q.1)), if_neg (fun q => q1 q.1)]
    · have hsk := gb_skip (f := f) hX (n := n) (by omega) (fun c' k' q1 q2 => by
        by_cases e : ∃ j, j ≤ D ∧ wn j = n ∧ c' = c ∧ k' = gw_k wd j
        · obtain ⟨j, q3, q4, q5, q6⟩ := e
          rw [q5, q6, ← q4]
          refine hM.bk q3 ?_
          rw [hun j q3 (by omega)]
          by_cases q7 : us (j + 1) < us j
          · exact absurd ⟨j, q3, q4, q7⟩ hj
          · omega
        · exact Or.inl (hM.emp q2 q1 (fun j q3 q4 q5 => e ⟨j, q3, q4, q5.1, q5.2⟩)))
      obtain ⟨μ', a', W', v', u', g1, g2⟩ := ih f (n + 1) a W v μ u (by omega) (by omega) hX hbt hkd hM hle hu0 (fun j q1 q2 => hun j q1 (by omega)) (fun j q1 q2 => by
        by_cases e : wn j = n
        · refine Or.inr ⟨hun j q1 (by omega), Or.inl ?_⟩
          by_cases q7 : us (j + 1) < us j
          · exact absurd ⟨j, q1, e, q7⟩ hj
          · omega
        · exact hR j q1 (by omega))
      exact ⟨μ', a', W', v', u', hsk.trans g1, g2⟩
