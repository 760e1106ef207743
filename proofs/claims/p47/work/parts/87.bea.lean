/-! A BEAT, one packet alone -/
/-- between beats -/
def gb_S (a : me_S) (μ : me_M) : Prop := me_RC a μ ∧ me_Iv a ∧ ∀ n, n < 16 → μ 13 n 4 = 0
/-- no core runs -/
def gb_co (a : me_S) : Prop := ∀ n, a.co n = 45
theorem gb_idle {a : me_S} {W : Nat → Bool} {v v1 : Int32} {μ : me_M} (hX : gb_X a W v μ) (hco : gb_co a) : ∀ (d f n : Nat), n + d = a.w * a.h → d < f → f_Works_runCores_h2 f μ v1 (me_N n) = some (μ, ()) := by
  have hwh := hX.2.1.wh
  intro d
  induction d with
  | zero =>
    intro f n h1 h2
    obtain ⟨f, rfl⟩ : ∃ g, f = g + 1 := ⟨f - 1, by omega⟩
    show f_Works_runCores_b2 _ _ _ _ = _
    unfold f_Works_runCores_b2
    rw [hX.1.nn, if_pos (by rw [me_N_le (by omega) (by omega)]; omega)]
  | succ d ih =>
    intro f n h1 h2
    obtain ⟨f, rfl⟩ : ∃ g, f = g + 1 := ⟨f - 1, by omega⟩
    show f_Works_runCores_b2 _ _ _ _ = _
    unfold f_Works_runCores_b2 f_Core_isActive
    rw [hX.1.nn, if_neg (by rw [me_N_le (by omega) (by omega)]; omega), me_gd_n (by omega) (by omega), me_N_ix (by omega), hX.1.co n (by omega), hco n, if_neg (by decide), if_neg (by decide), me_bd_s, if_pos rfl, me_N_inc, me_lt_s]
    exact ih f (n + 1) (by omega) (by omega)
theorem gb_endb {a : me_S} {W : Nat → Bool} {v : Int32} {μ : me_M} (hX : gb_X a W v μ) : ∃ μ1 μ2, f_Works_passBarrier μ = some (μ1, ()) ∧ f_Mover_endBeat μ1 = some (μ2, ()) ∧ gb_S (gh_en a W) μ2 ∧ μ2 30 0 7 = v ∧ gb_F μ μ2 := by
  obtain ⟨hC, hI, h4, h5, h7, h9⟩ := hX
  have hwh := hI.wh
  obtain ⟨μ1, k1, k2, k3⟩ := y_bar hC hwh.1
  have ew : (gh_bar a).w = a.w ∧ (gh_bar a).h = a.h := by
    rcases gh_bar_c (a := a) with ⟨-, e⟩ | ⟨-, e⟩
    · rw [e]; exact ⟨rfl, rfl⟩
    · rw [e]; exact ⟨rfl, rfl⟩
  obtain ⟨μ2, q1, q2, q3, q4, q5⟩ := y_end (a := gh_bar a) (W := W) (B := a.bt + 1) (by rw [ew.1, ew.2]; exact hwh.1) (a.w * a.h) me_FU 0 μ1 (by rw [ew.1, ew.2, Nat.zero_add]) (by unfold me_FU; omega) (k2.eq gh_w1_0) (by rw [k3 30 (by decide)]; exact h4) (fun n _ hn => by rw [k3 13 (by decide)]; exact h7 n hn) (fun n hn => absurd hn (Nat.not_lt_zero n)) (by rw [ew.1, ew.2]; exact h9)
  rw [ew.1, ew.2] at q2
  exact ⟨μ1, μ2, k1, q1, ⟨q2, gh_en_iv hI W, q3⟩, by rw [q4, k3 30 (by decide)]; exact h5, fun k hk => by rw [q5 k (by omega) (by omega), k3 k (by omega)]⟩
/-- the end of a beat: the ghost's fields, where no core waits at the barrier -/
theorem gb_enF {a : me_S} {W : Nat → Bool} (hco : gb_co a) : gb_co (gh_en a W) ∧ ((gh_en a W).w = a.w ∧ (gh_en a W).h = a.h ∧ (gh_en a W).rp = a.rp ∧ (gh_en a W).wy = a.wy ∧ (gh_en a W).fl = a.fl ∧ (gh_en a W).bt = a.bt + 1 ∧ (gh_en a W).np = a.np ∧ (gh_en a W).kd = a.kd ∧ (gh_en a W).sr = a.sr ∧ (gh_en a W).gl = a.gl ∧ (gh_en a W).bo = a.bo ∧ (gh_en a W).pt = a.pt ∧ (gh_en a W).tk = a.tk ∧ (gh_en a W).st = a.st ∧ (gh_en a W).ro = a.ro ∧ (gh_en a W).rh = a.rh ∧ (gh_en a W).rg = a.rg ∧ (gh_en a W).q = a.q ∧ (gh_en a W).hd = a.hd) ∧ (∀ n, (gh_en a W).aw n = (a.aw n || (decide (n < a.w * a.h) && W n))) ∧ ((gh_en a W).ow = a.ow ∧ (gh_en a W).wd = a.wd ∧ (gh_en a W).ma = a.ma ∧ (gh_en a W).pl = a.pl ∧ (gh_en a W).ad = a.ad ∧ (gh_en a W).an = a.an ∧ (gh_en a W).mm = a.mm ∧ (gh_en a W).dn = a.dn) := by
  unfold gh_en
  rcases gh_bar_c (a := a) with ⟨-, e⟩ | ⟨-, e⟩
  · rw [e]
    exact ⟨hco, ⟨rfl, rfl, rfl, rfl, rfl, rfl, rfl, rfl, rfl, rfl, rfl, rfl, rfl, rfl, rfl, rfl, rfl, rfl, rfl⟩, fun n => rfl, ⟨rfl, rfl, rfl, rfl, rfl, rfl, rfl, rfl⟩⟩
  · rw [e]
    refine ⟨fun n => ?_, ⟨rfl, rfl, rfl, rfl, rfl, rfl, rfl, rfl, rfl, rfl, rfl, rfl, rfl, rfl, rfl, rfl, rfl, rfl, rfl⟩, fun n => rfl, ⟨rfl, rfl, rfl, rfl, rfl, rfl, rfl, rfl⟩⟩
    show (if n < a.w * a.h ∧ a.co n = 98 then 114 else a.co n) = 45
    rw [if_neg (fun q => absurd ((hco n).symm.trans q.2) (by decide))]
    exact hco n
/-- what stays over a beat, but for the packet p -/
def gw_L (p : Nat) (a a' : me_S) : Prop :=
  (a'.w = a.w ∧ a'.h = a.h ∧ a'.np = a.np ∧ a'.ow = a.ow ∧ a'.kd = a.kd ∧ a'.sr = a.sr ∧ a'.gl = a.gl ∧ a'.wd = a.wd ∧ a'.bo = a.bo ∧ a'.ma = a.ma ∧ a'.pl = a.pl ∧ a'.ad = a.ad ∧ a'.an = a.an ∧ a'.mm = a.mm) ∧
  (∀ i, ¬ i = p → a'.st i = a.st i ∧ a'.pt i = a.pt i ∧ a'.dn i = a.dn i) ∧
  (gb_co a') ∧
  (∀ r, a'.rg r ≤ a'.bt)
theorem gw_L.l1 {p : Nat} {a a' : me_S} (hyp : gw_L p a a') : a'.w = a.w ∧ a'.h = a.h ∧ a'.np = a.np ∧ a'.ow = a.ow ∧ a'.kd = a.kd ∧ a'.sr = a.sr ∧ a'.gl = a.gl ∧ a'.wd = a.wd ∧ a'.bo = a.bo ∧ a'.ma = a.ma ∧ a'.pl = a.pl ∧ a'.ad = a.ad ∧ a'.an = a.an ∧ a'.mm = a.mm := hyp.1
theorem gw_L.l2 {p : Nat} {a a' : me_S} (hyp : gw_L p a a') : ∀ i, ¬ i = p → a'.st i = a.st i ∧ a'.pt i = a.pt i ∧ a'.dn i = a.dn i := hyp.2.1
theorem gw_L.l3 {p : Nat} {a a' : me_S} (hyp : gw_L p a a') : gb_co a' := hyp.2.2.1
theorem gw_L.l4 {p : Nat} {a a' : me_S} (hyp : gw_L p a a') : ∀ r, a'.rg r ≤ a'.bt := hyp.2.2.2
theorem gw_L.mk {p : Nat} {a a' : me_S} (l1 : a'.w = a.w ∧ a'.h = a.h ∧ a'.np = a.np ∧ a'.ow = a.ow ∧ a'.kd = a.kd ∧ a'.sr = a.sr ∧ a'.gl = a.gl ∧ a'.wd = a.wd ∧ a'.bo = a.bo ∧ a'.ma = a.ma ∧ a'.pl = a.pl ∧ a'.ad = a.ad ∧ a'.an = a.an ∧ a'.mm = a.mm) (l2 : ∀ i, ¬ i = p → a'.st i = a.st i ∧ a'.pt i = a.pt i ∧ a'.dn i = a.dn i) (l3 : gb_co a') (l4 : ∀ r, a'.rg r ≤ a'.bt) : gw_L p a a' := ⟨l1, l2, l3, l4⟩
/-- what a beat does to the numbers u; W: the routers that are woken -/
def gw_T (s b D : Nat) (u u' : Nat → Nat) (aw W : Nat → Bool) (wn : Nat → Nat) : Prop :=
  (∀ j, j ≤ D → gw_R D u u' aw W wn j) ∧
  (u 0 ≤ b → (u' 0 = u 0 + 1 ∧ aw s = true) ∨ (u' 0 = u 0 ∧ aw s = false ∧ W s = true) ∨ (u' 0 = u 0 ∧ aw s = true ∧ u' 1 + 2 ≤ u 0)) ∧
  (¬ u 0 ≤ b → u' 0 = u 0) ∧
  (∀ m, W m = true → (∃ j, j < D ∧ m = wn (j + 1) ∧ u (j + 1) = 0 ∧ 1 ≤ u j) ∨ (m = s ∧ u 0 ≤ b ∧ aw s = false))
theorem gw_T.tR {s b D : Nat} {u u' : Nat → Nat} {aw W : Nat → Bool} {wn : Nat → Nat} (hyp : gw_T s b D u u' aw W wn) : ∀ j, j ≤ D → gw_R D u u' aw W wn j := hyp.1
theorem gw_T.tP {s b D : Nat} {u u' : Nat → Nat} {aw W : Nat → Bool} {wn : Nat → Nat} (hyp : gw_T s b D u u' aw W wn) : u 0 ≤ b → (u' 0 = u 0 + 1 ∧ aw s = true) ∨ (u' 0 = u 0 ∧ aw s = false ∧ W s = true) ∨ (u' 0 = u 0 ∧ aw s = true ∧ u' 1 + 2 ≤ u 0) := hyp.2.1
theorem gw_T.tP2 {s b D : Nat} {u u' : Nat → Nat} {aw W : Nat → Bool} {wn : Nat → Nat} (hyp : gw_T s b D u u' aw W wn) : ¬ u 0 ≤ b → u' 0 = u 0 := hyp.2.2.1
theorem gw_T.tW {s b D : Nat} {u u' : Nat → Nat} {aw W : Nat → Bool} {wn : Nat → Nat} (hyp : gw_T s b D u u' aw W wn) : ∀ m, W m = true → (∃ j, j < D ∧ m = wn (j + 1) ∧ u (j + 1) = 0 ∧ 1 ≤ u j) ∨ (m = s ∧ u 0 ≤ b ∧ aw s = false) := hyp.2.2.2
theorem gw_T.mk {s b D : Nat} {u u' : Nat → Nat} {aw W : Nat → Bool} {wn : Nat → Nat} (tR : ∀ j, j ≤ D → gw_R D u u' aw W wn j) (tP : u 0 ≤ b → (u' 0 = u 0 + 1 ∧ aw s = true) ∨ (u' 0 = u 0 ∧ aw s = false ∧ W s = true) ∨ (u' 0 = u 0 ∧ aw s = true ∧ u' 1 + 2 ≤ u 0)) (tP2 : ¬ u 0 ≤ b → u' 0 = u 0) (tW : ∀ m, W m = true → (∃ j, j < D ∧ m = wn (j + 1) ∧ u (j + 1) = 0 ∧ 1 ≤ u j) ∨ (m = s ∧ u 0 ≤ b ∧ aw s = false)) : gw_T s b D u u' aw W wn := ⟨tR, tP, tP2, tW⟩
theorem gb_beat {a : me_S} {μ : me_M} {u : Nat → Nat} {x : Bool} {p c s g b D : Nat} {wn wd : Nat → Nat} (hS : gb_S a μ) (hco : gb_co a) (hbt : a.bt < 1000000) (hkd : ¬ a.kd p = 113 ∨ u (D + 1) < b) (hM : gw_M a u u x p c s g b D wn wd) (hO : gw_O p a) {K10 : me_M → Int32 → Int32 → Option (me_M × (Except Nat Int32))} {m i : Nat} (hi : i < m) (hm : m ≤ 100) : ∃ μ' a' W v u', f_Y_beats_b10 K10 μ (me_N m) (me_N i) = K10 μ' (me_N m) (me_N (i + 1)) ∧ gb_F μ μ' ∧ gb_S a' μ' ∧ gw_M a' u' u' x p c s g b D wn wd ∧ gw_L p a a' ∧ gw_O p a' ∧ a'.bt = a.bt + 1 ∧ (∀ n, a'.aw n = (a.aw n || (decide (n < a.w * a.h) && W n))) ∧ gw_T s b D u u' a.aw W wn ∧ a'.dn p = (if u' (D + 1) = b + 1 ∧ ¬ u (D + 1) = b + 1 then some (a.bt + 1) else a.dn p) ∧ μ' 30 0 7 = v ∧ (v = 0 ∨ v = 1) ∧ ((∀ j, j ≤ D → u j ≤ u (j + 1)) → ¬ u 0 ≤ b → v = 0) := by
  obtain ⟨hC, hI, hz⟩ := hS
  have hwh := hI.wh
  have c1 : me_RC a (me_up (me_up μ 30 0 6 (me_N (a.bt + 1))) 30 0 7 0) := (hC.w_nw _).w_mv 0
  have hX : gb_X a (fun _ => false) 0 (me_up (me_up μ 30 0 6 (me_N (a.bt + 1))) 30 0 7 0) := by
    refine ⟨c1, hI, by rw [me_up_jn (by decide), me_up_at], me_up_at, fun n hn => ?_, fun n _ => rfl⟩
    rw [me_up_kn (by decide), me_up_kn (by decide)]
    exact hz n hn
  have p1 : f_Works_runCores (me_up (me_up μ 30 0 6 (me_N (a.bt + 1))) 30 0 7 0) (me_N a.bt) = some (me_up (me_up μ 30 0 6 (me_N (a.bt + 1))) 30 0 7 0, ()) := gb_idle hX hco (a.w * a.h) me_FU 0 (by omega) (by unfold me_FU; omega)
  obtain ⟨μ3, a3, W3, v3, u3, q1, q2, q3, q4, q5, q6, q7, q8, q9, q10, q11, q12⟩ := gw_moves (us := u) (a.w * a.h) me_FU 0 a (fun _ => false) 0 _ u (by omega) (by unfold me_FU; omega) hX hbt hkd hM (fun _ _ => Nat.le_refl _) rfl (fun _ _ _ => rfl) (fun j _ h => absurd h (Nat.not_lt_zero _))
  have y := q5.k1
  obtain ⟨μ4, a4, W4, v4, u4, r1, r2, r3, r4, r5, r6, rv, r7, r8⟩ := gw_puts (us := u) (a.w * a.h) me_FU 0 a3 W3 v3 μ3 u3 (by rw [y.1, y.2.1]; omega) (by unfold me_FU; omega) q3 q4 (hO.k q5) (by rw [q7]; exact Nat.le_refl _)
  obtain ⟨μ5, μ6, s1, s2, s3, s4, s5⟩ := gb_endb r3
  have kk := q5.tr r5
  obtain ⟨z1, z2, z3, z4, z5, z6, z7, z8, z9, z10, z11, z12, z13, z14, z15, z16, z17⟩ := kk.k1
  have hco4 : gb_co a4 := fun n => by rw [z16]; exact hco n
  obtain ⟨t1, t2, t3, t4⟩ := gb_enF (W := W4) hco4
  obtain ⟨w1, w2, w3, w4, w5, w6, w7, w8, w9, w10, w11, w12, w13, w14, w15, w16, w17, w18, w19⟩ := t2
  obtain ⟨x1, x2, x3, x4, x5, x6, x7, x8⟩ := t4
  have ya : a3.aw = a.aw := y.2.2.2.2.2.2.2.2.2.2.2.2.2.2.2.2
  have hs := hM.mW.wl 0 (Nat.zero_le _)
  rw [hM.mW.w0] at hs
  -- what the puts did
  have hput : (u 0 ≤ b → gw_P s b u3 u4 a.aw W3 W4) ∧ (¬ u 0 ≤ b → u4 = u3 ∧ W4 = W3 ∧ v4 = v3) := by
    refine ⟨fun h => ?_, fun h => r8 (fun q => h (by rw [← q7]; exact q.2))⟩
    have := r7 ⟨Nat.zero_le _, by rw [q7]; exact h⟩
    rw [ya] at this
    exact this
  have hu4 : ∀ j, u4 (j + 1) = u3 (j + 1) := fun j => by
    by_cases h : u 0 ≤ b
    · rcases hput.1 h with ⟨e, -⟩ | ⟨e, -⟩ | ⟨e, -⟩
      · rw [e, me_fu_ne (by omega)]
      · rw [e]
      · rw [e]
    · rw [(hput.2 h).1]
  have hW4 : ∀ m, W3 m = true → W4 m = true := fun m hm => by
    by_cases h : u 0 ≤ b
    · rcases hput.1 h with ⟨-, -, e⟩ | ⟨-, -, e⟩ | ⟨-, -, -, e⟩
      · rw [e]; exact hm
      · rw [e, me_fu_ap]
        split
        · rfl
        · exact hm
      · rw [e]; exact hm
    · rw [(hput.2 h).2.1]
      exact hm
  have hv : (v4 = 0 ∨ v4 = 1) ∧ ((∀ j, j ≤ D → u j ≤ u (j + 1)) → ¬ u 0 ≤ b → v4 = 0) := by
    refine ⟨?_, fun h1 h2 => ?_⟩
    · rcases rv with q | q
      · rcases q11 with r | ⟨r, -⟩
        · exact Or.inl (q.trans r)
        · exact Or.inr (q.trans r)
      · exact Or.inr q
    · rw [(hput.2 h2).2.2]
      rcases q11 with e | ⟨-, j, e1, e2⟩
      · exact e
      · have := h1 j e1
        omega
  refine ⟨μ6, gh_en a4 W4, W4, v4, u4, ?_, ?_, s3, r4.fin r3.2.1.2.2.2.2.2.2.2.1 ⟨w1, w2, w3, w4, w5, w6, w7, w8, w9, w10, w11, w12, w13, w14, w15, w16, w17, w18, w19⟩ (fun n hn => by rw [t3, hn]; rfl), gw_L.mk ⟨w1.trans z1, w2.trans z2, w7.trans z4, x1.trans z5, w8.trans z6, w9.trans z7, w10.trans z8, x2.trans z9, w11.trans z10, x3.trans z11, x4.trans z12, x5.trans z13, x6.trans z14, x7.trans z15⟩ (fun i hi => ?_) t1 (fun r => by rw [w17, w6]; exact r3.2.1.2.2.2.2.2.2.2.1 r), ?_, by rw [w6, z3], fun n => by rw [t3, z17, z1, z2], gw_T.mk (fun j hj => (q8 j hj).mono (hu4 j) hW4) (fun h => ?_) (fun h => by rw [(hput.2 h).1, q7]) (fun m hm => ?_), ?_, s4, hv.1, hv.2⟩
  · unfold f_Y_beats_b10 f_Mover_beginBeat
    have q1 : f_Mover_moveAll (me_up (me_up μ 30 0 6 (me_N (a.bt + 1))) 30 0 7 0) = some (μ3, ()) := q1
    have r1 : f_Mover_putAll μ3 = some (μ4, ()) := r1
    rw [if_neg (by rw [me_N_le (by omega) (by omega)]; omega), hC.bt, me_N_1, me_N_add, me_lt_s, me_lt_s, me_b2_s, me_up_jn (show ¬ 5 = 7 by decide), me_up_jn (show ¬ 5 = 6 by decide), hC.bt, p1, me_b2_s, q1, me_b2_s, r1, me_b2_s, s1, me_b2_s, s2, me_b2_s, me_N_inc, me_lt_s]
  · intro k hk
    rw [s5 k hk, r2 k hk, q2 k hk]
    funext i j
    rw [me_up_kn (by omega), me_up_kn (by omega)]
  · obtain ⟨k1, k2, k3⟩ := kk.k2 i hi
    rw [w14, w12, x8]
    exact ⟨k1, k2, k3⟩
  · intro i hi hip
    rw [w12, w11, (kk.k2 i hip).2.1, z10]
    exact hO i (by rw [← z4, ← w7]; exact hi) hip
  · rcases hput.1 h with ⟨e1, e2, e3⟩ | ⟨e1, e2, e3⟩ | ⟨e1, e2, e3, e4⟩
    · exact Or.inl ⟨by rw [e1, me_fu_at, q7], e2⟩
    · exact Or.inr (Or.inl ⟨by rw [e1, q7], e2, by rw [e3, me_fu_at]⟩)
    · exact Or.inr (Or.inr ⟨by rw [e1, q7], e2, by rw [hu4 0, ← q7]; exact e3⟩)
  · by_cases h : u 0 ≤ b
    · rcases hput.1 h with ⟨-, -, e⟩ | ⟨-, e2, e⟩ | ⟨-, -, -, e⟩
      · rw [e] at hm
        rcases q10 m hm with q | q
        · cases q
        · exact Or.inl q
      · rw [e, me_fu_ap] at hm
        by_cases em : m = s
        · exact Or.inr ⟨em, h, e2⟩
        · rw [if_neg em] at hm
          rcases q10 m hm with q | q
          · cases q
          · exact Or.inl q
      · rw [e] at hm
        rcases q10 m hm with q | q
        · cases q
        · exact Or.inl q
    · rw [(hput.2 h).2.1] at hm
      rcases q10 m hm with q | q
      · cases q
      · exact Or.inl q
  · rw [x8, r6, q12, hu4 D]
