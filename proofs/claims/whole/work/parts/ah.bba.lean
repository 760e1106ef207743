/-! a first piece ahead, or its packet lost, on both sides; a row looked at -/
theorem me_nb_ne {w h n d n' : Nat} (hw : 1 ≤ w) (e : me_nb w h n d = some n') : ¬ n' = n := by
  have h1 : n % w ≤ n := Nat.mod_le _ _
  have h2 : n / w ≤ n := Nat.div_le_self _ _
  unfold me_nb at e
  split at e
  · split at e
    · have := Option.some.inj e
      omega
    · cases e
  · split at e
    · have := Option.some.inj e
      omega
    · cases e
  · split at e
    · have := Option.some.inj e
      omega
    · cases e
  · split at e
    · have := Option.some.inj e
      omega
    · cases e
  · cases e
theorem bb_wake {a : me_S} {W : Nat → Bool} {v : Int32} {μ ν : me_M} (hX : bb_X a a W v v μ ν) {m : Nat} (hm : m < a.w * a.h) : bb_F a a μ (me_up μ 13 m 4 1) ν (me_up ν 86 0 m 1) ∧ bb_X a a (me_fu W m true) v v (me_up μ 13 m 4 1) (me_up ν 86 0 m 1) := by
  obtain ⟨hC, hM, hI, h4, h5, h6, h7, h8, h9⟩ := hX
  refine ⟨⟨rfl, rfl, rfl, rfl, fun k hk => ?_, fun k hk => ?_, me_up_kn (by decide)⟩, hC.w_wk m 1, hM.w_wk m 1, hI, ?_, ?_, ?_, fun n hn => ?_, fun n hn => ?_, fun n hn => ?_⟩
  · funext i j
    rw [me_up_kn (by omega)]
  · funext i j
    rw [me_up_kn (by omega)]
  · rw [me_up_kn (by decide)]
    exact h4
  · rw [me_up_kn (by decide)]
    exact h5
  · rw [me_up_kn (by decide)]
    exact h6
  · rw [me_up_ap, me_fu_ap]
    by_cases e : n = m
    · rw [if_pos ⟨rfl, e, rfl⟩, if_pos e]
      rfl
    · rw [if_neg (fun q => e q.2.1), if_neg e]
      exact h7 n hn
  · rw [me_up_ap, me_fu_ap]
    by_cases e : n = m
    · rw [if_pos ⟨rfl, rfl, e⟩, if_pos e]
      rfl
    · rw [if_neg (fun q => e q.2.2), if_neg e]
      exact h8 n hn
  · rw [me_fu_ap, if_neg (fun (q : n = m) => hn (q ▸ hm))]
    exact h9 n hn
theorem bb_ahead {a : me_S} {W : Nat → Bool} {v : Int32} {μ ν : me_M} (hX : bb_X a a W v v μ ν) {n c k o p i ci n' : Nat} {t : List (Nat × Nat × Nat)} (hn : n < a.w * a.h) (hc : c < 2) (hk : k < 5) (ho : o < 4) (hq : a.q (5 * (2 * n + c) + k) = (p, i, ci) :: t) (hs : gh_sd a (5 * (2 * n + c) + k) p i = o) (hnb : me_nb a.w a.h n o = some n') : bb_G a W v μ ν (5 * (2 * n + c) + o) k (f_Mover_gives_b134 μ (me_N n) (me_N o) (5 * (2 * n + c) + k) p) (f_M_gives_b203 ν (me_N n) (me_N c) (me_N k) (me_N o) (me_N (8 * p + i)) (me_N p) (if i = 0 then 1 else 0) (me_bi (decide (i = a.bo p))) (me_N n') (me_N (me_op o))) := by
  obtain ⟨hC, hM, hI, h4, h5, h6, h7, h8, h9⟩ := id hX
  obtain ⟨f1, f2, f3, f4, f5, f6, f7, f8, f9, f10, f11, f12, f13⟩ := gh_fct hI hq
  have hwh := hI.wh
  have hw := hI.1.iw
  have hrp := hI.1.irp
  have hn' := (me_Op_lt hI hn ho hnb).1
  have hop := me_op_lt o
  have e10 : (5 * (2 * n + c) + k) / 10 = n := by omega
  have ech : me_ch (a.kd p) = c := by omega
  have hne := me_nb_ne (by omega) hnb
  have hxx : ¬ 5 * (2 * n' + c) + me_op o = 5 * (2 * n + c) + k := by omega
  have exr : 5 * (2 * n' + c) + me_op o = me_rw n' (me_ch (a.kd p)) (me_op o) := by
    unfold me_rw
    omega
  have exc : 10 * n' + (c * 5 + me_op o) = 5 * (2 * n' + c) + me_op o := by omega
  have z2 : μ 19 (5 * (2 * n + c) + k) 0 = me_N i := hC.q2 _ 0 (p, i, ci) f13 (by rw [hq]; rfl)
  have zah : μ 2 0 (n * 4 + o) = me_N n' := by
    have := hC.ah n o hn ho
    rw [hnb] at this
    exact this
  -- a body: its head went here
  have body : ¬ i = 0 → a.rh (5 * (2 * n + c) + k) = some o ∧ a.ro (5 * (2 * n' + c) + me_op o) = some p ∧ a.aw n' = true := fun hi => by
    have e := (gh_sdB hI hq hi).1
    rw [hs] at e
    rcases hI.2.2.2.2.1.way (show 0 < i by omega) hq with ⟨v1, v2⟩ | ⟨d1, n1, v1, v2, v3, v4, v5⟩
    · rw [e] at v1
      have := Option.some.inj v1
      omega
    · rw [e] at v2
      have ed : o = d1 := Option.some.inj v2
      rw [← ed, e10, hnb] at v3
      have en : n' = n1 := Option.some.inj v3
      rw [← ed, ← en, ← exr] at v4
      refine ⟨e, v4, ?_⟩
      cases haw : a.aw n' with
      | true => rfl
      | false =>
        have := (hI.2.2.2.2.1.isl (5 * (2 * n' + c) + me_op o) (by rw [show (5 * (2 * n' + c) + me_op o) / 10 = n' by omega]; exact haw)).2
        rw [this] at v4
        cases v4
  have eA : f_Mover_gives_b134 μ (me_N n) (me_N o) (5 * (2 * n + c) + k) p = me_b2 (f_Mover_givesAhead μ (me_N n') (me_N o) (5 * (2 * n + c) + k) p) (fun μ3 r2 => me_gd (me_nr .boolean r2) (some (μ3, r2))) := by
    unfold f_Mover_gives_b134
    rw [me_N_4, me_N_mul, me_N_add, me_gd_n (by omega) (by omega), me_N_ix (by omega), zah]
  have eG : f_Mover_givesAhead μ (me_N n') (me_N o) (5 * (2 * n + c) + k) p = if a.aw n' = true then (if (a.q (5 * (2 * n' + c) + me_op o)).length < a.rp then (if i = 0 ∧ ¬ a.ro (5 * (2 * n' + c) + me_op o) = none then some (μ, 0) else f_Mover_givesAhead_b110 μ (me_N n') (me_N o) (5 * (2 * n + c) + k) p (me_N i) (5 * (2 * n' + c) + me_op o)) else some (μ, 0)) else some (me_up μ 13 n' 4 1, 0) := by
    unfold f_Mover_givesAhead f_Mover_givesAhead_b52
    rw [y_hasNode_o hC hI hn', me_bd_s, if_neg (by decide), me_lt_s, z2, me_gd_n (by omega) (by omega), me_N_ix (by omega), hC.aw n' (by omega)]
    by_cases haw : a.aw n' = true
    · rw [if_pos haw, haw, if_neg (by decide), y_chan hC, me_bd_s, ech]
      unfold f_Net_opposite
      rw [me_bd_s, me_op_xor ho, me_N_5, me_N_mul, me_N_add, me_gd_n (by omega) (by omega), me_N_ix (by omega), exc, y_place hC hI (by omega), me_bd_s, hC.ro _ (by omega)]
      by_cases hl : (a.q (5 * (2 * n' + c) + me_op o)).length < a.rp
      · rw [decide_eq_true hl, if_neg (by decide), if_pos hl]
        by_cases hi : i = 0
        · rw [if_pos (show me_N i = 0 by rw [hi]; rfl)]
          by_cases hro : a.ro (5 * (2 * n' + c) + me_op o) = none
          · rw [if_neg (show ¬ (i = 0 ∧ ¬ a.ro (5 * (2 * n' + c) + me_op o) = none) from fun q => q.2 hro), hro]
            exact if_pos rfl
          · rw [if_pos (show i = 0 ∧ ¬ a.ro (5 * (2 * n' + c) + me_op o) = none from ⟨hi, hro⟩), if_neg (fun q => hro ((me_ro_m1 hI _).mp q))]
        · rw [if_neg (show ¬ me_N i = 0 by rw [me_N_0, me_N_inj (by omega) (by omega)]; exact hi), if_neg (show ¬ (i = 0 ∧ ¬ a.ro (5 * (2 * n' + c) + me_op o) = none) from fun q => hi q.1)]
      · rw [decide_eq_false hl, if_pos (by rfl), if_neg hl]
    · rw [if_neg haw, show a.aw n' = false by cases hb : a.aw n' with | true => exact absurd hb haw | false => rfl, if_pos (by rfl)]
      have hi : i = 0 := by
        by_cases hi : i = 0
        · exact hi
        · exact absurd (body hi).2.2 haw
      rw [if_pos (show me_N i = 0 by rw [hi]; rfl)]
      split
      · rw [me_lt_s]
      · rw [me_lt_s]
  have eB : f_M_gives_b203 ν (me_N n) (me_N c) (me_N k) (me_N o) (me_N (8 * p + i)) (me_N p) (if i = 0 then 1 else 0) (me_bi (decide (i = a.bo p))) (me_N n') (me_N (me_op o)) = if a.aw n' = true then (if (a.q (5 * (2 * n' + c) + me_op o)).length < a.rp then (if i = 0 ∧ ¬ a.ro (5 * (2 * n' + c) + me_op o) = none then some (ν, 0) else f_M_gives_b265 ν (me_N n) (me_N c) (me_N k) (me_N o) (me_N (8 * p + i)) (me_N p) (me_bi (decide (i = a.bo p))) (me_N n') (me_N (me_op o))) else some (ν, 0)) else some (me_up ν 86 0 n' 1, 0) := by
    have h4' := me_ql a hI (5 * (2 * n' + c) + me_op o)
    unfold f_M_gives_b203
    simp only [me_gd_n (show n' < 2147483648 by omega) (show n' < 16 by omega), me_gd_n (show c < 2147483648 by omega) hc, me_gd_n (show me_op o < 2147483648 by omega) (show me_op o < 5 by omega), me_N_ix (show n' < 2147483648 by omega), me_N_ix (show c < 2147483648 by omega), me_N_ix (show me_op o < 2147483648 by omega), hM.aw n' (by omega), hM.rp, hM.qn (2 * n' + c) (me_op o) (by omega) (by omega), hM.ro (2 * n' + c) (me_op o) (by omega) (by omega), me_lt_s, show vp_nar .boolean 1 = (1 : Int32) from rfl]
    by_cases haw : a.aw n' = true
    · rw [if_pos haw, haw, if_pos (by rfl)]
      by_cases hl : (a.q (5 * (2 * n' + c) + me_op o)).length < a.rp
      · rw [if_neg (by rw [me_N_le (by omega) (by omega)]; omega), if_pos hl]
        by_cases hi : i = 0
        · rw [if_pos hi, if_neg (by decide)]
          by_cases hro : a.ro (5 * (2 * n' + c) + me_op o) = none
          · rw [if_neg (show ¬ (i = 0 ∧ ¬ a.ro (5 * (2 * n' + c) + me_op o) = none) from fun q => q.2 hro), hro]
            exact if_pos rfl
          · rw [if_pos (show i = 0 ∧ ¬ a.ro (5 * (2 * n' + c) + me_op o) = none from ⟨hi, hro⟩), if_neg (fun q => hro ((me_ro_m1 hI _).mp q))]
        · rw [if_neg hi, if_pos (by rfl), if_neg (show ¬ (i = 0 ∧ ¬ a.ro (5 * (2 * n' + c) + me_op o) = none) from fun q => hi q.1)]
      · rw [if_pos (by rw [me_N_le (by omega) (by omega)]; omega), if_neg hl]
    · rw [if_neg haw, show a.aw n' = false by cases hb : a.aw n' with | true => exact absurd hb haw | false => rfl, if_neg (by decide)]
  rw [eA, eG, eB]
  by_cases haw : a.aw n' = true
  · rw [if_pos haw, if_pos haw]
    by_cases hl : (a.q (5 * (2 * n' + c) + me_op o)).length < a.rp
    · rw [if_pos hl, if_pos hl]
      by_cases hh : i = 0 ∧ ¬ a.ro (5 * (2 * n' + c) + me_op o) = none
      · rw [if_pos hh, if_pos hh]
        exact bb_no hX (by rw [me_b2_s, me_gd_t me_nr_z]) rfl
      · rw [if_neg hh, if_neg hh]
        obtain ⟨μ', d1, d2, d3⟩ := y_ahead hC (r' := 5 * (2 * n' + c) + me_op o) (p := p) (i := i) (d := o) (n' := n') f13 (by omega) hxx hq f12 (by omega) f2 f3 (by omega) (by omega) h4
        obtain ⟨ν', g1, g2, g3, g4, g5⟩ := m_gv265 hM (p := p) (i := i) (o := o) (n' := n') (y := me_op o) (by omega) hc hk ho (by omega) (by omega) hxx hq f12 (by omega)
        have hIa : me_Iv (gh_ay0 (gh_ha a p i (5 * (2 * n + c) + k) (5 * (2 * n' + c) + me_op o) o n') p i (5 * (2 * n + c) + k) (5 * (2 * n' + c) + me_op o) t) := by
          refine gh_iv_ah hI hq ho (by rw [e10]; exact hnb) exr haw (by omega) ?_
          by_cases hi : i = 0
          · left
            refine ⟨hi, ?_, ?_⟩
            · unfold gh_sd at hs
              rw [if_pos hi] at hs
              exact hs
            · by_cases g : a.ro (5 * (2 * n' + c) + me_op o) = none
              · exact g
              · exact absurd ⟨hi, g⟩ hh
          · right
            exact ⟨by omega, (body hi).1⟩
        have eq1 : me_fu (me_fu a.q (5 * (2 * n' + c) + me_op o) (a.q (5 * (2 * n' + c) + me_op o) ++ [(p, i, a.bt + 1)])) (5 * (2 * n + c) + k) t = me_fu (me_fu a.q (5 * (2 * n + c) + k) t) (5 * (2 * n' + c) + me_op o) (a.q (5 * (2 * n' + c) + me_op o) ++ [(p, i, a.bt + 1)]) := me_fu_cm hxx
        by_cases hi : i = 0
        · have eH : gh_ha a p i (5 * (2 * n + c) + k) (5 * (2 * n' + c) + me_op o) o n' = me_S.s_hd (me_S.s_ro (me_S.s_rh a (me_fu a.rh (5 * (2 * n + c) + k) (some o))) (me_fu a.ro (5 * (2 * n' + c) + me_op o) (some p))) (me_fu a.hd p (some n')) := if_pos hi
          rw [eH] at d2 hIa
          exact bb_yes hX (by rw [d1, me_b2_s, me_gd_t me_nr_o]) g1 d2 (g2.eq ⟨rfl, rfl, rfl, rfl, rfl, rfl, rfl, rfl, rfl, rfl, rfl, rfl, rfl, rfl, rfl, rfl, rfl, rfl, eq1, rfl, rfl, rfl, rfl, rfl, rfl, rfl, rfl, rfl, rfl, rfl, rfl, rfl, rfl, rfl, rfl, rfl, rfl⟩) hIa rfl rfl rfl rfl (fun k' hk' => d3 k' (by omega)) g3 (g5 42 (by decide)) (fun k' hk' => g4 k' (by omega))
        · have eH : gh_ha a p i (5 * (2 * n + c) + k) (5 * (2 * n' + c) + me_op o) o n' = a := if_neg hi
          rw [eH] at d2 hIa
          obtain ⟨b1, b2, b3⟩ := body hi
          have er1 : me_fu a.rh (5 * (2 * n + c) + k) (some o) = a.rh := me_fu_id b1
          have er2 : (if i = a.bo p then me_fu (me_fu a.ro (5 * (2 * n' + c) + me_op o) (some p)) (5 * (2 * n + c) + k) none else me_fu a.ro (5 * (2 * n' + c) + me_op o) (some p)) = if i = a.bo p then me_fu a.ro (5 * (2 * n + c) + k) none else a.ro := by rw [me_fu_id b2]
          exact bb_yes hX (by rw [d1, me_b2_s, me_gd_t me_nr_o]) g1 d2 (g2.eq ⟨rfl, rfl, rfl, rfl, rfl, rfl, rfl, rfl, rfl, rfl, rfl, rfl, rfl, rfl, rfl, rfl, rfl, rfl, eq1, er2, er1, rfl, rfl, rfl, rfl, rfl, rfl, rfl, rfl, rfl, rfl, rfl, rfl, rfl, rfl, rfl, rfl⟩) hIa rfl rfl rfl rfl (fun k' hk' => d3 k' (by omega)) g3 (g5 42 (by decide)) (fun k' hk' => g4 k' (by omega))
    · rw [if_neg hl, if_neg hl]
      exact bb_no hX (by rw [me_b2_s, me_gd_t me_nr_z]) rfl
  · rw [if_neg haw, if_neg haw]
    obtain ⟨k1, k2⟩ := bb_wake hX hn'
    exact ⟨_, _, a, _, false, by rw [me_b2_s, me_gd_t me_nr_z]; rfl, rfl, k1, by rw [if_neg (by decide), if_neg (by decide)]; exact k2⟩
theorem bb_lose {a : me_S} {W : Nat → Bool} {v : Int32} {μ ν : me_M} (hX : bb_X a a W v v μ ν) {p l k : Nat} (hp : p < a.np) (hs : a.st p = 119) : bb_G a W v μ ν l k (me_b2 (f_Mover_lose μ p) (fun μ7 _ => some (μ7, (0 : Int32)))) (me_b2 (f_M_loses ν (me_N p)) (fun μ11 _ => some (μ11, (0 : Int32)))) := by
  obtain ⟨hC, hM, hI, h4, h5, h6, h7, h8, h9⟩ := id hX
  obtain ⟨hIa, ho⟩ := gh_iv_lz hI hp hs
  obtain ⟨μ', d1, d2, d3⟩ := y_lose hC hI hp ho
  obtain ⟨ν', g1, g2, g3⟩ := m_lose hM hI hp
  obtain ⟨k1, k2⟩ := bb_fin hX d2 g2 hIa rfl rfl rfl rfl (fun k' hk' => d3 k' (by omega)) (v' := v) (by rw [g3 36 (by decide)]; exact h6) (by rw [g3 36 (by decide)]) (fun k' hk' => g3 k' (by omega))
  exact ⟨μ', ν', _, W, false, by rw [d1, me_b2_s]; rfl, by rw [g1, me_b2_s]; rfl, k1, by rw [if_neg (by decide), if_neg (by decide)]; exact k2⟩
theorem bb_gives {a : me_S} {W : Nat → Bool} {v : Int32} {μ ν : me_M} (hX : bb_X a a W v v μ ν) {n c k o : Nat} (hn : n < a.w * a.h) (hc : c < 2) (hk : k < 5) (ho : o < 5) : bb_G a W v μ ν (5 * (2 * n + c) + o) k (f_Mover_gives μ (me_N n) (me_N o) (5 * (2 * n + c) + k)) (f_M_gives ν (me_N n) (me_N c) (me_N k) (me_N o)) := by
  obtain ⟨hC, hM, hI, h4, h5, h6, h7, h8, h9⟩ := id hX
  have hwh := hI.wh
  have hq4 := me_ql a hI (5 * (2 * n + c) + k)
  have e10 : (5 * (2 * n + c) + k) / 10 = n := by omega
  by_cases hb : gh_bk a (5 * (2 * n + c) + k)
  · exact bb_no hX (y_blk hC (by omega) hq4 h4 hb) (m_blk hM (by omega) hc hk hq4 hb)
  · cases hq : a.q (5 * (2 * n + c) + k) with
    | nil => exact absurd (Or.inl hq) hb
    | cons e t =>
      obtain ⟨p, i, ci⟩ := e
      have h1 : ¬ me_N (a.rg (5 * (2 * n + c) + k)) = me_N (a.bt + 1) := fun q => hb (Or.inr ⟨_, _, hq, Or.inl q⟩)
      have h2 : ¬ me_N ci = me_N (a.bt + 1) := fun q => hb (Or.inr ⟨_, _, hq, Or.inr q⟩)
      obtain ⟨f1, f2, f3, f4, f5, f6, f7, f8, f9, f10, f11, f12, f13⟩ := gh_fct hI hq
      have hs5 := gh_sd5 hI hq
      rw [y_un hC hI hq e10 h4 h1 h2, m_un hM hI (by omega) hc hk hq h1 h2]
      unfold f_Mover_gives_b81 f_M_gives_b144
      simp only [me_N_inj (show gh_sd a (5 * (2 * n + c) + k) p i < 2147483648 by omega) (show o < 2147483648 by omega)]
      by_cases hs : gh_sd a (5 * (2 * n + c) + k) p i = o
      · rw [if_pos hs, if_pos hs]
        by_cases ho4 : o = 4
        · rw [if_pos (show me_N o = 4 by rw [ho4]; rfl), if_pos (show me_N o = 4 by rw [ho4]; rfl), ho4]
          exact bb_core hX (by omega) hc hk hq (hs.trans ho4)
        · have hno : ¬ me_N o = 4 := by rw [me_N_4, me_N_inj (by omega) (by omega)]; exact ho4
          have hnb : ∃ n', me_nb a.w a.h n o = some n' := by
            by_cases hi : i = 0
            · unfold gh_sd at hs
              rw [if_pos hi, e10] at hs
              obtain ⟨-, w2, w3⟩ := gh_way hI hn f8
              rcases gh_side_ax ho4 hs with q | q
              · obtain ⟨-, -, n', e, -⟩ := w2 o q
                exact ⟨n', e⟩
              · obtain ⟨-, -, -, n', e, -⟩ := w3 o q
                exact ⟨n', e⟩
            · have e := (gh_sdB hI hq hi).1
              rw [hs] at e
              rcases hI.2.2.2.2.1.way (show 0 < i by omega) hq with ⟨v1, v2⟩ | ⟨d1, n1, v1, v2, v3, v4, v5⟩
              · rw [e] at v1
                exact absurd (Option.some.inj v1) ho4
              · rw [e] at v2
                have ed : o = d1 := Option.some.inj v2
                rw [← ed, e10] at v3
                exact ⟨n1, v3⟩
          obtain ⟨n', hnb⟩ := hnb
          have ha := bb_ahead hX hn hc hk (by omega) hq hs hnb
          rw [if_neg hno, if_neg hno, m_beside hM hI hn (by omega), hnb, me_bd_s, me_gd_n (by omega) (by omega), me_N_ix (by omega), me_lt_s, me_op_opn (show o < 4 by omega), me_gd_n (by omega) (by omega), me_gd_n (by omega) (by omega), me_N_ix (by omega), hM.fl n o (by omega) (by omega), me_N_4, me_N_mul, me_N_add, me_gd_n (by omega) (by omega), me_N_ix (by omega), hC.fl n o (by omega) (by omega)]
          by_cases hi : i = 0
          · rw [if_pos hi] at ha ⊢
            have h10 : ¬ (1 : Int32) = 0 := by decide
            rw [if_neg h10, if_neg h10]
            by_cases hf : a.fl n o = 0
            · rw [if_pos hf, if_pos hf]
              exact ha
            · rw [if_neg hf, if_neg hf]
              exact bb_lose hX f2 f4
          · rw [if_neg hi] at ha ⊢
            have h00 : (0 : Int32) = 0 := rfl
            rw [if_pos h00, if_pos h00]
            exact ha
      · rw [if_neg hs, if_neg hs]
        exact bb_no hX rfl rfl
