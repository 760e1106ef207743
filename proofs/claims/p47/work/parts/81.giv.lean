/-! WITHIN A BEAT: the class alone; a row looked at for an output -/
def gb_X (a : me_S) (W : Nat → Bool) (v : Int32) (μ : me_M) : Prop := me_RC a μ ∧ me_Iv a ∧ μ 30 0 6 = me_N (a.bt + 1) ∧ μ 30 0 7 = v ∧ (∀ n, n < 16 → μ 13 n 4 = me_bi (W n)) ∧ ∀ n, ¬ n < a.w * a.h → W n = false
def gb_F (μ μ' : me_M) : Prop := ∀ k, 36 ≤ k → μ' k = μ k
theorem gb_F.rf {μ : me_M} : gb_F μ μ := fun _ _ => rfl
theorem gb_F.tr {μ μ' μ'' : me_M} (h : gb_F μ μ') (g : gb_F μ' μ'') : gb_F μ μ'' := fun k hk => (g k hk).trans (h k hk)
theorem gb_fin {a A : me_S} {W : Nat → Bool} {v : Int32} {μ μ' : me_M} (hX : gb_X a W v μ) (hC : me_RC A μ') (hI : me_Iv A) (ew : A.w = a.w) (eh : A.h = a.h) (eb : A.bt = a.bt) (f : ∀ k, 13 = k ∨ 30 = k ∨ 36 ≤ k → μ' k = μ k) : gb_X A W v μ' ∧ gb_F μ μ' := by
  obtain ⟨h1, h3, h4, h5, h7, h9⟩ := hX
  refine ⟨⟨hC, hI, ?_, ?_, fun n hn => ?_, fun n hn => ?_⟩, fun k hk => f k (by omega)⟩
  · rw [f 30 (by decide), eb]
    exact h4
  · rw [f 30 (by decide)]
    exact h5
  · rw [f 13 (by decide)]
    exact h7 n hn
  · rw [ew, eh] at hn
    exact h9 n hn
theorem gb_wake {a : me_S} {W : Nat → Bool} {v : Int32} {μ : me_M} (hX : gb_X a W v μ) {m : Nat} (hm : m < a.w * a.h) : gb_X a (me_fu W m true) v (me_up μ 13 m 4 1) ∧ gb_F μ (me_up μ 13 m 4 1) := by
  obtain ⟨hC, hI, h4, h5, h7, h9⟩ := hX
  refine ⟨⟨hC.w_wk m 1, hI, ?_, ?_, fun n hn => ?_, fun n hn => ?_⟩, fun k hk => ?_⟩
  · rw [me_up_kn (by decide)]
    exact h4
  · rw [me_up_kn (by decide)]
    exact h5
  · rw [me_up_ap, me_fu_ap]
    by_cases e : n = m
    · rw [if_pos ⟨rfl, e, rfl⟩, if_pos e]
      rfl
    · rw [if_neg (fun q => e q.2.1), if_neg e]
      exact h7 n hn
  · rw [me_fu_ap, if_neg (fun (q : n = m) => hn (q ▸ hm))]
    exact h9 n hn
  · funext i j
    rw [me_up_kn (by omega)]
/-- the first piece of a row has not been looked at in vain: it came earlier, the row has not given -/
def gb_un (a : me_S) (x ci : Nat) : Prop := ¬ me_N (a.rg x) = me_N (a.bt + 1) ∧ ¬ me_N ci = me_N (a.bt + 1)
theorem gb_other {a : me_S} {W : Nat → Bool} {v : Int32} {μ : me_M} (hX : gb_X a W v μ) {n x o p i ci : Nat} {t : List (Nat × Nat × Nat)} (hx : x / 10 = n) (ho : o < 5) (hq : a.q x = (p, i, ci) :: t) (hu : gb_un a x ci) (hs : ¬ gh_sd a x p i = o) : f_Mover_gives μ (me_N n) (me_N o) x = some (μ, 0) := by
  obtain ⟨hC, hI, h4, h5, h7, h9⟩ := hX
  have hs5 := gh_sd5 hI hq
  rw [y_un hC hI hq hx h4 hu.1 hu.2]
  unfold f_Mover_gives_b81
  rw [if_neg (by rw [me_N_inj (by omega) (by omega)]; exact hs)]
theorem gb_core {a : me_S} {W : Nat → Bool} {v : Int32} {μ : me_M} (hX : gb_X a W v μ) {n c k p i ci : Nat} {t : List (Nat × Nat × Nat)} (hn : n < 16) (hc : c < 2) (hk : k < 5) (hq : a.q (5 * (2 * n + c) + k) = (p, i, ci) :: t) (hu : gb_un a (5 * (2 * n + c) + k) ci) (hs : gh_sd a (5 * (2 * n + c) + k) p i = 4) : ∃ μ', f_Mover_gives μ (me_N n) (me_N 4) (5 * (2 * n + c) + k) = some (μ', 1) ∧ gb_X (gh_cy (gh_hc a p i (5 * (2 * n + c) + k)) p i (5 * (2 * n + c) + k) t) W v μ' ∧ gb_F μ μ' := by
  obtain ⟨hC, hI, h4, h5, h7, h9⟩ := id hX
  obtain ⟨f1, f2, f3, f4, f5, f6, f7, f8, f9, f10, f11, f12, f13⟩ := gh_fct hI hq
  obtain ⟨hg, hv⟩ := gh_core_at hI hq hs
  have hsr := hI.2.1.isr p f2
  have hile := hI.2.1.ile
  have e10 : (5 * (2 * n + c) + k) / 10 = n := by omega
  obtain ⟨μ', d1, d2, d3⟩ := y_core hC (p := p) (i := i) f13 hq f12 f2 (by omega) (by omega) h4 f9 f10 f11
  have hA : f_Mover_gives μ (me_N n) (me_N 4) (5 * (2 * n + c) + k) = some (μ', 1) := by
    rw [y_un hC hI hq e10 h4 hu.1 hu.2]
    unfold f_Mover_gives_b81
    rw [if_pos (by rw [hs]), if_pos (by rfl), d1, me_b2_s]
  have fin : ∀ A : me_S, me_RC A μ' → me_Iv A → A.w = a.w → A.h = a.h → A.bt = a.bt → gb_X A W v μ' ∧ gb_F μ μ' := fun A q1 q2 q3 q4 q5 => gb_fin hX q1 q2 q3 q4 q5 (fun k' hk' => d3 k' (by omega))
  by_cases hi : i = 0
  · have hnt : ¬ i = a.bo p := by omega
    have eH : gh_hc a p i (5 * (2 * n + c) + k) = me_S.s_hd (me_S.s_rh a (me_fu a.rh (5 * (2 * n + c) + k) (some 4))) (me_fu a.hd p none) := if_pos hi
    rw [eH] at d2 ⊢
    have eA : gh_cy (me_S.s_hd (me_S.s_rh a (me_fu a.rh (5 * (2 * n + c) + k) (some 4))) (me_fu a.hd p none)) p i (5 * (2 * n + c) + k) t = gh_g0 (me_S.s_hd (me_S.s_rh a (me_fu a.rh (5 * (2 * n + c) + k) (some 4))) (me_fu a.hd p none)) p i (5 * (2 * n + c) + k) t := if_neg hnt
    rw [eA] at d2 ⊢
    refine ⟨μ', hA, fin _ d2 ?_ rfl rfl rfl⟩
    refine gh_iv_co hI hq hg hv ⟨rfl, rfl, rfl, rfl, rfl⟩ ⟨rfl, rfl, rfl, rfl, rfl, rfl, rfl, rfl, rfl, rfl⟩ ⟨rfl, rfl, rfl, rfl, rfl, rfl, rfl, rfl, rfl, rfl⟩ ⟨rfl, rfl, rfl⟩ rfl (gh_rg hI (Nat.le_refl _)) (fun p' => ?_) (fun p' => ?_) (fun p' => ?_) (fun x => ?_) (fun x => ?_) (fun p' => ?_) ?_
    · exact (if_neg (fun q => hnt q.2)).symm
    · rfl
    · show me_fu a.hd p none p' = _
      rw [me_fu_ap]
      by_cases e : p' = p
      · rw [if_pos e, if_pos ⟨e, hi⟩]
      · rw [if_neg e, if_neg (fun q => e q.1)]
    · show (if i = a.bo p then me_fu a.ro (5 * (2 * n + c) + k) none else a.ro) x = _
      rw [if_neg hnt, if_neg (fun q => hnt q.2)]
    · show me_fu a.rh (5 * (2 * n + c) + k) (some 4) x = _
      rw [me_fu_ap]
      by_cases e : x = 5 * (2 * n + c) + k
      · rw [if_pos e, if_pos ⟨e, hi⟩]
      · rw [if_neg e, if_neg (fun q => e q.1)]
    · exact (if_neg (fun q => hnt q.2)).symm
    · show a.ow + _ = a.ow
      rw [if_neg (fun q => hnt q.1)]
      rfl
  · have hrh : a.rh (5 * (2 * n + c) + k) = some 4 := hv.resolve_left hi
    have eH : gh_hc a p i (5 * (2 * n + c) + k) = a := if_neg hi
    rw [eH] at d2 ⊢
    have shd : ∀ p', a.hd p' = if p' = p ∧ i = 0 then none else a.hd p' := fun p' => (if_neg (fun q => hi q.2)).symm
    have srh : ∀ x, a.rh x = if x = 5 * (2 * n + c) + k ∧ i = 0 then some 4 else a.rh x := fun x => (if_neg (fun q => hi q.2)).symm
    have sro : ∀ x, (if i = a.bo p then me_fu a.ro (5 * (2 * n + c) + k) none else a.ro) x = if x = 5 * (2 * n + c) + k ∧ i = a.bo p then none else a.ro x := fun x => by
      by_cases g : i = a.bo p
      · rw [if_pos g, me_fu_ap]
        by_cases e : x = 5 * (2 * n + c) + k
        · rw [if_pos e, if_pos ⟨e, g⟩]
        · rw [if_neg e, if_neg (fun q => e q.1)]
      · rw [if_neg g, if_neg (fun q => g q.2)]
    by_cases ht : i = a.bo p
    · have sst : ∀ p', me_fu a.st p 100 p' = if p' = p ∧ i = a.bo p then 100 else a.st p' := fun p' => by
        rw [me_fu_ap]
        by_cases e : p' = p
        · rw [if_pos e, if_pos ⟨e, ht⟩]
        · rw [if_neg e, if_neg (fun q => e q.1)]
      have sdn : ∀ p', me_fu a.dn p (some (a.bt + 1)) p' = if p' = p ∧ i = a.bo p then some (a.bt + 1) else a.dn p' := fun p' => by
        rw [me_fu_ap]
        by_cases e : p' = p
        · rw [if_pos e, if_pos ⟨e, ht⟩]
        · rw [if_neg e, if_neg (fun q => e q.1)]
      by_cases hkd : a.kd p = 113
      · have eA : gh_cy a p i (5 * (2 * n + c) + k) t = gh_aq (gh_dl (gh_g0 a p i (5 * (2 * n + c) + k) t) p) p := (if_pos ht).trans (if_pos hkd)
        rw [eA] at d2 ⊢
        refine ⟨μ', hA, fin _ d2 ?_ rfl rfl rfl⟩
        have ho := (f10 hkd).2.1
        refine gh_iv_aq (a := gh_dl (gh_g0 a p i (5 * (2 * n + c) + k) t) p) ?_ ho hile hsr f8
        refine gh_iv_co hI hq hg hv ⟨rfl, rfl, rfl, rfl, rfl⟩ ⟨rfl, rfl, rfl, rfl, rfl, rfl, rfl, rfl, rfl, rfl⟩ ⟨rfl, rfl, rfl, rfl, rfl, rfl, rfl, rfl, rfl, rfl⟩ ⟨rfl, rfl, rfl⟩ rfl (gh_rg hI (Nat.le_refl _)) sst (fun p' => rfl) shd sro srh sdn ?_
        show a.ow - 1 + _ = a.ow
        rw [if_pos ⟨ht, hkd⟩]
        omega
      · have eA : gh_cy a p i (5 * (2 * n + c) + k) t = gh_dl (gh_g0 a p i (5 * (2 * n + c) + k) t) p := (if_pos ht).trans (if_neg hkd)
        rw [eA] at d2 ⊢
        refine ⟨μ', hA, fin _ d2 ?_ rfl rfl rfl⟩
        refine gh_iv_co hI hq hg hv ⟨rfl, rfl, rfl, rfl, rfl⟩ ⟨rfl, rfl, rfl, rfl, rfl, rfl, rfl, rfl, rfl, rfl⟩ ⟨rfl, rfl, rfl, rfl, rfl, rfl, rfl, rfl, rfl, rfl⟩ ⟨rfl, rfl, rfl⟩ rfl (gh_rg hI (Nat.le_refl _)) sst (fun p' => rfl) shd sro srh sdn ?_
        show a.ow + _ = a.ow
        rw [if_neg (fun q => hkd q.2)]
        rfl
    · have eA : gh_cy a p i (5 * (2 * n + c) + k) t = gh_g0 a p i (5 * (2 * n + c) + k) t := if_neg ht
      rw [eA] at d2 ⊢
      refine ⟨μ', hA, fin _ d2 ?_ rfl rfl rfl⟩
      refine gh_iv_co hI hq hg hv ⟨rfl, rfl, rfl, rfl, rfl⟩ ⟨rfl, rfl, rfl, rfl, rfl, rfl, rfl, rfl, rfl, rfl⟩ ⟨rfl, rfl, rfl, rfl, rfl, rfl, rfl, rfl, rfl, rfl⟩ ⟨rfl, rfl, rfl⟩ rfl (gh_rg hI (Nat.le_refl _)) (fun p' => (if_neg (fun q => ht q.2)).symm) (fun p' => rfl) shd sro srh (fun p' => (if_neg (fun q => ht q.2)).symm) ?_
      show a.ow + _ = a.ow
      rw [if_neg (fun q => ht q.1)]
      rfl
theorem gb_ahead {a : me_S} {W : Nat → Bool} {v : Int32} {μ : me_M} (hX : gb_X a W v μ) {n c k o p i ci n' : Nat} {t : List (Nat × Nat × Nat)} (hn : n < a.w * a.h) (hc : c < 2) (hk : k < 5) (ho : o < 4) (hq : a.q (5 * (2 * n + c) + k) = (p, i, ci) :: t) (hu : gb_un a (5 * (2 * n + c) + k) ci) (hs : gh_sd a (5 * (2 * n + c) + k) p i = o) (hnb : me_nb a.w a.h n o = some n') (hfl : a.fl n o = 0) :
    (a.aw n' = true ∧ (a.q (5 * (2 * n' + c) + me_op o)).length < a.rp ∧ (i = 0 → a.ro (5 * (2 * n' + c) + me_op o) = none) ∧ ∃ μ', f_Mover_gives μ (me_N n) (me_N o) (5 * (2 * n + c) + k) = some (μ', 1) ∧ gb_X (gh_ay0 (gh_ha a p i (5 * (2 * n + c) + k) (5 * (2 * n' + c) + me_op o) o n') p i (5 * (2 * n + c) + k) (5 * (2 * n' + c) + me_op o) t) W v μ' ∧ gb_F μ μ') ∨
    (a.aw n' = false ∧ i = 0 ∧ n' < a.w * a.h ∧ f_Mover_gives μ (me_N n) (me_N o) (5 * (2 * n + c) + k) = some (me_up μ 13 n' 4 1, 0)) ∨
    (a.aw n' = true ∧ ¬ ((a.q (5 * (2 * n' + c) + me_op o)).length < a.rp ∧ (i = 0 → a.ro (5 * (2 * n' + c) + me_op o) = none)) ∧ f_Mover_gives μ (me_N n) (me_N o) (5 * (2 * n + c) + k) = some (μ, 0)) := by
  obtain ⟨hC, hI, h4, h5, h7, h9⟩ := id hX
  obtain ⟨f1, f2, f3, f4, f5, f6, f7, f8, f9, f10, f11, f12, f13⟩ := gh_fct hI hq
  have hwh := hI.wh
  have hw := hI.1.iw
  have hrp := hI.1.irp
  have hn' := (me_Op_lt hI hn ho hnb).1
  have hop := me_op_lt o
  have e10 : (5 * (2 * n + c) + k) / 10 = n := by omega
  have ech : me_ch (a.kd p) = c := by omega
  have hne := me_nb_ne (by omega) hnb
  have hxx : ¬ 5 * (2 * n' + c) + me_op o = 5 * (2 * n + c) + k := by omega
  have exr : 5 * (2 * n' + c) + me_op o = me_rw n' (me_ch (a.kd p)) (me_op o) := by
    unfold me_rw
    omega
  have exc : 10 * n' + (c * 5 + me_op o) = 5 * (2 * n' + c) + me_op o := by omega
  have z2 : μ 19 (5 * (2 * n + c) + k) 0 = me_N i := hC.q2 _ 0 (p, i, ci) f13 (by rw [hq]; rfl)
  have zah : μ 2 0 (n * 4 + o) = me_N n' := by
    have := hC.ah n o hn ho
    rw [hnb] at this
    exact this
  have body : ¬ i = 0 → a.rh (5 * (2 * n + c) + k) = some o ∧ a.ro (5 * (2 * n' + c) + me_op o) = some p ∧ a.aw n' = true := fun hi => by
    have e := (gh_sdB hI hq hi).1
    rw [hs] at e
    rcases hI.2.2.2.2.1.way (show 0 < i by omega) hq with ⟨v1, v2⟩ | ⟨d1, n1, v1, v2, v3, v4, v5⟩
    · rw [e] at v1
      have := Option.some.inj v1
      omega
    · rw [e] at v2
      have ed : o = d1 := Option.some.inj v2
      rw [← ed, e10, hnb] at v3
      have en : n' = n1 := Option.some.inj v3
      rw [← ed, ← en, ← exr] at v4
      refine ⟨e, v4, ?_⟩
      cases haw : a.aw n' with
      | true => rfl
      | false =>
        have := (hI.2.2.2.2.1.isl (5 * (2 * n' + c) + me_op o) (by rw [show (5 * (2 * n' + c) + me_op o) / 10 = n' by omega]; exact haw)).2
        rw [this] at v4
        cases v4
  have eA : f_Mover_gives_b134 μ (me_N n) (me_N o) (5 * (2 * n + c) + k) p = me_b2 (f_Mover_givesAhead μ (me_N n') (me_N o) (5 * (2 * n + c) + k) p) (fun μ3 r2 => me_gd (me_nr .boolean r2) (some (μ3, r2))) := by
    unfold f_Mover_gives_b134
    rw [me_N_4, me_N_mul, me_N_add, me_gd_n (by omega) (by omega), me_N_ix (by omega), zah]
  have eT : f_Mover_gives μ (me_N n) (me_N o) (5 * (2 * n + c) + k) = f_Mover_gives_b134 μ (me_N n) (me_N o) (5 * (2 * n + c) + k) p := by
    rw [y_un hC hI hq e10 h4 hu.1 hu.2]
    unfold f_Mover_gives_b81
    rw [if_pos (by rw [hs]), if_neg (by rw [me_N_4, me_N_inj (by omega) (by omega)]; omega)]
    by_cases hi : i = 0
    · rw [if_pos hi, if_neg (by decide), me_N_4, me_N_mul, me_N_add, me_gd_n (by omega) (by omega), me_N_ix (by omega), hC.fl n o (by omega) (by omega), if_pos hfl]
    · rw [if_neg hi, if_pos (by rfl)]
  have eG : f_Mover_givesAhead μ (me_N n') (me_N o) (5 * (2 * n + c) + k) p = if a.aw n' = true then (if (a.q (5 * (2 * n' + c) + me_op o)).length < a.rp then (if i = 0 ∧ ¬ a.ro (5 * (2 * n' + c) + me_op o) = none then some (μ, 0) else f_Mover_givesAhead_b110 μ (me_N n') (me_N o) (5 * (2 * n + c) + k) p (me_N i) (5 * (2 * n' + c) + me_op o)) else some (μ, 0)) else some (me_up μ 13 n' 4 1, 0) := by
    unfold f_Mover_givesAhead f_Mover_givesAhead_b52
    rw [y_hasNode_o hC hI hn', me_bd_s, if_neg (by decide), me_lt_s, z2, me_gd_n (by omega) (by omega), me_N_ix (by omega), hC.aw n' (by omega)]
    by_cases haw : a.aw n' = true
    · rw [if_pos haw, haw, if_neg (by decide), y_chan hC, me_bd_s, ech]
      unfold f_Net_opposite
      rw [me_bd_s, me_op_xor ho, me_N_5, me_N_mul, me_N_add, me_gd_n (by omega) (by omega), me_N_ix (by omega), exc, y_place hC hI (by omega), me_bd_s, hC.ro _ (by omega)]
      by_cases hl : (a.q (5 * (2 * n' + c) + me_op o)).length < a.rp
      · rw [decide_eq_true hl, if_neg (by decide), if_pos hl]
        by_cases hi : i = 0
        · rw [if_pos (show me_N i = 0 by rw [hi]; rfl)]
          by_cases hro : a.ro (5 * (2 * n' + c) + me_op o) = none
          · rw [if_neg (show ¬ (i = 0 ∧ ¬ a.ro (5 * (2 * n' + c) + me_op o) = none) from fun q => q.2 hro), hro]
            exact if_pos rfl
          · rw [if_pos (show i = 0 ∧ ¬ a.ro (5 * (2 * n' + c) + me_op o) = none from ⟨hi, hro⟩), if_neg (fun q => hro ((me_ro_m1 hI _).mp q))]
        · rw [if_neg (show ¬ me_N i = 0 by rw [me_N_0, me_N_inj (by omega) (by omega)]; exact hi), if_neg (show ¬ (i = 0 ∧ ¬ a.ro (5 * (2 * n' + c) + me_op o) = none) from fun q => hi q.1)]
      · rw [decide_eq_false hl, if_pos (by rfl), if_neg hl]
    · rw [if_neg haw, show a.aw n' = false by cases hb : a.aw n' with | true => exact absurd hb haw | false => rfl, if_pos (by rfl)]
      have hi : i = 0 := by
        by_cases hi : i = 0
        · exact hi
        · exact absurd (body hi).2.2 haw
      rw [if_pos (show me_N i = 0 by rw [hi]; rfl)]
      split
      · rw [me_lt_s]
      · rw [me_lt_s]
  rw [eT, eA, eG]
  by_cases haw : a.aw n' = true
  · rw [if_pos haw]
    by_cases hl : (a.q (5 * (2 * n' + c) + me_op o)).length < a.rp
    · rw [if_pos hl]
      by_cases hh : i = 0 ∧ ¬ a.ro (5 * (2 * n' + c) + me_op o) = none
      · rw [if_pos hh]
        exact Or.inr (Or.inr ⟨haw, fun q => hh.2 (q.2 hh.1), by rw [me_b2_s, me_gd_t me_nr_z]⟩)
      · rw [if_neg hh]
        have hro0 : i = 0 → a.ro (5 * (2 * n' + c) + me_op o) = none := fun hi => by
          by_cases g : a.ro (5 * (2 * n' + c) + me_op o) = none
          · exact g
          · exact absurd ⟨hi, g⟩ hh
        obtain ⟨μ', d1, d2, d3⟩ := y_ahead hC (r' := 5 * (2 * n' + c) + me_op o) (p := p) (i := i) (d := o) (n' := n') f13 (by omega) hxx hq f12 (by omega) f2 f3 (by omega) (by omega) h4
        have hIa : me_Iv (gh_ay0 (gh_ha a p i (5 * (2 * n + c) + k) (5 * (2 * n' + c) + me_op o) o n') p i (5 * (2 * n + c) + k) (5 * (2 * n' + c) + me_op o) t) := by
          refine gh_iv_ah hI hq ho (by rw [e10]; exact hnb) exr haw (by omega) ?_
          by_cases hi : i = 0
          · left
            refine ⟨hi, ?_, hro0 hi⟩
            unfold gh_sd at hs
            rw [if_pos hi] at hs
            exact hs
          · right
            exact ⟨by omega, (body hi).1⟩
        refine Or.inl ⟨haw, hl, hro0, μ', by rw [d1, me_b2_s, me_gd_t me_nr_o], ?_⟩
        by_cases hi : i = 0
        · have eH : gh_ha a p i (5 * (2 * n + c) + k) (5 * (2 * n' + c) + me_op o) o n' = me_S.s_hd (me_S.s_ro (me_S.s_rh a (me_fu a.rh (5 * (2 * n + c) + k) (some o))) (me_fu a.ro (5 * (2 * n' + c) + me_op o) (some p))) (me_fu a.hd p (some n')) := if_pos hi
          rw [eH] at d2 hIa ⊢
          exact gb_fin hX d2 hIa rfl rfl rfl (fun k' hk' => d3 k' (by omega))
        · have eH : gh_ha a p i (5 * (2 * n + c) + k) (5 * (2 * n' + c) + me_op o) o n' = a := if_neg hi
          rw [eH] at d2 hIa ⊢
          exact gb_fin hX d2 hIa rfl rfl rfl (fun k' hk' => d3 k' (by omega))
    · rw [if_neg hl]
      exact Or.inr (Or.inr ⟨haw, fun q => hl q.1, by rw [me_b2_s, me_gd_t me_nr_z]⟩)
  · have haw' : a.aw n' = false := by cases hb : a.aw n' with | true => exact absurd hb haw | false => rfl
    have hi : i = 0 := by
      by_cases hi : i = 0
      · exact hi
      · exact absurd (body hi).2.2 haw
    rw [if_neg haw]
    exact Or.inr (Or.inl ⟨haw', hi, hn', by rw [me_b2_s, me_gd_t me_nr_z]⟩)
