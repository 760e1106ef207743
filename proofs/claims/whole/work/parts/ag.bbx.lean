/-! within a beat: class and reference side by side -/
def bb_X (a b : me_S) (W : Nat → Bool) (v v' : Int32) (μ ν : me_M) : Prop := me_RC a μ ∧ me_RM b ν ∧ me_Iv a ∧ μ 30 0 6 = me_N (a.bt + 1) ∧ μ 30 0 7 = v ∧ ν 36 0 5 = v' ∧ (∀ n, n < 16 → μ 13 n 4 = me_bi (W n)) ∧ (∀ n, n < a.w * a.h → ν 86 0 n = me_bi (W n)) ∧ ∀ n, ¬ n < a.w * a.h → W n = false
def bb_F (a a' : me_S) (μ μ' ν ν' : me_M) : Prop := a'.w = a.w ∧ a'.h = a.h ∧ a'.bt = a.bt ∧ a'.aw = a.aw ∧ (∀ k, 36 ≤ k → μ' k = μ k) ∧ (∀ k, k < 36 → ν' k = ν k) ∧ ν' 36 0 42 = ν 36 0 42
theorem bb_F.re {a : me_S} {μ ν : me_M} : bb_F a a μ μ ν ν := ⟨rfl, rfl, rfl, rfl, fun _ _ => rfl, fun _ _ => rfl, rfl⟩
theorem bb_F.tr_ {a b c : me_S} {μ μ' μ'' ν ν' ν'' : me_M} (h : bb_F a b μ μ' ν ν') (g : bb_F b c μ' μ'' ν' ν'') : bb_F a c μ μ'' ν ν'' := by
  obtain ⟨a1, a2, a3, a4, a5, a6, a7⟩ := h
  obtain ⟨b1, b2, b3, b4, b5, b6, b7⟩ := g
  exact ⟨b1.trans a1, b2.trans a2, b3.trans a3, b4.trans a4, fun k hk => (b5 k hk).trans (a5 k hk), fun k hk => (b6 k hk).trans (a6 k hk), b7.trans a7⟩
theorem bb_fin {a b A B : me_S} {W : Nat → Bool} {v v0 v' : Int32} {μ ν μ' ν' : me_M} (hX : bb_X a b W v v0 μ ν) (hC : me_RC A μ') (hM : me_RM B ν') (hI : me_Iv A) (ew : A.w = a.w) (eh : A.h = a.h) (eb : A.bt = a.bt) (ea : A.aw = a.aw) (f : ∀ k, 13 = k ∨ 30 = k ∨ 36 ≤ k → μ' k = μ k) (z5 : ν' 36 0 5 = v') (z42 : ν' 36 0 42 = ν 36 0 42) (zk : ∀ k, k < 36 ∨ k = 86 → ν' k = ν k) : bb_F a A μ μ' ν ν' ∧ bb_X A B W v v' μ' ν' := by
  obtain ⟨h1, h2, h3, h4, h5, h6, h7, h8, h9⟩ := hX
  refine ⟨⟨ew, eh, eb, ea, fun k hk => f k (by omega), fun k hk => zk k (by omega), z42⟩, hC, hM, hI, ?_, ?_, z5, fun n hn => ?_, fun n hn => ?_, fun n hn => ?_⟩
  · rw [f 30 (by decide), eb]
    exact h4
  · rw [f 30 (by decide)]
    exact h5
  · rw [f 13 (by decide)]
    exact h7 n hn
  · rw [zk 86 (by decide)]
    rw [ew, eh] at hn
    exact h8 n hn
  · rw [ew, eh] at hn
    exact h9 n hn
/-- both answer, and come to the same -/
def bb_G (a : me_S) (W : Nat → Bool) (v : Int32) (μ ν : me_M) (l k : Nat) (A B : Option (me_M × Int32)) : Prop := ∃ μ' ν' a' W', ∃ b : Bool, A = some (μ', me_bi b) ∧ B = some (ν', me_bi b) ∧ bb_F a a' μ μ' ν ν' ∧ bb_X a' (if b = true then me_S.s_lr a' (me_fu a'.lr l k) else a') W' v (if b = true then 1 else v) μ' ν'
theorem bb_no {a : me_S} {W : Nat → Bool} {v : Int32} {μ ν : me_M} {l k : Nat} {A B : Option (me_M × Int32)} (hX : bb_X a a W v v μ ν) (hA : A = some (μ, 0)) (hB : B = some (ν, 0)) : bb_G a W v μ ν l k A B := ⟨μ, ν, a, W, false, hA, hB, bb_F.re, by rw [if_neg (by decide), if_neg (by decide)]; exact hX⟩
theorem bb_yes {a : me_S} {W : Nat → Bool} {v : Int32} {μ ν μ' ν' : me_M} {l k : Nat} {A B : Option (me_M × Int32)} {a' : me_S} (hX : bb_X a a W v v μ ν) (hA : A = some (μ', 1)) (hB : B = some (ν', 1)) (hC : me_RC a' μ') (hM : me_RM (me_S.s_lr a' (me_fu a'.lr l k)) ν') (hI : me_Iv a') (ew : a'.w = a.w) (eh : a'.h = a.h) (eb : a'.bt = a.bt) (ea : a'.aw = a.aw) (f : ∀ k, 13 = k ∨ 30 = k ∨ 36 ≤ k → μ' k = μ k) (z5 : ν' 36 0 5 = 1) (z42 : ν' 36 0 42 = ν 36 0 42) (zk : ∀ k, k < 36 ∨ k = 86 → ν' k = ν k) : bb_G a W v μ ν l k A B := by
  obtain ⟨k1, k2⟩ := bb_fin hX hC hM hI ew eh eb ea f z5 z42 zk
  refine ⟨μ', ν', a', W, true, hA, hB, k1, ?_⟩
  rw [if_pos rfl, if_pos rfl]
  exact k2
theorem gh_side4 {a : me_S} (hI : me_Iv a) {n g c : Nat} (hn : n < a.w * a.h) (hg : g < a.w * a.h) : gh_side a n g c = 4 → n = g := by
  obtain ⟨h1, h2, h3⟩ := gh_way hI hn hg
  intro h
  unfold gh_side at h
  cases ex : gh_ax a.w n g with
  | none =>
    cases ey : gh_ay a.w n g with
    | none => exact h1 ex ey
    | some y =>
      rw [ex, ey] at h
      have h : y = 4 := h
      have := h3 y ey
      omega
  | some x =>
    have hx := h2 x ex
    cases ey : gh_ay a.w n g with
    | none =>
      rw [ex, ey] at h
      have h : x = 4 := h
      omega
    | some y =>
      have hy := h3 y ey
      rw [ex, ey] at h
      dsimp only at h
      repeat' split at h
      all_goals omega
theorem gh_core_at {a : me_S} (hI : me_Iv a) {x p i ci : Nat} {t : List (Nat × Nat × Nat)} (hq : a.q x = (p, i, ci) :: t) (hs : gh_sd a x p i = 4) : x / 10 = a.gl p ∧ (i = 0 ∨ a.rh x = some 4) := by
  by_cases hi : i = 0
  · obtain ⟨f1, f2, -, -, -, -, -, f8, -⟩ := gh_fct hI hq
    unfold gh_sd at hs
    rw [if_pos hi] at hs
    exact ⟨gh_side4 hI f1 f8 hs, Or.inl hi⟩
  · have e := (gh_sdB hI hq hi).1
    rw [hs] at e
    rcases hI.2.2.2.2.1.way (show 0 < i by omega) hq with ⟨v1, v2⟩ | ⟨d1, n1, v1, v2, v3, v4, v5⟩
    · exact ⟨v2, Or.inr e⟩
    · rw [e] at v2
      have := Option.some.inj v2
      omega
theorem gh_iv_aq {a : me_S} (hI : me_Iv (me_S.s_ow a (a.ow - 1))) {p : Nat} (h1 : 1 ≤ a.ow) (hn : a.np + a.ow ≤ 200) (hs : a.sr p < a.w * a.h) (hg : a.gl p < a.w * a.h) : me_Iv (gh_aq a p) := by
  have h2 : me_Iv (gh_aw a p) := ⟨hI.1, hI.2.1, hI.2.2.1, hI.2.2.2.1, hI.2.2.2.2.1, hI.2.2.2.2.2.1, hI.2.2.2.2.2.2.1, hI.2.2.2.2.2.2.2.1, hI.2.2.2.2.2.2.2.2⟩
  have hr : (gh_aw a p).np + 1 + (gh_aw a p).ow ≤ 200 := by
    show a.np + 1 + (a.ow - 1) ≤ 200
    omega
  have h3 := gh_iv0 h2 (k := 97) (s := a.gl p) (g := a.sr p) (w := a.mm (a.gl p) (a.pl p)) (b := 1) (Or.inr rfl) hr hg hs ⟨Nat.le_refl _, by omega⟩
  exact gh_iv_an h3 (j := a.np) (Nat.lt_succ_self a.np)
/-- a first piece to the core, on both sides -/
theorem bb_core {a : me_S} {W : Nat → Bool} {v : Int32} {μ ν : me_M} (hX : bb_X a a W v v μ ν) {n c k p i ci : Nat} {t : List (Nat × Nat × Nat)} (hn : n < 16) (hc : c < 2) (hk : k < 5) (hq : a.q (5 * (2 * n + c) + k) = (p, i, ci) :: t) (hs : gh_sd a (5 * (2 * n + c) + k) p i = 4) : bb_G a W v μ ν (5 * (2 * n + c) + 4) k (me_b2 (f_Mover_giveToCore μ (5 * (2 * n + c) + k) p) (fun μ9 _ => some (μ9, (1 : Int32)))) (f_M_gives_b290 ν (me_N n) (me_N c) (me_N k) 4 (me_N p) (me_bi (decide (i = a.bo p)))) := by
  obtain ⟨hC, hM, hI, h4, h5, h6, h7, h8, h9⟩ := id hX
  obtain ⟨f1, f2, f3, f4, f5, f6, f7, f8, f9, f10, f11, f12, f13⟩ := gh_fct hI hq
  obtain ⟨hg, hv⟩ := gh_core_at hI hq hs
  have hsr := hI.2.1.isr p f2
  have hile := hI.2.1.ile
  have e10 : (5 * (2 * n + c) + k) / 10 = n := by omega
  obtain ⟨μ', d1, d2, d3⟩ := y_core hC (p := p) (i := i) f13 hq f12 f2 (by omega) (by omega) h4 f9 f10 f11
  obtain ⟨ν3, g1, g2, g3, g4, g5⟩ := m_gv290 hM (p := p) (i := i) (o := 4) hn hc hk (by omega) hq f12
  have hA : me_b2 (f_Mover_giveToCore μ (5 * (2 * n + c) + k) p) (fun μ9 _ => some (μ9, (1 : Int32))) = some (μ', 1) := by rw [d1, me_b2_s]
  by_cases hi : i = 0
  · have hnt : ¬ i = a.bo p := by omega
    have eH : gh_hc a p i (5 * (2 * n + c) + k) = me_S.s_hd (me_S.s_rh a (me_fu a.rh (5 * (2 * n + c) + k) (some 4))) (me_fu a.hd p none) := if_pos hi
    rw [eH] at d2
    have eA : gh_cy (me_S.s_hd (me_S.s_rh a (me_fu a.rh (5 * (2 * n + c) + k) (some 4))) (me_fu a.hd p none)) p i (5 * (2 * n + c) + k) t = gh_g0 (me_S.s_hd (me_S.s_rh a (me_fu a.rh (5 * (2 * n + c) + k) (some 4))) (me_fu a.hd p none)) p i (5 * (2 * n + c) + k) t := if_neg hnt
    rw [eA] at d2
    have g2' : me_RM (me_S.s_lr (gh_g0 (me_S.s_hd (me_S.s_rh a (me_fu a.rh (5 * (2 * n + c) + k) (some 4))) (me_fu a.hd p none)) p i (5 * (2 * n + c) + k) t) (me_fu a.lr (5 * (2 * n + c) + 4) k)) ν3 := g2.eq ⟨rfl, rfl, rfl, rfl, rfl, rfl, rfl, rfl, rfl, rfl, rfl, rfl, rfl, rfl, rfl, rfl, rfl, rfl, rfl, rfl, rfl, rfl, rfl, rfl, rfl, rfl, rfl, rfl, rfl, rfl, rfl, rfl, rfl, rfl, rfl, rfl, rfl⟩
    rw [decide_eq_false hnt] at g1 ⊢
    have eB : f_M_gives_b359 ν3 (me_N 4) (me_N p) (me_bi false) = some (ν3, 1) := by
      unfold f_M_gives_b359
      rw [if_pos (by rfl)]
    refine bb_yes hX hA (g1.trans eB) d2 g2' ?_ rfl rfl rfl rfl (fun k' hk' => d3 k' (by omega)) g3 (g5 42 (by decide)) (fun k' hk' => g4 k' (by omega))
    refine gh_iv_co hI hq hg hv ⟨rfl, rfl, rfl, rfl, rfl⟩ ⟨rfl, rfl, rfl, rfl, rfl, rfl, rfl, rfl, rfl, rfl⟩ ⟨rfl, rfl, rfl, rfl, rfl, rfl, rfl, rfl, rfl, rfl⟩ ⟨rfl, rfl, rfl⟩ rfl (gh_rg hI (Nat.le_refl _)) (fun p' => ?_) (fun p' => ?_) (fun p' => ?_) (fun x => ?_) (fun x => ?_) (fun p' => ?_) ?_
    · exact (if_neg (fun q => hnt q.2)).symm
    · rfl
    · show me_fu a.hd p none p' = _
      rw [me_fu_ap]
      by_cases e : p' = p
      · rw [if_pos e, if_pos ⟨e, hi⟩]
      · rw [if_neg e, if_neg (fun q => e q.1)]
    · show (if i = a.bo p then me_fu a.ro (5 * (2 * n + c) + k) none else a.ro) x = _
      rw [if_neg hnt, if_neg (fun q => hnt q.2)]
    · show me_fu a.rh (5 * (2 * n + c) + k) (some 4) x = _
      rw [me_fu_ap]
      by_cases e : x = 5 * (2 * n + c) + k
      · rw [if_pos e, if_pos ⟨e, hi⟩]
      · rw [if_neg e, if_neg (fun q => e q.1)]
    · exact (if_neg (fun q => hnt q.2)).symm
    · show a.ow + _ = a.ow
      rw [if_neg (fun q => hnt q.1)]
      rfl
  · have hrh : a.rh (5 * (2 * n + c) + k) = some 4 := hv.resolve_left hi
    have eH : gh_hc a p i (5 * (2 * n + c) + k) = a := if_neg hi
    rw [eH] at d2
    have g2' : me_RM (me_S.s_lr (gh_g0 a p i (5 * (2 * n + c) + k) t) (me_fu a.lr (5 * (2 * n + c) + 4) k)) ν3 := g2.eq (by
      have e1 : me_fu a.rh (5 * (2 * n + c) + k) (some 4) = a.rh := me_fu_id hrh
      exact ⟨rfl, rfl, rfl, rfl, rfl, rfl, rfl, rfl, rfl, rfl, rfl, rfl, rfl, rfl, rfl, rfl, rfl, rfl, rfl, rfl, e1, rfl, rfl, rfl, rfl, rfl, rfl, rfl, rfl, rfl, rfl, rfl, rfl, rfl, rfl, rfl, rfl⟩)
    have shd : ∀ p', a.hd p' = if p' = p ∧ i = 0 then none else a.hd p' := fun p' => (if_neg (fun q => hi q.2)).symm
    have srh : ∀ x, a.rh x = if x = 5 * (2 * n + c) + k ∧ i = 0 then some 4 else a.rh x := fun x => (if_neg (fun q => hi q.2)).symm
    have sro : ∀ x, (if i = a.bo p then me_fu a.ro (5 * (2 * n + c) + k) none else a.ro) x = if x = 5 * (2 * n + c) + k ∧ i = a.bo p then none else a.ro x := fun x => by
      by_cases g : i = a.bo p
      · rw [if_pos g, me_fu_ap]
        by_cases e : x = 5 * (2 * n + c) + k
        · rw [if_pos e, if_pos ⟨e, g⟩]
        · rw [if_neg e, if_neg (fun q => e q.1)]
      · rw [if_neg g, if_neg (fun q => g q.2)]
    by_cases ht : i = a.bo p
    · obtain ⟨ν4, k1, k2, k3, k4⟩ := m_gv359 g2' (p := p) (o := 4) (b := true) (by omega) f2 f3 f9 f10
      rw [if_pos ⟨rfl, rfl⟩] at k2
      rw [decide_eq_true ht] at g1 ⊢
      have sst : ∀ p', me_fu a.st p 100 p' = if p' = p ∧ i = a.bo p then 100 else a.st p' := fun p' => by
        rw [me_fu_ap]
        by_cases e : p' = p
        · rw [if_pos e, if_pos ⟨e, ht⟩]
        · rw [if_neg e, if_neg (fun q => e q.1)]
      have sdn : ∀ p', me_fu a.dn p (some (a.bt + 1)) p' = if p' = p ∧ i = a.bo p then some (a.bt + 1) else a.dn p' := fun p' => by
        rw [me_fu_ap]
        by_cases e : p' = p
        · rw [if_pos e, if_pos ⟨e, ht⟩]
        · rw [if_neg e, if_neg (fun q => e q.1)]
      have z5 : ν4 36 0 5 = 1 := by rw [k4 5 (by decide)]; exact g3
      have z42 : ν4 36 0 42 = ν 36 0 42 := by rw [k4 42 (by decide)]; exact g5 42 (by decide)
      have zk : ∀ k', k' < 36 ∨ k' = 86 → ν4 k' = ν k' := fun k' hk' => by rw [k3 k' (by omega)]; exact g4 k' (by omega)
      by_cases hkd : a.kd p = 113
      · have eA : gh_cy a p i (5 * (2 * n + c) + k) t = gh_aq (gh_dl (gh_g0 a p i (5 * (2 * n + c) + k) t) p) p := (if_pos ht).trans (if_pos hkd)
        rw [eA] at d2
        have k2 : me_RM (gh_aq (gh_dl (me_S.s_lr (gh_g0 a p i (5 * (2 * n + c) + k) t) (me_fu a.lr (5 * (2 * n + c) + 4) k)) p) p) ν4 := by
          have := k2
          rw [if_pos (show (me_S.s_lr (gh_g0 a p i (5 * (2 * n + c) + k) t) (me_fu a.lr (5 * (2 * n + c) + 4) k)).kd p = 113 from hkd)] at this
          exact this
        have k2' := k2.eq ((gh_dl_lr.aq p).tr_ gh_aq_lr).m
        refine bb_yes hX hA (g1.trans k1) d2 k2' ?_ rfl rfl rfl rfl (fun k' hk' => d3 k' (by omega)) z5 z42 zk
        have ho := (f10 hkd).2.1
        refine gh_iv_aq (a := gh_dl (gh_g0 a p i (5 * (2 * n + c) + k) t) p) ?_ ho hile hsr f8
        refine gh_iv_co hI hq hg hv ⟨rfl, rfl, rfl, rfl, rfl⟩ ⟨rfl, rfl, rfl, rfl, rfl, rfl, rfl, rfl, rfl, rfl⟩ ⟨rfl, rfl, rfl, rfl, rfl, rfl, rfl, rfl, rfl, rfl⟩ ⟨rfl, rfl, rfl⟩ rfl (gh_rg hI (Nat.le_refl _)) sst (fun p' => rfl) shd sro srh sdn ?_
        show a.ow - 1 + _ = a.ow
        rw [if_pos ⟨ht, hkd⟩]
        omega
      · have eA : gh_cy a p i (5 * (2 * n + c) + k) t = gh_dl (gh_g0 a p i (5 * (2 * n + c) + k) t) p := (if_pos ht).trans (if_neg hkd)
        rw [eA] at d2
        have k2 : me_RM (gh_dl (me_S.s_lr (gh_g0 a p i (5 * (2 * n + c) + k) t) (me_fu a.lr (5 * (2 * n + c) + 4) k)) p) ν4 := by
          have := k2
          rw [if_neg (show ¬ (me_S.s_lr (gh_g0 a p i (5 * (2 * n + c) + k) t) (me_fu a.lr (5 * (2 * n + c) + 4) k)).kd p = 113 from hkd)] at this
          exact this
        have k2' := k2.eq gh_dl_lr.m
        refine bb_yes hX hA (g1.trans k1) d2 k2' ?_ rfl rfl rfl rfl (fun k' hk' => d3 k' (by omega)) z5 z42 zk
        refine gh_iv_co hI hq hg hv ⟨rfl, rfl, rfl, rfl, rfl⟩ ⟨rfl, rfl, rfl, rfl, rfl, rfl, rfl, rfl, rfl, rfl⟩ ⟨rfl, rfl, rfl, rfl, rfl, rfl, rfl, rfl, rfl, rfl⟩ ⟨rfl, rfl, rfl⟩ rfl (gh_rg hI (Nat.le_refl _)) sst (fun p' => rfl) shd sro srh sdn ?_
        show a.ow + _ = a.ow
        rw [if_neg (fun q => hkd q.2)]
        rfl
    · have eA : gh_cy a p i (5 * (2 * n + c) + k) t = gh_g0 a p i (5 * (2 * n + c) + k) t := if_neg ht
      rw [eA] at d2
      rw [decide_eq_false ht] at g1 ⊢
      have eB : f_M_gives_b359 ν3 (me_N 4) (me_N p) (me_bi false) = some (ν3, 1) := by
        unfold f_M_gives_b359
        rw [if_pos (by rfl)]
      refine bb_yes hX hA (g1.trans eB) d2 g2' ?_ rfl rfl rfl rfl (fun k' hk' => d3 k' (by omega)) g3 (g5 42 (by decide)) (fun k' hk' => g4 k' (by omega))
      refine gh_iv_co hI hq hg hv ⟨rfl, rfl, rfl, rfl, rfl⟩ ⟨rfl, rfl, rfl, rfl, rfl, rfl, rfl, rfl, rfl, rfl⟩ ⟨rfl, rfl, rfl, rfl, rfl, rfl, rfl, rfl, rfl, rfl⟩ ⟨rfl, rfl, rfl⟩ rfl (gh_rg hI (Nat.le_refl _)) (fun p' => (if_neg (fun q => ht q.2)).symm) (fun p' => rfl) shd sro srh (fun p' => (if_neg (fun q => ht q.2)).symm) ?_
      show a.ow + _ = a.ow
      rw [if_neg (fun q => ht q.1)]
      rfl
