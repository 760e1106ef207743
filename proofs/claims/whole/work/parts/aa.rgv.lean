/-! the reference: a piece goes to the core, is delivered, goes ahead -/
theorem me_up_cm {μ : me_M} {k i j : Nat} {x : Int32} {k' i' j' : Nat} {x' : Int32} (h : ¬ k = k') : me_up (me_up μ k i j x) k' i' j' x' = me_up (me_up μ k' i' j' x') k i j x := by
  funext a b c
  rw [me_up_ap, me_up_ap, me_up_ap, me_up_ap]
  by_cases h1 : a = k' ∧ b = i' ∧ c = j'
  · rw [if_pos h1, if_pos h1, if_neg (fun q => h (q.1.symm.trans h1.1))]
  · rw [if_neg h1, if_neg h1]
theorem me_fu_id {α : Type} {f : Nat → α} {i : Nat} {v : α} (h : f i = v) : me_fu f i v = f := by
  funext j
  rw [me_fu_ap]
  by_cases e : j = i
  · rw [if_pos e, e]
    exact h.symm
  · rw [if_neg e]
theorem me_fu_cm {α : Type} {f : Nat → α} {i j : Nat} {u v : α} (h : ¬ i = j) : me_fu (me_fu f i u) j v = me_fu (me_fu f j v) i u := by
  funext x
  rw [me_fu_ap, me_fu_ap, me_fu_ap, me_fu_ap]
  by_cases e : x = j
  · rw [if_pos e, if_pos e, if_neg (fun q => h (q.symm.trans e))]
  · rw [if_neg e, if_neg e]
theorem m_made5 {a : me_S} {μ : me_M} (hM : me_RM a μ) {k : Int32} {s g : Nat} {w : Int32} {b : Nat} (hk : ¬ k = 113) (hc : me_nr .char k = true) (hn : a.np < 200) : ∃ μ', f_M_made μ k (me_N s) (me_N g) w (me_N b) = some (μ', me_N a.np) ∧ me_RM (gh_mk a k s g w b) μ' ∧ (∀ k', ¬ (36 ≤ k' ∧ k' ≤ 49) → μ' k' = μ k') ∧ ∀ j, ¬ j = 19 → μ' 36 0 j = μ 36 0 j := by
  have h1 := hM.w_made0 k s g w b hk
  refine ⟨_, ?_, h1, fun k' h => ?_, fun j hj => ?_⟩
  · unfold f_M_made
    have z5 : vp_nar .char 115 = (115 : Int32) := rfl
    simp only [me_lt_s, me_up_kn (show ¬ 36 = 37 by decide), me_up_kn (show ¬ 36 = 38 by decide), me_up_kn (show ¬ 36 = 39 by decide), me_up_kn (show ¬ 36 = 40 by decide), me_up_kn (show ¬ 36 = 41 by decide), me_up_kn (show ¬ 36 = 42 by decide), me_up_kn (show ¬ 36 = 43 by decide), me_up_kn (show ¬ 36 = 44 by decide), me_up_kn (show ¬ 36 = 49 by decide), hM.np, hM.bt, me_gd_n (show a.np < 2147483648 by omega) hn, me_N_ix (show a.np < 2147483648 by omega), me_nar_c hc, z5, me_up_at]
    rw [me_N_1, me_N_add, me_N_sub (by omega)]
    rfl
  · funext i j
    simp only [me_up_kn (show ¬ k' = 37 by omega), me_up_kn (show ¬ k' = 38 by omega), me_up_kn (show ¬ k' = 39 by omega), me_up_kn (show ¬ k' = 40 by omega), me_up_kn (show ¬ k' = 41 by omega), me_up_kn (show ¬ k' = 42 by omega), me_up_kn (show ¬ k' = 43 by omega), me_up_kn (show ¬ k' = 44 by omega), me_up_kn (show ¬ k' = 49 by omega), me_up_kn (show ¬ k' = 36 by omega)]
  · simp only [me_up_kn (show ¬ 36 = 37 by decide), me_up_kn (show ¬ 36 = 38 by decide), me_up_kn (show ¬ 36 = 39 by decide), me_up_kn (show ¬ 36 = 40 by decide), me_up_kn (show ¬ 36 = 41 by decide), me_up_kn (show ¬ 36 = 42 by decide), me_up_kn (show ¬ 36 = 43 by decide), me_up_kn (show ¬ 36 = 44 by decide), me_up_kn (show ¬ 36 = 49 by decide), me_up_jn hj]
theorem m_deliver {a : me_S} {μ : me_M} (hM : me_RM a μ) {p : Nat} (hp : p < a.np) (hp2 : p < 200) (hg : a.gl p < 16) (hpl : a.kd p = 113 → a.pl p < 8 ∧ 1 ≤ a.ow ∧ a.np < 200) : ∃ μ', f_M_delivers μ (me_N p) = some (μ', ()) ∧ me_RM (if a.kd p = 113 then gh_aq (gh_dl a p) p else gh_dl a p) μ' ∧ (∀ k, ¬ ((36 ≤ k ∧ k ≤ 49) ∨ k = 76) → μ' k = μ k) ∧ ∀ j, ¬ j = 19 → μ' 36 0 j = μ 36 0 j := by
  have h1 : me_RM (gh_dl a p) (me_up (me_up μ 38 0 p 100) 45 0 p (me_N (a.bt + 1))) := by
    rw [me_up_cm (by decide)]
    have h2 : me_RM (me_S.s_dn a (me_fu a.dn p (some (a.bt + 1)))) (me_up μ 45 0 p (me_N (a.bt + 1))) := hM.w_dn p (some (a.bt + 1))
    exact (h2.w_st p 100 (fun _ => by
      rw [me_up_at]
      show me_N (a.bt + 1) = me_Op (me_fu a.dn p (some (a.bt + 1)) p)
      rw [me_fu_at]
      rfl)).eq ⟨rfl, rfl, rfl, rfl, rfl, rfl, rfl, rfl, rfl, rfl, rfl, rfl, rfl, rfl, rfl, rfl, rfl, rfl, rfl, rfl, rfl, rfl, rfl, rfl, rfl, rfl, rfl, rfl, rfl, rfl, rfl, rfl, rfl, rfl, rfl, rfl, rfl⟩
  have f1 : ∀ k, ¬ (k = 38 ∨ k = 45) → me_up (me_up μ 38 0 p 100) 45 0 p (me_N (a.bt + 1)) k = μ k := fun k hk => by
    funext i j
    rw [me_up_kn (by omega), me_up_kn (by omega)]
  have zc : vp_nar .char 100 = (100 : Int32) := rfl
  unfold f_M_delivers
  simp only [me_gd_n (show p < 2147483648 by omega) hp2, me_N_ix (show p < 2147483648 by omega), me_lt_s, zc, me_up_kn (show ¬ 36 = 38 by decide), hM.bt, me_N_1, me_N_add]
  generalize me_up (me_up μ 38 0 p 100) 45 0 p (me_N (a.bt + 1)) = μ2 at h1 f1 ⊢
  have z1 : μ2 37 0 p = a.kd p := h1.kd p hp
  rw [z1]
  by_cases hk : a.kd p = 113
  · obtain ⟨hpl, ho, hn⟩ := hpl hk
    have z4 : μ2 40 0 p = me_N (a.gl p) := h1.gl p hp
    have z12 : μ2 46 0 p = me_N (a.pl p) := h1.pl p hp hk
    have z13 : (if μ2 47 0 p = 0 then 0 else μ2 48 0 p) = a.ad p := h1.ad p hp hk
    have z3 : μ2 39 0 p = me_N (a.sr p) := h1.sr p hp
    have zm : μ2 76 (a.gl p) (a.pl p) = a.mm (a.gl p) (a.pl p) := h1.mm _ _ hg hpl
    have h3 : me_RM (gh_aw (gh_dl a p) p) (me_up μ2 76 (a.gl p) (a.pl p) (a.mm (a.gl p) (a.pl p) + a.ad p)) := (h1.w_mm (a.gl p) (a.pl p) (a.mm (a.gl p) (a.pl p) + a.ad p)).eq ⟨rfl, rfl, rfl, rfl, rfl, rfl, rfl, rfl, rfl, rfl, rfl, rfl, rfl, rfl, rfl, rfl, rfl, rfl, rfl, rfl, rfl, rfl, rfl, rfl, rfl, rfl, rfl, rfl, rfl, rfl, rfl, rfl, rfl, rfl, rfl, rfl, rfl⟩
    obtain ⟨μ11, e1, h4, f4, f5⟩ := m_made5 h3 (k := 97) (s := a.gl p) (g := a.sr p) (w := a.mm (a.gl p) (a.pl p)) (b := 1) (by decide) (by decide +kernel) hn
    have e1 : f_M_made (me_up μ2 76 (a.gl p) (a.pl p) (a.mm (a.gl p) (a.pl p) + a.ad p)) 97 (me_N (a.gl p)) (me_N (a.sr p)) (a.mm (a.gl p) (a.pl p)) (me_N 1) = some (μ11, me_N a.np) := e1
    have b85 : f_M_delivers_b85 μ2 (me_N p) (me_N (a.gl p)) (a.mm (a.gl p) (a.pl p)) (a.mm (a.gl p) (a.pl p) + a.ad p) (me_N (a.pl p)) (a.gl p) = some (me_up μ11 49 0 p (me_N a.np), ()) := by
      unfold f_M_delivers_b85
      simp only [me_gd_n (show p < 2147483648 by omega) hp2, me_gd_n (show a.pl p < 2147483648 by omega) hpl, me_N_ix (show p < 2147483648 by omega), me_N_ix (show a.pl p < 2147483648 by omega), me_lt_s, me_up_kn (show ¬ 39 = 76 by decide), z3, me_N_1, e1, me_b2_s]
    refine ⟨me_up μ11 49 0 p (me_N a.np), ?_, ?_, fun k hk' => ?_, fun j hj => ?_⟩
    · rw [if_pos hk]
      simp only [z4, z12, me_gd_n (show a.gl p < 2147483648 by omega) hg, me_gd_n (show a.pl p < 2147483648 by omega) hpl, me_N_ix (show a.gl p < 2147483648 by omega), me_N_ix (show a.pl p < 2147483648 by omega), zm]
      by_cases g : μ2 47 0 p = 0
      · rw [if_pos g] at z13 ⊢
        rw [← z13, Int32.add_zero] at b85
        exact b85
      · rw [if_neg g] at z13 ⊢
        rw [z13]
        exact b85
    · rw [if_pos hk]
      exact h4.w_an p (some a.np)
    · funext i j
      rw [me_up_kn (by omega), f4 k (by omega), me_up_kn (by omega), f1 k (by omega)]
    · rw [me_up_kn (by decide), f5 j hj, me_up_kn (by decide), f1 36 (by decide)]
  · refine ⟨μ2, by rw [if_neg hk], by rw [if_neg hk]; exact h1, fun k hk' => f1 k (by omega), fun j hj => ?_⟩
    rw [f1 36 (by decide)]
/-- what the reference writes as a first piece leaves -/
def gh_m0 (a : me_S) (p i n c k o : Nat) (t : List (Nat × Nat × Nat)) : me_S := me_S.s_ro (me_S.s_lr (me_S.s_rg (me_S.s_rh (me_S.s_q a (me_fu a.q (5 * (2 * n + c) + k) t)) (me_fu a.rh (5 * (2 * n + c) + k) (some o))) (me_fu a.rg (5 * (2 * n + c) + k) (a.bt + 1))) (me_fu a.lr (5 * (2 * n + c) + o) k)) (if i = a.bo p then me_fu a.ro (5 * (2 * n + c) + k) none else a.ro)
theorem m_gv290 {a : me_S} {μ : me_M} (hM : me_RM a μ) {p i n c k o : Nat} {e : Nat × Nat × Nat} {t : List (Nat × Nat × Nat)} (hn : n < 16) (hc : c < 2) (hk : k < 5) (ho : o < 5) (hq : a.q (5 * (2 * n + c) + k) = e :: t) (h4 : t.length < 4) : ∃ μ', f_M_gives_b290 μ (me_N n) (me_N c) (me_N k) (me_N o) (me_N p) (me_bi (decide (i = a.bo p))) = f_M_gives_b359 μ' (me_N o) (me_N p) (me_bi (decide (i = a.bo p))) ∧ me_RM (gh_m0 a p i n c k o t) μ' ∧ μ' 36 0 5 = 1 ∧ (∀ k', ¬ (k' = 36 ∨ (53 ≤ k' ∧ k' ≤ 72)) → μ' k' = μ k') ∧ ∀ j, ¬ j = 5 → μ' 36 0 j = μ 36 0 j := by
  have h1 : me_RM a (me_up μ 36 0 5 1) := hM.w_mv 1
  obtain ⟨μ3, d1, d2, d3⟩ := m_drop h1 (j := 0) hn hc hk (by rw [hq, List.length_cons]; omega) (by rw [hq, List.length_cons]; omega)
  rw [hq, List.eraseIdx_cons_zero] at d2
  have d1 : f_M_drops (me_up μ 36 0 5 1) (me_N n) (me_N c) (me_N k) 0 = some (μ3, ()) := d1
  have zb : μ3 36 0 4 = me_N a.bt := by rw [d3 36 (by decide), me_up_jn (by decide)]; exact hM.bt
  have z5 : μ3 36 0 5 = 1 := by rw [d3 36 (by decide), me_up_at]
  have h15 := ((d2.w_rh (2 * n + c) k (some o) hk).w_rg (2 * n + c) k (a.bt + 1) hk).w_lr (2 * n + c) o k ho
  have f15 : ∀ k', ¬ (k' = 36 ∨ (53 ≤ k' ∧ k' ≤ 72)) → me_up (me_up (me_up μ3 66 (2 * n + c) k (me_Op (some o))) 69 (2 * n + c) k (me_N (a.bt + 1))) 72 (2 * n + c) o (me_N k) k' = μ k' := fun k' h => by
    funext x y
    rw [me_up_kn (by omega), me_up_kn (by omega), me_up_kn (by omega), d3 k' (by omega), me_up_kn (by omega)]
  have g15 : ∀ j, me_up (me_up (me_up μ3 66 (2 * n + c) k (me_Op (some o))) 69 (2 * n + c) k (me_N (a.bt + 1))) 72 (2 * n + c) o (me_N k) 36 0 j = if j = 5 then 1 else μ 36 0 j := fun j => by
    rw [me_up_kn (by decide), me_up_kn (by decide), me_up_kn (by decide), d3 36 (by decide), me_up_ap]
    by_cases e : j = 5
    · rw [if_pos ⟨rfl, rfl, e⟩, if_pos e]
    · rw [if_neg (fun q => e q.2.2), if_neg e]
  have eqn : f_M_gives_b290 μ (me_N n) (me_N c) (me_N k) (me_N o) (me_N p) (me_bi (decide (i = a.bo p))) = if me_bi (decide (i = a.bo p)) = 0 then f_M_gives_b359 (me_up (me_up (me_up μ3 66 (2 * n + c) k (me_Op (some o))) 69 (2 * n + c) k (me_N (a.bt + 1))) 72 (2 * n + c) o (me_N k)) (me_N o) (me_N p) (me_bi (decide (i = a.bo p))) else f_M_gives_b359 (me_up (me_up (me_up (me_up μ3 66 (2 * n + c) k (me_Op (some o))) 69 (2 * n + c) k (me_N (a.bt + 1))) 72 (2 * n + c) o (me_N k)) 63 (2 * n + c) k (-1)) (me_N o) (me_N p) (me_bi (decide (i = a.bo p))) := by
    unfold f_M_gives_b290
    rw [me_lt_s, d1, me_b2_s]
    simp only [me_gd_n (show n < 2147483648 by omega) hn, me_gd_n (show c < 2147483648 by omega) hc, me_gd_n (show k < 2147483648 by omega) hk, me_gd_n (show o < 2147483648 by omega) ho, me_N_ix (show n < 2147483648 by omega), me_N_ix (show c < 2147483648 by omega), me_N_ix (show k < 2147483648 by omega), me_N_ix (show o < 2147483648 by omega), me_lt_s, me_up_kn (show ¬ 36 = 66 by decide), zb, me_N_1, me_N_add]
    rfl
  rw [eqn]
  by_cases g : i = a.bo p
  · rw [decide_eq_true g, if_neg (by decide)]
    refine ⟨_, rfl, (h15.w_ro (2 * n + c) k none hk).eq ⟨rfl, rfl, rfl, rfl, rfl, rfl, rfl, rfl, rfl, rfl, rfl, rfl, rfl, rfl, rfl, rfl, rfl, rfl, rfl, (if_pos g).symm, rfl, rfl, rfl, rfl, rfl, rfl, rfl, rfl, rfl, rfl, rfl, rfl, rfl, rfl, rfl, rfl, rfl⟩, ?_, fun k' h => ?_, fun j hj => ?_⟩
    · rw [me_up_kn (by decide), g15, if_pos rfl]
    · funext x y
      rw [me_up_kn (by omega), f15 k' h]
    · rw [me_up_kn (by decide), g15, if_neg hj]
  · rw [decide_eq_false g, if_pos (by rfl)]
    refine ⟨_, rfl, h15.eq ⟨rfl, rfl, rfl, rfl, rfl, rfl, rfl, rfl, rfl, rfl, rfl, rfl, rfl, rfl, rfl, rfl, rfl, rfl, rfl, (if_neg g).symm, rfl, rfl, rfl, rfl, rfl, rfl, rfl, rfl, rfl, rfl, rfl, rfl, rfl, rfl, rfl, rfl, rfl⟩, ?_, fun k' h => f15 k' h, fun j hj => ?_⟩
    · rw [g15, if_pos rfl]
    · rw [g15, if_neg hj]
theorem m_gv359 {a : me_S} {μ : me_M} (hM : me_RM a μ) {p o : Nat} {b : Bool} (ho : o < 5) (hp : p < a.np) (hp2 : p < 200) (hg : a.gl p < 16) (hpl : a.kd p = 113 → a.pl p < 8 ∧ 1 ≤ a.ow ∧ a.np < 200) : ∃ μ', f_M_gives_b359 μ (me_N o) (me_N p) (me_bi b) = some (μ', 1) ∧ me_RM (if b = true ∧ o = 4 then (if a.kd p = 113 then gh_aq (gh_dl a p) p else gh_dl a p) else a) μ' ∧ (∀ k, ¬ ((36 ≤ k ∧ k ≤ 49) ∨ k = 76) → μ' k = μ k) ∧ ∀ j, ¬ j = 19 → μ' 36 0 j = μ 36 0 j := by
  unfold f_M_gives_b359
  cases b with
  | false =>
    rw [if_pos (by rfl), if_neg (fun q => by cases q.1)]
    exact ⟨μ, rfl, hM, fun k _ => rfl, fun j _ => rfl⟩
  | true =>
    rw [if_neg (by decide)]
    by_cases e : o = 4
    · obtain ⟨μ', d1, d2, d3, d4⟩ := m_deliver hM hp hp2 hg hpl
      rw [if_pos (by rw [e]; rfl), if_pos ⟨rfl, e⟩, d1, me_b2_s]
      exact ⟨μ', rfl, d2, d3, d4⟩
    · rw [if_neg (by rw [me_N_4, me_N_inj (by omega) (by omega)]; exact e), if_neg (fun q => e q.2)]
      exact ⟨μ, rfl, hM, fun k _ => rfl, fun j _ => rfl⟩
/-- what the reference writes as a piece comes into a row -/
theorem m_gv265 {a : me_S} {μ : me_M} (hM : me_RM a μ) {p i n c k o n' y : Nat} {e : Nat × Nat × Nat} {t : List (Nat × Nat × Nat)} (hn : n < 16) (hc : c < 2) (hk : k < 5) (ho : o < 4) (hn' : n' < 16) (hy : y < 5) (hne : ¬ 5 * (2 * n' + c) + y = 5 * (2 * n + c) + k) (hq : a.q (5 * (2 * n + c) + k) = e :: t) (h4 : t.length < 4) (hl : (a.q (5 * (2 * n' + c) + y)).length < 4) : ∃ μ', f_M_gives_b265 μ (me_N n) (me_N c) (me_N k) (me_N o) (me_N (8 * p + i)) (me_N p) (me_bi (decide (i = a.bo p))) (me_N n') (me_N y) = some (μ', 1) ∧ me_RM (gh_m0 (me_S.s_ro (me_S.s_q a (me_fu a.q (5 * (2 * n' + c) + y) (a.q (5 * (2 * n' + c) + y) ++ [(p, i, a.bt + 1)]))) (me_fu a.ro (5 * (2 * n' + c) + y) (some p))) p i n c k o t) μ' ∧ μ' 36 0 5 = 1 ∧ (∀ k', ¬ (k' = 36 ∨ (53 ≤ k' ∧ k' ≤ 72)) → μ' k' = μ k') ∧ ∀ j, ¬ j = 5 → μ' 36 0 j = μ 36 0 j := by
  obtain ⟨μ2, c1, c2, c3, c4, c5⟩ := m_add hM (p := p) (i := i) hn' hc hy hl
  have h6 : me_RM (me_S.s_ro (me_S.s_q a (me_fu a.q (5 * (2 * n' + c) + y) (a.q (5 * (2 * n' + c) + y) ++ [(p, i, a.bt + 1)]))) (me_fu a.ro (5 * (2 * n' + c) + y) (some p))) (me_up μ2 63 (2 * n' + c) y (me_N p)) := c2.w_ro (2 * n' + c) y (some p) hy
  obtain ⟨μ3, d1, d2, d3, d4, d5⟩ := m_gv290 h6 (p := p) (i := i) (o := o) hn hc hk (by omega) (e := e) (t := t) (by
    show me_fu a.q (5 * (2 * n' + c) + y) _ (5 * (2 * n + c) + k) = _
    rw [me_fu_ne (fun q => hne q.symm)]
    exact hq) h4
  have d1 : f_M_gives_b290 (me_up μ2 63 (2 * n' + c) y (me_N p)) (me_N n) (me_N c) (me_N k) (me_N o) (me_N p) (me_bi (decide (i = a.bo p))) = f_M_gives_b359 μ3 (me_N o) (me_N p) (me_bi (decide (i = a.bo p))) := d1
  refine ⟨μ3, ?_, d2, d3, fun k' h => ?_, fun j hj => ?_⟩
  · unfold f_M_gives_b265
    rw [c1, me_b2_s]
    simp only [me_gd_n (show n' < 2147483648 by omega) hn', me_gd_n (show c < 2147483648 by omega) hc, me_gd_n (show y < 2147483648 by omega) hy, me_N_ix (show n' < 2147483648 by omega), me_N_ix (show c < 2147483648 by omega), me_N_ix (show y < 2147483648 by omega), me_lt_s, d1]
    unfold f_M_gives_b359
    by_cases g : me_bi (decide (i = a.bo p)) = 0
    · rw [if_pos g]
    · rw [if_neg g, if_neg (by rw [me_N_4, me_N_inj (by omega) (by omega)]; omega)]
  · rw [d4 k' h]
    funext x z
    rw [me_up_kn (by omega), c4 k' (by omega)]
  · rw [d5 j hj, me_up_kn (by decide), c5 j hj]
