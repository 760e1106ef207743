/-! the class's rows: a piece copied, given, added, dropped -/
theorem y_copy {μ : me_M} {r x y : Nat} (hx : x < 4) (hy : y < 4) : ∃ μ', f_Row_copyPiece μ r (me_N x) (me_N y) = some (μ', ()) ∧ ∀ k i j, μ' k i j = if (k = 18 ∨ k = 19 ∨ k = 20) ∧ i = r ∧ j = y then μ k r x else μ k i j := by
  unfold f_Row_copyPiece
  simp only [me_gd_n (show x < 2147483648 by omega) hx, me_gd_n (show y < 2147483648 by omega) hy, me_lt_s, me_N_ix (show x < 2147483648 by omega), me_N_ix (show y < 2147483648 by omega)]
  refine ⟨_, rfl, ?_⟩
  intro k i j
  by_cases h : (k = 18 ∨ k = 19 ∨ k = 20) ∧ i = r ∧ j = y
  · rw [if_pos h]
    obtain ⟨h1, h2, h3⟩ := h
    rcases h1 with h1 | h1 | h1
    · rw [h1, h2, h3, me_up_kn (by decide), me_up_kn (by decide), me_up_at]
    · rw [h1, h2, h3, me_up_kn (by decide), me_up_at, me_up_kn (by decide)]
    · rw [h1, h2, h3, me_up_at, me_up_kn (by decide), me_up_kn (by decide)]
  · rw [if_neg h, me_up_ap, if_neg (by omega), me_up_ap, if_neg (by omega), me_up_ap, if_neg (by omega)]
theorem me_max0 {k : Nat} (h : k < 2147483648) : me_max' 0 (me_N k) = me_N k := by
  unfold me_max'
  by_cases e : k = 0
  · rw [e]
    rfl
  · rw [if_pos (by rw [me_N_0, me_N_lt (by omega) h]; omega)]
theorem y_give1 {r m : Nat} (hm : m ≤ 4) : ∀ (d f i : Nat) (μ : me_M), μ 17 r 3 = me_N m → i + d = m → d < f → 1 ≤ i → ∃ μ', f_Row_giveFirst_h16 f μ r (me_N i) = some (μ', ()) ∧ (∀ k i' j, ¬ ((k = 17 ∧ i' = r ∧ j = 3) ∨ ((k = 18 ∨ k = 19 ∨ k = 20) ∧ i' = r)) → μ' k i' j = μ k i' j) ∧ μ' 17 r 3 = me_N (m - 1) ∧ ∀ kk, (kk = 18 ∨ kk = 19 ∨ kk = 20) → (∀ j, i ≤ j + 1 → j + 1 < m → μ' kk r j = μ kk r (j + 1)) ∧ (∀ j, j + 1 < i → μ' kk r j = μ kk r j) := by
  intro d
  induction d with
  | zero =>
    intro f i μ h1 h2 h3 h4
    obtain ⟨f, rfl⟩ : ∃ g, f = g + 1 := ⟨f - 1, by omega⟩
    refine ⟨me_up μ 17 r 3 (me_N (m - 1)), ?_, ?_, me_up_at, ?_⟩
    · show f_Row_giveFirst_b16 _ _ _ _ = _
      unfold f_Row_giveFirst_b16
      rw [h1, if_pos (by rw [me_N_le (by omega) (by omega)]; omega), me_lt_s, me_N_1, me_N_sub (by omega), me_max0 (by omega)]
    · intro k i' j h
      rw [me_up_ap, if_neg (by omega)]
    · intro kk hk
      exact ⟨fun j a b => by omega, fun j a => me_up_kn (by omega)⟩
  | succ d ih =>
    intro f i μ h1 h2 h3 h4
    obtain ⟨f, rfl⟩ : ∃ g, f = g + 1 := ⟨f - 1, by omega⟩
    obtain ⟨μ4, c1, c2⟩ := y_copy (μ := μ) (r := r) (x := i) (y := i - 1) (by omega) (by omega)
    obtain ⟨μ', g1, g2, g3, g4⟩ := ih f (i + 1) μ4 (by rw [c2, if_neg (by omega)]; exact h1) (by omega) (by omega) (by omega)
    refine ⟨μ', ?_, ?_, g3, ?_⟩
    · show f_Row_giveFirst_b16 _ _ _ _ = _
      unfold f_Row_giveFirst_b16
      rw [h1, if_neg (by rw [me_N_le (by omega) (by omega)]; omega), me_N_1, me_N_sub (by omega), c1, me_b2_s, me_N_inc, me_lt_s]
      exact g1
    · intro k i' j h
      rw [g2 k i' j h, c2, if_neg (by omega)]
    · intro kk hk
      obtain ⟨k1, k2⟩ := g4 kk hk
      refine ⟨fun j a b => ?_, fun j a => ?_⟩
      · by_cases e : i = j + 1
        · rw [k2 j (by omega), c2, if_pos ⟨hk, rfl, by omega⟩, e]
        · rw [k1 j (by omega) b, c2, if_neg (by omega)]
      · rw [k2 j (by omega), c2, if_neg (by omega)]
theorem y_give {a : me_S} {μ : me_M} (hC : me_RC a μ) {r g : Nat} (hr : r < 160) {e : Nat × Nat × Nat} {t : List (Nat × Nat × Nat)} (hq : a.q r = e :: t) (h4 : t.length < 4) : (∃ μ', f_Row_giveFirst μ r 0 (me_N g) = some (μ', ()) ∧ me_RC (me_S.s_q (me_S.s_rg a (me_fu a.rg r g)) (me_fu a.q r t)) μ' ∧ ∀ k, ¬ (17 ≤ k ∧ k ≤ 20) → μ' k = μ k) ∧ (∃ μ', f_Row_giveFirst μ r 1 (me_N g) = some (μ', ()) ∧ me_RC (me_S.s_q (me_S.s_ro (me_S.s_rg a (me_fu a.rg r g)) (me_fu a.ro r none)) (me_fu a.q r t)) μ' ∧ ∀ k, ¬ (17 ≤ k ∧ k ≤ 20) → μ' k = μ k) := by
  have hn := hC.qn r hr
  rw [hq, List.length_cons] at hn
  have hc : ∀ j e', t[j]? = some e' → j < t.length ∧ μ 18 r (j + 1) = me_N e'.1 ∧ μ 19 r (j + 1) = me_N e'.2.1 ∧ μ 20 r (j + 1) = me_N e'.2.2 := fun j e' he => by
    have he2 : (a.q r)[j + 1]? = some e' := by rw [hq, List.getElem?_cons_succ]; exact he
    exact ⟨(List.getElem?_eq_some_iff.mp he).1, hC.q1 r (j + 1) e' hr he2, hC.q2 r (j + 1) e' hr he2, hC.q3 r (j + 1) e' hr he2⟩
  constructor
  · obtain ⟨μ', g1, g2, g3, g4⟩ := y_give1 (r := r) (m := t.length + 1) (by omega) t.length me_FU 1 (me_up μ 17 r 7 (me_N g)) (by rw [me_up_jn (by decide)]; exact hn) (by omega) (by unfold me_FU; omega) (by omega)
    refine ⟨μ', ?_, (hC.w_rg r g).w_q g2 g3 (fun j e' he => ?_), fun k hk => ?_⟩
    · unfold f_Row_giveFirst
      rw [me_lt_s, if_pos rfl]
      exact g1
    · obtain ⟨c1, c2, c3, c4⟩ := hc j e' he
      refine ⟨?_, ?_, ?_⟩
      · rw [(g4 18 (by decide)).1 j (by omega) (by omega), me_up_kn (by decide), c2]
      · rw [(g4 19 (by decide)).1 j (by omega) (by omega), me_up_kn (by decide), c3]
      · rw [(g4 20 (by decide)).1 j (by omega) (by omega), me_up_kn (by decide), c4]
    · funext i j
      rw [g2 k i j (by omega), me_up_kn (by omega)]
  · obtain ⟨μ', g1, g2, g3, g4⟩ := y_give1 (r := r) (m := t.length + 1) (by omega) t.length me_FU 1 (me_up (me_up μ 17 r 7 (me_N g)) 17 r 5 (me_Op none)) (by rw [me_up_jn (by decide), me_up_jn (by decide)]; exact hn) (by omega) (by unfold me_FU; omega) (by omega)
    refine ⟨μ', ?_, ((hC.w_rg r g).w_ro r none).w_q g2 g3 (fun j e' he => ?_), fun k hk => ?_⟩
    · unfold f_Row_giveFirst
      rw [me_lt_s, if_neg (by decide), me_lt_s]
      exact g1
    · obtain ⟨c1, c2, c3, c4⟩ := hc j e' he
      refine ⟨?_, ?_, ?_⟩
      · rw [(g4 18 (by decide)).1 j (by omega) (by omega), me_up_kn (by decide), me_up_kn (by decide), c2]
      · rw [(g4 19 (by decide)).1 j (by omega) (by omega), me_up_kn (by decide), me_up_kn (by decide), c3]
      · rw [(g4 20 (by decide)).1 j (by omega) (by omega), me_up_kn (by decide), me_up_kn (by decide), c4]
    · funext i j
      rw [g2 k i j (by omega), me_up_kn (by omega), me_up_kn (by omega)]
theorem me_lst1 {l : List (Nat × Nat × Nat)} {x e : Nat × Nat × Nat} {j : Nat} (h : (l ++ [x])[j]? = some e) : l[j]? = some e ∧ j < l.length ∨ j = l.length ∧ e = x := by
  rcases Nat.lt_trichotomy j l.length with g | g | g
  · left
    rw [List.getElem?_append_left g] at h
    exact ⟨h, g⟩
  · right
    rw [g, List.getElem?_append_right (Nat.le_refl _), Nat.sub_self] at h
    exact ⟨g, (Option.some.inj h).symm⟩
  · rw [List.getElem?_eq_none (by rw [List.length_append]; show l.length + 1 ≤ j; omega)] at h
    cases h
theorem y_add {a : me_S} {μ : me_M} (hC : me_RC a μ) {r p i g : Nat} (hr : r < 160) (hl : (a.q r).length < 4) : ∃ μ', f_Row_addPiece μ r (me_N p) (me_N i) (me_N g) = some (μ', ()) ∧ me_RC (me_S.s_q a (me_fu a.q r (a.q r ++ [(p, i, g)]))) μ' ∧ ∀ k, ¬ (17 ≤ k ∧ k ≤ 20) → μ' k = μ k := by
  have hn := hC.qn r hr
  unfold f_Row_addPiece
  rw [hn, if_neg (by rw [me_N_4, me_N_le (by omega) (by omega)]; omega), me_gd_n (by omega) hl, me_lt_s, me_up_kn (by decide), hn, me_gd_n (by omega) hl, me_lt_s, me_up_kn (by decide), me_up_kn (by decide), hn, me_gd_n (by omega) hl, me_lt_s, me_up_kn (by decide), me_up_kn (by decide), me_up_kn (by decide), hn, me_lt_s, me_N_ix (by omega), me_N_1, me_N_add]
  refine ⟨_, rfl, hC.w_q (fun k i' j h => ?_) ?_ (fun j e he => ?_), fun k hk => ?_⟩
  · rw [me_up_ap, if_neg (by omega), me_up_ap, if_neg (by omega), me_up_ap, if_neg (by omega), me_up_ap, if_neg (by omega)]
  · rw [me_up_at, List.length_append]
    rfl
  · rcases me_lst1 he with ⟨h1, h2⟩ | ⟨h1, h2⟩
    · refine ⟨?_, ?_, ?_⟩
      · rw [me_up_kn (by decide), me_up_kn (by decide), me_up_kn (by decide), me_up_jn (by omega)]
        exact hC.q1 r j e hr h1
      · rw [me_up_kn (by decide), me_up_kn (by decide), me_up_jn (by omega), me_up_kn (by decide)]
        exact hC.q2 r j e hr h1
      · rw [me_up_kn (by decide), me_up_jn (by omega), me_up_kn (by decide), me_up_kn (by decide)]
        exact hC.q3 r j e hr h1
    · rw [h1, h2]
      refine ⟨?_, ?_, ?_⟩
      · rw [me_up_kn (by decide), me_up_kn (by decide), me_up_kn (by decide), me_up_at]
      · rw [me_up_kn (by decide), me_up_kn (by decide), me_up_at]
      · rw [me_up_kn (by decide), me_up_at]
  · funext i' j
    rw [me_up_kn (by omega), me_up_kn (by omega), me_up_kn (by omega), me_up_kn (by omega)]
theorem y_drop1 {r p : Nat} (hp : p < 1000) : ∀ (l : List (Nat × Nat × Nat)) (f i kk : Nat) (μ : me_M), μ 17 r 3 = me_N (i + l.length) → i + l.length ≤ 4 → kk ≤ i → l.length < f → (∀ e ∈ l, e.1 < 1000) → (∀ j e, l[j]? = some e → μ 18 r (i + j) = me_N e.1 ∧ μ 19 r (i + j) = me_N e.2.1 ∧ μ 20 r (i + j) = me_N e.2.2) → ∃ μ', f_Row_dropPacket_h4 f μ r (me_N p) (me_N kk) (me_N i) = some (μ', ()) ∧ (∀ k i' j, ¬ ((k = 17 ∧ i' = r ∧ (j = 3 ∨ j = 5)) ∨ ((k = 18 ∨ k = 19 ∨ k = 20) ∧ i' = r)) → μ' k i' j = μ k i' j) ∧ μ' 17 r 3 = me_N (kk + (me_dr p l).length) ∧ (μ' 17 r 5 = if μ 17 r 5 = me_N p then -1 else μ 17 r 5) ∧ (∀ j e, (me_dr p l)[j]? = some e → μ' 18 r (kk + j) = me_N e.1 ∧ μ' 19 r (kk + j) = me_N e.2.1 ∧ μ' 20 r (kk + j) = me_N e.2.2) ∧ ∀ k, (k = 18 ∨ k = 19 ∨ k = 20) → ∀ j, j < kk → μ' k r j = μ k r j := by
  intro l
  induction l with
  | nil =>
    intro f i kk μ h1 h2 h3 h4 h5 h6
    obtain ⟨f, rfl⟩ : ∃ g, f = g + 1 := ⟨f - 1, by omega⟩
    have h1 : μ 17 r 3 = me_N i := h1
    have h2 : i ≤ 4 := h2
    by_cases g : μ 17 r 5 = me_N p
    · refine ⟨me_up (me_up μ 17 r 3 (me_N kk)) 17 r 5 (-1), ?_, ?_, ?_, ?_, ?_, ?_⟩
      · show f_Row_dropPacket_b4 _ _ _ _ _ _ = _
        unfold f_Row_dropPacket_b4
        rw [h1, if_pos (by rw [me_N_le (by omega) (by omega)]; omega), me_lt_s, me_up_jn (by decide), if_pos g, me_lt_s]
      · intro k i' j h
        rw [me_up_ap, if_neg (by omega), me_up_ap, if_neg (by omega)]
      · rw [me_up_jn (by decide), me_up_at]
        rfl
      · rw [me_up_at, if_pos g]
      · intro j e he
        exact absurd he (by unfold me_dr; simp)
      · intro k hk j hj
        rw [me_up_kn (by omega), me_up_kn (by omega)]
    · refine ⟨me_up μ 17 r 3 (me_N kk), ?_, ?_, ?_, ?_, ?_, ?_⟩
      · show f_Row_dropPacket_b4 _ _ _ _ _ _ = _
        unfold f_Row_dropPacket_b4
        rw [h1, if_pos (by rw [me_N_le (by omega) (by omega)]; omega), me_lt_s, me_up_jn (by decide), if_neg g]
      · intro k i' j h
        rw [me_up_ap, if_neg (by omega)]
      · rw [me_up_at]
        rfl
      · rw [me_up_jn (by decide), if_neg g]
      · intro j e he
        exact absurd he (by unfold me_dr; simp)
      · intro k hk j hj
        rw [me_up_kn (by omega)]
  | cons e0 l ih =>
    intro f i kk μ h1 h2 h3 h4 h5 h6
    obtain ⟨f, rfl⟩ : ∃ g, f = g + 1 := ⟨f - 1, by omega⟩
    rw [List.length_cons] at h1 h2 h4
    obtain ⟨z1, z2, z3⟩ := h6 0 e0 rfl
    rw [Nat.add_zero] at z1 z2 z3
    have he0 := h5 e0 List.mem_cons_self
    have hstep : f_Row_dropPacket_h4 (f + 1) μ r (me_N p) (me_N kk) (me_N i) = if e0.1 = p then f_Row_dropPacket_h4 f μ r (me_N p) (me_N kk) (me_N (i + 1)) else me_b2 (f_Row_copyPiece μ r (me_N i) (me_N kk)) (fun μ9 _ => f_Row_dropPacket_h4 f μ9 r (me_N p) (me_N (kk + 1)) (me_N (i + 1))) := by
      show f_Row_dropPacket_b4 _ _ _ _ _ _ = _
      unfold f_Row_dropPacket_b4
      rw [h1, if_neg (by rw [me_N_le (by omega) (by omega)]; omega), me_gd_n (by omega) (by omega), me_N_ix (by omega), z1]
      simp only [me_N_inj (show e0.1 < 2147483648 by omega) (show p < 2147483648 by omega), me_lt_s, me_N_inc]
    by_cases g : e0.1 = p
    · have hd : me_dr p (e0 :: l) = me_dr p l := by
        unfold me_dr
        rw [List.filter_cons_of_neg]
        unfold me_pq
        rw [decide_eq_true g]
        decide
      rw [if_pos g] at hstep
      rw [hstep, hd]
      obtain ⟨μ', k1, k2, k3, k4, k5, k6⟩ := ih f (i + 1) kk μ (by rw [h1]; congr 1; omega) (by omega) (by omega) (by omega) (fun e he => h5 e (List.mem_cons_of_mem _ he)) (fun j e he => by
        have := h6 (j + 1) e (by rw [List.getElem?_cons_succ]; exact he)
        rw [show i + (j + 1) = i + 1 + j by omega] at this
        exact this)
      exact ⟨μ', k1, k2, k3, k4, k5, k6⟩
    · have hd : me_dr p (e0 :: l) = e0 :: me_dr p l := by
        unfold me_dr
        rw [List.filter_cons_of_pos]
        unfold me_pq
        rw [decide_eq_false g]
        rfl
      rw [if_neg g] at hstep
      obtain ⟨μ9, c1, c2⟩ := y_copy (μ := μ) (r := r) (x := i) (y := kk) (by omega) (by omega)
      obtain ⟨μ', k1, k2, k3, k4, k5, k6⟩ := ih f (i + 1) (kk + 1) μ9 (by rw [c2, if_neg (by omega), h1]; congr 1; omega) (by omega) (by omega) (by omega) (fun e he => h5 e (List.mem_cons_of_mem _ he)) (fun j e he => by
        have := h6 (j + 1) e (by rw [List.getElem?_cons_succ]; exact he)
        rw [show i + (j + 1) = i + 1 + j by omega] at this
        rw [c2, if_neg (by omega), c2, if_neg (by omega), c2, if_neg (by omega)]
        exact this)
      rw [hstep, hd, c1, me_b2_s]
      refine ⟨μ', k1, ?_, ?_, ?_, ?_, ?_⟩
      · intro k i' j h
        rw [k2 k i' j h, c2, if_neg (by omega)]
      · rw [k3, List.length_cons]
        congr 1
        omega
      · have q5 : μ9 17 r 5 = μ 17 r 5 := by rw [c2, if_neg (by omega)]
        rw [k4, q5]
      · intro j e he
        cases j with
        | zero =>
          have he : e0 = e := Option.some.inj he
          rw [← he, Nat.add_zero, k6 18 (by decide) kk (by omega), k6 19 (by decide) kk (by omega), k6 20 (by decide) kk (by omega), c2, if_pos ⟨by decide, rfl, rfl⟩, c2, if_pos ⟨by decide, rfl, rfl⟩, c2, if_pos ⟨by decide, rfl, rfl⟩]
          exact ⟨z1, z2, z3⟩
        | succ j =>
          rw [List.getElem?_cons_succ] at he
          have := k5 j e he
          rw [show kk + 1 + j = kk + (j + 1) by omega] at this
          exact this
      · intro k hk j hj
        rw [k6 k hk j (by omega), c2, if_neg (by omega)]
theorem y_drop {a : me_S} {μ : me_M} (hC : me_RC a μ) {r p : Nat} (hr : r < 160) (hp : p < 1000) (h4 : (a.q r).length ≤ 4) (he : ∀ e ∈ a.q r, e.1 < 1000) (hb : ∀ n, a.ro r = some n → n < 1000) : ∃ μ', f_Row_dropPacket μ r (me_N p) = some (μ', ()) ∧ me_RC (me_S.s_q (me_S.s_ro a (me_fu a.ro r (if a.ro r = some p then none else a.ro r))) (me_fu a.q r (me_dr p (a.q r)))) μ' ∧ ∀ k, ¬ (17 ≤ k ∧ k ≤ 20) → μ' k = μ k := by
  obtain ⟨μ', k1, k2, k3, k4, k5, k6⟩ := y_drop1 (r := r) hp (a.q r) me_FU 0 0 μ (by rw [Nat.zero_add]; exact hC.qn r hr) (by omega) (Nat.le_refl _) (by unfold me_FU; omega) he (fun j e he => by
    rw [Nat.zero_add]
    exact ⟨hC.q1 r j e hr he, hC.q2 r j e hr he, hC.q3 r j e hr he⟩)
  have e5 : μ' 17 r 5 = me_Op (if a.ro r = some p then none else a.ro r) := by
    rw [k4, hC.ro r hr]
    cases ho : a.ro r with
    | none =>
      rw [if_neg (show ¬ (none : Option Nat) = some p from fun q => by cases q), if_neg]
      exact me_N_m1n (by omega)
    | some n =>
      have hn := hb n ho
      by_cases g : n = p
      · rw [g, if_pos rfl]
        exact if_pos rfl
      · rw [if_neg, if_neg (fun q => g (Option.some.inj q))]
        show ¬ me_N n = me_N p
        rw [me_N_inj (by omega) (by omega)]
        exact g
  refine ⟨μ', k1, ?_, fun k hk => ?_⟩
  · have h1 : me_RC (me_S.s_ro a (me_fu a.ro r (if a.ro r = some p then none else a.ro r))) (me_up μ 17 r 5 (me_Op (if a.ro r = some p then none else a.ro r))) := hC.w_ro r _
    refine h1.w_q (fun k i j h => ?_) (by rw [k3, Nat.zero_add]) (fun j e he => ?_)
    · by_cases g : k = 17 ∧ i = r ∧ j = 5
      · rw [g.1, g.2.1, g.2.2, e5, me_up_at]
      · rw [k2 k i j (by omega), me_up_ap, if_neg g]
    · have := k5 j e he
      rw [Nat.zero_add] at this
      exact this
  · funext i j
    rw [k2 k i j (by omega)]
