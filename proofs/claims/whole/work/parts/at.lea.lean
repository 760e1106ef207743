/-! leads -/
def gh_B (s : Nat → Bool) : Nat := (if s 0 = true then 1 else 0) + ((if s 1 = true then 2 else 0) + ((if s 2 = true then 4 else 0) + (if s 3 = true then 8 else 0)))
theorem gh_B_lt {s : Nat → Bool} : gh_B s < 16 := by
  unfold gh_B
  repeat' split
  all_goals omega
theorem gh_B_cg {s t : Nat → Bool} (h : ∀ u, u < 4 → s u = t u) : gh_B s = gh_B t := by
  unfold gh_B
  rw [h 0 (by decide), h 1 (by decide), h 2 (by decide), h 3 (by decide)]
theorem gh_B_or {s : Nat → Bool} {t : Nat} (ht : t < 4) : me_N (gh_B s) ||| ((1 : Int32) <<< (me_N t &&& 31)) = me_N (gh_B (me_fu s t true)) := by
  have e : ∀ u, me_fu s t true u = if u = t then true else s u := fun u => rfl
  unfold gh_B
  rw [e, e, e, e]
  match t, ht with
  | 0, _ => cases s 0 <;> cases s 1 <;> cases s 2 <;> cases s 3 <;> decide
  | 1, _ => cases s 0 <;> cases s 1 <;> cases s 2 <;> cases s 3 <;> decide
  | 2, _ => cases s 0 <;> cases s 1 <;> cases s 2 <;> cases s 3 <;> decide
  | 3, _ => cases s 0 <;> cases s 1 <;> cases s 2 <;> cases s 3 <;> decide
theorem gh_B_cnt {s : Nat → Bool} : gh_bits (gh_B s) 16 = me_sm (fun u => if s u = true then 1 else 0) 0 4 := by
  unfold gh_B
  show _ = (if s 0 = true then 1 else 0) + ((if s 1 = true then 1 else 0) + ((if s 2 = true then 1 else 0) + ((if s 3 = true then 1 else 0) + 0)))
  cases s 0 <;> cases s 1 <;> cases s 2 <;> cases s 3 <;> rfl
def gh_cg (a : me_S) (n g d : Nat) : Bool := gh_lk a n d && gh_mg a n g d
theorem y_ow46 {a : me_S} {μ : me_M} (hC : me_RC a μ) (hI : me_Iv a) {n' g : Nat} (hn' : n' < a.w * a.h) (hg : g < a.w * a.h) {N D : Int32} {K20 : Int32 → Int32 → Int32 → Int32 → Int32 → Option Int32} : ∀ (k f t : Nat) (s : Nat → Bool), t + k = 4 → k < f → ∃ s', f_Ways_onwardOf_h46 μ K20 f N D (me_N n') (me_N (gh_B s)) (me_N g) (me_N t) = K20 N D (me_N n') (me_N (gh_B s')) (me_N (g + 1)) ∧ ∀ u, u < 4 → s' u = (s u || (decide (t ≤ u) && gh_cg a n' g u)) := by
  intro k
  induction k with
  | zero =>
    intro f t s h1 h2
    obtain ⟨f, rfl⟩ : ∃ g, f = g + 1 := ⟨f - 1, by omega⟩
    refine ⟨s, ?_, fun u hu => by rw [decide_eq_false (by omega), Bool.false_and, Bool.or_false]⟩
    show f_Ways_onwardOf_b46 _ _ _ _ _ _ _ _ _ = _
    unfold f_Ways_onwardOf_b46
    rw [if_pos (by rw [me_N_4, me_N_le (by omega) (by omega)]; omega), me_N_inc, me_lt_s]
  | succ k ih =>
    intro f t s h1 h2
    obtain ⟨f, rfl⟩ : ∃ g, f = g + 1 := ⟨f - 1, by omega⟩
    have eqn : f_Ways_onwardOf_h46 μ K20 (f + 1) N D (me_N n') (me_N (gh_B s)) (me_N g) (me_N t) = f_Ways_onwardOf_h46 μ K20 f N D (me_N n') (me_N (gh_B (me_fu s t (s t || gh_cg a n' g t)))) (me_N g) (me_N (t + 1)) := by
      show f_Ways_onwardOf_b46 _ _ _ _ _ _ _ _ _ = _
      unfold f_Ways_onwardOf_b46
      rw [if_neg (by rw [me_N_4, me_N_le (by omega) (by omega)]; omega), y_cg hC hI hn' hg (by omega), me_bd_s, gh_B_or (by omega), me_N_inc, me_lt_s, me_lt_s, me_lt_s, me_lt_s, me_N_0]
      show (if me_bi (gh_cg a n' g t) = me_N 0 then _ else _) = _
      cases hc : gh_cg a n' g t with
      | false =>
        rw [if_pos (show me_bi false = me_N 0 from rfl), Bool.or_false, me_fu_id rfl]
        congr 1
        show me_N (gh_B s) ||| (0 : Int32) = me_N (gh_B s)
        exact Int32.or_zero
      | true => rw [if_neg (show ¬ me_bi true = me_N 0 by decide), Bool.or_true]
    obtain ⟨s', k1, k2⟩ := ih f (t + 1) (me_fu s t (s t || gh_cg a n' g t)) (by omega) (by omega)
    refine ⟨s', eqn.trans k1, fun u hu => ?_⟩
    rw [k2 u hu, me_fu_ap]
    by_cases e : u = t
    · rw [if_pos e, e, decide_eq_false (by omega), decide_eq_true (Nat.le_refl _), Bool.false_and, Bool.or_false, Bool.true_and]
    · rw [if_neg e, show decide (t + 1 ≤ u) = decide (t ≤ u) from decide_eq_decide.mpr ⟨fun h => by omega, fun h => by omega⟩]
theorem y_ow20 {a : me_S} {μ : me_M} (hC : me_RC a μ) (hI : me_Iv a) {n n' d : Nat} (hn : n < a.w * a.h) (hn' : n' < a.w * a.h) (hd : d < 4) : ∀ (k f g : Nat) (s : Nat → Bool), g + k = a.w * a.h → k < f → ∃ s', f_Ways_onwardOf_h20 μ f (me_N n) (me_N d) (me_N n') (me_N (gh_B s)) (me_N g) = some (me_N (gh_B s')) ∧ ∀ u, u < 4 → s' u = (s u || gh_ex (fun g => gh_cg a n g d && gh_cg a n' g u) g k) := by
  have hwh := hI.wh
  intro k
  induction k with
  | zero =>
    intro f g s h1 h2
    obtain ⟨f, rfl⟩ : ∃ g, f = g + 1 := ⟨f - 1, by omega⟩
    refine ⟨s, ?_, fun u hu => (Bool.or_false _).symm⟩
    show f_Ways_onwardOf_b20 _ _ _ _ _ _ _ = _
    unfold f_Ways_onwardOf_b20
    rw [hC.nn, if_pos (by rw [me_N_le (by omega) (by omega)]; omega)]
  | succ k ih =>
    intro f g s h1 h2
    obtain ⟨f, rfl⟩ : ∃ g, f = g + 1 := ⟨f - 1, by omega⟩
    have e1 : f_Ways_couldGo μ (me_N n) (me_N g) (me_N d) = some (me_bi (gh_cg a n g d)) := y_cg hC hI hn (by omega) hd
    cases hc : gh_cg a n g d with
    | false =>
      obtain ⟨s', k1, k2⟩ := ih f (g + 1) s (by omega) (by omega)
      refine ⟨s', ?_, fun u hu => ?_⟩
      · show f_Ways_onwardOf_b20 _ _ _ _ _ _ _ = _
        unfold f_Ways_onwardOf_b20
        rw [hC.nn, if_neg (by rw [me_N_le (by omega) (by omega)]; omega), e1, hc, me_bd_s, if_pos (show me_bi false = 0 from rfl), me_N_inc, me_lt_s]
        exact k1
      · rw [k2 u hu]
        show _ = (s u || ((gh_cg a n g d && gh_cg a n' g u) || gh_ex (fun g => gh_cg a n g d && gh_cg a n' g u) (g + 1) k))
        rw [hc, Bool.false_and, Bool.false_or]
    | true =>
      obtain ⟨s1, g1, g2⟩ := y_ow46 hC hI hn' (show g < a.w * a.h by omega) (N := me_N n) (D := me_N d) (K20 := f_Ways_onwardOf_h20 μ f) 4 me_FU 0 s (by omega) (by unfold me_FU; omega)
      obtain ⟨s', k1, k2⟩ := ih f (g + 1) s1 (by omega) (by omega)
      refine ⟨s', ?_, fun u hu => ?_⟩
      · show f_Ways_onwardOf_b20 _ _ _ _ _ _ _ = _
        unfold f_Ways_onwardOf_b20
        rw [hC.nn, if_neg (by rw [me_N_le (by omega) (by omega)]; omega), e1, hc, me_bd_s, if_neg (show ¬ me_bi true = 0 by decide)]
        exact g1.trans k1
      · rw [k2 u hu, g2 u hu, decide_eq_true (Nat.zero_le u), Bool.true_and]
        show _ = (s u || ((gh_cg a n g d && gh_cg a n' g u) || gh_ex (fun g => gh_cg a n g d && gh_cg a n' g u) (g + 1) k))
        rw [hc, Bool.true_and, Bool.or_assoc]
theorem gh_ex_and {P : Nat → Bool} {c : Bool} (d i : Nat) : gh_ex (fun g => c && P g) i d = (c && gh_ex P i d) := by
  cases c with
  | true => exact gh_ex_cg d i (fun k _ _ => Bool.true_and _)
  | false =>
    rw [Bool.false_and]
    cases h : gh_ex (fun g => false && P g) i d with
    | false => rfl
    | true =>
      obtain ⟨k, -, -, e⟩ := (gh_ex_iff d i).mp h
      rw [Bool.false_and] at e
      cases e
theorem y_onw {a : me_S} {μ : me_M} (hC : me_RC a μ) (hI : me_Iv a) {n d : Nat} (hn : n < a.w * a.h) (hd : d < 4) (hl : gh_lk a n d = true) : f_Ways_onwardOf μ (me_N n) (me_N d) = some (me_N (gh_B (gh_on a n d))) := by
  have hwh := hI.wh
  have hs : (me_nb a.w a.h n d).isSome = true := by
    unfold gh_lk at hl
    rw [Bool.and_eq_true] at hl
    exact hl.1
  obtain ⟨n', e⟩ := Option.isSome_iff_exists.mp hs
  have hn' := (me_Op_lt hI hn hd e).1
  have eb : gh_bh a n d = n' := by unfold gh_bh; rw [e]; rfl
  have zah : μ 2 0 (n * 4 + d) = me_N n' := by
    have := hC.ah n d hn hd
    rw [e] at this
    exact this
  obtain ⟨s', k1, k2⟩ := y_ow20 hC hI hn hn' hd (a.w * a.h) me_FU 0 (fun _ => false) (Nat.zero_add _) (by unfold me_FU; omega)
  have k1 : f_Ways_onwardOf_h20 μ me_FU (me_N n) (me_N d) (me_N n') 0 0 = some (me_N (gh_B s')) := k1
  unfold f_Ways_onwardOf
  rw [me_N_4, me_N_mul, me_N_add, me_gd_n (by omega) (by omega), me_N_ix (by omega), zah, me_lt_s, k1]
  congr 2
  apply gh_B_cg
  intro u hu
  rw [k2 u hu, Bool.false_or]
  unfold gh_on gh_lt gh_cg
  rw [eb, hl, Bool.true_and, ← gh_ex_and]
  apply gh_ex_cg
  intro g _ _
  rw [Bool.true_and]
  cases gh_lk a n' u <;> cases gh_mg a n g d <;> rfl
/-- where the link l leads -/
def gh_cl (a : me_S) (l u : Nat) : Bool := decide (l / 4 < a.w * a.h) && gh_on a (l / 4) (l % 4) u
theorem y_tr10 {a : me_S} (hI : me_Iv a) {n : Nat} (hn : n < 16) {K2 : me_M → Int32 → Option (me_M × Unit)} : ∀ (k f d : Nat) (μ : me_M), d + k = 4 → k < f → me_RC a μ → ∃ μ', f_Ways_trace_h10 K2 f μ (me_N n) (me_N d) = K2 μ' (me_N (n + 1)) ∧ me_RC a μ' ∧ (∀ l, ¬ (n * 4 + d ≤ l ∧ l < n * 4 + 4) → μ' 28 0 l = μ 28 0 l) ∧ (∀ l, n * 4 + d ≤ l → l < n * 4 + 4 → μ' 28 0 l = me_N (gh_B (gh_cl a l))) ∧ ∀ k', ¬ k' = 28 → μ' k' = μ k' := by
  have hwh := hI.wh
  intro k
  induction k with
  | zero =>
    intro f d μ h1 h2 hC
    obtain ⟨f, rfl⟩ : ∃ g, f = g + 1 := ⟨f - 1, by omega⟩
    refine ⟨μ, ?_, hC, fun _ _ => rfl, fun l a b => by omega, fun _ _ => rfl⟩
    show f_Ways_trace_b10 _ _ _ _ _ = _
    unfold f_Ways_trace_b10
    rw [if_pos (by rw [me_N_4, me_N_le (by omega) (by omega)]; omega), me_N_inc, me_lt_s]
  | succ k ih =>
    intro f d μ h1 h2 hC
    obtain ⟨f, rfl⟩ : ∃ g, f = g + 1 := ⟨f - 1, by omega⟩
    have el : (n * 4 + d) / 4 = n ∧ (n * 4 + d) % 4 = d := ⟨by omega, by omega⟩
    have off : (¬ (n < a.w * a.h ∧ gh_lk a n d = true)) → gh_B (gh_cl a (n * 4 + d)) = 0 := fun h => by
      have : ∀ u, u < 4 → gh_cl a (n * 4 + d) u = false := fun u _ => by
        unfold gh_cl gh_on
        rw [el.1, el.2]
        by_cases e : n < a.w * a.h
        · cases hl : gh_lk a n d with
          | true => exact absurd ⟨e, hl⟩ h
          | false => rw [Bool.false_and, Bool.and_false]
        · rw [decide_eq_false e, Bool.false_and]
      exact (gh_B_cg (t := fun _ => false) this).trans rfl
    have eqn : f_Ways_trace_h10 K2 (f + 1) μ (me_N n) (me_N d) = f_Ways_trace_h10 K2 f (me_up μ 28 0 (n * 4 + d) (me_N (gh_B (gh_cl a (n * 4 + d))))) (me_N n) (me_N (d + 1)) := by
      show f_Ways_trace_b10 _ _ _ _ _ = _
      unfold f_Ways_trace_b10 f_Ways_trace_b45
      have b0 : gh_B (gh_cl a (n * 4 + d)) = 0 → f_Ways_trace_b46 K2 (f_Ways_trace_h10 K2 f) μ (me_N n) (me_N d) 0 = f_Ways_trace_h10 K2 f (me_up μ 28 0 (n * 4 + d) (me_N (gh_B (gh_cl a (n * 4 + d))))) (me_N n) (me_N (d + 1)) := fun h => by
        unfold f_Ways_trace_b46
        rw [if_pos (by rfl), me_N_4, me_N_mul, me_N_add, me_gd_n (by omega) (by omega), me_N_ix (by omega), me_N_inc, me_lt_s, me_lt_s, h]
        rfl
      rw [if_neg (by rw [me_N_4, me_N_le (by omega) (by omega)]; omega)]
      by_cases e : n < a.w * a.h
      · rw [y_hasNode_o hC hI e, me_bd_s, if_neg (by decide), y_lk hC hI e (by omega), me_bd_s]
        cases hl : gh_lk a n d with
        | false =>
          rw [if_pos (show me_bi false = 0 from rfl)]
          exact b0 (off (fun q => by rw [hl] at q; cases q.2))
        | true =>
          have ev : gh_B (gh_on a n d) = gh_B (gh_cl a (n * 4 + d)) := gh_B_cg (fun u _ => by
            unfold gh_cl
            rw [el.1, el.2, decide_eq_true e, Bool.true_and])
          rw [if_neg (show ¬ me_bi true = 0 by decide)]
          unfold f_Ways_trace_b46
          rw [if_neg (by decide), y_onw hC hI e (by omega) hl, me_bd_s, me_N_4, me_N_mul, me_N_add, me_gd_n (by omega) (by omega), me_N_ix (by omega), me_N_inc, me_lt_s, me_lt_s, ev]
      · rw [y_hasNode_n hC hI (fun q => by
          obtain ⟨m, hm, q⟩ := q
          rw [me_N_inj (by omega) (by omega)] at q
          omega), me_bd_s, if_pos (by rfl)]
        exact b0 (off (fun q => e q.1))
    obtain ⟨μ', k1, k2, k3, k4, k5⟩ := ih f (d + 1) _ (by omega) (by omega) (hC.w_k28 0 (n * 4 + d) (me_N (gh_B (gh_cl a (n * 4 + d)))))
    refine ⟨μ', eqn.trans k1, k2, fun l hl => ?_, fun l h1 h2 => ?_, fun k' hk' => ?_⟩
    · rw [k3 l (by omega), me_up_jn (by omega)]
    · by_cases e : l = n * 4 + d
      · rw [e, k3 _ (by omega), me_up_at]
      · exact k4 l (by omega) h2
    · rw [k5 k' hk']
      funext i j
      rw [me_up_kn hk']
theorem y_tr2 {a : me_S} (hI : me_Iv a) : ∀ (k f n : Nat) (μ : me_M), n + k = 16 → k < f → me_RC a μ → (∀ l, l < n * 4 → μ 28 0 l = me_N (gh_B (gh_cl a l))) → ∃ μ', f_Ways_trace_h2 f μ (me_N n) = some (μ', ()) ∧ me_RC a μ' ∧ (∀ l, l < 64 → μ' 28 0 l = me_N (gh_B (gh_cl a l))) ∧ ∀ k', ¬ k' = 28 → μ' k' = μ k' := by
  intro k
  induction k with
  | zero =>
    intro f n μ h1 h2 hC hz
    obtain ⟨f, rfl⟩ : ∃ g, f = g + 1 := ⟨f - 1, by omega⟩
    refine ⟨μ, ?_, hC, fun l hl => hz l (by omega), fun _ _ => rfl⟩
    show f_Ways_trace_b2 _ _ _ = _
    unfold f_Ways_trace_b2
    rw [if_pos (by rw [me_N_16, me_N_le (by omega) (by omega)]; omega)]
  | succ k ih =>
    intro f n μ h1 h2 hC hz
    obtain ⟨f, rfl⟩ : ∃ g, f = g + 1 := ⟨f - 1, by omega⟩
    obtain ⟨μ1, g1, g2, g3, g4, g5⟩ := y_tr10 hI (show n < 16 by omega) (K2 := f_Ways_trace_h2 f) 4 me_FU 0 μ (by omega) (by unfold me_FU; omega) hC
    obtain ⟨μ', k1, k2, k3, k4⟩ := ih f (n + 1) μ1 (by omega) (by omega) g2 (fun l hl => by
      by_cases e : l < n * 4
      · rw [g3 l (by omega)]
        exact hz l e
      · exact g4 l (by omega) (by omega))
    refine ⟨μ', ?_, k2, k3, fun k' hk' => by rw [k4 k' hk', g5 k' hk']⟩
    show f_Ways_trace_b2 _ _ _ = _
    unfold f_Ways_trace_b2
    rw [if_neg (by rw [me_N_16, me_N_le (by omega) (by omega)]; omega)]
    exact g1.trans k1
theorem y_trace {a : me_S} {μ : me_M} (hI : me_Iv a) (hC : me_RC a μ) : ∃ μ', f_Ways_trace μ = some (μ', ()) ∧ me_RC a μ' ∧ (∀ l, l < 64 → μ' 28 0 l = me_N (gh_B (gh_cl a l))) ∧ ∀ k', ¬ k' = 28 → μ' k' = μ k' :=
  y_tr2 hI 16 me_FU 0 μ (by omega) (by unfold me_FU; omega) hC (fun l hl => by omega)
/-- how many it leads to -/
def gh_c4 (s : Nat → Bool) : Nat := me_sm (fun u => if s u = true then 1 else 0) 0 4
theorem gh_c4_le {s : Nat → Bool} : gh_c4 s ≤ 4 := me_sm_l1 (fun u => by split <;> omega) 4 0
theorem y_pairs {a : me_S} {μ : me_M} (hz : ∀ l, l < 64 → μ 28 0 l = me_N (gh_B (gh_cl a l))) : ∀ (k f l c : Nat), l + k = 64 → k < f → f_Ways_countPairs_h4 μ f (me_N c) (me_N l) = some (me_N (c + me_sm (fun l => gh_c4 (gh_cl a l)) l k)) := by
  intro k
  induction k with
  | zero =>
    intro f l c h1 h2
    obtain ⟨f, rfl⟩ : ∃ g, f = g + 1 := ⟨f - 1, by omega⟩
    show f_Ways_countPairs_b4 _ _ _ _ = _
    unfold f_Ways_countPairs_b4
    rw [if_pos (by rw [me_N_64, me_N_le (by omega) (by omega)]; omega)]
    rfl
  | succ k ih =>
    intro f l c h1 h2
    obtain ⟨f, rfl⟩ : ∃ g, f = g + 1 := ⟨f - 1, by omega⟩
    have hB := gh_B_lt (s := gh_cl a l)
    show f_Ways_countPairs_b4 _ _ _ _ = some (me_N (c + (gh_c4 (gh_cl a l) + me_sm (fun l => gh_c4 (gh_cl a l)) (l + 1) k)))
    unfold f_Ways_countPairs_b4
    rw [if_neg (by rw [me_N_64, me_N_le (by omega) (by omega)]; omega), me_gd_n (by omega) (by omega), me_N_ix (by omega), hz l (by omega), gh_count (by omega), me_bd_s, me_N_add, me_lt_s, me_N_inc, me_lt_s, ih f (l + 1) _ (by omega) (by omega), gh_B_cnt, Nat.add_assoc]
    rfl
theorem m_le27 {a : me_S} {ν : me_M} (hM : me_RM a ν) (hI : me_Iv a) {n d : Nat} (hn : n < a.w * a.h) (hd : d < 4) {K9 : me_M → Int32 → Int32 → Option (me_M × Int32)} {K19 : me_M → Int32 → Int32 → Int32 → Option (me_M × Int32)} : ∀ (k f t c : Nat), t + k = 4 → k < f → f_M_leads_h27 K9 K19 f ν (me_N c) (me_N n) (me_N d) (me_N t) = K19 ν (me_N (c + me_sm (fun u => if gh_on a n d u = true then 1 else 0) t k)) (me_N n) (me_N (d + 1)) := by
  have hwh := hI.wh
  intro k
  induction k with
  | zero =>
    intro f t c h1 h2
    obtain ⟨f, rfl⟩ : ∃ g, f = g + 1 := ⟨f - 1, by omega⟩
    show f_M_leads_b27 _ _ _ _ _ _ _ _ = _
    unfold f_M_leads_b27
    rw [if_pos (by rw [me_N_4, me_N_le (by omega) (by omega)]; omega), me_N_inc, me_lt_s]
    rfl
  | succ k ih =>
    intro f t c h1 h2
    obtain ⟨f, rfl⟩ : ∃ g, f = g + 1 := ⟨f - 1, by omega⟩
    have sz : gh_lk a n d = false → ∀ k t, me_sm (fun u => if gh_on a n d u = true then 1 else 0) t k = 0 := fun hl k => by
      induction k with
      | zero => intro t; rfl
      | succ k ih =>
        intro t
        show (if gh_on a n d t = true then 1 else 0) + me_sm (fun u => if gh_on a n d u = true then 1 else 0) (t + 1) k = 0
        rw [ih (t + 1), show gh_on a n d t = false by unfold gh_on; rw [hl, Bool.false_and], if_neg (by decide)]
    show f_M_leads_b27 _ _ _ _ _ _ _ _ = _
    unfold f_M_leads_b27 f_M_leads_b73
    rw [if_neg (by rw [me_N_4, me_N_le (by omega) (by omega)]; omega), m_lk hM hI hn hd, me_bd_s]
    cases hl : gh_lk a n d with
    | false =>
      rw [if_pos (show me_bi false = 0 from rfl), me_N_inc, me_lt_s, sz hl]
      rfl
    | true =>
      have hs : (me_nb a.w a.h n d).isSome = true := by
        unfold gh_lk at hl
        rw [Bool.and_eq_true] at hl
        exact hl.1
      obtain ⟨n', e⟩ := Option.isSome_iff_exists.mp hs
      have hn' := (me_Op_lt hI hn hd e).1
      have eb : gh_bh a n d = n' := by unfold gh_bh; rw [e]; rfl
      have eo : gh_on a n d t = (gh_lk a n' t && gh_lt a n d t) := by unfold gh_on; rw [hl, Bool.true_and, eb]
      rw [if_neg (show ¬ me_bi true = 0 by decide), m_beside hM hI hn hd, e, me_bd_s]
      show me_bd (f_M_isLink ν (me_N n') (me_N t)) _ = _
      rw [m_lk hM hI hn' (by omega), me_bd_s, m_lt hM hI hn hd (by omega) hs, me_bd_s, me_N_inc, me_lt_s, me_lt_s, me_lt_s, me_lt_s]
      show _ = K19 ν (me_N (c + ((if gh_on a n d t = true then 1 else 0) + me_sm (fun u => if gh_on a n d u = true then 1 else 0) (t + 1) k))) (me_N n) (me_N (d + 1))
      rw [eo]
      have c0 : me_N c + (0 : Int32) = me_N c := Int32.add_zero _
      rw [c0, me_N_1, me_N_add]
      cases gh_lk a n' t with
      | false =>
        rw [if_pos (show me_bi false = 0 from rfl), ih f (t + 1) c (by omega) (by omega), Bool.false_and, if_neg (by decide), Nat.zero_add]
      | true =>
        rw [if_neg (show ¬ me_bi true = 0 by decide), Bool.true_and]
        cases gh_lt a n d t with
        | false => rw [if_pos (show me_bi false = 0 from rfl), ih f (t + 1) c (by omega) (by omega), if_neg (by decide), Nat.zero_add]
        | true => rw [if_neg (show ¬ me_bi true = 0 by decide), ih f (t + 1) (c + 1) (by omega) (by omega), if_pos rfl, Nat.add_assoc]
theorem m_le19 {a : me_S} {ν : me_M} (hM : me_RM a ν) (hI : me_Iv a) {n : Nat} (hn : n < a.w * a.h) {K9 : me_M → Int32 → Int32 → Option (me_M × Int32)} : ∀ (k f d c : Nat), d + k = 4 → k < f → f_M_leads_h19 K9 f ν (me_N c) (me_N n) (me_N d) = K9 ν (me_N (c + me_sm (fun d => gh_c4 (gh_on a n d)) d k)) (me_N (n + 1)) := by
  intro k
  induction k with
  | zero =>
    intro f d c h1 h2
    obtain ⟨f, rfl⟩ : ∃ g, f = g + 1 := ⟨f - 1, by omega⟩
    show f_M_leads_b19 _ _ _ _ _ _ = _
    unfold f_M_leads_b19
    rw [if_pos (by rw [me_N_4, me_N_le (by omega) (by omega)]; omega), me_N_inc, me_lt_s]
    rfl
  | succ k ih =>
    intro f d c h1 h2
    obtain ⟨f, rfl⟩ : ∃ g, f = g + 1 := ⟨f - 1, by omega⟩
    have e := m_le27 hM hI hn (show d < 4 by omega) (K9 := K9) (K19 := f_M_leads_h19 K9 f) 4 me_FU 0 c (by omega) (by unfold me_FU; omega)
    show f_M_leads_b19 _ _ _ _ _ _ = K9 ν (me_N (c + (gh_c4 (gh_on a n d) + me_sm (fun d => gh_c4 (gh_on a n d)) (d + 1) k))) (me_N (n + 1))
    unfold f_M_leads_b19
    rw [if_neg (by rw [me_N_4, me_N_le (by omega) (by omega)]; omega)]
    refine e.trans ?_
    rw [ih f (d + 1) _ (by omega) (by omega), ← Nat.add_assoc]
    rfl
theorem m_le9 {a : me_S} {ν : me_M} (hM : me_RM a ν) (hI : me_Iv a) : ∀ (k f n c : Nat), n + k = a.w * a.h → k < f → f_M_leads_h9 f ν (me_N c) (me_N n) = some (ν, me_N (c + me_sm (fun n => me_sm (fun d => gh_c4 (gh_on a n d)) 0 4) n k)) := by
  have hwh := hI.wh
  intro k
  induction k with
  | zero =>
    intro f n c h1 h2
    obtain ⟨f, rfl⟩ : ∃ g, f = g + 1 := ⟨f - 1, by omega⟩
    show f_M_leads_b9 _ _ _ _ = _
    unfold f_M_leads_b9 f_M_nodes
    rw [hM.w, hM.h, me_N_mul, me_bd_s, if_pos (by rw [me_N_le (by omega) (by omega)]; omega)]
    rfl
  | succ k ih =>
    intro f n c h1 h2
    obtain ⟨f, rfl⟩ : ∃ g, f = g + 1 := ⟨f - 1, by omega⟩
    have e := m_le19 hM hI (show n < a.w * a.h by omega) (K9 := f_M_leads_h9 f) 4 me_FU 0 c (by omega) (by unfold me_FU; omega)
    show f_M_leads_b9 _ _ _ _ = some (ν, me_N (c + (me_sm (fun d => gh_c4 (gh_on a n d)) 0 4 + me_sm (fun n => me_sm (fun d => gh_c4 (gh_on a n d)) 0 4) (n + 1) k)))
    unfold f_M_leads_b9 f_M_nodes
    rw [hM.w, hM.h, me_N_mul, me_bd_s, if_neg (by rw [me_N_le (by omega) (by omega)]; omega)]
    refine e.trans ?_
    rw [ih f (n + 1) _ (by omega) (by omega), ← Nat.add_assoc]
theorem me_sm_4 {F : Nat → Nat} : ∀ (k n : Nat), me_sm F (n * 4) (k * 4) = me_sm (fun n => me_sm (fun d => F (n * 4 + d)) 0 4) n k := by
  intro k
  induction k with
  | zero => intro n; rfl
  | succ k ih =>
    intro n
    rw [show (k + 1) * 4 = k * 4 + 1 + 1 + 1 + 1 by omega]
    show me_sm F (n * 4) (k * 4 + 1 + 1 + 1 + 1) = (F (n * 4 + 0) + (F (n * 4 + 1) + (F (n * 4 + 2) + (F (n * 4 + 3) + 0)))) + me_sm (fun n => me_sm (fun d => F (n * 4 + d)) 0 4) (n + 1) k
    rw [← ih (n + 1), show (n + 1) * 4 = n * 4 + 1 + 1 + 1 + 1 by omega]
    show F (n * 4) + (F (n * 4 + 1) + (F (n * 4 + 1 + 1) + (F (n * 4 + 1 + 1 + 1) + me_sm F (n * 4 + 1 + 1 + 1 + 1) (k * 4)))) = _
    rw [Nat.add_zero]
    have e2 : n * 4 + 1 + 1 = n * 4 + 2 := rfl
    have e3 : n * 4 + 1 + 1 + 1 = n * 4 + 3 := rfl
    rw [e2, e3, show F (n * 4 + 0) = F (n * 4) from rfl]
    omega
theorem me_sm_app {F : Nat → Nat} : ∀ (k m i : Nat), me_sm F i (k + m) = me_sm F i k + me_sm F (i + k) m := by
  intro k
  induction k with
  | zero => intro m i; rw [Nat.zero_add, Nat.add_zero]; exact (Nat.zero_add _).symm
  | succ k ih =>
    intro m i
    rw [show k + 1 + m = (k + m) + 1 by omega]
    show F i + me_sm F (i + 1) (k + m) = (F i + me_sm F (i + 1) k) + me_sm F (i + (k + 1)) m
    rw [ih m (i + 1), show i + 1 + k = i + (k + 1) by omega, Nat.add_assoc]
theorem t_23 {T : Nat} {a : me_S} {μ : me_M} {o : Int64 × UInt64} {s1 s2 s3 s4 s5 : Int32} (hR : me_R T a μ) : ∃ μ' o' a', f_case_23 μ o s1 s2 s3 s4 s5 = some (μ', o') ∧ me_R T a' μ' := by
  obtain ⟨hC, hM, hI, hbt, hT, hwk⟩ := id hR
  have hwh := hI.wh
  obtain ⟨μ1, e1, c1, z1, f1⟩ := y_trace hI hC
  have hM1 : me_RM a μ1 := hM.co_ (fun k hk => ⟨fun i j e => Or.inr (by rw [f1 k (by omega)]), fun _ _ _ => f1 k (by omega)⟩)
  have hR1 : me_R T a μ1 := ⟨c1, hM1, hI, hbt, hT, fun n hn => by rw [f1 13 (by decide)]; exact hwk n hn⟩
  have e2 : f_Ways_countPairs_h4 μ1 me_FU 0 0 = some (me_N (0 + me_sm (fun l => gh_c4 (gh_cl a l)) 0 64)) := y_pairs z1 64 me_FU 0 0 (by omega) (by unfold me_FU; omega)
  have e3 : f_M_leads_h9 me_FU (me_up μ1 36 0 42 0) 0 0 = some (me_up μ1 36 0 42 0, me_N (0 + me_sm (fun n => me_sm (fun d => gh_c4 (gh_on a n d)) 0 4) 0 (a.w * a.h))) := m_le9 (hM1.w_th 0) hI (a.w * a.h) me_FU 0 0 (Nat.zero_add _) (by unfold me_FU; omega)
  have es : me_sm (fun l => gh_c4 (gh_cl a l)) 0 64 = me_sm (fun n => me_sm (fun d => gh_c4 (gh_on a n d)) 0 4) 0 (a.w * a.h) := by
    have h := me_sm_4 (F := fun l => gh_c4 (gh_cl a l)) 16 0
    have h : me_sm (fun l => gh_c4 (gh_cl a l)) 0 64 = me_sm (fun n => me_sm (fun d => gh_c4 (gh_cl a (n * 4 + d))) 0 4) 0 16 := h
    rw [h, show 16 = a.w * a.h + (16 - a.w * a.h) by omega, me_sm_app, show me_sm (fun n => me_sm (fun d => gh_c4 (gh_cl a (n * 4 + d))) 0 4) (0 + a.w * a.h) (16 - a.w * a.h) = 0 from ?_, Nat.add_zero]
    · apply me_sm_cg
      intro n _ hn
      apply me_sm_cg
      intro d _ hd
      have e : gh_cl a (n * 4 + d) = gh_on a n d := by
        funext u
        unfold gh_cl
        rw [show (n * 4 + d) / 4 = n by omega, show (n * 4 + d) % 4 = d by omega, decide_eq_true (by omega), Bool.true_and]
      rw [e]
    · have hz : ∀ n, 0 + a.w * a.h ≤ n → n < 0 + a.w * a.h + (16 - a.w * a.h) → me_sm (fun d => gh_c4 (gh_cl a (n * 4 + d))) 0 4 = (fun _ => 0) n := fun n h1 _ => by
        have e : ∀ d, d < 4 → gh_c4 (gh_cl a (n * 4 + d)) = 0 := fun d hd => by
          have e : gh_cl a (n * 4 + d) = fun _ => false := by
            funext u
            unfold gh_cl
            rw [show (n * 4 + d) / 4 = n by omega, decide_eq_false (by omega), Bool.false_and]
          rw [e]
          rfl
        show gh_c4 (gh_cl a (n * 4 + 0)) + (gh_c4 (gh_cl a (n * 4 + 1)) + (gh_c4 (gh_cl a (n * 4 + 2)) + (gh_c4 (gh_cl a (n * 4 + 3)) + 0))) = 0
        rw [e 0 (by decide), e 1 (by decide), e 2 (by decide), e 3 (by decide)]
      rw [me_sm_cg _ _ hz]
      have z : ∀ d i, me_sm (fun _ => 0) i d = 0 := by
        intro d
        induction d with
        | zero => intro i; rfl
        | succ d ih => intro i; exact (Nat.zero_add _).trans (ih (i + 1))
      exact z _ _
  refine ⟨_, o, a, ?_, hR1.th 0⟩
  unfold f_case_23 f_Y_leads f_Ways_countPairs f_M_leads
  rw [e1, me_b2_s, e2, me_bd_s, me_b2_s, me_lt_s, e3, me_b2_s, es, if_pos (by rfl)]
