/-! lists of pieces: what lies where after a step -/
def me_pq (p : Nat) (e : Nat × Nat × Nat) : Bool := decide (e.1 = p)
def me_cs (q : Nat → List (Nat × Nat × Nat)) (p : Nat) : Nat := ((List.range 160).map (fun r => (q r).countP (me_pq p))).sum
theorem me_su_cg {f g : Nat → Nat} (n : Nat) (h : ∀ x, x < n → f x = g x) : ((List.range n).map f).sum = ((List.range n).map g).sum := by
  rw [List.map_congr_left (fun x hx => h x (List.mem_range.mp hx))]
theorem me_su_one {f g : Nat → Nat} {r : Nat} (hx : ∀ x, ¬ x = r → f x = g x) : ∀ n, r < n → ((List.range n).map f).sum + g r = ((List.range n).map g).sum + f r := by
  intro n
  induction n with
  | zero => intro h; exact absurd h (Nat.not_lt_zero _)
  | succ n ih =>
    intro h
    rw [List.range_succ, List.map_append, List.map_append, List.sum_append, List.sum_append]
    simp only [List.map_cons, List.map_nil, List.sum_cons, List.sum_nil]
    by_cases e : r = n
    · rw [← e, me_su_cg (f := f) (g := g) r (fun x hx' => hx x (by omega))]
      omega
    · have := ih (by omega)
      have := hx n (fun q => e q.symm)
      omega
theorem me_ct_fu {q : Nat → List (Nat × Nat × Nat)} {r : Nat} {l : List (Nat × Nat × Nat)} (hr : r < 160) (p : Nat) : me_cs (me_fu q r l) p + (q r).countP (me_pq p) = me_cs q p + l.countP (me_pq p) := by
  have := me_su_one (f := fun x => (me_fu q r l x).countP (me_pq p)) (g := fun x => (q x).countP (me_pq p)) (r := r) (fun x hx => by rw [me_fu_ne hx]) 160 hr
  rw [me_fu_at] at this
  exact this
theorem me_L_mv {q : Nat → List (Nat × Nat × Nat)} {p i c c' r r' : Nat} {t : List (Nat × Nat × Nat)} (hs : (q r).Pairwise (fun e e' => e.1 < e'.1 ∨ (e.1 = e'.1 ∧ e.2.1 < e'.2.1))) (hq : q r = (p, i, c) :: t) (hne : ¬ r' = r) (hun : ∀ x, me_L q p i x → x = r) : ∀ p' i' x, me_L (me_fu (me_fu q r t) r' (q r' ++ [(p, i, c')])) p' i' x ↔ (p' = p ∧ i' = i ∧ x = r') ∨ (¬ (p' = p ∧ i' = i) ∧ me_L q p' i' x) := by
  have ht : ∀ e ∈ t, p < e.1 ∨ (p = e.1 ∧ i < e.2.1) := by
    rw [hq] at hs
    exact (List.pairwise_cons.mp hs).1
  intro p' i' x
  unfold me_L at hun ⊢
  by_cases hx' : x = r'
  · rw [me_fu_ap, if_pos hx']
    constructor
    · rintro ⟨c1, h1⟩
      rcases List.mem_append.mp h1 with h1 | h1
      · by_cases g : p' = p ∧ i' = i
        · exact absurd (hun r' ⟨c1, by rw [← g.1, ← g.2]; exact h1⟩) hne
        · exact Or.inr ⟨g, c1, by rw [hx']; exact h1⟩
      · obtain ⟨g1, g2⟩ := Prod.mk.inj (List.mem_singleton.mp h1)
        exact Or.inl ⟨g1, (Prod.mk.inj g2).1, hx'⟩
    · rintro (⟨g1, g2, g3⟩ | ⟨g, c1, h1⟩)
      · exact ⟨c', List.mem_append.mpr (Or.inr (List.mem_singleton.mpr (by rw [g1, g2])))⟩
      · rw [hx'] at h1
        exact ⟨c1, List.mem_append.mpr (Or.inl h1)⟩
  · rw [me_fu_ap, if_neg hx', me_fu_ap]
    by_cases hxr : x = r
    · rw [if_pos hxr]
      constructor
      · rintro ⟨c1, h1⟩
        refine Or.inr ⟨?_, c1, by rw [hxr, hq]; exact List.mem_cons_of_mem _ h1⟩
        rintro ⟨g1, g2⟩
        rcases ht _ h1 with k | k
        · have k : p < p' := k
          omega
        · have k : i < i' := k.2
          omega
      · rintro (⟨_, _, g3⟩ | ⟨g, c1, h1⟩)
        · exact absurd g3 hx'
        · rw [hxr, hq] at h1
          rcases List.mem_cons.mp h1 with h2 | h2
          · obtain ⟨g1, g2⟩ := Prod.mk.inj h2
            exact absurd ⟨g1, (Prod.mk.inj g2).1⟩ g
          · exact ⟨c1, h2⟩
    · rw [if_neg hxr]
      constructor
      · rintro ⟨c1, h1⟩
        exact Or.inr ⟨fun g => hxr (hun x ⟨c1, by rw [← g.1, ← g.2]; exact h1⟩), c1, h1⟩
      · rintro (⟨_, _, g3⟩ | ⟨g, h1⟩)
        · exact absurd g3 hx'
        · exact h1
theorem me_L_co {q : Nat → List (Nat × Nat × Nat)} {p i c r : Nat} {t : List (Nat × Nat × Nat)} (hs : (q r).Pairwise (fun e e' => e.1 < e'.1 ∨ (e.1 = e'.1 ∧ e.2.1 < e'.2.1))) (hq : q r = (p, i, c) :: t) (hun : ∀ x, me_L q p i x → x = r) : ∀ p' i' x, me_L (me_fu q r t) p' i' x ↔ ¬ (p' = p ∧ i' = i) ∧ me_L q p' i' x := by
  have ht : ∀ e ∈ t, p < e.1 ∨ (p = e.1 ∧ i < e.2.1) := by
    rw [hq] at hs
    exact (List.pairwise_cons.mp hs).1
  intro p' i' x
  unfold me_L at hun ⊢
  rw [me_fu_ap]
  by_cases hxr : x = r
  · rw [if_pos hxr]
    constructor
    · rintro ⟨c1, h1⟩
      refine ⟨?_, c1, by rw [hxr, hq]; exact List.mem_cons_of_mem _ h1⟩
      rintro ⟨g1, g2⟩
      rcases ht _ h1 with k | k
      · have k : p < p' := k
        omega
      · have k : i < i' := k.2
        omega
    · rintro ⟨g, c1, h1⟩
      rw [hxr, hq] at h1
      rcases List.mem_cons.mp h1 with h2 | h2
      · obtain ⟨g1, g2⟩ := Prod.mk.inj h2
        exact absurd ⟨g1, (Prod.mk.inj g2).1⟩ g
      · exact ⟨c1, h2⟩
  · rw [if_neg hxr]
    constructor
    · rintro ⟨c1, h1⟩
      exact ⟨fun g => hxr (hun x ⟨c1, by rw [← g.1, ← g.2]; exact h1⟩), c1, h1⟩
    · rintro ⟨g, h1⟩
      exact h1
/-- a row without the pieces of a packet -/
def me_dr (p : Nat) (l : List (Nat × Nat × Nat)) : List (Nat × Nat × Nat) := l.filter (fun e => !me_pq p e)
theorem me_L_dr {q : Nat → List (Nat × Nat × Nat)} {p : Nat} : ∀ p' i' x, me_L (fun x => me_dr p (q x)) p' i' x ↔ ¬ p' = p ∧ me_L q p' i' x := by
  intro p' i' x
  unfold me_L me_dr
  constructor
  · rintro ⟨c1, h1⟩
    obtain ⟨h1, h2⟩ := List.mem_filter.mp h1
    have h2 : (!decide (p' = p)) = true := h2
    refine ⟨fun g => ?_, c1, h1⟩
    rw [decide_eq_true g] at h2
    cases h2
  · rintro ⟨g, c1, h1⟩
    refine ⟨c1, List.mem_filter.mpr ⟨h1, ?_⟩⟩
    show (!decide (p' = p)) = true
    rw [decide_eq_false g]
    rfl
theorem me_L_pu {q : Nat → List (Nat × Nat × Nat)} {p i c r : Nat} : ∀ p' i' x, me_L (me_fu q r (q r ++ [(p, i, c)])) p' i' x ↔ (p' = p ∧ i' = i ∧ x = r) ∨ me_L q p' i' x := by
  intro p' i' x
  unfold me_L
  rw [me_fu_ap]
  by_cases hxr : x = r
  · rw [if_pos hxr, hxr]
    constructor
    · rintro ⟨c1, h1⟩
      rcases List.mem_append.mp h1 with h1 | h1
      · exact Or.inr ⟨c1, h1⟩
      · obtain ⟨g1, g2⟩ := Prod.mk.inj (List.mem_singleton.mp h1)
        exact Or.inl ⟨g1, (Prod.mk.inj g2).1, rfl⟩
    · rintro (⟨g1, g2, g3⟩ | ⟨c1, h1⟩)
      · exact ⟨c, List.mem_append.mpr (Or.inr (List.mem_singleton.mpr (by rw [g1, g2])))⟩
      · exact ⟨c1, List.mem_append.mpr (Or.inl h1)⟩
  · rw [if_neg hxr]
    constructor
    · exact Or.inr
    · rintro (⟨_, _, g3⟩ | h1)
      · exact absurd g3 hxr
      · exact h1
theorem me_ct_dr {q : Nat → List (Nat × Nat × Nat)} {p p' : Nat} (h : ¬ p' = p) : me_cs (fun x => me_dr p (q x)) p' = me_cs q p' := by
  unfold me_cs
  apply me_su_cg
  intro x _
  unfold me_dr
  rw [List.countP_filter]
  apply List.countP_congr
  intro e _
  unfold me_pq
  by_cases g : e.1 = p'
  · rw [decide_eq_true g, decide_eq_false (fun q => h (g.symm.trans q))]
    rfl
  · rw [decide_eq_false g]
    rfl
theorem me_pq_cons {p i c p' : Nat} {t : List (Nat × Nat × Nat)} : ((p, i, c) :: t).countP (me_pq p') = t.countP (me_pq p') + if p = p' then 1 else 0 := by
  rw [List.countP_cons]
  unfold me_pq
  by_cases g : p = p'
  · rw [if_pos g, if_pos (decide_eq_true g)]
  · rw [if_neg g, if_neg (by rw [decide_eq_false g]; decide)]
theorem me_pq_app {p i c p' : Nat} {l : List (Nat × Nat × Nat)} : (l ++ [(p, i, c)]).countP (me_pq p') = l.countP (me_pq p') + if p = p' then 1 else 0 := by
  rw [List.countP_append, me_pq_cons, List.countP_nil, Nat.zero_add]
theorem me_ct_mv {q : Nat → List (Nat × Nat × Nat)} {p i c c' r r' : Nat} {t : List (Nat × Nat × Nat)} (hq : q r = (p, i, c) :: t) (hne : ¬ r' = r) (hr : r < 160) (hr' : r' < 160) (p' : Nat) : me_cs (me_fu (me_fu q r t) r' (q r' ++ [(p, i, c')])) p' = me_cs q p' := by
  have h1 := me_ct_fu (q := me_fu q r t) (l := q r' ++ [(p, i, c')]) hr' p'
  have h2 := me_ct_fu (q := q) (l := t) hr p'
  rw [me_fu_ne hne, me_pq_app] at h1
  rw [hq, me_pq_cons] at h2
  omega
theorem me_ct_co {q : Nat → List (Nat × Nat × Nat)} {p i c r : Nat} {t : List (Nat × Nat × Nat)} (hq : q r = (p, i, c) :: t) (hr : r < 160) (p' : Nat) : me_cs (me_fu q r t) p' + (if p = p' then 1 else 0) = me_cs q p' := by
  have h2 := me_ct_fu (q := q) (l := t) hr p'
  rw [hq, me_pq_cons] at h2
  omega
theorem me_ct_pu {q : Nat → List (Nat × Nat × Nat)} {p i c r : Nat} (hr : r < 160) (p' : Nat) : me_cs (me_fu q r (q r ++ [(p, i, c)])) p' = me_cs q p' + if p = p' then 1 else 0 := by
  have h2 := me_ct_fu (q := q) (l := q r ++ [(p, i, c)]) hr p'
  rw [me_pq_app] at h2
  omega
