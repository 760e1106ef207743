/-! FROM THE ROWS OF whole that speak of the class alone (taken out by gen/extract.py) -/
theorem me_L_mv {q : Nat → List (Nat × Nat × Nat)} {p i c c' r r' : Nat} {t : List (Nat × Nat × Nat)} (hs : (q r).Pairwise (fun e e' => e.1 < e'.1 ∨ (e.1 = e'.1 ∧ e.2.1 < e'.2.1))) (hq : q r = (p, i, c) :: t) (hne : ¬ r' = r) (hun : ∀ x, me_L q p i x → x = r) : ∀ p' i' x, me_L (me_fu (me_fu q r t) r' (q r' ++ [(p, i, c')])) p' i' x ↔ (p' = p ∧ i' = i ∧ x = r') ∨ (¬ (p' = p ∧ i' = i) ∧ me_L q p' i' x) := by
  have ht : ∀ e ∈ t, p < e.1 ∨ (p = e.1 ∧ i < e.2.1) := by
    rw [hq] at hs
    exact (List.pairwise_cons.mp hs).1
  intro p' i' x
  unfold me_L at hun ⊢
  by_cases hx' : x = r'
  · rw [me_fu_ap, if_pos hx']
    constructor
    · rintro ⟨c1, h1⟩
      rcases List.mem_append.mp h1 with h1 | h1
      · by_cases g : p' = p ∧ i' = i
        · exact absurd (hun r' ⟨c1, by rw [← g.1, ← g.2]; exact h1⟩) hne
        · exact Or.inr ⟨g, c1, by rw [hx']; exact h1⟩
      · obtain ⟨g1, g2⟩ := Prod.mk.inj (List.mem_singleton.mp h1)
        exact Or.inl ⟨g1, (Prod.mk.inj g2).1, hx'⟩
    · rintro (⟨g1, g2, g3⟩ | ⟨g, c1, h1⟩)
      · exact ⟨c', List.mem_append.mpr (Or.inr (List.mem_singleton.mpr (by rw [g1, g2])))⟩
      · rw [hx'] at h1
        exact ⟨c1, List.mem_append.mpr (Or.inl h1)⟩
  · rw [me_fu_ap, if_neg hx', me_fu_ap]
    by_cases hxr : x = r
    · rw [if_pos hxr]
      constructor
      · rintro ⟨c1, h1⟩
        refine Or.inr ⟨?_, c1, by rw [hxr, hq]; exact List.mem_cons_of_mem _ h1⟩
        rintro ⟨g1, g2⟩
        rcases ht _ h1 with k | k
        · have k : p < p' := k
          omega
        · have k : i < i' := k.2
          omega
      · rintro (⟨_, _, g3⟩ | ⟨g, c1, h1⟩)
        · exact absurd g3 hx'
        · rw [hxr, hq] at h1
          rcases List.mem_cons.mp h1 with h2 | h2
          · obtain ⟨g1, g2⟩ := Prod.mk.inj h2
            exact absurd ⟨g1, (Prod.mk.inj g2).1⟩ g
          · exact ⟨c1, h2⟩
    · rw [if_neg hxr]
      constructor
      · rintro ⟨c1, h1⟩
        exact Or.inr ⟨fun g => hxr (hun x ⟨c1, by rw [← g.1, ← g.2]; exact h1⟩), c1, h1⟩
      · rintro (⟨_, _, g3⟩ | ⟨g, h1⟩)
        · exact absurd g3 hx'
        · exact h1
theorem me_L_co {q : Nat → List (Nat × Nat × Nat)} {p i c r : Nat} {t : List (Nat × Nat × Nat)} (hs : (q r).Pairwise (fun e e' => e.1 < e'.1 ∨ (e.1 = e'.1 ∧ e.2.1 < e'.2.1))) (hq : q r = (p, i, c) :: t) (hun : ∀ x, me_L q p i x → x = r) : ∀ p' i' x, me_L (me_fu q r t) p' i' x ↔ ¬ (p' = p ∧ i' = i) ∧ me_L q p' i' x := by
  have ht : ∀ e ∈ t, p < e.1 ∨ (p = e.1 ∧ i < e.2.1) := by
    rw [hq] at hs
    exact (List.pairwise_cons.mp hs).1
  intro p' i' x
  unfold me_L at hun ⊢
  rw [me_fu_ap]
  by_cases hxr : x = r
  · rw [if_pos hxr]
    constructor
    · rintro ⟨c1, h1⟩
      refine ⟨?_, c1, by rw [hxr, hq]; exact List.mem_cons_of_mem _ h1⟩
      rintro ⟨g1, g2⟩
      rcases ht _ h1 with k | k
      · have k : p < p' := k
        omega
      · have k : i < i' := k.2
        omega
    · rintro ⟨g, c1, h1⟩
      rw [hxr, hq] at h1
      rcases List.mem_cons.mp h1 with h2 | h2
      · obtain ⟨g1, g2⟩ := Prod.mk.inj h2
        exact absurd ⟨g1, (Prod.mk.inj g2).1⟩ g
      · exact ⟨c1, h2⟩
  · rw [if_neg hxr]
    constructor
    · rintro ⟨c1, h1⟩
      exact ⟨fun g => hxr (hun x ⟨c1, by rw [← g.1, ← g.2]; exact h1⟩), c1, h1⟩
    · rintro ⟨g, h1⟩
      exact h1
/-- a row without the pieces of a packet -/
def me_dr (p : Nat) (l : List (Nat × Nat × Nat)) : List (Nat × Nat × Nat) := l.filter (fun e => !me_pq p e)
theorem me_L_dr {q : Nat → List (Nat × Nat × Nat)} {p : Nat} : ∀ p' i' x, me_L (fun x => me_dr p (q x)) p' i' x ↔ ¬ p' = p ∧ me_L q p' i' x := by
  intro p' i' x
  unfold me_L me_dr
  constructor
  · rintro ⟨c1, h1⟩
    obtain ⟨h1, h2⟩ := List.mem_filter.mp h1
    have h2 : (!decide (p' = p)) = true := h2
    refine ⟨fun g => ?_, c1, h1⟩
    rw [decide_eq_true g] at h2
    cases h2
  · rintro ⟨g, c1, h1⟩
    refine ⟨c1, List.mem_filter.mpr ⟨h1, ?_⟩⟩
    show (!decide (p' = p)) = true
    rw [decide_eq_false g]
    rfl
theorem me_L_pu {q : Nat → List (Nat × Nat × Nat)} {p i c r : Nat} : ∀ p' i' x, me_L (me_fu q r (q r ++ [(p, i, c)])) p' i' x ↔ (p' = p ∧ i' = i ∧ x = r) ∨ me_L q p' i' x := by
  intro p' i' x
  unfold me_L
  rw [me_fu_ap]
  by_cases hxr : x = r
  · rw [if_pos hxr, hxr]
    constructor
    · rintro ⟨c1, h1⟩
      rcases List.mem_append.mp h1 with h1 | h1
      · exact Or.inr ⟨c1, h1⟩
      · obtain ⟨g1, g2⟩ := Prod.mk.inj (List.mem_singleton.mp h1)
        exact Or.inl ⟨g1, (Prod.mk.inj g2).1, rfl⟩
    · rintro (⟨g1, g2, g3⟩ | ⟨c1, h1⟩)
      · exact ⟨c, List.mem_append.mpr (Or.inr (List.mem_singleton.mpr (by rw [g1, g2])))⟩
      · exact ⟨c1, List.mem_append.mpr (Or.inl h1)⟩
  · rw [if_neg hxr]
    constructor
    · exact Or.inr
    · rintro (⟨_, _, g3⟩ | h1)
      · exact absurd g3 hxr
      · exact h1
theorem me_ct_dr {q : Nat → List (Nat × Nat × Nat)} {p p' : Nat} (h : ¬ p' = p) : me_cs (fun x => me_dr p (q x)) p' = me_cs q p' := by
  unfold me_cs
  apply me_su_cg
  intro x _
  unfold me_dr
  rw [List.countP_filter]
  apply List.countP_congr
  intro e _
  unfold me_pq
  by_cases g : e.1 = p'
  · rw [decide_eq_true g, decide_eq_false (fun q => h (g.symm.trans q))]
    rfl
  · rw [decide_eq_false g]
    rfl
theorem me_pq_cons {p i c p' : Nat} {t : List (Nat × Nat × Nat)} : ((p, i, c) :: t).countP (me_pq p') = t.countP (me_pq p') + if p = p' then 1 else 0 := by
  rw [List.countP_cons]
  unfold me_pq
  by_cases g : p = p'
  · rw [if_pos g, if_pos (decide_eq_true g)]
  · rw [if_neg g, if_neg (by rw [decide_eq_false g]; decide)]
theorem me_pq_app {p i c p' : Nat} {l : List (Nat × Nat × Nat)} : (l ++ [(p, i, c)]).countP (me_pq p') = l.countP (me_pq p') + if p = p' then 1 else 0 := by
  rw [List.countP_append, me_pq_cons, List.countP_nil, Nat.zero_add]
theorem me_ct_mv {q : Nat → List (Nat × Nat × Nat)} {p i c c' r r' : Nat} {t : List (Nat × Nat × Nat)} (hq : q r = (p, i, c) :: t) (hne : ¬ r' = r) (hr : r < 160) (hr' : r' < 160) (p' : Nat) : me_cs (me_fu (me_fu q r t) r' (q r' ++ [(p, i, c')])) p' = me_cs q p' := by
  have h1 := me_ct_fu (q := me_fu q r t) (l := q r' ++ [(p, i, c')]) hr' p'
  have h2 := me_ct_fu (q := q) (l := t) hr p'
  rw [me_fu_ne hne, me_pq_app] at h1
  rw [hq, me_pq_cons] at h2
  omega
theorem me_ct_co {q : Nat → List (Nat × Nat × Nat)} {p i c r : Nat} {t : List (Nat × Nat × Nat)} (hq : q r = (p, i, c) :: t) (hr : r < 160) (p' : Nat) : me_cs (me_fu q r t) p' + (if p = p' then 1 else 0) = me_cs q p' := by
  have h2 := me_ct_fu (q := q) (l := t) hr p'
  rw [hq, me_pq_cons] at h2
  omega
theorem me_ct_pu {q : Nat → List (Nat × Nat × Nat)} {p i c r : Nat} (hr : r < 160) (p' : Nat) : me_cs (me_fu q r (q r ++ [(p, i, c)])) p' = me_cs q p' + if p = p' then 1 else 0 := by
  have h2 := me_ct_fu (q := q) (l := q r ++ [(p, i, c)]) hr p'
  rw [me_pq_app] at h2
  omega
theorem me_pw_mv {q : Nat → List (Nat × Nat × Nat)} {p i c c' r r' : Nat} {t : List (Nat × Nat × Nat)} (hs : ∀ x, (q x).Pairwise (fun e e' => e.1 < e'.1 ∨ (e.1 = e'.1 ∧ e.2.1 < e'.2.1))) (hq : q r = (p, i, c) :: t) (hlast : ∀ e ∈ q r', e.1 < p ∨ (e.1 = p ∧ e.2.1 < i)) : ∀ x, (me_fu (me_fu q r t) r' (q r' ++ [(p, i, c')]) x).Pairwise (fun e e' => e.1 < e'.1 ∨ (e.1 = e'.1 ∧ e.2.1 < e'.2.1)) := by
  intro x
  rw [me_fu_ap]
  by_cases hx : x = r'
  · rw [if_pos hx]
    refine List.pairwise_append.mpr ⟨hs r', List.pairwise_singleton _ _, fun e he e' he' => ?_⟩
    rw [List.mem_singleton.mp he']
    exact hlast e he
  · rw [if_neg hx, me_fu_ap]
    by_cases hx2 : x = r
    · rw [if_pos hx2]
      have := hs r
      rw [hq] at this
      exact (List.pairwise_cons.mp this).2
    · rw [if_neg hx2]
      exact hs x
theorem me_ln_mv {q : Nat → List (Nat × Nat × Nat)} {p i c c' r r' : Nat} {t : List (Nat × Nat × Nat)} (h4 : ∀ x, (q x).length ≤ 4) (hq : q r = (p, i, c) :: t) (hl : (q r').length < 4) : ∀ x, (me_fu (me_fu q r t) r' (q r' ++ [(p, i, c')]) x).length ≤ 4 := by
  intro x
  rw [me_fu_ap]
  by_cases hx : x = r'
  · rw [if_pos hx, List.length_append]
    show (q r').length + 1 ≤ 4
    omega
  · rw [if_neg hx, me_fu_ap]
    by_cases hx2 : x = r
    · rw [if_pos hx2]
      have := h4 r
      rw [hq, List.length_cons] at this
      omega
    · rw [if_neg hx2]
      exact h4 x
theorem me_first {q : Nat → List (Nat × Nat × Nat)} {p i c r : Nat} {t : List (Nat × Nat × Nat)} (hs : (q r).Pairwise (fun e e' => e.1 < e'.1 ∨ (e.1 = e'.1 ∧ e.2.1 < e'.2.1))) (hq : q r = (p, i, c) :: t) : ∀ p' i', me_L q p' i' r → p ≤ p' ∧ (p' = p → i ≤ i') := by
  rintro p' i' ⟨c1, h1⟩
  rw [hq] at h1 hs
  rcases List.mem_cons.mp h1 with h2 | h2
  · obtain ⟨g1, g2⟩ := Prod.mk.inj h2
    have := (Prod.mk.inj g2).1
    omega
  · rcases (List.pairwise_cons.mp hs).1 _ h2 with k | k
    · have k : p < p' := k
      omega
    · have k1 : p = p' := k.1
      have k2 : i < i' := k.2
      omega
section MeWst
variable {w h np : Nat} {kd st : Nat → Int32} {sr gl bo pt tk : Nat → Nat} {hd : Nat → Option Nat} {q : Nat → List (Nat × Nat × Nat)} {ro rh : Nat → Option Nat} {aw : Nat → Bool}
theorem me_Wm.ahH (hW : me_Wm w h np kd st sr gl bo pt tk hd q ro rh aw) (hwh : w * h ≤ 16) (hbo : ∀ p, p < np → 1 ≤ bo p) {p r n' d r' c c' : Nat} {t : List (Nat × Nat × Nat)} (hq : q r = (p, 0, c) :: t) (hd4 : d < 4) (hnb : me_nb w h (r / 10) d = some n') (hn' : n' < w * h) (hD : me_ds w (sr p) n' = me_ds w (sr p) (r / 10) + 1) (hS : me_ds w (sr p) n' + me_ds w n' (gl p) = me_ds w (sr p) (gl p)) (hr : r' = me_rw n' (me_ch (kd p)) (me_op d)) (hro : ro r' = none) (haw : aw n' = true) (hl : (q r').length < 4) : me_Wm w h np kd st sr gl bo pt tk (me_fu hd p (some n')) (me_fu (me_fu q r t) r' (q r' ++ [(p, 0, c')])) (me_fu ro r' (some p)) (me_fu rh r (some d)) aw := by
  have hL : me_L q p 0 r := ⟨c, by rw [hq]; exact List.mem_cons_self⟩
  have hwl := hW.wl
  obtain ⟨c1, -⟩ := hwl.iel p 0 r hL
  have ho := me_op_lt d
  have hch := me_ch_lt (kd p)
  obtain ⟨e1, e2, e3⟩ := me_rw_at (n := n') hch (show me_op d < 5 by omega)
  rw [← hr] at e1 e2 e3
  have hne : ¬ r' = r := fun g => by rw [g] at e1; rw [← e1] at hD; omega
  have hun : ∀ x, me_L q p 0 x → x = r := fun x hx => hwl.ion p 0 x r hx hL
  have hff := me_first (hW.iso r) hq
  refine (hwl.ahH hbo hL (fun p' i' hl _ => (hff p' i' hl).1) hd4 hnb hn' hD hS hr hro haw (me_L_mv (hW.iso r) hq hne hun)).wm (me_ln_mv hW.in4 hq hl) (me_pw_mv hW.iso hq (fun e he => ?_)) (fun p' h1 h2 => ?_)
  · have := hW.idi r' e he (by omega)
    rw [hro] at this
    cases this
  · exact (me_ct_mv hq hne (by omega) (by omega) p').trans (hW.ict p' h1 h2)
theorem me_Wm.ahB (hW : me_Wm w h np kd st sr gl bo pt tk hd q ro rh aw) (hwh : w * h ≤ 16) {p i r n' d r' c c' : Nat} {t : List (Nat × Nat × Nat)} {ro' : Nat → Option Nat} (hi : 0 < i) (hq : q r = (p, i, c) :: t) (hpt : pt p ≤ bo p + 1) (hD : me_ds w (sr p) n' = me_ds w (sr p) (r / 10) + 1) (hr : r' = me_rw n' (me_ch (kd p)) (me_op d)) (hro : ro r' = some p) (hro' : ∀ x, ro' x = if x = r ∧ i = bo p then none else ro x) (hl : (q r').length < 4) : me_Wm w h np kd st sr gl bo pt tk hd (me_fu (me_fu q r t) r' (q r' ++ [(p, i, c')])) ro' rh aw := by
  have hL : me_L q p i r := ⟨c, by rw [hq]; exact List.mem_cons_self⟩
  have hwl := hW.wl
  obtain ⟨c1, -⟩ := hwl.iel p i r hL
  obtain ⟨o1, -⟩ := hwl.iow r' p hro
  have ho := me_op_lt d
  have hch := me_ch_lt (kd p)
  obtain ⟨e1, e2, e3⟩ := me_rw_at (n := n') hch (show me_op d < 5 by omega)
  rw [← hr] at e1 e2 e3
  have hne : ¬ r' = r := fun g => by rw [g] at e1; rw [← e1] at hD; omega
  have hun : ∀ x, me_L q p i x → x = r := fun x hx => hwl.ion p i x r hx hL
  have hff := me_first (hW.iso r) hq
  refine (hwl.ahB hi hL (fun i' hl => (hff p i' hl).2 rfl) hpt hD hr hro hro' (me_L_mv (hW.iso r) hq hne hun)).wm (me_ln_mv hW.in4 hq hl) (me_pw_mv hW.iso hq (fun e he => ?_)) (fun p' h1 h2 => ?_)
  · right
    have hk := hW.idi r' e he (by omega)
    rw [hro] at hk
    have ep : p = e.1 := Option.some.inj hk
    refine ⟨ep.symm, ?_⟩
    have hL2 : me_L q p e.2.1 r' := ⟨e.2.2, by rw [ep]; exact he⟩
    rcases Nat.lt_trichotomy e.2.1 i with g | g | g
    · exact g
    · rw [g] at hL2
      exact absurd (hun r' hL2) hne
    · rcases hwl.ifo p i e.2.1 r r' hL hL2 g with k | k
      · exact absurd k.symm hne
      · rw [e1] at k
        omega
  · exact (me_ct_mv hq hne (by omega) (by omega) p').trans (hW.ict p' h1 h2)
/-- where a body goes: behind its head -/
theorem me_Wm.way (hW : me_Wm w h np kd st sr gl bo pt tk hd q ro rh aw) {p i r c : Nat} {t : List (Nat × Nat × Nat)} (hi : 0 < i) (hq : q r = (p, i, c) :: t) : me_Vd w h kd sr gl ro rh r p := by
  have hL : me_L q p i r := ⟨c, by rw [hq]; exact List.mem_cons_self⟩
  refine hW.wl.ivd r p (Or.inl ⟨i, hL⟩) (fun h0 => ?_)
  have := (me_first (hW.iso r) hq p 0 h0).2 rfl
  omega
theorem me_Wm.coL (hW : me_Wm w h np kd st sr gl bo pt tk hd q ro rh aw) (hwh : w * h ≤ 16) {p i r c : Nat} {t : List (Nat × Nat × Nat)} {st' : Nat → Int32} {tk' : Nat → Nat} {hd' ro' rh' : Nat → Option Nat} (hq : q r = (p, i, c) :: t) (hpt : pt p ≤ bo p + 1) (hg : r / 10 = gl p) (hv : i = 0 ∨ rh r = some 4) (hst' : ∀ p', st' p' = if p' = p ∧ i = bo p then 100 else st p') (htk' : ∀ p', tk' p' = if p' = p then tk p + 1 else tk p') (hhd' : ∀ p', hd' p' = if p' = p ∧ i = 0 then none else hd p') (hro' : ∀ x, ro' x = if x = r ∧ i = bo p then none else ro x) (hrh' : ∀ x, rh' x = if x = r ∧ i = 0 then some 4 else rh x) : tk p = i ∧ me_Wm w h np kd st' sr gl bo pt tk' hd' (me_fu q r t) ro' rh' aw := by
  have hL : me_L q p i r := ⟨c, by rw [hq]; exact List.mem_cons_self⟩
  have hwl := hW.wl
  obtain ⟨c1, c2, c3, c4, c5, c6, c7⟩ := hwl.iel p i r hL
  have hun : ∀ x, me_L q p i x → x = r := fun x hx => hwl.ion p i x r hx hL
  have hff := me_first (hW.iso r) hq
  obtain ⟨k1, k2⟩ := hwl.coL hL (fun p' i' hl => ⟨fun _ => (hff p' i' hl).1, (hff p' i' hl).2⟩) hpt hg hv hst' htk' hhd' hro' hrh' (me_L_co (hW.iso r) hq hun)
  refine ⟨k1, k2.wm (fun x => ?_) (fun x => ?_) (fun p' h1 h2 => ?_)⟩
  · rw [me_fu_ap]
    by_cases hx2 : x = r
    · rw [if_pos hx2]
      have := hW.in4 r
      rw [hq, List.length_cons] at this
      omega
    · rw [if_neg hx2]
      exact hW.in4 x
  · rw [me_fu_ap]
    by_cases hx2 : x = r
    · rw [if_pos hx2]
      have := hW.iso r
      rw [hq] at this
      exact (List.pairwise_cons.mp this).2
    · rw [if_neg hx2]
      exact hW.iso x
  · have e := me_ct_co hq (show r < 160 by omega) p'
    have h2' : ¬ st p' = 108 := fun g => by
      rw [hst'] at h2
      by_cases g2 : p' = p ∧ i = bo p
      · rw [g2.1, c3] at g
        exact absurd g (by decide)
      · rw [if_neg g2] at h2
        exact h2 g
    have e2 : me_cs q p' = pt p' - tk p' := hW.ict p' h1 h2'
    rw [htk']
    show me_cs (me_fu q r t) p' = _
    by_cases g : p = p'
    · rw [if_pos g] at e
      rw [if_pos g.symm, ← g]
      rw [← g] at e e2
      omega
    · rw [if_neg g] at e
      rw [if_neg (fun g' => g g'.symm)]
      omega
theorem me_Wm.lose (hW : me_Wm w h np kd st sr gl bo pt tk hd q ro rh aw) {p : Nat} {st' : Nat → Int32} {hd' ro' : Nat → Option Nat} (hst' : ∀ p', st' p' = if p' = p then 108 else st p') (hhd' : ∀ p', hd' p' = if p' = p then none else hd p') (hro' : ∀ x, ro' x = if ro x = some p then none else ro x) : me_Wm w h np kd st' sr gl bo pt tk hd' (fun x => me_dr p (q x)) ro' rh aw := by
  refine (hW.wl.lose hst' hhd' hro' me_L_dr).wm (fun x => ?_) (fun x => ?_) (fun p' h1 h2 => ?_)
  · exact Nat.le_trans (List.length_filter_le _ _) (hW.in4 x)
  · exact List.Pairwise.filter _ (hW.iso x)
  · have g : ¬ p' = p := fun g => h2 (by rw [hst', if_pos g])
    rw [hst', if_neg g] at h2
    exact (me_ct_dr g).trans (hW.ict p' h1 h2)
theorem me_Wm.put (hW : me_Wm w h np kd st sr gl bo pt tk hd q ro rh aw) (hwh : w * h ≤ 16) {st' : Nat → Int32} {pt' : Nat → Nat} {hd' : Nat → Option Nat} {p r c' : Nat} (hp : p < np) (hr : r = me_cr kd sr p) (hb : pt p ≤ bo p) (hs : st p = 115 ∨ st p = 119) (hs0 : st p = 115 → pt p = 0) (hs1 : ∀ j, j < np → st j = 119 → 0 < pt j) (htk : tk p ≤ pt p) (hsr : sr p < w * h) (haw : aw (sr p) = true) (hfst : ∀ j, j < p → sr j = sr p → me_ch (kd j) = me_ch (kd p) → pt j = bo j + 1 ∨ st j = 108) (hst' : ∀ p', st' p' = if p' = p then 119 else st p') (hpt' : ∀ p', pt' p' = if p' = p then pt p + 1 else pt p') (hhd' : ∀ p', hd' p' = if p' = p ∧ pt p = 0 then some (sr p) else hd p') (hl : (q r).length < 4) : me_Wm w h np kd st' sr gl bo pt' tk hd' (me_fu q r (q r ++ [(p, pt p, c')])) ro rh aw := by
  have hwl := hW.wl
  have hch := me_ch_lt (kd p)
  have r1 : r / 10 = sr p := by rw [hr]; unfold me_cr; omega
  have r2 : r % 5 = 4 := by rw [hr]; unfold me_cr; omega
  have r3 : r % 10 / 5 = me_ch (kd p) := by rw [hr]; unfold me_cr; omega
  refine (hwl.put hp hr hb hs hs0 hs1 htk hsr haw hfst hst' hpt' hhd' me_L_pu).wm (fun x => ?_) (fun x => ?_) (fun p' h1 h2 => ?_)
  · rw [me_fu_ap]
    by_cases hx : x = r
    · rw [if_pos hx, List.length_append]
      show (q r).length + 1 ≤ 4
      omega
    · rw [if_neg hx]
      exact hW.in4 x
  · rw [me_fu_ap]
    by_cases hx : x = r
    · rw [if_pos hx]
      refine List.pairwise_append.mpr ⟨hW.iso r, List.pairwise_singleton _ _, fun e he e' he' => ?_⟩
      rw [List.mem_singleton.mp he']
      show e.1 < p ∨ (e.1 = p ∧ e.2.1 < pt p)
      obtain ⟨-, l2, l3, l4, -, l6, -⟩ := hW.iel r e he
      have l8 := hW.ice r e he r2
      rcases Nat.lt_trichotomy e.1 p with g | g | g
      · exact Or.inl g
      · right
        rw [g] at l6
        exact ⟨g, l6⟩
      · exfalso
        rcases hW.ifp e.1 p l2 (hs1 e.1 l2 l3) g (by omega) (by omega) with k | k
        · omega
        · rcases hs with s | s <;> · rw [s] at k; exact absurd k (by decide)
    · rw [if_neg hx]
      exact hW.iso x
  · have e := me_ct_pu (q := q) (p := p) (i := pt p) (c := c') (show r < 160 by omega) p'
    show me_cs _ p' = _
    rw [hpt']
    by_cases g : p = p'
    · have e2 : me_cs q p' = pt p' - tk p' := hW.ict p' h1 (fun k => by rcases hs with s | s <;> · rw [← g, s] at k; exact absurd k (by decide))
      rw [if_pos g] at e
      rw [if_pos g.symm]
      rw [← g] at e e2 ⊢
      omega
    · rw [hst', if_neg (fun k => g k.symm)] at h2
      have e2 : me_cs q p' = pt p' - tk p' := hW.ict p' h1 h2
      rw [if_neg g] at e
      rw [if_neg (fun k => g k.symm)]
      omega
end MeWst
def me_Eq (a b : me_S) : Prop := a.w = b.w ∧ a.h = b.h ∧ a.rp = b.rp ∧ a.wy = b.wy ∧ a.bt = b.bt ∧ a.np = b.np ∧ a.ow = b.ow ∧ a.kd = b.kd ∧ a.st = b.st ∧ a.sr = b.sr ∧ a.gl = b.gl ∧ a.wd = b.wd ∧ a.bo = b.bo ∧ a.pt = b.pt ∧ a.tk = b.tk ∧ a.hd = b.hd ∧ a.ma = b.ma ∧ a.dn = b.dn ∧ a.pl = b.pl ∧ a.ad = b.ad ∧ a.an = b.an ∧ a.q = b.q ∧ a.ro = b.ro ∧ a.rh = b.rh ∧ a.rg = b.rg ∧ a.lr = b.lr ∧ a.fp = b.fp ∧ a.fl = b.fl ∧ a.aw = b.aw ∧ a.mm = b.mm ∧ a.sk = b.sk ∧ a.dp = b.dp ∧ a.nm = b.nm ∧ a.nu = b.nu ∧ a.ln = b.ln ∧ a.ca = b.ca ∧ a.co = b.co ∧ a.fa = b.fa ∧ a.nt = b.nt ∧ a.tn = b.tn ∧ a.tr = b.tr
theorem me_RC.eq {a b : me_S} {μ : me_M} (h : me_RC a μ) (e : me_Eq a b) : me_RC b μ := by
  obtain ⟨ew, eh, erp, ewy, ebt, enp, eow, ekd, est, esr, egl, ewd, ebo, ept, etk, ehd, ema, edn, epl, ead, ean, eq, ero, erh, erg, elr, efp, efl, eaw, emm, esk, edp, enm, enu, eln, eca, eco, efa, ent, etn, etr⟩ := e
  unfold me_RC at h ⊢
  simp only [ew, eh, erp, ewy, ebt, enp, eow, ekd, est, esr, egl, ewd, ebo, ept, etk, ehd, ema, edn, epl, ead, ean, eq, ero, erh, erg, elr, efp, efl, eaw, emm, esk, edp, enm, enu, eln, eca, eco, efa, ent, etn, etr] at h
  exact h
theorem me_Iv.eq {a b : me_S} (h : me_Iv a) (e : me_Eq a b) : me_Iv b := by
  obtain ⟨ew, eh, erp, ewy, ebt, enp, eow, ekd, est, esr, egl, ewd, ebo, ept, etk, ehd, ema, edn, epl, ead, ean, eq, ero, erh, erg, elr, efp, efl, eaw, emm, esk, edp, enm, enu, eln, eca, eco, efa, ent, etn, etr⟩ := e
  unfold me_Iv at h ⊢
  simp only [ew, eh, erp, ewy, ebt, enp, eow, ekd, est, esr, egl, ebo, ept, etk, ehd, ema, edn, epl, ean, eq, ero, erh, erg, elr, efp, efl, eaw, edp, enm, enu, eln, eca, eco, efa, ent, etn, etr] at h
  exact h
theorem me_RC.w_q {a : me_S} {μ μ' : me_M} (h : me_RC a μ) {x : Nat} {l : List (Nat × Nat × Nat)} (hF : ∀ k i j, ¬ ((k = 17 ∧ i = x ∧ j = 3) ∨ ((k = 18 ∨ k = 19 ∨ k = 20) ∧ i = x)) → μ' k i j = μ k i j) (hn : μ' 17 x 3 = me_N l.length) (h1 : ∀ j e, l[j]? = some e → μ' 18 x j = me_N e.1 ∧ μ' 19 x j = me_N e.2.1 ∧ μ' 20 x j = me_N e.2.2) : me_RC (me_S.s_q a (me_fu a.q x l)) μ' :=
  me_RC.mk ((hF _ _ _ (by omega)).trans (h.rp))
    ((hF _ _ _ (by omega)).trans (h.nn))
    (fun n d g0 g1 => (hF _ _ _ (by omega)).trans (h.ah n d g0 g1))
    (fun n d g0 g1 => (hF _ _ _ (by omega)).trans (h.fl n d g0 g1))
    (fun n g0 => (hF _ _ _ (by omega)).trans (h.cl n g0))
    (fun n g0 => (hF _ _ _ (by omega)).trans (h.li n g0))
    ((hF _ _ _ (by omega)).trans (h.np))
    ((hF _ _ _ (by omega)).trans (h.ow))
    (fun i g0 => (hF _ _ _ (by omega)).trans (h.p0 i g0))
    (fun i => (hF _ _ _ (by omega)).trans (h.kd i))
    (fun i => (hF _ _ _ (by omega)).trans (h.st i))
    (fun i => (hF _ _ _ (by omega)).trans (h.sr i))
    (fun i => (hF _ _ _ (by omega)).trans (h.gl i))
    (fun i => (hF _ _ _ (by omega)).trans (h.wd i))
    (fun i g0 => (hF _ _ _ (by omega)).trans (h.bo i g0))
    (fun i => (hF _ _ _ (by omega)).trans (h.pt i))
    (fun i => (hF _ _ _ (by omega)).trans (h.tk i))
    (fun i g0 => (hF _ _ _ (by omega)).trans (h.hd i g0))
    (fun i => (hF _ _ _ (by omega)).trans (h.ma i))
    (fun i g0 => (hF _ _ _ (by omega)).trans (h.dn i g0))
    (fun i => (hF _ _ _ (by omega)).trans (h.pl i))
    (fun i => (hF _ _ _ (by omega)).trans (h.ad i))
    (fun i g0 => (hF _ _ _ (by omega)).trans (h.an i g0))
    ((hF _ _ _ (by omega)).trans (h.nt))
    (fun i g0 => (hF _ _ _ (by omega)).trans (h.tn i g0))
    (fun i j g0 g1 => (hF _ _ _ (by omega)).trans (h.tr i j g0 g1))
    (fun n g0 => (hF _ _ _ (by omega)).trans (h.aw n g0))
    (fun n k g0 g1 => (hF _ _ _ (by omega)).trans (h.lr n k g0 g1))
    (fun n c g0 g1 => (hF _ _ _ (by omega)).trans (h.fp n c g0 g1))
    (fun r g0 => by show μ' 17 r 3 = me_N (me_fu a.q x l r).length; rw [me_fu_ap]; by_cases e : r = x; (rw [if_pos e, e]; exact hn); (rw [if_neg e, hF 17 r 3 (by omega)]; exact h.qn r g0))
    (fun r g0 => (hF _ _ _ (by omega)).trans (h.qp r g0))
    (fun r g0 => (hF _ _ _ (by omega)).trans (h.ro r g0))
    (fun r g0 => (hF _ _ _ (by omega)).trans (h.rh r g0))
    (fun r g0 => (hF _ _ _ (by omega)).trans (h.rg r g0))
    (fun r j e g0 g1 => by have g1 : (me_fu a.q x l r)[j]? = some e := g1; rw [me_fu_ap] at g1; by_cases q : r = x; (rw [if_pos q] at g1; rw [q]; exact (h1 j e g1).1); (rw [if_neg q] at g1; rw [hF 18 r j (by omega)]; exact h.q1 r j e g0 g1))
    (fun r j e g0 g1 => by have g1 : (me_fu a.q x l r)[j]? = some e := g1; rw [me_fu_ap] at g1; by_cases q : r = x; (rw [if_pos q] at g1; rw [q]; exact (h1 j e g1).2.1); (rw [if_neg q] at g1; rw [hF 19 r j (by omega)]; exact h.q2 r j e g0 g1))
    (fun r j e g0 g1 => by have g1 : (me_fu a.q x l r)[j]? = some e := g1; rw [me_fu_ap] at g1; by_cases q : r = x; (rw [if_pos q] at g1; rw [q]; exact (h1 j e g1).2.2); (rw [if_neg q] at g1; rw [hF 20 r j (by omega)]; exact h.q3 r j e g0 g1))
    (fun n g0 => (hF _ _ _ (by omega)).trans (h.dp n g0))
    (fun n g0 => (hF _ _ _ (by omega)).trans (h.ln n g0))
    (fun n g0 => (hF _ _ _ (by omega)).trans (h.ca n g0))
    (fun n g0 => (hF _ _ _ (by omega)).trans (h.co n g0))
    (fun n g0 => (hF _ _ _ (by omega)).trans (h.fa n g0))
    (fun n j g0 g1 => (hF _ _ _ (by omega)).trans (h.mm n j g0 g1))
    (fun n j g0 g1 => (hF _ _ _ (by omega)).trans (h.sk n j g0 g1))
    (fun n j g0 g1 => (hF _ _ _ (by omega)).trans (h.nm n j g0 g1))
    (fun n j g0 g1 => (hF _ _ _ (by omega)).trans (h.nu n j g0 g1))
    ((hF _ _ _ (by omega)).trans (h.wy))
    ((hF _ _ _ (by omega)).trans (h.bt))
theorem y_copy {μ : me_M} {r x y : Nat} (hx : x < 4) (hy : y < 4) : ∃ μ', f_Row_copyPiece μ r (me_N x) (me_N y) = some (μ', ()) ∧ ∀ k i j, μ' k i j = if (k = 18 ∨ k = 19 ∨ k = 20) ∧ i = r ∧ j = y then μ k r x else μ k i j := by
  unfold f_Row_copyPiece
  simp only [me_gd_n (show x < 2147483648 by omega) hx, me_gd_n (show y < 2147483648 by omega) hy, me_lt_s, me_N_ix (show x < 2147483648 by omega), me_N_ix (show y < 2147483648 by omega)]
  refine ⟨_, rfl, ?_⟩
  intro k i j
  by_cases h : (k = 18 ∨ k = 19 ∨ k = 20) ∧ i = r ∧ j = y
  · rw [if_pos h]
    obtain ⟨h1, h2, h3⟩ := h
    rcases h1 with h1 | h1 | h1
    · rw [h1, h2, h3, me_up_kn (by decide), me_up_kn (by decide), me_up_at]
    · rw [h1, h2, h3, me_up_kn (by decide), me_up_at, me_up_kn (by decide)]
    · rw [h1, h2, h3, me_up_at, me_up_kn (by decide), me_up_kn (by decide)]
  · rw [if_neg h, me_up_ap, if_neg (by omega), me_up_ap, if_neg (by omega), me_up_ap, if_neg (by omega)]
theorem me_max0 {k : Nat} (h : k < 2147483648) : me_max' 0 (me_N k) = me_N k := by
  unfold me_max'
  by_cases e : k = 0
  · rw [e]
    rfl
  · rw [if_pos (by rw [me_N_0, me_N_lt (by omega) h]; omega)]
theorem y_give1 {r m : Nat} (hm : m ≤ 4) : ∀ (d f i : Nat) (μ : me_M), μ 17 r 3 = me_N m → i + d = m → d < f → 1 ≤ i → ∃ μ', f_Row_giveFirst_h16 f μ r (me_N i) = some (μ', ()) ∧ (∀ k i' j, ¬ ((k = 17 ∧ i' = r ∧ j = 3) ∨ ((k = 18 ∨ k = 19 ∨ k = 20) ∧ i' = r)) → μ' k i' j = μ k i' j) ∧ μ' 17 r 3 = me_N (m - 1) ∧ ∀ kk, (kk = 18 ∨ kk = 19 ∨ kk = 20) → (∀ j, i ≤ j + 1 → j + 1 < m → μ' kk r j = μ kk r (j + 1)) ∧ (∀ j, j + 1 < i → μ' kk r j = μ kk r j) := by
  intro d
  induction d with
  | zero =>
    intro f i μ h1 h2 h3 h4
    obtain ⟨f, rfl⟩ : ∃ g, f = g + 1 := ⟨f - 1, by omega⟩
    refine ⟨me_up μ 17 r 3 (me_N (m - 1)), ?_, ?_, me_up_at, ?_⟩
    · show f_Row_giveFirst_b16 _ _ _ _ = _
      unfold f_Row_giveFirst_b16
      rw [h1, if_pos (by rw [me_N_le (by omega) (by omega)]; omega), me_lt_s, me_N_1, me_N_sub (by omega), me_max0 (by omega)]
    · intro k i' j h
      rw [me_up_ap, if_neg (by omega)]
    · intro kk hk
      exact ⟨fun j a b => by omega, fun j a => me_up_kn (by omega)⟩
  | succ d ih =>
    intro f i μ h1 h2 h3 h4
    obtain ⟨f, rfl⟩ : ∃ g, f = g + 1 := ⟨f - 1, by omega⟩
    obtain ⟨μ4, c1, c2⟩ := y_copy (μ := μ) (r := r) (x := i) (y := i - 1) (by omega) (by omega)
    obtain ⟨μ', g1, g2, g3, g4⟩ := ih f (i + 1) μ4 (by rw [c2, if_neg (by omega)]; exact h1) (by omega) (by omega) (by omega)
    refine ⟨μ', ?_, ?_, g3, ?_⟩
    · show f_Row_giveFirst_b16 _ _ _ _ = _
      unfold f_Row_giveFirst_b16
      rw [h1, if_neg (by rw [me_N_le (by omega) (by omega)]; omega), me_N_1, me_N_sub (by omega), c1, me_b2_s, me_N_inc, me_lt_s]
      exact g1
    · intro k i' j h
      rw [g2 k i' j h, c2, if_neg (by omega)]
    · intro kk hk
      obtain ⟨k1, k2⟩ := g4 kk hk
      refine ⟨fun j a b => ?_, fun j a => ?_⟩
      · by_cases e : i = j + 1
        · rw [k2 j (by omega), c2, if_pos ⟨hk, rfl, by omega⟩, e]
        · rw [k1 j (by omega) b, c2, if_neg (by omega)]
      · rw [k2 j (by omega), c2, if_neg (by omega)]
theorem y_give {a : me_S} {μ : me_M} (hC : me_RC a μ) {r g : Nat} (hr : r < 160) {e : Nat × Nat × Nat} {t : List (Nat × Nat × Nat)} (hq : a.q r = e :: t) (h4 : t.length < 4) : (∃ μ', f_Row_giveFirst μ r 0 (me_N g) = some (μ', ()) ∧ me_RC (me_S.s_q (me_S.s_rg a (me_fu a.rg r g)) (me_fu a.q r t)) μ' ∧ ∀ k, ¬ (17 ≤ k ∧ k ≤ 20) → μ' k = μ k) ∧ (∃ μ', f_Row_giveFirst μ r 1 (me_N g) = some (μ', ()) ∧ me_RC (me_S.s_q (me_S.s_ro (me_S.s_rg a (me_fu a.rg r g)) (me_fu a.ro r none)) (me_fu a.q r t)) μ' ∧ ∀ k, ¬ (17 ≤ k ∧ k ≤ 20) → μ' k = μ k) := by
  have hn := hC.qn r hr
  rw [hq, List.length_cons] at hn
  have hc : ∀ j e', t[j]? = some e' → j < t.length ∧ μ 18 r (j + 1) = me_N e'.1 ∧ μ 19 r (j + 1) = me_N e'.2.1 ∧ μ 20 r (j + 1) = me_N e'.2.2 := fun j e' he => by
    have he2 : (a.q r)[j + 1]? = some e' := by rw [hq, List.getElem?_cons_succ]; exact he
    exact ⟨(List.getElem?_eq_some_iff.mp he).1, hC.q1 r (j + 1) e' hr he2, hC.q2 r (j + 1) e' hr he2, hC.q3 r (j + 1) e' hr he2⟩
  constructor
  · obtain ⟨μ', g1, g2, g3, g4⟩ := y_give1 (r := r) (m := t.length + 1) (by omega) t.length me_FU 1 (me_up μ 17 r 7 (me_N g)) (by rw [me_up_jn (by decide)]; exact hn) (by omega) (by unfold me_FU; omega) (by omega)
    refine ⟨μ', ?_, (hC.w_rg r g).w_q g2 g3 (fun j e' he => ?_), fun k hk => ?_⟩
    · unfold f_Row_giveFirst
      rw [me_lt_s, if_pos rfl]
      exact g1
    · obtain ⟨c1, c2, c3, c4⟩ := hc j e' he
      refine ⟨?_, ?_, ?_⟩
      · rw [(g4 18 (by decide)).1 j (by omega) (by omega), me_up_kn (by decide), c2]
      · rw [(g4 19 (by decide)).1 j (by omega) (by omega), me_up_kn (by decide), c3]
      · rw [(g4 20 (by decide)).1 j (by omega) (by omega), me_up_kn (by decide), c4]
    · funext i j
      rw [g2 k i j (by omega), me_up_kn (by omega)]
  · obtain ⟨μ', g1, g2, g3, g4⟩ := y_give1 (r := r) (m := t.length + 1) (by omega) t.length me_FU 1 (me_up (me_up μ 17 r 7 (me_N g)) 17 r 5 (me_Op none)) (by rw [me_up_jn (by decide), me_up_jn (by decide)]; exact hn) (by omega) (by unfold me_FU; omega) (by omega)
    refine ⟨μ', ?_, ((hC.w_rg r g).w_ro r none).w_q g2 g3 (fun j e' he => ?_), fun k hk => ?_⟩
    · unfold f_Row_giveFirst
      rw [me_lt_s, if_neg (by decide), me_lt_s]
      exact g1
    · obtain ⟨c1, c2, c3, c4⟩ := hc j e' he
      refine ⟨?_, ?_, ?_⟩
      · rw [(g4 18 (by decide)).1 j (by omega) (by omega), me_up_kn (by decide), me_up_kn (by decide), c2]
      · rw [(g4 19 (by decide)).1 j (by omega) (by omega), me_up_kn (by decide), me_up_kn (by decide), c3]
      · rw [(g4 20 (by decide)).1 j (by omega) (by omega), me_up_kn (by decide), me_up_kn (by decide), c4]
    · funext i j
      rw [g2 k i j (by omega), me_up_kn (by omega), me_up_kn (by omega)]
theorem me_lst1 {l : List (Nat × Nat × Nat)} {x e : Nat × Nat × Nat} {j : Nat} (h : (l ++ [x])[j]? = some e) : l[j]? = some e ∧ j < l.length ∨ j = l.length ∧ e = x := by
  rcases Nat.lt_trichotomy j l.length with g | g | g
  · left
    rw [List.getElem?_append_left g] at h
    exact ⟨h, g⟩
  · right
    rw [g, List.getElem?_append_right (Nat.le_refl _), Nat.sub_self] at h
    exact ⟨g, (Option.some.inj h).symm⟩
  · rw [List.getElem?_eq_none (by rw [List.length_append]; show l.length + 1 ≤ j; omega)] at h
    cases h
theorem y_add {a : me_S} {μ : me_M} (hC : me_RC a μ) {r p i g : Nat} (hr : r < 160) (hl : (a.q r).length < 4) : ∃ μ', f_Row_addPiece μ r (me_N p) (me_N i) (me_N g) = some (μ', ()) ∧ me_RC (me_S.s_q a (me_fu a.q r (a.q r ++ [(p, i, g)]))) μ' ∧ ∀ k, ¬ (17 ≤ k ∧ k ≤ 20) → μ' k = μ k := by
  have hn := hC.qn r hr
  unfold f_Row_addPiece
  rw [hn, if_neg (by rw [me_N_4, me_N_le (by omega) (by omega)]; omega), me_gd_n (by omega) hl, me_lt_s, me_up_kn (by decide), hn, me_gd_n (by omega) hl, me_lt_s, me_up_kn (by decide), me_up_kn (by decide), hn, me_gd_n (by omega) hl, me_lt_s, me_up_kn (by decide), me_up_kn (by decide), me_up_kn (by decide), hn, me_lt_s, me_N_ix (by omega), me_N_1, me_N_add]
  refine ⟨_, rfl, hC.w_q (fun k i' j h => ?_) ?_ (fun j e he => ?_), fun k hk => ?_⟩
  · rw [me_up_ap, if_neg (by omega), me_up_ap, if_neg (by omega), me_up_ap, if_neg (by omega), me_up_ap, if_neg (by omega)]
  · rw [me_up_at, List.length_append]
    rfl
  · rcases me_lst1 he with ⟨h1, h2⟩ | ⟨h1, h2⟩
    · refine ⟨?_, ?_, ?_⟩
      · rw [me_up_kn (by decide), me_up_kn (by decide), me_up_kn (by decide), me_up_jn (by omega)]
        exact hC.q1 r j e hr h1
      · rw [me_up_kn (by decide), me_up_kn (by decide), me_up_jn (by omega), me_up_kn (by decide)]
        exact hC.q2 r j e hr h1
      · rw [me_up_kn (by decide), me_up_jn (by omega), me_up_kn (by decide), me_up_kn (by decide)]
        exact hC.q3 r j e hr h1
    · rw [h1, h2]
      refine ⟨?_, ?_, ?_⟩
      · rw [me_up_kn (by decide), me_up_kn (by decide), me_up_kn (by decide), me_up_at]
      · rw [me_up_kn (by decide), me_up_kn (by decide), me_up_at]
      · rw [me_up_kn (by decide), me_up_at]
  · funext i' j
    rw [me_up_kn (by omega), me_up_kn (by omega), me_up_kn (by omega), me_up_kn (by omega)]
theorem gh_geo1 : ∀ w, w < 5 → ∀ h, h < 5 → ∀ n, n < w * h → ∀ g, g < w * h → ∀ s, s < w * h → (!(decide (me_ds w s n + me_ds w n g = me_ds w s g)) || (gh_oq (gh_ax w n g) (fun d => gh_oq (me_nb w h n d) (fun n' => decide (me_ds w s n' = me_ds w s n + 1) && decide (me_ds w s n' + me_ds w n' g = me_ds w s g))) && gh_oq (gh_ay w n g) (fun d => gh_oq (me_nb w h n d) (fun n' => decide (me_ds w s n' = me_ds w s n + 1) && decide (me_ds w s n' + me_ds w n' g = me_ds w s g))))) = true := by decide +kernel
theorem gh_geo {a : me_S} (hI : me_Iv a) {n g s d n' : Nat} (hn : n < a.w * a.h) (hg : g < a.w * a.h) (hs : s < a.w * a.h) (hsum : me_ds a.w s n + me_ds a.w n g = me_ds a.w s g) (hd : gh_ax a.w n g = some d ∨ gh_ay a.w n g = some d) (hnb : me_nb a.w a.h n d = some n') : me_ds a.w s n' = me_ds a.w s n + 1 ∧ me_ds a.w s n' + me_ds a.w n' g = me_ds a.w s g := by
  have hw := hI.1.iw
  have hh := hI.1.ih
  have h := gh_geo1 a.w (by omega) a.h (by omega) n hn g hg s hs
  rw [decide_eq_true hsum, Bool.not_true, Bool.false_or, Bool.and_eq_true] at h
  have key : (decide (me_ds a.w s n' = me_ds a.w s n + 1) && decide (me_ds a.w s n' + me_ds a.w n' g = me_ds a.w s g)) = true := by
    rcases hd with e | e
    · have h1 := h.1
      rw [e] at h1
      have h1 : gh_oq (me_nb a.w a.h n d) (fun n' => decide (me_ds a.w s n' = me_ds a.w s n + 1) && decide (me_ds a.w s n' + me_ds a.w n' g = me_ds a.w s g)) = true := h1
      rw [hnb] at h1
      exact h1
    · have h1 := h.2
      rw [e] at h1
      have h1 : gh_oq (me_nb a.w a.h n d) (fun n' => decide (me_ds a.w s n' = me_ds a.w s n + 1) && decide (me_ds a.w s n' + me_ds a.w n' g = me_ds a.w s g)) = true := h1
      rw [hnb] at h1
      exact h1
  rw [Bool.and_eq_true, decide_eq_true_eq, decide_eq_true_eq] at key
  exact key
theorem gh_side_ax {a : me_S} {n g c d : Nat} (hd : ¬ d = 4) : gh_side a n g c = d → gh_ax a.w n g = some d ∨ gh_ay a.w n g = some d := by
  unfold gh_side
  cases gh_ax a.w n g with
  | none =>
    cases gh_ay a.w n g with
    | none => intro h; exact absurd h.symm hd
    | some y => intro h; exact Or.inr (congrArg some h)
  | some x =>
    cases gh_ay a.w n g with
    | none => intro h; exact Or.inl (congrArg some h)
    | some y =>
      dsimp only
      intro h
      by_cases w1 : a.wy = 116
      · rw [if_pos w1] at h
        by_cases x1 : x = 1
        · rw [if_pos x1] at h
          exact Or.inl (congrArg some (x1.trans h))
        · rw [if_neg x1] at h
          by_cases f1 : gh_fr a n c x = true
          · rw [if_pos f1] at h
            exact Or.inl (congrArg some h)
          · rw [if_neg f1] at h
            by_cases f2 : gh_fr a n c y = true
            · rw [if_pos f2] at h
              exact Or.inr (congrArg some h)
            · rw [if_neg f2] at h
              by_cases f3 : a.fl n x = 0
              · rw [if_pos f3] at h
                exact Or.inl (congrArg some h)
              · rw [if_neg f3] at h
                by_cases f4 : a.fl n y = 0
                · rw [if_pos f4] at h
                  exact Or.inr (congrArg some h)
                · rw [if_neg f4] at h
                  exact Or.inl (congrArg some h)
      · rw [if_neg w1] at h
        by_cases w2 : a.wy = 120
        · rw [if_pos w2] at h
          exact Or.inl (congrArg some h)
        · rw [if_neg w2] at h
          exact Or.inr (congrArg some h)
/-- rows and worms written anew -/
def gh_mv (a : me_S) (Q : Nat → List (Nat × Nat × Nat)) (RG : Nat → Nat) (RO RH HD : Nat → Option Nat) : me_S := me_S.s_q (me_S.s_rg (me_S.s_hd (me_S.s_ro (me_S.s_rh a RH) RO) HD) RG) Q
theorem gh_iv_mv {a : me_S} {Q : Nat → List (Nat × Nat × Nat)} {RG : Nat → Nat} {RO RH HD : Nat → Option Nat} (hI : me_Iv a) (hW : me_Wm a.w a.h a.np a.kd a.st a.sr a.gl a.bo a.pt a.tk HD Q RO RH a.aw) (hg : ∀ r, RG r ≤ a.bt + 1) : me_Iv (gh_mv a Q RG RO RH HD) :=
  ⟨hI.1, hI.2.1, hI.2.2.1, hI.2.2.2.1, hW, hI.2.2.2.2.2.1, hI.2.2.2.2.2.2.1, hg, hI.2.2.2.2.2.2.2.2⟩
theorem gh_rg {a : me_S} (hI : me_Iv a) {r g : Nat} (hg : g ≤ a.bt + 1) : ∀ x, me_fu a.rg r g x ≤ a.bt + 1 := by
  intro x
  rw [me_fu_ap]
  split
  · exact hg
  · exact hI.2.2.2.2.2.2.2.1 x
theorem gh_iv_lr {a : me_S} (hI : me_Iv a) {x v : Nat} (hv : v < 5) : me_Iv (me_S.s_lr a (me_fu a.lr x v)) := by
  refine ⟨hI.1, hI.2.1, hI.2.2.1, hI.2.2.2.1, hI.2.2.2.2.1, hI.2.2.2.2.2.1, fun b k hb hk => ?_, hI.2.2.2.2.2.2.2.1, hI.2.2.2.2.2.2.2.2⟩
  show me_fu a.lr x v (5 * b + k) < 5
  rw [me_fu_ap]
  split
  · exact hv
  · exact hI.2.2.2.2.2.2.1 b k hb hk
theorem gh_iv_an {a : me_S} (hI : me_Iv a) {p j : Nat} (hj : j < a.np) : me_Iv (me_S.s_an a (me_fu a.an p (some j))) := by
  obtain ⟨h0, hP, h2⟩ := hI
  refine ⟨h0, me_IP.mk hP.ile hP.iow hP.ikd hP.ist hP.isr hP.igl hP.ibo hP.ipt hP.ima hP.idn hP.idm hP.ipl (fun i k hi hk => ?_) hP.is0 hP.is1 hP.is2, h2⟩
  have hk : me_fu a.an p (some j) i = some k := hk
  rw [me_fu_ap] at hk
  by_cases e : i = p
  · rw [if_pos e] at hk
    rw [← Option.some.inj hk]
    exact hj
  · rw [if_neg e] at hk
    exact hP.ian i k hi hk
theorem gh_iv_mm {a : me_S} (hI : me_Iv a) (M : Nat → Nat → Int32) : me_Iv (me_S.s_mm a M) := hI
theorem me_cn_one {P P' : Nat → Bool} {r : Nat} (hx : ∀ x, ¬ x = r → P x = P' x) : ∀ n, r < n → (List.range n).countP P + (if P' r = true then 1 else 0) = (List.range n).countP P' + (if P r = true then 1 else 0) := by
  intro n
  induction n with
  | zero => intro h; exact absurd h (Nat.not_lt_zero _)
  | succ n ih =>
    intro h
    rw [List.range_succ, List.countP_append, List.countP_append, List.countP_cons, List.countP_cons, List.countP_nil, List.countP_nil]
    by_cases e : r = n
    · rw [← e, List.countP_congr (p := P) (q := P') (fun x hx' => by rw [hx x (by have := List.mem_range.mp hx'; omega)])]
      omega
    · have := ih (by omega)
      rw [hx n (fun q => e q.symm)]
      omega
section MeIPs
variable {w h np ow bt : Nat} {kd st : Nat → Int32} {sr gl bo pt tk ma : Nat → Nat} {dn : Nat → Option Nat} {pl : Nat → Nat} {an : Nat → Option Nat}
theorem me_IP.tk1 (hP : me_IP w h np ow bt kd st sr gl bo pt tk ma dn pl an) {p : Nat} {tk' : Nat → Nat} (hs : st p = 119) (ht : tk p < pt p) (htk' : ∀ x, tk' x = if x = p then tk p + 1 else tk x) : me_IP w h np ow bt kd st sr gl bo pt tk' ma dn pl an := by
  refine me_IP.mk hP.ile hP.iow hP.ikd hP.ist hP.isr hP.igl hP.ibo (fun i hi => ?_) hP.ima hP.idn hP.idm hP.ipl hP.ian hP.is0 hP.is1 (fun i hi h1 => ?_)
  · have := hP.ipt i hi
    rw [htk']
    by_cases e : i = p
    · rw [if_pos e]
      rw [e] at this ⊢
      omega
    · rw [if_neg e]
      exact this
  · rw [htk', if_neg (fun e => by rw [e, hs] at h1; rcases h1 with q | q <;> exact absurd q (by decide))]
    exact hP.is2 i hi h1
theorem me_IP.dlv (hP : me_IP w h np ow bt kd st sr gl bo pt tk ma dn pl an) {p ow' : Nat} {st' : Nat → Int32} {tk' : Nat → Nat} {dn' : Nat → Option Nat} (hp : p < np) (hs : st p = 119) (ht : tk p < pt p) (hb : tk p = bo p) (hst' : ∀ x, st' x = if x = p then 100 else st x) (htk' : ∀ x, tk' x = if x = p then tk p + 1 else tk x) (hdn' : ∀ x, dn' x = if x = p then some (bt + 1) else dn x) (how : ow' + (if kd p = 113 then 1 else 0) = ow) : me_IP w h np ow' bt kd st' sr gl bo pt tk' ma dn' pl an := by
  have ne : ∀ x, ¬ x = p → st' x = st x := fun x e => by rw [hst', if_neg e]
  have eq : st' p = 100 := by rw [hst', if_pos rfl]
  have hma := hP.ima p hp
  refine me_IP.mk ?_ ?_ hP.ikd (fun i hi => ?_) hP.isr hP.igl hP.ibo (fun i hi => ?_) hP.ima (fun i hi h1 => ?_) (fun i t hi h1 => ?_) hP.ipl hP.ian (fun i hi h1 => ?_) (fun i hi h1 => ?_) (fun i hi h1 => ?_)
  · have := hP.ile
    omega
  · have k := me_cn_one (P := me_qs kd st') (P' := me_qs kd st) (r := p) (fun x e => by unfold me_qs; rw [ne x e]) np hp
    have k1 : (if me_qs kd st' p = true then 1 else 0) = 0 := by
      rw [if_neg]
      unfold me_qs
      rw [eq]
      intro q
      simp at q
    have k2 : (if me_qs kd st p = true then 1 else 0) = (if kd p = 113 then 1 else 0) := by
      unfold me_qs
      rw [hs]
      by_cases g : kd p = 113
      · rw [if_pos g, decide_eq_true g, if_pos (by decide)]
      · rw [if_neg g, decide_eq_false g, if_neg (by decide)]
    have k3 := hP.iow
    rw [k1, k2] at k
    omega
  · by_cases e : i = p
    · rw [e, eq]
      decide
    · rw [ne i e]
      exact hP.ist i hi
  · have := hP.ipt i hi
    rw [htk']
    by_cases e : i = p
    · rw [if_pos e]
      rw [e] at this ⊢
      omega
    · rw [if_neg e]
      exact this
  · by_cases e : i = p
    · refine ⟨bt + 1, by rw [hdn', if_pos e], ?_, Nat.le_refl _⟩
      rw [e]
      omega
    · rw [ne i e] at h1
      rw [hdn', if_neg e]
      exact hP.idn i hi h1
  · rw [hdn'] at h1
    by_cases e : i = p
    · rw [if_pos e] at h1
      have := Option.some.inj h1
      omega
    · rw [if_neg e] at h1
      exact hP.idm i t hi h1
  · by_cases e : i = p
    · rw [e, eq] at h1
      exact absurd h1 (by decide)
    · rw [ne i e] at h1
      exact hP.is0 i hi h1
  · by_cases e : i = p
    · rw [e, eq] at h1
      exact absurd h1 (by decide)
    · rw [ne i e] at h1
      exact hP.is1 i hi h1
  · rw [htk']
    by_cases e : i = p
    · rw [if_pos e, e]
      omega
    · rw [ne i e] at h1
      rw [if_neg e]
      exact hP.is2 i hi h1
theorem me_IP.lost (hP : me_IP w h np ow bt kd st sr gl bo pt tk ma dn pl an) {p ow' : Nat} {st' : Nat → Int32} (hp : p < np) (hs : st p = 119) (hst' : ∀ x, st' x = if x = p then 108 else st x) (how : ow' + (if kd p = 113 then 1 else 0) = ow) : me_IP w h np ow' bt kd st' sr gl bo pt tk ma dn pl an := by
  have ne : ∀ x, ¬ x = p → st' x = st x := fun x e => by rw [hst', if_neg e]
  have eq : st' p = 108 := by rw [hst', if_pos rfl]
  refine me_IP.mk ?_ ?_ hP.ikd (fun i hi => ?_) hP.isr hP.igl hP.ibo hP.ipt hP.ima (fun i hi h1 => ?_) hP.idm hP.ipl hP.ian (fun i hi h1 => ?_) (fun i hi h1 => ?_) (fun i hi h1 => ?_)
  · have := hP.ile
    omega
  · have k := me_cn_one (P := me_qs kd st') (P' := me_qs kd st) (r := p) (fun x e => by unfold me_qs; rw [ne x e]) np hp
    have k1 : (if me_qs kd st' p = true then 1 else 0) = 0 := by
      rw [if_neg]
      unfold me_qs
      rw [eq]
      intro q
      simp at q
    have k2 : (if me_qs kd st p = true then 1 else 0) = (if kd p = 113 then 1 else 0) := by
      unfold me_qs
      rw [hs]
      by_cases g : kd p = 113
      · rw [if_pos g, decide_eq_true g, if_pos (by decide)]
      · rw [if_neg g, decide_eq_false g, if_neg (by decide)]
    have k3 := hP.iow
    rw [k1, k2] at k
    omega
  · by_cases e : i = p
    · rw [e, eq]
      decide
    · rw [ne i e]
      exact hP.ist i hi
  · by_cases e : i = p
    · rw [e, eq] at h1
      rcases h1 with q | q <;> exact absurd q (by decide)
    · rw [ne i e] at h1
      exact hP.idn i hi h1
  · by_cases e : i = p
    · rw [e, eq] at h1
      exact absurd h1 (by decide)
    · rw [ne i e] at h1
      exact hP.is0 i hi h1
  · by_cases e : i = p
    · rw [e, eq] at h1
      exact absurd h1 (by decide)
    · rw [ne i e] at h1
      exact hP.is1 i hi h1
  · by_cases e : i = p
    · rw [e, eq] at h1
      rcases h1 with q | q <;> exact absurd q (by decide)
    · rw [ne i e] at h1
      exact hP.is2 i hi h1
theorem me_IP.put (hP : me_IP w h np ow bt kd st sr gl bo pt tk ma dn pl an) {p : Nat} {st' : Nat → Int32} {pt' : Nat → Nat} (hp : p < np) (hs : st p = 115 ∨ st p = 119) (hb : pt p ≤ bo p) (hst' : ∀ x, st' x = if x = p then 119 else st x) (hpt' : ∀ x, pt' x = if x = p then pt p + 1 else pt x) : me_IP w h np ow bt kd st' sr gl bo pt' tk ma dn pl an := by
  have ne : ∀ x, ¬ x = p → st' x = st x := fun x e => by rw [hst', if_neg e]
  have eq : st' p = 119 := by rw [hst', if_pos rfl]
  refine me_IP.mk hP.ile ?_ hP.ikd (fun i hi => ?_) hP.isr hP.igl hP.ibo (fun i hi => ?_) hP.ima (fun i hi h1 => ?_) hP.idm hP.ipl hP.ian (fun i hi h1 => ?_) (fun i hi h1 => ?_) (fun i hi h1 => ?_)
  · have k := me_cn_one (P := me_qs kd st') (P' := me_qs kd st) (r := p) (fun x e => by unfold me_qs; rw [ne x e]) np hp
    have k2 : me_qs kd st' p = me_qs kd st p := by
      unfold me_qs
      rw [eq]
      rcases hs with s | s
      · rw [s]
        rfl
      · rw [s]
    have k3 := hP.iow
    rw [k2] at k
    omega
  · by_cases e : i = p
    · rw [e, eq]
      decide
    · rw [ne i e]
      exact hP.ist i hi
  · have := hP.ipt i hi
    rw [hpt']
    by_cases e : i = p
    · rw [if_pos e]
      rw [e] at this ⊢
      omega
    · rw [if_neg e]
      exact this
  · by_cases e : i = p
    · rw [e, eq] at h1
      rcases h1 with q | q <;> exact absurd q (by decide)
    · rw [ne i e] at h1
      exact hP.idn i hi h1
  · by_cases e : i = p
    · rw [e, eq] at h1
      exact absurd h1 (by decide)
    · rw [ne i e] at h1
      rw [hpt', if_neg e]
      exact hP.is0 i hi h1
  · rw [hpt']
    by_cases e : i = p
    · rw [if_pos e]
      omega
    · rw [ne i e] at h1
      rw [if_neg e]
      exact hP.is1 i hi h1
  · by_cases e : i = p
    · rw [e, eq] at h1
      rcases h1 with q | q <;> exact absurd q (by decide)
    · rw [ne i e] at h1
      exact hP.is2 i hi h1
end MeIPs
theorem y_chan {a : me_S} {μ : me_M} (hC : me_RC a μ) (p : Nat) : f_Packet_channel μ p = some (me_N (me_ch (a.kd p))) := by
  unfold f_Packet_channel me_ch
  rw [hC.kd]
  by_cases e : a.kd p = 97
  · rw [if_pos e, if_pos e]
    rfl
  · rw [if_neg e, if_neg e]
    rfl
theorem y_tail {a : me_S} {μ : me_M} (hC : me_RC a μ) {p i : Nat} (hp : p < a.np) (hi : i < 1000) (hb : a.bo p < 1000) : f_Packet_isTail μ p (me_N i) = some (me_bi (decide (i = a.bo p))) := by
  unfold f_Packet_isTail
  rw [hC.bo p hp, me_N_1, me_N_sub (by omega), Nat.add_sub_cancel]
  by_cases e : i = a.bo p
  · rw [if_pos (by rw [e]), decide_eq_true e]
    rfl
  · rw [if_neg (by rw [me_N_inj (by omega) (by omega)]; exact e), decide_eq_false e]
    rfl
/-- delivered, and answered -/
def gh_dl (a : me_S) (p : Nat) : me_S := me_S.s_dn (me_S.s_st a (me_fu a.st p 100)) (me_fu a.dn p (some (a.bt + 1)))
def gh_aw (a : me_S) (p : Nat) : me_S := me_S.s_ow (me_S.s_mm a (me_fu2 a.mm (a.gl p) (a.pl p) (a.mm (a.gl p) (a.pl p) + a.ad p))) (a.ow - 1)
def gh_aq (a : me_S) (p : Nat) : me_S := me_S.s_an (gh_mk (gh_aw a p) 97 (a.gl p) (a.sr p) (a.mm (a.gl p) (a.pl p)) 1) (me_fu (gh_mk (gh_aw a p) 97 (a.gl p) (a.sr p) (a.mm (a.gl p) (a.pl p)) 1).an p (some a.np))
theorem y_deliver {a : me_S} {μ : me_M} (hC : me_RC a μ) {p : Nat} (hnow : μ 30 0 6 = me_N (a.bt + 1)) (hg : a.gl p < 16) (hpl : a.kd p = 113 → a.pl p < 8 ∧ 1 ≤ a.ow ∧ a.np < 200) (how : a.ow < 1000) : ∃ μ', f_Mover_deliver μ p = some (μ', ()) ∧ me_RC (if a.kd p = 113 then gh_aq (gh_dl a p) p else gh_dl a p) μ' ∧ ∀ k, ¬ (k = 6 ∨ k = 8 ∨ k = 23) → μ' k = μ k := by
  have h1 : me_RC (gh_dl a p) (me_up (me_up μ 8 p 2 100) 8 p 11 (me_N (a.bt + 1))) := (hC.w_st p 100).w_dn p (some (a.bt + 1))
  have f1 : ∀ k, ¬ k = 8 → me_up (me_up μ 8 p 2 100) 8 p 11 (me_N (a.bt + 1)) k = μ k := fun k hk => by
    funext i j
    rw [me_up_kn hk, me_up_kn hk]
  unfold f_Mover_deliver
  rw [me_lt_s, me_up_kn (show ¬ 30 = 8 by decide), hnow, me_lt_s]
  generalize me_up (me_up μ 8 p 2 100) 8 p 11 (me_N (a.bt + 1)) = μ2 at h1 f1 ⊢
  have z1 : μ2 8 p 1 = a.kd p := h1.kd p
  rw [z1]
  by_cases hk : a.kd p = 113
  · obtain ⟨hpl, ho, hn⟩ := hpl hk
    have z4 : μ2 8 p 4 = me_N (a.gl p) := h1.gl p
    have z12 : μ2 8 p 12 = me_N (a.pl p) := h1.pl p
    have z13 : μ2 8 p 13 = a.ad p := h1.ad p
    have z3 : μ2 8 p 3 = me_N (a.sr p) := h1.sr p
    have zm : μ2 23 (a.gl p) (a.pl p) = a.mm (a.gl p) (a.pl p) := h1.mm _ _ hg hpl
    have zo : μ2 6 0 2 = me_N a.ow := h1.ow
    have zb : μ2 30 0 5 = me_N a.bt := h1.bt
    have h3 : me_RC (gh_aw (gh_dl a p) p) (me_up (me_up μ2 23 (a.gl p) (a.pl p) (a.mm (a.gl p) (a.pl p) + a.ad p)) 6 0 2 (me_N (a.ow - 1))) := (h1.w_mm (a.gl p) (a.pl p) (a.mm (a.gl p) (a.pl p) + a.ad p)).w_ow (a.ow - 1)
    obtain ⟨μ11, e1, h4, f4⟩ := y_make0 h3 (k := 97) (s := a.gl p) (g := a.sr p) (w := a.mm (a.gl p) (a.pl p)) (b := 1) (by decide) (by decide +kernel) hn
    have e1 : f_Post_make (me_up (me_up μ2 23 (a.gl p) (a.pl p) (a.mm (a.gl p) (a.pl p) + a.ad p)) 6 0 2 (me_N (a.ow - 1))) 97 (me_N (a.gl p)) (me_N (a.sr p)) (a.mm (a.gl p) (a.pl p)) (me_N 1) (me_N a.bt) = some (μ11, me_N a.np) := e1
    refine ⟨me_up μ11 8 p 14 (me_N a.np), ?_, ?_, fun k hk' => ?_⟩
    · rw [if_pos hk, z4, z12, me_gd_n (by omega) hg, me_gd_n (by omega) hpl, me_lt_s, me_N_ix (by omega), me_N_ix (by omega), me_gd_n (by omega) hpl, zm, z13, me_lt_s, me_up_kn (show ¬ 6 = 23 by decide), zo, me_N_1, me_N_sub ho, me_lt_s, me_up_kn (show ¬ 8 = 6 by decide), me_up_kn (show ¬ 8 = 23 by decide), z4, me_up_kn (show ¬ 8 = 6 by decide), me_up_kn (show ¬ 8 = 23 by decide), z3, me_up_kn (show ¬ 30 = 6 by decide), me_up_kn (show ¬ 30 = 23 by decide), zb, e1, me_b2_s, me_lt_s]
    · rw [if_pos hk]
      exact h4.w_an p (some a.np)
    · funext i j
      rw [me_up_kn (by omega), f4 k (by omega) (by omega), me_up_kn (by omega), me_up_kn (by omega), f1 k (by omega)]
  · exact ⟨μ2, by rw [if_neg hk], by rw [if_neg hk]; exact h1, fun k hk' => f1 k (by omega)⟩
/-- a first piece given away -/
def gh_g0 (a : me_S) (p i r : Nat) (t : List (Nat × Nat × Nat)) : me_S := me_S.s_tk (me_S.s_q (me_S.s_ro (me_S.s_rg a (me_fu a.rg r (a.bt + 1))) (if i = a.bo p then me_fu a.ro r none else a.ro)) (me_fu a.q r t)) (me_fu a.tk p (a.tk p + 1))
/-- the first of a row goes to the core -/
def gh_cy (a : me_S) (p i r : Nat) (t : List (Nat × Nat × Nat)) : me_S := if i = a.bo p then (if a.kd p = 113 then gh_aq (gh_dl (gh_g0 a p i r t) p) p else gh_dl (gh_g0 a p i r t) p) else gh_g0 a p i r t
theorem y_gf {a : me_S} {μ : me_M} (hC : me_RC a μ) {r p i : Nat} (hr : r < 160) {e : Nat × Nat × Nat} {t : List (Nat × Nat × Nat)} (hq : a.q r = e :: t) (h4 : t.length < 4) : ∃ μ', f_Row_giveFirst μ r (me_bi (decide (i = a.bo p))) (me_N (a.bt + 1)) = some (μ', ()) ∧ me_RC (me_S.s_q (me_S.s_ro (me_S.s_rg a (me_fu a.rg r (a.bt + 1))) (if i = a.bo p then me_fu a.ro r none else a.ro)) (me_fu a.q r t)) μ' ∧ ∀ k, ¬ (17 ≤ k ∧ k ≤ 20) → μ' k = μ k := by
  obtain ⟨⟨μ1, a1, a2, a3⟩, ⟨μ2, b1, b2, b3⟩⟩ := y_give hC (g := a.bt + 1) hr hq h4
  by_cases g : i = a.bo p
  · rw [decide_eq_true g]
    refine ⟨μ2, b1, ?_, b3⟩
    rw [if_pos g]
    exact b2
  · rw [decide_eq_false g]
    refine ⟨μ1, a1, ?_, a3⟩
    rw [if_neg g]
    exact a2.eq ⟨rfl, rfl, rfl, rfl, rfl, rfl, rfl, rfl, rfl, rfl, rfl, rfl, rfl, rfl, rfl, rfl, rfl, rfl, rfl, rfl, rfl, rfl, rfl, rfl, rfl, rfl, rfl, rfl, rfl, rfl, rfl, rfl, rfl, rfl, rfl, rfl, rfl, rfl, rfl, rfl, rfl⟩
theorem y_core2 {a : me_S} {μ : me_M} (hC : me_RC a μ) {r p i : Nat} {e : Nat × Nat × Nat} {t : List (Nat × Nat × Nat)} (hr : r < 160) (hq : a.q r = e :: t) (h4 : t.length < 4) (hp : p < a.np) (hi : i < 1000) (hb : a.bo p < 1000) (hnow : μ 30 0 6 = me_N (a.bt + 1)) (hg : a.gl p < 16) (hpl : a.kd p = 113 → a.pl p < 8 ∧ 1 ≤ a.ow ∧ a.np < 200) (how : a.ow < 1000) : ∃ μ', f_Mover_giveToCore_b21 μ r p (me_N i) = some (μ', ()) ∧ me_RC (gh_cy a p i r t) μ' ∧ ∀ k, ¬ (k = 6 ∨ k = 8 ∨ k = 23 ∨ (17 ≤ k ∧ k ≤ 20)) → μ' k = μ k := by
  obtain ⟨μ3, c1, c2, c3⟩ := y_gf hC (p := p) (i := i) hr hq h4
  have c4 : me_RC (gh_g0 a p i r t) (me_up μ3 8 p 8 (me_N (a.tk p + 1))) := c2.w_tk p (a.tk p + 1)
  have ztk : μ3 8 p 8 = me_N (a.tk p) := c2.tk p
  have t2 : f_Packet_isTail (me_up μ3 8 p 8 (me_N (a.tk p + 1))) p (me_N i) = some (me_bi (decide (i = a.bo p))) := y_tail c4 hp hi hb
  have n3 : me_up μ3 8 p 8 (me_N (a.tk p + 1)) 30 0 6 = me_N (a.bt + 1) := by rw [me_up_kn (by decide), c3 30 (by decide)]; exact hnow
  have f3 : ∀ k, ¬ (k = 8 ∨ (17 ≤ k ∧ k ≤ 20)) → me_up μ3 8 p 8 (me_N (a.tk p + 1)) k = μ k := fun k hk => by
    funext x y
    rw [me_up_kn (by omega), c3 k (by omega)]
  unfold f_Mover_giveToCore_b21
  rw [y_tail hC hp hi hb, me_bd_s, hnow, c1, me_b2_s, ztk, me_N_1, me_N_add, me_lt_s, t2, me_bd_s]
  unfold gh_cy
  by_cases g : i = a.bo p
  · obtain ⟨μ8, d1, d2, d3⟩ := y_deliver c4 (p := p) n3 hg hpl how
    rw [decide_eq_true g, if_neg (by decide), if_pos g, d1, me_b2_s]
    exact ⟨μ8, rfl, d2, fun k hk => by rw [d3 k (by omega), f3 k (by omega)]⟩
  · rw [decide_eq_false g, if_pos (by rfl), if_neg g]
    exact ⟨_, rfl, c4, fun k hk => f3 k (by omega)⟩
/-- the way of a head to the core is noted -/
def gh_hc (a : me_S) (p i r : Nat) : me_S := if i = 0 then me_S.s_hd (me_S.s_rh a (me_fu a.rh r (some 4))) (me_fu a.hd p none) else a
theorem y_core {a : me_S} {μ : me_M} (hC : me_RC a μ) {r p i c : Nat} {t : List (Nat × Nat × Nat)} (hr : r < 160) (hq : a.q r = (p, i, c) :: t) (h4 : t.length < 4) (hp : p < a.np) (hi : i < 1000) (hb : a.bo p < 1000) (hnow : μ 30 0 6 = me_N (a.bt + 1)) (hg : a.gl p < 16) (hpl : a.kd p = 113 → a.pl p < 8 ∧ 1 ≤ a.ow ∧ a.np < 200) (how : a.ow < 1000) : ∃ μ', f_Mover_giveToCore μ r p = some (μ', ()) ∧ me_RC (gh_cy (gh_hc a p i r) p i r t) μ' ∧ ∀ k, ¬ (k = 6 ∨ k = 8 ∨ k = 23 ∨ (17 ≤ k ∧ k ≤ 20)) → μ' k = μ k := by
  have hx : μ 19 r 0 = me_N i := hC.q2 r 0 (p, i, c) hr (by rw [hq]; rfl)
  unfold f_Mover_giveToCore gh_hc
  rw [me_lt_s, hx]
  by_cases e : i = 0
  · have h1 : me_RC (me_S.s_hd (me_S.s_rh a (me_fu a.rh r (some 4))) (me_fu a.hd p none)) (me_up (me_up μ 17 r 6 4) 8 p 9 (-1)) := (hC.w_rh r (some 4)).w_hd p none
    rw [if_pos (by rw [e]; rfl), if_pos e, me_lt_s, me_lt_s]
    obtain ⟨μ', d1, d2, d3⟩ := y_core2 h1 (p := p) (i := i) hr hq h4 hp hi hb (by rw [me_up_kn (by decide), me_up_kn (by decide)]; exact hnow) hg hpl how
    refine ⟨μ', d1, d2, fun k hk => ?_⟩
    rw [d3 k hk]
    funext x y
    rw [me_up_kn (by omega), me_up_kn (by omega)]
  · rw [if_neg (by rw [me_N_0, me_N_inj (by omega) (by omega)]; exact e), if_neg e]
    exact y_core2 hC hr hq h4 hp hi hb hnow hg hpl how
/-- a first piece goes ahead -/
def gh_ay0 (a : me_S) (p i r r' : Nat) (t : List (Nat × Nat × Nat)) : me_S := me_S.s_q (me_S.s_q (me_S.s_ro (me_S.s_rg a (me_fu a.rg r (a.bt + 1))) (if i = a.bo p then me_fu a.ro r none else a.ro)) (me_fu a.q r t)) (me_fu (me_fu a.q r t) r' (a.q r' ++ [(p, i, a.bt + 1)]))
def gh_ha (a : me_S) (p i r r' d n' : Nat) : me_S := if i = 0 then me_S.s_hd (me_S.s_ro (me_S.s_rh a (me_fu a.rh r (some d))) (me_fu a.ro r' (some p))) (me_fu a.hd p (some n')) else a
theorem y_ahead2 {a : me_S} {μ : me_M} (hC : me_RC a μ) {r r' p i : Nat} {e : Nat × Nat × Nat} {t : List (Nat × Nat × Nat)} (hr : r < 160) (hr' : r' < 160) (hne : ¬ r' = r) (hq : a.q r = e :: t) (h4 : t.length < 4) (hl : (a.q r').length < 4) (hp : p < a.np) (hp2 : p < 200) (hi : i < 1000) (hb : a.bo p < 1000) (hnow : μ 30 0 6 = me_N (a.bt + 1)) : ∃ μ', f_Mover_givesAhead_b136 μ r p (me_N i) r' = some (μ', 1) ∧ me_RC (gh_ay0 a p i r r' t) μ' ∧ ∀ k, ¬ (17 ≤ k ∧ k ≤ 20) → μ' k = μ k := by
  obtain ⟨μ3, c1, c2, c3⟩ := y_gf hC (p := p) (i := i) hr hq h4
  have hq' : (me_S.s_q (me_S.s_ro (me_S.s_rg a (me_fu a.rg r (a.bt + 1))) (if i = a.bo p then me_fu a.ro r none else a.ro)) (me_fu a.q r t)).q r' = a.q r' := me_fu_ne hne
  obtain ⟨μ5, d1, d2, d3⟩ := y_add c2 (p := p) (i := i) (g := a.bt + 1) hr' (by rw [hq']; exact hl)
  rw [hq'] at d2
  have z0 : μ3 8 p 0 = me_N p := by rw [c3 8 (by decide)]; exact hC.p0 p hp2
  have zn : μ3 30 0 6 = me_N (a.bt + 1) := by rw [c3 30 (by decide)]; exact hnow
  refine ⟨μ5, ?_, d2, fun k hk => by rw [d3 k hk, c3 k hk]⟩
  unfold f_Mover_givesAhead_b136
  rw [y_tail hC hp hi hb, me_bd_s, hnow, c1, me_b2_s, z0, zn, d1, me_b2_s]
theorem y_ahead {a : me_S} {μ : me_M} (hC : me_RC a μ) {r r' p i d n' : Nat} {e : Nat × Nat × Nat} {t : List (Nat × Nat × Nat)} (hr : r < 160) (hr' : r' < 160) (hne : ¬ r' = r) (hq : a.q r = e :: t) (h4 : t.length < 4) (hl : (a.q r').length < 4) (hp : p < a.np) (hp2 : p < 200) (hi : i < 1000) (hb : a.bo p < 1000) (hnow : μ 30 0 6 = me_N (a.bt + 1)) : ∃ μ', f_Mover_givesAhead_b110 μ (me_N n') (me_N d) r p (me_N i) r' = some (μ', 1) ∧ me_RC (gh_ay0 (gh_ha a p i r r' d n') p i r r' t) μ' ∧ ∀ k, ¬ (k = 8 ∨ (17 ≤ k ∧ k ≤ 20)) → μ' k = μ k := by
  unfold f_Mover_givesAhead_b110 gh_ha
  by_cases e : i = 0
  · have z0 : μ 8 p 0 = me_N p := hC.p0 p hp2
    have h1 : me_RC (me_S.s_hd (me_S.s_ro (me_S.s_rh a (me_fu a.rh r (some d))) (me_fu a.ro r' (some p))) (me_fu a.hd p (some n'))) (me_up (me_up (me_up μ 17 r 6 (me_N d)) 17 r' 5 (me_N p)) 8 p 9 (me_N n')) := ((hC.w_rh r (some d)).w_ro r' (some p)).w_hd p (some n')
    rw [if_pos (by rw [e]; rfl), if_pos e, me_lt_s, me_up_kn (show ¬ 8 = 17 by decide), z0, me_lt_s, me_lt_s]
    obtain ⟨μ', d1, d2, d3⟩ := y_ahead2 h1 (p := p) (i := i) hr hr' hne hq h4 hl hp hp2 hi hb (by rw [me_up_kn (by decide), me_up_kn (by decide), me_up_kn (by decide)]; exact hnow)
    refine ⟨μ', d1, d2, fun k hk => ?_⟩
    rw [d3 k (by omega)]
    funext x y
    rw [me_up_kn (by omega), me_up_kn (by omega), me_up_kn (by omega)]
  · rw [if_neg (by rw [me_N_0, me_N_inj (by omega) (by omega)]; exact e), if_neg e]
    obtain ⟨μ', d1, d2, d3⟩ := y_ahead2 hC (p := p) (i := i) hr hr' hne hq h4 hl hp hp2 hi hb hnow
    exact ⟨μ', d1, d2, fun k hk => d3 k (by omega)⟩
def gh_lz (a : me_S) (p : Nat) : me_S := me_S.s_q (me_S.s_ro a (fun x => if a.ro x = some p then none else a.ro x)) (fun x => me_dr p (a.q x))
/-- the ghost as a packet is lost, its rows yet as they were -/
def gh_l0 (a : me_S) (p : Nat) : me_S := me_S.s_ow (me_S.s_hd (me_S.s_st a (me_fu a.st p 108)) (me_fu a.hd p none)) (if a.kd p = 113 then a.ow - 1 else a.ow)
theorem gh_iv_co {a b : me_S} (hI : me_Iv a) {p i r c : Nat} {t : List (Nat × Nat × Nat)} (hq : a.q r = (p, i, c) :: t) (hg : r / 10 = a.gl p) (hv : i = 0 ∨ a.rh r = some 4) (e0 : b.w = a.w ∧ b.h = a.h ∧ b.rp = a.rp ∧ b.wy = a.wy ∧ b.fl = a.fl) (e1 : b.np = a.np ∧ b.bt = a.bt ∧ b.kd = a.kd ∧ b.sr = a.sr ∧ b.gl = a.gl ∧ b.bo = a.bo ∧ b.pt = a.pt ∧ b.ma = a.ma ∧ b.pl = a.pl ∧ b.an = a.an) (e2 : b.dp = a.dp ∧ b.ln = a.ln ∧ b.ca = a.ca ∧ b.co = a.co ∧ b.fa = a.fa ∧ b.nm = a.nm ∧ b.nu = a.nu ∧ b.nt = a.nt ∧ b.tn = a.tn ∧ b.tr = a.tr) (e3 : b.aw = a.aw ∧ b.fp = a.fp ∧ b.lr = a.lr) (hq' : b.q = me_fu a.q r t) (hrg : ∀ x, b.rg x ≤ a.bt + 1) (hst' : ∀ p', b.st p' = if p' = p ∧ i = a.bo p then 100 else a.st p') (htk' : ∀ p', b.tk p' = if p' = p then a.tk p + 1 else a.tk p') (hhd' : ∀ p', b.hd p' = if p' = p ∧ i = 0 then none else a.hd p') (hro' : ∀ x, b.ro x = if x = r ∧ i = a.bo p then none else a.ro x) (hrh' : ∀ x, b.rh x = if x = r ∧ i = 0 then some 4 else a.rh x) (hdn' : ∀ p', b.dn p' = if p' = p ∧ i = a.bo p then some (a.bt + 1) else a.dn p') (how : b.ow + (if i = a.bo p ∧ a.kd p = 113 then 1 else 0) = a.ow) : me_Iv b := by
  have hwh := hI.wh
  obtain ⟨h0, hP, hC, hT, hW, hF, hlr, hrg0, hfp⟩ := hI
  have hmem : (p, i, c) ∈ a.q r := by rw [hq]; exact List.mem_cons_self
  obtain ⟨c1, c2, c3, c4, c5, c6, c7⟩ := hW.iel r (p, i, c) hmem
  have hpt := (hP.ipt p c2).2
  obtain ⟨ktk, kW⟩ := hW.coL hwh.1 hq hpt hg hv hst' htk' hhd' hro' hrh'
  obtain ⟨w1, w2, w3, w4, w5⟩ := e0
  obtain ⟨x1, x2, x3, x4, x5, x6, x7, x8, x9, x10⟩ := e1
  obtain ⟨y1, y2, y3, y4, y5, y6, y7, y8, y9, y10⟩ := e2
  obtain ⟨z1, z2, z3⟩ := e3
  have kP : me_IP a.w a.h a.np b.ow a.bt a.kd b.st a.sr a.gl a.bo a.pt b.tk a.ma b.dn a.pl a.an := by
    by_cases g : i = a.bo p
    · refine hP.dlv (p := p) (ow' := b.ow) c2 c3 (by rw [ktk]; exact c6) (by rw [ktk]; exact g) (fun x => ?_) htk' (fun x => ?_) ?_
      · rw [hst']
        by_cases e : x = p
        · rw [if_pos ⟨e, g⟩, if_pos e]
        · rw [if_neg (fun q => e q.1), if_neg e]
      · rw [hdn']
        by_cases e : x = p
        · rw [if_pos ⟨e, g⟩, if_pos e]
        · rw [if_neg (fun q => e q.1), if_neg e]
      · rw [← how]
        by_cases e : a.kd p = 113
        · rw [if_pos e, if_pos ⟨g, e⟩]
        · rw [if_neg e, if_neg (fun q => e q.2)]
    · have s1 : b.st = a.st := funext fun x => by rw [hst', if_neg (fun q => g q.2)]
      have s2 : b.dn = a.dn := funext fun x => by rw [hdn', if_neg (fun q => g q.2)]
      have s3 : b.ow = a.ow := by rw [← how, if_neg (fun q => g q.1)]; rfl
      rw [s1, s2, s3]
      exact hP.tk1 c3 (by rw [ktk]; exact c6) htk'
  unfold me_Iv
  simp only [w1, w2, w3, w4, w5, x1, x2, x3, x4, x5, x6, x7, x8, x9, x10, y1, y2, y3, y4, y5, y6, y7, y8, y9, y10, z1, z2, z3, hq']
  refine ⟨h0, kP, hC, hT, kW, fun n c' j g1 g2 g3 g4 => ?_, hlr, hrg, hfp⟩
  rcases hF n c' j g1 g2 g3 g4 with q | q
  · exact Or.inl q
  · right
    rw [hst', if_neg (fun k => by rw [k.1, c3] at q; exact absurd q (by decide))]
    exact q
theorem gh_iv_lz {a : me_S} (hI : me_Iv a) {p : Nat} (hp : p < a.np) (hs : a.st p = 119) : me_Iv (gh_lz (gh_l0 a p) p) ∧ (a.kd p = 113 → 1 ≤ a.ow) := by
  obtain ⟨h0, hP, hC, hT, hW, hF, hlr, hrg0, hfp⟩ := hI
  have ho : a.kd p = 113 → 1 ≤ a.ow := fun hk => by
    rw [hP.iow]
    refine List.countP_pos_iff.mpr ⟨p, List.mem_range.mpr hp, ?_⟩
    unfold me_qs
    rw [decide_eq_true hk, hs]
    decide
  refine ⟨⟨h0, ?_, hC, hT, ?_, fun n c j g1 g2 g3 g4 => ?_, hlr, hrg0, hfp⟩, ho⟩
  · refine hP.lost (p := p) hp hs (fun x => rfl) ?_
    show (if a.kd p = 113 then a.ow - 1 else a.ow) + _ = a.ow
    by_cases hk : a.kd p = 113
    · have := ho hk
      rw [if_pos hk, if_pos hk]
      omega
    · rw [if_neg hk, if_neg hk]
      rfl
  · exact hW.lose (p := p) (fun x => rfl) (fun x => rfl) (fun x => rfl)
  · rcases hF n c j g1 g2 g3 g4 with q | q
    · exact Or.inl q
    · right
      show me_fu a.st p 108 j = 108
      rw [me_fu_ap]
      split
      · rfl
      · exact q
theorem gh_iv_ah {a : me_S} (hI : me_Iv a) {p i r c d n' r' : Nat} {t : List (Nat × Nat × Nat)} (hq : a.q r = (p, i, c) :: t) (hd4 : d < 4) (hnb : me_nb a.w a.h (r / 10) d = some n') (hr : r' = me_rw n' (me_ch (a.kd p)) (me_op d)) (haw : a.aw n' = true) (hl : (a.q r').length < 4) (hs : (i = 0 ∧ gh_side a (r / 10) (a.gl p) (me_ch (a.kd p)) = d ∧ a.ro r' = none) ∨ (0 < i ∧ a.rh r = some d)) : me_Iv (gh_ay0 (gh_ha a p i r r' d n') p i r r' t) := by
  have hwh := hI.wh
  have hW := hI.2.2.2.2.1
  have hP := hI.2.1
  have hmem : (p, i, c) ∈ a.q r := by rw [hq]; exact List.mem_cons_self
  obtain ⟨c1, c2, c3, c4, c5, c6, c7⟩ := hW.iel r (p, i, c) hmem
  have hn' := (me_Op_lt hI c1 hd4 hnb).1
  rcases hs with ⟨hi, hsd, hro⟩ | ⟨hi, hrh⟩
  · rw [hi] at hq ⊢
    obtain ⟨D, S⟩ := gh_geo hI c1 (hP.igl p c2) (hP.isr p c2) c7 (gh_side_ax (by omega) hsd) hnb
    have k := hW.ahH hwh.1 (fun p hp => (hP.ibo p hp).1) hq hd4 hnb hn' D S hr hro haw hl (c' := a.bt + 1)
    refine (gh_iv_mv hI k (gh_rg hI (Nat.le_refl _)) (RG := me_fu a.rg r (a.bt + 1))).eq ?_
    have hb := (hP.ibo p c2).1
    unfold gh_ha
    rw [if_pos rfl]
    have e1 : me_fu a.ro r' (some p) = if 0 = a.bo p then me_fu (me_fu a.ro r' (some p)) r none else me_fu a.ro r' (some p) := (if_neg (by omega)).symm
    exact ⟨rfl, rfl, rfl, rfl, rfl, rfl, rfl, rfl, rfl, rfl, rfl, rfl, rfl, rfl, rfl, rfl, rfl, rfl, rfl, rfl, rfl, rfl, e1, rfl, rfl, rfl, rfl, rfl, rfl, rfl, rfl, rfl, rfl, rfl, rfl, rfl, rfl, rfl, rfl, rfl, rfl⟩
  · have hv := hW.way hi hq
    rcases hv with ⟨v1, v2⟩ | ⟨d1, n1, v1, v2, v3, v4, v5⟩
    · rw [hrh] at v1
      have := Option.some.inj v1
      omega
    · rw [hrh] at v2
      have ed : d = d1 := Option.some.inj v2
      rw [← ed] at v3 v4
      rw [hnb] at v3
      have en : n' = n1 := Option.some.inj v3
      rw [← en] at v4 v5
      have k := hW.ahB hwh.1 hi hq (hP.ipt p c2).2 v5 hr (by rw [hr]; exact v4) (ro' := if i = a.bo p then me_fu a.ro r none else a.ro) (fun x => by
        by_cases g : i = a.bo p
        · rw [if_pos g, me_fu_ap]
          by_cases e : x = r
          · rw [if_pos e, if_pos ⟨e, g⟩]
          · rw [if_neg e, if_neg (fun q => e q.1)]
        · rw [if_neg g, if_neg (fun q => g q.2)]) hl (c' := a.bt + 1)
      refine (gh_iv_mv hI k (gh_rg hI (Nat.le_refl _)) (RG := me_fu a.rg r (a.bt + 1))).eq ?_
      have hi0 : ¬ i = 0 := by omega
      unfold gh_ha
      rw [if_neg hi0]
      exact ⟨rfl, rfl, rfl, rfl, rfl, rfl, rfl, rfl, rfl, rfl, rfl, rfl, rfl, rfl, rfl, rfl, rfl, rfl, rfl, rfl, rfl, rfl, rfl, rfl, rfl, rfl, rfl, rfl, rfl, rfl, rfl, rfl, rfl, rfl, rfl, rfl, rfl, rfl, rfl, rfl, rfl⟩
theorem me_Eq.s_ow {a b : me_S} (e : me_Eq a b) {v v' : Nat} (hv : v = v') : me_Eq (me_S.s_ow a v) (me_S.s_ow b v') := by
  obtain ⟨ew, eh, erp, ewy, ebt, enp, eow, ekd, est, esr, egl, ewd, ebo, ept, etk, ehd, ema, edn, epl, ead, ean, eq, ero, erh, erg, elr, efp, efl, eaw, emm, esk, edp, enm, enu, eln, eca, eco, efa, ent, etn, etr⟩ := e
  exact ⟨ew, eh, erp, ewy, ebt, enp, hv, ekd, est, esr, egl, ewd, ebo, ept, etk, ehd, ema, edn, epl, ead, ean, eq, ero, erh, erg, elr, efp, efl, eaw, emm, esk, edp, enm, enu, eln, eca, eco, efa, ent, etn, etr⟩
theorem me_Eq.an {a b : me_S} (e : me_Eq a b) : a.an = b.an := by
  obtain ⟨ew, eh, erp, ewy, ebt, enp, eow, ekd, est, esr, egl, ewd, ebo, ept, etk, ehd, ema, edn, epl, ead, ean, eq, ero, erh, erg, elr, efp, efl, eaw, emm, esk, edp, enm, enu, eln, eca, eco, efa, ent, etn, etr⟩ := e
  exact ean
theorem gh_fct {a : me_S} (hI : me_Iv a) {x p i ci : Nat} {t : List (Nat × Nat × Nat)} (hq : a.q x = (p, i, ci) :: t) : x / 10 < a.w * a.h ∧ p < a.np ∧ p < 200 ∧ a.st p = 119 ∧ me_ch (a.kd p) = x % 10 / 5 ∧ i < 8 ∧ (1 ≤ a.bo p ∧ a.bo p ≤ 4) ∧ a.gl p < a.w * a.h ∧ a.gl p < 16 ∧ (a.kd p = 113 → a.pl p < 8 ∧ 1 ≤ a.ow ∧ a.np < 200) ∧ a.ow < 1000 ∧ t.length < 4 ∧ x < 160 := by
  have hwh := hI.wh
  have hnp := hI.n200
  have hW := hI.2.2.2.2.1
  have hP := hI.2.1
  have hmem : (p, i, ci) ∈ a.q x := by rw [hq]; exact List.mem_cons_self
  obtain ⟨c1, c2, c3, c4, c5, c6, c7⟩ := hW.iel x (p, i, ci) hmem
  have c2 : p < a.np := c2
  have c6 : i < a.pt p := c6
  have b1 := hP.ibo p c2
  have b2 := (hP.ipt p c2).2
  have b3 := hP.igl p c2
  have b4 := hW.in4 x
  rw [hq, List.length_cons] at b4
  have b5 := hP.ile
  refine ⟨c1, c2, by omega, c3, c4, by omega, b1, b3, by omega, fun hk => ?_, by omega, by omega, by omega⟩
  have ho := (gh_iv_lz hI c2 c3).2 hk
  exact ⟨hP.ipl p c2, ho, by omega⟩
/-- the side to which a first piece goes -/
def gh_sd (a : me_S) (x p i : Nat) : Nat := if i = 0 then gh_side a (x / 10) (a.gl p) (me_ch (a.kd p)) else (a.rh x).getD 4
theorem gh_sdB {a : me_S} (hI : me_Iv a) {x p i ci : Nat} {t : List (Nat × Nat × Nat)} (hq : a.q x = (p, i, ci) :: t) (hi : ¬ i = 0) : a.rh x = some (gh_sd a x p i) ∧ gh_sd a x p i < 5 := by
  unfold gh_sd
  rw [if_neg hi]
  rcases hI.2.2.2.2.1.way (show 0 < i by omega) hq with ⟨v1, v2⟩ | ⟨d1, n1, v1, v2, v3, v4, v5⟩
  · rw [v1]
    exact ⟨rfl, (by decide : 4 < 5)⟩
  · rw [v2]
    exact ⟨rfl, show d1 < 5 by omega⟩
theorem gh_sd5 {a : me_S} (hI : me_Iv a) {x p i ci : Nat} {t : List (Nat × Nat × Nat)} (hq : a.q x = (p, i, ci) :: t) : gh_sd a x p i < 5 := by
  by_cases hi : i = 0
  · obtain ⟨f1, f2, -, -, -, -, -, f8, -⟩ := gh_fct hI hq
    unfold gh_sd
    rw [if_pos hi]
    exact gh_side_lt hI f1 f8
  · exact (gh_sdB hI hq hi).2
/-- nothing is looked at in a row -/
def gh_bk (a : me_S) (x : Nat) : Prop := a.q x = [] ∨ (∃ e t, a.q x = e :: t ∧ (me_N (a.rg x) = me_N (a.bt + 1) ∨ me_N e.2.2 = me_N (a.bt + 1)))
theorem y_blk {a : me_S} {μ : me_M} (hC : me_RC a μ) {x : Nat} (hx : x < 160) (h4 : (a.q x).length ≤ 4) (hnow : μ 30 0 6 = me_N (a.bt + 1)) {N O : Int32} (h : gh_bk a x) : f_Mover_gives μ N O x = some (μ, 0) := by
  have hn := hC.qn x hx
  unfold f_Mover_gives f_Row_canBeLookedAt
  rw [hnow, hn, hC.rg x hx]
  rcases h with h | ⟨e, t, h, h1⟩
  · rw [h, if_pos (by decide), me_bd_s, if_pos (by rfl)]
  · have hq3 := hC.q3 x 0 e hx (by rw [h]; rfl)
    rw [if_neg (by rw [h, me_N_0, me_N_le (by rw [h] at h4; omega) (by omega), List.length_cons]; omega), hq3]
    by_cases g : me_N (a.rg x) = me_N (a.bt + 1)
    · rw [if_pos g, me_bd_s, if_pos (by rfl)]
    · rw [if_neg g, if_pos (h1.resolve_left g), me_bd_s, if_pos (by rfl)]
theorem y_un {a : me_S} {μ : me_M} (hC : me_RC a μ) (hI : me_Iv a) {n x p i ci : Nat} {t : List (Nat × Nat × Nat)} (hq : a.q x = (p, i, ci) :: t) (hn : x / 10 = n) (hnow : μ 30 0 6 = me_N (a.bt + 1)) {O : Int32} (h1 : ¬ me_N (a.rg x) = me_N (a.bt + 1)) (h2 : ¬ me_N ci = me_N (a.bt + 1)) : f_Mover_gives μ (me_N n) O x = f_Mover_gives_b81 μ (me_N n) O x p (if i = 0 then 1 else 0) (me_N (gh_sd a x p i)) := by
  obtain ⟨f1, f2, f3, f4, f5, f6, f7, f8, f9, f10, f11, f12, f13⟩ := gh_fct hI hq
  have hs := hC.qn x f13
  have z1 : μ 18 x 0 = me_N p := hC.q1 x 0 (p, i, ci) f13 (by rw [hq]; rfl)
  have z2 : μ 19 x 0 = me_N i := hC.q2 x 0 (p, i, ci) f13 (by rw [hq]; rfl)
  have z3 : μ 20 x 0 = me_N ci := hC.q3 x 0 (p, i, ci) f13 (by rw [hq]; rfl)
  have hch := me_ch_lt (a.kd p)
  unfold f_Mover_gives f_Row_canBeLookedAt
  rw [hnow, hs, hC.rg x f13, if_neg (by rw [hq, me_N_0, me_N_le (by rw [List.length_cons]; omega) (by omega), List.length_cons]; omega), z3, if_neg h1, if_neg h2, me_bd_s, if_neg (by decide), z1, y_find_o hC hI f2, me_bd_s, me_oq_s, z2]
  unfold f_Mover_gives_b49
  by_cases hi : i = 0
  · rw [if_pos (by rw [hi]; rfl), if_pos hi, if_neg (by decide), y_chan hC, me_bd_s, hC.gl]
    rw [← hn, y_side hC hI f1 f8 hch, me_bd_s]
    unfold gh_sd
    rw [if_pos hi]
  · have e := (gh_sdB hI hq hi).1
    rw [if_neg (by rw [me_N_0, me_N_inj (by omega) (by omega)]; exact hi), if_neg hi, if_pos (by rfl), hC.rh x f13, e]
    rfl
theorem gh_side4 {a : me_S} (hI : me_Iv a) {n g c : Nat} (hn : n < a.w * a.h) (hg : g < a.w * a.h) : gh_side a n g c = 4 → n = g := by
  obtain ⟨h1, h2, h3⟩ := gh_way hI hn hg
  intro h
  unfold gh_side at h
  cases ex : gh_ax a.w n g with
  | none =>
    cases ey : gh_ay a.w n g with
    | none => exact h1 ex ey
    | some y =>
      rw [ex, ey] at h
      have h : y = 4 := h
      have := h3 y ey
      omega
  | some x =>
    have hx := h2 x ex
    cases ey : gh_ay a.w n g with
    | none =>
      rw [ex, ey] at h
      have h : x = 4 := h
      omega
    | some y =>
      have hy := h3 y ey
      rw [ex, ey] at h
      dsimp only at h
      repeat' split at h
      all_goals omega
theorem gh_core_at {a : me_S} (hI : me_Iv a) {x p i ci : Nat} {t : List (Nat × Nat × Nat)} (hq : a.q x = (p, i, ci) :: t) (hs : gh_sd a x p i = 4) : x / 10 = a.gl p ∧ (i = 0 ∨ a.rh x = some 4) := by
  by_cases hi : i = 0
  · obtain ⟨f1, f2, -, -, -, -, -, f8, -⟩ := gh_fct hI hq
    unfold gh_sd at hs
    rw [if_pos hi] at hs
    exact ⟨gh_side4 hI f1 f8 hs, Or.inl hi⟩
  · have e := (gh_sdB hI hq hi).1
    rw [hs] at e
    rcases hI.2.2.2.2.1.way (show 0 < i by omega) hq with ⟨v1, v2⟩ | ⟨d1, n1, v1, v2, v3, v4, v5⟩
    · exact ⟨v2, Or.inr e⟩
    · rw [e] at v2
      have := Option.some.inj v2
      omega
