/-! the steps of worms, on rows as lists -/
theorem me_pw_mv {q : Nat → List (Nat × Nat × Nat)} {p i c c' r r' : Nat} {t : List (Nat × Nat × Nat)} (hs : ∀ x, (q x).Pairwise (fun e e' => e.1 < e'.1 ∨ (e.1 = e'.1 ∧ e.2.1 < e'.2.1))) (hq : q r = (p, i, c) :: t) (hlast : ∀ e ∈ q r', e.1 < p ∨ (e.1 = p ∧ e.2.1 < i)) : ∀ x, (me_fu (me_fu q r t) r' (q r' ++ [(p, i, c')]) x).Pairwise (fun e e' => e.1 < e'.1 ∨ (e.1 = e'.1 ∧ e.2.1 < e'.2.1)) := by
  intro x
  rw [me_fu_ap]
  by_cases hx : x = r'
  · rw [if_pos hx]
    refine List.pairwise_append.mpr ⟨hs r', List.pairwise_singleton _ _, fun e he e' he' => ?_⟩
    rw [List.mem_singleton.mp he']
    exact hlast e he
  · rw [if_neg hx, me_fu_ap]
    by_cases hx2 : x = r
    · rw [if_pos hx2]
      have := hs r
      rw [hq] at this
      exact (List.pairwise_cons.mp this).2
    · rw [if_neg hx2]
      exact hs x
theorem me_ln_mv {q : Nat → List (Nat × Nat × Nat)} {p i c c' r r' : Nat} {t : List (Nat × Nat × Nat)} (h4 : ∀ x, (q x).length ≤ 4) (hq : q r = (p, i, c) :: t) (hl : (q r').length < 4) : ∀ x, (me_fu (me_fu q r t) r' (q r' ++ [(p, i, c')]) x).length ≤ 4 := by
  intro x
  rw [me_fu_ap]
  by_cases hx : x = r'
  · rw [if_pos hx, List.length_append]
    show (q r').length + 1 ≤ 4
    omega
  · rw [if_neg hx, me_fu_ap]
    by_cases hx2 : x = r
    · rw [if_pos hx2]
      have := h4 r
      rw [hq, List.length_cons] at this
      omega
    · rw [if_neg hx2]
      exact h4 x
theorem me_first {q : Nat → List (Nat × Nat × Nat)} {p i c r : Nat} {t : List (Nat × Nat × Nat)} (hs : (q r).Pairwise (fun e e' => e.1 < e'.1 ∨ (e.1 = e'.1 ∧ e.2.1 < e'.2.1))) (hq : q r = (p, i, c) :: t) : ∀ p' i', me_L q p' i' r → p ≤ p' ∧ (p' = p → i ≤ i') := by
  rintro p' i' ⟨c1, h1⟩
  rw [hq] at h1 hs
  rcases List.mem_cons.mp h1 with h2 | h2
  · obtain ⟨g1, g2⟩ := Prod.mk.inj h2
    have := (Prod.mk.inj g2).1
    omega
  · rcases (List.pairwise_cons.mp hs).1 _ h2 with k | k
    · have k : p < p' := k
      omega
    · have k1 : p = p' := k.1
      have k2 : i < i' := k.2
      omega
section MeWst
variable {w h np : Nat} {kd st : Nat → Int32} {sr gl bo pt tk : Nat → Nat} {hd : Nat → Option Nat} {q : Nat → List (Nat × Nat × Nat)} {ro rh : Nat → Option Nat} {aw : Nat → Bool}
theorem me_Wm.ahH (hW : me_Wm w h np kd st sr gl bo pt tk hd q ro rh aw) (hwh : w * h ≤ 16) (hbo : ∀ p, p < np → 1 ≤ bo p) {p r n' d r' c c' : Nat} {t : List (Nat × Nat × Nat)} (hq : q r = (p, 0, c) :: t) (hd4 : d < 4) (hnb : me_nb w h (r / 10) d = some n') (hn' : n' < w * h) (hD : me_ds w (sr p) n' = me_ds w (sr p) (r / 10) + 1) (hS : me_ds w (sr p) n' + me_ds w n' (gl p) = me_ds w (sr p) (gl p)) (hr : r' = me_rw n' (me_ch (kd p)) (me_op d)) (hro : ro r' = none) (haw : aw n' = true) (hl : (q r').length < 4) : me_Wm w h np kd st sr gl bo pt tk (me_fu hd p (some n')) (me_fu (me_fu q r t) r' (q r' ++ [(p, 0, c')])) (me_fu ro r' (some p)) (me_fu rh r (some d)) aw := by
  have hL : me_L q p 0 r := ⟨c, by rw [hq]; exact List.mem_cons_self⟩
  have hwl := hW.wl
  obtain ⟨c1, -⟩ := hwl.iel p 0 r hL
  have ho := me_op_lt d
  have hch := me_ch_lt (kd p)
  obtain ⟨e1, e2, e3⟩ := me_rw_at (n := n') hch (show me_op d < 5 by omega)
  rw [← hr] at e1 e2 e3
  have hne : ¬ r' = r := fun g => by rw [g] at e1; rw [← e1] at hD; omega
  have hun : ∀ x, me_L q p 0 x → x = r := fun x hx => hwl.ion p 0 x r hx hL
  have hff := me_first (hW.iso r) hq
  refine (hwl.ahH hbo hL (fun p' i' hl _ => (hff p' i' hl).1) hd4 hnb hn' hD hS hr hro haw (me_L_mv (hW.iso r) hq hne hun)).wm (me_ln_mv hW.in4 hq hl) (me_pw_mv hW.iso hq (fun e he => ?_)) (fun p' h1 h2 => ?_)
  · have := hW.idi r' e he (by omega)
    rw [hro] at this
    cases this
  · exact (me_ct_mv hq hne (by omega) (by omega) p').trans (hW.ict p' h1 h2)
theorem me_Wm.ahB (hW : me_Wm w h np kd st sr gl bo pt tk hd q ro rh aw) (hwh : w * h ≤ 16) {p i r n' d r' c c' : Nat} {t : List (Nat × Nat × Nat)} {ro' : Nat → Option Nat} (hi : 0 < i) (hq : q r = (p, i, c) :: t) (hpt : pt p ≤ bo p + 1) (hD : me_ds w (sr p) n' = me_ds w (sr p) (r / 10) + 1) (hr : r' = me_rw n' (me_ch (kd p)) (me_op d)) (hro : ro r' = some p) (hro' : ∀ x, ro' x = if x = r ∧ i = bo p then none else ro x) (hl : (q r').length < 4) : me_Wm w h np kd st sr gl bo pt tk hd (me_fu (me_fu q r t) r' (q r' ++ [(p, i, c')])) ro' rh aw := by
  have hL : me_L q p i r := ⟨c, by rw [hq]; exact List.mem_cons_self⟩
  have hwl := hW.wl
  obtain ⟨c1, -⟩ := hwl.iel p i r hL
  obtain ⟨o1, -⟩ := hwl.iow r' p hro
  have ho := me_op_lt d
  have hch := me_ch_lt (kd p)
  obtain ⟨e1, e2, e3⟩ := me_rw_at (n := n') hch (show me_op d < 5 by omega)
  rw [← hr] at e1 e2 e3
  have hne : ¬ r' = r := fun g => by rw [g] at e1; rw [← e1] at hD; omega
  have hun : ∀ x, me_L q p i x → x = r := fun x hx => hwl.ion p i x r hx hL
  have hff := me_first (hW.iso r) hq
  refine (hwl.ahB hi hL (fun i' hl => (hff p i' hl).2 rfl) hpt hD hr hro hro' (me_L_mv (hW.iso r) hq hne hun)).wm (me_ln_mv hW.in4 hq hl) (me_pw_mv hW.iso hq (fun e he => ?_)) (fun p' h1 h2 => ?_)
  · right
    have hk := hW.idi r' e he (by omega)
    rw [hro] at hk
    have ep : p = e.1 := Option.some.inj hk
    refine ⟨ep.symm, ?_⟩
    have hL2 : me_L q p e.2.1 r' := ⟨e.2.2, by rw [ep]; exact he⟩
    rcases Nat.lt_trichotomy e.2.1 i with g | g | g
    · exact g
    · rw [g] at hL2
      exact absurd (hun r' hL2) hne
    · rcases hwl.ifo p i e.2.1 r r' hL hL2 g with k | k
      · exact absurd k.symm hne
      · rw [e1] at k
        omega
  · exact (me_ct_mv hq hne (by omega) (by omega) p').trans (hW.ict p' h1 h2)
/-- where a body goes: behind its head -/
theorem me_Wm.way (hW : me_Wm w h np kd st sr gl bo pt tk hd q ro rh aw) {p i r c : Nat} {t : List (Nat × Nat × Nat)} (hi : 0 < i) (hq : q r = (p, i, c) :: t) : me_Vd w h kd sr gl ro rh r p := by
  have hL : me_L q p i r := ⟨c, by rw [hq]; exact List.mem_cons_self⟩
  refine hW.wl.ivd r p (Or.inl ⟨i, hL⟩) (fun h0 => ?_)
  have := (me_first (hW.iso r) hq p 0 h0).2 rfl
  omega
theorem me_Wm.coL (hW : me_Wm w h np kd st sr gl bo pt tk hd q ro rh aw) (hwh : w * h ≤ 16) {p i r c : Nat} {t : List (Nat × Nat × Nat)} {st' : Nat → Int32} {tk' : Nat → Nat} {hd' ro' rh' : Nat → Option Nat} (hq : q r = (p, i, c) :: t) (hpt : pt p ≤ bo p + 1) (hg : r / 10 = gl p) (hv : i = 0 ∨ rh r = some 4) (hst' : ∀ p', st' p' = if p' = p ∧ i = bo p then 100 else st p') (htk' : ∀ p', tk' p' = if p' = p then tk p + 1 else tk p') (hhd' : ∀ p', hd' p' = if p' = p ∧ i = 0 then none else hd p') (hro' : ∀ x, ro' x = if x = r ∧ i = bo p then none else ro x) (hrh' : ∀ x, rh' x = if x = r ∧ i = 0 then some 4 else rh x) : tk p = i ∧ me_Wm w h np kd st' sr gl bo pt tk' hd' (me_fu q r t) ro' rh' aw := by
  have hL : me_L q p i r := ⟨c, by rw [hq]; exact List.mem_cons_self⟩
  have hwl := hW.wl
  obtain ⟨c1, c2, c3, c4, c5, c6, c7⟩ := hwl.iel p i r hL
  have hun : ∀ x, me_L q p i x → x = r := fun x hx => hwl.ion p i x r hx hL
  have hff := me_first (hW.iso r) hq
  obtain ⟨k1, k2⟩ := hwl.coL hL (fun p' i' hl => ⟨fun _ => (hff p' i' hl).1, (hff p' i' hl).2⟩) hpt hg hv hst' htk' hhd' hro' hrh' (me_L_co (hW.iso r) hq hun)
  refine ⟨k1, k2.wm (fun x => ?_) (fun x => ?_) (fun p' h1 h2 => ?_)⟩
  · rw [me_fu_ap]
    by_cases hx2 : x = r
    · rw [if_pos hx2]
      have := hW.in4 r
      rw [hq, List.length_cons] at this
      omega
    · rw [if_neg hx2]
      exact hW.in4 x
  · rw [me_fu_ap]
    by_cases hx2 : x = r
    · rw [if_pos hx2]
      have := hW.iso r
      rw [hq] at this
      exact (List.pairwise_cons.mp this).2
    · rw [if_neg hx2]
      exact hW.iso x
  · have e := me_ct_co hq (show r < 160 by omega) p'
    have h2' : ¬ st p' = 108 := fun g => by
      rw [hst'] at h2
      by_cases g2 : p' = p ∧ i = bo p
      · rw [g2.1, c3] at g
        exact absurd g (by decide)
      · rw [if_neg g2] at h2
        exact h2 g
    have e2 : me_cs q p' = pt p' - tk p' := hW.ict p' h1 h2'
    rw [htk']
    show me_cs (me_fu q r t) p' = _
    by_cases g : p = p'
    · rw [if_pos g] at e
      rw [if_pos g.symm, ← g]
      rw [← g] at e e2
      omega
    · rw [if_neg g] at e
      rw [if_neg (fun g' => g g'.symm)]
      omega
theorem me_Wm.lose (hW : me_Wm w h np kd st sr gl bo pt tk hd q ro rh aw) {p : Nat} {st' : Nat → Int32} {hd' ro' : Nat → Option Nat} (hst' : ∀ p', st' p' = if p' = p then 108 else st p') (hhd' : ∀ p', hd' p' = if p' = p then none else hd p') (hro' : ∀ x, ro' x = if ro x = some p then none else ro x) : me_Wm w h np kd st' sr gl bo pt tk hd' (fun x => me_dr p (q x)) ro' rh aw := by
  refine (hW.wl.lose hst' hhd' hro' me_L_dr).wm (fun x => ?_) (fun x => ?_) (fun p' h1 h2 => ?_)
  · exact Nat.le_trans (List.length_filter_le _ _) (hW.in4 x)
  · exact List.Pairwise.filter _ (hW.iso x)
  · have g : ¬ p' = p := fun g => h2 (by rw [hst', if_pos g])
    rw [hst', if_neg g] at h2
    exact (me_ct_dr g).trans (hW.ict p' h1 h2)
theorem me_Wm.put (hW : me_Wm w h np kd st sr gl bo pt tk hd q ro rh aw) (hwh : w * h ≤ 16) {st' : Nat → Int32} {pt' : Nat → Nat} {hd' : Nat → Option Nat} {p r c' : Nat} (hp : p < np) (hr : r = me_cr kd sr p) (hb : pt p ≤ bo p) (hs : st p = 115 ∨ st p = 119) (hs0 : st p = 115 → pt p = 0) (hs1 : ∀ j, j < np → st j = 119 → 0 < pt j) (htk : tk p ≤ pt p) (hsr : sr p < w * h) (haw : aw (sr p) = true) (hfst : ∀ j, j < p → sr j = sr p → me_ch (kd j) = me_ch (kd p) → pt j = bo j + 1 ∨ st j = 108) (hst' : ∀ p', st' p' = if p' = p then 119 else st p') (hpt' : ∀ p', pt' p' = if p' = p then pt p + 1 else pt p') (hhd' : ∀ p', hd' p' = if p' = p ∧ pt p = 0 then some (sr p) else hd p') (hl : (q r).length < 4) : me_Wm w h np kd st' sr gl bo pt' tk hd' (me_fu q r (q r ++ [(p, pt p, c')])) ro rh aw := by
  have hwl := hW.wl
  have hch := me_ch_lt (kd p)
  have r1 : r / 10 = sr p := by rw [hr]; unfold me_cr; omega
  have r2 : r % 5 = 4 := by rw [hr]; unfold me_cr; omega
  have r3 : r % 10 / 5 = me_ch (kd p) := by rw [hr]; unfold me_cr; omega
  refine (hwl.put hp hr hb hs hs0 hs1 htk hsr haw hfst hst' hpt' hhd' me_L_pu).wm (fun x => ?_) (fun x => ?_) (fun p' h1 h2 => ?_)
  · rw [me_fu_ap]
    by_cases hx : x = r
    · rw [if_pos hx, List.length_append]
      show (q r).length + 1 ≤ 4
      omega
    · rw [if_neg hx]
      exact hW.in4 x
  · rw [me_fu_ap]
    by_cases hx : x = r
    · rw [if_pos hx]
      refine List.pairwise_append.mpr ⟨hW.iso r, List.pairwise_singleton _ _, fun e he e' he' => ?_⟩
      rw [List.mem_singleton.mp he']
      show e.1 < p ∨ (e.1 = p ∧ e.2.1 < pt p)
      obtain ⟨-, l2, l3, l4, -, l6, -⟩ := hW.iel r e he
      have l8 := hW.ice r e he r2
      rcases Nat.lt_trichotomy e.1 p with g | g | g
      · exact Or.inl g
      · right
        rw [g] at l6
        exact ⟨g, l6⟩
      · exfalso
        rcases hW.ifp e.1 p l2 (hs1 e.1 l2 l3) g (by omega) (by omega) with k | k
        · omega
        · rcases hs with s | s <;> · rw [s] at k; exact absurd k (by decide)
    · rw [if_neg hx]
      exact hW.iso x
  · have e := me_ct_pu (q := q) (p := p) (i := pt p) (c := c') (show r < 160 by omega) p'
    show me_cs _ p' = _
    rw [hpt']
    by_cases g : p = p'
    · have e2 : me_cs q p' = pt p' - tk p' := hW.ict p' h1 (fun k => by rcases hs with s | s <;> · rw [← g, s] at k; exact absurd k (by decide))
      rw [if_pos g] at e
      rw [if_pos g.symm]
      rw [← g] at e e2 ⊢
      omega
    · rw [hst', if_neg (fun k => g k.symm)] at h2
      have e2 : me_cs q p' = pt p' - tk p' := hW.ict p' h1 h2
      rw [if_neg g] at e
      rw [if_neg (fun k => g k.symm)]
      omega
end MeWst
