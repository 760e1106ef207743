/-! a piece goes to the core of its goal -/
theorem me_Wl.coL {w h np : Nat} {kd st st' : Nat → Int32} {sr gl bo pt tk tk' : Nat → Nat} {hd hd' : Nat → Option Nat} {L L' : Nat → Nat → Nat → Prop} {ro ro' rh rh' : Nat → Option Nat} {aw : Nat → Bool} (h0 : me_Wl w h np kd st sr gl bo pt tk hd L ro rh aw) {p i r : Nat} (hL : L p i r) (hf : ∀ p' i', L p' i' r → (r % 5 = 4 → p ≤ p') ∧ (p' = p → i ≤ i')) (hpt : pt p ≤ bo p + 1) (hg : r / 10 = gl p) (hv : i = 0 ∨ rh r = some 4) (hst' : ∀ p', st' p' = if p' = p ∧ i = bo p then 100 else st p') (htk' : ∀ p', tk' p' = if p' = p then tk p + 1 else tk p') (hhd' : ∀ p', hd' p' = if p' = p ∧ i = 0 then none else hd p') (hro' : ∀ x, ro' x = if x = r ∧ i = bo p then none else ro x) (hrh' : ∀ x, rh' x = if x = r ∧ i = 0 then some 4 else rh x) (hL' : ∀ p' i' x, L' p' i' x ↔ ¬ (p' = p ∧ i' = i) ∧ L p' i' x) : tk p = i ∧ me_Wl w h np kd st' sr gl bo pt tk' hd' L' ro' rh' aw := by
  obtain ⟨c1, c2, c3, c4, c5, c6, c7⟩ := h0.iel p i r hL
  have inv : ∀ p' i' x, L' p' i' x → ¬ (p' = p ∧ i' = i) ∧ L p' i' x := fun p' i' x => (hL' p' i' x).mp
  have old : ∀ p' i' x, L p' i' x → ¬ (p' = p ∧ i' = i) → L' p' i' x := fun p' i' x hl hn => (hL' p' i' x).mpr ⟨hn, hl⟩
  have ros : ∀ x p', ro' x = some p' → ro x = some p' ∧ ¬ (x = r ∧ i = bo p) := fun x p' e => by
    rw [hro'] at e
    by_cases q : x = r ∧ i = bo p
    · rw [if_pos q] at e
      cases e
    · rw [if_neg q] at e
      exact ⟨e, q⟩
  have htk : tk p = i := by
    rcases Nat.lt_or_ge (tk p) i with g | g
    · exfalso
      obtain ⟨x0, l0⟩ := h0.iex p (tk p) c2 c3 (Nat.le_refl _) (by omega)
      obtain ⟨-, -, -, -, -, -, l7⟩ := h0.iel p (tk p) x0 l0
      rw [← hg] at l7
      rcases h0.ifo p (tk p) i x0 r l0 hL g with q | q
      · rw [q] at l0
        have := (hf p (tk p) l0).2 rfl
        omega
      · omega
    · omega
  have gone : i = bo p → (∀ y, ¬ ro' y = some p) ∧ ∀ i' x, ¬ L' p i' x := fun qt => by
    refine ⟨fun y e => ?_, fun i' x hl => ?_⟩
    · obtain ⟨e0, en⟩ := ros y p e
      have t := h0.itl r y p (qt ▸ hL) e0
      obtain ⟨-, -, -, -, k5, k6⟩ := h0.iow y p e0
      rw [← hg] at k5
      by_cases h5 : r % 5 = 4
      · have s := h0.ice p i r hL h5
        have z : me_ds w (sr p) (r / 10) = 0 := by rw [← s]; exact me_ds_self w (sr p)
        omega
      · have k := h0.idi p i r hL h5
        exact en ⟨h0.iun y r p e0 k (by omega), qt⟩
    · obtain ⟨a4, hl⟩ := inv _ _ _ hl
      obtain ⟨-, -, -, -, l5, l6, -⟩ := h0.iel p i' x hl
      exact a4 ⟨rfl, by omega⟩
  have s119 : ∀ p', st' p' = 119 → st p' = 119 ∧ ¬ (p' = p ∧ i = bo p) := fun p' e => by
    rw [hst'] at e
    by_cases q : p' = p ∧ i = bo p
    · rw [if_pos q] at e
      exact absurd e (by decide)
    · rw [if_neg q] at e
      exact ⟨e, q⟩
  refine ⟨htk, ?_⟩
  apply me_Wl.mk
  case iel =>
    intro p' i' x hl
    obtain ⟨a4, hl0⟩ := inv _ _ _ hl
    obtain ⟨b1, b2, b3, b4, b5, b6, b7⟩ := h0.iel p' i' x hl0
    have hn : ¬ (p' = p ∧ i = bo p) := fun q => (gone q.2).2 i' x (q.1 ▸ hl)
    refine ⟨b1, b2, by rw [hst', if_neg hn]; exact b3, b4, ?_, b6, b7⟩
    rw [htk']
    by_cases qp : p' = p
    · rw [if_pos qp]
      rw [qp] at b5
      have : ¬ i' = i := fun q => a4 ⟨qp, q⟩
      omega
    · rw [if_neg qp]
      exact b5
  case idi =>
    intro p' i' x hl hx
    obtain ⟨a4, hl0⟩ := inv _ _ _ hl
    have k := h0.idi p' i' x hl0 hx
    rw [hro', if_neg ?_]
    · exact k
    · rintro ⟨q1, q2⟩
      rw [q1] at k hx
      rw [h0.idi p i r hL hx] at k
      have ep : p = p' := Option.some.inj k
      exact (gone q2).2 i' x (ep ▸ hl)
  case icr =>
    intro x hx
    rw [hro']
    split
    · rfl
    · exact h0.icr x hx
  case ice => exact fun p' i' x hl hx => h0.ice p' i' x (inv _ _ _ hl).2 hx
  case iow =>
    intro x p' e
    obtain ⟨b1, b2, b3, b4, b5, b6⟩ := h0.iow x p' (ros x p' e).1
    exact ⟨b1, b2, by rw [hst', if_neg (fun (q : p' = p ∧ i = bo p) => (gone q.2).1 x (q.1 ▸ e))]; exact b3, b4, b5, b6⟩
  case iun => exact fun x y p' ex ey hq => h0.iun x y p' (ros x p' ex).1 (ros y p' ey).1 hq
  case ifo => exact fun p' i1 j x y hx hy hij => h0.ifo p' i1 j x y (inv _ _ _ hx).2 (inv _ _ _ hy).2 hij
  case ion => exact fun p' i' x y hx hy => h0.ion p' i' x y (inv _ _ _ hx).2 (inv _ _ _ hy).2
  case ivd =>
    intro x p' ha hz
    by_cases qt : p' = p ∧ i = bo p
    · exfalso
      rcases ha with ⟨i1, hl⟩ | ⟨b1, b2, b3, b4⟩ | b
      · exact (gone qt.2).2 i1 x (qt.1 ▸ hl)
      · exact (s119 p' b3).2 qt
      · exact (gone qt.2).1 x (qt.1 ▸ b)
    · by_cases q0 : x = r ∧ i = 0
      · by_cases qp : p' = p
        · left
          exact ⟨by rw [hrh', if_pos q0], by rw [q0.1, qp]; exact hg⟩
        · exfalso
          have qx := q0.1
          have hL0 : L p 0 r := q0.2 ▸ hL
          have key : L p' 0 r := by
            by_cases h5 : r % 5 = 4
            · have hne' : ro r = none := h0.icr r h5
              have ce := h0.ice p i r hL h5
              rcases ha with ⟨i1, hl⟩ | ⟨b1, b2, b3, b4⟩ | b
              · obtain ⟨_, hl⟩ := inv _ _ _ hl
                rw [qx] at hl
                obtain ⟨l1, l2, l3, l4, -⟩ := h0.iel p' i1 r hl
                have l5 := h0.ice p' i1 r hl h5
                have l6 := (hf p' i1 hl).1 h5
                exact h0.ifi r p 0 p' hL0 h5 (by omega) l2 l3 (by unfold me_cr; omega)
              · rw [qx] at b1
                have hc := me_ch_lt (kd p')
                have b1' := b1
                unfold me_cr at b1'
                have b3' := (s119 p' b3).1
                have : p < p' := by
                  rcases Nat.lt_or_ge p p' with q | q
                  · exact q
                  · exfalso
                    rcases h0.ifp p p' c2 (by omega) (by omega) (by omega) (by omega) with q1 | q1
                    · omega
                    · rw [b3'] at q1
                      exact absurd q1 (by decide)
                exact h0.ifi r p 0 p' hL0 h5 this b2 b3' b1.symm
              · have := (ros x p' b).1
                rw [qx, hne'] at this
                cases this
            · have hp := h0.idi p i r hL h5
              rcases ha with ⟨i1, hl⟩ | ⟨b1, b2, b3, b4⟩ | b
              · obtain ⟨_, hl⟩ := inv _ _ _ hl
                rw [qx] at hl
                have := h0.idi p' i1 r hl h5
                rw [hp] at this
                exact absurd (Option.some.inj this).symm qp
              · exfalso
                apply h5
                rw [← qx, b1]
                unfold me_cr
                omega
              · have := (ros x p' b).1
                rw [qx, hp] at this
                exact absurd (Option.some.inj this).symm qp
          rw [qx] at hz
          exact hz (old p' 0 r key (fun q => qp q.1))
      · have ha0 : (∃ i, L p' i x) ∨ (x = me_cr kd sr p' ∧ p' < np ∧ st p' = 119 ∧ pt p' ≤ bo p') ∨ ro x = some p' := by
          rcases ha with ⟨i1, hl⟩ | ⟨b1, b2, b3, b4⟩ | b
          · exact Or.inl ⟨i1, (inv _ _ _ hl).2⟩
          · exact Or.inr (Or.inl ⟨b1, b2, (s119 p' b3).1, b4⟩)
          · exact Or.inr (Or.inr (ros x p' b).1)
        by_cases qz : L p' 0 x
        · -- the head itself was taken, from another row
          exfalso
          have qi : p' = p ∧ 0 = i := by
            by_cases q : p' = p ∧ 0 = i
            · exact q
            · exact absurd (old p' 0 x qz q) hz
          have hl : L p i x := qi.1 ▸ qi.2 ▸ qz
          exact q0 ⟨h0.ion p i x r hl hL, qi.2.symm⟩
        · rcases h0.ivd x p' ha0 qz with ⟨v1, v2⟩ | ⟨d1, n1, v1, v2, v3, v4, v5⟩
          · left
            exact ⟨by rw [hrh', if_neg q0]; exact v1, v2⟩
          · right
            refine ⟨d1, n1, v1, by rw [hrh', if_neg q0]; exact v2, v3, ?_, v5⟩
            rw [hro', if_neg ?_]
            · exact v4
            · rintro ⟨q1, q2⟩
              rw [q1] at v4
              by_cases h5 : r % 5 = 4
              · rw [h0.icr r h5] at v4
                cases v4
              · rw [h0.idi p i r hL h5] at v4
                exact qt ⟨(Option.some.inj v4).symm, q2⟩
  case itl => exact fun x y p' hx hy => h0.itl x y p' (inv _ _ _ hx).2 (ros y p' hy).1
  case ihm => exact fun x y p' hx hy => h0.ihm x y p' (inv _ _ _ hx).2 (ros y p' hy).1
  case ifi =>
    intro x p1 i1 p' hl h5 hlt hp hst hcr
    obtain ⟨_, hl⟩ := inv _ _ _ hl
    have k := h0.ifi x p1 i1 p' hl h5 hlt hp (s119 p' hst).1 hcr
    refine old p' 0 x k (fun q => ?_)
    have q1 := q.1
    have hl' : L p i x := q.1 ▸ q.2 ▸ k
    have qx : x = r := h0.ion p i x r hl' hL
    have := (hf p1 i1 (qx ▸ hl)).1 (qx ▸ h5)
    omega
  case ihd =>
    intro p' hp
    rw [hhd']
    by_cases q : p' = p ∧ i = 0
    · rw [if_pos q]
      exact ⟨fun n e => (by cases e), fun _ x hl => (inv _ _ _ hl).1 ⟨q.1, q.2.symm⟩⟩
    · rw [if_neg q]
      refine ⟨fun n e => ?_, fun e x hl => (h0.ihd p' hp).2 e x (inv _ _ _ hl).2⟩
      obtain ⟨x, l1, l2⟩ := (h0.ihd p' hp).1 n e
      exact ⟨x, old p' 0 x l1 (fun q' => q ⟨q'.1, q'.2.symm⟩), l2⟩
  case iex =>
    intro p' i' hp hst h1 h2
    rw [htk'] at h1
    by_cases qp : p' = p
    · rw [if_pos qp] at h1
      obtain ⟨x, hl⟩ := h0.iex p' i' hp (s119 p' hst).1 (by rw [qp]; omega) h2
      exact ⟨x, old p' i' x hl (fun q => by have := q.2; omega)⟩
    · rw [if_neg qp] at h1
      obtain ⟨x, hl⟩ := h0.iex p' i' hp (s119 p' hst).1 h1 h2
      exact ⟨x, old p' i' x hl (fun q => qp q.1)⟩
  case ifp =>
    intro p0 j h1 h2 h3 h4 h5
    rcases h0.ifp p0 j h1 h2 h3 h4 h5 with q | q
    · exact Or.inl q
    · right
      rw [hst', if_neg (fun e => by rw [e.1, c3] at q; exact absurd q (by decide))]
      exact q
  case isl =>
    intro x e
    have o := h0.isl x e
    refine ⟨fun p' i' hl => o.1 p' i' (inv _ _ _ hl).2, ?_⟩
    rw [hro']
    split
    · rfl
    · exact o.2
/-! a packet is lost -/
theorem me_Wl.lose {w h np : Nat} {kd st st' : Nat → Int32} {sr gl bo pt tk : Nat → Nat} {hd hd' : Nat → Option Nat} {L L' : Nat → Nat → Nat → Prop} {ro ro' rh : Nat → Option Nat} {aw : Nat → Bool} (h0 : me_Wl w h np kd st sr gl bo pt tk hd L ro rh aw) {p : Nat} (hst' : ∀ p', st' p' = if p' = p then 108 else st p') (hhd' : ∀ p', hd' p' = if p' = p then none else hd p') (hro' : ∀ x, ro' x = if ro x = some p then none else ro x) (hL' : ∀ p' i' x, L' p' i' x ↔ ¬ p' = p ∧ L p' i' x) : me_Wl w h np kd st' sr gl bo pt tk hd' L' ro' rh aw := by
  have inv : ∀ p' i' x, L' p' i' x → ¬ p' = p ∧ L p' i' x := fun p' i' x => (hL' p' i' x).mp
  have old : ∀ p' i' x, L p' i' x → ¬ p' = p → L' p' i' x := fun p' i' x hl hn => (hL' p' i' x).mpr ⟨hn, hl⟩
  have ros : ∀ x p', ro' x = some p' → ro x = some p' ∧ ¬ p' = p := fun x p' e => by
    rw [hro'] at e
    by_cases q : ro x = some p
    · rw [if_pos q] at e
      cases e
    · rw [if_neg q] at e
      exact ⟨e, fun q' => q (q' ▸ e)⟩
  have sne : ∀ p', ¬ p' = p → st' p' = st p' := fun p' q => by rw [hst', if_neg q]
  have s119 : ∀ p', st' p' = 119 → st p' = 119 ∧ ¬ p' = p := fun p' e => by
    rw [hst'] at e
    by_cases q : p' = p
    · rw [if_pos q] at e
      exact absurd e (by decide)
    · rw [if_neg q] at e
      exact ⟨e, q⟩
  apply me_Wl.mk
  case iel =>
    intro p' i' x hl
    obtain ⟨qp, hl⟩ := inv _ _ _ hl
    rw [sne p' qp]
    exact h0.iel p' i' x hl
  case idi =>
    intro p' i' x hl hx
    obtain ⟨qp, hl⟩ := inv _ _ _ hl
    have k := h0.idi p' i' x hl hx
    rw [hro', if_neg (fun q => qp (Option.some.inj (k.symm.trans q)))]
    exact k
  case icr =>
    intro x hx
    rw [hro']
    split
    · rfl
    · exact h0.icr x hx
  case ice => exact fun p' i' x hl hx => h0.ice p' i' x (inv _ _ _ hl).2 hx
  case iow =>
    intro x p' e
    obtain ⟨e0, qp⟩ := ros x p' e
    rw [sne p' qp]
    exact h0.iow x p' e0
  case iun => exact fun x y p' ex ey hq => h0.iun x y p' (ros x p' ex).1 (ros y p' ey).1 hq
  case ifo => exact fun p' i1 j x y hx hy hij => h0.ifo p' i1 j x y (inv _ _ _ hx).2 (inv _ _ _ hy).2 hij
  case ion => exact fun p' i' x y hx hy => h0.ion p' i' x y (inv _ _ _ hx).2 (inv _ _ _ hy).2
  case ivd =>
    intro x p' ha hz
    have ha0 : ((∃ i, L p' i x) ∨ (x = me_cr kd sr p' ∧ p' < np ∧ st p' = 119 ∧ pt p' ≤ bo p') ∨ ro x = some p') ∧ ¬ p' = p := by
      rcases ha with ⟨i1, hl⟩ | ⟨b1, b2, b3, b4⟩ | b
      · exact ⟨Or.inl ⟨i1, (inv _ _ _ hl).2⟩, (inv _ _ _ hl).1⟩
      · exact ⟨Or.inr (Or.inl ⟨b1, b2, (s119 p' b3).1, b4⟩), (s119 p' b3).2⟩
      · exact ⟨Or.inr (Or.inr (ros x p' b).1), (ros x p' b).2⟩
    rcases h0.ivd x p' ha0.1 (fun q => hz (old p' 0 x q ha0.2)) with ⟨v1, v2⟩ | ⟨d1, n1, v1, v2, v3, v4, v5⟩
    · left
      exact ⟨v1, v2⟩
    · right
      refine ⟨d1, n1, v1, v2, v3, ?_, v5⟩
      rw [hro', if_neg (fun q => ha0.2 (Option.some.inj (v4.symm.trans q)))]
      exact v4
  case itl => exact fun x y p' hx hy => h0.itl x y p' (inv _ _ _ hx).2 (ros y p' hy).1
  case ihm => exact fun x y p' hx hy => h0.ihm x y p' (inv _ _ _ hx).2 (ros y p' hy).1
  case ifi =>
    intro x p1 i1 p' hl h5 hlt hp hst hcr
    obtain ⟨_, hl⟩ := inv _ _ _ hl
    exact old p' 0 x (h0.ifi x p1 i1 p' hl h5 hlt hp (s119 p' hst).1 hcr) (s119 p' hst).2
  case ihd =>
    intro p' hp
    rw [hhd']
    by_cases q : p' = p
    · rw [if_pos q]
      exact ⟨fun n e => (by cases e), fun _ x hl => (inv _ _ _ hl).1 q⟩
    · rw [if_neg q]
      refine ⟨fun n e => ?_, fun e x hl => (h0.ihd p' hp).2 e x (inv _ _ _ hl).2⟩
      obtain ⟨x, l1, l2⟩ := (h0.ihd p' hp).1 n e
      exact ⟨x, old p' 0 x l1 q, l2⟩
  case iex =>
    intro p' i' hp hst h1 h2
    obtain ⟨x, hl⟩ := h0.iex p' i' hp (s119 p' hst).1 h1 h2
    exact ⟨x, old p' i' x hl (s119 p' hst).2⟩
  case ifp =>
    intro p0 j h1 h2 h3 h4 h5
    rcases h0.ifp p0 j h1 h2 h3 h4 h5 with q | q
    · exact Or.inl q
    · right
      rw [hst']
      split
      · rfl
      · exact q
  case isl =>
    intro x e
    have o := h0.isl x e
    refine ⟨fun p' i' hl => o.1 p' i' (inv _ _ _ hl).2, ?_⟩
    rw [hro']
    split
    · rfl
    · exact o.2
/-! a piece is put into the row of its core -/
theorem me_Wl.put {w h np : Nat} {kd st st' : Nat → Int32} {sr gl bo pt pt' tk : Nat → Nat} {hd hd' : Nat → Option Nat} {L L' : Nat → Nat → Nat → Prop} {ro rh : Nat → Option Nat} {aw : Nat → Bool} (h0 : me_Wl w h np kd st sr gl bo pt tk hd L ro rh aw) {p r : Nat} (hp : p < np) (hr : r = me_cr kd sr p) (hb : pt p ≤ bo p) (hs : st p = 115 ∨ st p = 119) (hs0 : st p = 115 → pt p = 0) (hs1 : ∀ j, j < np → st j = 119 → 0 < pt j) (htk : tk p ≤ pt p) (hsr : sr p < w * h) (haw : aw (sr p) = true) (hfst : ∀ j, j < p → sr j = sr p → me_ch (kd j) = me_ch (kd p) → pt j = bo j + 1 ∨ st j = 108) (hst' : ∀ p', st' p' = if p' = p then 119 else st p') (hpt' : ∀ p', pt' p' = if p' = p then pt p + 1 else pt p') (hhd' : ∀ p', hd' p' = if p' = p ∧ pt p = 0 then some (sr p) else hd p') (hL' : ∀ p' i' x, L' p' i' x ↔ (p' = p ∧ i' = pt p ∧ x = r) ∨ L p' i' x) : me_Wl w h np kd st' sr gl bo pt' tk hd' L' ro rh aw := by
  have hch := me_ch_lt (kd p)
  have r1 : r / 10 = sr p := by rw [hr]; unfold me_cr; omega
  have r2 : r % 5 = 4 := by rw [hr]; unfold me_cr; omega
  have r3 : r % 10 / 5 = me_ch (kd p) := by rw [hr]; unfold me_cr; omega
  have z : me_ds w (sr p) (r / 10) = 0 := by rw [r1]; exact me_ds_self w (sr p)
  have inv : ∀ p' i' x, L' p' i' x → (p' = p ∧ i' = pt p ∧ x = r) ∨ L p' i' x := fun p' i' x => (hL' p' i' x).mp
  have old : ∀ p' i' x, L p' i' x → L' p' i' x := fun p' i' x hl => (hL' p' i' x).mpr (Or.inr hl)
  have new0 : L' p (pt p) r := (hL' _ _ _).mpr (Or.inl ⟨rfl, rfl, rfl⟩)
  have later : ∀ j, j < np → p < j → sr j = sr p → me_ch (kd j) = me_ch (kd p) → ¬ 0 < pt j := fun j hj hlt e1 e2 g => by
    rcases h0.ifp j p hj g hlt e1.symm e2.symm with q | q
    · omega
    · rcases hs with s | s <;> · rw [s] at q; exact absurd q (by decide)
  have on : ¬ pt p = 0 → st p = 119 := fun q => hs.resolve_left (fun s => q (hs0 s))
  have ssp : ∀ p', st' p' = 119 → p' = p ∨ st p' = 119 := fun p' e => by
    by_cases q : p' = p
    · exact Or.inl q
    · rw [hst', if_neg q] at e
      exact Or.inr e
  apply me_Wl.mk
  case iel =>
    intro p' i' x hl
    rcases inv _ _ _ hl with ⟨a1, a2, a3⟩ | hl
    · rw [a1, a2, a3, z, r1, hst', if_pos rfl, hpt', if_pos rfl]
      exact ⟨hsr, hp, rfl, r3.symm, htk, by omega, by omega⟩
    · obtain ⟨b1, b2, b3, b4, b5, b6, b7⟩ := h0.iel p' i' x hl
      refine ⟨b1, b2, ?_, b4, b5, ?_, b7⟩
      · rw [hst']
        split
        · rfl
        · exact b3
      · rw [hpt']
        by_cases q : p' = p
        · rw [if_pos q]
          rw [q] at b6
          omega
        · rw [if_neg q]
          exact b6
  case idi =>
    intro p' i' x hl hx
    rcases inv _ _ _ hl with ⟨a1, a2, a3⟩ | hl
    · rw [a3] at hx
      exact absurd r2 hx
    · exact h0.idi p' i' x hl hx
  case icr => exact h0.icr
  case ice =>
    intro p' i' x hl hx
    rcases inv _ _ _ hl with ⟨a1, a2, a3⟩ | hl
    · rw [a1, a3, r1]
    · exact h0.ice p' i' x hl hx
  case iow =>
    intro x p' e
    obtain ⟨b1, b2, b3, b4, b5, b6⟩ := h0.iow x p' e
    refine ⟨b1, b2, ?_, b4, b5, b6⟩
    rw [hst']
    split
    · rfl
    · exact b3
  case iun => exact h0.iun
  case ifo =>
    intro p' i1 j x y hx hy hij
    rcases inv _ _ _ hx with ⟨a1, a2, a3⟩ | hx
    · rcases inv _ _ _ hy with ⟨b1, b2, b3⟩ | hy
      · omega
      · rw [a1] at hy
        obtain ⟨-, -, -, -, -, l6, -⟩ := h0.iel p j y hy
        omega
    · rcases inv _ _ _ hy with ⟨b1, b2, b3⟩ | hy
      · rw [b1] at hx ⊢
        rw [b3, z]
        obtain ⟨-, -, -, l4, -, -, -⟩ := h0.iel p i1 x hx
        by_cases h5 : x % 5 = 4
        · left
          have s := h0.ice p i1 x hx h5
          omega
        · right
          obtain ⟨-, -, -, -, -, k6⟩ := h0.iow x p (h0.idi p i1 x hx h5)
          omega
      · exact h0.ifo p' i1 j x y hx hy hij
  case ion =>
    intro p' i' x y hx hy
    rcases inv _ _ _ hx with ⟨a1, a2, a3⟩ | hx
    · rcases inv _ _ _ hy with ⟨b1, b2, b3⟩ | hy
      · rw [a3, b3]
      · rw [a1] at hy
        obtain ⟨-, -, -, -, -, l6, -⟩ := h0.iel p i' y hy
        omega
    · rcases inv _ _ _ hy with ⟨b1, b2, b3⟩ | hy
      · rw [b1] at hx
        obtain ⟨-, -, -, -, -, l6, -⟩ := h0.iel p i' x hx
        omega
      · exact h0.ion p' i' x y hx hy
  case ivd =>
    intro x p' ha hz
    have hz0 : ¬ L p' 0 x := fun q => hz (old p' 0 x q)
    have ha0 : (∃ i, L p' i x) ∨ (x = me_cr kd sr p' ∧ p' < np ∧ st p' = 119 ∧ pt p' ≤ bo p') ∨ ro x = some p' := by
      rcases ha with ⟨i1, hl⟩ | ⟨b1, b2, b3, b4⟩ | b
      · rcases inv _ _ _ hl with ⟨a1, a2, a3⟩ | hl
        · have g : ¬ pt p = 0 := fun q => hz (by rw [a1, a3]; rw [q] at new0; exact new0)
          exact Or.inr (Or.inl ⟨by rw [a1, a3]; exact hr, by rw [a1]; exact hp, by rw [a1]; exact on g, by rw [a1]; exact hb⟩)
        · exact Or.inl ⟨i1, hl⟩
      · by_cases qp : p' = p
        · have g : ¬ pt p = 0 := fun q => hz (by rw [b1, qp, ← hr]; rw [q] at new0; exact new0)
          exact Or.inr (Or.inl ⟨b1, b2, by rw [qp]; exact on g, by rw [qp]; exact hb⟩)
        · rw [hst', if_neg qp] at b3
          rw [hpt', if_neg qp] at b4
          exact Or.inr (Or.inl ⟨b1, b2, b3, b4⟩)
      · exact Or.inr (Or.inr b)
    exact h0.ivd x p' ha0 hz0
  case itl =>
    intro x y p' hx hy
    rcases inv _ _ _ hx with ⟨a1, a2, a3⟩ | hx
    · rw [a1, a3, z]
      exact Nat.zero_le _
    · exact h0.itl x y p' hx hy
  case ihm =>
    intro x y p' hx hy
    rcases inv _ _ _ hx with ⟨a1, a2, a3⟩ | hx
    · exfalso
      rw [a1] at hy
      obtain ⟨-, -, k3, -⟩ := h0.iow y p hy
      have := hs1 p hp k3
      omega
    · exact h0.ihm x y p' hx hy
  case ifi =>
    intro x p1 i1 p' hl h5 hlt hp' hst hcr
    by_cases qp : p' = p
    · have ex : x = r := by rw [← hcr, qp, ← hr]
      by_cases g : pt p = 0
      · rw [qp, ex]
        rw [g] at new0
        exact new0
      · rcases inv _ _ _ hl with ⟨a1, _, _⟩ | hl
        · omega
        · exact old p' 0 x (h0.ifi x p1 i1 p' hl h5 hlt hp' (by rw [qp]; exact on g) hcr)
    · have s' : st p' = 119 := (ssp p' hst).resolve_left qp
      rcases inv _ _ _ hl with ⟨a1, _, a3⟩ | hl
      · exfalso
        have hc' := me_ch_lt (kd p')
        rw [a3, hr] at hcr
        unfold me_cr at hcr
        exact later p' hp' (by omega) (by omega) (by omega) (hs1 p' hp' s')
      · exact old p' 0 x (h0.ifi x p1 i1 p' hl h5 hlt hp' s' hcr)
  case ihd =>
    intro p' hp'
    rw [hhd']
    by_cases q : p' = p ∧ pt p = 0
    · rw [if_pos q]
      refine ⟨fun n e => ⟨r, ?_, r1.trans (Option.some.inj e)⟩, fun e => by cases e⟩
      rw [q.1]
      have := new0
      rw [q.2] at this
      exact this
    · rw [if_neg q]
      refine ⟨fun n e => ?_, fun e x hl => ?_⟩
      · obtain ⟨x, l1, l2⟩ := (h0.ihd p' hp').1 n e
        exact ⟨x, old p' 0 x l1, l2⟩
      · rcases inv _ _ _ hl with ⟨a1, a2, _⟩ | hl
        · exact q ⟨a1, a2.symm⟩
        · exact (h0.ihd p' hp').2 e x hl
  case iex =>
    intro p' i' hp' hst h1 h2
    rw [hpt'] at h2
    by_cases qp : p' = p
    · rw [if_pos qp] at h2
      by_cases g : i' = pt p
      · exact ⟨r, by rw [qp, g]; exact new0⟩
      · obtain ⟨x, hl⟩ := h0.iex p' i' hp' (by rw [qp]; exact on (by omega)) h1 (by rw [qp]; omega)
        exact ⟨x, old p' i' x hl⟩
    · rw [if_neg qp] at h2
      obtain ⟨x, hl⟩ := h0.iex p' i' hp' ((ssp p' hst).resolve_left qp) h1 h2
      exact ⟨x, old p' i' x hl⟩
  case ifp =>
    intro p0 j h1 h2 h3 h4 h5
    rw [hpt'] at h2
    by_cases qj : j = p
    · exfalso
      rw [qj] at h3 h4 h5
      rw [if_neg (by omega)] at h2
      exact later p0 h1 h3 h4.symm h5.symm h2
    · rw [hpt', if_neg qj, hst', if_neg qj]
      by_cases q0 : p0 = p
      · rw [q0] at h3 h4 h5
        exact hfst j h3 h4 h5
      · rw [if_neg q0] at h2
        exact h0.ifp p0 j h1 h2 h3 h4 h5
  case isl =>
    intro x e
    have o := h0.isl x e
    refine ⟨fun p' i' hl => ?_, o.2⟩
    rcases inv _ _ _ hl with ⟨_, _, a3⟩ | hl
    · rw [a3, r1, haw] at e
      cases e
    · exact o.1 p' i' hl
