/-! a head goes ahead -/
theorem me_Wl.ahH {w h np : Nat} {kd st : Nat → Int32} {sr gl bo pt tk : Nat → Nat} {hd : Nat → Option Nat} {L L' : Nat → Nat → Nat → Prop} {ro rh : Nat → Option Nat} {aw : Nat → Bool} (h0 : me_Wl w h np kd st sr gl bo pt tk hd L ro rh aw) (hbo : ∀ p, p < np → 1 ≤ bo p) {p r n' d r' : Nat} (hL : L p 0 r) (hf : ∀ p' i', L p' i' r → r % 5 = 4 → p ≤ p') (hd4 : d < 4) (hnb : me_nb w h (r / 10) d = some n') (hn' : n' < w * h) (hD : me_ds w (sr p) n' = me_ds w (sr p) (r / 10) + 1) (hS : me_ds w (sr p) n' + me_ds w n' (gl p) = me_ds w (sr p) (gl p)) (hr : r' = me_rw n' (me_ch (kd p)) (me_op d)) (hro : ro r' = none) (haw : aw n' = true) (hL' : ∀ p' i' x, L' p' i' x ↔ (p' = p ∧ i' = 0 ∧ x = r') ∨ (¬ (p' = p ∧ i' = 0) ∧ L p' i' x)) : me_Wl w h np kd st sr gl bo pt tk (me_fu hd p (some n')) L' (me_fu ro r' (some p)) (me_fu rh r (some d)) aw := by
  obtain ⟨c1, c2, c3, c4, c5, c6, c7⟩ := h0.iel p 0 r hL
  have ho := me_op_lt d
  obtain ⟨e1, e2', e3⟩ := me_rw_at (n := n') (me_ch_lt (kd p)) (show me_op d < 5 by omega)
  rw [← hr] at e1 e2' e3
  have e2 : ¬ r' % 5 = 4 := by omega
  have hne : ¬ r' = r := fun q => by rw [q] at e1; rw [← e1] at hD; omega
  have inv : ∀ p' i' x, L' p' i' x → (p' = p ∧ i' = 0 ∧ x = r') ∨ (¬ (p' = p ∧ i' = 0) ∧ L p' i' x) := fun p' i' x => (hL' p' i' x).mp
  have old : ∀ p' i' x, L p' i' x → ¬ (p' = p ∧ i' = 0) → L' p' i' x := fun p' i' x hl hn => (hL' p' i' x).mpr (Or.inr ⟨hn, hl⟩)
  have new0 : L' p 0 r' := (hL' _ _ _).mpr (Or.inl ⟨rfl, rfl, rfl⟩)
  have nr' : ∀ p' i', ¬ L p' i' r' := fun p' i' hl => by
    have := h0.idi p' i' r' hl e2
    rw [hro] at this
    cases this
  apply me_Wl.mk
  case iel =>
    intro p' i' x hl
    rcases inv _ _ _ hl with ⟨a1, a2, a3⟩ | ⟨_, hl⟩
    · rw [a1, a2, a3, e1]
      exact ⟨hn', c2, c3, e3.symm, c5, c6, hS⟩
    · exact h0.iel p' i' x hl
  case idi =>
    intro p' i' x hl hx
    rw [me_fu_ap]
    rcases inv _ _ _ hl with ⟨a1, a2, a3⟩ | ⟨_, hl⟩
    · rw [if_pos a3, a1]
    · rw [if_neg (fun (q : x = r') => nr' p' i' (q ▸ hl))]
      exact h0.idi p' i' x hl hx
  case icr =>
    intro x hx
    rw [me_fu_ap, if_neg (fun (q : x = r') => e2 (q ▸ hx))]
    exact h0.icr x hx
  case ice =>
    intro p' i' x hl hx
    rcases inv _ _ _ hl with ⟨a1, a2, a3⟩ | ⟨_, hl⟩
    · exact absurd (a3 ▸ hx) e2
    · exact h0.ice p' i' x hl hx
  case iow =>
    intro x p' e
    rw [me_fu_ap] at e
    by_cases q : x = r'
    · rw [if_pos q] at e
      have ep : p = p' := Option.some.inj e
      rw [← ep, q, e1]
      exact ⟨hn', c2, c3, e3.symm, hS, by omega⟩
    · rw [if_neg q] at e
      exact h0.iow x p' e
  case iun =>
    intro x y p' ex ey hq
    rw [me_fu_ap] at ex ey
    by_cases qx : x = r' <;> by_cases qy : y = r'
    · rw [qx, qy]
    · rw [if_pos qx] at ex
      rw [if_neg qy] at ey
      have ep : p = p' := Option.some.inj ex
      exfalso
      have := h0.ihm r y p hL (by rw [ep]; exact ey)
      rw [← ep, qx, e1] at hq
      omega
    · rw [if_neg qx] at ex
      rw [if_pos qy] at ey
      have ep : p = p' := Option.some.inj ey
      exfalso
      have := h0.ihm r x p hL (by rw [ep]; exact ex)
      rw [← ep, qy, e1] at hq
      omega
    · rw [if_neg qx] at ex
      rw [if_neg qy] at ey
      exact h0.iun x y p' ex ey hq
  case ifo =>
    intro p' i j x y hx hy hij
    rcases inv _ _ _ hx with ⟨a1, a2, a3⟩ | ⟨a4, hx⟩
    · rcases inv _ _ _ hy with ⟨b1, b2, b3⟩ | ⟨b4, hy⟩
      · omega
      · right
        rw [a1] at hy
        rw [a3, e1, a1]
        rcases h0.ifo p 0 j r y hL hy (by omega) with q | q
        · rw [← q]
          omega
        · omega
    · rcases inv _ _ _ hy with ⟨b1, b2, b3⟩ | ⟨b4, hy⟩
      · omega
      · exact h0.ifo p' i j x y hx hy hij
  case ion =>
    intro p' i x y hx hy
    rcases inv _ _ _ hx with ⟨a1, a2, a3⟩ | ⟨a4, hx⟩
    · rcases inv _ _ _ hy with ⟨b1, b2, b3⟩ | ⟨b4, hy⟩
      · rw [a3, b3]
      · exact absurd ⟨a1, a2⟩ b4
    · rcases inv _ _ _ hy with ⟨b1, b2, b3⟩ | ⟨b4, hy⟩
      · exact absurd ⟨b1, b2⟩ a4
      · exact h0.ion p' i x y hx hy
  case ivd =>
    intro x p' ha hz
    by_cases qx : x = r
    · by_cases qp : p' = p
      · right
        refine ⟨d, n', hd4, ?_, ?_, ?_, ?_⟩
        · rw [me_fu_ap, if_pos qx]
        · rw [qx]
          exact hnb
        · rw [qp, ← hr, me_fu_ap, if_pos rfl]
        · rw [qp, qx]
          exact hD
      · exfalso
        have qr : ¬ x = r' := fun q => hne (q.symm.trans qx)
        have key : L p' 0 r := by
          by_cases h5 : r % 5 = 4
          · have hne' : ro r = none := h0.icr r h5
            have ce := h0.ice p 0 r hL h5
            rcases ha with ⟨i, hl⟩ | ⟨b1, b2, b3, b4⟩ | b
            · rcases inv _ _ _ hl with ⟨a1, _, _⟩ | ⟨_, hl⟩
              · exact absurd a1 qp
              · rw [qx] at hl
                obtain ⟨l1, l2, l3, l4, -⟩ := h0.iel p' i r hl
                have l5 := h0.ice p' i r hl h5
                have l6 := hf p' i hl h5
                exact h0.ifi r p 0 p' hL h5 (by omega) l2 l3 (by unfold me_cr; omega)
            · rw [qx] at b1
              have hc := me_ch_lt (kd p')
              have b1' := b1
              unfold me_cr at b1'
              have : p < p' := by
                rcases Nat.lt_or_ge p p' with q | q
                · exact q
                · exfalso
                  rcases h0.ifp p p' c2 c6 (by omega) (by omega) (by omega) with q1 | q1
                  · omega
                  · rw [b3] at q1
                    exact absurd q1 (by decide)
              exact h0.ifi r p 0 p' hL h5 this b2 b3 b1.symm
            · rw [me_fu_ap, if_neg qr, qx, hne'] at b
              cases b
          · have hp := h0.idi p 0 r hL h5
            rcases ha with ⟨i, hl⟩ | ⟨b1, b2, b3, b4⟩ | b
            · rcases inv _ _ _ hl with ⟨a1, _, _⟩ | ⟨_, hl⟩
              · exact absurd a1 qp
              · rw [qx] at hl
                have := h0.idi p' i r hl h5
                rw [hp] at this
                exact absurd (Option.some.inj this).symm qp
            · exfalso
              apply h5
              rw [← qx, b1]
              unfold me_cr
              omega
            · rw [me_fu_ap, if_neg qr, qx, hp] at b
              exact absurd (Option.some.inj b).symm qp
        rw [qx] at hz
        exact hz (old p' 0 r key (fun q => qp q.1))
    · by_cases qx' : x = r'
      · exfalso
        by_cases qp : p' = p
        · exact hz (by rw [qx', qp]; exact new0)
        · rcases ha with ⟨i, hl⟩ | ⟨b1, b2, b3, b4⟩ | b
          · rcases inv _ _ _ hl with ⟨a1, _, _⟩ | ⟨_, hl⟩
            · exact qp a1
            · exact nr' p' i (qx' ▸ hl)
          · apply e2
            rw [← qx', b1]
            unfold me_cr
            omega
          · rw [me_fu_ap, if_pos qx'] at b
            exact qp (Option.some.inj b).symm
      · have ha' : (∃ i, L p' i x) ∨ (x = me_cr kd sr p' ∧ p' < np ∧ st p' = 119 ∧ pt p' ≤ bo p') ∨ ro x = some p' := by
          rcases ha with ⟨i, hl⟩ | b | b
          · rcases inv _ _ _ hl with ⟨_, _, a3⟩ | ⟨_, hl⟩
            · exact absurd a3 qx'
            · exact Or.inl ⟨i, hl⟩
          · exact Or.inr (Or.inl b)
          · rw [me_fu_ap, if_neg qx'] at b
            exact Or.inr (Or.inr b)
        have hz' : ¬ L p' 0 x := fun q => by
          by_cases qp : p' = p
          · exact qx (h0.ion p 0 x r (qp ▸ q) hL)
          · exact hz (old p' 0 x q (fun e => qp e.1))
        rcases h0.ivd x p' ha' hz' with ⟨v1, v2⟩ | ⟨d1, n1, v1, v2, v3, v4, v5⟩
        · left
          exact ⟨by rw [me_fu_ap, if_neg qx]; exact v1, v2⟩
        · right
          refine ⟨d1, n1, v1, ?_, v3, ?_, v5⟩
          · rw [me_fu_ap, if_neg qx]
            exact v2
          · rw [me_fu_ap, if_neg (fun q => by rw [q, hro] at v4; cases v4)]
            exact v4
  case itl =>
    intro x y p' hx hy
    rw [me_fu_ap] at hy
    rcases inv _ _ _ hx with ⟨a1, a2, a3⟩ | ⟨_, hx⟩
    · exfalso
      have := hbo p c2
      rw [a1] at a2
      omega
    · by_cases qy : y = r'
      · rw [if_pos qy] at hy
        have ep : p = p' := Option.some.inj hy
        rw [← ep] at hx ⊢
        rw [qy, e1]
        have hb := hbo p c2
        rcases h0.ifo p 0 (bo p) r x hL hx (by omega) with q | q
        · rw [← q]
          omega
        · omega
      · rw [if_neg qy] at hy
        exact h0.itl x y p' hx hy
  case ihm =>
    intro x y p' hx hy
    rw [me_fu_ap] at hy
    rcases inv _ _ _ hx with ⟨a1, a2, a3⟩ | ⟨a4, hx⟩
    · rw [a1, a3, e1]
      by_cases qy : y = r'
      · rw [qy, e1]
        exact Nat.le_refl _
      · rw [if_neg qy, a1] at hy
        have := h0.ihm r y p hL hy
        omega
    · by_cases qy : y = r'
      · rw [if_pos qy] at hy
        exact absurd ⟨(Option.some.inj hy).symm, rfl⟩ a4
      · rw [if_neg qy] at hy
        exact h0.ihm x y p' hx hy
  case ifi =>
    intro x p1 i p' hl h5 hlt hp hst hcr
    rcases inv _ _ _ hl with ⟨_, _, a3⟩ | ⟨_, hl⟩
    · exact absurd (a3 ▸ h5) e2
    · have k := h0.ifi x p1 i p' hl h5 hlt hp hst hcr
      refine old p' 0 x k (fun q => ?_)
      have q1 := q.1
      have qx : x = r := h0.ion p 0 x r (q1 ▸ k) hL
      have := hf p1 i (qx ▸ hl) (qx ▸ h5)
      omega
  case ihd =>
    intro p' hp
    rw [me_fu_ap]
    by_cases qp : p' = p
    · rw [if_pos qp]
      refine ⟨fun n e => ⟨r', by rw [qp]; exact new0, e1.trans (Option.some.inj e)⟩, fun e => by cases e⟩
    · rw [if_neg qp]
      refine ⟨fun n e => ?_, fun e x hl => ?_⟩
      · obtain ⟨x, l1, l2⟩ := (h0.ihd p' hp).1 n e
        exact ⟨x, old p' 0 x l1 (fun q => qp q.1), l2⟩
      · rcases inv _ _ _ hl with ⟨a1, _, _⟩ | ⟨_, hl⟩
        · exact qp a1
        · exact (h0.ihd p' hp).2 e x hl
  case iex =>
    intro p' i hp hst h1 h2
    by_cases q : p' = p ∧ i = 0
    · exact ⟨r', by rw [q.1, q.2]; exact new0⟩
    · obtain ⟨x, hl⟩ := h0.iex p' i hp hst h1 h2
      exact ⟨x, old p' i x hl q⟩
  case ifp => exact h0.ifp
  case isl =>
    intro x e
    have o := h0.isl x e
    refine ⟨fun p' i hl => ?_, ?_⟩
    · rcases inv _ _ _ hl with ⟨_, _, a3⟩ | ⟨_, hl⟩
      · rw [a3, e1, haw] at e
        cases e
      · exact o.1 p' i hl
    · rw [me_fu_ap, if_neg (fun q => by rw [q, e1, haw] at e; cases e)]
      exact o.2
/-! a body goes ahead -/
theorem me_Wl.ahB {w h np : Nat} {kd st : Nat → Int32} {sr gl bo pt tk : Nat → Nat} {hd : Nat → Option Nat} {L L' : Nat → Nat → Nat → Prop} {ro ro' rh : Nat → Option Nat} {aw : Nat → Bool} (h0 : me_Wl w h np kd st sr gl bo pt tk hd L ro rh aw) {p i r n' d r' : Nat} (hi : 0 < i) (hL : L p i r) (hf : ∀ i', L p i' r → i ≤ i') (hpt : pt p ≤ bo p + 1) (hD : me_ds w (sr p) n' = me_ds w (sr p) (r / 10) + 1) (hr : r' = me_rw n' (me_ch (kd p)) (me_op d)) (hro : ro r' = some p) (hro' : ∀ x, ro' x = if x = r ∧ i = bo p then none else ro x) (hL' : ∀ p' i' x, L' p' i' x ↔ (p' = p ∧ i' = i ∧ x = r') ∨ (¬ (p' = p ∧ i' = i) ∧ L p' i' x)) : me_Wl w h np kd st sr gl bo pt tk hd L' ro' rh aw := by
  obtain ⟨c1, c2, c3, c4, c5, c6, c7⟩ := h0.iel p i r hL
  have ho := me_op_lt d
  obtain ⟨e1, e2', e3⟩ := me_rw_at (n := n') (me_ch_lt (kd p)) (show me_op d < 5 by omega)
  rw [← hr] at e1 e2' e3
  have e2 : ¬ r' % 5 = 4 := by omega
  have hne : ¬ r' = r := fun q => by rw [q] at e1; rw [← e1] at hD; omega
  have inv : ∀ p' i' x, L' p' i' x → (p' = p ∧ i' = i ∧ x = r') ∨ (¬ (p' = p ∧ i' = i) ∧ L p' i' x) := fun p' i' x => (hL' p' i' x).mp
  have old : ∀ p' i' x, L p' i' x → ¬ (p' = p ∧ i' = i) → L' p' i' x := fun p' i' x hl hn => (hL' p' i' x).mpr (Or.inr ⟨hn, hl⟩)
  have new0 : L' p i r' := (hL' _ _ _).mpr (Or.inl ⟨rfl, rfl, rfl⟩)
  obtain ⟨o1, o2, o3, o4, o5, o6⟩ := h0.iow r' p hro
  rw [e1] at o1 o5 o6
  have ros : ∀ x p', ro' x = some p' → ro x = some p' ∧ ¬ (x = r ∧ i = bo p) := fun x p' e => by
    rw [hro'] at e
    by_cases q : x = r ∧ i = bo p
    · rw [if_pos q] at e
      cases e
    · rw [if_neg q] at e
      exact ⟨e, q⟩
  apply me_Wl.mk
  case iel =>
    intro p' i' x hl
    rcases inv _ _ _ hl with ⟨a1, a2, a3⟩ | ⟨_, hl⟩
    · rw [a1, a2, a3, e1]
      exact ⟨o1, c2, c3, e3.symm, c5, c6, o5⟩
    · exact h0.iel p' i' x hl
  case idi =>
    intro p' i' x hl hx
    rw [hro']
    rcases inv _ _ _ hl with ⟨a1, a2, a3⟩ | ⟨a4, hl⟩
    · rw [a3, if_neg (fun q => hne q.1), a1]
      exact hro
    · have k := h0.idi p' i' x hl hx
      rw [if_neg ?_]
      · exact k
      · rintro ⟨q1, q2⟩
        rw [q1] at hl k hx
        have k2 := h0.idi p i r hL hx
        rw [k2] at k
        have ep : p = p' := Option.some.inj k
        rw [← ep] at hl a4
        have l1 := hf i' hl
        obtain ⟨-, -, -, -, -, l2, -⟩ := h0.iel p i' r hl
        exact a4 ⟨rfl, by omega⟩
  case icr =>
    intro x hx
    rw [hro']
    split
    · rfl
    · exact h0.icr x hx
  case ice =>
    intro p' i' x hl hx
    rcases inv _ _ _ hl with ⟨a1, a2, a3⟩ | ⟨_, hl⟩
    · exact absurd (a3 ▸ hx) e2
    · exact h0.ice p' i' x hl hx
  case iow => exact fun x p' e => h0.iow x p' (ros x p' e).1
  case iun => exact fun x y p' ex ey hq => h0.iun x y p' (ros x p' ex).1 (ros y p' ey).1 hq
  case ifo =>
    intro p' i1 j x y hx hy hij
    rcases inv _ _ _ hx with ⟨a1, a2, a3⟩ | ⟨a4, hx⟩
    · rcases inv _ _ _ hy with ⟨b1, b2, b3⟩ | ⟨b4, hy⟩
      · omega
      · right
        rw [a1] at hy
        rw [a3, e1, a1]
        rcases h0.ifo p i j r y hL hy (by omega) with q | q
        · rw [← q]
          omega
        · omega
    · rcases inv _ _ _ hy with ⟨b1, b2, b3⟩ | ⟨b4, hy⟩
      · rw [b1] at hx ⊢
        rw [b3, e1]
        rcases h0.ifo p i1 i x r hx hL (by omega) with q | q
        · exfalso
          rw [q] at hx
          have := hf i1 hx
          omega
        · by_cases g : me_ds w (sr p) n' < me_ds w (sr p) (x / 10)
          · exact Or.inr g
          · left
            have g' : me_ds w (sr p) (x / 10) = me_ds w (sr p) (r' / 10) := by rw [e1]; omega
            by_cases h5 : x % 5 = 4
            · exfalso
              have s := h0.ice p i1 x hx h5
              have z : me_ds w (sr p) (x / 10) = 0 := by rw [← s]; exact me_ds_self w (sr p)
              omega
            · exact h0.iun x r' p (h0.idi p i1 x hx h5) hro g'
      · exact h0.ifo p' i1 j x y hx hy hij
  case ion =>
    intro p' i' x y hx hy
    rcases inv _ _ _ hx with ⟨a1, a2, a3⟩ | ⟨a4, hx⟩
    · rcases inv _ _ _ hy with ⟨b1, b2, b3⟩ | ⟨b4, hy⟩
      · rw [a3, b3]
      · exact absurd ⟨a1, a2⟩ b4
    · rcases inv _ _ _ hy with ⟨b1, b2, b3⟩ | ⟨b4, hy⟩
      · exact absurd ⟨b1, b2⟩ a4
      · exact h0.ion p' i' x y hx hy
  case ivd =>
    intro x p' ha hz
    have ha0 : (∃ i, L p' i x) ∨ (x = me_cr kd sr p' ∧ p' < np ∧ st p' = 119 ∧ pt p' ≤ bo p') ∨ ro x = some p' := by
      rcases ha with ⟨i1, hl⟩ | b | b
      · rcases inv _ _ _ hl with ⟨a1, _, a3⟩ | ⟨_, hl⟩
        · exact Or.inr (Or.inr (by rw [a1, a3]; exact hro))
        · exact Or.inl ⟨i1, hl⟩
      · exact Or.inr (Or.inl b)
      · exact Or.inr (Or.inr (ros x p' b).1)
    have hz0 : ¬ L p' 0 x := fun q => hz (old p' 0 x q (fun e => by have := e.2; omega))
    rcases h0.ivd x p' ha0 hz0 with ⟨v1, v2⟩ | ⟨d1, n1, v1, v2, v3, v4, v5⟩
    · left
      exact ⟨v1, v2⟩
    · right
      refine ⟨d1, n1, v1, v2, v3, ?_, v5⟩
      rw [hro', if_neg ?_]
      · exact v4
      · rintro ⟨q1, q2⟩
        have hop := me_op_lt d1
        have en := (me_rw_at (n := n1) (me_ch_lt (kd p')) (show me_op d1 < 5 by omega)).1
        rw [q1] at v4 en
        have h5 : ¬ r % 5 = 4 := fun q => by rw [h0.icr r q] at v4; cases v4
        have k := h0.idi p i r hL h5
        rw [k] at v4
        have ep : p = p' := Option.some.inj v4
        rw [← ep, ← en] at v5
        rcases ha with ⟨i1, hl⟩ | ⟨b1, b2, b3, b4⟩ | b
        · rcases inv _ _ _ hl with ⟨_, _, a3⟩ | ⟨a4, hl⟩
          · rw [a3, e1] at v5
            omega
          · rw [← ep] at hl a4
            obtain ⟨-, -, -, -, -, l2, -⟩ := h0.iel p i1 x hl
            have hi1 : ¬ i1 = i := fun q => a4 ⟨rfl, q⟩
            rcases h0.ifo p i1 i x r hl hL (by omega) with q | q
            · rw [q] at v5
              omega
            · omega
        · rw [← ep] at b4
          omega
        · have k3 := (ros x p' b).1
          rw [← ep] at k3
          have := h0.itl r x p (q2 ▸ hL) k3
          omega
  case itl =>
    intro x y p' hx hy
    have hy0 := ros y p' hy
    rcases inv _ _ _ hx with ⟨a1, a2, a3⟩ | ⟨_, hx⟩
    · rw [a1] at hy0 a2 ⊢
      rw [a3, e1]
      have t := h0.itl r y p (by rw [a2]; exact hL) hy0.1
      have hyr : ¬ y = r := fun q => hy0.2 ⟨q, a2.symm⟩
      by_cases h5 : r % 5 = 4
      · have s := h0.ice p i r hL h5
        have z : me_ds w (sr p) (r / 10) = 0 := by rw [← s]; exact me_ds_self w (sr p)
        obtain ⟨-, -, -, -, -, k6⟩ := h0.iow y p hy0.1
        omega
      · have k := h0.idi p i r hL h5
        have : ¬ me_ds w (sr p) (y / 10) = me_ds w (sr p) (r / 10) := fun q => hyr (h0.iun y r p hy0.1 k q)
        omega
    · exact h0.itl x y p' hx hy0.1
  case ihm =>
    intro x y p' hx hy
    rcases inv _ _ _ hx with ⟨_, a2, _⟩ | ⟨_, hx⟩
    · omega
    · exact h0.ihm x y p' hx (ros y p' hy).1
  case ifi =>
    intro x p1 i1 p' hl h5 hlt hp hst hcr
    rcases inv _ _ _ hl with ⟨_, _, a3⟩ | ⟨_, hl⟩
    · exact absurd (a3 ▸ h5) e2
    · exact old p' 0 x (h0.ifi x p1 i1 p' hl h5 hlt hp hst hcr) (fun q => by have := q.2; omega)
  case ihd =>
    intro p' hp
    refine ⟨fun n e => ?_, fun e x hl => ?_⟩
    · obtain ⟨x, l1, l2⟩ := (h0.ihd p' hp).1 n e
      exact ⟨x, old p' 0 x l1 (fun q => by have := q.2; omega), l2⟩
    · rcases inv _ _ _ hl with ⟨_, a2, _⟩ | ⟨_, hl⟩
      · omega
      · exact (h0.ihd p' hp).2 e x hl
  case iex =>
    intro p' i' hp hst h1 h2
    by_cases q : p' = p ∧ i' = i
    · exact ⟨r', by rw [q.1, q.2]; exact new0⟩
    · obtain ⟨x, hl⟩ := h0.iex p' i' hp hst h1 h2
      exact ⟨x, old p' i' x hl q⟩
  case ifp => exact h0.ifp
  case isl =>
    intro x e
    have o := h0.isl x e
    refine ⟨fun p' i' hl => ?_, ?_⟩
    · rcases inv _ _ _ hl with ⟨_, _, a3⟩ | ⟨_, hl⟩
      · rw [← a3, o.2] at hro
        cases hro
      · exact o.1 p' i' hl
    · rw [hro']
      split
      · rfl
      · exact o.2
