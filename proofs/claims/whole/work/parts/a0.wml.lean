/-! WORMS, by the places of pieces: L p i x says that the piece i of the packet p lies in the row x -/
def me_L (q : Nat → List (Nat × Nat × Nat)) (p i x : Nat) : Prop := ∃ c, (p, i, c) ∈ q x
def me_Wl (w h np : Nat) (kd st : Nat → Int32) (sr gl bo pt tk : Nat → Nat) (hd : Nat → Option Nat) (L : Nat → Nat → Nat → Prop) (ro rh : Nat → Option Nat) (aw : Nat → Bool) : Prop :=
  (∀ p i x, L p i x → x / 10 < w * h ∧ p < np ∧ st p = 119 ∧ me_ch (kd p) = x % 10 / 5 ∧ tk p ≤ i ∧ i < pt p ∧ me_ds w (sr p) (x / 10) + me_ds w (x / 10) (gl p) = me_ds w (sr p) (gl p)) ∧
  (∀ p i x, L p i x → ¬ x % 5 = 4 → ro x = some p) ∧
  (∀ r, r % 5 = 4 → ro r = none) ∧
  (∀ p i x, L p i x → x % 5 = 4 → sr p = x / 10) ∧
  (∀ r p, ro r = some p → r / 10 < w * h ∧ p < np ∧ st p = 119 ∧ me_ch (kd p) = r % 10 / 5 ∧ me_ds w (sr p) (r / 10) + me_ds w (r / 10) (gl p) = me_ds w (sr p) (gl p) ∧ 1 ≤ me_ds w (sr p) (r / 10)) ∧
  (∀ r r' p, ro r = some p → ro r' = some p → me_ds w (sr p) (r / 10) = me_ds w (sr p) (r' / 10) → r = r') ∧
  (∀ p i j x y, L p i x → L p j y → i < j → x = y ∨ me_ds w (sr p) (y / 10) < me_ds w (sr p) (x / 10)) ∧
  (∀ p i x y, L p i x → L p i y → x = y) ∧
  (∀ x p, (∃ i, L p i x) ∨ (x = me_cr kd sr p ∧ p < np ∧ st p = 119 ∧ pt p ≤ bo p) ∨ ro x = some p → ¬ L p 0 x → me_Vd w h kd sr gl ro rh x p) ∧
  (∀ x y p, L p (bo p) x → ro y = some p → me_ds w (sr p) (x / 10) ≤ me_ds w (sr p) (y / 10)) ∧
  (∀ x y p, L p 0 x → ro y = some p → me_ds w (sr p) (y / 10) ≤ me_ds w (sr p) (x / 10)) ∧
  (∀ x p' i p, L p' i x → x % 5 = 4 → p' < p → p < np → st p = 119 → me_cr kd sr p = x → L p 0 x) ∧
  (∀ p, p < np → (∀ n, hd p = some n → ∃ x, L p 0 x ∧ x / 10 = n) ∧ (hd p = none → ∀ x, ¬ L p 0 x)) ∧
  (∀ p i, p < np → st p = 119 → tk p ≤ i → i < pt p → ∃ x, L p i x) ∧
  (∀ p j, p < np → 0 < pt p → j < p → sr j = sr p → me_ch (kd j) = me_ch (kd p) → pt j = bo j + 1 ∨ st j = 108) ∧
  (∀ x, aw (x / 10) = false → (∀ p i, ¬ L p i x) ∧ ro x = none)
theorem me_Wl.iel {w h np : Nat} {kd st : Nat → Int32} {sr gl bo pt tk : Nat → Nat} {hd : Nat → Option Nat} {L : Nat → Nat → Nat → Prop} {ro rh : Nat → Option Nat} {aw : Nat → Bool} (hyp : me_Wl w h np kd st sr gl bo pt tk hd L ro rh aw) : ∀ p i x, L p i x → x / 10 < w * h ∧ p < np ∧ st p = 119 ∧ me_ch (kd p) = x % 10 / 5 ∧ tk p ≤ i ∧ i < pt p ∧ me_ds w (sr p) (x / 10) + me_ds w (x / 10) (gl p) = me_ds w (sr p) (gl p) := hyp.1
theorem me_Wl.idi {w h np : Nat} {kd st : Nat → Int32} {sr gl bo pt tk : Nat → Nat} {hd : Nat → Option Nat} {L : Nat → Nat → Nat → Prop} {ro rh : Nat → Option Nat} {aw : Nat → Bool} (hyp : me_Wl w h np kd st sr gl bo pt tk hd L ro rh aw) : ∀ p i x, L p i x → ¬ x % 5 = 4 → ro x = some p := hyp.2.1
theorem me_Wl.icr {w h np : Nat} {kd st : Nat → Int32} {sr gl bo pt tk : Nat → Nat} {hd : Nat → Option Nat} {L : Nat → Nat → Nat → Prop} {ro rh : Nat → Option Nat} {aw : Nat → Bool} (hyp : me_Wl w h np kd st sr gl bo pt tk hd L ro rh aw) : ∀ r, r % 5 = 4 → ro r = none := hyp.2.2.1
theorem me_Wl.ice {w h np : Nat} {kd st : Nat → Int32} {sr gl bo pt tk : Nat → Nat} {hd : Nat → Option Nat} {L : Nat → Nat → Nat → Prop} {ro rh : Nat → Option Nat} {aw : Nat → Bool} (hyp : me_Wl w h np kd st sr gl bo pt tk hd L ro rh aw) : ∀ p i x, L p i x → x % 5 = 4 → sr p = x / 10 := hyp.2.2.2.1
theorem me_Wl.iow {w h np : Nat} {kd st : Nat → Int32} {sr gl bo pt tk : Nat → Nat} {hd : Nat → Option Nat} {L : Nat → Nat → Nat → Prop} {ro rh : Nat → Option Nat} {aw : Nat → Bool} (hyp : me_Wl w h np kd st sr gl bo pt tk hd L ro rh aw) : ∀ r p, ro r = some p → r / 10 < w * h ∧ p < np ∧ st p = 119 ∧ me_ch (kd p) = r % 10 / 5 ∧ me_ds w (sr p) (r / 10) + me_ds w (r / 10) (gl p) = me_ds w (sr p) (gl p) ∧ 1 ≤ me_ds w (sr p) (r / 10) := hyp.2.2.2.2.1
theorem me_Wl.iun {w h np : Nat} {kd st : Nat → Int32} {sr gl bo pt tk : Nat → Nat} {hd : Nat → Option Nat} {L : Nat → Nat → Nat → Prop} {ro rh : Nat → Option Nat} {aw : Nat → Bool} (hyp : me_Wl w h np kd st sr gl bo pt tk hd L ro rh aw) : ∀ r r' p, ro r = some p → ro r' = some p → me_ds w (sr p) (r / 10) = me_ds w (sr p) (r' / 10) → r = r' := hyp.2.2.2.2.2.1
theorem me_Wl.ifo {w h np : Nat} {kd st : Nat → Int32} {sr gl bo pt tk : Nat → Nat} {hd : Nat → Option Nat} {L : Nat → Nat → Nat → Prop} {ro rh : Nat → Option Nat} {aw : Nat → Bool} (hyp : me_Wl w h np kd st sr gl bo pt tk hd L ro rh aw) : ∀ p i j x y, L p i x → L p j y → i < j → x = y ∨ me_ds w (sr p) (y / 10) < me_ds w (sr p) (x / 10) := hyp.2.2.2.2.2.2.1
theorem me_Wl.ion {w h np : Nat} {kd st : Nat → Int32} {sr gl bo pt tk : Nat → Nat} {hd : Nat → Option Nat} {L : Nat → Nat → Nat → Prop} {ro rh : Nat → Option Nat} {aw : Nat → Bool} (hyp : me_Wl w h np kd st sr gl bo pt tk hd L ro rh aw) : ∀ p i x y, L p i x → L p i y → x = y := hyp.2.2.2.2.2.2.2.1
theorem me_Wl.ivd {w h np : Nat} {kd st : Nat → Int32} {sr gl bo pt tk : Nat → Nat} {hd : Nat → Option Nat} {L : Nat → Nat → Nat → Prop} {ro rh : Nat → Option Nat} {aw : Nat → Bool} (hyp : me_Wl w h np kd st sr gl bo pt tk hd L ro rh aw) : ∀ x p, (∃ i, L p i x) ∨ (x = me_cr kd sr p ∧ p < np ∧ st p = 119 ∧ pt p ≤ bo p) ∨ ro x = some p → ¬ L p 0 x → me_Vd w h kd sr gl ro rh x p := hyp.2.2.2.2.2.2.2.2.1
theorem me_Wl.itl {w h np : Nat} {kd st : Nat → Int32} {sr gl bo pt tk : Nat → Nat} {hd : Nat → Option Nat} {L : Nat → Nat → Nat → Prop} {ro rh : Nat → Option Nat} {aw : Nat → Bool} (hyp : me_Wl w h np kd st sr gl bo pt tk hd L ro rh aw) : ∀ x y p, L p (bo p) x → ro y = some p → me_ds w (sr p) (x / 10) ≤ me_ds w (sr p) (y / 10) := hyp.2.2.2.2.2.2.2.2.2.1
theorem me_Wl.ihm {w h np : Nat} {kd st : Nat → Int32} {sr gl bo pt tk : Nat → Nat} {hd : Nat → Option Nat} {L : Nat → Nat → Nat → Prop} {ro rh : Nat → Option Nat} {aw : Nat → Bool} (hyp : me_Wl w h np kd st sr gl bo pt tk hd L ro rh aw) : ∀ x y p, L p 0 x → ro y = some p → me_ds w (sr p) (y / 10) ≤ me_ds w (sr p) (x / 10) := hyp.2.2.2.2.2.2.2.2.2.2.1
theorem me_Wl.ifi {w h np : Nat} {kd st : Nat → Int32} {sr gl bo pt tk : Nat → Nat} {hd : Nat → Option Nat} {L : Nat → Nat → Nat → Prop} {ro rh : Nat → Option Nat} {aw : Nat → Bool} (hyp : me_Wl w h np kd st sr gl bo pt tk hd L ro rh aw) : ∀ x p' i p, L p' i x → x % 5 = 4 → p' < p → p < np → st p = 119 → me_cr kd sr p = x → L p 0 x := hyp.2.2.2.2.2.2.2.2.2.2.2.1
theorem me_Wl.ihd {w h np : Nat} {kd st : Nat → Int32} {sr gl bo pt tk : Nat → Nat} {hd : Nat → Option Nat} {L : Nat → Nat → Nat → Prop} {ro rh : Nat → Option Nat} {aw : Nat → Bool} (hyp : me_Wl w h np kd st sr gl bo pt tk hd L ro rh aw) : ∀ p, p < np → (∀ n, hd p = some n → ∃ x, L p 0 x ∧ x / 10 = n) ∧ (hd p = none → ∀ x, ¬ L p 0 x) := hyp.2.2.2.2.2.2.2.2.2.2.2.2.1
theorem me_Wl.iex {w h np : Nat} {kd st : Nat → Int32} {sr gl bo pt tk : Nat → Nat} {hd : Nat → Option Nat} {L : Nat → Nat → Nat → Prop} {ro rh : Nat → Option Nat} {aw : Nat → Bool} (hyp : me_Wl w h np kd st sr gl bo pt tk hd L ro rh aw) : ∀ p i, p < np → st p = 119 → tk p ≤ i → i < pt p → ∃ x, L p i x := hyp.2.2.2.2.2.2.2.2.2.2.2.2.2.1
theorem me_Wl.ifp {w h np : Nat} {kd st : Nat → Int32} {sr gl bo pt tk : Nat → Nat} {hd : Nat → Option Nat} {L : Nat → Nat → Nat → Prop} {ro rh : Nat → Option Nat} {aw : Nat → Bool} (hyp : me_Wl w h np kd st sr gl bo pt tk hd L ro rh aw) : ∀ p j, p < np → 0 < pt p → j < p → sr j = sr p → me_ch (kd j) = me_ch (kd p) → pt j = bo j + 1 ∨ st j = 108 := hyp.2.2.2.2.2.2.2.2.2.2.2.2.2.2.1
theorem me_Wl.isl {w h np : Nat} {kd st : Nat → Int32} {sr gl bo pt tk : Nat → Nat} {hd : Nat → Option Nat} {L : Nat → Nat → Nat → Prop} {ro rh : Nat → Option Nat} {aw : Nat → Bool} (hyp : me_Wl w h np kd st sr gl bo pt tk hd L ro rh aw) : ∀ x, aw (x / 10) = false → (∀ p i, ¬ L p i x) ∧ ro x = none := hyp.2.2.2.2.2.2.2.2.2.2.2.2.2.2.2
theorem me_Wl.mk {w h np : Nat} {kd st : Nat → Int32} {sr gl bo pt tk : Nat → Nat} {hd : Nat → Option Nat} {L : Nat → Nat → Nat → Prop} {ro rh : Nat → Option Nat} {aw : Nat → Bool} (iel : ∀ p i x, L p i x → x / 10 < w * h ∧ p < np ∧ st p = 119 ∧ me_ch (kd p) = x % 10 / 5 ∧ tk p ≤ i ∧ i < pt p ∧ me_ds w (sr p) (x / 10) + me_ds w (x / 10) (gl p) = me_ds w (sr p) (gl p)) (idi : ∀ p i x, L p i x → ¬ x % 5 = 4 → ro x = some p) (icr : ∀ r, r % 5 = 4 → ro r = none) (ice : ∀ p i x, L p i x → x % 5 = 4 → sr p = x / 10) (iow : ∀ r p, ro r = some p → r / 10 < w * h ∧ p < np ∧ st p = 119 ∧ me_ch (kd p) = r % 10 / 5 ∧ me_ds w (sr p) (r / 10) + me_ds w (r / 10) (gl p) = me_ds w (sr p) (gl p) ∧ 1 ≤ me_ds w (sr p) (r / 10)) (iun : ∀ r r' p, ro r = some p → ro r' = some p → me_ds w (sr p) (r / 10) = me_ds w (sr p) (r' / 10) → r = r') (ifo : ∀ p i j x y, L p i x → L p j y → i < j → x = y ∨ me_ds w (sr p) (y / 10) < me_ds w (sr p) (x / 10)) (ion : ∀ p i x y, L p i x → L p i y → x = y) (ivd : ∀ x p, (∃ i, L p i x) ∨ (x = me_cr kd sr p ∧ p < np ∧ st p = 119 ∧ pt p ≤ bo p) ∨ ro x = some p → ¬ L p 0 x → me_Vd w h kd sr gl ro rh x p) (itl : ∀ x y p, L p (bo p) x → ro y = some p → me_ds w (sr p) (x / 10) ≤ me_ds w (sr p) (y / 10)) (ihm : ∀ x y p, L p 0 x → ro y = some p → me_ds w (sr p) (y / 10) ≤ me_ds w (sr p) (x / 10)) (ifi : ∀ x p' i p, L p' i x → x % 5 = 4 → p' < p → p < np → st p = 119 → me_cr kd sr p = x → L p 0 x) (ihd : ∀ p, p < np → (∀ n, hd p = some n → ∃ x, L p 0 x ∧ x / 10 = n) ∧ (hd p = none → ∀ x, ¬ L p 0 x)) (iex : ∀ p i, p < np → st p = 119 → tk p ≤ i → i < pt p → ∃ x, L p i x) (ifp : ∀ p j, p < np → 0 < pt p → j < p → sr j = sr p → me_ch (kd j) = me_ch (kd p) → pt j = bo j + 1 ∨ st j = 108) (isl : ∀ x, aw (x / 10) = false → (∀ p i, ¬ L p i x) ∧ ro x = none) : me_Wl w h np kd st sr gl bo pt tk hd L ro rh aw := ⟨iel, idi, icr, ice, iow, iun, ifo, ion, ivd, itl, ihm, ifi, ihd, iex, ifp, isl⟩
section MeWl
variable {w h np : Nat} {kd st : Nat → Int32} {sr gl bo pt tk : Nat → Nat} {hd : Nat → Option Nat} {ro rh : Nat → Option Nat} {aw : Nat → Bool}
theorem me_Wm.wl {q : Nat → List (Nat × Nat × Nat)} (hW : me_Wm w h np kd st sr gl bo pt tk hd q ro rh aw) : me_Wl w h np kd st sr gl bo pt tk hd (me_L q) ro rh aw :=
  me_Wl.mk
    (fun p i x ⟨c, hc⟩ => hW.iel x (p, i, c) hc)
    (fun p i x ⟨c, hc⟩ hx => hW.idi x (p, i, c) hc hx)
    hW.icr
    (fun p i x ⟨c, hc⟩ hx => hW.ice x (p, i, c) hc hx)
    hW.iow hW.iun
    (fun p i j x y ⟨c, hc⟩ ⟨c', hc'⟩ hij => hW.ifo x y (p, i, c) (p, j, c') hc hc' rfl hij)
    (fun p i x y ⟨c, hc⟩ ⟨c', hc'⟩ => hW.ion x y (p, i, c) (p, i, c') hc hc' rfl rfl)
    (fun x p ha hz => hW.ivd x p (ha.imp (fun ⟨i, c, hc⟩ => ⟨(p, i, c), hc, rfl⟩) id) (fun c hc => hz ⟨c, hc⟩))
    (fun x y p ⟨c, hc⟩ => hW.itl x y p c hc)
    (fun x y p ⟨c, hc⟩ => hW.ihm x y p c hc)
    (fun x p' i p ⟨c, hc⟩ => hW.ifi x (p', i, c) p hc)
    (fun p hp => ⟨fun n e => (hW.ihd p hp).1 n e |>.elim fun r hr => hr.elim fun c hc => ⟨r, ⟨c, hc.1⟩, hc.2⟩, fun e x ⟨c, hc⟩ => (hW.ihd p hp).2 e x c hc⟩)
    (fun p i a b c d => hW.iex p i a b c d)
    hW.ifp
    (fun x e => ⟨fun p i ⟨c, hc⟩ => by rw [(hW.isl x e).1] at hc; exact absurd hc List.not_mem_nil, (hW.isl x e).2⟩)
theorem me_Wl.wm {q : Nat → List (Nat × Nat × Nat)} (hL : me_Wl w h np kd st sr gl bo pt tk hd (me_L q) ro rh aw) (h4 : ∀ r, (q r).length ≤ 4) (hs : ∀ r, (q r).Pairwise (fun e e' => e.1 < e'.1 ∨ (e.1 = e'.1 ∧ e.2.1 < e'.2.1))) (hc : ∀ p, p < np → ¬ st p = 108 → ((List.range 160).map (fun r => (q r).countP (fun e => decide (e.1 = p)))).sum = pt p - tk p) : me_Wm w h np kd st sr gl bo pt tk hd q ro rh aw :=
  me_Wm.mk h4
    (fun r e he => hL.iel e.1 e.2.1 r ⟨e.2.2, he⟩)
    (fun r e he hx => hL.idi e.1 e.2.1 r ⟨e.2.2, he⟩ hx)
    hL.icr
    (fun r e he hx => hL.ice e.1 e.2.1 r ⟨e.2.2, he⟩ hx)
    hL.iow hL.iun hs
    (fun r r' e e' he he' e1 e2 => hL.ifo e.1 e.2.1 e'.2.1 r r' ⟨e.2.2, he⟩ ⟨e'.2.2, by rw [e1]; exact he'⟩ e2)
    (fun r r' e e' he he' e1 e2 => hL.ion e.1 e.2.1 r r' ⟨e.2.2, he⟩ ⟨e'.2.2, by rw [e1, e2]; exact he'⟩)
    (fun r p ha hz => hL.ivd r p (ha.imp (fun ⟨e, he, e1⟩ => ⟨e.2.1, e.2.2, by rw [← e1]; exact he⟩) id) (fun ⟨c, hc⟩ => hz c hc))
    (fun r r' p c hc => hL.itl r r' p ⟨c, hc⟩)
    (fun r r' p c hc => hL.ihm r r' p ⟨c, hc⟩)
    (fun r e p he a b c d e' => hL.ifi r e.1 e.2.1 p ⟨e.2.2, he⟩ a b c d e')
    (fun p hp => ⟨fun n e => (hL.ihd p hp).1 n e |>.elim fun x hx => hx.1.elim fun c hc => ⟨x, c, hc, hx.2⟩, fun e r c hc => (hL.ihd p hp).2 e r ⟨c, hc⟩⟩)
    (fun p i a b c d => hL.iex p i a b c d)
    hc hL.ifp
    (fun r e => ⟨List.eq_nil_iff_forall_not_mem.mpr (fun e' he' => (hL.isl r e).1 e'.1 e'.2.1 ⟨e'.2.2, he'⟩), (hL.isl r e).2⟩)
end MeWl
theorem me_ch_lt (k : Int32) : me_ch k < 2 := by
  unfold me_ch
  split <;> decide
theorem me_ds_self (w x : Nat) : me_ds w x x = 0 := by
  unfold me_ds
  omega
theorem me_rw_at {n c k : Nat} (hc : c < 2) (hk : k < 5) : me_rw n c k / 10 = n ∧ me_rw n c k % 5 = k ∧ me_rw n c k % 10 / 5 = c := by
  unfold me_rw
  omega
