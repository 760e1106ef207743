/-! steps of the ghost, with all that always holds -/
theorem gh_geo1 : ∀ w, w < 5 → ∀ h, h < 5 → ∀ n, n < w * h → ∀ g, g < w * h → ∀ s, s < w * h → (!(decide (me_ds w s n + me_ds w n g = me_ds w s g)) || (gh_oq (gh_ax w n g) (fun d => gh_oq (me_nb w h n d) (fun n' => decide (me_ds w s n' = me_ds w s n + 1) && decide (me_ds w s n' + me_ds w n' g = me_ds w s g))) && gh_oq (gh_ay w n g) (fun d => gh_oq (me_nb w h n d) (fun n' => decide (me_ds w s n' = me_ds w s n + 1) && decide (me_ds w s n' + me_ds w n' g = me_ds w s g))))) = true := by decide +kernel
theorem gh_geo {a : me_S} (hI : me_Iv a) {n g s d n' : Nat} (hn : n < a.w * a.h) (hg : g < a.w * a.h) (hs : s < a.w * a.h) (hsum : me_ds a.w s n + me_ds a.w n g = me_ds a.w s g) (hd : gh_ax a.w n g = some d ∨ gh_ay a.w n g = some d) (hnb : me_nb a.w a.h n d = some n') : me_ds a.w s n' = me_ds a.w s n + 1 ∧ me_ds a.w s n' + me_ds a.w n' g = me_ds a.w s g := by
  have hw := hI.1.iw
  have hh := hI.1.ih
  have h := gh_geo1 a.w (by omega) a.h (by omega) n hn g hg s hs
  rw [decide_eq_true hsum, Bool.not_true, Bool.false_or, Bool.and_eq_true] at h
  have key : (decide (me_ds a.w s n' = me_ds a.w s n + 1) && decide (me_ds a.w s n' + me_ds a.w n' g = me_ds a.w s g)) = true := by
    rcases hd with e | e
    · have h1 := h.1
      rw [e] at h1
      have h1 : gh_oq (me_nb a.w a.h n d) (fun n' => decide (me_ds a.w s n' = me_ds a.w s n + 1) && decide (me_ds a.w s n' + me_ds a.w n' g = me_ds a.w s g)) = true := h1
      rw [hnb] at h1
      exact h1
    · have h1 := h.2
      rw [e] at h1
      have h1 : gh_oq (me_nb a.w a.h n d) (fun n' => decide (me_ds a.w s n' = me_ds a.w s n + 1) && decide (me_ds a.w s n' + me_ds a.w n' g = me_ds a.w s g)) = true := h1
      rw [hnb] at h1
      exact h1
  rw [Bool.and_eq_true, decide_eq_true_eq, decide_eq_true_eq] at key
  exact key
theorem gh_side_ax {a : me_S} {n g c d : Nat} (hd : ¬ d = 4) : gh_side a n g c = d → gh_ax a.w n g = some d ∨ gh_ay a.w n g = some d := by
  unfold gh_side
  cases gh_ax a.w n g with
  | none =>
    cases gh_ay a.w n g with
    | none => intro h; exact absurd h.symm hd
    | some y => intro h; exact Or.inr (congrArg some h)
  | some x =>
    cases gh_ay a.w n g with
    | none => intro h; exact Or.inl (congrArg some h)
    | some y =>
      dsimp only
      intro h
      by_cases w1 : a.wy = 116
      · rw [if_pos w1] at h
        by_cases x1 : x = 1
        · rw [if_pos x1] at h
          exact Or.inl (congrArg some (x1.trans h))
        · rw [if_neg x1] at h
          by_cases f1 : gh_fr a n c x = true
          · rw [if_pos f1] at h
            exact Or.inl (congrArg some h)
          · rw [if_neg f1] at h
            by_cases f2 : gh_fr a n c y = true
            · rw [if_pos f2] at h
              exact Or.inr (congrArg some h)
            · rw [if_neg f2] at h
              by_cases f3 : a.fl n x = 0
              · rw [if_pos f3] at h
                exact Or.inl (congrArg some h)
              · rw [if_neg f3] at h
                by_cases f4 : a.fl n y = 0
                · rw [if_pos f4] at h
                  exact Or.inr (congrArg some h)
                · rw [if_neg f4] at h
                  exact Or.inl (congrArg some h)
      · rw [if_neg w1] at h
        by_cases w2 : a.wy = 120
        · rw [if_pos w2] at h
          exact Or.inl (congrArg some h)
        · rw [if_neg w2] at h
          exact Or.inr (congrArg some h)
/-- rows and worms written anew -/
def gh_mv (a : me_S) (Q : Nat → List (Nat × Nat × Nat)) (RG : Nat → Nat) (RO RH HD : Nat → Option Nat) : me_S := me_S.s_q (me_S.s_rg (me_S.s_hd (me_S.s_ro (me_S.s_rh a RH) RO) HD) RG) Q
theorem gh_iv_mv {a : me_S} {Q : Nat → List (Nat × Nat × Nat)} {RG : Nat → Nat} {RO RH HD : Nat → Option Nat} (hI : me_Iv a) (hW : me_Wm a.w a.h a.np a.kd a.st a.sr a.gl a.bo a.pt a.tk HD Q RO RH a.aw) (hg : ∀ r, RG r ≤ a.bt + 1) : me_Iv (gh_mv a Q RG RO RH HD) :=
  ⟨hI.1, hI.2.1, hI.2.2.1, hI.2.2.2.1, hW, hI.2.2.2.2.2.1, hI.2.2.2.2.2.2.1, hg, hI.2.2.2.2.2.2.2.2⟩
theorem gh_rg {a : me_S} (hI : me_Iv a) {r g : Nat} (hg : g ≤ a.bt + 1) : ∀ x, me_fu a.rg r g x ≤ a.bt + 1 := by
  intro x
  rw [me_fu_ap]
  split
  · exact hg
  · exact hI.2.2.2.2.2.2.2.1 x
theorem gh_iv_lr {a : me_S} (hI : me_Iv a) {x v : Nat} (hv : v < 5) : me_Iv (me_S.s_lr a (me_fu a.lr x v)) := by
  refine ⟨hI.1, hI.2.1, hI.2.2.1, hI.2.2.2.1, hI.2.2.2.2.1, hI.2.2.2.2.2.1, fun b k hb hk => ?_, hI.2.2.2.2.2.2.2.1, hI.2.2.2.2.2.2.2.2⟩
  show me_fu a.lr x v (5 * b + k) < 5
  rw [me_fu_ap]
  split
  · exact hv
  · exact hI.2.2.2.2.2.2.1 b k hb hk
theorem gh_iv_an {a : me_S} (hI : me_Iv a) {p j : Nat} (hj : j < a.np) : me_Iv (me_S.s_an a (me_fu a.an p (some j))) := by
  obtain ⟨h0, hP, h2⟩ := hI
  refine ⟨h0, me_IP.mk hP.ile hP.iow hP.ikd hP.ist hP.isr hP.igl hP.ibo hP.ipt hP.ima hP.idn hP.idm hP.ipl (fun i k hi hk => ?_) hP.is0 hP.is1 hP.is2, h2⟩
  have hk : me_fu a.an p (some j) i = some k := hk
  rw [me_fu_ap] at hk
  by_cases e : i = p
  · rw [if_pos e] at hk
    rw [← Option.some.inj hk]
    exact hj
  · rw [if_neg e] at hk
    exact hP.ian i k hi hk
theorem gh_iv_mm {a : me_S} (hI : me_Iv a) (M : Nat → Nat → Int32) : me_Iv (me_S.s_mm a M) := hI
theorem me_cn_one {P P' : Nat → Bool} {r : Nat} (hx : ∀ x, ¬ x = r → P x = P' x) : ∀ n, r < n → (List.range n).countP P + (if P' r = true then 1 else 0) = (List.range n).countP P' + (if P r = true then 1 else 0) := by
  intro n
  induction n with
  | zero => intro h; exact absurd h (Nat.not_lt_zero _)
  | succ n ih =>
    intro h
    rw [List.range_succ, List.countP_append, List.countP_append, List.countP_cons, List.countP_cons, List.countP_nil, List.countP_nil]
    by_cases e : r = n
    · rw [← e, List.countP_congr (p := P) (q := P') (fun x hx' => by rw [hx x (by have := List.mem_range.mp hx'; omega)])]
      omega
    · have := ih (by omega)
      rw [hx n (fun q => e q.symm)]
      omega
section MeIPs
variable {w h np ow bt : Nat} {kd st : Nat → Int32} {sr gl bo pt tk ma : Nat → Nat} {dn : Nat → Option Nat} {pl : Nat → Nat} {an : Nat → Option Nat}
theorem me_IP.tk1 (hP : me_IP w h np ow bt kd st sr gl bo pt tk ma dn pl an) {p : Nat} {tk' : Nat → Nat} (hs : st p = 119) (ht : tk p < pt p) (htk' : ∀ x, tk' x = if x = p then tk p + 1 else tk x) : me_IP w h np ow bt kd st sr gl bo pt tk' ma dn pl an := by
  refine me_IP.mk hP.ile hP.iow hP.ikd hP.ist hP.isr hP.igl hP.ibo (fun i hi => ?_) hP.ima hP.idn hP.idm hP.ipl hP.ian hP.is0 hP.is1 (fun i hi h1 => ?_)
  · have := hP.ipt i hi
    rw [htk']
    by_cases e : i = p
    · rw [if_pos e]
      rw [e] at this ⊢
      omega
    · rw [if_neg e]
      exact this
  · rw [htk', if_neg (fun e => by rw [e, hs] at h1; rcases h1 with q | q <;> exact absurd q (by decide))]
    exact hP.is2 i hi h1
theorem me_IP.dlv (hP : me_IP w h np ow bt kd st sr gl bo pt tk ma dn pl an) {p ow' : Nat} {st' : Nat → Int32} {tk' : Nat → Nat} {dn' : Nat → Option Nat} (hp : p < np) (hs : st p = 119) (ht : tk p < pt p) (hb : tk p = bo p) (hst' : ∀ x, st' x = if x = p then 100 else st x) (htk' : ∀ x, tk' x = if x = p then tk p + 1 else tk x) (hdn' : ∀ x, dn' x = if x = p then some (bt + 1) else dn x) (how : ow' + (if kd p = 113 then 1 else 0) = ow) : me_IP w h np ow' bt kd st' sr gl bo pt tk' ma dn' pl an := by
  have ne : ∀ x, ¬ x = p → st' x = st x := fun x e => by rw [hst', if_neg e]
  have eq : st' p = 100 := by rw [hst', if_pos rfl]
  have hma := hP.ima p hp
  refine me_IP.mk ?_ ?_ hP.ikd (fun i hi => ?_) hP.isr hP.igl hP.ibo (fun i hi => ?_) hP.ima (fun i hi h1 => ?_) (fun i t hi h1 => ?_) hP.ipl hP.ian (fun i hi h1 => ?_) (fun i hi h1 => ?_) (fun i hi h1 => ?_)
  · have := hP.ile
    omega
  · have k := me_cn_one (P := me_qs kd st') (P' := me_qs kd st) (r := p) (fun x e => by unfold me_qs; rw [ne x e]) np hp
    have k1 : (if me_qs kd st' p = true then 1 else 0) = 0 := by
      rw [if_neg]
      unfold me_qs
      rw [eq]
      intro q
      simp at q
    have k2 : (if me_qs kd st p = true then 1 else 0) = (if kd p = 113 then 1 else 0) := by
      unfold me_qs
      rw [hs]
      by_cases g : kd p = 113
      · rw [if_pos g, decide_eq_true g, if_pos (by decide)]
      · rw [if_neg g, decide_eq_false g, if_neg (by decide)]
    have k3 := hP.iow
    rw [k1, k2] at k
    omega
  · by_cases e : i = p
    · rw [e, eq]
      decide
    · rw [ne i e]
      exact hP.ist i hi
  · have := hP.ipt i hi
    rw [htk']
    by_cases e : i = p
    · rw [if_pos e]
      rw [e] at this ⊢
      omega
    · rw [if_neg e]
      exact this
  · by_cases e : i = p
    · refine ⟨bt + 1, by rw [hdn', if_pos e], ?_, Nat.le_refl _⟩
      rw [e]
      omega
    · rw [ne i e] at h1
      rw [hdn', if_neg e]
      exact hP.idn i hi h1
  · rw [hdn'] at h1
    by_cases e : i = p
    · rw [if_pos e] at h1
      have := Option.some.inj h1
      omega
    · rw [if_neg e] at h1
      exact hP.idm i t hi h1
  · by_cases e : i = p
    · rw [e, eq] at h1
      exact absurd h1 (by decide)
    · rw [ne i e] at h1
      exact hP.is0 i hi h1
  · by_cases e : i = p
    · rw [e, eq] at h1
      exact absurd h1 (by decide)
    · rw [ne i e] at h1
      exact hP.is1 i hi h1
  · rw [htk']
    by_cases e : i = p
    · rw [if_pos e, e]
      omega
    · rw [ne i e] at h1
      rw [if_neg e]
      exact hP.is2 i hi h1
theorem me_IP.lost (hP : me_IP w h np ow bt kd st sr gl bo pt tk ma dn pl an) {p ow' : Nat} {st' : Nat → Int32} (hp : p < np) (hs : st p = 119) (hst' : ∀ x, st' x = if x = p then 108 else st x) (how : ow' + (if kd p = 113 then 1 else 0) = ow) : me_IP w h np ow' bt kd st' sr gl bo pt tk ma dn pl an := by
  have ne : ∀ x, ¬ x = p → st' x = st x := fun x e => by rw [hst', if_neg e]
  have eq : st' p = 108 := by rw [hst', if_pos rfl]
  refine me_IP.mk ?_ ?_ hP.ikd (fun i hi => ?_) hP.isr hP.igl hP.ibo hP.ipt hP.ima (fun i hi h1 => ?_) hP.idm hP.ipl hP.ian (fun i hi h1 => ?_) (fun i hi h1 => ?_) (fun i hi h1 => ?_)
  · have := hP.ile
    omega
  · have k := me_cn_one (P := me_qs kd st') (P' := me_qs kd st) (r := p) (fun x e => by unfold me_qs; rw [ne x e]) np hp
    have k1 : (if me_qs kd st' p = true then 1 else 0) = 0 := by
      rw [if_neg]
      unfold me_qs
      rw [eq]
      intro q
      simp at q
    have k2 : (if me_qs kd st p = true then 1 else 0) = (if kd p = 113 then 1 else 0) := by
      unfold me_qs
      rw [hs]
      by_cases g : kd p = 113
      · rw [if_pos g, decide_eq_true g, if_pos (by decide)]
      · rw [if_neg g, decide_eq_false g, if_neg (by decide)]
    have k3 := hP.iow
    rw [k1, k2] at k
    omega
  · by_cases e : i = p
    · rw [e, eq]
      decide
    · rw [ne i e]
      exact hP.ist i hi
  · by_cases e : i = p
    · rw [e, eq] at h1
      rcases h1 with q | q <;> exact absurd q (by decide)
    · rw [ne i e] at h1
      exact hP.idn i hi h1
  · by_cases e : i = p
    · rw [e, eq] at h1
      exact absurd h1 (by decide)
    · rw [ne i e] at h1
      exact hP.is0 i hi h1
  · by_cases e : i = p
    · rw [e, eq] at h1
      exact absurd h1 (by decide)
    · rw [ne i e] at h1
      exact hP.is1 i hi h1
  · by_cases e : i = p
    · rw [e, eq] at h1
      rcases h1 with q | q <;> exact absurd q (by decide)
    · rw [ne i e] at h1
      exact hP.is2 i hi h1
theorem me_IP.put (hP : me_IP w h np ow bt kd st sr gl bo pt tk ma dn pl an) {p : Nat} {st' : Nat → Int32} {pt' : Nat → Nat} (hp : p < np) (hs : st p = 115 ∨ st p = 119) (hb : pt p ≤ bo p) (hst' : ∀ x, st' x = if x = p then 119 else st x) (hpt' : ∀ x, pt' x = if x = p then pt p + 1 else pt x) : me_IP w h np ow bt kd st' sr gl bo pt' tk ma dn pl an := by
  have ne : ∀ x, ¬ x = p → st' x = st x := fun x e => by rw [hst', if_neg e]
  have eq : st' p = 119 := by rw [hst', if_pos rfl]
  refine me_IP.mk hP.ile ?_ hP.ikd (fun i hi => ?_) hP.isr hP.igl hP.ibo (fun i hi => ?_) hP.ima (fun i hi h1 => ?_) hP.idm hP.ipl hP.ian (fun i hi h1 => ?_) (fun i hi h1 => ?_) (fun i hi h1 => ?_)
  · have k := me_cn_one (P := me_qs kd st') (P' := me_qs kd st) (r := p) (fun x e => by unfold me_qs; rw [ne x e]) np hp
    have k2 : me_qs kd st' p = me_qs kd st p := by
      unfold me_qs
      rw [eq]
      rcases hs with s | s
      · rw [s]
        rfl
      · rw [s]
    have k3 := hP.iow
    rw [k2] at k
    omega
  · by_cases e : i = p
    · rw [e, eq]
      decide
    · rw [ne i e]
      exact hP.ist i hi
  · have := hP.ipt i hi
    rw [hpt']
    by_cases e : i = p
    · rw [if_pos e]
      rw [e] at this ⊢
      omega
    · rw [if_neg e]
      exact this
  · by_cases e : i = p
    · rw [e, eq] at h1
      rcases h1 with q | q <;> exact absurd q (by decide)
    · rw [ne i e] at h1
      exact hP.idn i hi h1
  · by_cases e : i = p
    · rw [e, eq] at h1
      exact absurd h1 (by decide)
    · rw [ne i e] at h1
      rw [hpt', if_neg e]
      exact hP.is0 i hi h1
  · rw [hpt']
    by_cases e : i = p
    · rw [if_pos e]
      omega
    · rw [ne i e] at h1
      rw [if_neg e]
      exact hP.is1 i hi h1
  · by_cases e : i = p
    · rw [e, eq] at h1
      rcases h1 with q | q <;> exact absurd q (by decide)
    · rw [ne i e] at h1
      exact hP.is2 i hi h1
end MeIPs
