/-! A NEW PACKET keeps what always holds -/
theorem gh_sum0 {α : Type} {f : α → Nat} : ∀ (l : List α), (∀ x ∈ l, f x = 0) → (l.map f).sum = 0 := by
  intro l
  induction l with
  | nil => intro _; rfl
  | cons x l ih =>
    intro h
    rw [List.map_cons, List.sum_cons, h x List.mem_cons_self, ih (fun y hy => h y (List.mem_cons_of_mem _ hy))]
theorem me_IP.mk_new {w h np ow bt : Nat} {kd st : Nat → Int32} {sr gl bo pt tk ma : Nat → Nat} {dn : Nat → Option Nat} {pl : Nat → Nat} {an : Nat → Option Nat} (hI : me_IP w h np ow bt kd st sr gl bo pt tk ma dn pl an) {k : Int32} {s g b ow' : Nat} {pl' : Nat → Nat} (hk : k = 109 ∨ k = 113 ∨ k = 97) (how : ow' = ow + if k = 113 then 1 else 0) (hr : np + 1 + ow' ≤ 200) (hs : s < w * h) (hg : g < w * h) (hb : 1 ≤ b ∧ b ≤ 4) (hp : ∀ i, i < np + 1 → pl' i < 8) :
    me_IP w h (np + 1) ow' bt (me_fu kd np k) (me_fu st np 115) (me_fu sr np s) (me_fu gl np g) (me_fu bo np b) (me_fu pt np 0) (me_fu tk np 0) (me_fu ma np bt) (me_fu dn np none) pl' (me_fu an np none) := by
  have key : ∀ {P : Nat → Prop}, P np → (∀ i, i < np → P i) → ∀ i, i < np + 1 → P i := fun h1 h2 i hi => by
    by_cases e : i = np
    · rw [e]; exact h1
    · exact h2 i (by omega)
  refine me_IP.mk hr ?_ (key ?_ ?_) (key ?_ ?_) (key ?_ ?_) (key ?_ ?_) (key ?_ ?_) (key ?_ ?_) (key ?_ ?_) (key ?_ ?_) (fun i t hi ht => ?_) hp (fun i j hi hj => ?_) (key ?_ ?_) (key ?_ ?_) (key ?_ ?_)
  · rw [List.range_succ, List.countP_append, how, hI.iow]
    congr 1
    · refine List.countP_congr (fun i hi => ?_)
      have hi := List.mem_range.mp hi
      unfold me_qs
      rw [me_fu_ne (show ¬ i = np by omega), me_fu_ne (show ¬ i = np by omega)]
    · rw [List.countP_singleton]
      unfold me_qs
      rw [me_fu_at, me_fu_at]
      by_cases e : k = 113
      · rw [if_pos e, e]; rfl
      · rw [if_neg e, decide_eq_false e]; rfl
  · rw [me_fu_at]; exact hk
  · intro i hi; rw [me_fu_ne (by omega)]; exact hI.ikd i hi
  · rw [me_fu_at]; exact Or.inl rfl
  · intro i hi; rw [me_fu_ne (by omega)]; exact hI.ist i hi
  · rw [me_fu_at]; exact hs
  · intro i hi; rw [me_fu_ne (by omega)]; exact hI.isr i hi
  · rw [me_fu_at]; exact hg
  · intro i hi; rw [me_fu_ne (by omega)]; exact hI.igl i hi
  · rw [me_fu_at]; exact hb
  · intro i hi; rw [me_fu_ne (by omega)]; exact hI.ibo i hi
  · rw [me_fu_at, me_fu_at]; exact ⟨Nat.le_refl _, Nat.zero_le _⟩
  · intro i hi; rw [me_fu_ne (by omega), me_fu_ne (by omega), me_fu_ne (by omega)]; exact hI.ipt i hi
  · rw [me_fu_at]; exact Nat.le_refl _
  · intro i hi; rw [me_fu_ne (by omega)]; exact hI.ima i hi
  · intro q
    rw [me_fu_at] at q
    exact absurd q (by decide)
  · intro i hi
    rw [me_fu_ne (show ¬ i = np by omega), me_fu_ne (show ¬ i = np by omega), me_fu_ne (show ¬ i = np by omega)]
    exact hI.idn i hi
  · rw [me_fu_ap] at ht
    by_cases e : i = np
    · rw [if_pos e] at ht; cases ht
    · rw [if_neg e] at ht; exact hI.idm i t (by omega) ht
  · rw [me_fu_ap] at hj
    by_cases e : i = np
    · rw [if_pos e] at hj; cases hj
    · rw [if_neg e] at hj; have := hI.ian i j (by omega) hj; omega
  · intro _; rw [me_fu_at]
  · intro i hi; rw [me_fu_ne (by omega), me_fu_ne (by omega)]; exact hI.is0 i hi
  · intro q; rw [me_fu_at] at q; exact absurd q (by decide)
  · intro i hi; rw [me_fu_ne (by omega), me_fu_ne (by omega)]; exact hI.is1 i hi
  · intro q; rw [me_fu_at] at q; exact absurd q (by decide)
  · intro i hi; rw [me_fu_ne (by omega), me_fu_ne (by omega), me_fu_ne (by omega)]; exact hI.is2 i hi
theorem me_Vd.cg {w h : Nat} {kd kd' : Nat → Int32} {sr sr' gl gl' : Nat → Nat} {ro rh : Nat → Option Nat} {r p : Nat} (e1 : kd' p = kd p) (e2 : sr' p = sr p) (e3 : gl' p = gl p) (hv : me_Vd w h kd sr gl ro rh r p) : me_Vd w h kd' sr' gl' ro rh r p := by
  unfold me_Vd at hv ⊢
  rw [e1, e2, e3]
  exact hv
theorem me_Wm.mk_new {w h np : Nat} {kd st : Nat → Int32} {sr gl bo pt tk : Nat → Nat} {hd : Nat → Option Nat} {q : Nat → List (Nat × Nat × Nat)} {ro rh : Nat → Option Nat} {aw : Nat → Bool} (h0 : me_Wm w h np kd st sr gl bo pt tk hd q ro rh aw) (k : Int32) (s g b : Nat) : me_Wm w h (np + 1) (me_fu kd np k) (me_fu st np 115) (me_fu sr np s) (me_fu gl np g) (me_fu bo np b) (me_fu pt np 0) (me_fu tk np 0) (me_fu hd np none) q ro rh aw := by
  have hq : ∀ r e, e ∈ q r → ¬ e.1 = np := fun r e he => by have := (h0.iel r e he).2.1; omega
  have hr : ∀ r p, ro r = some p → ¬ p = np := fun r p hp => by have := (h0.iow r p hp).2.1; omega
  have hs : ∀ p, me_fu st np 115 p = 119 → ¬ p = np := fun p hp e => by rw [e, me_fu_at] at hp; exact absurd hp (by decide)
  refine me_Wm.mk h0.in4 (fun r e he => ?_) h0.idi h0.icr (fun r e he h5 => ?_) (fun r p hp => ?_) (fun r r' p h1 h2 h3 => ?_) h0.iso (fun r r' e e' he he' h1 h2 => ?_) h0.ion (fun r p hp hh => ?_) (fun r r' p c h1 h2 => ?_) (fun r r' p c h1 h2 => ?_) (fun r e p he h5 hl hn h9 hc => ?_) (fun p hp => ?_) (fun p i hp h9 h1 h2 => ?_) (fun p hp h8 => ?_) (fun p j hp h1 h2 h3 h4 => ?_) h0.isl
  · have e1 := hq r e he
    rw [me_fu_ne e1, me_fu_ne e1, me_fu_ne e1, me_fu_ne e1, me_fu_ne e1, me_fu_ne e1]
    have := h0.iel r e he
    exact ⟨this.1, by omega, this.2.2⟩
  · rw [me_fu_ne (hq r e he)]
    exact h0.ice r e he h5
  · have e1 := hr r p hp
    rw [me_fu_ne e1, me_fu_ne e1, me_fu_ne e1, me_fu_ne e1]
    have := h0.iow r p hp
    exact ⟨this.1, by omega, this.2.2⟩
  · rw [me_fu_ne (hr r p h1)] at h3
    exact h0.iun r r' p h1 h2 h3
  · rw [me_fu_ne (hq r e he)]
    exact h0.ifo r r' e e' he he' h1 h2
  · have hpn : ¬ p = np := by
      rcases hp with ⟨e, he, rfl⟩ | ⟨_, _, h9, _⟩ | hp
      · exact hq r e he
      · exact hs p h9
      · exact hr r p hp
    refine me_Vd.cg (me_fu_ne hpn) (me_fu_ne hpn) (me_fu_ne hpn) (h0.ivd r p ?_ hh)
    rcases hp with hp | ⟨h1, h2, h3, h4⟩ | hp
    · exact Or.inl hp
    · unfold me_cr at h1
      rw [me_fu_ne hpn, me_fu_ne hpn] at h1
      rw [me_fu_ne hpn] at h3
      rw [me_fu_ne hpn, me_fu_ne hpn] at h4
      exact Or.inr (Or.inl ⟨h1, by omega, h3, h4⟩)
    · exact Or.inr (Or.inr hp)
  · have e1 := hr r' p h2
    rw [me_fu_ne e1] at h1 ⊢
    exact h0.itl r r' p c h1 h2
  · rw [me_fu_ne (hr r' p h2)]
    exact h0.ihm r r' p c h1 h2
  · have e1 := hs p h9
    unfold me_cr at hc
    rw [me_fu_ne e1, me_fu_ne e1] at hc
    rw [me_fu_ne e1] at h9
    exact h0.ifi r e p he h5 hl (by omega) h9 hc
  · by_cases e1 : p = np
    · subst e1
      rw [me_fu_at]
      exact ⟨fun n hn => by (cases hn), fun _ r c hm => hq r _ hm rfl⟩
    · rw [me_fu_ne e1]
      exact h0.ihd p (by omega)
  · have e1 := hs p h9
    rw [me_fu_ne e1] at h9 h1 h2
    exact h0.iex p i (by omega) h9 h1 h2
  · by_cases e1 : p = np
    · subst e1
      rw [me_fu_at, me_fu_at]
      refine gh_sum0 _ (fun r _ => ?_)
      exact List.countP_eq_zero.mpr (fun e he => by
        have := hq r e he
        simpa using this)
    · rw [me_fu_ne e1] at h8 ⊢
      rw [me_fu_ne e1]
      exact h0.ict p (by omega) h8
  · by_cases e1 : p = np
    · rw [e1, me_fu_at] at h1
      omega
    · have e2 : ¬ j = np := by omega
      rw [me_fu_ne e1] at h1
      rw [me_fu_ne e1, me_fu_ne e2] at h3
      rw [me_fu_ne e1, me_fu_ne e2] at h4
      rw [me_fu_ne e2, me_fu_ne e2, me_fu_ne e2]
      exact h0.ifp p j (by omega) h1 h2 h3 h4
theorem me_IF.mk_new {np : Nat} {kd st : Nat → Int32} {sr bo pt fp : Nat → Nat} (h0 : me_IF np kd st sr bo pt fp) (hf : ∀ b, fp b ≤ np) (k : Int32) (s b : Nat) : me_IF (np + 1) (me_fu kd np k) (me_fu st np 115) (me_fu sr np s) (me_fu bo np b) (me_fu pt np 0) fp := by
  intro n c j h1 h2 h3 h4
  have e : ¬ j = np := by have := hf (2 * n + c); omega
  rw [me_fu_ne e] at h3 h4
  rw [me_fu_ne e, me_fu_ne e, me_fu_ne e]
  exact h0 n c j h1 (by omega) h3 h4
theorem gh_iv0 {a : me_S} (hI : me_Iv a) {k : Int32} {s g : Nat} {w : Int32} {b : Nat} (hk : k = 109 ∨ k = 97) (hr : a.np + 1 + a.ow ≤ 200) (hs : s < a.w * a.h) (hg : g < a.w * a.h) (hb : 1 ≤ b ∧ b ≤ 4) : me_Iv (gh_mk a k s g w b) := by
  have hk3 : ¬ k = 113 := by rcases hk with e | e <;> rw [e] <;> decide
  exact ⟨hI.1, hI.2.1.mk_new (ow' := a.ow) (pl' := me_fu a.pl a.np 0) (by rcases hk with e | e; exact Or.inl e; exact Or.inr (Or.inr e)) (by rw [if_neg hk3]; rfl) hr hs hg hb (fun i hi => by
    rw [me_fu_ap]
    split
    · decide
    · exact hI.2.1.ipl i (by omega)), hI.2.2.1, hI.2.2.2.1, hI.2.2.2.2.1.mk_new k s g b, hI.2.2.2.2.2.1.mk_new hI.2.2.2.2.2.2.2.2 k s b, hI.2.2.2.2.2.2.1, hI.2.2.2.2.2.2.2.1, fun b => Nat.le_succ_of_le (hI.2.2.2.2.2.2.2.2 b)⟩
def gh_mkQ (a : me_S) (s g : Nat) (b pp : Nat) (ad : Int32) : me_S := me_S.s_ad (me_S.s_pl (me_S.s_ow (gh_mk a 113 s g 0 b) (a.ow + 1)) (me_fu (me_fu a.pl a.np 0) a.np pp)) (me_fu (me_fu a.ad a.np 0) a.np ad)
theorem gh_ivQ {a : me_S} (hI : me_Iv a) {s g : Nat} {b pp : Nat} {ad : Int32} (hr : a.np + 2 + a.ow ≤ 200) (hs : s < a.w * a.h) (hg : g < a.w * a.h) (hb : 1 ≤ b ∧ b ≤ 4) (hp : pp < 8) : me_Iv (gh_mkQ a s g b pp ad) := by
  exact ⟨hI.1, hI.2.1.mk_new (ow' := a.ow + 1) (pl' := me_fu (me_fu a.pl a.np 0) a.np pp) (Or.inr (Or.inl rfl)) (by rw [if_pos rfl]) (by omega) hs hg hb (fun i hi => by
    rw [me_fu_ap]
    split
    · exact hp
    · rw [me_fu_ap]
      split
      · decide
      · exact hI.2.1.ipl i (by omega)), hI.2.2.1, hI.2.2.2.1, hI.2.2.2.2.1.mk_new 113 s g b, hI.2.2.2.2.2.1.mk_new hI.2.2.2.2.2.2.2.2 113 s b, hI.2.2.2.2.2.2.1, hI.2.2.2.2.2.2.2.1, fun b => Nat.le_succ_of_le (hI.2.2.2.2.2.2.2.2 b)⟩
