/-! FROM THE ROWS OF whole that speak of the class alone, more of them (taken out by gen/extract.py) -/
theorem me_nr_z : me_nr .boolean 0 = true := by decide +kernel
theorem me_nr_o : me_nr .boolean 1 = true := by decide +kernel
theorem me_sm_le {g : Nat → Nat} {c : Nat} (h : ∀ i, g i ≤ c) : ∀ (d i : Nat), me_sm g i d ≤ c * d := by
  intro d
  induction d with
  | zero => intro i; exact Nat.zero_le _
  | succ d ih =>
    intro i
    show g i + me_sm g (i + 1) d ≤ c * (d + 1)
    have h1 := h i
    have h2 := ih (i + 1)
    rw [Nat.mul_add]
    omega
theorem me_sm_cg {g g' : Nat → Nat} : ∀ (d i : Nat), (∀ j, i ≤ j → j < i + d → g j = g' j) → me_sm g i d = me_sm g' i d := by
  intro d
  induction d with
  | zero => intro i _; rfl
  | succ d ih =>
    intro i h
    show g i + me_sm g (i + 1) d = g' i + me_sm g' (i + 1) d
    rw [h i (Nat.le_refl _) (by omega), ih (i + 1) (fun j h1 h2 => h j (by omega) (by omega))]
theorem gh_fl_ok {a : me_S} {n s : Nat} : ∀ (d i : Nat) (b : Option Nat), i + d = a.np → (∀ j, b = some j → j < a.np ∧ gh_ly a n s j) → ∀ j, gh_fl a n s i d b = some j → j < a.np ∧ gh_ly a n s j := by
  intro d
  induction d with
  | zero => intro i b _ hb j hj; exact hb j hj
  | succ d ih =>
    intro i b h1 hb j hj
    by_cases h : gh_ly a n s i
    · rw [gh_fl_p h] at hj
      refine ih (i + 1) _ (by omega) (fun k hk => ?_) j hj
      cases b with
      | none =>
        cases hk
        exact ⟨by omega, h⟩
      | some m =>
        dsimp only at hk
        split at hk
        · exact hb k hk
        · cases hk; exact ⟨by omega, h⟩
    · rw [gh_fl_n h] at hj
      exact ih (i + 1) b (by omega) hb j hj
/-- a state that is none of a packet in a row may change -/
theorem me_Wm.st_ch {w h np : Nat} {kd st st' : Nat → Int32} {sr gl bo pt tk : Nat → Nat} {hd : Nat → Option Nat} {q : Nat → List (Nat × Nat × Nat)} {ro rh : Nat → Option Nat} {aw : Nat → Bool} (h0 : me_Wm w h np kd st sr gl bo pt tk hd q ro rh aw) (h1 : ∀ i, st' i = 119 ↔ st i = 119) (h2 : ∀ i, st' i = 108 ↔ st i = 108) : me_Wm w h np kd st' sr gl bo pt tk hd q ro rh aw :=
  me_Wm.mk h0.in4 (fun r e he => by have := h0.iel r e he; exact ⟨this.1, this.2.1, (h1 _).mpr this.2.2.1, this.2.2.2⟩) h0.idi h0.icr h0.ice (fun r p hp => by have := h0.iow r p hp; exact ⟨this.1, this.2.1, (h1 _).mpr this.2.2.1, this.2.2.2⟩) h0.iun h0.iso h0.ifo h0.ion (fun r p hp hh => h0.ivd r p (by
    rcases hp with hp | ⟨q1, q2, q3, q4⟩ | hp
    · exact Or.inl hp
    · exact Or.inr (Or.inl ⟨q1, q2, (h1 _).mp q3, q4⟩)
    · exact Or.inr (Or.inr hp)) hh) h0.itl h0.ihm (fun r e p he hr hp hn hs hc => h0.ifi r e p he hr hp hn ((h1 _).mp hs) hc) h0.ihd (fun p i hp hs => h0.iex p i hp ((h1 _).mp hs)) (fun p hp hs => h0.ict p hp (fun q => hs ((h2 _).mpr q))) (fun p j hp h3 h4 h5 h6 => by
    rcases h0.ifp p j hp h3 h4 h5 h6 with e | e
    · exact Or.inl e
    · exact Or.inr ((h2 _).mpr e)) h0.isl
theorem gh_b64f : FP.Core.b32.tails = 8388608 ∧ FP.Core.b32.exps = 256 ∧ 2 ^ FP.Core.b32.p = 16777216 ∧ FP.Core.b32.qmin = -149 ∧ FP.Core.b32.qmax = 104 := by decide +kernel
theorem gh_decf {n : Nat} (h : n % 2147483648 ≤ 2139095040) : ¬ FP.Core.decode FP.Core.b32 n = .nan := by
  obtain ⟨e1, e2, e3, e4, e5⟩ := gh_b64f
  unfold FP.Core.decode FP.Core.fieldE FP.Core.fieldT
  rw [e1, e2]
  intro q
  split at q
  · split at q
    · cases q
    · omega
  · split at q <;> cases q
theorem gh_n32 {r : UInt32} (h : me_n32 r = true) : ¬ FP.Core.decode FP.Core.b32 r.toNat = .nan := by
  unfold me_n32 at h
  rw [decide_eq_true_eq, UInt32.le_iff_toNat_le, UInt32.toNat_and, show (0x7fffffff : UInt32).toNat = 2 ^ 31 - 1 from rfl, Nat.and_two_pow_sub_one_eq_mod] at h
  exact gh_decf h
theorem me_sm_l1 {g : Nat → Nat} (h : ∀ i, g i ≤ 1) (d i : Nat) : me_sm g i d ≤ d := by
  have := me_sm_le h d i
  omega
theorem gh_lo1 (a : me_S) (i : Nat) : gh_lo a i ≤ 1 := by unfold gh_lo; split <;> omega
theorem gh_cnt {P : Nat → Bool} : ∀ (d i : Nat), me_sm (fun k => if P k = true then 1 else 0) i d = (List.range' i d).countP P := by
  intro d
  induction d with
  | zero => intro i; rfl
  | succ d ih =>
    intro i
    show (if P i = true then 1 else 0) + me_sm _ (i + 1) d = _
    rw [ih, List.range'_succ, List.countP_cons, Nat.add_comm]
theorem gh_ow {a : me_S} (hI : me_Iv a) : me_sm (fun k => if me_qs a.kd a.st k = true then 1 else 0) 0 a.np = a.ow := by
  rw [gh_cnt, hI.2.1.iow, List.range_eq_range']
theorem me_sm_add {g h : Nat → Nat} : ∀ (d i : Nat), me_sm (fun k => g k + h k) i d = me_sm g i d + me_sm h i d := by
  intro d
  induction d with
  | zero => intro i; rfl
  | succ d ih =>
    intro i
    show g i + h i + me_sm (fun k => g k + h k) (i + 1) d = g i + me_sm g (i + 1) d + (h i + me_sm h (i + 1) d)
    rw [ih]
    omega
theorem me_fu_id {α : Type} {f : Nat → α} {i : Nat} {v : α} (h : f i = v) : me_fu f i v = f := by
  funext j
  rw [me_fu_ap]
  by_cases e : j = i
  · rw [if_pos e, e]
    exact h.symm
  · rw [if_neg e]
theorem me_fu_cm {α : Type} {f : Nat → α} {i j : Nat} {u v : α} (h : ¬ i = j) : me_fu (me_fu f i u) j v = me_fu (me_fu f j v) i u := by
  funext x
  rw [me_fu_ap, me_fu_ap, me_fu_ap, me_fu_ap]
  by_cases e : x = j
  · rw [if_pos e, if_pos e, if_neg (fun q => h (q.symm.trans e))]
  · rw [if_neg e, if_neg e]
theorem me_inc_m1 {x : Int32} : me_inc x (-1) = x - 1 := by
  unfold me_inc
  rw [show Int32.ofInt (-1) = -1 from rfl, Int32.sub_eq_add_neg]
theorem gh_w1_0 {a : me_S} {W : Nat → Bool} : me_Eq a (gh_w1 a W 0) := by
  have e1 : a.aw = fun n => a.aw n || (decide (n < 0) && W n) := funext fun n => by rw [decide_eq_false (Nat.not_lt_zero n), Bool.false_and, Bool.or_false]
  exact ⟨rfl, rfl, rfl, rfl, rfl, rfl, rfl, rfl, rfl, rfl, rfl, rfl, rfl, rfl, rfl, rfl, rfl, rfl, rfl, rfl, rfl, rfl, rfl, rfl, rfl, rfl, rfl, rfl, e1, rfl, rfl, rfl, rfl, rfl, rfl, rfl, rfl, rfl, rfl, rfl, rfl⟩
theorem me_sm_one {f g : Nat → Nat} {r : Nat} (hx : ∀ x, ¬ x = r → f x = g x) : ∀ d i, i ≤ r → r < i + d → me_sm f i d + g r = me_sm g i d + f r := by
  intro d
  induction d with
  | zero => intro i h1 h2; omega
  | succ d ih =>
    intro i h1 h2
    show f i + me_sm f (i + 1) d + g r = g i + me_sm g (i + 1) d + f r
    by_cases e : r = i
    · rw [e, me_sm_cg (g := f) (g' := g) d (i + 1) (fun j a b => hx j (by omega))]
      omega
    · have := ih (i + 1) (by omega) (by omega)
      have := hx i (fun q => e q.symm)
      omega
