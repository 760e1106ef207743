/-! A ROUND of the law: who sleeps, the send, the way, the end -/
def gw_I (n : Nat) (x : Bool) (w h : Nat) (a : me_S) : Prop :=
  (gw_Q a) ∧
  (a.np = n) ∧
  (a.ow = 0) ∧
  (∀ i, i < n → a.st i = 114) ∧
  (∀ i, i < n → a.kd i = 109) ∧
  (∀ k i, a.mm k i = 0) ∧
  (a.wy = if x = true then 120 else 121) ∧
  (a.w = w ∧ a.h = h)
theorem gw_I.iq {n : Nat} {x : Bool} {w h : Nat} {a : me_S} (hyp : gw_I n x w h a) : gw_Q a := hyp.1
theorem gw_I.inp {n : Nat} {x : Bool} {w h : Nat} {a : me_S} (hyp : gw_I n x w h a) : a.np = n := hyp.2.1
theorem gw_I.iow {n : Nat} {x : Bool} {w h : Nat} {a : me_S} (hyp : gw_I n x w h a) : a.ow = 0 := hyp.2.2.1
theorem gw_I.ist {n : Nat} {x : Bool} {w h : Nat} {a : me_S} (hyp : gw_I n x w h a) : ∀ i, i < n → a.st i = 114 := hyp.2.2.2.1
theorem gw_I.ikd {n : Nat} {x : Bool} {w h : Nat} {a : me_S} (hyp : gw_I n x w h a) : ∀ i, i < n → a.kd i = 109 := hyp.2.2.2.2.1
theorem gw_I.imm {n : Nat} {x : Bool} {w h : Nat} {a : me_S} (hyp : gw_I n x w h a) : ∀ k i, a.mm k i = 0 := hyp.2.2.2.2.2.1
theorem gw_I.iwy {n : Nat} {x : Bool} {w h : Nat} {a : me_S} (hyp : gw_I n x w h a) : a.wy = if x = true then 120 else 121 := hyp.2.2.2.2.2.2.1
theorem gw_I.iwh {n : Nat} {x : Bool} {w h : Nat} {a : me_S} (hyp : gw_I n x w h a) : a.w = w ∧ a.h = h := hyp.2.2.2.2.2.2.2
theorem gw_I.mk {n : Nat} {x : Bool} {w h : Nat} {a : me_S} (iq : gw_Q a) (inp : a.np = n) (iow : a.ow = 0) (ist : ∀ i, i < n → a.st i = 114) (ikd : ∀ i, i < n → a.kd i = 109) (imm : ∀ k i, a.mm k i = 0) (iwy : a.wy = if x = true then 120 else 121) (iwh : a.w = w ∧ a.h = h) : gw_I n x w h a := ⟨iq, inp, iow, ist, ikd, imm, iwy, iwh⟩
theorem gl_bi1 (b : Bool) : (if b = true then (1 : Int32) else 0) = me_bi b := rfl
section GlRound
variable {sL : Nat} {xs : Nat → Int32} {K187 : me_M → Int32 → Int32 → Int32 → Int32 → Int32 → Int32 → Option (me_M × Int32)} {x : Bool} {w h n : Nat} {v8 v9 v10 v11 v12 : Int32}
theorem gl_h259 (hL : sL ≤ 260) (hn : n < 4) (h0 : 0 < w * h) (h16 : w * h ≤ 16) {v7 : Int32} : ∀ (d f k : Nat) (a : me_S) (μ : me_M), k + d = 3 → d < f → gb_S a μ → gw_I n x w h a → ∃ μ' a', f_L_law_h259 sL xs K187 f μ (me_N w) (me_N (w * h)) (me_bi x) 1 v7 (me_N n) v9 v10 v11 v12 0 (me_N k) = f_L_law_h351 sL xs K187 me_F351 μ' (me_N w) (me_N (w * h)) (me_bi x) 1 v7 (me_N n) v9 v10 v11 v12 0 (me_N 0) ∧ gb_S a' μ' ∧ gw_I n x w h a' ∧ a'.bt = a.bt := by
  intro d
  induction d with
  | zero =>
    intro f k a μ h1 h2 hS hI
    obtain ⟨f, rfl⟩ : ∃ k, f = k + 1 := ⟨f - 1, by omega⟩
    refine ⟨μ, a, ?_, hS, hI, rfl⟩
    show f_L_law_b259 _ _ _ _ _ _ _ _ _ _ _ _ _ _ _ _ _ = _
    unfold f_L_law_b259
    rw [show k = 3 by omega, if_pos (by decide)]
    rfl
  | succ d ih =>
    intro f k a μ h1 h2 hS hI
    obtain ⟨f, rfl⟩ : ∃ k, f = k + 1 := ⟨f - 1, by omega⟩
    obtain ⟨m, hm, e1⟩ := gw_in (L := sL) (xs := xs) (m := 50 + 3 * n + k) (n := w * h) hL (by omega) h0 (by omega) μ
    obtain ⟨r, hr, e2⟩ := gw_in (L := sL) (xs := xs) (m := 70 + 3 * n + k) (n := 2) hL (by omega) (by decide) (by decide) μ
    have hm' : m < a.w * a.h := by rw [hI.iwh.1, hI.iwh.2]; exact hm
    have c1 : (((50 : Int32) + ((3 : Int32) * me_N n)) + me_N k) = me_N (50 + 3 * n + k) := by
      rw [show (50 : Int32) = me_N 50 from rfl, me_N_3, me_N_mul, me_N_add, me_N_add]
    have c2 : (((70 : Int32) + ((3 : Int32) * me_N n)) + me_N k) = me_N (70 + 3 * n + k) := by
      rw [show (70 : Int32) = me_N 70 from rfl, me_N_3, me_N_mul, me_N_add, me_N_add]
    have e2 : f_L_in sL xs μ (me_N (70 + 3 * n + k)) (2 : Int32) = some (me_N r) := e2
    have e3 := gl_awake hS hm'
    obtain ⟨μ1, e4, e5, e6⟩ := gl_sleep hS hI.iq.qco hm' hI.iq.qq hI.iq.qro
    have hI1 : gw_I n x w h (me_S.s_aw a (me_fu a.aw m false)) := gw_I.mk (hI.iq.aw _) hI.inp hI.iow hI.ist hI.ikd hI.imm hI.iwy hI.iwh
    obtain ⟨μa, aa, g1, g2, g3, g4⟩ := ih f (k + 1) a μ (by omega) (by omega) hS hI
    obtain ⟨μb, ab, k1, k2, k3, k4⟩ := ih f (k + 1) _ μ1 (by omega) (by omega) e5 hI1
    have b1 : f_L_law_b306 sL xs K187 (f_L_law_h259 sL xs K187 f) μ (me_N w) (me_N (w * h)) (me_bi x) 1 v7 (me_N n) v9 v10 v11 v12 0 (me_N k) (me_N m) (0 : Int32) = f_L_law_h259 sL xs K187 f μ (me_N w) (me_N (w * h)) (me_bi x) 1 v7 (me_N n) v9 v10 v11 v12 0 (me_N (k + 1)) := by
      unfold f_L_law_b306
      rw [e3, me_b2_s, if_pos rfl, me_lt_s, gl_and1, me_N_inc, me_lt_s]
    have b2 : f_L_law_b306 sL xs K187 (f_L_law_h259 sL xs K187 f) μ (me_N w) (me_N (w * h)) (me_bi x) 1 v7 (me_N n) v9 v10 v11 v12 0 (me_N k) (me_N m) (1 : Int32) = f_L_law_h259 sL xs K187 f μ1 (me_N w) (me_N (w * h)) (me_bi x) 1 v7 (me_N n) v9 v10 v11 v12 0 (me_N (k + 1)) := by
      unfold f_L_law_b306
      rw [e3, me_b2_s, if_neg (by decide), e4, me_b2_s, if_pos rfl, me_lt_s, gl_and1, me_N_inc, me_lt_s]
    have hstep : f_L_law_h259 sL xs K187 (f + 1) μ (me_N w) (me_N (w * h)) (me_bi x) 1 v7 (me_N n) v9 v10 v11 v12 0 (me_N k) = if me_N r = 0 then f_L_law_h259 sL xs K187 f μ1 (me_N w) (me_N (w * h)) (me_bi x) 1 v7 (me_N n) v9 v10 v11 v12 0 (me_N (k + 1)) else f_L_law_h259 sL xs K187 f μ (me_N w) (me_N (w * h)) (me_bi x) 1 v7 (me_N n) v9 v10 v11 v12 0 (me_N (k + 1)) := by
      show f_L_law_b259 _ _ _ _ _ _ _ _ _ _ _ _ _ _ _ _ _ = _
      unfold f_L_law_b259
      rw [if_neg (by rw [me_N_3, me_N_le (by omega) (by omega)]; omega), c1, e1, me_bd_s, c2, e2, me_bd_s, b1, b2]
    rw [hstep]
    by_cases e : me_N r = 0
    · rw [if_pos e]
      exact ⟨μb, ab, k1, k2, k3, k4⟩
    · rw [if_neg e]
      exact ⟨μa, aa, g1, g2, g3, g4⟩
theorem gl_h351 {a : me_S} {s : Nat} {v7 : Int32} (hN : a.w * a.h = w * h) (hs : s < w * h) : ∀ (d f k : Nat) (μ : me_M), k + d = w * h → d < f → gb_S a μ → (∀ k', k' < k → μ (36 + w * h) 0 k' = me_bi (!a.aw k')) → ∃ μ', f_L_law_h351 sL xs K187 f μ (me_N w) (me_N (w * h)) (me_bi x) 1 v7 v8 (me_N s) v10 v11 v12 0 (me_N k) = f_L_law_h405 sL xs K187 me_F405 μ' (me_N w) (me_N (w * h)) (me_bi x) 1 v7 v8 (me_N s) v10 v11 v12 (me_N (if a.aw s = true then 0 else 1)) (me_N s) ∧ gb_S a μ' ∧ gl_A (w * h) a.aw μ' := by
  intro d
  induction d with
  | zero =>
    intro f k μ h1 h2 hS hA
    have hwh := hS.2.1.wh
    obtain ⟨f, rfl⟩ : ∃ k, f = k + 1 := ⟨f - 1, by omega⟩
    have hA' : gl_A (w * h) a.aw μ := fun k' hk' => hA k' (by omega)
    refine ⟨μ, ?_, hS, hA'⟩
    show f_L_law_b351 _ _ _ _ _ _ _ _ _ _ _ _ _ _ _ _ _ = _
    unfold f_L_law_b351
    have hix : me_ix (me_N (w * h)) = w * h := me_N_ix (by omega)
    rw [if_pos (by rw [me_N_le (by omega) (by omega)]; omega), hix, me_gd_n (by omega) hs, me_N_ix (by omega), hA' s hs]
    cases a.aw s with
    | true => rw [if_pos (by rfl), if_pos rfl]; rfl
    | false => rw [if_neg (by decide), if_neg (by decide)]; rfl
  | succ d ih =>
    intro f k μ h1 h2 hS hA
    have hwh := hS.2.1.wh
    obtain ⟨f, rfl⟩ : ∃ k, f = k + 1 := ⟨f - 1, by omega⟩
    have hix : me_ix (me_N (w * h)) = w * h := me_N_ix (by omega)
    have e3 := gl_awake hS (n := k) (by omega)
    obtain ⟨μ', g1, g2, g3⟩ := ih f (k + 1) (me_up μ (36 + w * h) 0 k (me_bi (!a.aw k))) (by omega) (by omega) (hS.co_ (fun k' hk' => by funext i j; rw [me_up_kn (by omega)])) (fun k' hk' => by
      rw [me_up_ap]
      by_cases e : k' = k
      · rw [if_pos ⟨rfl, rfl, e⟩, e]
      · rw [if_neg (fun q => e q.2.2)]
        exact hA k' (by omega))
    refine ⟨μ', ?_, g2, g3⟩
    rw [← g1]
    show f_L_law_b351 _ _ _ _ _ _ _ _ _ _ _ _ _ _ _ _ _ = _
    unfold f_L_law_b351
    rw [if_neg (by rw [me_N_le (by omega) (by omega)]; omega), e3, me_b2_s, hix, me_gd_n (by omega) (by omega), me_N_ix (by omega), me_N_inc, me_lt_s, me_lt_s, me_gd_n (by omega) (by omega), me_lt_s, me_lt_s]
    cases a.aw k with
    | true => rw [if_neg (by decide)]; rfl
    | false => rw [if_pos (by rfl)]; rfl
theorem gl_h405 {s g D : Nat} {wn wd : Nat → Nat} {al : Nat → Bool} {μ : me_M} {v7 : Int32} (hwh : w * h ≤ 16) (hw : w < 5) (hh : h < 5) (hg : g < w * h) (hW : gw_W x w h s g D wn wd) (hA : gl_A (w * h) al μ) : ∀ (d f j acc : Nat), j + d = D → d < f → ∃ f', f_L_law_h405 sL xs K187 f μ (me_N w) (me_N (w * h)) (me_bi x) 1 v7 v8 v9 (me_N g) v11 v12 (me_N acc) (me_N (wn j)) = f_L_law_h405 sL xs K187 (f' + 1) μ (me_N w) (me_N (w * h)) (me_bi x) 1 v7 v8 v9 (me_N g) v11 v12 (me_N (acc + gw_A wn al (j + 1) d)) (me_N g) := by
  intro d
  induction d with
  | zero =>
    intro f j acc h1 h2
    obtain ⟨f, rfl⟩ : ∃ k, f = k + 1 := ⟨f - 1, by omega⟩
    exact ⟨f, by rw [show j = D by omega, hW.wD]; rfl⟩
  | succ d ih =>
    intro f j acc h1 h2
    obtain ⟨f, rfl⟩ : ∃ k, f = k + 1 := ⟨f - 1, by omega⟩
    obtain ⟨e1, e2⟩ := gl_next (μ := μ) hW hw hh hg (j := j) (by omega)
    have hix : me_ix (me_N (w * h)) = w * h := me_N_ix (by omega)
    have hl := hW.wl j (by omega)
    have hl1 := hW.wl (j + 1) (by omega)
    obtain ⟨f', g1⟩ := ih f (j + 1) (acc + (if al (wn (j + 1)) = true then 0 else 1)) (by omega) (by omega)
    refine ⟨f', ?_⟩
    have eA : gw_A wn al (j + 1) (d + 1) = (if al (wn (j + 1)) = true then 0 else 1) + gw_A wn al (j + 1 + 1) d := rfl
    rw [eA, ← Nat.add_assoc, ← g1]
    show f_L_law_b405 _ _ _ _ _ _ _ _ _ _ _ _ _ _ _ _ _ = _
    unfold f_L_law_b405
    rw [if_neg (by rw [me_N_inj (by omega) (by omega)]; exact e2), e1, me_bd_s, hix, me_gd_n (by omega) hl1, me_N_ix (by omega), hA _ hl1, me_lt_s, me_lt_s]
    cases al (wn (j + 1)) with
    | true => rw [if_pos (by rfl), if_pos rfl, show (0 : Int32) = me_N 0 from rfl, me_N_add]
    | false => rw [if_neg (by decide), if_neg (by decide), show (1 : Int32) = me_N 1 from rfl, me_N_add]
theorem gl_dsT : ∀ w, w < 5 → ∀ h, h < 5 → ∀ n, n < w * h → ∀ g, g < w * h → me_ds w n g ≤ 6 := by decide +kernel
theorem gl_Ale {wn : Nat → Nat} {al : Nat → Bool} : ∀ (d k : Nat), gw_A wn al k d ≤ d := by
  intro d
  induction d with
  | zero => intro k; exact Nat.le_refl _
  | succ d ih =>
    intro k
    have h1 := ih (k + 1)
    show (if al (wn k) = true then 0 else 1) + gw_A wn al (k + 1) d ≤ d + 1
    split <;> omega
end GlRound
