/-! beat by beat: no holes behind the head, the head goes on, the core takes a piece in each beat -/
/-- no row behind the head is empty before the last piece has gone by -/
def gw_N (b D : Nat) (u : Nat → Nat) : Prop := ∀ j, j ≤ D → 1 ≤ u j → u (j + 1) < u j ∨ u (j + 1) = b + 1
/-- routers that sleep among n of the way, from the one with number k on -/
def gw_A (wn : Nat → Nat) (al : Nat → Bool) : Nat → Nat → Nat
  | _, 0 => 0
  | k, n + 1 => (if al (wn k) = true then 0 else 1) + gw_A wn al (k + 1) n
section GwT
variable {a a' : me_S} {u u' : Nat → Nat} {x : Bool} {p c s g b D : Nat} {wn wd : Nat → Nat} {W al : Nat → Bool} {rem j : Nat}
theorem gw_le (hT : gw_T s b D u u' a.aw W wn) (j : Nat) (hj : j ≤ D + 1) : u j ≤ u' j := by
  cases j with
  | zero =>
    by_cases h : u 0 ≤ b
    · rcases hT.tP h with ⟨e, -⟩ | ⟨e, -⟩ | ⟨e, -⟩ <;> omega
    · rw [hT.tP2 h]
      exact Nat.le_refl _
  | succ j =>
    rcases hT.tR j (by omega) with ⟨e, -⟩ | ⟨e, -⟩ <;> omega
theorem gw_N.step (hM : gw_M a u u x p c s g b D wn wd) (hM' : gw_M a' u' u' x p c s g b D wn wd) (hT : gw_T s b D u u' a.aw W wn) (hN : gw_N b D u) : gw_N b D u' := by
  intro j hj h1
  have hle := gw_le hT
  have han := hM.anti
  have hlj := hle j (by omega)
  have hu0 := hM.mu0
  have huj := han j 0 (Nat.zero_le _) (by omega)
  rcases hT.tR j hj with ⟨e1, e2, -⟩ | ⟨e1, -⟩
  · by_cases q : u (j + 1) + 1 < u j
    · left
      omega
    · by_cases qb : u j = b + 1
      · right
        omega
      · left
        cases j with
        | zero =>
          rcases hT.tP (by omega) with ⟨r, -⟩ | ⟨r, r2, -⟩ | ⟨r, -, r2⟩
          · omega
          · have := hM.maw 0 (Nat.zero_le _) (by omega)
            rw [hM.mW.w0, r2] at this
            cases this
          · have r2 : u' 1 + 2 ≤ u 0 := r2
            have e1 : u' 1 = u 1 + 1 := e1
            have q : ¬ u 1 + 1 < u 0 := q
            omega
        | succ i =>
          have hi := han (i + 1) i (by omega) (by omega)
          rcases hN i (by omega) (by omega) with r | r
          · rcases hT.tR i (by omega) with ⟨r1, -⟩ | ⟨-, r1 | ⟨-, r1, -⟩ | ⟨-, r1⟩⟩ <;> omega
          · omega
  · by_cases q : 1 ≤ u j
    · rcases hN j hj q with r | r
      · left
        omega
      · right
        omega
    · have := han (j + 1) j (by omega) (by omega)
      left
      omega
def gw_P0 (a : me_S) (u : Nat → Nat) (s b D : Nat) (wn : Nat → Nat) (al : Nat → Bool) (rem : Nat) : Prop := u 0 = 0 ∧ (∀ m, 1 ≤ m → m ≤ D → a.aw (wn m) = al (wn m)) ∧ rem = (if a.aw s = true then 0 else 1) + D + gw_A wn al 1 D + b + 2
def gw_P1 (a : me_S) (u : Nat → Nat) (b D : Nat) (wn : Nat → Nat) (al : Nat → Bool) (j rem : Nat) : Prop := j ≤ D ∧ 1 ≤ u j ∧ u (j + 1) = 0 ∧ (∀ m, j + 2 ≤ m → m ≤ D → a.aw (wn m) = al (wn m)) ∧ rem = (D - j) + (if j < D ∧ a.aw (wn (j + 1)) = false then 1 else 0) + gw_A wn al (j + 2) (D - (j + 1)) + b + 1
def gw_P2 (u : Nat → Nat) (b D rem : Nat) : Prop := 1 ≤ u (D + 1) ∧ rem + u (D + 1) = b + 1
theorem gw_zero (hM : gw_M a u u x p c s g b D wn wd) {i : Nat} (hi : i ≤ D + 1) (h : u i = 0) {m : Nat} (h1 : i ≤ m) (h2 : m ≤ D + 1) : u m = 0 := by
  have := hM.anti m i h1 h2
  omega
/-- a row ahead of the head stays empty -/
theorem gw_zero' (hM : gw_M a u u x p c s g b D wn wd) (hT : gw_T s b D u u' a.aw W wn) {i : Nat} (hi : i ≤ D) (h : u i = 0) : u' (i + 1) = 0 := by
  have h2 := gw_zero hM (by omega) h (show i ≤ i + 1 by omega) (by omega)
  rcases hT.tR i hi with ⟨e1, e2, -⟩ | ⟨e1, -⟩ <;> omega
theorem gw_aw1 (haw : ∀ n, a'.aw n = (a.aw n || (decide (n < a.w * a.h) && W n))) {n : Nat} (h : W n = false) : a'.aw n = a.aw n := by
  rw [haw, h, Bool.and_false, Bool.or_false]
theorem gw_aw2 (haw : ∀ n, a'.aw n = (a.aw n || (decide (n < a.w * a.h) && W n))) {n : Nat} (hn : n < a.w * a.h) (h : W n = true) : a'.aw n = true := by
  rw [haw, h, decide_eq_true hn, Bool.and_true, Bool.or_true]
theorem gw_aw3 (haw : ∀ n, a'.aw n = (a.aw n || (decide (n < a.w * a.h) && W n))) {n : Nat} (h : a.aw n = true) : a'.aw n = true := by
  rw [haw, h, Bool.true_or]
theorem gw_Wn (hT : gw_T s b D u u' a.aw W wn) {n : Nat} (h1 : ∀ j, j < D → u (j + 1) = 0 → 1 ≤ u j → ¬ n = wn (j + 1)) (h2 : ¬ (n = s ∧ u 0 ≤ b ∧ a.aw s = false)) : W n = false := by
  cases h : W n with
  | false => rfl
  | true =>
    rcases hT.tW n h with ⟨j, q1, q2, q3, q4⟩ | q
    · exact absurd q2 (h1 j q1 q3 q4)
    · exact absurd q h2
theorem gw_t0w (hM : gw_M a u u x p c s g b D wn wd) (hT : gw_T s b D u u' a.aw W wn) (haw : ∀ n, a'.aw n = (a.aw n || (decide (n < a.w * a.h) && W n))) (hP : gw_P0 a u s b D wn al rem) (h : a.aw s = false) : 1 ≤ rem ∧ gw_P0 a' u' s b D wn al (rem - 1) ∧ a'.aw s = true := by
  obtain ⟨p1, p2, p3⟩ := hP
  have hs := hM.mW.wl 0 (Nat.zero_le _)
  rw [hM.mW.w0] at hs
  rw [h, if_neg (by decide)] at p3
  have e : u' 0 = 0 ∧ W s = true := by
    rcases hT.tP (by omega) with ⟨-, q⟩ | ⟨q1, -, q2⟩ | ⟨-, q, -⟩
    · rw [h] at q; cases q
    · exact ⟨by omega, q2⟩
    · rw [h] at q; cases q
  have ha := gw_aw2 haw hs e.2
  refine ⟨by omega, ⟨e.1, fun m h1 h2 => ?_, by rw [ha, if_pos rfl]; omega⟩, ha⟩
  rw [gw_aw1 haw (gw_Wn hT (fun j q1 q2 q3 => ?_) (fun q => ?_))]
  · exact p2 m h1 h2
  · have := hM.anti j 0 (Nat.zero_le _) (by omega)
    omega
  · have := hM.mW.wi m 0 h2 (Nat.zero_le _) (by rw [hM.mW.w0]; exact q.1)
    omega
theorem gw_t0 (hM : gw_M a u u x p c s g b D wn wd) (hT : gw_T s b D u u' a.aw W wn) (haw : ∀ n, a'.aw n = (a.aw n || (decide (n < a.w * a.h) && W n))) (hP : gw_P0 a u s b D wn al rem) (h : a.aw s = true) : 1 ≤ rem ∧ gw_P1 a' u' b D wn al 0 (rem - 1) ∧ (0 < D → a'.aw (wn 1) = al (wn 1)) := by
  obtain ⟨p1, p2, p3⟩ := hP
  rw [h, if_pos rfl] at p3
  have hb := hM.mb
  have e : u' 0 = 1 := by
    rcases hT.tP (by omega) with ⟨q, -⟩ | ⟨-, q, -⟩ | ⟨-, -, q⟩
    · omega
    · rw [h] at q; cases q
    · omega
  have hW : ∀ n, W n = false := fun n => gw_Wn hT (fun j q1 q2 q3 => by
    have := hM.anti j 0 (Nat.zero_le _) (by omega)
    omega) (fun q => by rw [h] at q; cases q.2.2)
  have h1 : 0 < D → a'.aw (wn 1) = al (wn 1) := fun q => by
    rw [gw_aw1 haw (hW _)]
    exact p2 1 (by omega) (by omega)
  refine ⟨by omega, ⟨Nat.zero_le _, by omega, gw_zero' hM hT (Nat.zero_le _) p1, fun m q1 q2 => ?_, ?_⟩, h1⟩
  · rw [gw_aw1 haw (hW _)]
    exact p2 m (by omega) q2
  · by_cases hD : 0 < D
    · obtain ⟨D', rfl⟩ : ∃ D', D = D' + 1 := ⟨D - 1, by omega⟩
      have e2 : gw_A wn al 1 (D' + 1) = (if al (wn 1) = true then 0 else 1) + gw_A wn al (0 + 2) (D' + 1 - (0 + 1)) := rfl
      rw [e2] at p3
      have h1 := h1 hD
      have h1' : a'.aw (wn (0 + 1)) = al (wn 1) := h1
      rw [h1']
      cases q : al (wn 1) with
      | true =>
        rw [q, if_pos rfl] at p3
        rw [if_neg (fun r => by cases r.2)]
        omega
      | false =>
        rw [q, if_neg (by decide)] at p3
        rw [if_pos ⟨hD, rfl⟩]
        omega
    · have hD0 : D = 0 := by omega
      subst hD0
      rw [if_neg (fun r => absurd r.1 (by decide))]
      have e2 : gw_A wn al 1 0 = 0 := rfl
      have e3 : gw_A wn al (0 + 2) (0 - (0 + 1)) = 0 := rfl
      rw [e2] at p3
      rw [e3]
      omega
theorem gw_t1w (hM : gw_M a u u x p c s g b D wn wd) (hM' : gw_M a' u' u' x p c s g b D wn wd) (hT : gw_T s b D u u' a.aw W wn) (haw : ∀ n, a'.aw n = (a.aw n || (decide (n < a.w * a.h) && W n))) (hP : gw_P1 a u b D wn al j rem) (hj : j < D) (h : a.aw (wn (j + 1)) = false) : 1 ≤ rem ∧ gw_P1 a' u' b D wn al j (rem - 1) ∧ a'.aw (wn (j + 1)) = true := by
  obtain ⟨p1, p2, p3, p4, p5⟩ := hP
  rw [if_pos ⟨hj, h⟩] at p5
  have e : u' (j + 1) = 0 ∧ W (wn (j + 1)) = true := by
    rcases hT.tR j p1 with ⟨q1, q2, q3⟩ | ⟨q1, q2 | ⟨-, -, -, q2⟩ | ⟨-, q2⟩⟩
    · rw [h] at q3; cases q3 hj
    · omega
    · exact ⟨by omega, q2⟩
    · omega
  have ha := gw_aw2 haw (hM.mW.wl (j + 1) (by omega)) e.2
  have hle := gw_le hT j (by omega)
  refine ⟨by omega, ⟨p1, by omega, e.1, fun m q1 q2 => ?_, by rw [ha, if_neg (fun r => by cases r.2)]; omega⟩, ha⟩
  rw [gw_aw1 haw (gw_Wn hT (fun i r1 r2 r3 r4 => ?_) (fun r => ?_))]
  · exact p4 m q1 q2
  · have := hM.mW.wi m (i + 1) q2 (by omega) r4
    have := gw_zero hM (i := j + 1) (by omega) p3 (m := i) (by omega) (by omega)
    omega
  · have := hM.mW.wi m 0 q2 (Nat.zero_le _) (by rw [hM.mW.w0]; exact r.1)
    omega
theorem gw_t1 (hM : gw_M a u u x p c s g b D wn wd) (hT : gw_T s b D u u' a.aw W wn) (haw : ∀ n, a'.aw n = (a.aw n || (decide (n < a.w * a.h) && W n))) (hP : gw_P1 a u b D wn al j rem) (hj : j < D) (h : a.aw (wn (j + 1)) = true) : 1 ≤ rem ∧ gw_P1 a' u' b D wn al (j + 1) (rem - 1) ∧ (j + 1 < D → a'.aw (wn (j + 2)) = al (wn (j + 2))) := by
  obtain ⟨p1, p2, p3, p4, p5⟩ := hP
  rw [if_neg (fun r => by rw [h] at r; cases r.2)] at p5
  have e : u' (j + 1) = 1 := by
    rcases hT.tR j p1 with ⟨q1, q2, q3⟩ | ⟨q1, q2 | ⟨-, -, q2, -⟩ | ⟨-, q2⟩⟩
    · omega
    · omega
    · rw [h] at q2; cases q2
    · omega
  have hW : ∀ m, j + 2 ≤ m → m ≤ D → W (wn m) = false := fun m q1 q2 => gw_Wn hT (fun i r1 r2 r3 r4 => by
    have := hM.mW.wi m (i + 1) q2 (by omega) r4
    have := gw_zero hM (i := j + 1) (by omega) p3 (m := i) (by omega) (by omega)
    omega) (fun r => by
    have := hM.mW.wi m 0 q2 (Nat.zero_le _) (by rw [hM.mW.w0]; exact r.1)
    omega)
  have h1 : ∀ m, j + 2 ≤ m → m ≤ D → a'.aw (wn m) = al (wn m) := fun m q1 q2 => by
    rw [gw_aw1 haw (hW m q1 q2)]
    exact p4 m q1 q2
  refine ⟨by omega, ⟨by omega, by omega, gw_zero' hM hT (by omega) p3, fun m q1 q2 => h1 m (by omega) q2, ?_⟩, fun q => h1 (j + 2) (by omega) (by omega)⟩
  by_cases hD : j + 1 < D
  · obtain ⟨k, hk⟩ : ∃ k, D = j + 2 + k := ⟨D - (j + 2), by omega⟩
    have e2 : D - (j + 1) = k + 1 := by omega
    have e3 : D - (j + 1 + 1) = k := by omega
    rw [e2] at p5
    have e4 : gw_A wn al (j + 2) (k + 1) = (if al (wn (j + 2)) = true then 0 else 1) + gw_A wn al (j + 1 + 2) k := rfl
    rw [e4] at p5
    have h2 : a'.aw (wn (j + 1 + 1)) = al (wn (j + 2)) := h1 (j + 2) (by omega) (by omega)
    rw [h2, e3]
    cases q : al (wn (j + 2)) with
    | true =>
      rw [q, if_pos rfl] at p5
      rw [if_neg (fun r => by cases r.2)]
      omega
    | false =>
      rw [q, if_neg (by decide)] at p5
      rw [if_pos ⟨hD, rfl⟩]
      omega
  · rw [if_neg (fun r => hD r.1), show D - (j + 1 + 1) = 0 by omega]
    rw [show D - (j + 1) = 0 by omega] at p5
    have e4 : gw_A wn al (j + 2) 0 = 0 := rfl
    have e5 : gw_A wn al (j + 1 + 2) 0 = 0 := rfl
    rw [e4] at p5
    rw [e5]
    omega
theorem gw_t1D (hT : gw_T s b D u u' a.aw W wn) (hP : gw_P1 a u b D wn al D rem) : 1 ≤ rem ∧ gw_P2 u' b D (rem - 1) := by
  obtain ⟨p1, p2, p3, p4, p5⟩ := hP
  rw [if_neg (fun r => by omega), show D - (D + 1) = 0 by omega] at p5
  have e4 : gw_A wn al (D + 2) 0 = 0 := rfl
  rw [e4] at p5
  have e : u' (D + 1) = 1 := by
    rcases hT.tR D (Nat.le_refl _) with ⟨q1, -⟩ | ⟨-, q2 | ⟨q2, -⟩ | ⟨q2, -⟩⟩ <;> omega
  exact ⟨by omega, by omega, by omega⟩
theorem gw_t2 (hM : gw_M a u u x p c s g b D wn wd) (hT : gw_T s b D u u' a.aw W wn) (hN : gw_N b D u) (hP : gw_P2 u b D rem) (h : 1 ≤ rem) : gw_P2 u' b D (rem - 1) := by
  obtain ⟨p1, p2⟩ := hP
  have h1 := hM.anti (D + 1) D (by omega) (Nat.le_refl _)
  have e : u' (D + 1) = u (D + 1) + 1 := by
    rcases hN D (Nat.le_refl _) (by omega) with r | r
    · rcases hT.tR D (Nat.le_refl _) with ⟨q1, -⟩ | ⟨-, q2 | ⟨q2, -⟩ | ⟨q2, -⟩⟩ <;> omega
    · omega
  exact ⟨by omega, by omega⟩
end GwT
