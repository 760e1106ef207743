/-! THE REFERENCE'S CONSTRUCTOR -/
def gm_V (μ0 μ : me_M) : Prop := (∀ k, k < 36 → μ k = μ0 k) ∧ μ 36 0 0 = 4 ∧ μ 36 0 1 = 4
theorem gm_V.zc {μ0 μ : me_M} (h : gm_V μ0 μ) (k i : Nat) (hk : 36 < k) : gm_V μ0 (me_zc μ k i) := by
  have e : ∀ k', k' < 37 → me_zc μ k i k' = μ k' := fun k' h' => by
    funext x y
    unfold me_zc
    rw [if_neg (fun q => by omega)]
  refine ⟨fun k' h' => (e k' (by omega)).trans (h.1 k' h'), ?_, ?_⟩
  · rw [e 36 (by decide)]
    exact h.2.1
  · rw [e 36 (by decide)]
    exact h.2.2
def gm_B (f : me_T3 → me_T3) (k1 : Nat) (ks : Nat → Prop) (al : me_Nt → Prop) : Prop := ∀ (t : me_T3) (D : Nat → Nat → Nat → Prop) (μ0 : me_M), al t.1 → gc_S t.1 t.2.1 D → gm_V μ0 t.2.2 → gc_S (f t).1 (f t).2.1 D ∧ al (f t).1 ∧ (f t).1 k1 = t.1 k1 + 1 ∧ (∀ k, ¬ ks k → (f t).1 k = t.1 k) ∧ gm_V μ0 (f t).2.2
theorem gm_p1 (k : Nat) (hk : 36 < k) (h0 : ∀ i j, me_r0 k i j = none) : gm_B (me_p1 k) k (fun x => x = k) (fun _ => True) := fun t D μ0 _ S V => ⟨S.np0 k h0, trivial, me_np_at, fun x hx => me_np_ne hx, V.zc k _ hk⟩
theorem gm_F {f : me_T3 → me_T3} {k1 : Nat} {ks : Nat → Prop} {al : me_Nt → Prop} (B : gm_B f k1 ks al) {k0 i0 c d : Nat} (hr : ∀ j, j < d → me_r0 k0 i0 j = some (k1, c + j)) {t0 : me_T3} {D0 : Nat → Nat → Nat → Prop} {μ0 : me_M} (ht : t0.1 k1 = c) (hal : al t0.1) (hS : gc_S t0.1 t0.2.1 (fun k i j => D0 k i j ∨ (k = k0 ∧ i = i0 ∧ j < d))) (hV : gm_V μ0 t0.2.2) : ∀ m, m ≤ d → gc_S (me_pF k0 k1 i0 f m t0).1 (me_pF k0 k1 i0 f m t0).2.1 (fun k i j => D0 k i j ∨ (k = k0 ∧ i = i0 ∧ m ≤ j ∧ j < d)) ∧ al (me_pF k0 k1 i0 f m t0).1 ∧ (me_pF k0 k1 i0 f m t0).1 k1 = c + m ∧ (∀ k, ¬ ks k → (me_pF k0 k1 i0 f m t0).1 k = t0.1 k) ∧ gm_V μ0 (me_pF k0 k1 i0 f m t0).2.2 := by
  intro m
  induction m with
  | zero =>
    intro _
    exact ⟨hS.fin (fun k i j _ q => q.elim Or.inl (fun z => Or.inr ⟨z.1, z.2.1, Nat.zero_le _, z.2.2⟩)), hal, ht, fun _ _ => rfl, hV⟩
  | succ m ih =>
    intro hm
    obtain ⟨a1, a2, a3, a4, a5⟩ := ih (by omega)
    obtain ⟨b1, b2, b3, b4, b5⟩ := B _ _ μ0 a2 a1 a5
    refine ⟨?_, b2, ?_, fun k hk => (b4 k hk).trans (a4 k hk), b5⟩
    · refine gc_S.ru b1 k0 i0 m (k1, (me_pF k0 k1 i0 f m t0).1 k1) ?_ (fun k i j q => ?_)
      · rw [hr m (by omega), a3]
      · rcases q with q | ⟨q1, q2, q3, q4⟩
        · exact Or.inl (Or.inl q)
        · by_cases e : j = m
          · exact Or.inr ⟨q1, q2, e⟩
          · exact Or.inl (Or.inr ⟨q1, q2, by omega, q4⟩)
    · show (f (me_pF k0 k1 i0 f m t0)).1 k1 = c + (m + 1)
      rw [b3, a3]
      omega
theorem gm_H {f : me_T3 → me_T3} {k1 : Nat} {ks : Nat → Prop} {al : me_Nt → Prop} (B : gm_B f k1 ks al) {k0 c d : Nat} (hk : 36 < k0) (h01 : ¬ k1 = k0) (h0 : ¬ ks k0) (hd : (me_kt k0).2.2 = d) (hal : ∀ n, al n → al (me_np n k0)) {t : me_T3} {D : Nat → Nat → Nat → Prop} {μ0 : me_M} (hr : ∀ j, j < d → me_r0 k0 (t.1 k0) j = some (k1, c + j)) (ht : t.1 k1 = c) (ha : al t.1) (hS : gc_S t.1 t.2.1 D) (hV : gm_V μ0 t.2.2) : gc_S (me_pG k0 k1 f d t).1 (me_pG k0 k1 f d t).2.1 D ∧ al (me_pG k0 k1 f d t).1 ∧ (me_pG k0 k1 f d t).1 k1 = c + d ∧ (me_pG k0 k1 f d t).1 k0 = t.1 k0 + 1 ∧ (∀ k, ¬ (k = k0 ∨ ks k) → (me_pG k0 k1 f d t).1 k = t.1 k) ∧ gm_V μ0 (me_pG k0 k1 f d t).2.2 := by
  have S1 : gc_S (me_np t.1 k0) (me_rn t.2.1 k0 (t.1 k0)) (fun k i j => D k i j ∨ (k = k0 ∧ i = t.1 k0 ∧ j < d)) := hS.np k0 (fun _ _ _ q => Or.inl q) (fun j hj q => absurd (Or.inr ⟨rfl, rfl, by omega⟩) q)
  obtain ⟨a1, a2, a3, a4, a5⟩ := gm_F B hr (t0 := me_p1 k0 t) (D0 := D) (μ0 := μ0) (show me_np t.1 k0 k1 = c by rw [me_np_ne h01]; exact ht) (hal _ ha) S1 (hV.zc k0 _ hk) d (Nat.le_refl _)
  refine ⟨a1.fin (fun k i j _ q => q.elim id (fun z => by omega)), a2, a3, (a4 k0 h0).trans me_np_at, fun k h => ?_, a5⟩
  exact (a4 k (fun q => h (Or.inr q))).trans (me_np_ne (fun q => h (Or.inl q)))
theorem gm_G {f : me_T3 → me_T3} {k1 : Nat} {ks : Nat → Prop} {al : me_Nt → Prop} (B : gm_B f k1 ks al) {k0 d : Nat} (hk : 36 < k0) (h01 : ¬ k1 = k0) (h0 : ¬ ks k0) (hd : (me_kt k0).2.2 = d) (hal : ∀ n, al n → al (me_np n k0)) (hr : ∀ i j, me_r0 k0 i j = some (k1, d * i + j)) : gm_B (me_pG k0 k1 f d) k0 (fun k => k = k0 ∨ ks k) (fun n => n k1 = d * n k0 ∧ al n) := by
  intro t D μ0 ha S V
  obtain ⟨a1, a2, a3, a4, a5, a6⟩ := gm_H B (c := d * t.1 k0) hk h01 h0 hd hal (fun j _ => hr _ j) ha.1 ha.2 S V
  exact ⟨a1, ⟨by rw [a3, a4, Nat.mul_add, Nat.mul_one], a2⟩, a4, a5, a6⟩
def gm_I (μ0 : me_M) (n : me_Nt) (r : me_Rt) (μ : me_M) (j : Nat) (Cr : Nat → Prop) : Prop := gc_S n r (fun k i x => k = 36 ∧ i = 0 ∧ j ≤ x ∧ x < 41 ∧ ¬ x = 19) ∧ (∀ k, 36 < k → ¬ Cr k → n k = 0) ∧ gm_V μ0 μ
theorem gm_A {α : Type} {P : α → Prop} {μ0 : me_M} {n : me_Nt} {r : me_Rt} {μ : me_M} {j : Nat} {Cr : Nat → Prop} (I : gm_I μ0 n r μ j Cr) (k j' : Nat) (Cr' : Nat → Prop) (hk : 36 < k) (hc : ¬ Cr k) (h0 : ∀ i j, me_r0 k i j = none) (hr : me_r0 36 0 j = some (k, 0)) (hj : ∀ x, j ≤ x → ¬ x = 19 → x = j ∨ j' ≤ x) (hC : ∀ x, ¬ Cr' x → ¬ Cr x ∧ ¬ x = k) {f : me_Nt → me_Rt → me_M → Option α} (h : ∀ n' r' μ', gm_I μ0 n' r' μ' j' Cr' → gc_Q P (f n' r' μ')) : gc_Q P (me_lt (me_np n k) (fun n' => me_lt (me_ru (me_rn r k (n k)) 36 0 j (k, n k)) (fun r' => me_lt (me_zc μ k (n k)) (fun μ' => f n' r' μ')))) := by
  obtain ⟨S, z, V⟩ := I
  have nk := z k hk hc
  refine h _ _ _ ⟨(S.np0 k h0).ru 36 0 j (k, n k) (by rw [nk]; exact hr) (fun k' i' x q => ?_), fun x hx hcx => ?_, V.zc k _ hk⟩
  · rcases hj x q.2.2.1 q.2.2.2.2 with e | e
    · exact Or.inr ⟨q.1, q.2.1, e⟩
    · exact Or.inl ⟨q.1, q.2.1, e, q.2.2.2⟩
  · rw [me_np_ne (hC x hcx).2]
    exact z x hx (hC x hcx).1
theorem gm_T {α : Type} {P : α → Prop} {μ0 : me_M} {n : me_Nt} {r : me_Rt} {μ : me_M} {j : Nat} {Cr : Nat → Prop} (I : gm_I μ0 n r μ j Cr) {g : me_T3 → me_T3} {k1 : Nat} {ks : Nat → Prop} {al : me_Nt → Prop} (B : gm_B g k1 ks al) (k0 d j' : Nat) (Cr' : Nat → Prop) (hk : 36 < k0) (hc : ¬ Cr k0) (hk1 : 36 < k1) (hc1 : ¬ Cr k1) (h01 : ¬ k1 = k0) (h0 : ¬ ks k0) (hd : (me_kt k0).2.2 = d) (hal : ∀ n, al n → al (me_np n k0)) (ha : (∀ k, 36 < k → ¬ Cr k → n k = 0) → al n) (h00 : ∀ j, me_r0 k0 0 j = some (k1, j)) (hr : me_r0 36 0 j = some (k0, 0)) (hj : ∀ x, j ≤ x → ¬ x = 19 → x = j ∨ j' ≤ x) (hC : ∀ x, ¬ Cr' x → ¬ Cr x ∧ ¬ (x = k0 ∨ ks x)) {f : me_Nt → me_Rt → me_M → Option α} (h : ∀ n' r' μ', gm_I μ0 n' r' μ' j' Cr' → gc_Q P (f n' r' μ')) : gc_Q P (me_lt ((me_pG k0 k1 g d (n, r, μ)).1) (fun n' => me_lt (me_ru ((me_pG k0 k1 g d (n, r, μ)).2.1) 36 0 j (k0, n k0)) (fun r' => me_lt ((me_pG k0 k1 g d (n, r, μ)).2.2) (fun μ' => f n' r' μ')))) := by
  obtain ⟨S, z, V⟩ := I
  have nk := z k0 hk hc
  have nk1 := z k1 hk1 hc1
  obtain ⟨a1, a2, a3, a4, a5, a6⟩ := gm_H B (c := 0) (t := (n, r, μ)) hk h01 h0 hd hal (fun j _ => by rw [show (n, r, μ).1 k0 = 0 from nk, h00 j, Nat.zero_add]) nk1 (ha z) S V
  refine h _ _ _ ⟨a1.ru 36 0 j (k0, n k0) (by rw [nk]; exact hr) (fun k' i' x q => ?_), fun x hx hcx => ?_, a6⟩
  · rcases hj x q.2.2.1 q.2.2.2.2 with e | e
    · exact Or.inr ⟨q.1, q.2.1, e⟩
    · exact Or.inl ⟨q.1, q.2.1, e, q.2.2.2⟩
  · rw [a5 x (hC x hcx).2]
    exact z x hx (hC x hcx).1
theorem me_r0n_36 (i j : Nat) (h1 : j < (me_kt 36).2.2) (h2 : ¬ (6 ≤ j ∧ j < 41 ∧ ¬ j = 19)) : me_r0 36 i j = none := by
  have h1 : j < 43 := h1
  rcases (show j = 0 ∨ j = 1 ∨ j = 2 ∨ j = 3 ∨ j = 4 ∨ j = 5 ∨ j = 19 ∨ j = 41 ∨ j = 42 by omega) with rfl | rfl | rfl | rfl | rfl | rfl | rfl | rfl | rfl <;> rfl
theorem gm_b50 : gm_B (me_pG 51 52 (me_pG 52 53 (me_p1 53) 5) 2) 51 (fun k => k = 51 ∨ k = 52 ∨ k = 53) (fun n => n 52 = 2 * n 51 ∧ n 53 = 5 * n 52 ∧ True) := gm_G (gm_G (gm_p1 53 (by decide) (fun _ _ => rfl)) (by decide) (by decide) (by decide) rfl (fun _ h => h) (fun _ _ => rfl)) (by decide) (by decide) (by decide) rfl (fun n h => by rw [me_np_ne (by decide), me_np_ne (by decide)]; exact h) (fun _ _ => rfl)
theorem gm_b54 : gm_B (me_pG 55 56 (me_pG 56 57 (me_p1 57) 5) 2) 55 (fun k => k = 55 ∨ k = 56 ∨ k = 57) (fun n => n 56 = 2 * n 55 ∧ n 57 = 5 * n 56 ∧ True) := gm_G (gm_G (gm_p1 57 (by decide) (fun _ _ => rfl)) (by decide) (by decide) (by decide) rfl (fun _ h => h) (fun _ _ => rfl)) (by decide) (by decide) (by decide) rfl (fun n h => by rw [me_np_ne (by decide), me_np_ne (by decide)]; exact h) (fun _ _ => rfl)
theorem gm_b58 : gm_B (me_pG 59 60 (me_p1 60) 2) 59 (fun k => k = 59 ∨ k = 60) (fun n => n 60 = 2 * n 59 ∧ True) := gm_G (gm_p1 60 (by decide) (fun _ _ => rfl)) (by decide) (by decide) (by decide) rfl (fun _ h => h) (fun _ _ => rfl)
theorem gm_b61 : gm_B (me_pG 62 63 (me_p1 63) 2) 62 (fun k => k = 62 ∨ k = 63) (fun n => n 63 = 2 * n 62 ∧ True) := gm_G (gm_p1 63 (by decide) (fun _ _ => rfl)) (by decide) (by decide) (by decide) rfl (fun _ h => h) (fun _ _ => rfl)
theorem gm_b64 : gm_B (me_pG 65 66 (me_p1 66) 2) 65 (fun k => k = 65 ∨ k = 66) (fun n => n 66 = 2 * n 65 ∧ True) := gm_G (gm_p1 66 (by decide) (fun _ _ => rfl)) (by decide) (by decide) (by decide) rfl (fun _ h => h) (fun _ _ => rfl)
theorem gm_b67 : gm_B (me_pG 68 69 (me_p1 69) 2) 68 (fun k => k = 68 ∨ k = 69) (fun n => n 69 = 2 * n 68 ∧ True) := gm_G (gm_p1 69 (by decide) (fun _ _ => rfl)) (by decide) (by decide) (by decide) rfl (fun _ h => h) (fun _ _ => rfl)
theorem gm_b70 : gm_B (me_pG 71 72 (me_p1 72) 2) 71 (fun k => k = 71 ∨ k = 72) (fun n => n 72 = 2 * n 71 ∧ True) := gm_G (gm_p1 72 (by decide) (fun _ _ => rfl)) (by decide) (by decide) (by decide) rfl (fun _ h => h) (fun _ _ => rfl)
theorem gm_b73 : gm_B (me_p1 74) 74 (fun k => k = 74) (fun _ => True) := gm_p1 74 (by decide) (fun _ _ => rfl)
theorem gm_b75 : gm_B (me_p1 76) 76 (fun k => k = 76) (fun _ => True) := gm_p1 76 (by decide) (fun _ _ => rfl)
theorem gm_b77 : gm_B (me_p1 78) 78 (fun k => k = 78) (fun _ => True) := gm_p1 78 (by decide) (fun _ _ => rfl)
theorem gm_b79 : gm_B (me_p1 80) 80 (fun k => k = 80) (fun _ => True) := gm_p1 80 (by decide) (fun _ _ => rfl)
theorem gm_b81 : gm_B (me_p1 82) 82 (fun k => k = 82) (fun _ => True) := gm_p1 82 (by decide) (fun _ _ => rfl)
theorem gm_b83 : gm_B (me_p1 84) 84 (fun k => k = 84) (fun _ => True) := gm_p1 84 (by decide) (fun _ _ => rfl)
theorem y_minit {n : me_Nt} {r : me_Rt} {μ : me_M} (hz : ∀ k, 35 < k → n k = 0) (S : gc_S n r (fun _ _ _ => False)) : gc_Q (fun t => t.1 93 = 0 ∧ t.1 94 = 0 ∧ t.1 95 = 0 ∧ me_Sn t.1 t.2.1 ∧ me_RM (gh_nw gc_a0 4 4 2) t.2.2 ∧ ∀ k, k < 36 → t.2.2 k = μ k) (f_M_init 0 (me_np n 36) (me_rn r 36 0) (me_zc μ 36 0)) := by
  have S0 : gc_S (me_np n 36) (me_rn r 36 (n 36)) (fun k i x => k = 36 ∧ i = 0 ∧ 6 ≤ x ∧ x < 41 ∧ ¬ x = 19) := S.np 36 (fun _ _ _ q => q.elim) (fun j hj q => me_r0n_36 _ j hj (fun z => q ⟨rfl, hz 36 (by decide), z⟩))
  rw [hz 36 (by decide)] at S0
  unfold f_M_init
  refine gc_Q.lt (fun n1 e1 => gc_Q.lt (fun r1 f1 => gc_Q.lt (fun μ1 g1 => gc_Q.lt (fun n2 e2 => gc_Q.lt (fun r2 f2 => gc_Q.lt (fun μ2 g2 => gc_Q.lt (fun n3 e3 => gc_Q.lt (fun r3 f3 => gc_Q.lt (fun μ3 g3 => gc_Q.lt (fun n4 e4 => gc_Q.lt (fun r4 f4 => gc_Q.lt (fun μ4 g4 => ?_))))))))))))
  have I0 : gm_I μ n4 r4 μ4 6 (fun k => 37 ≤ k ∧ k < 37) := by
    refine ⟨?_, fun k hk _ => ?_, fun k hk => ?_, ?_, ?_⟩
    · rw [e4, f4, e3, f3, e2, f2, e1, f1]
      exact S0
    · rw [e4, e3, e2, e1, me_np_ne (by omega)]
      exact hz k (by omega)
    · funext i j
      rw [g4, me_up_kn (by omega), g3, me_up_kn (by omega), g2, me_up_kn (by omega), g1, me_up_kn (by omega)]
      unfold me_zc
      rw [if_neg (fun q => by omega)]
    · rw [g4, me_up_jn (by decide), g3, me_up_jn (by decide), g2, me_up_jn (by decide), g1, me_up_at]
    · rw [g4, me_up_jn (by decide), g3, me_up_jn (by decide), g2, me_up_at]
  refine gm_A I0 37 7 (fun k => (37 ≤ k ∧ k < 38)) (by decide) (by omega) (fun _ _ => rfl) rfl (fun x _ _ => by omega) (fun x _ => by omega) (fun n5 r5 μ5 I1 => ?_)
  refine gm_A I1 38 8 (fun k => (37 ≤ k ∧ k < 39)) (by decide) (by omega) (fun _ _ => rfl) rfl (fun x _ _ => by omega) (fun x _ => by omega) (fun n6 r6 μ6 I2 => ?_)
  refine gm_A I2 39 9 (fun k => (37 ≤ k ∧ k < 40)) (by decide) (by omega) (fun _ _ => rfl) rfl (fun x _ _ => by omega) (fun x _ => by omega) (fun n7 r7 μ7 I3 => ?_)
  refine gm_A I3 40 10 (fun k => (37 ≤ k ∧ k < 41)) (by decide) (by omega) (fun _ _ => rfl) rfl (fun x _ _ => by omega) (fun x _ => by omega) (fun n8 r8 μ8 I4 => ?_)
  refine gm_A I4 41 11 (fun k => (37 ≤ k ∧ k < 42)) (by decide) (by omega) (fun _ _ => rfl) rfl (fun x _ _ => by omega) (fun x _ => by omega) (fun n9 r9 μ9 I5 => ?_)
  refine gm_A I5 42 12 (fun k => (37 ≤ k ∧ k < 43)) (by decide) (by omega) (fun _ _ => rfl) rfl (fun x _ _ => by omega) (fun x _ => by omega) (fun n10 r10 μ10 I6 => ?_)
  refine gm_A I6 43 13 (fun k => (37 ≤ k ∧ k < 44)) (by decide) (by omega) (fun _ _ => rfl) rfl (fun x _ _ => by omega) (fun x _ => by omega) (fun n11 r11 μ11 I7 => ?_)
  refine gm_A I7 44 14 (fun k => (37 ≤ k ∧ k < 45)) (by decide) (by omega) (fun _ _ => rfl) rfl (fun x _ _ => by omega) (fun x _ => by omega) (fun n12 r12 μ12 I8 => ?_)
  refine gm_A I8 45 15 (fun k => (37 ≤ k ∧ k < 46)) (by decide) (by omega) (fun _ _ => rfl) rfl (fun x _ _ => by omega) (fun x _ => by omega) (fun n13 r13 μ13 I9 => ?_)
  refine gm_A I9 46 16 (fun k => (37 ≤ k ∧ k < 47)) (by decide) (by omega) (fun _ _ => rfl) rfl (fun x _ _ => by omega) (fun x _ => by omega) (fun n14 r14 μ14 I10 => ?_)
  refine gm_A I10 47 17 (fun k => (37 ≤ k ∧ k < 48)) (by decide) (by omega) (fun _ _ => rfl) rfl (fun x _ _ => by omega) (fun x _ => by omega) (fun n15 r15 μ15 I11 => ?_)
  refine gm_A I11 48 18 (fun k => (37 ≤ k ∧ k < 49)) (by decide) (by omega) (fun _ _ => rfl) rfl (fun x _ _ => by omega) (fun x _ => by omega) (fun n16 r16 μ16 I12 => ?_)
  refine gm_A I12 49 20 (fun k => (37 ≤ k ∧ k < 50)) (by decide) (by omega) (fun _ _ => rfl) rfl (fun x _ _ => by omega) (fun x _ => by omega) (fun n17 r17 μ17 I13 => ?_)
  refine gm_T I13 gm_b50 50 16 21 (fun k => (37 ≤ k ∧ k < 54)) (by decide) (by omega) (by decide) (by omega) (by decide) (by decide) rfl (fun n h => by rw [me_np_ne (by decide), me_np_ne (by decide), me_np_ne (by decide)]; exact h) (fun z => ⟨by rw [z 52 (by decide) (by omega), z 51 (by decide) (by omega)], by rw [z 53 (by decide) (by omega), z 52 (by decide) (by omega)], trivial⟩) (fun _ => rfl) rfl (fun x _ _ => by omega) (fun x _ => by omega) (fun n18 r18 μ18 I14 => ?_)
  refine gm_T I14 gm_b54 54 16 22 (fun k => (37 ≤ k ∧ k < 58)) (by decide) (by omega) (by decide) (by omega) (by decide) (by decide) rfl (fun n h => by rw [me_np_ne (by decide), me_np_ne (by decide), me_np_ne (by decide)]; exact h) (fun z => ⟨by rw [z 56 (by decide) (by omega), z 55 (by decide) (by omega)], by rw [z 57 (by decide) (by omega), z 56 (by decide) (by omega)], trivial⟩) (fun _ => rfl) rfl (fun x _ _ => by omega) (fun x _ => by omega) (fun n19 r19 μ19 I15 => ?_)
  refine gm_T I15 gm_b58 58 16 23 (fun k => (37 ≤ k ∧ k < 61)) (by decide) (by omega) (by decide) (by omega) (by decide) (by decide) rfl (fun n h => by rw [me_np_ne (by decide), me_np_ne (by decide)]; exact h) (fun z => ⟨by rw [z 60 (by decide) (by omega), z 59 (by decide) (by omega)], trivial⟩) (fun _ => rfl) rfl (fun x _ _ => by omega) (fun x _ => by omega) (fun n20 r20 μ20 I16 => ?_)
  refine gm_T I16 gm_b61 61 16 24 (fun k => (37 ≤ k ∧ k < 64)) (by decide) (by omega) (by decide) (by omega) (by decide) (by decide) rfl (fun n h => by rw [me_np_ne (by decide), me_np_ne (by decide)]; exact h) (fun z => ⟨by rw [z 63 (by decide) (by omega), z 62 (by decide) (by omega)], trivial⟩) (fun _ => rfl) rfl (fun x _ _ => by omega) (fun x _ => by omega) (fun n21 r21 μ21 I17 => ?_)
  refine gm_T I17 gm_b64 64 16 25 (fun k => (37 ≤ k ∧ k < 67)) (by decide) (by omega) (by decide) (by omega) (by decide) (by decide) rfl (fun n h => by rw [me_np_ne (by decide), me_np_ne (by decide)]; exact h) (fun z => ⟨by rw [z 66 (by decide) (by omega), z 65 (by decide) (by omega)], trivial⟩) (fun _ => rfl) rfl (fun x _ _ => by omega) (fun x _ => by omega) (fun n22 r22 μ22 I18 => ?_)
  refine gm_T I18 gm_b67 67 16 26 (fun k => (37 ≤ k ∧ k < 70)) (by decide) (by omega) (by decide) (by omega) (by decide) (by decide) rfl (fun n h => by rw [me_np_ne (by decide), me_np_ne (by decide)]; exact h) (fun z => ⟨by rw [z 69 (by decide) (by omega), z 68 (by decide) (by omega)], trivial⟩) (fun _ => rfl) rfl (fun x _ _ => by omega) (fun x _ => by omega) (fun n23 r23 μ23 I19 => ?_)
  refine gm_T I19 gm_b70 70 16 27 (fun k => (37 ≤ k ∧ k < 73)) (by decide) (by omega) (by decide) (by omega) (by decide) (by decide) rfl (fun n h => by rw [me_np_ne (by decide), me_np_ne (by decide)]; exact h) (fun z => ⟨by rw [z 72 (by decide) (by omega), z 71 (by decide) (by omega)], trivial⟩) (fun _ => rfl) rfl (fun x _ _ => by omega) (fun x _ => by omega) (fun n24 r24 μ24 I20 => ?_)
  refine gm_T I20 gm_b73 73 16 28 (fun k => (37 ≤ k ∧ k < 75)) (by decide) (by omega) (by decide) (by omega) (by decide) (by decide) rfl (fun _ h => h) (fun _ => trivial) (fun _ => rfl) rfl (fun x _ _ => by omega) (fun x _ => by omega) (fun n25 r25 μ25 I21 => ?_)
  refine gm_A I21 85 29 (fun k => (37 ≤ k ∧ k < 75) ∨ (85 ≤ k ∧ k < 86)) (by decide) (by omega) (fun _ _ => rfl) rfl (fun x _ _ => by omega) (fun x _ => by omega) (fun n26 r26 μ26 I22 => ?_)
  refine gm_A I22 86 30 (fun k => (37 ≤ k ∧ k < 75) ∨ (85 ≤ k ∧ k < 87)) (by decide) (by omega) (fun _ _ => rfl) rfl (fun x _ _ => by omega) (fun x _ => by omega) (fun n27 r27 μ27 I23 => ?_)
  refine gm_T I23 gm_b75 75 16 31 (fun k => (37 ≤ k ∧ k < 77) ∨ (85 ≤ k ∧ k < 87)) (by decide) (by omega) (by decide) (by omega) (by decide) (by decide) rfl (fun _ h => h) (fun _ => trivial) (fun _ => rfl) rfl (fun x _ _ => by omega) (fun x _ => by omega) (fun n28 r28 μ28 I24 => ?_)
  refine gm_T I24 gm_b77 77 16 32 (fun k => (37 ≤ k ∧ k < 79) ∨ (85 ≤ k ∧ k < 87)) (by decide) (by omega) (by decide) (by omega) (by decide) (by decide) rfl (fun _ h => h) (fun _ => trivial) (fun _ => rfl) rfl (fun x _ _ => by omega) (fun x _ => by omega) (fun n29 r29 μ29 I25 => ?_)
  refine gm_A I25 87 33 (fun k => (37 ≤ k ∧ k < 79) ∨ (85 ≤ k ∧ k < 88)) (by decide) (by omega) (fun _ _ => rfl) rfl (fun x _ _ => by omega) (fun x _ => by omega) (fun n30 r30 μ30 I26 => ?_)
  refine gm_T I26 gm_b79 79 16 34 (fun k => (37 ≤ k ∧ k < 81) ∨ (85 ≤ k ∧ k < 88)) (by decide) (by omega) (by decide) (by omega) (by decide) (by decide) rfl (fun _ h => h) (fun _ => trivial) (fun _ => rfl) rfl (fun x _ _ => by omega) (fun x _ => by omega) (fun n31 r31 μ31 I27 => ?_)
  refine gm_T I27 gm_b81 81 16 35 (fun k => (37 ≤ k ∧ k < 83) ∨ (85 ≤ k ∧ k < 88)) (by decide) (by omega) (by decide) (by omega) (by decide) (by decide) rfl (fun _ h => h) (fun _ => trivial) (fun _ => rfl) rfl (fun x _ _ => by omega) (fun x _ => by omega) (fun n32 r32 μ32 I28 => ?_)
  refine gm_A I28 88 36 (fun k => (37 ≤ k ∧ k < 83) ∨ (85 ≤ k ∧ k < 89)) (by decide) (by omega) (fun _ _ => rfl) rfl (fun x _ _ => by omega) (fun x _ => by omega) (fun n33 r33 μ33 I29 => ?_)
  refine gm_A I29 89 37 (fun k => (37 ≤ k ∧ k < 83) ∨ (85 ≤ k ∧ k < 90)) (by decide) (by omega) (fun _ _ => rfl) rfl (fun x _ _ => by omega) (fun x _ => by omega) (fun n34 r34 μ34 I30 => ?_)
  refine gm_A I30 90 38 (fun k => (37 ≤ k ∧ k < 83) ∨ (85 ≤ k ∧ k < 91)) (by decide) (by omega) (fun _ _ => rfl) rfl (fun x _ _ => by omega) (fun x _ => by omega) (fun n35 r35 μ35 I31 => ?_)
  refine gm_A I31 91 39 (fun k => (37 ≤ k ∧ k < 83) ∨ (85 ≤ k ∧ k < 92)) (by decide) (by omega) (fun _ _ => rfl) rfl (fun x _ _ => by omega) (fun x _ => by omega) (fun n36 r36 μ36 I32 => ?_)
  refine gm_A I32 92 40 (fun k => (37 ≤ k ∧ k < 83) ∨ (85 ≤ k ∧ k < 93)) (by decide) (by omega) (fun _ _ => rfl) rfl (fun x _ _ => by omega) (fun x _ => by omega) (fun n37 r37 μ37 I33 => ?_)
  refine gm_T I33 gm_b83 83 8 41 (fun k => (37 ≤ k ∧ k < 93)) (by decide) (by omega) (by decide) (by omega) (by decide) (by decide) rfl (fun _ h => h) (fun _ => trivial) (fun _ => rfl) rfl (fun x _ _ => by omega) (fun x _ => by omega) (fun n38 r38 μ38 I34 => ?_)
  obtain ⟨SE, zE, VE⟩ := I34
  obtain ⟨ν', b1, b2, b3, -⟩ := m_begins (a := gc_a0) (w := 4) (h := 4) VE.2.1 VE.2.2
  refine gc_Q.gP ⟨fun k i j hk hi hj => SE k i j hk hi hj (by omega), rfl⟩ (gc_Q.b2 b1 ⟨_, rfl, zE 93 (by decide) (by omega), zE 94 (by decide) (by omega), zE 95 (by decide) (by omega), fun k i j hk hi hj => SE k i j hk hi hj (by omega), b2, fun k hk => (b3 k hk).trans (VE.1 k hk)⟩)
