/-! THE CONSTRUCTORS: references, counts, memory -/
def gc_S (n : me_Nt) (r : me_Rt) (D : Nat → Nat → Nat → Prop) : Prop := ∀ k i j, k < me_NK → i < n k → j < (me_kt k).2.2 → ¬ D k i j → r k i j = me_r0 k i j
theorem gc_S.np {n : me_Nt} {r : me_Rt} {D D' : Nat → Nat → Nat → Prop} (h : gc_S n r D) (k : Nat) (h1 : ∀ k' i' j', D k' i' j' → D' k' i' j') (h2 : ∀ j, j < (me_kt k).2.2 → ¬ D' k (n k) j → me_r0 k (n k) j = none) : gc_S (me_np n k) (me_rn r k (n k)) D' := by
  intro k' i' j' hk hi hj hd
  unfold me_rn
  by_cases e : k' = k ∧ i' = n k
  · rw [if_pos e]
    obtain ⟨e1, e2⟩ := e
    subst e1
    subst e2
    exact (h2 j' hj hd).symm
  · rw [if_neg e]
    refine h k' i' j' hk ?_ hj (fun q => hd (h1 _ _ _ q))
    unfold me_np at hi
    by_cases ek : k' = k
    · rw [if_pos ek] at hi
      subst ek
      have : ¬ i' = n k' := fun q => e ⟨rfl, q⟩
      omega
    · rw [if_neg ek] at hi
      exact hi
theorem gc_S.np0 {n : me_Nt} {r : me_Rt} {D : Nat → Nat → Nat → Prop} (h : gc_S n r D) (k : Nat) (h2 : ∀ i j, me_r0 k i j = none) : gc_S (me_np n k) (me_rn r k (n k)) D := h.np k (fun _ _ _ q => q) (fun j _ _ => h2 _ j)
theorem gc_S.ru {n : me_Nt} {r : me_Rt} {D D' : Nat → Nat → Nat → Prop} (h : gc_S n r D) (k i j : Nat) (q : Nat × Nat) (hq : me_r0 k i j = some q) (h1 : ∀ k' i' j', D k' i' j' → D' k' i' j' ∨ (k' = k ∧ i' = i ∧ j' = j)) : gc_S n (me_ru r k i j q) D' := by
  intro k' i' j' hk hi hj hd
  unfold me_ru
  by_cases e : k' = k ∧ i' = i ∧ j' = j
  · rw [if_pos e]
    obtain ⟨e1, e2, e3⟩ := e
    subst e1
    subst e2
    subst e3
    exact hq.symm
  · rw [if_neg e]
    exact h k' i' j' hk hi hj (fun z => (h1 _ _ _ z).elim hd e)
theorem gc_S.fin {n : me_Nt} {r : me_Rt} {D D' : Nat → Nat → Nat → Prop} (h : gc_S n r D) (h1 : ∀ k i j, j < (me_kt k).2.2 → D k i j → D' k i j) : gc_S n r D' := fun k i j hk hi hj hd => h k i j hk hi hj (fun q => hd (h1 k i j hj q))
def gc_Z (μ : me_M) (N : Nat) : Prop := (∀ k i j, ¬ k = 27 → ¬ (k = 8 ∧ j = 0 ∧ i < N) → μ k i j = 0) ∧ ∀ i, i < N → μ 8 i 0 = me_N i
theorem gc_Z.zc {μ : me_M} {N : Nat} (h : gc_Z μ N) (k i : Nat) (hk : ¬ k = 8) : gc_Z (me_zc μ k i) N := by
  refine ⟨fun k' i' j' a b => ?_, fun i' hi => ?_⟩
  · unfold me_zc
    by_cases e : k' = k ∧ i' = i
    · rw [if_pos e]
    · rw [if_neg e]
      exact h.1 k' i' j' a b
  · unfold me_zc
    rw [if_neg (fun q => hk q.1.symm)]
    exact h.2 i' hi
theorem gc_Z.pk {μ : me_M} {N : Nat} (h : gc_Z μ N) : gc_Z (me_up (me_zc μ 8 N) 8 N 0 (me_N N)) (N + 1) := by
  refine ⟨fun k' i' j' a b => ?_, fun i' hi => ?_⟩
  · rw [me_up_ap, if_neg (fun q => b ⟨q.1, q.2.2, by omega⟩)]
    unfold me_zc
    by_cases e : k' = 8 ∧ i' = N
    · rw [if_pos e]
    · rw [if_neg e]
      exact h.1 k' i' j' a (fun q => b ⟨q.1, q.2.1, by omega⟩)
  · rw [me_up_ap]
    by_cases e : i' = N
    · rw [if_pos ⟨rfl, e, rfl⟩, e]
    · rw [if_neg (fun q => e q.2.1)]
      unfold me_zc
      rw [if_neg (fun q => e q.2)]
      exact h.2 i' (by omega)
theorem gc_Z.u27 {μ : me_M} {N : Nat} (h : gc_Z μ N) (i j : Nat) (v : Int32) : gc_Z (me_up μ 27 i j v) N := ⟨fun k' i' j' a b => by rw [me_up_kn a]; exact h.1 k' i' j' a b, fun i' hi => by rw [me_up_kn (by decide)]; exact h.2 i' hi⟩
def gc_Q {α : Type} (P : α → Prop) (o : Option α) : Prop := ∃ t, o = some t ∧ P t
theorem gc_Q.lt {α β : Type} {P : β → Prop} {x : α} {f : α → Option β} (h : ∀ y, y = x → gc_Q P (f y)) : gc_Q P (me_lt x f) := h x rfl
theorem gc_Q.ift {α : Type} {P : α → Prop} {c : Prop} [Decidable c] {a b : Option α} (hc : c) (h : gc_Q P a) : gc_Q P (if c then a else b) := by
  rw [if_pos hc]
  exact h
theorem gc_Q.b3 {α : Type} {P : α → Prop} {Q : me_Nt × me_Rt × me_M → Prop} {x : Option (me_Nt × me_Rt × me_M)} {f : me_Nt → me_Rt → me_M → Option α} (hx : gc_Q Q x) (h : ∀ n r m, Q (n, r, m) → gc_Q P (f n r m)) : gc_Q P (me_b3 x f) := by
  obtain ⟨⟨n, r, m⟩, rfl, hq⟩ := hx
  exact h n r m hq
theorem gc_Q.gP {α : Type} {P : α → Prop} {c : Prop} {a : Option α} (hc : c) (h : gc_Q P a) : gc_Q P (me_gP c a) := by
  unfold me_gP
  rw [if_pos hc]
  exact h
theorem gc_Q.imp {α : Type} {P P' : α → Prop} {o : Option α} (h : gc_Q P o) (hp : ∀ t, P t → P' t) : gc_Q P' o := by
  obtain ⟨t, e, q⟩ := h
  exact ⟨t, e, hp t q⟩
theorem me_ru_kn {r : me_Rt} {k i j : Nat} {q : Nat × Nat} {k' i' j' : Nat} (h : ¬ k' = k) : me_ru r k i j q k' i' j' = r k' i' j' := if_neg fun z => h z.1
theorem me_rn_kn {r : me_Rt} {k i : Nat} {k' i' j' : Nat} (h : ¬ k' = k) : me_rn r k i k' i' j' = r k' i' j' := if_neg fun z => h z.1
theorem me_r0n_0 (i j : Nat) (h1 : j < (me_kt 0).2.2) (h2 : 9 ≤ j) : me_r0 0 i j = none := by
  have h1 : j < 10 := h1
  obtain rfl : j = 9 := by omega
  rfl
theorem me_r0n_1 (i j : Nat) (h1 : j < (me_kt 1).2.2) (h2 : 4 ≤ j) : me_r0 1 i j = none := by
  have h1 : j < 5 := h1
  obtain rfl : j = 4 := by omega
  rfl
theorem me_r0n_6 (i j : Nat) (h1 : j < (me_kt 6).2.2) (h2 : 1 ≤ j) : me_r0 6 i j = none := by
  have h1 : j < 3 := h1
  rcases (show j = 1 ∨ j = 2 by omega) with rfl | rfl <;> rfl
theorem me_r0n_9 (i j : Nat) (h1 : j < (me_kt 9).2.2) (h2 : 3 ≤ j) : me_r0 9 i j = none := by
  have h1 : j < 4 := h1
  obtain rfl : j = 3 := by omega
  rfl
theorem me_r0n_13 (i j : Nat) (h1 : j < (me_kt 13).2.2) (h2 : 3 ≤ j) : me_r0 13 i j = none := by
  have h1 : j < 5 := h1
  rcases (show j = 3 ∨ j = 4 by omega) with rfl | rfl <;> rfl
theorem me_r0n_17 (i j : Nat) (h1 : j < (me_kt 17).2.2) (h2 : 3 ≤ j) : me_r0 17 i j = none := by
  have h1 : j < 8 := h1
  rcases (show j = 3 ∨ j = 4 ∨ j = 5 ∨ j = 6 ∨ j = 7 by omega) with rfl | rfl | rfl | rfl | rfl <;> rfl
theorem me_r0n_22 (i j : Nat) (h1 : j < (me_kt 22).2.2) (h2 : 4 ≤ j) : me_r0 22 i j = none := by
  have h1 : j < 9 := h1
  rcases (show j = 4 ∨ j = 5 ∨ j = 6 ∨ j = 7 ∨ j = 8 by omega) with rfl | rfl | rfl | rfl | rfl <;> rfl
theorem me_r0n_27 (i j : Nat) (h1 : j < (me_kt 27).2.2) (h2 : 4 ≤ j) : me_r0 27 i j = none := by
  have h1 : j < 5 := h1
  obtain rfl : j = 4 := by omega
  rfl
theorem me_r0n_30 (i j : Nat) (h1 : j < (me_kt 30).2.2) (h2 : 5 ≤ j) : me_r0 30 i j = none := by
  have h1 : j < 8 := h1
  rcases (show j = 5 ∨ j = 6 ∨ j = 7 by omega) with rfl | rfl | rfl <;> rfl
theorem y_post : ∀ (d f x : Nat) (n : me_Nt) (r : me_Rt) (μ : me_M), x + d = 200 → d < f → n 8 = x → r 6 0 0 = some (7, 0) → gc_S n r (fun k i j => i = 0 ∧ ((k = 0 ∧ 1 ≤ j ∧ j < 9) ∨ (k = 7 ∧ x ≤ j))) → gc_Z μ x → gc_Q (fun t => (∀ k, ¬ k = 8 → t.1 k = n k) ∧ gc_S t.1 t.2.1 (fun k i j => i = 0 ∧ k = 0 ∧ 1 ≤ j ∧ j < 9) ∧ gc_Z t.2.2 200) (f_Post_lp 0 0 f n r μ (me_N x)) := by
  intro d
  induction d with
  | zero =>
    intro f x n r μ h1 h2 hn h6 hS hZ
    obtain ⟨f, rfl⟩ : ∃ g, f = g + 1 := ⟨f - 1, by omega⟩
    obtain rfl : x = 200 := by omega
    unfold f_Post_lp
    refine gc_Q.ift (by decide) ⟨(n, r, μ), rfl, fun _ _ => rfl, hS.fin (fun k i j hj q => ?_), hZ⟩
    obtain ⟨q1, q2 | ⟨q2, q3⟩⟩ := q
    · exact ⟨q1, q2⟩
    · subst q2
      have hj : j < 200 := hj
      omega
  | succ d ih =>
    intro f x n r μ h1 h2 hn h6 hS hZ
    obtain ⟨f, rfl⟩ : ∃ g, f = g + 1 := ⟨f - 1, by omega⟩
    unfold f_Post_lp
    rw [if_neg (by rw [me_N_200, me_N_le (by omega) (by omega)]; omega)]
    refine gc_Q.ift h6 (gc_Q.ift (me_N_inb (by omega) (by omega)) ?_)
    rw [me_N_ix (by omega), me_N_inc, hn]
    have S1 := hS.np0 8 (fun _ _ => rfl)
    rw [hn] at S1
    have S2 : gc_S (me_np n 8) (me_ru (me_rn r 8 x) 7 0 x (8, x)) (fun k i j => i = 0 ∧ ((k = 0 ∧ 1 ≤ j ∧ j < 9) ∨ (k = 7 ∧ x + 1 ≤ j))) := S1.ru 7 0 x (8, x) rfl (fun k i j q => by omega)
    refine (ih f (x + 1) (me_np n 8) (me_ru (me_rn r 8 x) 7 0 x (8, x)) (me_up (me_zc μ 8 x) 8 x 0 (me_N x)) (by omega) (by omega) (by rw [me_np_at, hn]) h6 S2 hZ.pk).imp (fun t q => ⟨fun k hk => ?_, q.2⟩)
    rw [q.1 k hk, me_np_ne hk]
theorem y_rlp : ∀ (d f x b : Nat) (n : me_Nt) (r : me_Rt) (μ : me_M), x + d = 10 → d < f → n 17 = 10 * b + x → n 18 = 10 * b + x → n 19 = 10 * b + x → n 20 = 10 * b + x → r 13 b 0 = some (14, b) → gc_S n r (fun k i j => (i = 0 ∧ b ≤ j ∧ (k = 12 ∨ k = 21)) ∨ (k = 14 ∧ i = b ∧ x ≤ j)) → gc_Z μ 200 → gc_Q (fun t => (t.1 17 = 10 * b + 10 ∧ t.1 18 = 10 * b + 10 ∧ t.1 19 = 10 * b + 10 ∧ t.1 20 = 10 * b + 10) ∧ (∀ k, ¬ (17 ≤ k ∧ k ≤ 20) → t.1 k = n k) ∧ gc_S t.1 t.2.1 (fun k i j => i = 0 ∧ b ≤ j ∧ (k = 12 ∨ k = 21)) ∧ gc_Z t.2.2 200) (f_Router_lp b b f n r μ (me_N x)) := by
  intro d
  induction d with
  | zero =>
    intro f x b n r μ h1 h2 n17 n18 n19 n20 h13 hS hZ
    obtain ⟨f, rfl⟩ : ∃ g, f = g + 1 := ⟨f - 1, by omega⟩
    obtain rfl : x = 10 := by omega
    unfold f_Router_lp
    refine gc_Q.ift h13 (gc_Q.ift (by decide) ⟨(n, r, μ), rfl, ⟨n17, n18, n19, n20⟩, fun _ _ => rfl, hS.fin (fun k i j hj q => ?_), hZ⟩)
    rcases q with q | ⟨q1, q2, q3⟩
    · exact q
    · subst q1
      have hj : j < 10 := hj
      omega
  | succ d ih =>
    intro f x b n r μ h1 h2 n17 n18 n19 n20 h13 hS hZ
    obtain ⟨f, rfl⟩ : ∃ g, f = g + 1 := ⟨f - 1, by omega⟩
    unfold f_Router_lp
    refine gc_Q.ift h13 ?_
    rw [if_neg (by rw [me_N_10, me_N_le (by omega) (by omega)]; omega)]
    refine gc_Q.ift (me_N_inb (by omega) (by omega)) ?_
    rw [me_N_ix (by omega), me_N_inc]
    have S1 : gc_S (me_np n 17) (me_rn r 17 (n 17)) (fun k i j => (i = 0 ∧ b ≤ j ∧ (k = 12 ∨ k = 21)) ∨ (k = 14 ∧ i = b ∧ x ≤ j) ∨ (k = 17 ∧ i = n 17 ∧ j < 3)) := hS.np 17 (fun k i j q => by omega) (fun j hj q => me_r0n_17 _ j hj (by omega))
    have S2 := (S1.np0 18 (fun _ _ => rfl))
    have S3 : gc_S _ _ (fun k i j => (i = 0 ∧ b ≤ j ∧ (k = 12 ∨ k = 21)) ∨ (k = 14 ∧ i = b ∧ x ≤ j) ∨ (k = 17 ∧ i = n 17 ∧ 1 ≤ j ∧ j < 3)) := S2.ru 17 (n 17) 0 (18, (me_np n 17) 18) (by rw [me_np_ne (by decide), n18, n17]; rfl) (fun k i j q => by omega)
    have S4 := (S3.np0 19 (fun _ _ => rfl))
    have S5 : gc_S _ _ (fun k i j => (i = 0 ∧ b ≤ j ∧ (k = 12 ∨ k = 21)) ∨ (k = 14 ∧ i = b ∧ x ≤ j) ∨ (k = 17 ∧ i = n 17 ∧ 2 ≤ j ∧ j < 3)) := S4.ru 17 (n 17) 1 (19, (me_np (me_np n 17) 18) 19) (by rw [me_np_ne (by decide), me_np_ne (by decide), n19, n17]; rfl) (fun k i j q => by omega)
    have S6 := (S5.np0 20 (fun _ _ => rfl))
    have S7 : gc_S _ _ (fun k i j => (i = 0 ∧ b ≤ j ∧ (k = 12 ∨ k = 21)) ∨ (k = 14 ∧ i = b ∧ x ≤ j)) := S6.ru 17 (n 17) 2 (20, (me_np (me_np (me_np n 17) 18) 19) 20) (by rw [me_np_ne (by decide), me_np_ne (by decide), me_np_ne (by decide), n20, n17]; rfl) (fun k i j q => by omega)
    have S8 : gc_S _ _ (fun k i j => (i = 0 ∧ b ≤ j ∧ (k = 12 ∨ k = 21)) ∨ (k = 14 ∧ i = b ∧ x + 1 ≤ j)) := S7.ru 14 b x (17, n 17) (by rw [n17]; rfl) (fun k i j q => by omega)
    refine (ih f (x + 1) b (n_Row (me_np n 17)) (me_ru (r_Row (me_np n 17) (me_rn r 17 (n 17)) (n 17)) 14 b x (17, (n 17))) (m_Row (me_np n 17) (me_zc μ 17 (n 17)) (n 17)) (by omega) (by omega) (show n 17 + 1 = _ by omega) (show n 18 + 1 = _ by omega) (show n 19 + 1 = _ by omega) (show n 20 + 1 = _ by omega) h13 S8 ((((hZ.zc 17 _ (by decide)).zc 18 _ (by decide)).zc 19 _ (by decide)).zc 20 _ (by decide))).imp (fun t q => ⟨q.1, fun k hk => ?_, q.2.2⟩)
    rw [q.2.1 k hk]
    show me_np (me_np (me_np (me_np n 17) 18) 19) 20 k = n k
    rw [me_np_ne (by omega), me_np_ne (by omega), me_np_ne (by omega), me_np_ne (by omega)]
/-- how many there are, before the x-th node is made -/
def gc_cn (n : me_Nt) (x : Nat) : Prop := (n 13 = x ∧ n 14 = x ∧ n 15 = x ∧ n 16 = x) ∧ (n 17 = 10 * x ∧ n 18 = 10 * x ∧ n 19 = 10 * x ∧ n 20 = 10 * x) ∧ n 22 = x ∧ n 23 = x ∧ n 24 = x ∧ n 25 = x ∧ n 26 = x
theorem y_ri {x : Nat} {n : me_Nt} {r : me_Rt} {μ : me_M} (hn : gc_cn n x) (hS : gc_S n r (fun k i j => i = 0 ∧ x ≤ j ∧ (k = 12 ∨ k = 21))) (hZ : gc_Z μ 200) : gc_Q (fun t => (t.1 17 = 10 * x + 10 ∧ t.1 18 = 10 * x + 10 ∧ t.1 19 = 10 * x + 10 ∧ t.1 20 = 10 * x + 10) ∧ (∀ k, ¬ (17 ≤ k ∧ k ≤ 20) → t.1 k = me_np (me_np (me_np (me_np n 13) 14) 15) 16 k) ∧ gc_S t.1 t.2.1 (fun k i j => i = 0 ∧ x ≤ j ∧ (k = 12 ∨ k = 21)) ∧ gc_Z t.2.2 200) (f_Router_init x (me_np n 13) (me_rn r 13 x) (me_zc μ 13 x)) := by
  obtain ⟨⟨n13, n14, n15, n16⟩, ⟨n17, n18, n19, n20⟩, -⟩ := hn
  have S1 : gc_S (me_np n 13) (me_rn r 13 (n 13)) (fun k i j => (i = 0 ∧ x ≤ j ∧ (k = 12 ∨ k = 21)) ∨ (k = 13 ∧ i = x ∧ j < 3)) := hS.np 13 (fun k i j q => Or.inl q) (fun j hj q => me_r0n_13 _ j hj (by omega))
  rw [n13] at S1
  have m14 : me_np n 13 14 = x := n14
  have m15 : me_np (me_np n 13) 14 15 = x := n15
  have m16 : me_np (me_np (me_np n 13) 14) 15 16 = x := n16
  have S2 : gc_S (me_np (me_np n 13) 14) (me_rn (me_rn r 13 x) 14 (me_np n 13 14)) (fun k i j => (i = 0 ∧ x ≤ j ∧ (k = 12 ∨ k = 21)) ∨ (k = 13 ∧ i = x ∧ j < 3) ∨ (k = 14 ∧ i = x)) := S1.np 14 (fun k i j q => by omega) (fun j hj q => absurd (show _ from Or.inr (Or.inr ⟨rfl, m14⟩)) q)
  have S3 : gc_S _ _ (fun k i j => (i = 0 ∧ x ≤ j ∧ (k = 12 ∨ k = 21)) ∨ (k = 13 ∧ i = x ∧ 1 ≤ j ∧ j < 3) ∨ (k = 14 ∧ i = x)) := S2.ru 13 x 0 (14, me_np n 13 14) (by rw [m14]; rfl) (fun k i j q => by omega)
  have S4 := S3.np0 15 (fun _ _ => rfl)
  have S5 : gc_S _ _ (fun k i j => (i = 0 ∧ x ≤ j ∧ (k = 12 ∨ k = 21)) ∨ (k = 13 ∧ i = x ∧ 2 ≤ j ∧ j < 3) ∨ (k = 14 ∧ i = x)) := S4.ru 13 x 1 (15, (me_np (me_np n 13) 14) 15) (by rw [m15]; rfl) (fun k i j q => by omega)
  have S6 := S5.np0 16 (fun _ _ => rfl)
  have S7 : gc_S _ _ (fun k i j => (i = 0 ∧ x ≤ j ∧ (k = 12 ∨ k = 21)) ∨ (k = 14 ∧ i = x ∧ 0 ≤ j)) := S6.ru 13 x 2 (16, (me_np (me_np (me_np n 13) 14) 15) 16) (by rw [m16]; rfl) (fun k i j q => by omega)
  unfold f_Router_init
  generalize hF : (11 : Nat) = F
  have e13 : (me_ru (me_rn (me_ru (me_rn (me_ru (me_rn (me_rn r 13 x) 14 (me_np n 13 14)) 13 x 0 (14, me_np n 13 14)) 15 (me_np (me_np n 13) 14 15)) 13 x 1 (15, me_np (me_np n 13) 14 15)) 16 (me_np (me_np (me_np n 13) 14) 15 16)) 13 x 2 (16, me_np (me_np (me_np n 13) 14) 15 16)) 13 x 0 = some (14, x) := by
    unfold me_ru me_rn
    simp [m14]
  have z := y_rlp 10 F 0 x (me_np (me_np (me_np (me_np n 13) 14) 15) 16) _ _ (by omega) (by omega) (show n 17 = _ from n17) (show n 18 = _ from n18) (show n 19 = _ from n19) (show n 20 = _ from n20) e13 S7 ((((hZ.zc 13 x (by decide)).zc 14 (me_np n 13 14) (by decide)).zc 15 (me_np (me_np n 13) 14 15) (by decide)).zc 16 (me_np (me_np (me_np n 13) 14) 15 16) (by decide))
  rw [show f_Router_lp x (me_np n 13 14) F = f_Router_lp x x F by rw [m14]]
  exact z
