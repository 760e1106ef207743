/-! FROM THE ROWS OF whole that speak of the class alone (taken out by gen/extract.py) -/
theorem gc_Q.gP {α : Type} {P : α → Prop} {c : Prop} {a : Option α} (hc : c) (h : gc_Q P a) : gc_Q P (me_gP c a) := by
  unfold me_gP
  rw [if_pos hc]
  exact h
theorem gc_Q.imp {α : Type} {P P' : α → Prop} {o : Option α} (h : gc_Q P o) (hp : ∀ t, P t → P' t) : gc_Q P' o := by
  obtain ⟨t, e, q⟩ := h
  exact ⟨t, e, hp t q⟩
theorem me_rn_kn {r : me_Rt} {k i : Nat} {k' i' j' : Nat} (h : ¬ k' = k) : me_rn r k i k' i' j' = r k' i' j' := if_neg fun z => h z.1
theorem me_r0n_0 (i j : Nat) (h1 : j < (me_kt 0).2.2) (h2 : 9 ≤ j) : me_r0 0 i j = none := by
  have h1 : j < 10 := h1
  obtain rfl : j = 9 := by omega
  rfl
theorem me_r0n_1 (i j : Nat) (h1 : j < (me_kt 1).2.2) (h2 : 4 ≤ j) : me_r0 1 i j = none := by
  have h1 : j < 5 := h1
  obtain rfl : j = 4 := by omega
  rfl
theorem me_r0n_6 (i j : Nat) (h1 : j < (me_kt 6).2.2) (h2 : 1 ≤ j) : me_r0 6 i j = none := by
  have h1 : j < 3 := h1
  rcases (show j = 1 ∨ j = 2 by omega) with rfl | rfl <;> rfl
theorem me_r0n_9 (i j : Nat) (h1 : j < (me_kt 9).2.2) (h2 : 3 ≤ j) : me_r0 9 i j = none := by
  have h1 : j < 4 := h1
  obtain rfl : j = 3 := by omega
  rfl
theorem me_r0n_13 (i j : Nat) (h1 : j < (me_kt 13).2.2) (h2 : 3 ≤ j) : me_r0 13 i j = none := by
  have h1 : j < 5 := h1
  rcases (show j = 3 ∨ j = 4 by omega) with rfl | rfl <;> rfl
theorem me_r0n_17 (i j : Nat) (h1 : j < (me_kt 17).2.2) (h2 : 3 ≤ j) : me_r0 17 i j = none := by
  have h1 : j < 8 := h1
  rcases (show j = 3 ∨ j = 4 ∨ j = 5 ∨ j = 6 ∨ j = 7 by omega) with rfl | rfl | rfl | rfl | rfl <;> rfl
theorem me_r0n_22 (i j : Nat) (h1 : j < (me_kt 22).2.2) (h2 : 4 ≤ j) : me_r0 22 i j = none := by
  have h1 : j < 9 := h1
  rcases (show j = 4 ∨ j = 5 ∨ j = 6 ∨ j = 7 ∨ j = 8 by omega) with rfl | rfl | rfl | rfl | rfl <;> rfl
theorem me_r0n_27 (i j : Nat) (h1 : j < (me_kt 27).2.2) (h2 : 4 ≤ j) : me_r0 27 i j = none := by
  have h1 : j < 5 := h1
  obtain rfl : j = 4 := by omega
  rfl
theorem me_r0n_30 (i j : Nat) (h1 : j < (me_kt 30).2.2) (h2 : 5 ≤ j) : me_r0 30 i j = none := by
  have h1 : j < 8 := h1
  rcases (show j = 5 ∨ j = 6 ∨ j = 7 by omega) with rfl | rfl | rfl <;> rfl
theorem y_post : ∀ (d f x : Nat) (n : me_Nt) (r : me_Rt) (μ : me_M), x + d = 200 → d < f → n 8 = x → r 6 0 0 = some (7, 0) → gc_S n r (fun k i j => i = 0 ∧ ((k = 0 ∧ 1 ≤ j ∧ j < 9) ∨ (k = 7 ∧ x ≤ j))) → gc_Z μ x → gc_Q (fun t => (∀ k, ¬ k = 8 → t.1 k = n k) ∧ gc_S t.1 t.2.1 (fun k i j => i = 0 ∧ k = 0 ∧ 1 ≤ j ∧ j < 9) ∧ gc_Z t.2.2 200) (f_Post_lp 0 0 f n r μ (me_N x)) := by
  intro d
  induction d with
  | zero =>
    intro f x n r μ h1 h2 hn h6 hS hZ
    obtain ⟨f, rfl⟩ : ∃ g, f = g + 1 := ⟨f - 1, by omega⟩
    obtain rfl : x = 200 := by omega
    unfold f_Post_lp
    refine gc_Q.ift (by decide) ⟨(n, r, μ), rfl, fun _ _ => rfl, hS.fin (fun k i j hj q => ?_), hZ⟩
    obtain ⟨q1, q2 | ⟨q2, q3⟩⟩ := q
    · exact ⟨q1, q2⟩
    · subst q2
      have hj : j < 200 := hj
      omega
  | succ d ih =>
    intro f x n r μ h1 h2 hn h6 hS hZ
    obtain ⟨f, rfl⟩ : ∃ g, f = g + 1 := ⟨f - 1, by omega⟩
    unfold f_Post_lp
    rw [if_neg (by rw [me_N_200, me_N_le (by omega) (by omega)]; omega)]
    refine gc_Q.ift h6 (gc_Q.ift (me_N_inb (by omega) (by omega)) ?_)
    rw [me_N_ix (by omega), me_N_inc, hn]
    have S1 := hS.np0 8 (fun _ _ => rfl)
    rw [hn] at S1
    have S2 : gc_S (me_np n 8) (me_ru (me_rn r 8 x) 7 0 x (8, x)) (fun k i j => i = 0 ∧ ((k = 0 ∧ 1 ≤ j ∧ j < 9) ∨ (k = 7 ∧ x + 1 ≤ j))) := S1.ru 7 0 x (8, x) rfl (fun k i j q => by omega)
    refine (ih f (x + 1) (me_np n 8) (me_ru (me_rn r 8 x) 7 0 x (8, x)) (me_up (me_zc μ 8 x) 8 x 0 (me_N x)) (by omega) (by omega) (by rw [me_np_at, hn]) h6 S2 hZ.pk).imp (fun t q => ⟨fun k hk => ?_, q.2⟩)
    rw [q.1 k hk, me_np_ne hk]
theorem y_rlp : ∀ (d f x b : Nat) (n : me_Nt) (r : me_Rt) (μ : me_M), x + d = 10 → d < f → n 17 = 10 * b + x → n 18 = 10 * b + x → n 19 = 10 * b + x → n 20 = 10 * b + x → r 13 b 0 = some (14, b) → gc_S n r (fun k i j => (i = 0 ∧ b ≤ j ∧ (k = 12 ∨ k = 21)) ∨ (k = 14 ∧ i = b ∧ x ≤ j)) → gc_Z μ 200 → gc_Q (fun t => (t.1 17 = 10 * b + 10 ∧ t.1 18 = 10 * b + 10 ∧ t.1 19 = 10 * b + 10 ∧ t.1 20 = 10 * b + 10) ∧ (∀ k, ¬ (17 ≤ k ∧ k ≤ 20) → t.1 k = n k) ∧ gc_S t.1 t.2.1 (fun k i j => i = 0 ∧ b ≤ j ∧ (k = 12 ∨ k = 21)) ∧ gc_Z t.2.2 200) (f_Router_lp b b f n r μ (me_N x)) := by
  intro d
  induction d with
  | zero =>
    intro f x b n r μ h1 h2 n17 n18 n19 n20 h13 hS hZ
    obtain ⟨f, rfl⟩ : ∃ g, f = g + 1 := ⟨f - 1, by omega⟩
    obtain rfl : x = 10 := by omega
    unfold f_Router_lp
    refine gc_Q.ift h13 (gc_Q.ift (by decide) ⟨(n, r, μ), rfl, ⟨n17, n18, n19, n20⟩, fun _ _ => rfl, hS.fin (fun k i j hj q => ?_), hZ⟩)
    rcases q with q | ⟨q1, q2, q3⟩
    · exact q
    · subst q1
      have hj : j < 10 := hj
      omega
  | succ d ih =>
    intro f x b n r μ h1 h2 n17 n18 n19 n20 h13 hS hZ
    obtain ⟨f, rfl⟩ : ∃ g, f = g + 1 := ⟨f - 1, by omega⟩
    unfold f_Router_lp
    refine gc_Q.ift h13 ?_
    rw [if_neg (by rw [me_N_10, me_N_le (by omega) (by omega)]; omega)]
    refine gc_Q.ift (me_N_inb (by omega) (by omega)) ?_
    rw [me_N_ix (by omega), me_N_inc]
    have S1 : gc_S (me_np n 17) (me_rn r 17 (n 17)) (fun k i j => (i = 0 ∧ b ≤ j ∧ (k = 12 ∨ k = 21)) ∨ (k = 14 ∧ i = b ∧ x ≤ j) ∨ (k = 17 ∧ i = n 17 ∧ j < 3)) := hS.np 17 (fun k i j q => by omega) (fun j hj q => me_r0n_17 _ j hj (by omega))
    have S2 := (S1.np0 18 (fun _ _ => rfl))
    have S3 : gc_S _ _ (fun k i j => (i = 0 ∧ b ≤ j ∧ (k = 12 ∨ k = 21)) ∨ (k = 14 ∧ i = b ∧ x ≤ j) ∨ (k = 17 ∧ i = n 17 ∧ 1 ≤ j ∧ j < 3)) := S2.ru 17 (n 17) 0 (18, (me_np n 17) 18) (by rw [me_np_ne (by decide), n18, n17]; rfl) (fun k i j q => by omega)
    have S4 := (S3.np0 19 (fun _ _ => rfl))
    have S5 : gc_S _ _ (fun k i j => (i = 0 ∧ b ≤ j ∧ (k = 12 ∨ k = 21)) ∨ (k = 14 ∧ i = b ∧ x ≤ j) ∨ (k = 17 ∧ i = n 17 ∧ 2 ≤ j ∧ j < 3)) := S4.ru 17 (n 17) 1 (19, (me_np (me_np n 17) 18) 19) (by rw [me_np_ne (by decide), me_np_ne (by decide), n19, n17]; rfl) (fun k i j q => by omega)
    have S6 := (S5.np0 20 (fun _ _ => rfl))
    have S7 : gc_S _ _ (fun k i j => (i = 0 ∧ b ≤ j ∧ (k = 12 ∨ k = 21)) ∨ (k = 14 ∧ i = b ∧ x ≤ j)) := S6.ru 17 (n 17) 2 (20, (me_np (me_np (me_np n 17) 18) 19) 20) (by rw [me_np_ne (by decide), me_np_ne (by decide), me_np_ne (by decide), n20, n17]; rfl) (fun k i j q => by omega)
    have S8 : gc_S _ _ (fun k i j => (i = 0 ∧ b ≤ j ∧ (k = 12 ∨ k = 21)) ∨ (k = 14 ∧ i = b ∧ x + 1 ≤ j)) := S7.ru 14 b x (17, n 17) (by rw [n17]; rfl) (fun k i j q => by omega)
    refine (ih f (x + 1) b (n_Row (me_np n 17)) (me_ru (r_Row (me_np n 17) (me_rn r 17 (n 17)) (n 17)) 14 b x (17, (n 17))) (m_Row (me_np n 17) (me_zc μ 17 (n 17)) (n 17)) (by omega) (by omega) (show n 17 + 1 = _ by omega) (show n 18 + 1 = _ by omega) (show n 19 + 1 = _ by omega) (show n 20 + 1 = _ by omega) h13 S8 ((((hZ.zc 17 _ (by decide)).zc 18 _ (by decide)).zc 19 _ (by decide)).zc 20 _ (by decide))).imp (fun t q => ⟨q.1, fun k hk => ?_, q.2.2⟩)
    rw [q.2.1 k hk]
    show me_np (me_np (me_np (me_np n 17) 18) 19) 20 k = n k
    rw [me_np_ne (by omega), me_np_ne (by omega), me_np_ne (by omega), me_np_ne (by omega)]
/-- how many there are, before the x-th node is made -/
def gc_cn (n : me_Nt) (x : Nat) : Prop := (n 13 = x ∧ n 14 = x ∧ n 15 = x ∧ n 16 = x) ∧ (n 17 = 10 * x ∧ n 18 = 10 * x ∧ n 19 = 10 * x ∧ n 20 = 10 * x) ∧ n 22 = x ∧ n 23 = x ∧ n 24 = x ∧ n 25 = x ∧ n 26 = x
theorem y_ri {x : Nat} {n : me_Nt} {r : me_Rt} {μ : me_M} (hn : gc_cn n x) (hS : gc_S n r (fun k i j => i = 0 ∧ x ≤ j ∧ (k = 12 ∨ k = 21))) (hZ : gc_Z μ 200) : gc_Q (fun t => (t.1 17 = 10 * x + 10 ∧ t.1 18 = 10 * x + 10 ∧ t.1 19 = 10 * x + 10 ∧ t.1 20 = 10 * x + 10) ∧ (∀ k, ¬ (17 ≤ k ∧ k ≤ 20) → t.1 k = me_np (me_np (me_np (me_np n 13) 14) 15) 16 k) ∧ gc_S t.1 t.2.1 (fun k i j => i = 0 ∧ x ≤ j ∧ (k = 12 ∨ k = 21)) ∧ gc_Z t.2.2 200) (f_Router_init x (me_np n 13) (me_rn r 13 x) (me_zc μ 13 x)) := by
  obtain ⟨⟨n13, n14, n15, n16⟩, ⟨n17, n18, n19, n20⟩, -⟩ := hn
  have S1 : gc_S (me_np n 13) (me_rn r 13 (n 13)) (fun k i j => (i = 0 ∧ x ≤ j ∧ (k = 12 ∨ k = 21)) ∨ (k = 13 ∧ i = x ∧ j < 3)) := hS.np 13 (fun k i j q => Or.inl q) (fun j hj q => me_r0n_13 _ j hj (by omega))
  rw [n13] at S1
  have m14 : me_np n 13 14 = x := n14
  have m15 : me_np (me_np n 13) 14 15 = x := n15
  have m16 : me_np (me_np (me_np n 13) 14) 15 16 = x := n16
  have S2 : gc_S (me_np (me_np n 13) 14) (me_rn (me_rn r 13 x) 14 (me_np n 13 14)) (fun k i j => (i = 0 ∧ x ≤ j ∧ (k = 12 ∨ k = 21)) ∨ (k = 13 ∧ i = x ∧ j < 3) ∨ (k = 14 ∧ i = x)) := S1.np 14 (fun k i j q => by omega) (fun j hj q => absurd (show _ from Or.inr (Or.inr ⟨rfl, m14⟩)) q)
  have S3 : gc_S _ _ (fun k i j => (i = 0 ∧ x ≤ j ∧ (k = 12 ∨ k = 21)) ∨ (k = 13 ∧ i = x ∧ 1 ≤ j ∧ j < 3) ∨ (k = 14 ∧ i = x)) := S2.ru 13 x 0 (14, me_np n 13 14) (by rw [m14]; rfl) (fun k i j q => by omega)
  have S4 := S3.np0 15 (fun _ _ => rfl)
  have S5 : gc_S _ _ (fun k i j => (i = 0 ∧ x ≤ j ∧ (k = 12 ∨ k = 21)) ∨ (k = 13 ∧ i = x ∧ 2 ≤ j ∧ j < 3) ∨ (k = 14 ∧ i = x)) := S4.ru 13 x 1 (15, (me_np (me_np n 13) 14) 15) (by rw [m15]; rfl) (fun k i j q => by omega)
  have S6 := S5.np0 16 (fun _ _ => rfl)
  have S7 : gc_S _ _ (fun k i j => (i = 0 ∧ x ≤ j ∧ (k = 12 ∨ k = 21)) ∨ (k = 14 ∧ i = x ∧ 0 ≤ j)) := S6.ru 13 x 2 (16, (me_np (me_np (me_np n 13) 14) 15) 16) (by rw [m16]; rfl) (fun k i j q => by omega)
  unfold f_Router_init
  generalize hF : (11 : Nat) = F
  have e13 : (me_ru (me_rn (me_ru (me_rn (me_ru (me_rn (me_rn r 13 x) 14 (me_np n 13 14)) 13 x 0 (14, me_np n 13 14)) 15 (me_np (me_np n 13) 14 15)) 13 x 1 (15, me_np (me_np n 13) 14 15)) 16 (me_np (me_np (me_np n 13) 14) 15 16)) 13 x 2 (16, me_np (me_np (me_np n 13) 14) 15 16)) 13 x 0 = some (14, x) := by
    unfold me_ru me_rn
    simp [m14]
  have z := y_rlp 10 F 0 x (me_np (me_np (me_np (me_np n 13) 14) 15) 16) _ _ (by omega) (by omega) (show n 17 = _ from n17) (show n 18 = _ from n18) (show n 19 = _ from n19) (show n 20 = _ from n20) e13 S7 ((((hZ.zc 13 x (by decide)).zc 14 (me_np n 13 14) (by decide)).zc 15 (me_np (me_np n 13) 14 15) (by decide)).zc 16 (me_np (me_np (me_np n 13) 14) 15 16) (by decide))
  rw [show f_Router_lp x (me_np n 13 14) F = f_Router_lp x x F by rw [m14]]
  exact z
theorem gc_c1 {n : me_Nt} {r : me_Rt} {x : Nat} (S : gc_S n r (fun k i j => i = 0 ∧ x ≤ j ∧ (k = 12 ∨ k = 21))) : gc_S n (me_ru r 12 0 x (13, x)) (fun k i j => i = 0 ∧ ((k = 12 ∧ x + 1 ≤ j) ∨ (k = 21 ∧ x ≤ j))) := gc_S.ru S 12 0 x (13, x) rfl (fun k i j q => by omega)
theorem gc_c2 {n no : me_Nt} {x : Nat} (hn : gc_cn n x) (ha : no 17 = 10 * x + 10 ∧ no 18 = 10 * x + 10 ∧ no 19 = 10 * x + 10 ∧ no 20 = 10 * x + 10) (hk : ∀ k, ¬ (17 ≤ k ∧ k ≤ 20) → no k = me_np (me_np (me_np (me_np n 13) 14) 15) 16 k) : no 22 = x ∧ no 23 = x ∧ no 24 = x ∧ no 25 = x ∧ no 26 = x := by
  obtain ⟨-, -, n22, n23, n24, n25, n26⟩ := hn
  have key : ∀ k, 20 < k → no k = n k := fun k h => by
    rw [hk k (by omega), me_np_ne (by omega), me_np_ne (by omega), me_np_ne (by omega), me_np_ne (by omega)]
  exact ⟨(key 22 (by decide)).trans n22, (key 23 (by decide)).trans n23, (key 24 (by decide)).trans n24, (key 25 (by decide)).trans n25, (key 26 (by decide)).trans n26⟩
theorem gc_c3 {n no : me_Nt} {x : Nat} (hn : gc_cn n x) (ha : no 17 = 10 * x + 10 ∧ no 18 = 10 * x + 10 ∧ no 19 = 10 * x + 10 ∧ no 20 = 10 * x + 10) (hk : ∀ k, ¬ (17 ≤ k ∧ k ≤ 20) → no k = me_np (me_np (me_np (me_np n 13) 14) 15) 16 k) : gc_cn (n_Core (me_np no 22)) (x + 1) := by
  obtain ⟨m22, m23, m24, m25, m26⟩ := gc_c2 hn ha hk
  obtain ⟨⟨n13, n14, n15, n16⟩, -, -⟩ := hn
  obtain ⟨a17, a18, a19, a20⟩ := ha
  have lo : ∀ k, k < 22 → n_Core (me_np no 22) k = no k := fun k h => by
    unfold n_Core
    rw [me_np_ne (by omega), me_np_ne (by omega), me_np_ne (by omega), me_np_ne (by omega), me_np_ne (by omega)]
  have m13 : no 13 = x + 1 := by
    rw [hk 13 (by decide), me_np_ne (by decide), me_np_ne (by decide), me_np_ne (by decide), me_np_at, n13]
  have m14 : no 14 = x + 1 := by
    rw [hk 14 (by decide), me_np_ne (by decide), me_np_ne (by decide), me_np_at, me_np_ne (by decide), n14]
  have m15 : no 15 = x + 1 := by
    rw [hk 15 (by decide), me_np_ne (by decide), me_np_at, me_np_ne (by decide), me_np_ne (by decide), n15]
  have m16 : no 16 = x + 1 := by
    rw [hk 16 (by decide), me_np_at, me_np_ne (by decide), me_np_ne (by decide), me_np_ne (by decide), n16]
  have e22 : n_Core (me_np no 22) 22 = x + 1 := by
    unfold n_Core
    rw [me_np_ne (by decide), me_np_ne (by decide), me_np_ne (by decide), me_np_ne (by decide), me_np_at, m22]
  have e23 : n_Core (me_np no 22) 23 = x + 1 := by
    unfold n_Core
    rw [me_np_ne (by decide), me_np_ne (by decide), me_np_ne (by decide), me_np_at, me_np_ne (by decide), m23]
  have e24 : n_Core (me_np no 22) 24 = x + 1 := by
    unfold n_Core
    rw [me_np_ne (by decide), me_np_ne (by decide), me_np_at, me_np_ne (by decide), me_np_ne (by decide), m24]
  have e25 : n_Core (me_np no 22) 25 = x + 1 := by
    unfold n_Core
    rw [me_np_ne (by decide), me_np_at, me_np_ne (by decide), me_np_ne (by decide), me_np_ne (by decide), m25]
  have e26 : n_Core (me_np no 22) 26 = x + 1 := by
    unfold n_Core
    rw [me_np_at, me_np_ne (by decide), me_np_ne (by decide), me_np_ne (by decide), me_np_ne (by decide), m26]
  exact ⟨⟨(lo 13 (by decide)).trans m13, (lo 14 (by decide)).trans m14, (lo 15 (by decide)).trans m15, (lo 16 (by decide)).trans m16⟩, ⟨(lo 17 (by decide)).trans a17, (lo 18 (by decide)).trans a18, (lo 19 (by decide)).trans a19, (lo 20 (by decide)).trans a20⟩, e22, e23, e24, e25, e26⟩
theorem gc_c6 (x : Nat) : ¬ ((0 : Nat) = 0 ∧ (((0 : Nat) = 12 ∧ x + 1 ≤ 4) ∨ ((0 : Nat) = 21 ∧ x ≤ 4))) := by
  omega
theorem gc_c5 {no : me_Nt} {μ : me_M} (Z : gc_Z μ 200) : gc_Z (m_Core (me_np no 22) (me_zc μ 22 (no 22)) (no 22)) 200 := ((((Z.zc 22 _ (by decide)).zc 23 _ (by decide)).zc 24 _ (by decide)).zc 25 _ (by decide)).zc 26 _ (by decide)
theorem gc_c4 {no : me_Nt} {ro : me_Rt} {x : Nat} (hc : no 22 = x ∧ no 23 = x ∧ no 24 = x ∧ no 25 = x ∧ no 26 = x) (S0 : gc_S no ro (fun k i j => i = 0 ∧ ((k = 12 ∧ x + 1 ≤ j) ∨ (k = 21 ∧ x ≤ j)))) : gc_S (n_Core (me_np no 22)) (me_ru (r_Core (me_np no 22) (me_rn ro 22 (no 22)) (no 22)) 21 0 x (22, no 22)) (fun k i j => i = 0 ∧ x + 1 ≤ j ∧ (k = 12 ∨ k = 21)) := by
  obtain ⟨m22, m23, m24, m25, m26⟩ := hc
  have S1 : gc_S (me_np no 22) (me_rn ro 22 (no 22)) (fun k i j => (i = 0 ∧ ((k = 12 ∧ x + 1 ≤ j) ∨ (k = 21 ∧ x ≤ j))) ∨ (k = 22 ∧ i = no 22 ∧ j < 4)) := S0.np 22 (fun k i j q => by omega) (fun j hj q => me_r0n_22 _ j hj (by omega))
  have U23 := S1.np0 23 (fun _ _ => rfl)
  have V23 : gc_S _ _ (fun k i j => (i = 0 ∧ ((k = 12 ∧ x + 1 ≤ j) ∨ (k = 21 ∧ x ≤ j))) ∨ (k = 22 ∧ i = no 22 ∧ 1 ≤ j ∧ j < 4)) := U23.ru 22 (no 22) 0 (23, (me_np no 22) 23) (by rw [me_np_ne (by decide), m23, m22]; rfl) (fun k i j q => by omega)
  have U24 := V23.np0 24 (fun _ _ => rfl)
  have V24 : gc_S _ _ (fun k i j => (i = 0 ∧ ((k = 12 ∧ x + 1 ≤ j) ∨ (k = 21 ∧ x ≤ j))) ∨ (k = 22 ∧ i = no 22 ∧ 2 ≤ j ∧ j < 4)) := U24.ru 22 (no 22) 1 (24, (me_np (me_np no 22) 23) 24) (by rw [me_np_ne (by decide), me_np_ne (by decide), m24, m22]; rfl) (fun k i j q => by omega)
  have U25 := V24.np0 25 (fun _ _ => rfl)
  have V25 : gc_S _ _ (fun k i j => (i = 0 ∧ ((k = 12 ∧ x + 1 ≤ j) ∨ (k = 21 ∧ x ≤ j))) ∨ (k = 22 ∧ i = no 22 ∧ 3 ≤ j ∧ j < 4)) := U25.ru 22 (no 22) 2 (25, (me_np (me_np (me_np no 22) 23) 24) 25) (by rw [me_np_ne (by decide), me_np_ne (by decide), me_np_ne (by decide), m25, m22]; rfl) (fun k i j q => by omega)
  have U26 := V25.np0 26 (fun _ _ => rfl)
  have V26 : gc_S _ _ (fun k i j => i = 0 ∧ ((k = 12 ∧ x + 1 ≤ j) ∨ (k = 21 ∧ x ≤ j))) := U26.ru 22 (no 22) 3 (26, (me_np (me_np (me_np (me_np no 22) 23) 24) 25) 26) (by rw [me_np_ne (by decide), me_np_ne (by decide), me_np_ne (by decide), me_np_ne (by decide), m26, m22]; rfl) (fun k i j q => by omega)
  exact V26.ru 21 0 x (22, no 22) (by rw [m22]; rfl) (fun k i j q => by omega)
theorem y_loop : ∀ (d f x : Nat) (n : me_Nt) (r : me_Rt) (μ : me_M), x + d = 16 → d < f → gc_cn n x → n 0 = 1 → gc_S n r (fun k i j => i = 0 ∧ x ≤ j ∧ (k = 12 ∨ k = 21)) → gc_Z μ 200 → gc_Q (fun t => (∀ k, ¬ (13 ≤ k ∧ k ≤ 26) → t.1 k = n k) ∧ gc_S t.1 t.2.1 (fun _ _ _ => False) ∧ gc_Z t.2.2 200) (f_Y_lp 0 0 0 f n r μ (me_N x)) := by
  intro d
  induction d with
  | zero =>
    intro f x n r μ h1 h2 hn h0 hS hZ
    obtain ⟨f, rfl⟩ : ∃ g, f = g + 1 := ⟨f - 1, by omega⟩
    obtain rfl : x = 16 := by omega
    unfold f_Y_lp
    refine gc_Q.ift (by decide) ⟨(n, r, μ), rfl, fun _ _ => rfl, hS.fin (fun k i j hj q => ?_), hZ⟩
    obtain ⟨q1, q2, rfl | rfl⟩ := q
    · have hj : j < 16 := hj
      omega
    · have hj : j < 16 := hj
      omega
  | succ d ih =>
    intro f x n r μ h1 h2 hn h0 hS hZ
    obtain ⟨f, rfl⟩ : ∃ g, f = g + 1 := ⟨f - 1, by omega⟩
    unfold f_Y_lp
    rw [if_neg (by rw [me_N_16, me_N_le (by omega) (by omega)]; omega)]
    refine gc_Q.ift (me_N_inb (by omega) (by omega)) (gc_Q.ift ?_ ?_)
    · exact (hS 0 0 3 (by decide) (by omega) (by decide) (by omega)).trans rfl
    have n13 := hn.1.1
    rw [me_N_ix (by omega), me_N_inc, n13]
    refine gc_Q.b3 (y_ri hn hS hZ) (fun no ro μo q => ?_)
    obtain ⟨ha, hk, S, Z⟩ := q
    have ha : no 17 = 10 * x + 10 ∧ no 18 = 10 * x + 10 ∧ no 19 = 10 * x + 10 ∧ no 20 = 10 * x + 10 := ha
    have hk : ∀ k, ¬ (17 ≤ k ∧ k ≤ 20) → no k = me_np (me_np (me_np (me_np n 13) 14) 15) 16 k := hk
    have m0 : no 0 = 1 := by
      rw [hk 0 (by decide), me_np_ne (by decide), me_np_ne (by decide), me_np_ne (by decide), me_np_ne (by decide)]
      exact h0
    have S : gc_S no ro (fun k i j => i = 0 ∧ x ≤ j ∧ (k = 12 ∨ k = 21)) := S
    have Z : gc_Z μo 200 := Z
    have S0 := gc_c1 S
    have hc := gc_c2 hn ha hk
    have c9 := gc_c3 hn ha hk
    have S9 := gc_c4 hc S0
    have Z9 := gc_c5 (no := no) Z
    refine gc_Q.ift ((S0 0 0 4 (by decide) (by rw [m0]; decide) (by decide) (gc_c6 x)).trans rfl) ?_
    refine gc_Q.lt (fun n1 e1 => gc_Q.lt (fun r1 e2 => gc_Q.lt (fun μ1 e3 => ?_)))
    rw [← e1] at c9 S9
    rw [← e2] at S9
    rw [← e3] at Z9
    have m1 : n1 0 = 1 := by
      rw [e1]
      exact m0
    refine (ih f (x + 1) n1 r1 μ1 (by omega) (by omega) c9 m1 S9 Z9).imp (fun t q => ⟨fun k hk2 => ?_, q.2⟩)
    rw [q.1 k hk2, e1]
    show me_np (me_np (me_np (me_np (me_np no 22) 23) 24) 25) 26 k = n k
    rw [me_np_ne (by omega), me_np_ne (by omega), me_np_ne (by omega), me_np_ne (by omega), me_np_ne (by omega), hk k (by omega), me_np_ne (by omega), me_np_ne (by omega), me_np_ne (by omega), me_np_ne (by omega)]
def gc_a0 : me_S := ((fun _ => 0), (fun _ => 0), (fun _ _ => 0), (fun _ _ => 0), (fun _ _ => none), (fun _ _ => []), (fun _ _ _ => 0), (fun _ _ => true), (fun _ _ _ => 0))
theorem gc_rc0 {μ : me_M} (h : gc_Z μ 200) : gh_RC0 gc_a0 μ := by
  have z : ∀ i j, ¬ j = 0 → μ 8 i j = 0 := fun i j hj => h.1 8 i j (by decide) (fun q => hj q.2.1)
  exact ⟨⟨h.1 0 0 9 (by decide) (by omega), fun r _ => h.1 17 r 4 (by decide) (by omega)⟩, h.2, fun i => ⟨z i 1 (by decide), z i 2 (by decide), z i 3 (by decide), z i 4 (by decide), z i 5 (by decide), z i 7 (by decide), z i 8 (by decide), z i 10 (by decide), z i 12 (by decide), z i 13 (by decide)⟩⟩
theorem gc_Q.b2 {α β γ : Type} {P : γ → Prop} {x : Option (α × β)} {f : α → β → Option γ} {a : α} {b : β} (hx : x = some (a, b)) (h : gc_Q P (f a b)) : gc_Q P (me_b2 x f) := by
  rw [hx]
  exact h
theorem y_init0 {n : me_Nt} {r : me_Rt} {μ : me_M} (hz : ∀ k, 0 < k → n k = 0) (o0 : n 0 = 1) (hS : gc_S n r (fun k i j => i = 0 ∧ (k = 0 ∧ 0 ≤ j ∧ j < 9))) (hZ : gc_Z μ 0) : gc_Q (fun t => (∀ k, 35 < k → t.1 k = 0) ∧ gc_S t.1 t.2.1 (fun _ _ _ => False) ∧ me_RC (gh_nw gc_a0 4 4 2) t.2.2 ∧ (∀ k, 36 ≤ k → ∀ i j, t.2.2 k i j = 0) ∧ ∀ n, n < 16 → t.2.2 13 n 4 = 0) (f_Y_init 0 n r μ) := by
  have i1 : n 1 = 0 := hz 1 (by decide)
  unfold f_Y_init
  refine gc_Q.lt (fun n1 e1 => gc_Q.lt (fun r1 f1 => gc_Q.lt (fun μ1 g1 => ?_)))
  have S1 : gc_S _ _ (fun k i j => i = 0 ∧ ((k = 0 ∧ 0 ≤ j ∧ j < 9) ∨ (k = 1 ∧ 0 ≤ j ∧ j < 4))) := hS.np 1 (fun k i j q => by omega) (fun j hj q => me_r0n_1 _ j hj (by omega))
  have S2 := S1.np0 2 (fun _ _ => rfl)
  have S3 : gc_S _ _ (fun k i j => i = 0 ∧ ((k = 0 ∧ 0 ≤ j ∧ j < 9) ∨ (k = 1 ∧ 1 ≤ j ∧ j < 4))) := S2.ru 1 (n 1) 0 (2, (me_np n 1) 2) (by rw [show (me_np n 1) 2 = 0 from hz 2 (by decide)]; rfl) (fun k i j q => by omega)
  have S4 := S3.np0 3 (fun _ _ => rfl)
  have S5 : gc_S _ _ (fun k i j => i = 0 ∧ ((k = 0 ∧ 0 ≤ j ∧ j < 9) ∨ (k = 1 ∧ 2 ≤ j ∧ j < 4))) := S4.ru 1 (n 1) 1 (3, (me_np (me_np n 1) 2) 3) (by rw [show (me_np (me_np n 1) 2) 3 = 0 from hz 3 (by decide)]; rfl) (fun k i j q => by omega)
  have S6 := S5.np0 4 (fun _ _ => rfl)
  have S7 : gc_S _ _ (fun k i j => i = 0 ∧ ((k = 0 ∧ 0 ≤ j ∧ j < 9) ∨ (k = 1 ∧ 3 ≤ j ∧ j < 4))) := S6.ru 1 (n 1) 2 (4, (me_np (me_np (me_np n 1) 2) 3) 4) (by rw [show (me_np (me_np (me_np n 1) 2) 3) 4 = 0 from hz 4 (by decide)]; rfl) (fun k i j q => by omega)
  have S8 := S7.np0 5 (fun _ _ => rfl)
  have S9 : gc_S _ _ (fun k i j => i = 0 ∧ ((k = 0 ∧ 0 ≤ j ∧ j < 9))) := S8.ru 1 (n 1) 3 (5, (me_np (me_np (me_np (me_np n 1) 2) 3) 4) 5) (by rw [show (me_np (me_np (me_np (me_np n 1) 2) 3) 4) 5 = 0 from hz 5 (by decide)]; rfl) (fun k i j q => by omega)
  have S10 : gc_S _ _ (fun k i j => i = 0 ∧ ((k = 0 ∧ 1 ≤ j ∧ j < 9))) := S9.ru 0 (0) 0 (1, n 1) (by rw [show n 1 = 0 from i1]; rfl) (fun k i j q => by omega)
  have T1 : gc_S n1 r1 (fun k i j => i = 0 ∧ ((k = 0 ∧ 1 ≤ j ∧ j < 9))) := by
    rw [e1, f1]
    exact S10
  have z1 : ∀ k, 5 < k → n1 k = 0 := fun k hk => by
    rw [e1]
    show me_np (me_np (me_np (me_np (me_np n 1) 2) 3) 4) 5 k = 0
    rw [me_np_ne (by omega), me_np_ne (by omega), me_np_ne (by omega), me_np_ne (by omega), me_np_ne (by omega)]
    exact hz k (by omega)
  have o1 : n1 0 = 1 := by
    rw [e1]
    exact o0
  have Z1 : gc_Z μ1 0 := by
    rw [g1]
    exact ((((hZ.zc 1 _ (by decide)).zc 2 _ (by decide)).zc 3 _ (by decide)).zc 4 _ (by decide)).zc 5 _ (by decide)
  have i6 : n1 6 = 0 := z1 6 (by decide)
  have i7 : me_np n1 6 7 = 0 := z1 7 (by decide)
  have S11 : gc_S _ _ (fun k i j => i = 0 ∧ ((k = 0 ∧ 1 ≤ j ∧ j < 9) ∨ (k = 6 ∧ 0 ≤ j ∧ j < 1))) := T1.np 6 (fun k i j q => by omega) (fun j hj q => me_r0n_6 _ j hj (by omega))
  have S12 : gc_S _ _ (fun k i j => i = 0 ∧ ((k = 0 ∧ 1 ≤ j ∧ j < 9) ∨ (k = 6 ∧ 0 ≤ j ∧ j < 1) ∨ k = 7)) := S11.np 7 (fun k i j q => by omega) (fun j hj q => absurd (show _ from ⟨i7, by omega⟩) q)
  have S13 : gc_S _ _ (fun k i j => i = 0 ∧ ((k = 0 ∧ 1 ≤ j ∧ j < 9) ∨ k = 7)) := S12.ru 6 (n1 6) 0 (7, (me_np n1 6) 7) (by rw [show (me_np n1 6) 7 = 0 from i7]; rfl) (fun k i j q => by omega)
  have P0 : gc_Q (fun t => (∀ k, ¬ k = 8 → t.1 k = me_np (me_np n1 6) 7 k) ∧ gc_S t.1 t.2.1 (fun k i j => i = 0 ∧ k = 0 ∧ 1 ≤ j ∧ j < 9) ∧ gc_Z t.2.2 200) (f_Post_init (n1 6) (me_np n1 6) (me_rn r1 6 (n1 6)) (me_zc μ1 6 (n1 6))) := by
    unfold f_Post_init
    rw [i6] at S13 ⊢
    rw [i7] at S13 ⊢
    generalize hF : (201 : Nat) = F
    exact y_post 200 F 0 _ _ _ (by omega) (by omega) (show n1 8 = 0 from z1 8 (by decide)) rfl (S13.fin (fun k i j _ q => by omega)) ((Z1.zc 6 _ (by decide)).zc 7 _ (by decide))
  refine gc_Q.b3 P0 (fun no ro μo q => ?_)
  obtain ⟨q1, Q2, Q3⟩ := q
  have Q2 : gc_S no ro (fun k i j => i = 0 ∧ k = 0 ∧ 1 ≤ j ∧ j < 9) := Q2
  have Q3 : gc_Z μo 200 := Q3
  have zo : ∀ k, 8 < k → no k = 0 := fun k hk => by
    rw [show no k = me_np (me_np n1 6) 7 k from q1 k (by omega), me_np_ne (by omega), me_np_ne (by omega)]
    exact z1 k (by omega)
  have oo : no 0 = 1 := (q1 0 (by decide)).trans o1
  refine gc_Q.lt (fun n2 e2 => gc_Q.lt (fun r2 f2 => gc_Q.lt (fun μ2 g2 => ?_)))
  have S14 : gc_S _ _ (fun k i j => i = 0 ∧ ((k = 0 ∧ 2 ≤ j ∧ j < 9))) := Q2.ru 0 (0) 1 (6, n1 6) (by rw [show n1 6 = 0 from i6]; rfl) (fun k i j q => by omega)
  have T2 : gc_S n2 r2 (fun k i j => i = 0 ∧ ((k = 0 ∧ 2 ≤ j ∧ j < 9))) := by
    rw [e2, f2]
    exact S14
  have z2 : ∀ k, 8 < k → n2 k = 0 := fun k hk => by
    rw [e2]
    exact zo k hk
  have o2 : n2 0 = 1 := by
    rw [e2]
    exact oo
  have Z2 : gc_Z μ2 200 := by
    rw [g2]
    exact Q3
  have i9 : n2 9 = 0 := z2 9 (by decide)
  refine gc_Q.ift ?_ ?_
  · rw [me_rn_kn (by decide), show n 1 = 0 from i1]
    exact (T2 0 0 0 (by decide) (show 0 < n2 0 by omega) (by decide) (by omega)).trans rfl
  refine gc_Q.lt (fun n3 e3 => gc_Q.lt (fun r3 f3 => gc_Q.lt (fun μ3 g3 => ?_)))
  have S15 : gc_S _ _ (fun k i j => i = 0 ∧ ((k = 0 ∧ 2 ≤ j ∧ j < 9) ∨ (k = 9 ∧ 0 ≤ j ∧ j < 3))) := T2.np 9 (fun k i j q => by omega) (fun j hj q => me_r0n_9 _ j hj (by omega))
  have S16 := S15.np0 10 (fun _ _ => rfl)
  have S17 : gc_S _ _ (fun k i j => i = 0 ∧ ((k = 0 ∧ 2 ≤ j ∧ j < 9) ∨ (k = 9 ∧ 0 ≤ j ∧ j < 1) ∨ (k = 9 ∧ 2 ≤ j ∧ j < 3))) := S16.ru 9 (n2 9) 1 (10, (me_np n2 9) 10) (by rw [show (me_np n2 9) 10 = 0 from z2 10 (by decide)]; rfl) (fun k i j q => by omega)
  have S18 := S17.np0 11 (fun _ _ => rfl)
  have S19 : gc_S _ _ (fun k i j => i = 0 ∧ ((k = 0 ∧ 2 ≤ j ∧ j < 9) ∨ (k = 9 ∧ 0 ≤ j ∧ j < 1))) := S18.ru 9 (n2 9) 2 (11, (me_np (me_np n2 9) 10) 11) (by rw [show (me_np (me_np n2 9) 10) 11 = 0 from z2 11 (by decide)]; rfl) (fun k i j q => by omega)
  have S20 : gc_S _ _ (fun k i j => i = 0 ∧ ((k = 0 ∧ 2 ≤ j ∧ j < 9))) := S19.ru 9 (n2 9) 0 (1, n 1) (by rw [show n 1 = 0 from i1]; rfl) (fun k i j q => by omega)
  have S21 : gc_S _ _ (fun k i j => i = 0 ∧ ((k = 0 ∧ 3 ≤ j ∧ j < 9))) := S20.ru 0 (0) 2 (9, n2 9) (by rw [show n2 9 = 0 from i9]; rfl) (fun k i j q => by omega)
  have T3 : gc_S n3 r3 (fun k i j => i = 0 ∧ ((k = 0 ∧ 3 ≤ j ∧ j < 9))) := by
    rw [e3, f3]
    exact S21
  have z3 : ∀ k, 11 < k → n3 k = 0 := fun k hk => by
    rw [e3]
    show me_np (me_np (me_np n2 9) 10) 11 k = 0
    rw [me_np_ne (by omega), me_np_ne (by omega), me_np_ne (by omega)]
    exact z2 k (by omega)
  have o3 : n3 0 = 1 := by
    rw [e3]
    exact o2
  have Z3 : gc_Z μ3 200 := by
    rw [g3]
    exact (((Z2.zc 9 _ (by decide)).zc 10 _ (by decide)).zc 11 _ (by decide))
  have i12 : n3 12 = 0 := z3 12 (by decide)
  refine gc_Q.lt (fun n4 e4 => gc_Q.lt (fun r4 f4 => gc_Q.lt (fun μ4 g4 => ?_)))
  have S22 : gc_S _ _ (fun k i j => i = 0 ∧ ((k = 0 ∧ 3 ≤ j ∧ j < 9) ∨ k = 12)) := T3.np 12 (fun k i j q => by omega) (fun j hj q => absurd (show _ from ⟨i12, by omega⟩) q)
  have S23 : gc_S _ _ (fun k i j => i = 0 ∧ ((k = 0 ∧ 4 ≤ j ∧ j < 9) ∨ k = 12)) := S22.ru 0 (0) 3 (12, n3 12) (by rw [show n3 12 = 0 from i12]; rfl) (fun k i j q => by omega)
  have T4 : gc_S n4 r4 (fun k i j => i = 0 ∧ ((k = 0 ∧ 4 ≤ j ∧ j < 9) ∨ k = 12)) := by
    rw [e4, f4]
    exact S23
  have z4 : ∀ k, 12 < k → n4 k = 0 := fun k hk => by
    rw [e4]
    show me_np n3 12 k = 0
    rw [me_np_ne (by omega)]
    exact z3 k (by omega)
  have o4 : n4 0 = 1 := by
    rw [e4]
    exact o3
  have Z4 : gc_Z μ4 200 := by
    rw [g4]
    exact (Z3.zc 12 _ (by decide))
  have i21 : n4 21 = 0 := z4 21 (by decide)
  refine gc_Q.lt (fun n5 e5 => gc_Q.lt (fun r5 f5 => gc_Q.lt (fun μ5 g5 => ?_)))
  have S24 : gc_S _ _ (fun k i j => i = 0 ∧ ((k = 0 ∧ 4 ≤ j ∧ j < 9) ∨ k = 12 ∨ k = 21)) := T4.np 21 (fun k i j q => by omega) (fun j hj q => absurd (show _ from ⟨i21, by omega⟩) q)
  have S25 : gc_S _ _ (fun k i j => i = 0 ∧ ((k = 0 ∧ 5 ≤ j ∧ j < 9) ∨ k = 12 ∨ k = 21)) := S24.ru 0 (0) 4 (21, n4 21) (by rw [show n4 21 = 0 from i21]; rfl) (fun k i j q => by omega)
  have T5 : gc_S n5 r5 (fun k i j => i = 0 ∧ ((k = 0 ∧ 5 ≤ j ∧ j < 9) ∨ k = 12 ∨ k = 21)) := by
    rw [e5, f5]
    exact S25
  have z5 : ∀ k, 12 < k ∧ ¬ k = 21 → n5 k = 0 := fun k hk => by
    rw [e5]
    show me_np n4 21 k = 0
    rw [me_np_ne (by omega)]
    exact z4 k (by omega)
  have o5 : n5 0 = 1 := by
    rw [e5]
    exact o4
  have Z5 : gc_Z μ5 200 := by
    rw [g5]
    exact (Z4.zc 21 _ (by decide))
  have i27 : n5 27 = 0 := z5 27 (by decide)
  refine gc_Q.ift ?_ ?_
  · rw [me_rn_kn (by decide), show n 1 = 0 from i1]
    exact (T5 0 0 0 (by decide) (show 0 < n5 0 by omega) (by decide) (by omega)).trans rfl
  refine gc_Q.ift ?_ ?_
  · rw [me_rn_kn (by decide), show n3 12 = 0 from i12]
    exact (T5 0 0 3 (by decide) (show 0 < n5 0 by omega) (by decide) (by omega)).trans rfl
  refine gc_Q.lt (fun n6 e6 => gc_Q.lt (fun r6 f6 => gc_Q.lt (fun μ6 g6 => ?_)))
  have S26 : gc_S _ _ (fun k i j => i = 0 ∧ ((k = 0 ∧ 5 ≤ j ∧ j < 9) ∨ k = 12 ∨ k = 21 ∨ (k = 27 ∧ 0 ≤ j ∧ j < 4))) := T5.np 27 (fun k i j q => by omega) (fun j hj q => me_r0n_27 _ j hj (by omega))
  have S27 := S26.np0 28 (fun _ _ => rfl)
  have S28 : gc_S _ _ (fun k i j => i = 0 ∧ ((k = 0 ∧ 5 ≤ j ∧ j < 9) ∨ k = 12 ∨ k = 21 ∨ (k = 27 ∧ 0 ≤ j ∧ j < 2) ∨ (k = 27 ∧ 3 ≤ j ∧ j < 4))) := S27.ru 27 (n5 27) 2 (28, (me_np n5 27) 28) (by rw [show (me_np n5 27) 28 = 0 from z5 28 (by decide)]; rfl) (fun k i j q => by omega)
  have S29 := S28.np0 29 (fun _ _ => rfl)
  have S30 : gc_S _ _ (fun k i j => i = 0 ∧ ((k = 0 ∧ 5 ≤ j ∧ j < 9) ∨ k = 12 ∨ k = 21 ∨ (k = 27 ∧ 0 ≤ j ∧ j < 2))) := S29.ru 27 (n5 27) 3 (29, (me_np (me_np n5 27) 28) 29) (by rw [show (me_np (me_np n5 27) 28) 29 = 0 from z5 29 (by decide)]; rfl) (fun k i j q => by omega)
  have S31 : gc_S _ _ (fun k i j => i = 0 ∧ ((k = 0 ∧ 5 ≤ j ∧ j < 9) ∨ k = 12 ∨ k = 21 ∨ (k = 27 ∧ 1 ≤ j ∧ j < 2))) := S30.ru 27 (n5 27) 0 (1, n 1) (by rw [show n 1 = 0 from i1]; rfl) (fun k i j q => by omega)
  have S32 : gc_S _ _ (fun k i j => i = 0 ∧ ((k = 0 ∧ 5 ≤ j ∧ j < 9) ∨ k = 12 ∨ k = 21)) := S31.ru 27 (n5 27) 1 (12, n3 12) (by rw [show n3 12 = 0 from i12]; rfl) (fun k i j q => by omega)
  have S33 : gc_S _ _ (fun k i j => i = 0 ∧ ((k = 0 ∧ 6 ≤ j ∧ j < 9) ∨ k = 12 ∨ k = 21)) := S32.ru 0 (0) 5 (27, n5 27) (by rw [show n5 27 = 0 from i27]; rfl) (fun k i j q => by omega)
  have T6 : gc_S n6 r6 (fun k i j => i = 0 ∧ ((k = 0 ∧ 6 ≤ j ∧ j < 9) ∨ k = 12 ∨ k = 21)) := by
    rw [e6, f6]
    exact S33
  have z6 : ∀ k, 12 < k ∧ ¬ k = 21 ∧ (k < 27 ∨ 29 < k) → n6 k = 0 := fun k hk => by
    rw [e6]
    show me_np (me_np (me_np n5 27) 28) 29 k = 0
    rw [me_np_ne (by omega), me_np_ne (by omega), me_np_ne (by omega)]
    exact z5 k (by omega)
  have o6 : n6 0 = 1 := by
    rw [e6]
    exact o5
  have Z6 : gc_Z μ6 200 := by
    rw [g6]
    exact ((((Z5.zc 27 _ (by decide)).zc 28 _ (by decide)).zc 29 _ (by decide)).u27 _ _ _)
  have p6 : n6 27 = 1 := by
    rw [e6]
    show n5 27 + 1 = 1
    omega
  have i30 : n6 30 = 0 := z6 30 (by decide)
  refine gc_Q.ift ?_ ?_
  · rw [me_rn_kn (by decide), show n5 27 = 0 from i27]
    exact (T6 0 0 5 (by decide) (show 0 < n6 0 by omega) (by decide) (by omega)).trans rfl
  refine gc_Q.ift ?_ ?_
  · rw [me_rn_kn (by decide), show n1 6 = 0 from i6]
    exact (T6 0 0 1 (by decide) (show 0 < n6 0 by omega) (by decide) (by omega)).trans rfl
  refine gc_Q.ift ?_ ?_
  · rw [me_rn_kn (by decide), show n4 21 = 0 from i21]
    exact (T6 0 0 4 (by decide) (show 0 < n6 0 by omega) (by decide) (by omega)).trans rfl
  refine gc_Q.ift ?_ ?_
  · rw [me_rn_kn (by decide), i27, i1]
    exact (T6 27 0 0 (by decide) (show 0 < n6 27 by omega) (by decide) (by omega)).trans rfl
  refine gc_Q.ift ?_ ?_
  · rw [me_rn_kn (by decide), i27, i12]
    exact (T6 27 0 1 (by decide) (show 0 < n6 27 by omega) (by decide) (by omega)).trans rfl
  refine gc_Q.lt (fun n7 e7 => gc_Q.lt (fun r7 f7 => gc_Q.lt (fun μ7 g7 => ?_)))
  have S34 : gc_S _ _ (fun k i j => i = 0 ∧ ((k = 0 ∧ 6 ≤ j ∧ j < 9) ∨ k = 12 ∨ k = 21 ∨ (k = 30 ∧ 0 ≤ j ∧ j < 5))) := T6.np 30 (fun k i j q => by omega) (fun j hj q => me_r0n_30 _ j hj (by omega))
  have S35 : gc_S _ _ (fun k i j => i = 0 ∧ ((k = 0 ∧ 6 ≤ j ∧ j < 9) ∨ k = 12 ∨ k = 21 ∨ (k = 30 ∧ 1 ≤ j ∧ j < 5))) := S34.ru 30 (n6 30) 0 (1, n 1) (by rw [show n 1 = 0 from i1]; rfl) (fun k i j q => by omega)
  have S36 : gc_S _ _ (fun k i j => i = 0 ∧ ((k = 0 ∧ 6 ≤ j ∧ j < 9) ∨ k = 12 ∨ k = 21 ∨ (k = 30 ∧ 2 ≤ j ∧ j < 5))) := S35.ru 30 (n6 30) 1 (27, n5 27) (by rw [show n5 27 = 0 from i27]; rfl) (fun k i j q => by omega)
  have S37 : gc_S _ _ (fun k i j => i = 0 ∧ ((k = 0 ∧ 6 ≤ j ∧ j < 9) ∨ k = 12 ∨ k = 21 ∨ (k = 30 ∧ 3 ≤ j ∧ j < 5))) := S36.ru 30 (n6 30) 2 (12, n3 12) (by rw [show n3 12 = 0 from i12]; rfl) (fun k i j q => by omega)
  have S38 : gc_S _ _ (fun k i j => i = 0 ∧ ((k = 0 ∧ 6 ≤ j ∧ j < 9) ∨ k = 12 ∨ k = 21 ∨ (k = 30 ∧ 4 ≤ j ∧ j < 5))) := S37.ru 30 (n6 30) 3 (6, n1 6) (by rw [show n1 6 = 0 from i6]; rfl) (fun k i j q => by omega)
  have S39 : gc_S _ _ (fun k i j => i = 0 ∧ ((k = 0 ∧ 6 ≤ j ∧ j < 9) ∨ k = 12 ∨ k = 21)) := S38.ru 30 (n6 30) 4 (21, n4 21) (by rw [show n4 21 = 0 from i21]; rfl) (fun k i j q => by omega)
  have S40 : gc_S _ _ (fun k i j => i = 0 ∧ ((k = 0 ∧ 7 ≤ j ∧ j < 9) ∨ k = 12 ∨ k = 21)) := S39.ru 0 (0) 6 (30, n6 30) (by rw [show n6 30 = 0 from i30]; rfl) (fun k i j q => by omega)
  have T7 : gc_S n7 r7 (fun k i j => i = 0 ∧ ((k = 0 ∧ 7 ≤ j ∧ j < 9) ∨ k = 12 ∨ k = 21)) := by
    rw [e7, f7]
    exact S40
  have z7 : ∀ k, 12 < k ∧ ¬ k = 21 ∧ (k < 27 ∨ 30 < k) → n7 k = 0 := fun k hk => by
    rw [e7]
    show me_np n6 30 k = 0
    rw [me_np_ne (by omega)]
    exact z6 k (by omega)
  have o7 : n7 0 = 1 := by
    rw [e7]
    exact o6
  have Z7 : gc_Z μ7 200 := by
    rw [g7]
    exact (Z6.zc 30 _ (by decide))
  have i31 : n7 31 = 0 := z7 31 (by decide)
  refine gc_Q.ift ?_ ?_
  · rw [me_rn_kn (by decide), show n 1 = 0 from i1]
    exact (T7 0 0 0 (by decide) (show 0 < n7 0 by omega) (by decide) (by omega)).trans rfl
  refine gc_Q.ift ?_ ?_
  · rw [me_rn_kn (by decide), show n1 6 = 0 from i6]
    exact (T7 0 0 1 (by decide) (show 0 < n7 0 by omega) (by decide) (by omega)).trans rfl
  refine gc_Q.ift ?_ ?_
  · rw [me_rn_kn (by decide), show n4 21 = 0 from i21]
    exact (T7 0 0 4 (by decide) (show 0 < n7 0 by omega) (by decide) (by omega)).trans rfl
  refine gc_Q.lt (fun n8 e8 => gc_Q.lt (fun r8 f8 => gc_Q.lt (fun μ8 g8 => ?_)))
  have S41 : gc_S _ _ (fun k i j => i = 0 ∧ ((k = 0 ∧ 7 ≤ j ∧ j < 9) ∨ k = 12 ∨ k = 21 ∨ (k = 31 ∧ 0 ≤ j ∧ j < 3))) := T7.np 31 (fun k i j q => by omega) (fun j hj q => absurd (show j < 3 from hj) (by omega))
  have S42 : gc_S _ _ (fun k i j => i = 0 ∧ ((k = 0 ∧ 7 ≤ j ∧ j < 9) ∨ k = 12 ∨ k = 21 ∨ (k = 31 ∧ 1 ≤ j ∧ j < 3))) := S41.ru 31 (n7 31) 0 (1, n 1) (by rw [show n 1 = 0 from i1]; rfl) (fun k i j q => by omega)
  have S43 : gc_S _ _ (fun k i j => i = 0 ∧ ((k = 0 ∧ 7 ≤ j ∧ j < 9) ∨ k = 12 ∨ k = 21 ∨ (k = 31 ∧ 2 ≤ j ∧ j < 3))) := S42.ru 31 (n7 31) 1 (6, n1 6) (by rw [show n1 6 = 0 from i6]; rfl) (fun k i j q => by omega)
  have S44 : gc_S _ _ (fun k i j => i = 0 ∧ ((k = 0 ∧ 7 ≤ j ∧ j < 9) ∨ k = 12 ∨ k = 21)) := S43.ru 31 (n7 31) 2 (21, n4 21) (by rw [show n4 21 = 0 from i21]; rfl) (fun k i j q => by omega)
  have S45 : gc_S _ _ (fun k i j => i = 0 ∧ ((k = 0 ∧ 8 ≤ j ∧ j < 9) ∨ k = 12 ∨ k = 21)) := S44.ru 0 (0) 7 (31, n7 31) (by rw [show n7 31 = 0 from i31]; rfl) (fun k i j q => by omega)
  have T8 : gc_S n8 r8 (fun k i j => i = 0 ∧ ((k = 0 ∧ 8 ≤ j ∧ j < 9) ∨ k = 12 ∨ k = 21)) := by
    rw [e8, f8]
    exact S45
  have z8 : ∀ k, 12 < k ∧ ¬ k = 21 ∧ (k < 27 ∨ 31 < k) → n8 k = 0 := fun k hk => by
    rw [e8]
    show me_np n7 31 k = 0
    rw [me_np_ne (by omega)]
    exact z7 k (by omega)
  have o8 : n8 0 = 1 := by
    rw [e8]
    exact o7
  have Z8 : gc_Z μ8 200 := by
    rw [g8]
    exact (Z7.zc 31 _ (by decide))
  have i32 : n8 32 = 0 := z8 32 (by decide)
  refine gc_Q.ift ?_ ?_
  · rw [me_rn_kn (by decide), show n 1 = 0 from i1]
    exact (T8 0 0 0 (by decide) (show 0 < n8 0 by omega) (by decide) (by omega)).trans rfl
  refine gc_Q.ift ?_ ?_
  · rw [me_rn_kn (by decide), show n3 12 = 0 from i12]
    exact (T8 0 0 3 (by decide) (show 0 < n8 0 by omega) (by decide) (by omega)).trans rfl
  refine gc_Q.lt (fun n9 e9 => gc_Q.lt (fun r9 f9 => gc_Q.lt (fun μ9 g9 => ?_)))
  have S46 : gc_S _ _ (fun k i j => i = 0 ∧ ((k = 0 ∧ 8 ≤ j ∧ j < 9) ∨ k = 12 ∨ k = 21 ∨ (k = 32 ∧ 0 ≤ j ∧ j < 5))) := T8.np 32 (fun k i j q => by omega) (fun j hj q => absurd (show j < 5 from hj) (by omega))
  have S47 := S46.np0 33 (fun _ _ => rfl)
  have S48 : gc_S _ _ (fun k i j => i = 0 ∧ ((k = 0 ∧ 8 ≤ j ∧ j < 9) ∨ k = 12 ∨ k = 21 ∨ (k = 32 ∧ 0 ≤ j ∧ j < 2) ∨ (k = 32 ∧ 3 ≤ j ∧ j < 5))) := S47.ru 32 (n8 32) 2 (33, (me_np n8 32) 33) (by rw [show (me_np n8 32) 33 = 0 from z8 33 (by decide)]; rfl) (fun k i j q => by omega)
  have S49 := S48.np0 34 (fun _ _ => rfl)
  have S50 : gc_S _ _ (fun k i j => i = 0 ∧ ((k = 0 ∧ 8 ≤ j ∧ j < 9) ∨ k = 12 ∨ k = 21 ∨ (k = 32 ∧ 0 ≤ j ∧ j < 2) ∨ (k = 32 ∧ 4 ≤ j ∧ j < 5))) := S49.ru 32 (n8 32) 3 (34, (me_np (me_np n8 32) 33) 34) (by rw [show (me_np (me_np n8 32) 33) 34 = 0 from z8 34 (by decide)]; rfl) (fun k i j q => by omega)
  have S51 := S50.np0 35 (fun _ _ => rfl)
  have S52 : gc_S _ _ (fun k i j => i = 0 ∧ ((k = 0 ∧ 8 ≤ j ∧ j < 9) ∨ k = 12 ∨ k = 21 ∨ (k = 32 ∧ 0 ≤ j ∧ j < 2))) := S51.ru 32 (n8 32) 4 (35, (me_np (me_np (me_np n8 32) 33) 34) 35) (by rw [show (me_np (me_np (me_np n8 32) 33) 34) 35 = 0 from z8 35 (by decide)]; rfl) (fun k i j q => by omega)
  have S53 : gc_S _ _ (fun k i j => i = 0 ∧ ((k = 0 ∧ 8 ≤ j ∧ j < 9) ∨ k = 12 ∨ k = 21 ∨ (k = 32 ∧ 1 ≤ j ∧ j < 2))) := S52.ru 32 (n8 32) 0 (1, n 1) (by rw [show n 1 = 0 from i1]; rfl) (fun k i j q => by omega)
  have S54 : gc_S _ _ (fun k i j => i = 0 ∧ ((k = 0 ∧ 8 ≤ j ∧ j < 9) ∨ k = 12 ∨ k = 21)) := S53.ru 32 (n8 32) 1 (12, n3 12) (by rw [show n3 12 = 0 from i12]; rfl) (fun k i j q => by omega)
  have S55 : gc_S _ _ (fun k i j => i = 0 ∧ (k = 12 ∨ k = 21)) := S54.ru 0 (0) 8 (32, n8 32) (by rw [show n8 32 = 0 from i32]; rfl) (fun k i j q => by omega)
  have T9 : gc_S n9 r9 (fun k i j => i = 0 ∧ (k = 12 ∨ k = 21)) := by
    rw [e9, f9]
    exact S55
  have z9 : ∀ k, 12 < k ∧ ¬ k = 21 ∧ (k < 27 ∨ 35 < k) → n9 k = 0 := fun k hk => by
    rw [e9]
    show me_np (me_np (me_np (me_np n8 32) 33) 34) 35 k = 0
    rw [me_np_ne (by omega), me_np_ne (by omega), me_np_ne (by omega), me_np_ne (by omega)]
    exact z8 k (by omega)
  have o9 : n9 0 = 1 := by
    rw [e9]
    exact o8
  have Z9 : gc_Z μ9 200 := by
    rw [g9]
    exact ((((Z8.zc 32 _ (by decide)).zc 33 _ (by decide)).zc 34 _ (by decide)).zc 35 _ (by decide))
  refine gc_Q.lt (fun n10 e10 => gc_Q.lt (fun r10 f10 => gc_Q.lt (fun μ10 g10 => ?_)))
  rw [e10, f10, g10, i12, i21]
  generalize hF : (17 : Nat) = F
  have z9' : ∀ k, 12 < k ∧ ¬ k = 21 ∧ k < 27 → n9 k = 0 := fun k hk => z9 k (by omega)
  refine gc_Q.b3 (y_loop 16 F 0 n9 r9 μ9 (by omega) (by omega) ⟨⟨z9' 13 (by decide), z9' 14 (by decide), z9' 15 (by decide), z9' 16 (by decide)⟩, ⟨z9' 17 (by decide), z9' 18 (by decide), z9' 19 (by decide), z9' 20 (by decide)⟩, z9' 22 (by decide), z9' 23 (by decide), z9' 24 (by decide), z9' 25 (by decide), z9' 26 (by decide)⟩ o9 (T9.fin (fun k i j _ q => by omega)) Z9) (fun n' r' μ' q => ?_)
  obtain ⟨w1, w2, w3⟩ := q
  have w2 : gc_S n' r' (fun _ _ _ => False) := w2
  have w3 : gc_Z μ' 200 := w3
  obtain ⟨μ'', v1, v2, v3, v4⟩ := y_anew (gc_rc0 w3) (w := 4) (h := 4) (by decide) (by decide)
  refine gc_Q.gP ⟨fun k i j hk hi hj => w2 k i j hk hi hj id, rfl⟩ (gc_Q.b2 v1 ⟨(n', r', μ''), rfl, fun k hk => ?_, w2, v2, fun k hk i j => ?_, v4⟩)
  · exact (w1 k (by omega)).trans (z9 k (by omega))
  · show μ'' k i j = 0
    rw [v3 k hk]
    exact w3.1 k i j (by omega) (by omega)
theorem y_init : gc_Q (fun t => (∀ k, 35 < k → t.1 k = 0) ∧ gc_S t.1 t.2.1 (fun _ _ _ => False) ∧ me_RC (gh_nw gc_a0 4 4 2) t.2.2 ∧ (∀ k, 36 ≤ k → ∀ i j, t.2.2 k i j = 0) ∧ ∀ n, n < 16 → t.2.2 13 n 4 = 0) (f_Y_init 0 (me_np (fun _ => 0) 0) (me_rn (fun _ _ _ => none) 0 0) (me_zc (fun _ _ _ => 0) 0 0)) := by
  have E : gc_S (fun _ => 0) (fun _ _ _ => none) (fun _ _ _ => False) := fun k i j _ hi => absurd hi (Nat.not_lt_zero _)
  refine y_init0 (fun k hk => me_np_ne (by omega)) rfl (E.np 0 (fun _ _ _ q => q.elim) (fun j hj q => me_r0n_0 _ j hj (by omega))) ⟨fun k i j _ _ => ?_, fun i hi => absurd hi (Nat.not_lt_zero i)⟩
  unfold me_zc
  by_cases e : k = 0 ∧ i = 0
  · rw [if_pos e]
  · rw [if_neg e]
