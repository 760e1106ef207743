/-! THE RUN -/
theorem gr_RM {a : me_S} {μ μ' : me_M} (h : me_RM a μ) (e : ∀ k, k < 93 → μ' k = μ k) : me_RM a μ' := by
  have e36 := e 36 (by decide)
  have e37 := e 37 (by decide)
  have e38 := e 38 (by decide)
  have e39 := e 39 (by decide)
  have e40 := e 40 (by decide)
  have e41 := e 41 (by decide)
  have e42 := e 42 (by decide)
  have e43 := e 43 (by decide)
  have e44 := e 44 (by decide)
  have e45 := e 45 (by decide)
  have e46 := e 46 (by decide)
  have e47 := e 47 (by decide)
  have e48 := e 48 (by decide)
  have e49 := e 49 (by decide)
  have e53 := e 53 (by decide)
  have e57 := e 57 (by decide)
  have e60 := e 60 (by decide)
  have e63 := e 63 (by decide)
  have e66 := e 66 (by decide)
  have e69 := e 69 (by decide)
  have e72 := e 72 (by decide)
  have e74 := e 74 (by decide)
  have e76 := e 76 (by decide)
  have e78 := e 78 (by decide)
  have e80 := e 80 (by decide)
  have e82 := e 82 (by decide)
  have e84 := e 84 (by decide)
  have e85 := e 85 (by decide)
  have e87 := e 87 (by decide)
  have e88 := e 88 (by decide)
  have e89 := e 89 (by decide)
  have e90 := e 90 (by decide)
  have e91 := e 91 (by decide)
  have e92 := e 92 (by decide)
  unfold me_RM at h ⊢
  simp only [e36, e37, e38, e39, e40, e41, e42, e43, e44, e45, e46, e47, e48, e49, e53, e57, e60, e63, e66, e69, e72, e74, e76, e78, e80, e82, e84, e85, e87, e88, e89, e90, e91, e92]
  exact h
theorem p_turn {T : Nat} {a : me_S} {μ : me_M} {o : Int64 × UInt64} {s0 s1 s2 s3 s4 s5 : Int32} (hR : me_R T a μ) (hT1 : T + 1 ≤ 600) : ∃ μ' o' a', f_turn μ o s0 s1 s2 s3 s4 s5 = some (μ', o') ∧ me_R (T + 1) a' μ' := by
  unfold f_turn
  by_cases h0 : s0 &&& 63 = 0
  · rw [if_pos h0]
    obtain ⟨μ', o', a', q1, q2⟩ := t_0 (o := o) (s1 := s1) (s2 := s2) (s3 := s3) (s4 := s4) (s5 := s5) hR
    exact ⟨μ', o', _, q1, q2.mono hT1⟩
  rw [if_neg h0]
  clear h0
  by_cases h1 : s0 &&& 63 = 1
  · rw [if_pos h1]
    obtain ⟨μ', o', a', q1, q2⟩ := t_1 (o := o) (s1 := s1) (s2 := s2) (s3 := s3) (s4 := s4) (s5 := s5) hR
    exact ⟨μ', o', _, q1, q2.mono hT1⟩
  rw [if_neg h1]
  clear h1
  by_cases h2 : s0 &&& 63 = 2
  · rw [if_pos h2]
    obtain ⟨μ', o', a', q1, q2⟩ := t_2 (o := o) (s1 := s1) (s2 := s2) (s3 := s3) (s4 := s4) (s5 := s5) hR
    exact ⟨μ', o', _, q1, q2.mono hT1⟩
  rw [if_neg h2]
  clear h2
  by_cases h3 : s0 &&& 63 = 3
  · rw [if_pos h3]
    obtain ⟨μ', o', q1, q2⟩ := t_3 (o := o) (s1 := s1) (s2 := s2) (s3 := s3) (s4 := s4) (s5 := s5) hR
    exact ⟨μ', o', _, q1, q2.mono hT1⟩
  rw [if_neg h3]
  clear h3
  by_cases h4 : s0 &&& 63 = 4
  · rw [if_pos h4]
    obtain ⟨μ', o', q1, q2⟩ := t_4 (o := o) (s1 := s1) (s2 := s2) (s3 := s3) (s4 := s4) (s5 := s5) hR
    exact ⟨μ', o', _, q1, q2.mono hT1⟩
  rw [if_neg h4]
  clear h4
  by_cases h5 : s0 &&& 63 = 5
  · rw [if_pos h5]
    obtain ⟨μ', o', q1, q2⟩ := t_5 (o := o) (s1 := s1) (s2 := s2) (s3 := s3) (s4 := s4) (s5 := s5) hR
    exact ⟨μ', o', _, q1, q2.mono hT1⟩
  rw [if_neg h5]
  clear h5
  by_cases h6 : s0 &&& 63 = 6
  · rw [if_pos h6]
    obtain ⟨μ', o', q1, q2⟩ := t_6 (o := o) (s1 := s1) (s2 := s2) (s3 := s3) (s4 := s4) (s5 := s5) hR
    exact ⟨μ', o', _, q1, q2.mono hT1⟩
  rw [if_neg h6]
  clear h6
  by_cases h7 : s0 &&& 63 = 7
  · rw [if_pos h7]
    obtain ⟨μ', o', a', q1, q2⟩ := t_7 (o := o) (s1 := s1) (s2 := s2) (s3 := s3) (s4 := s4) (s5 := s5) hR
    exact ⟨μ', o', _, q1, q2.mono hT1⟩
  rw [if_neg h7]
  clear h7
  by_cases h8 : s0 &&& 63 = 8
  · rw [if_pos h8]
    obtain ⟨μ', o', a', q1, q2⟩ := t_8 (o := o) (s1 := s1) (s2 := s2) (s3 := s3) (s4 := s4) (s5 := s5) hR
    exact ⟨μ', o', _, q1, q2.mono hT1⟩
  rw [if_neg h8]
  clear h8
  by_cases h9 : s0 &&& 63 = 9
  · rw [if_pos h9]
    obtain ⟨μ', o', q1, q2⟩ := t_9 (o := o) (s1 := s1) (s2 := s2) (s3 := s3) (s4 := s4) (s5 := s5) hR
    exact ⟨μ', o', _, q1, q2.mono hT1⟩
  rw [if_neg h9]
  clear h9
  by_cases h10 : s0 &&& 63 = 10
  · rw [if_pos h10]
    obtain ⟨μ', o', q1, q2⟩ := t_10 (o := o) (s1 := s1) (s2 := s2) (s3 := s3) (s4 := s4) (s5 := s5) hR
    exact ⟨μ', o', _, q1, q2.mono hT1⟩
  rw [if_neg h10]
  clear h10
  by_cases h11 : s0 &&& 63 = 11
  · rw [if_pos h11]
    obtain ⟨μ', o', a', q1, q2⟩ := t_11 (o := o) (s1 := s1) (s2 := s2) (s3 := s3) (s4 := s4) (s5 := s5) hR
    exact ⟨μ', o', _, q1, q2.mono hT1⟩
  rw [if_neg h11]
  clear h11
  by_cases h12 : s0 &&& 63 = 12
  · rw [if_pos h12]
    obtain ⟨μ', o', a', q1, q2⟩ := t_12 (o := o) (s1 := s1) (s2 := s2) (s3 := s3) (s4 := s4) (s5 := s5) hR
    exact ⟨μ', o', _, q1, q2.mono hT1⟩
  rw [if_neg h12]
  clear h12
  by_cases h13 : s0 &&& 63 = 13
  · rw [if_pos h13]
    obtain ⟨μ', o', a', q1, q2⟩ := t_13 (o := o) (s1 := s1) (s2 := s2) (s3 := s3) (s4 := s4) (s5 := s5) hR
    exact ⟨μ', o', _, q1, q2.mono hT1⟩
  rw [if_neg h13]
  clear h13
  by_cases h14 : s0 &&& 63 = 14
  · rw [if_pos h14]
    obtain ⟨μ', o', a', q1, q2⟩ := t_14 (o := o) (s1 := s1) (s2 := s2) (s3 := s3) (s4 := s4) (s5 := s5) hR hT1
    exact ⟨μ', o', _, q1, q2⟩
  rw [if_neg h14]
  clear h14
  by_cases h15 : s0 &&& 63 = 15
  · rw [if_pos h15]
    obtain ⟨μ', o', q1, q2⟩ := t_15 (o := o) (s1 := s1) (s2 := s2) (s3 := s3) (s4 := s4) (s5 := s5) hR
    exact ⟨μ', o', _, q1, q2.mono hT1⟩
  rw [if_neg h15]
  clear h15
  by_cases h16 : s0 &&& 63 = 16
  · rw [if_pos h16]
    obtain ⟨μ', o', a', q1, q2⟩ := t_16 (o := o) (s1 := s1) (s2 := s2) (s3 := s3) (s4 := s4) (s5 := s5) hR
    exact ⟨μ', o', _, q1, q2.mono hT1⟩
  rw [if_neg h16]
  clear h16
  by_cases h17 : s0 &&& 63 = 17
  · rw [if_pos h17]
    obtain ⟨μ', o', a', q1, q2⟩ := t_17 (o := o) (s1 := s1) (s2 := s2) (s3 := s3) (s4 := s4) (s5 := s5) hR
    exact ⟨μ', o', _, q1, q2.mono hT1⟩
  rw [if_neg h17]
  clear h17
  by_cases h18 : s0 &&& 63 = 18
  · rw [if_pos h18]
    obtain ⟨μ', o', a', q1, q2⟩ := t_18 (o := o) (s1 := s1) (s2 := s2) (s3 := s3) (s4 := s4) (s5 := s5) hR
    exact ⟨μ', o', _, q1, q2.mono hT1⟩
  rw [if_neg h18]
  clear h18
  by_cases h19 : s0 &&& 63 = 19
  · rw [if_pos h19]
    obtain ⟨μ', o', a', q1, q2⟩ := t_19 (o := o) (s1 := s1) (s2 := s2) (s3 := s3) (s4 := s4) (s5 := s5) hR
    exact ⟨μ', o', _, q1, q2.mono hT1⟩
  rw [if_neg h19]
  clear h19
  by_cases h20 : s0 &&& 63 = 20
  · rw [if_pos h20]
    obtain ⟨μ', o', a', q1, q2⟩ := t_20 (o := o) (s1 := s1) (s2 := s2) (s3 := s3) (s4 := s4) (s5 := s5) hR
    exact ⟨μ', o', _, q1, q2.mono hT1⟩
  rw [if_neg h20]
  clear h20
  by_cases h21 : s0 &&& 63 = 21
  · rw [if_pos h21]
    obtain ⟨μ', o', a', q1, q2⟩ := t_21 (o := o) (s1 := s1) (s2 := s2) (s3 := s3) (s4 := s4) (s5 := s5) hR
    exact ⟨μ', o', _, q1, q2.mono hT1⟩
  rw [if_neg h21]
  clear h21
  by_cases h22 : s0 &&& 63 = 22
  · rw [if_pos h22]
    obtain ⟨μ', o', q1, q2⟩ := t_22 (o := o) (s1 := s1) (s2 := s2) (s3 := s3) (s4 := s4) (s5 := s5) hR
    exact ⟨μ', o', _, q1, q2.mono hT1⟩
  rw [if_neg h22]
  clear h22
  by_cases h23 : s0 &&& 63 = 23
  · rw [if_pos h23]
    obtain ⟨μ', o', a', q1, q2⟩ := t_23 (o := o) (s1 := s1) (s2 := s2) (s3 := s3) (s4 := s4) (s5 := s5) hR
    exact ⟨μ', o', _, q1, q2.mono hT1⟩
  rw [if_neg h23]
  clear h23
  by_cases h24 : s0 &&& 63 = 24
  · rw [if_pos h24]
    obtain ⟨μ', o', a', q1, q2⟩ := t_24 (o := o) (s1 := s1) (s2 := s2) (s3 := s3) (s4 := s4) (s5 := s5) hR
    exact ⟨μ', o', _, q1, q2.mono hT1⟩
  rw [if_neg h24]
  clear h24
  by_cases h25 : s0 &&& 63 = 25
  · rw [if_pos h25]
    obtain ⟨μ', o', a', q1, q2⟩ := t_25 (o := o) (s1 := s1) (s2 := s2) (s3 := s3) (s4 := s4) (s5 := s5) hR
    exact ⟨μ', o', _, q1, q2.mono hT1⟩
  rw [if_neg h25]
  clear h25
  by_cases h26 : s0 &&& 63 = 26
  · rw [if_pos h26]
    obtain ⟨μ', o', a', q1, q2⟩ := t_26 (o := o) (s1 := s1) (s2 := s2) (s3 := s3) (s4 := s4) (s5 := s5) hR
    exact ⟨μ', o', _, q1, q2.mono hT1⟩
  rw [if_neg h26]
  clear h26
  by_cases h27 : s0 &&& 63 = 27
  · rw [if_pos h27]
    obtain ⟨μ', o', a', q1, q2⟩ := t_27 (o := o) (s1 := s1) (s2 := s2) (s3 := s3) (s4 := s4) (s5 := s5) hR
    exact ⟨μ', o', _, q1, q2.mono hT1⟩
  rw [if_neg h27]
  clear h27
  by_cases h28 : s0 &&& 63 = 28
  · rw [if_pos h28]
    obtain ⟨μ', o', a', q1, q2⟩ := t_28 (o := o) (s1 := s1) (s2 := s2) (s3 := s3) (s4 := s4) (s5 := s5) hR
    exact ⟨μ', o', _, q1, q2.mono hT1⟩
  rw [if_neg h28]
  clear h28
  by_cases h29 : s0 &&& 63 = 29
  · rw [if_pos h29]
    obtain ⟨μ', o', q1, q2⟩ := t_29 (o := o) (s1 := s1) (s2 := s2) (s3 := s3) (s4 := s4) (s5 := s5) hR
    exact ⟨μ', o', _, q1, q2.mono hT1⟩
  rw [if_neg h29]
  clear h29
  by_cases h30 : s0 &&& 63 = 30
  · rw [if_pos h30]
    obtain ⟨μ', o', q1, q2⟩ := t_30 (o := o) (s1 := s1) (s2 := s2) (s3 := s3) (s4 := s4) (s5 := s5) hR
    exact ⟨μ', o', _, q1, q2.mono hT1⟩
  rw [if_neg h30]
  clear h30
  by_cases h31 : s0 &&& 63 = 31
  · rw [if_pos h31]
    obtain ⟨μ', o', q1, q2⟩ := t_31 (o := o) (s1 := s1) (s2 := s2) (s3 := s3) (s4 := s4) (s5 := s5) hR
    exact ⟨μ', o', _, q1, q2.mono hT1⟩
  rw [if_neg h31]
  clear h31
  by_cases h32 : s0 &&& 63 = 32
  · rw [if_pos h32]
    obtain ⟨μ', o', a', q1, q2⟩ := t_32 (o := o) (s1 := s1) (s2 := s2) (s3 := s3) (s4 := s4) (s5 := s5) hR
    exact ⟨μ', o', _, q1, q2.mono hT1⟩
  rw [if_neg h32]
  clear h32
  by_cases h33 : s0 &&& 63 = 33
  · rw [if_pos h33]
    obtain ⟨μ', o', q1, q2⟩ := t_33 (o := o) (s1 := s1) (s2 := s2) (s3 := s3) (s4 := s4) (s5 := s5) hR
    exact ⟨μ', o', _, q1, q2.mono hT1⟩
  rw [if_neg h33]
  clear h33
  by_cases h34 : s0 &&& 63 = 34
  · rw [if_pos h34]
    obtain ⟨μ', o', q1, q2⟩ := t_34 (o := o) (s1 := s1) (s2 := s2) (s3 := s3) (s4 := s4) (s5 := s5) hR
    exact ⟨μ', o', _, q1, q2.mono hT1⟩
  rw [if_neg h34]
  clear h34
  by_cases h35 : s0 &&& 63 = 35
  · rw [if_pos h35]
    obtain ⟨μ', o', a', q1, q2⟩ := t_35 (o := o) (s1 := s1) (s2 := s2) (s3 := s3) (s4 := s4) (s5 := s5) hR
    exact ⟨μ', o', _, q1, q2.mono hT1⟩
  rw [if_neg h35]
  clear h35
  by_cases h36 : s0 &&& 63 = 36
  · rw [if_pos h36]
    obtain ⟨μ', o', a', q1, q2⟩ := t_36 (o := o) (s1 := s1) (s2 := s2) (s3 := s3) (s4 := s4) (s5 := s5) hR
    exact ⟨μ', o', _, q1, q2.mono hT1⟩
  rw [if_neg h36]
  clear h36
  by_cases h37 : s0 &&& 63 = 37
  · rw [if_pos h37]
    obtain ⟨μ', o', a', q1, q2⟩ := t_37 (o := o) (s1 := s1) (s2 := s2) (s3 := s3) (s4 := s4) (s5 := s5) hR
    exact ⟨μ', o', _, q1, q2.mono hT1⟩
  rw [if_neg h37]
  clear h37
  by_cases h38 : s0 &&& 63 = 38
  · rw [if_pos h38]
    obtain ⟨μ', o', a', q1, q2⟩ := t_38 (o := o) (s1 := s1) (s2 := s2) (s3 := s3) (s4 := s4) (s5 := s5) hR
    exact ⟨μ', o', _, q1, q2.mono hT1⟩
  rw [if_neg h38]
  clear h38
  by_cases h39 : s0 &&& 63 = 39
  · rw [if_pos h39]
    obtain ⟨μ', o', q1, q2⟩ := t_39 (o := o) (s1 := s1) (s2 := s2) (s3 := s3) (s4 := s4) (s5 := s5) hR
    exact ⟨μ', o', _, q1, q2.mono hT1⟩
  rw [if_neg h39]
  clear h39
  by_cases h40 : s0 &&& 63 = 40
  · rw [if_pos h40]
    obtain ⟨μ', o', a', q1, q2⟩ := t_40 (o := o) (s1 := s1) (s2 := s2) (s3 := s3) (s4 := s4) (s5 := s5) hR
    exact ⟨μ', o', _, q1, q2.mono hT1⟩
  rw [if_neg h40]
  clear h40
  by_cases h41 : s0 &&& 63 = 41
  · rw [if_pos h41]
    obtain ⟨μ', o', a', q1, q2⟩ := t_41 (o := o) (s1 := s1) (s2 := s2) (s3 := s3) (s4 := s4) (s5 := s5) hR
    exact ⟨μ', o', _, q1, q2.mono hT1⟩
  rw [if_neg h41]
  clear h41
  by_cases h42 : s0 &&& 63 = 42
  · rw [if_pos h42]
    obtain ⟨μ', o', a', q1, q2⟩ := t_42 (o := o) (s1 := s1) (s2 := s2) (s3 := s3) (s4 := s4) (s5 := s5) hR
    exact ⟨μ', o', _, q1, q2.mono hT1⟩
  rw [if_neg h42]
  clear h42
  by_cases h43 : s0 &&& 63 = 43
  · rw [if_pos h43]
    obtain ⟨μ', o', a', q1, q2⟩ := t_43 (o := o) (s1 := s1) (s2 := s2) (s3 := s3) (s4 := s4) (s5 := s5) hR
    exact ⟨μ', o', _, q1, q2.mono hT1⟩
  rw [if_neg h43]
  clear h43
  exact ⟨μ, o, a, rfl, hR.mono hT1⟩
theorem p_run {xs : Nat → Int32} {n : Nat} (hn : n ≤ 3072) : ∀ (f t T : Nat) (a : me_S) (μ : me_M) (o : Int64 × UInt64), t = 6 * T → 1 ≤ f → n < t + 6 * f → me_R T a μ → f_run xs n f t μ o = some () := by
  intro f
  induction f with
  | zero =>
    intro t T a μ o ht h1 hf hR
    omega
  | succ f ih =>
    intro t T a μ o ht h1 hf hR
    unfold f_run
    by_cases e : n < t + 6
    · rw [if_pos e]
    · rw [if_neg e]
      obtain ⟨μ', o', a', q1, q2⟩ := p_turn (o := o) (s0 := xs t) (s1 := xs (t + 1)) (s2 := xs (t + 2)) (s3 := xs (t + 3)) (s4 := xs (t + 4)) (s5 := xs (t + 5)) hR (by omega)
      rw [q1, me_b2_s]
      exact ih (t + 6) (T + 1) a' μ' o' (by omega) (by omega) (by omega) q2
theorem gr_zz {μ : me_M} {k : Nat} (hk : k < 93) : me_zc (me_zc μ 93 0) 94 0 k = μ k := by
  funext i j
  unfold me_zc
  rw [if_neg (fun q => by omega), if_neg (fun q => by omega)]
theorem me_pure : me_Pure := by
  obtain ⟨⟨n1, r1, μ1⟩, e1, c1, c2, c3, c4, c5⟩ := y_init
  have c1 : ∀ k, 35 < k → n1 k = 0 := c1
  have c2 : gc_S n1 r1 (fun _ _ _ => False) := c2
  have c3 : me_RC (gh_nw gc_a0 4 4 2) μ1 := c3
  have c5 : ∀ n, n < 16 → μ1 13 n 4 = 0 := c5
  obtain ⟨⟨n2, r2, μ2⟩, e2, d1, d2, d3, d4, d5, d6⟩ := y_minit (μ := μ1) c1 c2
  have d5 : me_RM (gh_nw gc_a0 4 4 2) μ2 := d5
  have d6 : ∀ k, k < 36 → μ2 k = μ1 k := d6
  refine ⟨n1, r1, μ1, n2, r2, μ2, e1, c1 36 (by decide), e2, d1, d2, d3, d4, fun xs n hn => p_run hn 513 0 0 (gh_nw gc_a0 4 4 2) _ (0, 0) rfl (by decide) (by omega) ?_⟩
  exact ⟨c3.co_ (fun k hk => (gr_zz (by omega)).trans (d6 k hk)), gr_RM d5 (fun k hk => gr_zz hk), gh_nw_iv (by decide) (by decide), Nat.le_refl 0, Nat.zero_le _, fun n hn => by rw [gr_zz (by decide), d6 13 (by decide)]; exact c5 n hn⟩
