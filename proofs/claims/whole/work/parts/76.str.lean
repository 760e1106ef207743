/-! THE THREE STRINGS -/
def me_fi : List Int32 → Int32 → Nat → Int32
  | [], _, _ => -1
  | c :: t, x, i => if c = x then me_N i else me_fi t x (i + 1)
theorem s_loop {μ : me_M} {v0 : Nat} {x : Int32} (hl : (me_sb v0).length < 100) : ∀ (t : List Int32) (i f : Nat), (me_sb v0).drop i = t → t.length < f → i ≤ (me_sb v0).length → f_La1_indexOfChar_h7 μ f v0 (me_N (me_sb v0).length) x (me_N i) = some (me_fi t x i) := by
  intro t
  induction t with
  | nil =>
    intro i f h1 h2 h3
    obtain ⟨f, rfl⟩ : ∃ g, f = g + 1 := ⟨f - 1, by omega⟩
    have h4 := List.drop_eq_nil_iff.mp h1
    show f_La1_indexOfChar_b7 _ _ _ _ _ _ = _
    unfold f_La1_indexOfChar_b7
    rw [if_pos (by rw [me_N_le (by omega) (by omega)]; omega)]
    rfl
  | cons c t ih =>
    intro i f h1 h2 h3
    obtain ⟨f, rfl⟩ : ∃ g, f = g + 1 := ⟨f - 1, by omega⟩
    have hlt : i < (me_sb v0).length := by
      rcases Nat.lt_or_ge i (me_sb v0).length with q | q
      · exact q
      · rw [List.drop_eq_nil_iff.mpr q] at h1
        cases h1
    have h5 := List.drop_eq_getElem_cons hlt
    rw [h1] at h5
    injection h5 with h6 h7
    show f_La1_indexOfChar_b7 _ _ _ _ _ _ = _
    unfold f_La1_indexOfChar_b7
    rw [if_neg (by rw [me_N_le (by omega) (by omega)]; omega), me_gd_n (by omega) hlt, me_N_ix (by omega), me_N_inc, me_lt_s, ih (i + 1) f h7.symm (by simp at h2; omega) (by omega)]
    rw [List.getD_eq_getElem?_getD, List.getElem?_eq_getElem hlt, ← h6]
    show _ = some (if c = x then me_N i else me_fi t x (i + 1))
    by_cases e : c = x
    · rw [if_pos e, if_pos (show (some c).getD 0 = x from e)]
    · rw [if_neg e, if_neg (show ¬ (some c).getD 0 = x from e)]
theorem s_byte : ∀ n, n < 256 → Int8.toInt32 (Int32.toInt8 (me_N n)) = if n < 128 then me_N n else me_N n - me_N 256 := by decide +kernel
theorem s_small : ∀ v0, v0 < 3 → ∀ c, c ∈ me_sb v0 → ∃ k, k < 128 ∧ c = me_N k := by
  intro v0 h
  have h1 : ∀ v0, v0 < 3 → ∀ c, c ∈ me_sb v0 → c = me_N c.toInt.toNat ∧ c.toInt.toNat < 128 := by decide +kernel
  intro c hc
  obtain ⟨e1, e2⟩ := h1 v0 h c hc
  exact ⟨_, e2, e1⟩
theorem s_fi_cg {x y : Int32} : ∀ (t : List Int32) (i : Nat), (∀ c, c ∈ t → (c = x ↔ c = y)) → me_fi t x i = me_fi t y i := by
  intro t
  induction t with
  | nil => intro i _; rfl
  | cons c t ih =>
    intro i h
    show (if c = x then me_N i else me_fi t x (i + 1)) = if c = y then me_N i else me_fi t y (i + 1)
    rw [ih (i + 1) (fun c hc => h c (List.mem_cons_of_mem _ hc))]
    by_cases e : c = x
    · rw [if_pos e, if_pos ((h c List.mem_cons_self).mp e)]
    · rw [if_neg e, if_neg (fun q => e ((h c List.mem_cons_self).mpr q))]
theorem s_fi_no {x : Int32} : ∀ (t : List Int32) (i : Nat), (∀ c, c ∈ t → ¬ c = x) → me_fi t x i = -1 := by
  intro t
  induction t with
  | nil => intro i _; rfl
  | cons c t ih =>
    intro i h
    show (if c = x then me_N i else me_fi t x (i + 1)) = _
    rw [if_neg (h c List.mem_cons_self)]
    exact ih _ (fun c hc => h c (List.mem_cons_of_mem _ hc))
theorem s_len : ∀ v0, v0 < 3 → 0 < (me_sb v0).length ∧ (me_sb v0).length < 100 ∧ (Int32.ofNat (me_sb v0).length) >>> ((0 : Int32) &&& 31) = me_N (me_sb v0).length := by decide +kernel
theorem s_indexOf {μ : me_M} {v0 : Nat} {v : Int32} (h : v0 < 3) : f_Str_indexOf1 μ v0 v = some (me_fi (me_sb v0) v 0) := by
  obtain ⟨hl0, hl, hs⟩ := s_len v0 h
  unfold f_Str_indexOf1 f_Str_indexOf2 f_Str_isLatin1 f_Str_length f_Str_coder f_La1_indexOf f_La1_canEncode
  simp only [me_bd_s]
  rw [if_neg (show ¬ (1 : Int32) = 0 by decide), hs]
  by_cases h0 : v < 0
  · rw [if_pos h0, me_bd_s, if_pos rfl, me_bd_s, me_bd_s, s_fi_no]
    intro c hc e
    obtain ⟨k, hk, rfl⟩ := s_small v0 h c hc
    rw [← e] at h0
    exact me_N_nneg (by omega) h0
  · rw [if_neg h0]
    obtain ⟨n, hn, rfl⟩ := me_N_of h0
    by_cases h1 : (255 : Int32) < me_N n
    · rw [if_pos h1, me_bd_s, if_pos rfl, me_bd_s, me_bd_s, s_fi_no]
      intro c hc e
      obtain ⟨k, hk, rfl⟩ := s_small v0 h c hc
      rw [show (255 : Int32) = me_N 255 from rfl, me_N_lt (by omega) hn] at h1
      rw [me_N_inj (by omega) hn] at e
      omega
    · rw [if_neg h1, me_bd_s, if_neg (by decide)]
      have hn2 : n < 256 := by
        rw [show (255 : Int32) = me_N 255 from rfl, me_N_lt (by omega) hn] at h1
        omega
      have e1 : me_max' 0 0 = me_N 0 := rfl
      have e2 : me_min' (me_N (me_sb v0).length) (Int32.ofNat (me_sb v0).length) = me_N (me_sb v0).length := by
        unfold me_min' me_N
        split <;> rfl
      rw [me_lt_s, me_lt_s, e1, e2, if_pos (by rw [me_N_lt (by omega) (by omega)]; omega)]
      unfold f_La1_indexOfChar
      rw [me_lt_s, s_loop hl (me_sb v0) 0 me_FU rfl (by show _ < 1000; omega) (by omega)]
      simp only [me_bd_s]
      rw [s_fi_cg]
      intro c hc
      obtain ⟨k, hk, rfl⟩ := s_small v0 h c hc
      rw [s_byte n hn2]
      by_cases e : n < 128
      · rw [if_pos e]
      · rw [if_neg e]
        constructor
        · intro q
          have := congrArg Int32.toInt q
          rw [me_N_toInt (by omega), ← me_N_ofInt, ← me_N_ofInt, ← Int32.ofInt_sub, Int32.toInt_ofInt_of_le (by omega) (by omega)] at this
          omega
        · intro q
          rw [me_N_inj (by omega) hn] at q
          omega
/-- ewsnc -/
theorem s_side (v : Int32) : (∃ d, d < 5 ∧ me_fi (me_sb 1) v 0 = me_N d) ∨ me_fi (me_sb 1) v 0 = -1 := by
  show (∃ d, d < 5 ∧ (if 101 = v then me_N 0 else if 119 = v then me_N 1 else if 115 = v then me_N 2 else if 110 = v then me_N 3 else if 99 = v then me_N 4 else -1) = me_N d) ∨ _
  by_cases h0 : 101 = v
  · exact Or.inl ⟨0, by omega, by rw [if_pos h0]⟩
  by_cases h1 : 119 = v
  · exact Or.inl ⟨1, by omega, by rw [if_neg h0, if_pos h1]⟩
  by_cases h2 : 115 = v
  · exact Or.inl ⟨2, by omega, by rw [if_neg h0, if_neg h1, if_pos h2]⟩
  by_cases h3 : 110 = v
  · exact Or.inl ⟨3, by omega, by rw [if_neg h0, if_neg h1, if_neg h2, if_pos h3]⟩
  by_cases h4 : 99 = v
  · exact Or.inl ⟨4, by omega, by rw [if_neg h0, if_neg h1, if_neg h2, if_neg h3, if_pos h4]⟩
  · refine Or.inr ?_
    show (if 101 = v then me_N 0 else if 119 = v then me_N 1 else if 115 = v then me_N 2 else if 110 = v then me_N 3 else if 99 = v then me_N 4 else -1) = -1
    rw [if_neg h0, if_neg h1, if_neg h2, if_neg h3, if_neg h4]
theorem s_way (v : Int32) : ((v = 120 ∨ v = 121 ∨ v = 116) ∧ 0 ≤ me_fi (me_sb 0) v 0) ∨ (¬ v = 120 ∧ ¬ v = 121 ∧ ¬ v = 116 ∧ ¬ 0 ≤ me_fi (me_sb 0) v 0) := by
  have e : me_fi (me_sb 0) v 0 = if 120 = v then me_N 0 else if 121 = v then me_N 1 else if 116 = v then me_N 2 else -1 := rfl
  rw [e]
  by_cases h0 : 120 = v
  · exact Or.inl ⟨Or.inl h0.symm, by rw [if_pos h0]; decide⟩
  by_cases h1 : 121 = v
  · exact Or.inl ⟨Or.inr (Or.inl h1.symm), by rw [if_neg h0, if_pos h1]; decide⟩
  by_cases h2 : 116 = v
  · exact Or.inl ⟨Or.inr (Or.inr h2.symm), by rw [if_neg h0, if_neg h1, if_pos h2]; decide⟩
  · exact Or.inr ⟨fun q => h0 q.symm, fun q => h1 q.symm, fun q => h2 q.symm, by rw [if_neg h0, if_neg h1, if_neg h2]; decide⟩
theorem s_name (v : Int32) : ((v = 112 ∨ v = 108 ∨ v = 115 ∨ v = 43 ∨ v = 45 ∨ v = 42 ∨ v = 100 ∨ v = 114 ∨ v = 106 ∨ v = 98 ∨ v = 104) ∧ ¬ me_fi (me_sb 2) v 0 < 0) ∨ me_fi (me_sb 2) v 0 < 0 := by
  by_cases h : me_fi (me_sb 2) v 0 < 0
  · exact Or.inr h
  · refine Or.inl ⟨?_, h⟩
    have e : me_fi (me_sb 2) v 0 = if 112 = v then me_N 0 else if 108 = v then me_N 1 else if 115 = v then me_N 2 else if 43 = v then me_N 3 else if 45 = v then me_N 4 else if 42 = v then me_N 5 else if 100 = v then me_N 6 else if 114 = v then me_N 7 else if 106 = v then me_N 8 else if 98 = v then me_N 9 else if 104 = v then me_N 10 else -1 := rfl
    rw [e] at h
    by_cases h0 : 112 = v
    · exact Or.inl h0.symm
    by_cases h1 : 108 = v
    · exact Or.inr (Or.inl h1.symm)
    by_cases h2 : 115 = v
    · simp [← h2]
    by_cases h3 : 43 = v
    · simp [← h3]
    by_cases h4 : 45 = v
    · simp [← h4]
    by_cases h5 : 42 = v
    · simp [← h5]
    by_cases h6 : 100 = v
    · simp [← h6]
    by_cases h7 : 114 = v
    · simp [← h7]
    by_cases h8 : 106 = v
    · simp [← h8]
    by_cases h9 : 98 = v
    · simp [← h9]
    by_cases h10 : 104 = v
    · simp [← h10]
    · rw [if_neg h0, if_neg h1, if_neg h2, if_neg h3, if_neg h4, if_neg h5, if_neg h6, if_neg h7, if_neg h8, if_neg h9, if_neg h10] at h
      exact absurd (show (-1 : Int32) < 0 by decide) h
theorem s_charAt {μ : me_M} {d : Nat} (h : d < 5) : f_Str_charAt μ 1 (me_N d) = some ((me_sb 1).getD d 0) ∧ me_nr .char ((me_sb 1).getD d 0) = true := by
  have h1 : ∀ d, d < 5 → me_i2c' (((me_sb 1).getD d 0) &&& (255 : Int32)) = (me_sb 1).getD d 0 ∧ me_nr .char ((me_sb 1).getD d 0) = true := by decide +kernel
  obtain ⟨e1, e2⟩ := h1 d h
  refine ⟨?_, e2⟩
  unfold f_Str_charAt f_Str_isLatin1 f_La1_charAt f_Str_checkIndex f_Pre_checkIndex
  rw [me_bd_s, if_neg (by decide), if_neg (me_N_nneg (by omega)), if_pos (show me_N d < Int32.ofNat (me_sb 1).length from (me_N_lt (b := 5) (by omega) (by omega)).mpr h), me_bd_s, me_bd_s, me_gd_n (n := (me_sb 1).length) (by omega) (show d < 5 from h), me_N_ix (by omega), e1, me_gd_t e2, me_bd_s, me_gd_t e2]
