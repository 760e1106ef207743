/-! FROM THE ROWS OF whole that speak of the class alone (taken out by gen/extract.py) -/
theorem s_loop {μ : me_M} {v0 : Nat} {x : Int32} (hl : (me_sb v0).length < 100) : ∀ (t : List Int32) (i f : Nat), (me_sb v0).drop i = t → t.length < f → i ≤ (me_sb v0).length → f_La1_indexOfChar_h7 μ f v0 (me_N (me_sb v0).length) x (me_N i) = some (me_fi t x i) := by
  intro t
  induction t with
  | nil =>
    intro i f h1 h2 h3
    obtain ⟨f, rfl⟩ : ∃ g, f = g + 1 := ⟨f - 1, by omega⟩
    have h4 := List.drop_eq_nil_iff.mp h1
    show f_La1_indexOfChar_b7 _ _ _ _ _ _ = _
    unfold f_La1_indexOfChar_b7
    rw [if_pos (by rw [me_N_le (by omega) (by omega)]; omega)]
    rfl
  | cons c t ih =>
    intro i f h1 h2 h3
    obtain ⟨f, rfl⟩ : ∃ g, f = g + 1 := ⟨f - 1, by omega⟩
    have hlt : i < (me_sb v0).length := by
      rcases Nat.lt_or_ge i (me_sb v0).length with q | q
      · exact q
      · rw [List.drop_eq_nil_iff.mpr q] at h1
        cases h1
    have h5 := List.drop_eq_getElem_cons hlt
    rw [h1] at h5
    injection h5 with h6 h7
    show f_La1_indexOfChar_b7 _ _ _ _ _ _ = _
    unfold f_La1_indexOfChar_b7
    rw [if_neg (by rw [me_N_le (by omega) (by omega)]; omega), me_gd_n (by omega) hlt, me_N_ix (by omega), me_N_inc, me_lt_s, ih (i + 1) f h7.symm (by simp at h2; omega) (by omega)]
    rw [List.getD_eq_getElem?_getD, List.getElem?_eq_getElem hlt, ← h6]
    show _ = some (if c = x then me_N i else me_fi t x (i + 1))
    by_cases e : c = x
    · rw [if_pos e, if_pos (show (some c).getD 0 = x from e)]
    · rw [if_neg e, if_neg (show ¬ (some c).getD 0 = x from e)]
theorem s_byte : ∀ n, n < 256 → Int8.toInt32 (Int32.toInt8 (me_N n)) = if n < 128 then me_N n else me_N n - me_N 256 := by decide +kernel
theorem s_small : ∀ v0, v0 < 3 → ∀ c, c ∈ me_sb v0 → ∃ k, k < 128 ∧ c = me_N k := by
  intro v0 h
  have h1 : ∀ v0, v0 < 3 → ∀ c, c ∈ me_sb v0 → c = me_N c.toInt.toNat ∧ c.toInt.toNat < 128 := by decide +kernel
  intro c hc
  obtain ⟨e1, e2⟩ := h1 v0 h c hc
  exact ⟨_, e2, e1⟩
theorem s_fi_cg {x y : Int32} : ∀ (t : List Int32) (i : Nat), (∀ c, c ∈ t → (c = x ↔ c = y)) → me_fi t x i = me_fi t y i := by
  intro t
  induction t with
  | nil => intro i _; rfl
  | cons c t ih =>
    intro i h
    show (if c = x then me_N i else me_fi t x (i + 1)) = if c = y then me_N i else me_fi t y (i + 1)
    rw [ih (i + 1) (fun c hc => h c (List.mem_cons_of_mem _ hc))]
    by_cases e : c = x
    · rw [if_pos e, if_pos ((h c List.mem_cons_self).mp e)]
    · rw [if_neg e, if_neg (fun q => e ((h c List.mem_cons_self).mpr q))]
theorem s_fi_no {x : Int32} : ∀ (t : List Int32) (i : Nat), (∀ c, c ∈ t → ¬ c = x) → me_fi t x i = -1 := by
  intro t
  induction t with
  | nil => intro i _; rfl
  | cons c t ih =>
    intro i h
    show (if c = x then me_N i else me_fi t x (i + 1)) = _
    rw [if_neg (h c List.mem_cons_self)]
    exact ih _ (fun c hc => h c (List.mem_cons_of_mem _ hc))
theorem s_len : ∀ v0, v0 < 3 → 0 < (me_sb v0).length ∧ (me_sb v0).length < 100 ∧ (Int32.ofNat (me_sb v0).length) >>> ((0 : Int32) &&& 31) = me_N (me_sb v0).length := by decide +kernel
theorem s_indexOf {μ : me_M} {v0 : Nat} {v : Int32} (h : v0 < 3) : f_Str_indexOf1 μ v0 v = some (me_fi (me_sb v0) v 0) := by
  obtain ⟨hl0, hl, hs⟩ := s_len v0 h
  unfold f_Str_indexOf1 f_Str_indexOf2 f_Str_isLatin1 f_Str_length f_Str_coder f_La1_indexOf f_La1_canEncode
  simp only [me_bd_s]
  rw [if_neg (show ¬ (1 : Int32) = 0 by decide), hs]
  by_cases h0 : v < 0
  · rw [if_pos h0, me_bd_s, if_pos rfl, me_bd_s, me_bd_s, s_fi_no]
    intro c hc e
    obtain ⟨k, hk, rfl⟩ := s_small v0 h c hc
    rw [← e] at h0
    exact me_N_nneg (by omega) h0
  · rw [if_neg h0]
    obtain ⟨n, hn, rfl⟩ := me_N_of h0
    by_cases h1 : (255 : Int32) < me_N n
    · rw [if_pos h1, me_bd_s, if_pos rfl, me_bd_s, me_bd_s, s_fi_no]
      intro c hc e
      obtain ⟨k, hk, rfl⟩ := s_small v0 h c hc
      rw [show (255 : Int32) = me_N 255 from rfl, me_N_lt (by omega) hn] at h1
      rw [me_N_inj (by omega) hn] at e
      omega
    · rw [if_neg h1, me_bd_s, if_neg (by decide)]
      have hn2 : n < 256 := by
        rw [show (255 : Int32) = me_N 255 from rfl, me_N_lt (by omega) hn] at h1
        omega
      have e1 : me_max' 0 0 = me_N 0 := rfl
      have e2 : me_min' (me_N (me_sb v0).length) (Int32.ofNat (me_sb v0).length) = me_N (me_sb v0).length := by
        unfold me_min' me_N
        split <;> rfl
      rw [me_lt_s, me_lt_s, e1, e2, if_pos (by rw [me_N_lt (by omega) (by omega)]; omega)]
      unfold f_La1_indexOfChar
      rw [me_lt_s, s_loop hl (me_sb v0) 0 me_FU rfl (by show _ < 1000; omega) (by omega)]
      simp only [me_bd_s]
      rw [s_fi_cg]
      intro c hc
      obtain ⟨k, hk, rfl⟩ := s_small v0 h c hc
      rw [s_byte n hn2]
      by_cases e : n < 128
      · rw [if_pos e]
      · rw [if_neg e]
        constructor
        · intro q
          have := congrArg Int32.toInt q
          rw [me_N_toInt (by omega), ← me_N_ofInt, ← me_N_ofInt, ← Int32.ofInt_sub, Int32.toInt_ofInt_of_le (by omega) (by omega)] at this
          omega
        · intro q
          rw [me_N_inj (by omega) hn] at q
          omega
/-- ewsnc -/
theorem s_side (v : Int32) : (∃ d, d < 5 ∧ me_fi (me_sb 1) v 0 = me_N d) ∨ me_fi (me_sb 1) v 0 = -1 := by
  show (∃ d, d < 5 ∧ (if 101 = v then me_N 0 else if 119 = v then me_N 1 else if 115 = v then me_N 2 else if 110 = v then me_N 3 else if 99 = v then me_N 4 else -1) = me_N d) ∨ _
  by_cases h0 : 101 = v
  · exact Or.inl ⟨0, by omega, by rw [if_pos h0]⟩
  by_cases h1 : 119 = v
  · exact Or.inl ⟨1, by omega, by rw [if_neg h0, if_pos h1]⟩
  by_cases h2 : 115 = v
  · exact Or.inl ⟨2, by omega, by rw [if_neg h0, if_neg h1, if_pos h2]⟩
  by_cases h3 : 110 = v
  · exact Or.inl ⟨3, by omega, by rw [if_neg h0, if_neg h1, if_neg h2, if_pos h3]⟩
  by_cases h4 : 99 = v
  · exact Or.inl ⟨4, by omega, by rw [if_neg h0, if_neg h1, if_neg h2, if_neg h3, if_pos h4]⟩
  · refine Or.inr ?_
    show (if 101 = v then me_N 0 else if 119 = v then me_N 1 else if 115 = v then me_N 2 else if 110 = v then me_N 3 else if 99 = v then me_N 4 else -1) = -1
    rw [if_neg h0, if_neg h1, if_neg h2, if_neg h3, if_neg h4]
theorem s_way (v : Int32) : ((v = 120 ∨ v = 121 ∨ v = 116) ∧ 0 ≤ me_fi (me_sb 0) v 0) ∨ (¬ v = 120 ∧ ¬ v = 121 ∧ ¬ v = 116 ∧ ¬ 0 ≤ me_fi (me_sb 0) v 0) := by
  have e : me_fi (me_sb 0) v 0 = if 120 = v then me_N 0 else if 121 = v then me_N 1 else if 116 = v then me_N 2 else -1 := rfl
  rw [e]
  by_cases h0 : 120 = v
  · exact Or.inl ⟨Or.inl h0.symm, by rw [if_pos h0]; decide⟩
  by_cases h1 : 121 = v
  · exact Or.inl ⟨Or.inr (Or.inl h1.symm), by rw [if_neg h0, if_pos h1]; decide⟩
  by_cases h2 : 116 = v
  · exact Or.inl ⟨Or.inr (Or.inr h2.symm), by rw [if_neg h0, if_neg h1, if_pos h2]; decide⟩
  · exact Or.inr ⟨fun q => h0 q.symm, fun q => h1 q.symm, fun q => h2 q.symm, by rw [if_neg h0, if_neg h1, if_neg h2]; decide⟩
theorem y_busy {a : me_S} {μ : me_M} (hC : me_RC a μ) {n : Nat} (hn : n < 16) : f_Core_isBusy μ n = some (if a.co n = 114 ∨ a.co n = 119 ∨ a.co n = 98 then 1 else 0) := by
  unfold f_Core_isBusy f_Core_isActive f_Core_isActive_b18 f_Core_isBusy_b16
  rw [hC.co n hn]
  by_cases h1 : a.co n = 114
  · rw [if_pos h1, me_bd_s, if_neg (by decide), if_pos (Or.inl h1)]
  · rw [if_neg h1]
    by_cases h2 : a.co n = 119
    · rw [if_pos h2, me_bd_s, if_neg (by decide), if_pos (Or.inr (Or.inl h2))]
    · rw [if_neg h2, me_bd_s, if_pos rfl]
      by_cases h3 : a.co n = 98
      · rw [if_pos h3, if_pos (Or.inr (Or.inr h3))]
      · rw [if_neg h3, if_neg (by rintro (e | e | e); exact h1 e; exact h2 e; exact h3 e)]
theorem y_row_o {μ : me_M} {n c d k : Nat} {v : Int32} (hn : n < 16) (hc : c < 2) (hd : d < k) (hk : k ≤ 5) (hv : me_fi (me_sb 1) v 0 = me_N d) : f_Y_needRow μ (me_N n) v (me_N c) (me_N k) = some (.ok (10 * n + (c * 5 + d))) := by
  unfold f_Y_needRow
  rw [s_indexOf (by decide), hv, me_bd_s, if_neg (me_N_nneg (by omega)), if_neg (by rw [me_N_le (by omega) (by omega)]; omega), if_neg (me_N_nneg (by omega)), if_pos (by rw [me_N_2, me_N_lt (by omega) (by omega)]; omega), me_gd_n (by omega) hn, me_N_5, me_N_mul, me_N_add, me_gd_n (by omega) (by omega), me_N_ix (by omega), me_N_ix (by omega)]
theorem y_row_n {μ : me_M} {n k : Nat} {v x : Int32} (hk : k ≤ 5) (h : ¬ ((∃ d, d < k ∧ me_fi (me_sb 1) v 0 = me_N d) ∧ me_isB x 2)) : f_Y_needRow μ (me_N n) v x (me_N k) = some (.error 2) := by
  unfold f_Y_needRow f_Y_needRow_b29
  rw [s_indexOf (by decide), me_bd_s]
  rcases s_side v with ⟨d, hd, e⟩ | e
  · rw [e, if_neg (me_N_nneg (by omega))]
    by_cases hdk : d < k
    · rw [if_neg (by rw [me_N_le (by omega) (by omega)]; omega)]
      have hx : ¬ me_isB x 2 := fun q => h ⟨⟨d, hdk, e⟩, q⟩
      rcases me_isB_no (by omega) hx with h1 | ⟨h1, h2⟩
      · rw [if_pos h1]
      · rw [if_neg h1, if_neg]
        rw [Int32.lt_iff_toInt_lt]
        rw [Int32.le_iff_toInt_le] at h2
        exact Int.not_lt.mpr h2
    · rw [if_pos (by rw [me_N_le (by omega) (by omega)]; omega)]
  · rw [e, if_pos (by decide)]
def me_sm (g : Nat → Nat) : Nat → Nat → Nat
  | _, 0 => 0
  | i, d + 1 => g i + me_sm g (i + 1) d
def me_nbok (w h n d : Nat) : Bool := match me_nb w h n d with
  | none => true
  | some n' => decide (n' < w * h) && decide (me_nb w h n' (me_op d) = some n)
theorem me_nb_all : ∀ w, w < 5 → ∀ h, h < 5 → ∀ n, n < w * h → ∀ d, d < 4 → me_nbok w h n d = true := by decide +kernel
theorem me_nb_ok {w h n d n' : Nat} (hw : w < 5) (hh : h < 5) (hn : n < w * h) (hd : d < 4) (e : me_nb w h n d = some n') : n' < w * h ∧ me_nb w h n' (me_op d) = some n := by
  have := me_nb_all w hw h hh n hn d hd
  unfold me_nbok at this
  rw [e] at this
  simpa using this
theorem me_op_lt (d : Nat) : me_op d < 4 := by
  unfold me_op
  split <;> omega
theorem me_op_op {d : Nat} (h : d < 4) : me_op (me_op d) = d := by
  match d, h with
  | 0, _ => rfl
  | 1, _ => rfl
  | 2, _ => rfl
  | 3, _ => rfl
theorem me_op_xor {d : Nat} (h : d < 4) : me_N d ^^^ 1 = me_N (me_op d) := by
  match d, h with
  | 0, _ => rfl
  | 1, _ => rfl
  | 2, _ => rfl
  | 3, _ => rfl
theorem me_Op_lt {a : me_S} (hI : me_Iv a) {n d n' : Nat} (hn : n < a.w * a.h) (hd : d < 4) (e : me_nb a.w a.h n d = some n') : n' < a.w * a.h ∧ me_nb a.w a.h n' (me_op d) = some n :=
  me_nb_ok (by have := hI.1.iw; omega) (by have := hI.1.ih; omega) hn hd e
def gh_al (P : Nat → Bool) : Nat → Nat → Bool
  | _, 0 => true
  | i, d + 1 => P i && gh_al P (i + 1) d
def me_ie (a : me_S) (r : Nat) : Bool := decide ((a.q r).length = 0) && decide (a.ro r = none)
theorem me_ro_m1 {a : me_S} (hI : me_Iv a) (r : Nat) : (me_Op (a.ro r) = -1) ↔ a.ro r = none := me_Op_m1 (fun n h => by
  have := (hI.2.2.2.2.1.iow r n h).2.1
  have := hI.n200
  omega)
theorem me_ql (a : me_S) (hI : me_Iv a) (r : Nat) : (a.q r).length ≤ 4 := hI.2.2.2.2.1.in4 r
theorem y_idle {a : me_S} {μ : me_M} (hC : me_RC a μ) (hI : me_Iv a) {n : Nat} (hn : n < 16) : ∀ (d f i : Nat), i + d = 10 → d < f → f_Router_isIdle_h2 μ f n (me_N i) = some (me_bi (gh_al (fun k => me_ie a (10 * n + k)) i d)) := by
  intro d
  induction d with
  | zero =>
    intro f i h1 h2
    obtain ⟨f, rfl⟩ : ∃ g, f = g + 1 := ⟨f - 1, by omega⟩
    show f_Router_isIdle_b2 _ _ _ _ = _
    unfold f_Router_isIdle_b2
    rw [if_pos (by rw [me_N_10, me_N_le (by omega) (by omega)]; omega)]
    rfl
  | succ d ih =>
    intro f i h1 h2
    obtain ⟨f, rfl⟩ : ∃ g, f = g + 1 := ⟨f - 1, by omega⟩
    have hl := me_ql a hI (10 * n + i)
    show f_Router_isIdle_b2 _ _ _ _ = some (me_bi (me_ie a (10 * n + i) && gh_al (fun k => me_ie a (10 * n + k)) (i + 1) d))
    unfold f_Router_isIdle_b2
    rw [if_neg (by rw [me_N_10, me_N_le (by omega) (by omega)]; omega), me_gd_n (by omega) (by omega), me_gd_n (by omega) (by omega), me_N_ix (by omega), hC.qn _ (by omega), hC.ro _ (by omega), me_N_inc, me_lt_s, ih f (i + 1) (by omega) (by omega)]
    unfold me_ie
    by_cases e1 : (a.q (10 * n + i)).length = 0
    · rw [if_neg (by rw [me_N_0, me_N_lt (by omega) (by omega)]; omega)]
      by_cases e2 : a.ro (10 * n + i) = none
      · rw [if_pos ((me_ro_m1 hI _).mpr e2), decide_eq_true e1, decide_eq_true e2]
        rfl
      · rw [if_neg (fun q => e2 ((me_ro_m1 hI _).mp q)), decide_eq_true e1, decide_eq_false e2]
        rfl
    · rw [if_pos (by rw [me_N_0, me_N_lt (by omega) (by omega)]; omega), decide_eq_false e1]
      rfl
def gh_ly (a : me_S) (n s i : Nat) : Prop := a.kd i = 109 ∧ a.st i = 100 ∧ a.gl i = n ∧ a.sr i = s
theorem y_lies {a : me_S} {μ : me_M} (hC : me_RC a μ) (hI : me_Iv a) {n s i : Nat} (hn : n < 16) (hs : s < 16) (hi : i < a.np) : (gh_ly a n s i ∧ f_Post_liesAt μ i (me_N n) (me_N s) = some 1) ∨ (¬ gh_ly a n s i ∧ f_Post_liesAt μ i (me_N n) (me_N s) = some 0) := by
  have hwh := hI.wh
  have h1 := hI.2.1.igl i hi
  have h2 := hI.2.1.isr i hi
  unfold f_Post_liesAt gh_ly
  rw [hC.kd, hC.st, hC.gl, hC.sr]
  have e1 : (me_N (a.gl i) = me_N n) ↔ a.gl i = n := me_N_inj (by omega) (by omega)
  have e2 : (me_N (a.sr i) = me_N s) ↔ a.sr i = s := me_N_inj (by omega) (by omega)
  by_cases c1 : a.kd i = 109
  · by_cases c2 : a.st i = 100
    · by_cases c3 : a.gl i = n
      · by_cases c4 : a.sr i = s
        · exact Or.inl ⟨⟨c1, c2, c3, c4⟩, by rw [if_pos c1, if_pos c2, if_pos (e1.mpr c3), if_pos (e2.mpr c4)]⟩
        · exact Or.inr ⟨fun q => c4 q.2.2.2, by rw [if_pos c1, if_pos c2, if_pos (e1.mpr c3), if_neg (fun q => c4 (e2.mp q))]⟩
      · exact Or.inr ⟨fun q => c3 q.2.2.1, by rw [if_pos c1, if_pos c2, if_neg (fun q => c3 (e1.mp q))]⟩
    · exact Or.inr ⟨fun q => c2 q.2.1, by rw [if_pos c1, if_neg c2]⟩
  · exact Or.inr ⟨fun q => c1 q.1, by rw [if_neg c1]⟩
noncomputable def gh_l1 (a : me_S) (n s i : Nat) : Nat := @ite _ (gh_ly a n s i) (Classical.propDecidable _) 1 0
theorem gh_l1_p {a : me_S} {n s i : Nat} (h : gh_ly a n s i) : gh_l1 a n s i = 1 := if_pos h
theorem gh_l1_n {a : me_S} {n s i : Nat} (h : ¬ gh_ly a n s i) : gh_l1 a n s i = 0 := if_neg h
theorem y_cntLying {a : me_S} {μ : me_M} (hC : me_RC a μ) (hI : me_Iv a) {n s : Nat} (hn : n < 16) (hs : s < 16) : ∀ (d f i c : Nat), i + d = a.np → d < f → f_Post_countLying_h5 μ f (me_N n) (me_N s) (me_N c) (me_N i) = some (me_N (c + me_sm (gh_l1 a n s) i d)) := by
  have hnp := hI.n200
  intro d
  induction d with
  | zero =>
    intro f i c h1 h2
    obtain ⟨f, rfl⟩ : ∃ g, f = g + 1 := ⟨f - 1, by omega⟩
    show f_Post_countLying_b5 _ _ _ _ _ _ = _
    unfold f_Post_countLying_b5
    rw [hC.np, if_pos (by rw [me_N_le (by omega) (by omega)]; omega)]
    rfl
  | succ d ih =>
    intro f i c h1 h2
    obtain ⟨f, rfl⟩ : ∃ g, f = g + 1 := ⟨f - 1, by omega⟩
    show f_Post_countLying_b5 _ _ _ _ _ _ = some (me_N (c + (gh_l1 a n s i + me_sm (gh_l1 a n s) (i + 1) d)))
    unfold f_Post_countLying_b5
    rw [hC.np, if_neg (by rw [me_N_le (by omega) (by omega)]; omega), me_gd_n (by omega) (by omega), me_N_ix (by omega)]
    rcases y_lies hC hI hn hs (i := i) (by omega) with ⟨h, e⟩ | ⟨h, e⟩
    · rw [e, me_bd_s, if_neg (by decide), me_lt_s, me_N_inc, me_lt_s, me_N_inc, ih f (i + 1) (c + 1) (by omega) (by omega), gh_l1_p h, Nat.add_assoc]
    · rw [e, me_bd_s, if_pos rfl, me_lt_s, me_N_inc, ih f (i + 1) c (by omega) (by omega), gh_l1_n h, Nat.zero_add]
/-- the first that lies there -/
noncomputable def gh_fl (a : me_S) (n s : Nat) : Nat → Nat → Option Nat → Option Nat
  | _, 0, b => b
  | i, d + 1, b => gh_fl a n s (i + 1) d (@ite _ (gh_ly a n s i) (Classical.propDecidable _) (match b with
    | none => some i
    | some j => if me_Op (a.dn j) ≤ me_Op (a.dn i) then some j else some i) b)
theorem gh_fl_p {a : me_S} {n s i d : Nat} {b : Option Nat} (h : gh_ly a n s i) : gh_fl a n s i (d + 1) b = gh_fl a n s (i + 1) d (match b with
    | none => some i
    | some j => if me_Op (a.dn j) ≤ me_Op (a.dn i) then some j else some i) := by
  show gh_fl a n s (i + 1) d (@ite _ (gh_ly a n s i) (Classical.propDecidable _) _ b) = _
  rw [if_pos h]
theorem gh_fl_n {a : me_S} {n s i d : Nat} {b : Option Nat} (h : ¬ gh_ly a n s i) : gh_fl a n s i (d + 1) b = gh_fl a n s (i + 1) d b := by
  show gh_fl a n s (i + 1) d (@ite _ (gh_ly a n s i) (Classical.propDecidable _) _ b) = _
  rw [if_neg h]
theorem y_first {a : me_S} {μ : me_M} (hC : me_RC a μ) (hI : me_Iv a) {n s : Nat} (hn : n < 16) (hs : s < 16) : ∀ (d f i : Nat) (b : Option Nat), i + d = a.np → d < f → (∀ j, b = some j → j < a.np) → f_Post_firstLying_h5 μ f (me_N n) (me_N s) b (me_N i) = some (gh_fl a n s i d b) := by
  have hnp := hI.n200
  intro d
  induction d with
  | zero =>
    intro f i b h1 h2 hb
    obtain ⟨f, rfl⟩ : ∃ g, f = g + 1 := ⟨f - 1, by omega⟩
    show f_Post_firstLying_b5 _ _ _ _ _ _ = _
    unfold f_Post_firstLying_b5
    rw [hC.np, if_pos (by rw [me_N_le (by omega) (by omega)]; omega)]
    cases b <;> rfl
  | succ d ih =>
    intro f i b h1 h2 hb
    obtain ⟨f, rfl⟩ : ∃ g, f = g + 1 := ⟨f - 1, by omega⟩
    show f_Post_firstLying_b5 _ _ _ _ _ _ = _
    unfold f_Post_firstLying_b5 f_Post_firstLying_b50
    simp only [me_lt_s, me_N_inc]
    rw [hC.np, if_neg (by rw [me_N_le (by omega) (by omega)]; omega), me_gd_n (by omega) (by omega), me_N_ix (by omega)]
    rcases y_lies hC hI hn hs (i := i) (by omega) with ⟨h, e⟩ | ⟨h, e⟩
    · rw [e, me_bd_s, if_neg (by decide), gh_fl_p h]
      cases b with
      | none =>
        rw [me_oq_n]
        exact ih f (i + 1) _ (by omega) (by omega) (fun j hj => by cases hj; omega)
      | some m =>
        rw [me_oq_s, hC.dn m (hb m rfl), hC.dn i (by omega)]
        dsimp only
        by_cases c : me_Op (a.dn m) ≤ me_Op (a.dn i)
        · rw [if_pos c, if_pos c]
          exact ih f (i + 1) _ (by omega) (by omega) (fun j hj => by cases hj; exact hb m rfl)
        · rw [if_neg c, if_neg c]
          exact ih f (i + 1) _ (by omega) (by omega) (fun j hj => by cases hj; omega)
    · rw [e, me_bd_s, if_pos rfl, gh_fl_n h]
      exact ih f (i + 1) b (by omega) (by omega) hb
def gh_ln (a : me_S) (r : Nat) : Nat := (a.q r).length
theorem y_cntP {a : me_S} {μ : me_M} (hC : me_RC a μ) {n : Nat} (hn : n < 16) : ∀ (d f i c : Nat), i + d = 10 → d < f → f_Router_countPieces_h4 μ f n (me_N c) (me_N i) = some (me_N (c + me_sm (fun k => gh_ln a (10 * n + k)) i d)) := by
  intro d
  induction d with
  | zero =>
    intro f i c h1 h2
    obtain ⟨f, rfl⟩ : ∃ g, f = g + 1 := ⟨f - 1, by omega⟩
    show f_Router_countPieces_b4 _ _ _ _ _ = _
    unfold f_Router_countPieces_b4
    rw [if_pos (by rw [me_N_10, me_N_le (by omega) (by omega)]; omega)]
    rfl
  | succ d ih =>
    intro f i c h1 h2
    obtain ⟨f, rfl⟩ : ∃ g, f = g + 1 := ⟨f - 1, by omega⟩
    show f_Router_countPieces_b4 _ _ _ _ _ = some (me_N (c + (gh_ln a (10 * n + i) + me_sm (fun k => gh_ln a (10 * n + k)) (i + 1) d)))
    unfold f_Router_countPieces_b4
    rw [if_neg (by rw [me_N_10, me_N_le (by omega) (by omega)]; omega), me_gd_n (by omega) (by omega), me_N_ix (by omega), hC.qn _ (by omega), me_N_add, me_lt_s, me_N_inc, me_lt_s, ih f (i + 1) _ (by omega) (by omega), Nat.add_assoc]
    rfl
theorem y_pieces {a : me_S} {μ : me_M} (hC : me_RC a μ) {n : Nat} (hn : n < 16) : f_Router_countPieces μ n = some (me_N (me_sm (fun k => gh_ln a (10 * n + k)) 0 10)) := by
  have h := y_cntP hC hn 10 me_FU 0 0 rfl (by decide)
  rw [Nat.zero_add] at h
  exact h
def gh_lo (a : me_S) (i : Nat) : Nat := if a.st i = 108 then 1 else 0
theorem y_lost {a : me_S} {μ : me_M} (hC : me_RC a μ) (hI : me_Iv a) : ∀ (d f i c : Nat), i + d = a.np → d < f → f_Post_countLost_h4 μ f (me_N c) (me_N i) = some (me_N (c + me_sm (gh_lo a) i d)) := by
  have hnp := hI.n200
  intro d
  induction d with
  | zero =>
    intro f i c h1 h2
    obtain ⟨f, rfl⟩ : ∃ g, f = g + 1 := ⟨f - 1, by omega⟩
    show f_Post_countLost_b4 _ _ _ _ = _
    unfold f_Post_countLost_b4
    rw [hC.np, if_pos (by rw [me_N_le (by omega) (by omega)]; omega)]
    rfl
  | succ d ih =>
    intro f i c h1 h2
    obtain ⟨f, rfl⟩ : ∃ g, f = g + 1 := ⟨f - 1, by omega⟩
    show f_Post_countLost_b4 _ _ _ _ = some (me_N (c + (gh_lo a i + me_sm (gh_lo a) (i + 1) d)))
    unfold f_Post_countLost_b4
    simp only [me_lt_s, me_N_inc]
    rw [hC.np, if_neg (by rw [me_N_le (by omega) (by omega)]; omega), me_gd_n (by omega) (by omega), me_N_ix (by omega), hC.st, ih f (i + 1) c (by omega) (by omega), ih f (i + 1) (c + 1) (by omega) (by omega)]
    by_cases e : a.st i = 108
    · rw [if_pos e, show gh_lo a i = 1 from if_pos e, Nat.add_assoc]
    · rw [if_neg e, show gh_lo a i = 0 from if_neg e, Nat.zero_add]
theorem y_done {a : me_S} {μ : me_M} (hC : me_RC a μ) (i : Nat) : f_Packet_wasDelivered μ i = some (if a.st i = 100 ∨ a.st i = 114 then 1 else 0) := by
  unfold f_Packet_wasDelivered f_Packet_wasDelivered_b18
  rw [hC.st]
  by_cases h1 : a.st i = 100
  · rw [if_pos h1, if_pos (Or.inl h1)]
  · rw [if_neg h1]
    by_cases h2 : a.st i = 114
    · rw [if_pos h2, if_pos (Or.inr h2)]
    · rw [if_neg h2, if_neg (fun q => q.elim h1 h2)]
def gh_mk (a : me_S) (k : Int32) (s g : Nat) (w : Int32) (b : Nat) : me_S := (me_S.s_np (me_S.s_an (me_S.s_ad (me_S.s_pl (me_S.s_dn (me_S.s_ma (me_S.s_hd (me_S.s_tk (me_S.s_pt (me_S.s_bo (me_S.s_wd (me_S.s_gl (me_S.s_sr (me_S.s_st (me_S.s_kd a (me_fu a.kd a.np k)) (me_fu a.st a.np 115)) (me_fu a.sr a.np s)) (me_fu a.gl a.np g)) (me_fu a.wd a.np w)) (me_fu a.bo a.np b)) (me_fu a.pt a.np 0)) (me_fu a.tk a.np 0)) (me_fu a.hd a.np none)) (me_fu a.ma a.np a.bt)) (me_fu a.dn a.np none)) (me_fu a.pl a.np 0)) (me_fu a.ad a.np 0)) (me_fu a.an a.np none)) (a.np + 1))
theorem me_RC.w_make0 {a : me_S} {μ : me_M} (h : me_RC a μ) (k : Int32) (s g : Nat) (w : Int32) (b : Nat) : me_RC (me_S.s_np (me_S.s_an (me_S.s_ad (me_S.s_pl (me_S.s_dn (me_S.s_ma (me_S.s_hd (me_S.s_tk (me_S.s_pt (me_S.s_bo (me_S.s_wd (me_S.s_gl (me_S.s_sr (me_S.s_st (me_S.s_kd a (me_fu a.kd a.np k)) (me_fu a.st a.np 115)) (me_fu a.sr a.np s)) (me_fu a.gl a.np g)) (me_fu a.wd a.np w)) (me_fu a.bo a.np b)) (me_fu a.pt a.np 0)) (me_fu a.tk a.np 0)) (me_fu a.hd a.np none)) (me_fu a.ma a.np a.bt)) (me_fu a.dn a.np none)) (me_fu a.pl a.np 0)) (me_fu a.ad a.np 0)) (me_fu a.an a.np none)) (a.np + 1)) (me_up (me_up (me_up (me_up (me_up (me_up (me_up (me_up (me_up (me_up (me_up (me_up (me_up (me_up (me_up μ 8 a.np 1 (k)) 8 a.np 2 (115)) 8 a.np 3 (me_N s)) 8 a.np 4 (me_N g)) 8 a.np 5 (w)) 8 a.np 6 (me_N (b + 1))) 8 a.np 7 (0)) 8 a.np 8 (0)) 8 a.np 9 (-1)) 8 a.np 10 (me_N a.bt)) 8 a.np 11 (-1)) 8 a.np 12 (0)) 8 a.np 13 (0)) 8 a.np 14 (-1)) 6 0 1 (me_N (a.np + 1))) :=
  me_RC.mk ((me_up_kn (by decide)).trans ((me_up_kn (by decide)).trans ((me_up_kn (by decide)).trans ((me_up_kn (by decide)).trans ((me_up_kn (by decide)).trans ((me_up_kn (by decide)).trans ((me_up_kn (by decide)).trans ((me_up_kn (by decide)).trans ((me_up_kn (by decide)).trans ((me_up_kn (by decide)).trans ((me_up_kn (by decide)).trans ((me_up_kn (by decide)).trans ((me_up_kn (by decide)).trans ((me_up_kn (by decide)).trans ((me_up_kn (by decide)).trans (h.rp))))))))))))))))
    ((me_up_kn (by decide)).trans ((me_up_kn (by decide)).trans ((me_up_kn (by decide)).trans ((me_up_kn (by decide)).trans ((me_up_kn (by decide)).trans ((me_up_kn (by decide)).trans ((me_up_kn (by decide)).trans ((me_up_kn (by decide)).trans ((me_up_kn (by decide)).trans ((me_up_kn (by decide)).trans ((me_up_kn (by decide)).trans ((me_up_kn (by decide)).trans ((me_up_kn (by decide)).trans ((me_up_kn (by decide)).trans ((me_up_kn (by decide)).trans (h.nn))))))))))))))))
    (fun n d g0 g1 => (me_up_kn (by decide)).trans ((me_up_kn (by decide)).trans ((me_up_kn (by decide)).trans ((me_up_kn (by decide)).trans ((me_up_kn (by decide)).trans ((me_up_kn (by decide)).trans ((me_up_kn (by decide)).trans ((me_up_kn (by decide)).trans ((me_up_kn (by decide)).trans ((me_up_kn (by decide)).trans ((me_up_kn (by decide)).trans ((me_up_kn (by decide)).trans ((me_up_kn (by decide)).trans ((me_up_kn (by decide)).trans ((me_up_kn (by decide)).trans (h.ah n d g0 g1))))))))))))))))
    (fun n d g0 g1 => (me_up_kn (by decide)).trans ((me_up_kn (by decide)).trans ((me_up_kn (by decide)).trans ((me_up_kn (by decide)).trans ((me_up_kn (by decide)).trans ((me_up_kn (by decide)).trans ((me_up_kn (by decide)).trans ((me_up_kn (by decide)).trans ((me_up_kn (by decide)).trans ((me_up_kn (by decide)).trans ((me_up_kn (by decide)).trans ((me_up_kn (by decide)).trans ((me_up_kn (by decide)).trans ((me_up_kn (by decide)).trans ((me_up_kn (by decide)).trans (h.fl n d g0 g1))))))))))))))))
    (fun n g0 => (me_up_kn (by decide)).trans ((me_up_kn (by decide)).trans ((me_up_kn (by decide)).trans ((me_up_kn (by decide)).trans ((me_up_kn (by decide)).trans ((me_up_kn (by decide)).trans ((me_up_kn (by decide)).trans ((me_up_kn (by decide)).trans ((me_up_kn (by decide)).trans ((me_up_kn (by decide)).trans ((me_up_kn (by decide)).trans ((me_up_kn (by decide)).trans ((me_up_kn (by decide)).trans ((me_up_kn (by decide)).trans ((me_up_kn (by decide)).trans (h.cl n g0))))))))))))))))
    (fun n g0 => (me_up_kn (by decide)).trans ((me_up_kn (by decide)).trans ((me_up_kn (by decide)).trans ((me_up_kn (by decide)).trans ((me_up_kn (by decide)).trans ((me_up_kn (by decide)).trans ((me_up_kn (by decide)).trans ((me_up_kn (by decide)).trans ((me_up_kn (by decide)).trans ((me_up_kn (by decide)).trans ((me_up_kn (by decide)).trans ((me_up_kn (by decide)).trans ((me_up_kn (by decide)).trans ((me_up_kn (by decide)).trans ((me_up_kn (by decide)).trans (h.li n g0))))))))))))))))
    (by
      show (me_up (me_up (me_up (me_up (me_up (me_up (me_up (me_up (me_up (me_up (me_up (me_up (me_up (me_up (me_up μ 8 a.np 1 (k)) 8 a.np 2 (115)) 8 a.np 3 (me_N s)) 8 a.np 4 (me_N g)) 8 a.np 5 (w)) 8 a.np 6 (me_N (b + 1))) 8 a.np 7 (0)) 8 a.np 8 (0)) 8 a.np 9 (-1)) 8 a.np 10 (me_N a.bt)) 8 a.np 11 (-1)) 8 a.np 12 (0)) 8 a.np 13 (0)) 8 a.np 14 (-1)) 6 0 1 (me_N (a.np + 1))) 6 0 1 = me_N (a.np + 1)
      exact me_up_at)
    ((me_up_jn (by decide)).trans ((me_up_kn (by decide)).trans ((me_up_kn (by decide)).trans ((me_up_kn (by decide)).trans ((me_up_kn (by decide)).trans ((me_up_kn (by decide)).trans ((me_up_kn (by decide)).trans ((me_up_kn (by decide)).trans ((me_up_kn (by decide)).trans ((me_up_kn (by decide)).trans ((me_up_kn (by decide)).trans ((me_up_kn (by decide)).trans ((me_up_kn (by decide)).trans ((me_up_kn (by decide)).trans ((me_up_kn (by decide)).trans (h.ow))))))))))))))))
    (fun i g0 => (me_up_kn (by decide)).trans ((me_up_jn (by decide)).trans ((me_up_jn (by decide)).trans ((me_up_jn (by decide)).trans ((me_up_jn (by decide)).trans ((me_up_jn (by decide)).trans ((me_up_jn (by decide)).trans ((me_up_jn (by decide)).trans ((me_up_jn (by decide)).trans ((me_up_jn (by decide)).trans ((me_up_jn (by decide)).trans ((me_up_jn (by decide)).trans ((me_up_jn (by decide)).trans ((me_up_jn (by decide)).trans ((me_up_jn (by decide)).trans (h.p0 i g0))))))))))))))))
    (fun i => by
      show (me_up (me_up (me_up (me_up (me_up (me_up (me_up (me_up (me_up (me_up (me_up (me_up (me_up (me_up (me_up μ 8 a.np 1 (k)) 8 a.np 2 (115)) 8 a.np 3 (me_N s)) 8 a.np 4 (me_N g)) 8 a.np 5 (w)) 8 a.np 6 (me_N (b + 1))) 8 a.np 7 (0)) 8 a.np 8 (0)) 8 a.np 9 (-1)) 8 a.np 10 (me_N a.bt)) 8 a.np 11 (-1)) 8 a.np 12 (0)) 8 a.np 13 (0)) 8 a.np 14 (-1)) 6 0 1 (me_N (a.np + 1))) 8 i 1 = (me_fu a.kd a.np k) i
      by_cases e : i = a.np
      · subst e
        simp only [me_up_ap, me_fu_ap]
        simp [me_Op]
      · simp only [me_up_ap, me_fu_ap]
        simp [e]
        exact h.kd i)
    (fun i => by
      show (me_up (me_up (me_up (me_up (me_up (me_up (me_up (me_up (me_up (me_up (me_up (me_up (me_up (me_up (me_up μ 8 a.np 1 (k)) 8 a.np 2 (115)) 8 a.np 3 (me_N s)) 8 a.np 4 (me_N g)) 8 a.np 5 (w)) 8 a.np 6 (me_N (b + 1))) 8 a.np 7 (0)) 8 a.np 8 (0)) 8 a.np 9 (-1)) 8 a.np 10 (me_N a.bt)) 8 a.np 11 (-1)) 8 a.np 12 (0)) 8 a.np 13 (0)) 8 a.np 14 (-1)) 6 0 1 (me_N (a.np + 1))) 8 i 2 = (me_fu a.st a.np 115) i
      by_cases e : i = a.np
      · subst e
        simp only [me_up_ap, me_fu_ap]
        simp [me_Op]
      · simp only [me_up_ap, me_fu_ap]
        simp [e]
        exact h.st i)
    (fun i => by
      show (me_up (me_up (me_up (me_up (me_up (me_up (me_up (me_up (me_up (me_up (me_up (me_up (me_up (me_up (me_up μ 8 a.np 1 (k)) 8 a.np 2 (115)) 8 a.np 3 (me_N s)) 8 a.np 4 (me_N g)) 8 a.np 5 (w)) 8 a.np 6 (me_N (b + 1))) 8 a.np 7 (0)) 8 a.np 8 (0)) 8 a.np 9 (-1)) 8 a.np 10 (me_N a.bt)) 8 a.np 11 (-1)) 8 a.np 12 (0)) 8 a.np 13 (0)) 8 a.np 14 (-1)) 6 0 1 (me_N (a.np + 1))) 8 i 3 = me_N ((me_fu a.sr a.np s) i)
      by_cases e : i = a.np
      · subst e
        simp only [me_up_ap, me_fu_ap]
        simp [me_Op]
      · simp only [me_up_ap, me_fu_ap]
        simp [e]
        exact h.sr i)
    (fun i => by
      show (me_up (me_up (me_up (me_up (me_up (me_up (me_up (me_up (me_up (me_up (me_up (me_up (me_up (me_up (me_up μ 8 a.np 1 (k)) 8 a.np 2 (115)) 8 a.np 3 (me_N s)) 8 a.np 4 (me_N g)) 8 a.np 5 (w)) 8 a.np 6 (me_N (b + 1))) 8 a.np 7 (0)) 8 a.np 8 (0)) 8 a.np 9 (-1)) 8 a.np 10 (me_N a.bt)) 8 a.np 11 (-1)) 8 a.np 12 (0)) 8 a.np 13 (0)) 8 a.np 14 (-1)) 6 0 1 (me_N (a.np + 1))) 8 i 4 = me_N ((me_fu a.gl a.np g) i)
      by_cases e : i = a.np
      · subst e
        simp only [me_up_ap, me_fu_ap]
        simp [me_Op]
      · simp only [me_up_ap, me_fu_ap]
        simp [e]
        exact h.gl i)
    (fun i => by
      show (me_up (me_up (me_up (me_up (me_up (me_up (me_up (me_up (me_up (me_up (me_up (me_up (me_up (me_up (me_up μ 8 a.np 1 (k)) 8 a.np 2 (115)) 8 a.np 3 (me_N s)) 8 a.np 4 (me_N g)) 8 a.np 5 (w)) 8 a.np 6 (me_N (b + 1))) 8 a.np 7 (0)) 8 a.np 8 (0)) 8 a.np 9 (-1)) 8 a.np 10 (me_N a.bt)) 8 a.np 11 (-1)) 8 a.np 12 (0)) 8 a.np 13 (0)) 8 a.np 14 (-1)) 6 0 1 (me_N (a.np + 1))) 8 i 5 = (me_fu a.wd a.np w) i
      by_cases e : i = a.np
      · subst e
        simp only [me_up_ap, me_fu_ap]
        simp [me_Op]
      · simp only [me_up_ap, me_fu_ap]
        simp [e]
        exact h.wd i)
    (fun i g0 => by
      show (me_up (me_up (me_up (me_up (me_up (me_up (me_up (me_up (me_up (me_up (me_up (me_up (me_up (me_up (me_up μ 8 a.np 1 (k)) 8 a.np 2 (115)) 8 a.np 3 (me_N s)) 8 a.np 4 (me_N g)) 8 a.np 5 (w)) 8 a.np 6 (me_N (b + 1))) 8 a.np 7 (0)) 8 a.np 8 (0)) 8 a.np 9 (-1)) 8 a.np 10 (me_N a.bt)) 8 a.np 11 (-1)) 8 a.np 12 (0)) 8 a.np 13 (0)) 8 a.np 14 (-1)) 6 0 1 (me_N (a.np + 1))) 8 i 6 = me_N ((me_fu a.bo a.np b) i + 1)
      replace g0 : i < a.np + 1 := g0
      by_cases e : i = a.np
      · subst e
        simp only [me_up_ap, me_fu_ap]
        simp [me_Op]
      · simp only [me_up_ap, me_fu_ap]
        simp [e]
        exact h.bo i (by omega))
    (fun i => by
      show (me_up (me_up (me_up (me_up (me_up (me_up (me_up (me_up (me_up (me_up (me_up (me_up (me_up (me_up (me_up μ 8 a.np 1 (k)) 8 a.np 2 (115)) 8 a.np 3 (me_N s)) 8 a.np 4 (me_N g)) 8 a.np 5 (w)) 8 a.np 6 (me_N (b + 1))) 8 a.np 7 (0)) 8 a.np 8 (0)) 8 a.np 9 (-1)) 8 a.np 10 (me_N a.bt)) 8 a.np 11 (-1)) 8 a.np 12 (0)) 8 a.np 13 (0)) 8 a.np 14 (-1)) 6 0 1 (me_N (a.np + 1))) 8 i 7 = me_N ((me_fu a.pt a.np 0) i)
      by_cases e : i = a.np
      · subst e
        simp only [me_up_ap, me_fu_ap]
        simp [me_Op]
        rfl
      · simp only [me_up_ap, me_fu_ap]
        simp [e]
        exact h.pt i)
    (fun i => by
      show (me_up (me_up (me_up (me_up (me_up (me_up (me_up (me_up (me_up (me_up (me_up (me_up (me_up (me_up (me_up μ 8 a.np 1 (k)) 8 a.np 2 (115)) 8 a.np 3 (me_N s)) 8 a.np 4 (me_N g)) 8 a.np 5 (w)) 8 a.np 6 (me_N (b + 1))) 8 a.np 7 (0)) 8 a.np 8 (0)) 8 a.np 9 (-1)) 8 a.np 10 (me_N a.bt)) 8 a.np 11 (-1)) 8 a.np 12 (0)) 8 a.np 13 (0)) 8 a.np 14 (-1)) 6 0 1 (me_N (a.np + 1))) 8 i 8 = me_N ((me_fu a.tk a.np 0) i)
      by_cases e : i = a.np
      · subst e
        simp only [me_up_ap, me_fu_ap]
        simp [me_Op]
        rfl
      · simp only [me_up_ap, me_fu_ap]
        simp [e]
        exact h.tk i)
    (fun i g0 => by
      show (me_up (me_up (me_up (me_up (me_up (me_up (me_up (me_up (me_up (me_up (me_up (me_up (me_up (me_up (me_up μ 8 a.np 1 (k)) 8 a.np 2 (115)) 8 a.np 3 (me_N s)) 8 a.np 4 (me_N g)) 8 a.np 5 (w)) 8 a.np 6 (me_N (b + 1))) 8 a.np 7 (0)) 8 a.np 8 (0)) 8 a.np 9 (-1)) 8 a.np 10 (me_N a.bt)) 8 a.np 11 (-1)) 8 a.np 12 (0)) 8 a.np 13 (0)) 8 a.np 14 (-1)) 6 0 1 (me_N (a.np + 1))) 8 i 9 = me_Op ((me_fu a.hd a.np none) i)
      replace g0 : i < a.np + 1 := g0
      by_cases e : i = a.np
      · subst e
        simp only [me_up_ap, me_fu_ap]
        simp [me_Op]
      · simp only [me_up_ap, me_fu_ap]
        simp [e]
        exact h.hd i (by omega))
    (fun i => by
      show (me_up (me_up (me_up (me_up (me_up (me_up (me_up (me_up (me_up (me_up (me_up (me_up (me_up (me_up (me_up μ 8 a.np 1 (k)) 8 a.np 2 (115)) 8 a.np 3 (me_N s)) 8 a.np 4 (me_N g)) 8 a.np 5 (w)) 8 a.np 6 (me_N (b + 1))) 8 a.np 7 (0)) 8 a.np 8 (0)) 8 a.np 9 (-1)) 8 a.np 10 (me_N a.bt)) 8 a.np 11 (-1)) 8 a.np 12 (0)) 8 a.np 13 (0)) 8 a.np 14 (-1)) 6 0 1 (me_N (a.np + 1))) 8 i 10 = me_N ((me_fu a.ma a.np a.bt) i)
      by_cases e : i = a.np
      · subst e
        simp only [me_up_ap, me_fu_ap]
        simp [me_Op]
      · simp only [me_up_ap, me_fu_ap]
        simp [e]
        exact h.ma i)
    (fun i g0 => by
      show (me_up (me_up (me_up (me_up (me_up (me_up (me_up (me_up (me_up (me_up (me_up (me_up (me_up (me_up (me_up μ 8 a.np 1 (k)) 8 a.np 2 (115)) 8 a.np 3 (me_N s)) 8 a.np 4 (me_N g)) 8 a.np 5 (w)) 8 a.np 6 (me_N (b + 1))) 8 a.np 7 (0)) 8 a.np 8 (0)) 8 a.np 9 (-1)) 8 a.np 10 (me_N a.bt)) 8 a.np 11 (-1)) 8 a.np 12 (0)) 8 a.np 13 (0)) 8 a.np 14 (-1)) 6 0 1 (me_N (a.np + 1))) 8 i 11 = me_Op ((me_fu a.dn a.np none) i)
      replace g0 : i < a.np + 1 := g0
      by_cases e : i = a.np
      · subst e
        simp only [me_up_ap, me_fu_ap]
        simp [me_Op]
      · simp only [me_up_ap, me_fu_ap]
        simp [e]
        exact h.dn i (by omega))
    (fun i => by
      show (me_up (me_up (me_up (me_up (me_up (me_up (me_up (me_up (me_up (me_up (me_up (me_up (me_up (me_up (me_up μ 8 a.np 1 (k)) 8 a.np 2 (115)) 8 a.np 3 (me_N s)) 8 a.np 4 (me_N g)) 8 a.np 5 (w)) 8 a.np 6 (me_N (b + 1))) 8 a.np 7 (0)) 8 a.np 8 (0)) 8 a.np 9 (-1)) 8 a.np 10 (me_N a.bt)) 8 a.np 11 (-1)) 8 a.np 12 (0)) 8 a.np 13 (0)) 8 a.np 14 (-1)) 6 0 1 (me_N (a.np + 1))) 8 i 12 = me_N ((me_fu a.pl a.np 0) i)
      by_cases e : i = a.np
      · subst e
        simp only [me_up_ap, me_fu_ap]
        simp [me_Op]
        rfl
      · simp only [me_up_ap, me_fu_ap]
        simp [e]
        exact h.pl i)
    (fun i => by
      show (me_up (me_up (me_up (me_up (me_up (me_up (me_up (me_up (me_up (me_up (me_up (me_up (me_up (me_up (me_up μ 8 a.np 1 (k)) 8 a.np 2 (115)) 8 a.np 3 (me_N s)) 8 a.np 4 (me_N g)) 8 a.np 5 (w)) 8 a.np 6 (me_N (b + 1))) 8 a.np 7 (0)) 8 a.np 8 (0)) 8 a.np 9 (-1)) 8 a.np 10 (me_N a.bt)) 8 a.np 11 (-1)) 8 a.np 12 (0)) 8 a.np 13 (0)) 8 a.np 14 (-1)) 6 0 1 (me_N (a.np + 1))) 8 i 13 = (me_fu a.ad a.np 0) i
      by_cases e : i = a.np
      · subst e
        simp only [me_up_ap, me_fu_ap]
        simp [me_Op]
      · simp only [me_up_ap, me_fu_ap]
        simp [e]
        exact h.ad i)
    (fun i g0 => by
      show (me_up (me_up (me_up (me_up (me_up (me_up (me_up (me_up (me_up (me_up (me_up (me_up (me_up (me_up (me_up μ 8 a.np 1 (k)) 8 a.np 2 (115)) 8 a.np 3 (me_N s)) 8 a.np 4 (me_N g)) 8 a.np 5 (w)) 8 a.np 6 (me_N (b + 1))) 8 a.np 7 (0)) 8 a.np 8 (0)) 8 a.np 9 (-1)) 8 a.np 10 (me_N a.bt)) 8 a.np 11 (-1)) 8 a.np 12 (0)) 8 a.np 13 (0)) 8 a.np 14 (-1)) 6 0 1 (me_N (a.np + 1))) 8 i 14 = me_Op ((me_fu a.an a.np none) i)
      replace g0 : i < a.np + 1 := g0
      by_cases e : i = a.np
      · subst e
        simp only [me_up_ap, me_fu_ap]
        simp [me_Op]
      · simp only [me_up_ap, me_fu_ap]
        simp [e]
        exact h.an i (by omega))
    ((me_up_kn (by decide)).trans ((me_up_kn (by decide)).trans ((me_up_kn (by decide)).trans ((me_up_kn (by decide)).trans ((me_up_kn (by decide)).trans ((me_up_kn (by decide)).trans ((me_up_kn (by decide)).trans ((me_up_kn (by decide)).trans ((me_up_kn (by decide)).trans ((me_up_kn (by decide)).trans ((me_up_kn (by decide)).trans ((me_up_kn (by decide)).trans ((me_up_kn (by decide)).trans ((me_up_kn (by decide)).trans ((me_up_kn (by decide)).trans (h.nt))))))))))))))))
    (fun i g0 => (me_up_kn (by decide)).trans ((me_up_kn (by decide)).trans ((me_up_kn (by decide)).trans ((me_up_kn (by decide)).trans ((me_up_kn (by decide)).trans ((me_up_kn (by decide)).trans ((me_up_kn (by decide)).trans ((me_up_kn (by decide)).trans ((me_up_kn (by decide)).trans ((me_up_kn (by decide)).trans ((me_up_kn (by decide)).trans ((me_up_kn (by decide)).trans ((me_up_kn (by decide)).trans ((me_up_kn (by decide)).trans ((me_up_kn (by decide)).trans (h.tn i g0))))))))))))))))
    (fun i j g0 g1 => (me_up_kn (by decide)).trans ((me_up_kn (by decide)).trans ((me_up_kn (by decide)).trans ((me_up_kn (by decide)).trans ((me_up_kn (by decide)).trans ((me_up_kn (by decide)).trans ((me_up_kn (by decide)).trans ((me_up_kn (by decide)).trans ((me_up_kn (by decide)).trans ((me_up_kn (by decide)).trans ((me_up_kn (by decide)).trans ((me_up_kn (by decide)).trans ((me_up_kn (by decide)).trans ((me_up_kn (by decide)).trans ((me_up_kn (by decide)).trans (h.tr i j g0 g1))))))))))))))))
    (fun n g0 => (me_up_kn (by decide)).trans ((me_up_kn (by decide)).trans ((me_up_kn (by decide)).trans ((me_up_kn (by decide)).trans ((me_up_kn (by decide)).trans ((me_up_kn (by decide)).trans ((me_up_kn (by decide)).trans ((me_up_kn (by decide)).trans ((me_up_kn (by decide)).trans ((me_up_kn (by decide)).trans ((me_up_kn (by decide)).trans ((me_up_kn (by decide)).trans ((me_up_kn (by decide)).trans ((me_up_kn (by decide)).trans ((me_up_kn (by decide)).trans (h.aw n g0))))))))))))))))
    (fun n k g0 g1 => (me_up_kn (by decide)).trans ((me_up_kn (by decide)).trans ((me_up_kn (by decide)).trans ((me_up_kn (by decide)).trans ((me_up_kn (by decide)).trans ((me_up_kn (by decide)).trans ((me_up_kn (by decide)).trans ((me_up_kn (by decide)).trans ((me_up_kn (by decide)).trans ((me_up_kn (by decide)).trans ((me_up_kn (by decide)).trans ((me_up_kn (by decide)).trans ((me_up_kn (by decide)).trans ((me_up_kn (by decide)).trans ((me_up_kn (by decide)).trans (h.lr n k g0 g1))))))))))))))))
    (fun n c g0 g1 => (me_up_kn (by decide)).trans ((me_up_kn (by decide)).trans ((me_up_kn (by decide)).trans ((me_up_kn (by decide)).trans ((me_up_kn (by decide)).trans ((me_up_kn (by decide)).trans ((me_up_kn (by decide)).trans ((me_up_kn (by decide)).trans ((me_up_kn (by decide)).trans ((me_up_kn (by decide)).trans ((me_up_kn (by decide)).trans ((me_up_kn (by decide)).trans ((me_up_kn (by decide)).trans ((me_up_kn (by decide)).trans ((me_up_kn (by decide)).trans (h.fp n c g0 g1))))))))))))))))
    (fun r g0 => (me_up_kn (by decide)).trans ((me_up_kn (by decide)).trans ((me_up_kn (by decide)).trans ((me_up_kn (by decide)).trans ((me_up_kn (by decide)).trans ((me_up_kn (by decide)).trans ((me_up_kn (by decide)).trans ((me_up_kn (by decide)).trans ((me_up_kn (by decide)).trans ((me_up_kn (by decide)).trans ((me_up_kn (by decide)).trans ((me_up_kn (by decide)).trans ((me_up_kn (by decide)).trans ((me_up_kn (by decide)).trans ((me_up_kn (by decide)).trans (h.qn r g0))))))))))))))))
    (fun r g0 => (me_up_kn (by decide)).trans ((me_up_kn (by decide)).trans ((me_up_kn (by decide)).trans ((me_up_kn (by decide)).trans ((me_up_kn (by decide)).trans ((me_up_kn (by decide)).trans ((me_up_kn (by decide)).trans ((me_up_kn (by decide)).trans ((me_up_kn (by decide)).trans ((me_up_kn (by decide)).trans ((me_up_kn (by decide)).trans ((me_up_kn (by decide)).trans ((me_up_kn (by decide)).trans ((me_up_kn (by decide)).trans ((me_up_kn (by decide)).trans (h.qp r g0))))))))))))))))
    (fun r g0 => (me_up_kn (by decide)).trans ((me_up_kn (by decide)).trans ((me_up_kn (by decide)).trans ((me_up_kn (by decide)).trans ((me_up_kn (by decide)).trans ((me_up_kn (by decide)).trans ((me_up_kn (by decide)).trans ((me_up_kn (by decide)).trans ((me_up_kn (by decide)).trans ((me_up_kn (by decide)).trans ((me_up_kn (by decide)).trans ((me_up_kn (by decide)).trans ((me_up_kn (by decide)).trans ((me_up_kn (by decide)).trans ((me_up_kn (by decide)).trans (h.ro r g0))))))))))))))))
    (fun r g0 => (me_up_kn (by decide)).trans ((me_up_kn (by decide)).trans ((me_up_kn (by decide)).trans ((me_up_kn (by decide)).trans ((me_up_kn (by decide)).trans ((me_up_kn (by decide)).trans ((me_up_kn (by decide)).trans ((me_up_kn (by decide)).trans ((me_up_kn (by decide)).trans ((me_up_kn (by decide)).trans ((me_up_kn (by decide)).trans ((me_up_kn (by decide)).trans ((me_up_kn (by decide)).trans ((me_up_kn (by decide)).trans ((me_up_kn (by decide)).trans (h.rh r g0))))))))))))))))
    (fun r g0 => (me_up_kn (by decide)).trans ((me_up_kn (by decide)).trans ((me_up_kn (by decide)).trans ((me_up_kn (by decide)).trans ((me_up_kn (by decide)).trans ((me_up_kn (by decide)).trans ((me_up_kn (by decide)).trans ((me_up_kn (by decide)).trans ((me_up_kn (by decide)).trans ((me_up_kn (by decide)).trans ((me_up_kn (by decide)).trans ((me_up_kn (by decide)).trans ((me_up_kn (by decide)).trans ((me_up_kn (by decide)).trans ((me_up_kn (by decide)).trans (h.rg r g0))))))))))))))))
    (fun r j e g0 g1 => (me_up_kn (by decide)).trans ((me_up_kn (by decide)).trans ((me_up_kn (by decide)).trans ((me_up_kn (by decide)).trans ((me_up_kn (by decide)).trans ((me_up_kn (by decide)).trans ((me_up_kn (by decide)).trans ((me_up_kn (by decide)).trans ((me_up_kn (by decide)).trans ((me_up_kn (by decide)).trans ((me_up_kn (by decide)).trans ((me_up_kn (by decide)).trans ((me_up_kn (by decide)).trans ((me_up_kn (by decide)).trans ((me_up_kn (by decide)).trans (h.q1 r j e g0 g1))))))))))))))))
    (fun r j e g0 g1 => (me_up_kn (by decide)).trans ((me_up_kn (by decide)).trans ((me_up_kn (by decide)).trans ((me_up_kn (by decide)).trans ((me_up_kn (by decide)).trans ((me_up_kn (by decide)).trans ((me_up_kn (by decide)).trans ((me_up_kn (by decide)).trans ((me_up_kn (by decide)).trans ((me_up_kn (by decide)).trans ((me_up_kn (by decide)).trans ((me_up_kn (by decide)).trans ((me_up_kn (by decide)).trans ((me_up_kn (by decide)).trans ((me_up_kn (by decide)).trans (h.q2 r j e g0 g1))))))))))))))))
    (fun r j e g0 g1 => (me_up_kn (by decide)).trans ((me_up_kn (by decide)).trans ((me_up_kn (by decide)).trans ((me_up_kn (by decide)).trans ((me_up_kn (by decide)).trans ((me_up_kn (by decide)).trans ((me_up_kn (by decide)).trans ((me_up_kn (by decide)).trans ((me_up_kn (by decide)).trans ((me_up_kn (by decide)).trans ((me_up_kn (by decide)).trans ((me_up_kn (by decide)).trans ((me_up_kn (by decide)).trans ((me_up_kn (by decide)).trans ((me_up_kn (by decide)).trans (h.q3 r j e g0 g1))))))))))))))))
    (fun n g0 => (me_up_kn (by decide)).trans ((me_up_kn (by decide)).trans ((me_up_kn (by decide)).trans ((me_up_kn (by decide)).trans ((me_up_kn (by decide)).trans ((me_up_kn (by decide)).trans ((me_up_kn (by decide)).trans ((me_up_kn (by decide)).trans ((me_up_kn (by decide)).trans ((me_up_kn (by decide)).trans ((me_up_kn (by decide)).trans ((me_up_kn (by decide)).trans ((me_up_kn (by decide)).trans ((me_up_kn (by decide)).trans ((me_up_kn (by decide)).trans (h.dp n g0))))))))))))))))
    (fun n g0 => (me_up_kn (by decide)).trans ((me_up_kn (by decide)).trans ((me_up_kn (by decide)).trans ((me_up_kn (by decide)).trans ((me_up_kn (by decide)).trans ((me_up_kn (by decide)).trans ((me_up_kn (by decide)).trans ((me_up_kn (by decide)).trans ((me_up_kn (by decide)).trans ((me_up_kn (by decide)).trans ((me_up_kn (by decide)).trans ((me_up_kn (by decide)).trans ((me_up_kn (by decide)).trans ((me_up_kn (by decide)).trans ((me_up_kn (by decide)).trans (h.ln n g0))))))))))))))))
    (fun n g0 => (me_up_kn (by decide)).trans ((me_up_kn (by decide)).trans ((me_up_kn (by decide)).trans ((me_up_kn (by decide)).trans ((me_up_kn (by decide)).trans ((me_up_kn (by decide)).trans ((me_up_kn (by decide)).trans ((me_up_kn (by decide)).trans ((me_up_kn (by decide)).trans ((me_up_kn (by decide)).trans ((me_up_kn (by decide)).trans ((me_up_kn (by decide)).trans ((me_up_kn (by decide)).trans ((me_up_kn (by decide)).trans ((me_up_kn (by decide)).trans (h.ca n g0))))))))))))))))
    (fun n g0 => (me_up_kn (by decide)).trans ((me_up_kn (by decide)).trans ((me_up_kn (by decide)).trans ((me_up_kn (by decide)).trans ((me_up_kn (by decide)).trans ((me_up_kn (by decide)).trans ((me_up_kn (by decide)).trans ((me_up_kn (by decide)).trans ((me_up_kn (by decide)).trans ((me_up_kn (by decide)).trans ((me_up_kn (by decide)).trans ((me_up_kn (by decide)).trans ((me_up_kn (by decide)).trans ((me_up_kn (by decide)).trans ((me_up_kn (by decide)).trans (h.co n g0))))))))))))))))
    (fun n g0 => (me_up_kn (by decide)).trans ((me_up_kn (by decide)).trans ((me_up_kn (by decide)).trans ((me_up_kn (by decide)).trans ((me_up_kn (by decide)).trans ((me_up_kn (by decide)).trans ((me_up_kn (by decide)).trans ((me_up_kn (by decide)).trans ((me_up_kn (by decide)).trans ((me_up_kn (by decide)).trans ((me_up_kn (by decide)).trans ((me_up_kn (by decide)).trans ((me_up_kn (by decide)).trans ((me_up_kn (by decide)).trans ((me_up_kn (by decide)).trans (h.fa n g0))))))))))))))))
    (fun n j g0 g1 => (me_up_kn (by decide)).trans ((me_up_kn (by decide)).trans ((me_up_kn (by decide)).trans ((me_up_kn (by decide)).trans ((me_up_kn (by decide)).trans ((me_up_kn (by decide)).trans ((me_up_kn (by decide)).trans ((me_up_kn (by decide)).trans ((me_up_kn (by decide)).trans ((me_up_kn (by decide)).trans ((me_up_kn (by decide)).trans ((me_up_kn (by decide)).trans ((me_up_kn (by decide)).trans ((me_up_kn (by decide)).trans ((me_up_kn (by decide)).trans (h.mm n j g0 g1))))))))))))))))
    (fun n j g0 g1 => (me_up_kn (by decide)).trans ((me_up_kn (by decide)).trans ((me_up_kn (by decide)).trans ((me_up_kn (by decide)).trans ((me_up_kn (by decide)).trans ((me_up_kn (by decide)).trans ((me_up_kn (by decide)).trans ((me_up_kn (by decide)).trans ((me_up_kn (by decide)).trans ((me_up_kn (by decide)).trans ((me_up_kn (by decide)).trans ((me_up_kn (by decide)).trans ((me_up_kn (by decide)).trans ((me_up_kn (by decide)).trans ((me_up_kn (by decide)).trans (h.sk n j g0 g1))))))))))))))))
    (fun n j g0 g1 => (me_up_kn (by decide)).trans ((me_up_kn (by decide)).trans ((me_up_kn (by decide)).trans ((me_up_kn (by decide)).trans ((me_up_kn (by decide)).trans ((me_up_kn (by decide)).trans ((me_up_kn (by decide)).trans ((me_up_kn (by decide)).trans ((me_up_kn (by decide)).trans ((me_up_kn (by decide)).trans ((me_up_kn (by decide)).trans ((me_up_kn (by decide)).trans ((me_up_kn (by decide)).trans ((me_up_kn (by decide)).trans ((me_up_kn (by decide)).trans (h.nm n j g0 g1))))))))))))))))
    (fun n j g0 g1 => (me_up_kn (by decide)).trans ((me_up_kn (by decide)).trans ((me_up_kn (by decide)).trans ((me_up_kn (by decide)).trans ((me_up_kn (by decide)).trans ((me_up_kn (by decide)).trans ((me_up_kn (by decide)).trans ((me_up_kn (by decide)).trans ((me_up_kn (by decide)).trans ((me_up_kn (by decide)).trans ((me_up_kn (by decide)).trans ((me_up_kn (by decide)).trans ((me_up_kn (by decide)).trans ((me_up_kn (by decide)).trans ((me_up_kn (by decide)).trans (h.nu n j g0 g1))))))))))))))))
    ((me_up_kn (by decide)).trans ((me_up_kn (by decide)).trans ((me_up_kn (by decide)).trans ((me_up_kn (by decide)).trans ((me_up_kn (by decide)).trans ((me_up_kn (by decide)).trans ((me_up_kn (by decide)).trans ((me_up_kn (by decide)).trans ((me_up_kn (by decide)).trans ((me_up_kn (by decide)).trans ((me_up_kn (by decide)).trans ((me_up_kn (by decide)).trans ((me_up_kn (by decide)).trans ((me_up_kn (by decide)).trans ((me_up_kn (by decide)).trans (h.wy))))))))))))))))
    ((me_up_kn (by decide)).trans ((me_up_kn (by decide)).trans ((me_up_kn (by decide)).trans ((me_up_kn (by decide)).trans ((me_up_kn (by decide)).trans ((me_up_kn (by decide)).trans ((me_up_kn (by decide)).trans ((me_up_kn (by decide)).trans ((me_up_kn (by decide)).trans ((me_up_kn (by decide)).trans ((me_up_kn (by decide)).trans ((me_up_kn (by decide)).trans ((me_up_kn (by decide)).trans ((me_up_kn (by decide)).trans ((me_up_kn (by decide)).trans (h.bt))))))))))))))))
