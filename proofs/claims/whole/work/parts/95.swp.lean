/-! swap -/
theorem y_xc {μ : me_M} {i j : Nat} (hi : i < 8) (hj : j < 8) : f_Placing_exchange μ (me_N i) (me_N j) = some (me_up (me_up μ 10 0 i (μ 10 0 j)) 10 0 j (μ 10 0 i), ()) := by
  unfold f_Placing_exchange
  simp only [me_gd_n (show i < 2147483648 by omega) hi, me_gd_n (show j < 2147483648 by omega) hj, me_N_ix (show i < 2147483648 by omega), me_N_ix (show j < 2147483648 by omega), me_lt_s]
theorem y_xcxc {μ : me_M} {i j : Nat} (hi : i < 8) (hj : j < 8) (hij : ¬ i = j) : f_Placing_exchange (me_up (me_up μ 10 0 i (μ 10 0 j)) 10 0 j (μ 10 0 i)) (me_N i) (me_N j) = some (μ, ()) := by
  rw [y_xc hi hj]
  congr 2
  funext k' i' j'
  simp only [me_up_ap]
  by_cases e : k' = 10 ∧ i' = 0
  · obtain ⟨rfl, rfl⟩ := e
    by_cases e1 : j' = j
    · subst e1
      simp [hij]
    · by_cases e2 : j' = i
      · subst e2
        simp [e1]
      · simp [e1, e2]
  · rw [if_neg (fun q => e ⟨q.1, q.2.1⟩), if_neg (fun q => e ⟨q.1, q.2.1⟩), if_neg (fun q => e ⟨q.1, q.2.1⟩), if_neg (fun q => e ⟨q.1, q.2.1⟩)]
theorem m_xc {μ : me_M} {i j : Nat} (hi : i < 8) (hj : j < 8) : f_M_exchange μ (me_N i) (me_N j) = some (me_up (me_up μ 92 0 i (μ 92 0 j)) 92 0 j (μ 92 0 i), ()) := by
  unfold f_M_exchange
  simp only [me_gd_n (show i < 2147483648 by omega) hi, me_gd_n (show j < 2147483648 by omega) hj, me_N_ix (show i < 2147483648 by omega), me_N_ix (show j < 2147483648 by omega), me_lt_s]
theorem m_xcxc {μ : me_M} {i j : Nat} (hi : i < 8) (hj : j < 8) (hij : ¬ i = j) : f_M_exchange (me_up (me_up μ 92 0 i (μ 92 0 j)) 92 0 j (μ 92 0 i)) (me_N i) (me_N j) = some (μ, ()) := by
  rw [m_xc hi hj]
  congr 2
  funext k' i' j'
  simp only [me_up_ap]
  by_cases e : k' = 92 ∧ i' = 0
  · obtain ⟨rfl, rfl⟩ := e
    by_cases e1 : j' = j
    · subst e1
      simp [hij]
    · by_cases e2 : j' = i
      · subst e2
        simp [e1]
      · simp [e1, e2]
  · rw [if_neg (fun q => e ⟨q.1, q.2.1⟩), if_neg (fun q => e ⟨q.1, q.2.1⟩), if_neg (fun q => e ⟨q.1, q.2.1⟩), if_neg (fun q => e ⟨q.1, q.2.1⟩)]
def gh_xc (a : me_S) (i j : Nat) : me_S := me_S.s_tn (me_S.s_tn a (me_fu a.tn i (a.tn j))) (me_fu (me_fu a.tn i (a.tn j)) j (a.tn i))
theorem gh_xc_C {a : me_S} {μ : me_M} (hC : me_RC a μ) {i j : Nat} (hi : i < a.nt) (hj : j < a.nt) : me_RC (gh_xc a i j) (me_up (me_up μ 10 0 i (μ 10 0 j)) 10 0 j (μ 10 0 i)) := by
  rw [hC.tn i hi, hC.tn j hj]
  exact (hC.w_tn i (a.tn j)).w_tn j (a.tn i)
theorem gh_xc_M {a : me_S} {μ : me_M} (hM : me_RM a μ) {i j : Nat} (hi : i < a.nt) (hj : j < a.nt) : me_RM (gh_xc a i j) (me_up (me_up μ 92 0 i (μ 92 0 j)) 92 0 j (μ 92 0 i)) := by
  rw [hM.tn i hi, hM.tn j hj]
  exact (hM.w_tn i (a.tn j)).w_tn j (a.tn i)
theorem gh_xc_I {a : me_S} (hI : me_Iv a) {i j : Nat} (hi : i < a.nt) (hj : j < a.nt) : me_Iv (gh_xc a i j) := by
  have ht := hI.2.2.2.1
  refine ⟨hI.1, hI.2.1, hI.2.2.1, me_IT.mk ht.int (fun k hk => ?_) ht.isy ht.ile, hI.2.2.2.2⟩
  show me_fu (me_fu a.tn i (a.tn j)) j (a.tn i) k < a.w * a.h
  rw [me_fu_ap]
  split
  · exact ht.itn i hi
  · rw [me_fu_ap]
    split
    · exact ht.itn j hj
    · exact ht.itn k hk
/-- by how much the cost falls -/
def gh_F (a : me_S) (i j : Nat) : Int32 := me_N (gh_cost a) - me_N (gh_cost (gh_xc a i j))
abbrev gh_sS : Type := Int32 × Option (Nat × Nat)
def gh_sj (F : Nat → Nat → Int32) (i : Nat) : Nat → Nat → gh_sS → gh_sS
  | _, 0, s => s
  | j, d + 1, s => gh_sj F i (j + 1) d (if F i j ≤ s.1 then s else (F i j, some (i, j)))
def gh_si (F : Nat → Nat → Int32) (n : Nat) : Nat → Nat → gh_sS → gh_sS
  | _, 0, s => s
  | i, d + 1, s => gh_si F n (i + 1) d (gh_sj F i (i + 1) (n - (i + 1)) s)
def gh_p1 (p : Option (Nat × Nat)) : Int32 := match p with
  | none => me_N 0
  | some q => me_N q.1
def gh_p2 (p : Option (Nat × Nat)) : Int32 := match p with
  | none => me_N 0
  | some q => me_N q.2
def gh_m1 (p : Option (Nat × Nat)) : Int32 := match p with
  | none => -1
  | some q => me_N q.1
def gh_m2 (p : Option (Nat × Nat)) : Int32 := match p with
  | none => -1
  | some q => me_N q.2
/-- what the search keeps -/
def gh_sk (n : Nat) (s : gh_sS) : Prop := (s.2 = none ∧ s.1 = 0) ∨ ∃ i j, s.2 = some (i, j) ∧ i < j ∧ j < n ∧ 0 < s.1
theorem gh_sk_st {n i j : Nat} {s : gh_sS} {x : Int32} (h : gh_sk n s) (hij : i < j) (hj : j < n) : gh_sk n (if x ≤ s.1 then s else (x, some (i, j))) := by
  by_cases e : x ≤ s.1
  · rw [if_pos e]; exact h
  · rw [if_neg e]
    refine Or.inr ⟨i, j, rfl, hij, hj, ?_⟩
    show 0 < x
    rw [Int32.le_iff_toInt_le] at e
    rw [Int32.lt_iff_toInt_lt]
    have z : (0 : Int32).toInt = 0 := rfl
    rcases h with ⟨-, h⟩ | ⟨_, _, _, _, _, h⟩
    · rw [h] at e; omega
    · rw [Int32.lt_iff_toInt_lt] at h; omega
theorem gh_sk_j {n i : Nat} {F : Nat → Nat → Int32} : ∀ (d j : Nat) (s : gh_sS), i < j → j + d = n → gh_sk n s → gh_sk n (gh_sj F i j d s) := by
  intro d
  induction d with
  | zero => intro j s _ _ h; exact h
  | succ d ih => intro j s h1 h2 h; exact ih (j + 1) _ (by omega) (by omega) (gh_sk_st h h1 (by omega))
theorem gh_sk_i {n : Nat} {F : Nat → Nat → Int32} : ∀ (d i : Nat) (s : gh_sS), i + d = n → gh_sk n s → gh_sk n (gh_si F n i d s) := by
  intro d
  induction d with
  | zero => intro i s _ h; exact h
  | succ d ih => intro i s h2 h; exact ih (i + 1) _ (by omega) (gh_sk_j _ (i + 1) s (by omega) (by omega) h)
theorem y_sw30 {a : me_S} {μ : me_M} (hC : me_RC a μ) (hI : me_Iv a) {i : Nat} (hi : i < a.nt) {K15 : me_M → Int32 → Int32 → Int32 → Int32 → Int32 → Option (me_M × Int32)} : ∀ (d f j : Nat) (s : gh_sS), i < j → j + d = a.nt → d < f → f_Placing_swapBest_h30 K15 f μ (me_N (gh_cost a)) s.1 (gh_p1 s.2) (gh_p2 s.2) (me_N i) (me_N j) = K15 μ (me_N (gh_cost a)) (gh_sj (gh_F a) i j d s).1 (gh_p1 (gh_sj (gh_F a) i j d s).2) (gh_p2 (gh_sj (gh_F a) i j d s).2) (me_N (i + 1)) := by
  have hnt := hI.2.2.2.1.int
  intro d
  induction d with
  | zero =>
    intro f j s h0 h1 h2
    obtain ⟨f, rfl⟩ : ∃ g, f = g + 1 := ⟨f - 1, by omega⟩
    show f_Placing_swapBest_b30 _ _ _ _ _ _ _ _ _ = _
    unfold f_Placing_swapBest_b30
    rw [hC.nt, if_pos (by rw [me_N_le (by omega) (by omega)]; omega), me_lt_s, me_N_inc]
    rfl
  | succ d ih =>
    intro f j s h0 h1 h2
    obtain ⟨f, rfl⟩ : ∃ g, f = g + 1 := ⟨f - 1, by omega⟩
    have hj : j < a.nt := by omega
    show f_Placing_swapBest_b30 _ _ _ _ _ _ _ _ _ = K15 μ _ (gh_sj (gh_F a) i (j + 1) d (if gh_F a i j ≤ s.1 then s else (gh_F a i j, some (i, j)))).1 (gh_p1 (gh_sj (gh_F a) i (j + 1) d (if gh_F a i j ≤ s.1 then s else (gh_F a i j, some (i, j)))).2) (gh_p2 (gh_sj (gh_F a) i (j + 1) d (if gh_F a i j ≤ s.1 then s else (gh_F a i j, some (i, j)))).2) _
    unfold f_Placing_swapBest_b30
    rw [hC.nt, if_neg (by rw [me_N_le (by omega) (by omega)]; omega), y_xc (by omega) (by omega), me_b2_s, y_cost (gh_xc_C hC hi hj) (gh_xc_I hI hi hj), me_bd_s, me_lt_s, y_xcxc (by omega) (by omega) (by omega), me_b2_s]
    show (if gh_F a i j ≤ s.1 then _ else _) = _
    by_cases e : gh_F a i j ≤ s.1
    · rw [if_pos e, if_pos e, me_lt_s, me_N_inc]
      exact ih f (j + 1) s (by omega) (by omega) (by omega)
    · rw [if_neg e, if_neg e, me_lt_s, me_N_inc]
      exact ih f (j + 1) (gh_F a i j, some (i, j)) (by omega) (by omega) (by omega)
theorem m_sw30 {a : me_S} {μ : me_M} (hM : me_RM a μ) (hI : me_Iv a) {i : Nat} (hi : i < a.nt) {K15 : me_M → Int32 → Int32 → Int32 → Int32 → Int32 → Option (me_M × Int32)} : ∀ (d f j : Nat) (s : gh_sS), i < j → j + d = a.nt → d < f → f_M_swap_h30 K15 f μ (me_N (gh_cost a)) s.1 (gh_m1 s.2) (gh_m2 s.2) (me_N i) (me_N j) = K15 μ (me_N (gh_cost a)) (gh_sj (gh_F a) i j d s).1 (gh_m1 (gh_sj (gh_F a) i j d s).2) (gh_m2 (gh_sj (gh_F a) i j d s).2) (me_N (i + 1)) := by
  have hnt := hI.2.2.2.1.int
  intro d
  induction d with
  | zero =>
    intro f j s h0 h1 h2
    obtain ⟨f, rfl⟩ : ∃ g, f = g + 1 := ⟨f - 1, by omega⟩
    show f_M_swap_b30 _ _ _ _ _ _ _ _ _ = _
    unfold f_M_swap_b30
    rw [hM.nt, if_pos (by rw [me_N_le (by omega) (by omega)]; omega), me_lt_s, me_N_inc]
    rfl
  | succ d ih =>
    intro f j s h0 h1 h2
    obtain ⟨f, rfl⟩ : ∃ g, f = g + 1 := ⟨f - 1, by omega⟩
    have hj : j < a.nt := by omega
    show f_M_swap_b30 _ _ _ _ _ _ _ _ _ = K15 μ _ (gh_sj (gh_F a) i (j + 1) d (if gh_F a i j ≤ s.1 then s else (gh_F a i j, some (i, j)))).1 (gh_m1 (gh_sj (gh_F a) i (j + 1) d (if gh_F a i j ≤ s.1 then s else (gh_F a i j, some (i, j)))).2) (gh_m2 (gh_sj (gh_F a) i (j + 1) d (if gh_F a i j ≤ s.1 then s else (gh_F a i j, some (i, j)))).2) _
    unfold f_M_swap_b30 f_M_swap_b75 f_M_swap_b89
    rw [hM.nt, if_neg (by rw [me_N_le (by omega) (by omega)]; omega), m_xc (by omega) (by omega), me_b2_s, m_cost (gh_xc_M hM hi hj) (gh_xc_I hI hi hj), me_bd_s, me_lt_s, m_xcxc (by omega) (by omega) (by omega), me_b2_s]
    show (if gh_F a i j ≤ s.1 then (if gh_F a i j ≤ s.1 then _ else _) else (if gh_F a i j ≤ s.1 then _ else _)) = _
    have hmx : me_max' s.1 (gh_F a i j) = if gh_F a i j ≤ s.1 then s.1 else gh_F a i j := by
      unfold me_max'
      by_cases e : gh_F a i j ≤ s.1
      · rw [if_pos e, if_neg]
        rw [Int32.le_iff_toInt_le] at e
        rw [Int32.lt_iff_toInt_lt]
        omega
      · rw [if_neg e, if_pos]
        rw [Int32.le_iff_toInt_le] at e
        rw [Int32.lt_iff_toInt_lt]
        omega
    by_cases e : gh_F a i j ≤ s.1
    · rw [if_pos e, if_pos e, if_pos e, me_lt_s, me_lt_s, me_N_inc]
      show f_M_swap_h30 K15 f μ _ (me_max' s.1 (gh_F a i j)) _ _ _ _ = _
      rw [hmx, if_pos e]
      exact ih f (j + 1) s (by omega) (by omega) (by omega)
    · rw [if_neg e, if_neg e, if_neg e, me_lt_s, me_lt_s, me_N_inc]
      show f_M_swap_h30 K15 f μ _ (me_max' s.1 (gh_F a i j)) _ _ _ _ = _
      rw [hmx, if_neg e]
      exact ih f (j + 1) (gh_F a i j, some (i, j)) (by omega) (by omega) (by omega)
theorem y_sw15 {a : me_S} {μ : me_M} (hC : me_RC a μ) (hI : me_Iv a) : ∀ (d f i : Nat) (s : gh_sS), i + d = a.nt → d < f → f_Placing_swapBest_h15 f μ (me_N (gh_cost a)) s.1 (gh_p1 s.2) (gh_p2 s.2) (me_N i) = me_b2 (f_Placing_exchange μ (gh_p1 (gh_si (gh_F a) a.nt i d s).2) (gh_p2 (gh_si (gh_F a) a.nt i d s).2)) (fun μ3 r2 => some (μ3, (gh_si (gh_F a) a.nt i d s).1)) := by
  have hnt := hI.2.2.2.1.int
  intro d
  induction d with
  | zero =>
    intro f i s h1 h2
    obtain ⟨f, rfl⟩ : ∃ g, f = g + 1 := ⟨f - 1, by omega⟩
    show f_Placing_swapBest_b15 _ _ _ _ _ _ _ = _
    unfold f_Placing_swapBest_b15
    rw [hC.nt, if_pos (by rw [me_N_le (by omega) (by omega)]; omega)]
    rfl
  | succ d ih =>
    intro f i s h1 h2
    obtain ⟨f, rfl⟩ : ∃ g, f = g + 1 := ⟨f - 1, by omega⟩
    show f_Placing_swapBest_b15 _ _ _ _ _ _ _ = _
    unfold f_Placing_swapBest_b15
    rw [hC.nt, if_neg (by rw [me_N_le (by omega) (by omega)]; omega), me_N_1, me_N_add, me_lt_s, y_sw30 hC hI (by omega) (a.nt - (i + 1)) me_FU (i + 1) s (by omega) (by omega) (show _ < 1000 by omega)]
    exact ih f (i + 1) _ (by omega) (by omega)
theorem m_sw15 {a : me_S} {μ : me_M} (hM : me_RM a μ) (hI : me_Iv a) : ∀ (d f i : Nat) (s : gh_sS), i + d = a.nt → d < f → f_M_swap_h15 f μ (me_N (gh_cost a)) s.1 (gh_m1 s.2) (gh_m2 s.2) (me_N i) = if (gh_si (gh_F a) a.nt i d s).1 = 0 then f_M_swap_b120 μ (gh_si (gh_F a) a.nt i d s).1 (gh_m1 (gh_si (gh_F a) a.nt i d s).2) (gh_m2 (gh_si (gh_F a) a.nt i d s).2) 1 else f_M_swap_b120 μ (gh_si (gh_F a) a.nt i d s).1 (gh_m1 (gh_si (gh_F a) a.nt i d s).2) (gh_m2 (gh_si (gh_F a) a.nt i d s).2) 0 := by
  have hnt := hI.2.2.2.1.int
  intro d
  induction d with
  | zero =>
    intro f i s h1 h2
    obtain ⟨f, rfl⟩ : ∃ g, f = g + 1 := ⟨f - 1, by omega⟩
    show f_M_swap_b15 _ _ _ _ _ _ _ = _
    unfold f_M_swap_b15
    rw [hM.nt, if_pos (by rw [me_N_le (by omega) (by omega)]; omega)]
    rfl
  | succ d ih =>
    intro f i s h1 h2
    obtain ⟨f, rfl⟩ : ∃ g, f = g + 1 := ⟨f - 1, by omega⟩
    show f_M_swap_b15 _ _ _ _ _ _ _ = _
    unfold f_M_swap_b15
    rw [hM.nt, if_neg (by rw [me_N_le (by omega) (by omega)]; omega), me_N_1, me_N_add, me_lt_s, m_sw30 hM hI (by omega) (a.nt - (i + 1)) me_FU (i + 1) s (by omega) (by omega) (show _ < 1000 by omega)]
    exact ih f (i + 1) _ (by omega) (by omega)
theorem me_Dd.refl_up {a b : me_S} {μ : me_M} {k i j : Nat} (h : me_Dd a b μ) : me_Dd a b (me_up μ k i j (μ k i j)) := by
  have e : me_up μ k i j (μ k i j) = μ := by
    funext k' i' j'
    rw [me_up_ap]
    split
    · rename_i q
      rw [q.1, q.2.1, q.2.2]
    · rfl
  rw [e]
  exact h
theorem t_38 {T : Nat} {a : me_S} {μ : me_M} {o : Int64 × UInt64} {s1 s2 s3 s4 s5 : Int32} (hR : me_R T a μ) : ∃ μ' o' a', f_case_38 μ o s1 s2 s3 s4 s5 = some (μ', o') ∧ me_R T a' μ' := by
  obtain ⟨hC, hM, hI, hbt, hT, hwk⟩ := id hR
  have hwh := hI.wh
  have hnp := hI.n200
  have hD : me_Dd a a μ := ⟨hC, hM, hwk⟩
  have hnt := hI.2.2.2.1.int
  have c1 := y_cost hC hI
  have y1 : f_Placing_swapBest_h15 me_FU μ (me_N (gh_cost a)) 0 0 0 0 = _ := y_sw15 hC hI a.nt me_FU 0 (0, none) (Nat.zero_add _) (show _ < 1000 by omega)
  have m1 : ∀ μ', me_RM a μ' → f_M_swap_h15 me_FU μ' (me_N (gh_cost a)) 0 (-1) (-1) 0 = _ := fun μ' h => m_sw15 h hI a.nt me_FU 0 (0, none) (Nat.zero_add _) (show _ < 1000 by omega)
  have hk := gh_sk_i (n := a.nt) (F := gh_F a) a.nt 0 (0, none) (Nat.zero_add _) (Or.inl ⟨rfl, rfl⟩)
  generalize gh_si (gh_F a) a.nt 0 a.nt (0, none) = s at y1 m1 hk
  rcases hk with ⟨h1, h2⟩ | ⟨i, j, h1, hij, hj, h2⟩
  · rw [h1, h2] at y1
    have z : f_Placing_exchange μ (gh_p1 none) (gh_p2 none) = _ := y_xc (μ := μ) (i := 0) (j := 0) (by decide) (by decide)
    rw [z, me_b2_s] at y1
    have D1 := hD.refl_up (k := 10) (i := 0) (j := 0)
    have e0 : me_up μ 10 0 0 (μ 10 0 0) = μ := by
      funext k' i' j'
      rw [me_up_ap]
      split
      · rename_i q
        rw [q.1, q.2.1, q.2.2]
      · rfl
    rw [e0, e0] at y1
    have m2 := m1 μ hM
    rw [h1, h2, if_pos rfl] at m2
    refine ⟨_, o, a, ?_, hR.th 1⟩
    simp [f_case_38, f_L_swap, f_Y_swap, f_Placing_swapBest, f_M_swap, f_M_swap_b120, me_bd_s, me_b2_s, me_lt_s, me_oq_n, me_oq_s, me_xb_o, me_xb_e, me_xb2_o, me_xb2_e, me_xm_o, me_xm_e, f_M_thrown, m_th0, m_th1, me_cmp_self, me_up_at, if_true, if_false, me_nr_z, me_nr_o, me_gd_t, me_up_kn, me_up_jn, c1, y1, m_cost hM hI, m2]
  · have hi : i < a.nt := by omega
    rw [h1] at y1
    have z : f_Placing_exchange μ (gh_p1 (some (i, j))) (gh_p2 (some (i, j))) = _ := y_xc (μ := μ) (i := i) (j := j) (by omega) (by omega)
    rw [z, me_b2_s] at y1
    have hne : ¬ s.1 = 0 := fun q => by rw [q] at h2; exact absurd h2 (by decide)
    have D1 : me_Dd (gh_xc a i j) a _ := ⟨gh_xc_C hC hi hj, (hM.fr (k := 10) (i := 0) (j := i) (x := μ 10 0 j) (by decide)).fr (k := 10) (i := 0) (j := j) (x := μ 10 0 i) (by decide), fun n hn => by rw [me_up_kn (by decide), me_up_kn (by decide)]; exact hwk n hn⟩
    have m2 := m1 _ D1.2.1
    rw [h1, if_neg hne] at m2
    have D2 := D1.th 0
    have w : f_M_exchange _ (gh_m1 (some (i, j))) (gh_m2 (some (i, j))) = _ := m_xc (μ := me_up (me_up (me_up μ 10 0 i (μ 10 0 j)) 10 0 j (μ 10 0 i)) 36 0 42 0) (i := i) (j := j) (by omega) (by omega)
    have D3 : me_Dd (gh_xc a i j) (gh_xc a i j) _ := ⟨(D2.1.fr (k := 92) (i := 0) (j := i) (x := (me_up (me_up (me_up μ 10 0 i (μ 10 0 j)) 10 0 j (μ 10 0 i)) 36 0 42 0) 92 0 j) (by decide)).fr (k := 92) (i := 0) (j := j) (x := (me_up (me_up (me_up μ 10 0 i (μ 10 0 j)) 10 0 j (μ 10 0 i)) 36 0 42 0) 92 0 i) (by decide), gh_xc_M D2.2.1 hi hj, fun n hn => by rw [me_up_kn (by decide), me_up_kn (by decide)]; exact D2.2.2 n hn⟩
    unfold f_M_swap_b120 at m2
    rw [m_th0, me_b2_s, if_pos rfl, w, me_b2_s] at m2
    refine ⟨_, (Int32.toInt64 s.1, o.2), _, ?_, D3.R rfl (gh_xc_I hI hi hj) hbt hT⟩
    unfold f_case_38 f_L_swap f_Y_swap f_Placing_swapBest f_M_swap f_M_thrown
    rw [c1, me_bd_s, y1, me_b2_s, if_pos h2, me_b2_s, me_xm_o, me_b2_s, m_cost D1.2.1 hI, me_bd_s, m2, me_b2_s, me_bd_s, me_up_kn (by decide), me_up_kn (by decide), me_up_at, if_pos rfl, if_pos rfl, if_pos (me_cmp_self _)]
