/-! cores: one instruction's writes, side by side -/
theorem gh_iv_rc {a : me_S} (hI : me_Iv a) {n s j : Nat} (hj : j < a.np) (hl : gh_ly a n s j) : me_Iv (a.s_st (me_fu a.st j 114)) := by
  have hp := hI.2.1
  have hst : ∀ i, ¬ i = j → me_fu a.st j 114 i = a.st i := fun i h => me_fu_ne h
  refine ⟨hI.1, ?_, hI.2.2.1, hI.2.2.2.1, ?_, ?_, hI.2.2.2.2.2.2⟩
  · refine me_IP.mk hp.ile ?_ hp.ikd (fun i hi => ?_) hp.isr hp.igl hp.ibo hp.ipt hp.ima (fun i hi hs => ?_) hp.idm hp.ipl hp.ian (fun i hi hs => ?_) (fun i hi hs => ?_) (fun i hi hs => ?_)
    · refine hp.iow.trans (List.countP_congr (fun i _ => ?_))
      show me_qs a.kd a.st i = true ↔ me_qs a.kd (me_fu a.st j 114) i = true
      by_cases e : i = j
      · subst e
        unfold me_qs
        rw [hl.1]
        simp
      · unfold me_qs
        rw [hst i e]
    · show me_fu a.st j 114 i = 115 ∨ me_fu a.st j 114 i = 119 ∨ me_fu a.st j 114 i = 100 ∨ me_fu a.st j 114 i = 114 ∨ me_fu a.st j 114 i = 108
      by_cases e : i = j
      · rw [e, me_fu_at]; simp
      · rw [hst i e]; exact hp.ist i hi
    · replace hs : me_fu a.st j 114 i = 100 ∨ me_fu a.st j 114 i = 114 := hs
      by_cases e : i = j
      · rw [e]; exact hp.idn j hj (Or.inl hl.2.1)
      · rw [hst i e] at hs; exact hp.idn i hi hs
    · replace hs : me_fu a.st j 114 i = 115 := hs
      by_cases e : i = j
      · rw [e, me_fu_at] at hs; exact absurd hs (by decide)
      · rw [hst i e] at hs; exact hp.is0 i hi hs
    · replace hs : me_fu a.st j 114 i = 119 := hs
      by_cases e : i = j
      · rw [e, me_fu_at] at hs; exact absurd hs (by decide)
      · rw [hst i e] at hs; exact hp.is1 i hi hs
    · replace hs : me_fu a.st j 114 i = 100 ∨ me_fu a.st j 114 i = 114 := hs
      by_cases e : i = j
      · rw [e]; exact hp.is2 j hj (Or.inl hl.2.1)
      · rw [hst i e] at hs; exact hp.is2 i hi hs
  · refine hI.2.2.2.2.1.st_ch (fun i => ?_) (fun i => ?_)
    · show me_fu a.st j 114 i = 119 ↔ a.st i = 119
      by_cases e : i = j
      · rw [e, me_fu_at, hl.2.1]; decide
      · rw [hst i e]
    · show me_fu a.st j 114 i = 108 ↔ a.st i = 108
      by_cases e : i = j
      · rw [e, me_fu_at, hl.2.1]; decide
      · rw [hst i e]
  · intro n' c k h1 h2 h3 h4
    rcases hI.2.2.2.2.2.1 n' c k h1 h2 h3 h4 with e | e
    · exact Or.inl e
    · refine Or.inr ?_
      show me_fu a.st j 114 k = 108
      by_cases e' : k = j
      · rw [e', hl.2.1] at e; exact absurd e (by decide)
      · rw [hst k e']; exact e
theorem gh_iv_dp {a : me_S} (hI : me_Iv a) {n v : Nat} (hv : v ≤ 6) : me_Iv (me_S.s_dp a (me_fu a.dp n v)) := by
  have h := hI.2.2.1
  refine ⟨hI.1, hI.2.1, me_IC.mk (fun m => ?_) h.iln h.ica h.ico h.ifa h.iok h.iwt h.ibt, hI.2.2.2⟩
  show me_fu a.dp n v m ≤ 6
  rw [me_fu_ap]
  split
  · exact hv
  · exact h.idp m
theorem gh_iv_ca {a : me_S} (hI : me_Iv a) {n v : Nat} (hv : v ≤ 12) (h1 : ¬ a.co n = 119) (h2 : ¬ a.co n = 98) : me_Iv (me_S.s_ca a (me_fu a.ca n v)) := by
  have h := hI.2.2.1
  refine ⟨hI.1, hI.2.1, me_IC.mk h.idp h.iln (fun m => ?_) h.ico h.ifa h.iok (fun m e => ?_) (fun m e => ?_), hI.2.2.2⟩
  · show me_fu a.ca n v m ≤ 12
    rw [me_fu_ap]
    split
    · exact hv
    · exact h.ica m
  · have e : a.co m = 119 := e
    show me_fu a.ca n v m < a.ln m ∧ a.nm m (me_fu a.ca n v m) = 114
    rw [me_fu_ap, if_neg (fun q => h1 (by rw [← q]; exact e))]
    exact h.iwt m e
  · have e : a.co m = 98 := e
    show me_fu a.ca n v m < a.ln m
    rw [me_fu_ap, if_neg (fun q => h2 (by rw [← q]; exact e))]
    exact h.ibt m e
theorem gh_iv_k {a : me_S} (hI : me_Iv a) {n : Nat} {v : Int32} (h0 : v = 45 ∨ v = 114 ∨ v = 119 ∨ v = 98 ∨ v = 104 ∨ v = 120) (h1 : v = 119 → a.ca n < a.ln n ∧ a.nm n (a.ca n) = 114) (h2 : v = 98 → a.ca n < a.ln n) : me_Iv (me_S.s_co a (me_fu a.co n v)) := by
  have h := hI.2.2.1
  refine ⟨hI.1, hI.2.1, me_IC.mk h.idp h.iln h.ica (fun m => ?_) h.ifa h.iok (fun m e => ?_) (fun m e => ?_), hI.2.2.2⟩
  · show me_fu a.co n v m = 45 ∨ me_fu a.co n v m = 114 ∨ me_fu a.co n v m = 119 ∨ me_fu a.co n v m = 98 ∨ me_fu a.co n v m = 104 ∨ me_fu a.co n v m = 120
    rw [me_fu_ap]
    split
    · exact h0
    · exact h.ico m
  · have e : me_fu a.co n v m = 119 := e
    rw [me_fu_ap] at e
    by_cases q : m = n
    · rw [if_pos q] at e
      rw [q]
      exact h1 e
    · rw [if_neg q] at e
      exact h.iwt m e
  · have e : me_fu a.co n v m = 98 := e
    rw [me_fu_ap] at e
    by_cases q : m = n
    · rw [if_pos q] at e
      rw [q]
      exact h2 e
    · rw [if_neg q] at e
      exact h.ibt m e
theorem gh_iv_fa {a : me_S} (hI : me_Iv a) {n : Nat} {v : Int32} (h0 : v = 45 ∨ v = 106 ∨ v = 117 ∨ v = 111 ∨ v = 112) : me_Iv (me_S.s_fa a (me_fu a.fa n v)) := by
  have h := hI.2.2.1
  refine ⟨hI.1, hI.2.1, me_IC.mk h.idp h.iln h.ica h.ico (fun m => ?_) h.iok h.iwt h.ibt, hI.2.2.2⟩
  show me_fu a.fa n v m = 45 ∨ me_fu a.fa n v m = 106 ∨ me_fu a.fa n v m = 117 ∨ me_fu a.fa n v m = 111 ∨ me_fu a.fa n v m = 112
  rw [me_fu_ap]
  split
  · exact h0
  · exact h.ifa m
theorem bb_w2 {a A : me_S} {W : Nat → Bool} {v : Int32} {μ ν : me_M} {k i j : Nat} {x : Int32} {k' i' j' : Nat} {x' : Int32} (hX : bb_X a a W v v μ ν) (hC : me_RC A (me_up μ k i j x)) (hM : me_RM A (me_up ν k' i' j' x')) (hI : me_Iv A) (ew : A.w = a.w) (eh : A.h = a.h) (eb : A.bt = a.bt) (ea : A.aw = a.aw) (hk : k < 36 ∧ ¬ k = 13 ∧ ¬ k = 30) (hk' : 36 < k' ∧ ¬ k' = 86) : bb_F a A μ (me_up μ k i j x) ν (me_up ν k' i' j' x') ∧ bb_X A A W v v (me_up μ k i j x) (me_up ν k' i' j' x') := by
  refine bb_fin hX hC hM hI ew eh eb ea (fun m hm => ?_) ?_ ?_ (fun m hm => ?_)
  · funext y z
    rw [me_up_kn (by omega)]
  · rw [me_up_kn (by omega)]
    exact hX.2.2.2.2.2.1
  · rw [me_up_kn (by omega)]
  · funext y z
    rw [me_up_kn (by omega)]
/-- a core stopped by a fault -/
def gh_fx (a : me_S) (n : Nat) (v : Int32) : me_S := me_S.s_fa (me_S.s_co a (me_fu a.co n 120)) (me_fu a.fa n v)
/-- what one core's step may come to -/
def bb_Q (a : me_S) (W : Nat → Bool) (v : Int32) (μ ν : me_M) (A B : Option (me_M × Unit)) : Prop := ∃ μ' ν' a', A = some (μ', ()) ∧ B = some (ν', ()) ∧ bb_F a a' μ μ' ν ν' ∧ bb_X a' a' W v v μ' ν'
theorem bb_Q.tr_ {a b : me_S} {W : Nat → Bool} {v : Int32} {μ ν μ' ν' : me_M} {A B : Option (me_M × Unit)} (h : bb_F a b μ μ' ν ν') (q : bb_Q b W v μ' ν' A B) : bb_Q a W v μ ν A B := by
  obtain ⟨μ2, ν2, a2, h1, h2, h3, h4⟩ := q
  exact ⟨μ2, ν2, a2, h1, h2, h.tr_ h3, h4⟩
theorem bb_fail {a : me_S} {W : Nat → Bool} {v : Int32} {μ ν : me_M} (hX : bb_X a a W v v μ ν) {n : Nat} {f : Int32} (hn : n < 16) (hf : f = 106 ∨ f = 117 ∨ f = 111 ∨ f = 112) (hr : me_nr .char f = true) (hc : ¬ a.co n = 45) : ∃ μ' ν', f_Core_stopBy μ n f = some (μ', ()) ∧ f_M_fails ν (me_N n) f = some (ν', ()) ∧ bb_F a (gh_fx a n f) μ μ' ν ν' ∧ bb_X (gh_fx a n f) (gh_fx a n f) W v v μ' ν' ∧ (∀ j, ¬ j = 7 → ¬ j = 8 → μ' 22 n j = μ 22 n j) ∧ ∀ k, 36 < k → k < 89 → ν' k = ν k := by
  obtain ⟨hC, hM, hI, h4, h5, h6, h7, h8, h9⟩ := id hX
  have zca : ν 91 0 n = me_N (a.ca n) := (hM.ca n hn).trans (if_neg hc)
  have g1 : me_RC (gh_fx a n f) (me_up (me_up μ 22 n 7 120) 22 n 8 f) := (hC.w_co n 120).w_fa n f
  have g2 : me_RM (gh_fx a n f) (me_up (me_up ν 89 0 n 120) 90 0 n f) := by
    rw [me_up_cm (by decide)]
    have h := (hM.w_fa n f).w_co n 120 (fun _ => by rw [me_up_at]; exact (me_fu_at (f := a.fa) (i := n) (v := f)).symm) (by rw [me_up_kn (by decide)]; exact zca.trans (if_neg (by decide)).symm)
    exact h.eq ⟨rfl, rfl, rfl, rfl, rfl, rfl, rfl, rfl, rfl, rfl, rfl, rfl, rfl, rfl, rfl, rfl, rfl, rfl, rfl, rfl, rfl, rfl, rfl, rfl, rfl, rfl, rfl, rfl, rfl, rfl, rfl, rfl, rfl, rfl, rfl, rfl, rfl⟩
  have hI2 : me_Iv (gh_fx a n f) := by
    refine gh_iv_fa (a := me_S.s_co a (me_fu a.co n 120)) (gh_iv_k hI (by simp) (fun e => absurd e (by decide)) (fun e => absurd e (by decide))) ?_
    rcases hf with q | q | q | q
    · exact Or.inr (Or.inl q)
    · exact Or.inr (Or.inr (Or.inl q))
    · exact Or.inr (Or.inr (Or.inr (Or.inl q)))
    · exact Or.inr (Or.inr (Or.inr (Or.inr q)))
  obtain ⟨k1, k2⟩ := bb_fin hX g1 g2 hI2 rfl rfl rfl rfl (v' := v) (fun k hk => by
    funext i j
    rw [me_up_kn (by omega), me_up_kn (by omega)]) (by rw [me_up_kn (by decide), me_up_kn (by decide)]; exact h6) (by rw [me_up_kn (by decide), me_up_kn (by decide)]) (fun k hk => by
    funext i j
    rw [me_up_kn (by omega), me_up_kn (by omega)])
  refine ⟨_, _, ?_, ?_, k1, k2, fun j h1 h2 => ?_, fun k h1 h2 => ?_⟩
  · unfold f_Core_stopBy
    rw [me_lt_s, me_gd_t hr, me_lt_s]
  · unfold f_M_fails
    rw [me_gd_n (by omega) hn, me_N_ix (by omega), show vp_nar .char 120 = (120 : Int32) from rfl, me_lt_s, me_gd_n (by omega) hn, me_nar_c hr, me_lt_s]
  · rw [me_up_jn h2, me_up_jn h1]
  · funext i j
    rw [me_up_kn (by omega), me_up_kn (by omega)]
theorem bb_push {a : me_S} {W : Nat → Bool} {v : Int32} {μ ν : me_M} (hX : bb_X a a W v v μ ν) {n : Nat} {x : Int32} (hn : n < 16) (hc : a.co n = 114) (hca : a.ca n < 12) : bb_Q a W v μ ν (f_Core_pushAndGoOn μ n x) (f_M_push ν (me_N n) x) := by
  obtain ⟨hC, hM, hI, h4, h5, h6, h7, h8, h9⟩ := id hX
  have hdp := hI.2.2.1.idp n
  have hc45 : ¬ a.co n = 45 := by rw [hc]; decide
  have zd := hC.dp n hn
  have zd' := hM.dp n hn
  unfold f_Core_pushAndGoOn f_Core_isFull f_M_push
  rw [zd, me_gd_n (by omega) hn, me_N_ix (a := n) (by omega), zd']
  by_cases e : a.dp n < 6
  · have c1 := hC.w_sk n (a.dp n) x
    have c2 := c1.w_dp n (a.dp n + 1) (fun j hj => by
      show me_up μ 24 n (a.dp n) x 24 n j = me_fu2 a.sk n (a.dp n) x n j
      unfold me_fu2
      rw [me_up_ap]
      by_cases q : j = a.dp n
      · rw [if_pos ⟨rfl, rfl, q⟩, if_pos ⟨rfl, q⟩]
      · rw [if_neg (fun k => q k.2.2), if_neg (fun k => q k.2)]
        exact hC.sk n j hn (by omega))
    have c3 := c2.w_ca n (a.ca n + 1)
    have r1 := hM.w_sk n (a.dp n) x
    have r2 := r1.w_dp n (a.dp n + 1) (fun j hj => by
      show me_up ν 78 n (a.dp n) x 78 n j = me_fu2 a.sk n (a.dp n) x n j
      unfold me_fu2
      rw [me_up_ap]
      by_cases q : j = a.dp n
      · rw [if_pos ⟨rfl, rfl, q⟩, if_pos ⟨rfl, q⟩]
      · rw [if_neg (fun k => q k.2.2), if_neg (fun k => q k.2)]
        exact hM.sk n j hn (by omega))
    have r3 := r2.w_ca n (a.ca n + 1) hc45
    have hI1 : me_Iv (me_S.s_sk a (me_fu2 a.sk n (a.dp n) x)) := hI
    have hI2 := gh_iv_dp hI1 (n := n) (v := a.dp n + 1) (by omega)
    have hI3 := gh_iv_ca hI2 (n := n) (v := a.ca n + 1) (by omega) (by show ¬ a.co n = 119; rw [hc]; decide) (by show ¬ a.co n = 98; rw [hc]; decide)
    obtain ⟨k1, k2⟩ := bb_fin hX c3 r3 hI3 rfl rfl rfl rfl (v' := v) (fun k hk => by
      funext i j
      rw [me_up_kn (by omega), me_up_kn (by omega), me_up_kn (by omega)]) (by rw [me_up_kn (by decide), me_up_kn (by decide), me_up_kn (by decide)]; exact h6) (by rw [me_up_kn (by decide), me_up_kn (by decide), me_up_kn (by decide)]) (fun k hk => by
      funext i j
      rw [me_up_kn (by omega), me_up_kn (by omega), me_up_kn (by omega)])
    refine ⟨_, _, _, ?_, ?_, k1, k2⟩
    · rw [if_pos (by rw [show (6 : Int32) = me_N 6 from rfl, me_N_lt (by omega) (by omega)]; exact e), me_bd_s, if_pos (by rfl), me_gd_n (by omega) e, me_N_ix (by omega), me_lt_s, me_up_kn (show ¬ 22 = 24 by decide), zd, me_N_1, me_N_add, me_lt_s, me_up_jn (show ¬ 6 = 4 by decide), me_up_kn (show ¬ 22 = 24 by decide), hC.ca n hn, me_N_add, me_lt_s]
    · rw [if_neg (by rw [show (6 : Int32) = me_N 6 from rfl, me_N_inj (by omega) (by omega)]; omega)]
      simp only [me_gd_n (show n < 2147483648 by omega) hn, me_gd_n (show a.dp n < 2147483648 by omega) e, me_N_ix (show a.dp n < 2147483648 by omega), me_lt_s, me_up_kn (show ¬ 87 = 78 by decide), zd', me_N_1, me_N_add, me_up_kn (show ¬ 91 = 87 by decide), me_up_kn (show ¬ 91 = 78 by decide), (hM.ca n hn).trans (if_neg hc45)]
  · obtain ⟨μ', ν', d1, d2, d3, d4, -⟩ := bb_fail hX (f := 111) hn (by simp) (by decide +kernel) hc45
    refine ⟨μ', ν', _, ?_, ?_, d3, d4⟩
    · rw [if_neg (by rw [show (6 : Int32) = me_N 6 from rfl, me_N_lt (by omega) (by omega)]; exact e), me_bd_s, if_neg (by decide), d1, me_b2_s]
    · rw [if_pos (by rw [show (6 : Int32) = me_N 6 from rfl, me_N_inj (by omega) (by omega)]; omega), d2, me_b2_s]
/-- as many words can be popped, or the core stops -/
theorem bb_has {a : me_S} {W : Nat → Bool} {v : Int32} {μ ν : me_M} (hX : bb_X a a W v v μ ν) {n m : Nat} (hn : n < 16) (hm : m < 10) (hc : ¬ a.co n = 45) : (m ≤ a.dp n ∧ f_Core_canPop μ n (me_N m) = some (μ, 1) ∧ f_M_has ν (me_N n) (me_N m) = some (ν, 1)) ∨ ∃ μ' ν', f_Core_canPop μ n (me_N m) = some (μ', 0) ∧ f_M_has ν (me_N n) (me_N m) = some (ν', 0) ∧ bb_F a (gh_fx a n 117) μ μ' ν ν' ∧ bb_X (gh_fx a n 117) (gh_fx a n 117) W v v μ' ν' := by
  obtain ⟨hC, hM, hI, h4, h5, h6, h7, h8, h9⟩ := id hX
  have hdp := hI.2.2.1.idp n
  have zd := hC.dp n hn
  have zd' := hM.dp n hn
  unfold f_Core_canPop f_M_has
  rw [zd, me_gd_n (by omega) hn, me_N_ix (by omega), zd']
  by_cases e : m ≤ a.dp n
  · left
    refine ⟨e, ?_, ?_⟩
    · unfold f_Core_canPop_b14
      rw [if_pos (by rw [me_N_le (by omega) (by omega)]; exact e), zd, if_neg (by rw [me_N_lt (by omega) (by omega)]; omega), if_neg (by rw [show (6 : Int32) = me_N 6 from rfl, me_N_lt (by omega) (by omega)]; omega)]
    · unfold f_M_has_b17
      rw [if_pos (by rw [me_N_le (by omega) (by omega)]; exact e), me_gd_n (by omega) hn, me_N_ix (by omega), zd', if_neg (by rw [me_N_lt (by omega) (by omega)]; omega)]
  · right
    obtain ⟨μ', ν', d1, d2, d3, d4, d5, d6⟩ := bb_fail hX (f := 117) hn (by simp) (by decide +kernel) hc
    refine ⟨μ', ν', ?_, ?_, d3, d4⟩
    · unfold f_Core_canPop_b14
      rw [if_neg (by rw [me_N_le (by omega) (by omega)]; exact e), d1, me_b2_s, d5 4 (by decide) (by decide), zd, if_pos (by rw [me_N_lt (by omega) (by omega)]; omega)]
    · unfold f_M_has_b17
      rw [if_neg (by rw [me_N_le (by omega) (by omega)]; exact e), d2, me_b2_s, me_gd_n (by omega) hn, me_N_ix (by omega), d6 87 (by decide) (by decide), zd', if_pos (by rw [me_N_lt (by omega) (by omega)]; omega)]
theorem bb_pop {a : me_S} {W : Nat → Bool} {v : Int32} {μ ν : me_M} (hX : bb_X a a W v v μ ν) {n : Nat} (hn : n < 16) (hd : 1 ≤ a.dp n) : f_M_pop ν (me_N n) = some (me_up ν 87 0 n (me_N (a.dp n - 1)), a.sk n (a.dp n - 1)) ∧ bb_F a (me_S.s_dp a (me_fu a.dp n (a.dp n - 1))) μ (me_up μ 22 n 4 (me_N (a.dp n - 1))) ν (me_up ν 87 0 n (me_N (a.dp n - 1))) ∧ bb_X (me_S.s_dp a (me_fu a.dp n (a.dp n - 1))) (me_S.s_dp a (me_fu a.dp n (a.dp n - 1))) W v v (me_up μ 22 n 4 (me_N (a.dp n - 1))) (me_up ν 87 0 n (me_N (a.dp n - 1))) ∧ μ 24 n (a.dp n - 1) = a.sk n (a.dp n - 1) := by
  obtain ⟨hC, hM, hI, h4, h5, h6, h7, h8, h9⟩ := id hX
  have hdp := hI.2.2.1.idp n
  have zd' := hM.dp n hn
  have zs := hM.sk n (a.dp n - 1) hn (by omega)
  obtain ⟨k1, k2⟩ := bb_w2 hX (hC.w_dp n (a.dp n - 1) (fun j hj => hC.sk n j hn (by omega))) (hM.w_dp n (a.dp n - 1) (fun j hj => hM.sk n j hn (by omega))) (gh_iv_dp hI (by omega)) rfl rfl rfl rfl ⟨by decide, by decide, by decide⟩ ⟨by decide, by decide⟩
  refine ⟨?_, k1, k2, hC.sk n (a.dp n - 1) hn (by omega)⟩
  unfold f_M_pop
  simp only [me_gd_n (show n < 2147483648 by omega) hn, me_N_ix (show n < 2147483648 by omega), zd', me_N_1, me_N_sub hd, me_lt_s, me_up_at, me_gd_n (show a.dp n - 1 < 2147483648 by omega) (show a.dp n - 1 < 6 by omega), me_N_ix (show a.dp n - 1 < 2147483648 by omega), me_up_kn (show ¬ 78 = 87 by decide), zs]
theorem bb_go {a : me_S} {W : Nat → Bool} {v : Int32} {μ ν : me_M} (hX : bb_X a a W v v μ ν) {n m : Nat} (hn : n < 16) (hm : m ≤ 12) (hc : a.co n = 114) : bb_F a (me_S.s_ca a (me_fu a.ca n m)) μ (me_up μ 22 n 6 (me_N m)) ν (me_up ν 91 0 n (me_N m)) ∧ bb_X (me_S.s_ca a (me_fu a.ca n m)) (me_S.s_ca a (me_fu a.ca n m)) W v v (me_up μ 22 n 6 (me_N m)) (me_up ν 91 0 n (me_N m)) := by
  obtain ⟨hC, hM, hI, h4, h5, h6, h7, h8, h9⟩ := id hX
  exact bb_w2 hX (hC.w_ca n m) (hM.w_ca n m (by rw [hc]; decide)) (gh_iv_ca hI hm (by rw [hc]; decide) (by rw [hc]; decide)) rfl rfl rfl rfl ⟨by decide, by decide, by decide⟩ ⟨by decide, by decide⟩
