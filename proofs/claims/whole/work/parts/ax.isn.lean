/-! isSound: one packet, all packets, the call -/
theorem y_behind {a : me_S} {μ : me_M} (hC : me_RC a μ) (hI : me_Iv a) {p i : Nat} (hp : p < a.np) (hst : a.st p = 119) (h1 : a.tk p < i) (h2 : i < a.pt p) (hF : gh_FS a p μ (fun _ _ => True)) : f_Audit_isBehind μ p (me_N i) = some 1 := by
  have hwh := hI.wh
  have g1 := hI.2.1.ibo p hp
  have g2 := hI.2.1.ipt p hp
  obtain ⟨x1, c1, m1⟩ := hI.2.2.2.2.1.iex p (i - 1) hp hst (by omega) (by omega)
  obtain ⟨x2, c2, m2⟩ := hI.2.2.2.2.1.iex p i hp hst (by omega) h2
  obtain ⟨j1, e1⟩ := List.getElem?_of_mem m1
  obtain ⟨j2, e2⟩ := List.getElem?_of_mem m2
  obtain ⟨u1, u2, u3⟩ := hF x1 j1 (i - 1) c1 trivial e1
  obtain ⟨v1, v2, v3⟩ := hF x2 j2 i c2 trivial e2
  have l1 := me_ql a hI x1
  have l2 := me_ql a hI x2
  have b1 : x1 / 10 < a.w * a.h := (hI.2.2.2.2.1.iel x1 _ m1).1
  have b2 : x2 / 10 < a.w * a.h := (hI.2.2.2.2.1.iel x2 _ m2).1
  obtain ⟨w1, d1⟩ := List.getElem?_eq_some_iff.mp e1
  obtain ⟨w2, d2⟩ := List.getElem?_eq_some_iff.mp e2
  unfold f_Audit_isBehind
  rw [show me_N i - 1 = me_N (i - 1) from me_N_sub (b := 1) (by omega), me_lt_s, if_neg (me_N_nneg (by omega)), me_gd_n (by omega) (by omega), me_N_ix (by omega), me_N_ix (by omega), u1, if_neg (me_N_nm1 (by omega)), me_gd_n (by omega) (by omega), me_gd_n (by omega) (by omega), v1]
  rcases hI.2.2.2.2.1.ifo x1 x2 _ _ m1 m2 rfl (show i - 1 < i by omega) with e | e
  · subst e
    rw [if_pos rfl, me_gd_n (by omega) (by omega), me_gd_n (by omega) (by omega), u2, v2, if_pos rfl, me_gd_n (by omega) (by omega), me_gd_n (by omega) (by omega), u3, v3, if_neg]
    rw [me_N_le (by omega) (by omega)]
    intro q
    have hpw := List.pairwise_iff_getElem.mp (hI.2.2.2.2.1.iso x1)
    by_cases ej : j2 = j1
    · rw [ej, e1] at e2
      have := congrArg (fun t => t.2.1) (Option.some.inj e2)
      have : i - 1 = i := this
      omega
    · have := hpw j2 j1 w2 w1 (by omega)
      rw [d1, d2] at this
      rcases this with s | s
      · have s : p < p := s
        omega
      · have s : i < i - 1 := s.2
        omega
  · have e : me_ds a.w (a.sr p) (x2 / 10) < me_ds a.w (a.sr p) (x1 / 10) := e
    have hsr := hI.2.1.isr p hp
    have hd : me_ds a.w (a.sr p) (x1 / 10) < 1000 := by
      have key : ∀ A B C D : Nat, A < 16 → B < 16 → C < 16 → D < 16 → (A - B) + (B - A) + ((C - D) + (D - C)) < 1000 := by
        intro A B C D q1 q2 q3 q4
        omega
      have a1 := Nat.mod_le (a.sr p) a.w
      have a2 := Nat.mod_le (x1 / 10) a.w
      have a3 := Nat.div_le_self (a.sr p) a.w
      have a4 := Nat.div_le_self (x1 / 10) a.w
      exact key _ _ _ _ (by omega) (by omega) (by omega) (by omega)
    rw [if_neg (fun q => by rw [(me_N_inj (by omega) (by omega)).mp q] at e; exact Nat.lt_irrefl _ e), me_gd_n (by omega) (by omega), hC.sr p, y_steps hC hI hsr b1, me_bd_s, me_gd_n (by omega) (by omega), y_steps hC hI hsr b2, me_bd_s, if_neg (by rw [me_N_le (by omega) (by omega)]; omega)]
theorem y_ps48 {a : me_S} {μ : me_M} (hC : me_RC a μ) (hI : me_Iv a) {p : Nat} (hp : p < a.np) (hst : a.st p = 119) (hF : gh_FS a p μ (fun _ _ => True)) : ∀ (k f i : Nat), i + k = a.pt p → a.tk p ≤ i → k < f → f_Audit_packetIsSound_h48 f μ p (me_N i) = some (μ, 1) := by
  have hwh := hI.wh
  have g1 := hI.2.1.ibo p hp
  have g2 := hI.2.1.ipt p hp
  intro k
  induction k with
  | zero =>
    intro f i h1 h2 h3
    obtain ⟨f, rfl⟩ : ∃ g, f = g + 1 := ⟨f - 1, by omega⟩
    show f_Audit_packetIsSound_b48 _ _ _ _ = _
    unfold f_Audit_packetIsSound_b48 f_Audit_packetIsSound_b96
    rw [hC.pt p, if_pos (by rw [me_N_le (by omega) (by omega)]; omega), hC.bo p hp, if_neg (by rw [me_N_lt (by omega) (by omega)]; omega)]
  | succ k ih =>
    intro f i h1 h2 h3
    obtain ⟨f, rfl⟩ : ∃ g, f = g + 1 := ⟨f - 1, by omega⟩
    obtain ⟨x2, c2, m2⟩ := hI.2.2.2.2.1.iex p i hp hst h2 (by omega)
    obtain ⟨j2, e2⟩ := List.getElem?_of_mem m2
    obtain ⟨v1, v2, v3⟩ := hF x2 j2 i c2 trivial e2
    have b2 : x2 / 10 < a.w * a.h := (hI.2.2.2.2.1.iel x2 _ m2).1
    show f_Audit_packetIsSound_b48 _ _ _ _ = _
    unfold f_Audit_packetIsSound_b48
    rw [hC.pt p, if_neg (by rw [me_N_le (by omega) (by omega)]; omega), me_N_5, if_neg (by rw [me_N_le (by omega) (by omega)]; omega), me_gd_n (by omega) (by omega), me_N_ix (by omega), v1, if_neg (me_N_nm1 (by omega)), hC.tk p]
    by_cases e : i ≤ a.tk p
    · rw [if_pos (by rw [me_N_le (by omega) (by omega)]; exact e), me_N_inc, me_lt_s]
      exact ih f (i + 1) (by omega) (by omega) (by omega)
    · rw [if_neg (by rw [me_N_le (by omega) (by omega)]; exact e), y_behind hC hI hp hst (by omega) (by omega) hF, me_bd_s, if_neg (by decide), me_N_inc, me_lt_s]
      exact ih f (i + 1) (by omega) (by omega) (by omega)
theorem y_ps2 {a : me_S} (hI : me_Iv a) {p : Nat} (hp : p < a.np) (hst : a.st p = 119) : ∀ (k f j : Nat) (μ : me_M), j + k = 5 → k < f → me_RC a μ → ∃ μ', f_Audit_packetIsSound_h2 f μ p (me_N j) = some (μ', 1) ∧ me_RC a μ' ∧ ∀ k', ¬ (k' = 33 ∨ k' = 34 ∨ k' = 35) → μ' k' = μ k' := by
  have hwh := hI.wh
  have g1 := hI.2.1.ibo p hp
  have g2 := hI.2.1.ipt p hp
  intro k
  induction k with
  | zero =>
    intro f j μ h1 h2 hC
    obtain ⟨f, rfl⟩ : ∃ g, f = g + 1 := ⟨f - 1, by omega⟩
    obtain ⟨μ', k1, k2, k3, k4⟩ := y_fp4 hI hp (a.w * a.h) me_FU 0 μ (Nat.zero_add _) (by unfold me_FU; omega) hC (fun x j i c hx _ => absurd (show x < 10 * 0 from hx) (by omega))
    have hct : me_sm (gh_pk a p) 0 160 = a.pt p - a.tk p := by
      rw [← gh_su_sm]
      exact hI.2.2.2.2.1.ict p hp (by rw [hst]; decide)
    have k1 : f_Audit_findPieces μ p = some (μ', me_N (me_sm (gh_pk a p) 0 160)) := k1
    refine ⟨μ', ?_, k2, k4⟩
    show f_Audit_packetIsSound_b2 _ _ _ _ = _
    unfold f_Audit_packetIsSound_b2
    rw [if_pos (by rw [me_N_5, me_N_le (by omega) (by omega)]; omega), k1, me_b2_s, hct, k2.pt p, k2.tk p, me_N_sub g2.1, if_pos rfl, me_max0 (by omega), me_lt_s]
    exact y_ps48 k2 hI hp hst k3 (a.pt p - a.tk p) me_FU (a.tk p) (by omega) (Nat.le_refl _) (by unfold me_FU; omega)
  | succ k ih =>
    intro f j μ h1 h2 hC
    obtain ⟨f, rfl⟩ : ∃ g, f = g + 1 := ⟨f - 1, by omega⟩
    obtain ⟨μ', k1, k2, k4⟩ := ih f (j + 1) (me_up μ 33 0 j (-1)) (by omega) (by omega) (hC.w_k33 0 j (-1))
    refine ⟨μ', ?_, k2, fun k' hk' => ?_⟩
    · show f_Audit_packetIsSound_b2 _ _ _ _ = _
      unfold f_Audit_packetIsSound_b2
      rw [if_neg (by rw [me_N_5, me_N_le (by omega) (by omega)]; omega), me_gd_n (by omega) (by omega), me_lt_s, me_N_ix (by omega), me_N_inc, me_lt_s]
      exact k1
    · rw [k4 k' hk']
      funext u v
      rw [me_up_kn (by omega)]
theorem y_pas {a : me_S} (hI : me_Iv a) : ∀ (k f p : Nat) (μ : me_M), p + k = a.np → k < f → me_RC a μ → ∃ μ', f_Y_packetsAreSound_h2 f μ (me_N p) = some (μ', 1) ∧ me_RC a μ' ∧ ∀ k', ¬ (k' = 33 ∨ k' = 34 ∨ k' = 35) → μ' k' = μ k' := by
  have hnp := hI.n200
  intro k
  induction k with
  | zero =>
    intro f p μ h1 h2 hC
    obtain ⟨f, rfl⟩ : ∃ g, f = g + 1 := ⟨f - 1, by omega⟩
    refine ⟨μ, ?_, hC, fun _ _ => rfl⟩
    show f_Y_packetsAreSound_b2 _ _ _ = _
    unfold f_Y_packetsAreSound_b2
    rw [hC.np, if_pos (by rw [me_N_le (by omega) (by omega)]; omega)]
  | succ k ih =>
    intro f p μ h1 h2 hC
    obtain ⟨f, rfl⟩ : ∃ g, f = g + 1 := ⟨f - 1, by omega⟩
    have hp : p < a.np := by omega
    by_cases e : a.st p = 119
    · obtain ⟨μ1, g1, g2, g3⟩ := y_ps2 hI hp e 5 me_FU 0 μ (by omega) (by unfold me_FU; omega) hC
      obtain ⟨μ', k1, k2, k3⟩ := ih f (p + 1) μ1 (by omega) (by omega) g2
      have g1 : f_Audit_packetIsSound μ p = some (μ1, 1) := g1
      refine ⟨μ', ?_, k2, fun k' hk' => by rw [k3 k' hk', g3 k' hk']⟩
      show f_Y_packetsAreSound_b2 _ _ _ = _
      unfold f_Y_packetsAreSound_b2
      rw [hC.np, if_neg (by rw [me_N_le (by omega) (by omega)]; omega), me_gd_n (by omega) (by omega), me_N_ix (by omega), hC.st p, if_pos e, me_gd_n (by omega) (by omega), g1, me_b2_s, if_neg (by decide), me_N_inc, me_lt_s]
      exact k1
    · obtain ⟨μ', k1, k2, k3⟩ := ih f (p + 1) μ (by omega) (by omega) hC
      refine ⟨μ', ?_, k2, k3⟩
      show f_Y_packetsAreSound_b2 _ _ _ = _
      unfold f_Y_packetsAreSound_b2
      rw [hC.np, if_neg (by rw [me_N_le (by omega) (by omega)]; omega), me_gd_n (by omega) (by omega), me_N_ix (by omega), hC.st p, if_neg e, me_N_inc, me_lt_s]
      exact k1
theorem t_43 {T : Nat} {a : me_S} {μ : me_M} {o : Int64 × UInt64} {s1 s2 s3 s4 s5 : Int32} (hR : me_R T a μ) : ∃ μ' o' a', f_case_43 μ o s1 s2 s3 s4 s5 = some (μ', o') ∧ me_R T a' μ' := by
  obtain ⟨hC, hM, hI, hbt, hT, hwk⟩ := id hR
  have hwh := hI.wh
  have hnp := hI.n200
  obtain ⟨μ1, e1, c1, f1⟩ := y_pas hI a.np me_FU 0 μ (Nat.zero_add _) (by unfold me_FU; omega) hC
  have e1 : f_Y_packetsAreSound μ = some (μ1, 1) := e1
  have e0 : f_Audit_rowsAreSound μ = some 1 := y_rs2 hC hI (a.w * a.h) me_FU 0 (Nat.zero_add _) (by unfold me_FU; omega)
  have hM1 : me_RM a μ1 := hM.co_ (fun k hk => ⟨fun i j e => Or.inr (by rw [f1 k (by omega)]), fun _ _ _ => f1 k (by omega)⟩)
  refine ⟨_, o, a, ?_, me_R.th ⟨c1, hM1, hI, hbt, hT, fun n hn => by rw [f1 13 (by decide)]; exact hwk n hn⟩ 0⟩
  unfold f_case_43 f_Y_isSound f_M_isSound
  rw [e0, me_bd_s, if_neg (by decide), e1, me_b2_s, if_neg (by decide), me_b2_s, me_lt_s, me_b2_s, if_pos rfl]
