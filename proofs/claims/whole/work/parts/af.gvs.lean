/-! one row looked at for one output: class and reference side by side -/
theorem gh_fct {a : me_S} (hI : me_Iv a) {x p i ci : Nat} {t : List (Nat × Nat × Nat)} (hq : a.q x = (p, i, ci) :: t) : x / 10 < a.w * a.h ∧ p < a.np ∧ p < 200 ∧ a.st p = 119 ∧ me_ch (a.kd p) = x % 10 / 5 ∧ i < 8 ∧ (1 ≤ a.bo p ∧ a.bo p ≤ 4) ∧ a.gl p < a.w * a.h ∧ a.gl p < 16 ∧ (a.kd p = 113 → a.pl p < 8 ∧ 1 ≤ a.ow ∧ a.np < 200) ∧ a.ow < 1000 ∧ t.length < 4 ∧ x < 160 := by
  have hwh := hI.wh
  have hnp := hI.n200
  have hW := hI.2.2.2.2.1
  have hP := hI.2.1
  have hmem : (p, i, ci) ∈ a.q x := by rw [hq]; exact List.mem_cons_self
  obtain ⟨c1, c2, c3, c4, c5, c6, c7⟩ := hW.iel x (p, i, ci) hmem
  have c2 : p < a.np := c2
  have c6 : i < a.pt p := c6
  have b1 := hP.ibo p c2
  have b2 := (hP.ipt p c2).2
  have b3 := hP.igl p c2
  have b4 := hW.in4 x
  rw [hq, List.length_cons] at b4
  have b5 := hP.ile
  refine ⟨c1, c2, by omega, c3, c4, by omega, b1, b3, by omega, fun hk => ?_, by omega, by omega, by omega⟩
  have ho := (gh_iv_lz hI c2 c3).2 hk
  exact ⟨hP.ipl p c2, ho, by omega⟩
/-- the side to which a first piece goes -/
def gh_sd (a : me_S) (x p i : Nat) : Nat := if i = 0 then gh_side a (x / 10) (a.gl p) (me_ch (a.kd p)) else (a.rh x).getD 4
theorem gh_sdB {a : me_S} (hI : me_Iv a) {x p i ci : Nat} {t : List (Nat × Nat × Nat)} (hq : a.q x = (p, i, ci) :: t) (hi : ¬ i = 0) : a.rh x = some (gh_sd a x p i) ∧ gh_sd a x p i < 5 := by
  unfold gh_sd
  rw [if_neg hi]
  rcases hI.2.2.2.2.1.way (show 0 < i by omega) hq with ⟨v1, v2⟩ | ⟨d1, n1, v1, v2, v3, v4, v5⟩
  · rw [v1]
    exact ⟨rfl, (by decide : 4 < 5)⟩
  · rw [v2]
    exact ⟨rfl, show d1 < 5 by omega⟩
theorem gh_sd5 {a : me_S} (hI : me_Iv a) {x p i ci : Nat} {t : List (Nat × Nat × Nat)} (hq : a.q x = (p, i, ci) :: t) : gh_sd a x p i < 5 := by
  by_cases hi : i = 0
  · obtain ⟨f1, f2, -, -, -, -, -, f8, -⟩ := gh_fct hI hq
    unfold gh_sd
    rw [if_pos hi]
    exact gh_side_lt hI f1 f8
  · exact (gh_sdB hI hq hi).2
/-- nothing is looked at in a row -/
def gh_bk (a : me_S) (x : Nat) : Prop := a.q x = [] ∨ (∃ e t, a.q x = e :: t ∧ (me_N (a.rg x) = me_N (a.bt + 1) ∨ me_N e.2.2 = me_N (a.bt + 1)))
theorem y_blk {a : me_S} {μ : me_M} (hC : me_RC a μ) {x : Nat} (hx : x < 160) (h4 : (a.q x).length ≤ 4) (hnow : μ 30 0 6 = me_N (a.bt + 1)) {N O : Int32} (h : gh_bk a x) : f_Mover_gives μ N O x = some (μ, 0) := by
  have hn := hC.qn x hx
  unfold f_Mover_gives f_Row_canBeLookedAt
  rw [hnow, hn, hC.rg x hx]
  rcases h with h | ⟨e, t, h, h1⟩
  · rw [h, if_pos (by decide), me_bd_s, if_pos (by rfl)]
  · have hq3 := hC.q3 x 0 e hx (by rw [h]; rfl)
    rw [if_neg (by rw [h, me_N_0, me_N_le (by rw [h] at h4; omega) (by omega), List.length_cons]; omega), hq3]
    by_cases g : me_N (a.rg x) = me_N (a.bt + 1)
    · rw [if_pos g, me_bd_s, if_pos (by rfl)]
    · rw [if_neg g, if_pos (h1.resolve_left g), me_bd_s, if_pos (by rfl)]
theorem m_blk {a : me_S} {μ : me_M} (hM : me_RM a μ) {n c k : Nat} (hn : n < 16) (hc : c < 2) (hk : k < 5) (h4 : (a.q (5 * (2 * n + c) + k)).length ≤ 4) {O : Int32} (h : gh_bk a (5 * (2 * n + c) + k)) : f_M_gives μ (me_N n) (me_N c) (me_N k) O = some (μ, 0) := by
  have hs := hM.qn (2 * n + c) k (by omega) hk
  unfold f_M_gives
  simp only [me_gd_n (show n < 2147483648 by omega) hn, me_gd_n (show c < 2147483648 by omega) hc, me_gd_n (show k < 2147483648 by omega) hk, me_N_ix (show n < 2147483648 by omega), me_N_ix (show c < 2147483648 by omega), me_N_ix (show k < 2147483648 by omega), hs, hM.rg (2 * n + c) k (by omega) hk, hM.bt, me_N_1, me_N_add]
  rcases h with h | ⟨e, t, h, h1⟩
  · rw [h, if_pos (by rfl)]
  · have hq3 := hM.q3 (2 * n + c) k 0 e (by omega) hk (by rw [h]; rfl)
    rw [if_neg (by rw [h, me_N_0, me_N_inj (by rw [h] at h4; omega) (by omega), List.length_cons]; omega), hq3]
    by_cases g : me_N (a.rg (5 * (2 * n + c) + k)) = me_N (a.bt + 1)
    · rw [if_pos g]
    · rw [if_neg g, if_pos (h1.resolve_left g)]
theorem y_un {a : me_S} {μ : me_M} (hC : me_RC a μ) (hI : me_Iv a) {n x p i ci : Nat} {t : List (Nat × Nat × Nat)} (hq : a.q x = (p, i, ci) :: t) (hn : x / 10 = n) (hnow : μ 30 0 6 = me_N (a.bt + 1)) {O : Int32} (h1 : ¬ me_N (a.rg x) = me_N (a.bt + 1)) (h2 : ¬ me_N ci = me_N (a.bt + 1)) : f_Mover_gives μ (me_N n) O x = f_Mover_gives_b81 μ (me_N n) O x p (if i = 0 then 1 else 0) (me_N (gh_sd a x p i)) := by
  obtain ⟨f1, f2, f3, f4, f5, f6, f7, f8, f9, f10, f11, f12, f13⟩ := gh_fct hI hq
  have hs := hC.qn x f13
  have z1 : μ 18 x 0 = me_N p := hC.q1 x 0 (p, i, ci) f13 (by rw [hq]; rfl)
  have z2 : μ 19 x 0 = me_N i := hC.q2 x 0 (p, i, ci) f13 (by rw [hq]; rfl)
  have z3 : μ 20 x 0 = me_N ci := hC.q3 x 0 (p, i, ci) f13 (by rw [hq]; rfl)
  have hch := me_ch_lt (a.kd p)
  unfold f_Mover_gives f_Row_canBeLookedAt
  rw [hnow, hs, hC.rg x f13, if_neg (by rw [hq, me_N_0, me_N_le (by rw [List.length_cons]; omega) (by omega), List.length_cons]; omega), z3, if_neg h1, if_neg h2, me_bd_s, if_neg (by decide), z1, y_find_o hC hI f2, me_bd_s, me_oq_s, z2]
  unfold f_Mover_gives_b49
  by_cases hi : i = 0
  · rw [if_pos (by rw [hi]; rfl), if_pos hi, if_neg (by decide), y_chan hC, me_bd_s, hC.gl]
    rw [← hn, y_side hC hI f1 f8 hch, me_bd_s]
    unfold gh_sd
    rw [if_pos hi]
  · have e := (gh_sdB hI hq hi).1
    rw [if_neg (by rw [me_N_0, me_N_inj (by omega) (by omega)]; exact hi), if_neg hi, if_pos (by rfl), hC.rh x f13, e]
    rfl
theorem m_un {a : me_S} {μ : me_M} (hM : me_RM a μ) (hI : me_Iv a) {n c k p i ci : Nat} {t : List (Nat × Nat × Nat)} (hn : n < 16) (hc : c < 2) (hk : k < 5) (hq : a.q (5 * (2 * n + c) + k) = (p, i, ci) :: t) {O : Int32} (h1 : ¬ me_N (a.rg (5 * (2 * n + c) + k)) = me_N (a.bt + 1)) (h2 : ¬ me_N ci = me_N (a.bt + 1)) : f_M_gives μ (me_N n) (me_N c) (me_N k) O = f_M_gives_b144 μ (me_N n) (me_N c) (me_N k) O (me_N (8 * p + i)) (me_N p) (if i = 0 then 1 else 0) (me_bi (decide (i = a.bo p))) (me_N (gh_sd a (5 * (2 * n + c) + k) p i)) := by
  obtain ⟨f1, f2, f3, f4, f5, f6, f7, f8, f9, f10, f11, f12, f13⟩ := gh_fct hI hq
  have e10 : (5 * (2 * n + c) + k) / 10 = n := by omega
  have ech : me_ch (a.kd p) = c := by omega
  have hs := hM.qn (2 * n + c) k (by omega) hk
  have z1 : μ 53 (5 * (2 * n + c) + k) 0 = me_N (8 * p + i) := hM.q1 (2 * n + c) k 0 (p, i, ci) (by omega) hk (by rw [hq]; rfl)
  have z3 : μ 57 (5 * (2 * n + c) + k) 0 = me_N ci := hM.q3 (2 * n + c) k 0 (p, i, ci) (by omega) hk (by rw [hq]; rfl)
  have zd : me_N (8 * p + i) / (8 : Int32) = me_N p := by
    rw [me_N_8, me_N_div (by omega) (by omega) (by omega)]
    congr 1
    omega
  have zr : me_rem (me_N (8 * p + i)) (8 : Int32) = me_N i := by
    rw [me_N_8, me_N_rem (by omega) (by omega) (by omega)]
    congr 1
    omega
  unfold f_M_gives
  simp only [me_gd_n (show n < 2147483648 by omega) hn, me_gd_n (show c < 2147483648 by omega) hc, me_gd_n (show k < 2147483648 by omega) hk, me_N_ix (show n < 2147483648 by omega), me_N_ix (show c < 2147483648 by omega), me_N_ix (show k < 2147483648 by omega), hs, hM.rg (2 * n + c) k (by omega) hk, hM.bt, z1, z3, me_lt_s, zd, zr]
  rw [if_neg (by rw [hq, me_N_0, me_N_inj (by rw [List.length_cons]; omega) (by omega), List.length_cons]; omega), show (1 : Int32) = me_N 1 from rfl, me_N_add, if_neg h1, if_neg h2]
  have tail : ∀ s0 : Int32, f_M_gives_b89 μ (me_N n) (me_N c) (me_N k) O (me_N (8 * p + i)) (me_N p) s0 = f_M_gives_b111 μ (me_N n) (me_N c) (me_N k) O (me_N (8 * p + i)) (me_N p) s0 (me_bi (decide (i = a.bo p))) := fun s0 => by
    unfold f_M_gives_b89
    rw [me_gd_n (by omega) f3, zr, me_N_ix (by omega), hM.bo p f2]
    by_cases g : i = a.bo p
    · rw [if_pos (by rw [g]), decide_eq_true g]
      rfl
    · rw [if_neg (by rw [me_N_inj (by omega) (by omega)]; exact g), decide_eq_false g]
      rfl
  by_cases hi : i = 0
  · rw [if_pos (by rw [hi]; rfl), if_pos hi]
    show f_M_gives_b89 μ (me_N n) (me_N c) (me_N k) O (me_N (8 * p + i)) (me_N p) 1 = f_M_gives_b144 μ (me_N n) (me_N c) (me_N k) O (me_N (8 * p + i)) (me_N p) 1 _ _
    rw [tail]
    unfold f_M_gives_b111
    rw [if_neg (by decide), me_gd_n (by omega) f3, me_N_ix (by omega), hM.gl p f2, m_side hM hI (by omega) f8 hc, me_bd_s]
    unfold gh_sd
    rw [if_pos hi, e10, ech]
  · have e := (gh_sdB hI hq hi).1
    have zh : μ 66 (2 * n + c) k = me_N (gh_sd a (5 * (2 * n + c) + k) p i) := by
      rcases hM.rh (2 * n + c) k (by omega) hk with r | r
      · rw [e] at r
        cases r
      · rw [r, e]
        rfl
    rw [if_neg (by rw [me_N_0, me_N_inj (by omega) (by omega)]; exact hi), if_neg hi, tail]
    unfold f_M_gives_b111
    rw [if_pos (by rfl), me_gd_n (by omega) hn, me_gd_n (by omega) hc, me_gd_n (by omega) hk, me_N_ix (by omega), me_N_ix (by omega), me_N_ix (by omega), zh]
