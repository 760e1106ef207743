/-! sources put, side by side -/
/-- the packet j is yet to be put in by the core n, by the channel c -/
def gh_yp (a : me_S) (n c j : Nat) : Prop := a.sr j = n ∧ me_ch (a.kd j) = c ∧ a.pt j ≤ a.bo j ∧ ¬ a.st j = 108
theorem y_yet {a : me_S} {μ : me_M} (hC : me_RC a μ) (hI : me_Iv a) {j : Nat} (hj : j < a.np) : f_Packet_isYetToPut μ j = some (if a.pt j ≤ a.bo j ∧ ¬ a.st j = 108 then 1 else 0) := by
  have h1 := (hI.2.1.ipt j hj).2
  have h2 := hI.2.1.ibo j hj
  unfold f_Packet_isYetToPut
  rw [hC.bo j hj, hC.pt, hC.st]
  by_cases e : a.pt j ≤ a.bo j
  · rw [if_neg (by rw [me_N_le (by omega) (by omega)]; omega)]
    by_cases g : a.st j = 108
    · rw [if_pos g, if_neg (fun q => q.2 g)]
    · rw [if_neg g, if_pos ⟨e, g⟩]
  · rw [if_pos (by rw [me_N_le (by omega) (by omega)]; omega), if_neg (fun q => e q.1)]
theorem y_fput {a : me_S} {μ : me_M} (hC : me_RC a μ) (hI : me_Iv a) {n c : Nat} (hn : n < a.w * a.h) (hc : c < 2) : ∀ (d f j : Nat), j + d = a.np → d < f → ∃ F, j ≤ F ∧ F ≤ a.np ∧ (∀ i, j ≤ i → i < F → ¬ gh_yp a n c i) ∧ (F < a.np → gh_yp a n c F) ∧ f_Mover_firstToPut_h8 f μ n (me_N n) (me_N c) (me_N j) = f_Mover_firstToPut_b67 μ n (me_N c) (me_N F) := by
  have hnp := hI.n200
  have hwh := hI.wh
  intro d
  induction d with
  | zero =>
    intro f j h1 h2
    obtain ⟨f, rfl⟩ : ∃ g, f = g + 1 := ⟨f - 1, by omega⟩
    refine ⟨j, Nat.le_refl _, by omega, fun i a b => by omega, fun q => by omega, ?_⟩
    show f_Mover_firstToPut_b8 _ _ _ _ _ _ = _
    unfold f_Mover_firstToPut_b8
    rw [hC.np, if_pos (by rw [me_N_le (by omega) (by omega)]; omega)]
  | succ d ih =>
    intro f j h1 h2
    obtain ⟨f, rfl⟩ : ∃ g, f = g + 1 := ⟨f - 1, by omega⟩
    have hsr := hI.2.1.isr j (by omega)
    have hch := me_ch_lt (a.kd j)
    have eqn : f_Mover_firstToPut_h8 (f + 1) μ n (me_N n) (me_N c) (me_N j) = if a.sr j = n then (if me_ch (a.kd j) = c then (if a.pt j ≤ a.bo j ∧ ¬ a.st j = 108 then f_Mover_firstToPut_b67 μ n (me_N c) (me_N j) else f_Mover_firstToPut_h8 f μ n (me_N n) (me_N c) (me_N (j + 1))) else f_Mover_firstToPut_h8 f μ n (me_N n) (me_N c) (me_N (j + 1))) else f_Mover_firstToPut_h8 f μ n (me_N n) (me_N c) (me_N (j + 1)) := by
      show f_Mover_firstToPut_b8 _ _ _ _ _ _ = _
      unfold f_Mover_firstToPut_b8
      rw [hC.np, if_neg (by rw [me_N_le (by omega) (by omega)]; omega), me_gd_n (by omega) (by omega), me_N_ix (by omega), hC.sr, y_chan hC, me_bd_s, y_yet hC hI (by omega), me_bd_s, me_N_inc, me_lt_s]
      simp only [me_N_inj (show a.sr j < 2147483648 by omega) (show n < 2147483648 by omega), me_N_inj (show me_ch (a.kd j) < 2147483648 by omega) (show c < 2147483648 by omega)]
      by_cases g1 : a.sr j = n
      · rw [if_pos g1, if_pos g1]
        by_cases g2 : me_ch (a.kd j) = c
        · rw [if_pos g2, if_pos g2]
          by_cases g3 : a.pt j ≤ a.bo j ∧ ¬ a.st j = 108
          · rw [if_pos g3, if_pos g3, if_neg (by decide)]
          · rw [if_neg g3, if_neg g3, if_pos (by rfl)]
        · rw [if_neg g2, if_neg g2]
      · rw [if_neg g1, if_neg g1]
    have nxt : ¬ gh_yp a n c j → ∃ F, j ≤ F ∧ F ≤ a.np ∧ (∀ i, j ≤ i → i < F → ¬ gh_yp a n c i) ∧ (F < a.np → gh_yp a n c F) ∧ f_Mover_firstToPut_h8 f μ n (me_N n) (me_N c) (me_N (j + 1)) = f_Mover_firstToPut_b67 μ n (me_N c) (me_N F) := fun hno => by
      obtain ⟨F, k1, k2, k3, k4, k5⟩ := ih f (j + 1) (by omega) (by omega)
      refine ⟨F, by omega, k2, fun i i1 i2 => ?_, k4, k5⟩
      by_cases e : i = j
      · rw [e]
        exact hno
      · exact k3 i (by omega) i2
    rw [eqn]
    by_cases g1 : a.sr j = n
    · rw [if_pos g1]
      by_cases g2 : me_ch (a.kd j) = c
      · rw [if_pos g2]
        by_cases g3 : a.pt j ≤ a.bo j ∧ ¬ a.st j = 108
        · rw [if_pos g3]
          exact ⟨j, Nat.le_refl _, by omega, fun i a b => by omega, fun _ => ⟨g1, g2, g3.1, g3.2⟩, rfl⟩
        · rw [if_neg g3]
          exact nxt (fun q => g3 ⟨q.2.2.1, q.2.2.2⟩)
      · rw [if_neg g2]
        exact nxt (fun q => g2 q.2.1)
    · rw [if_neg g1]
      exact nxt (fun q => g1 q.1)
/-- the first that is yet to be put in, from d on -/
def gh_fo (a : me_S) (n c d : Nat) (o : Option Nat) : Prop := (∀ i, d ≤ i → i < a.np → gh_yp a n c i → ∃ F, o = some F ∧ F ≤ i) ∧ ∀ F, o = some F → d ≤ F ∧ F < a.np ∧ gh_yp a n c F
theorem m_fput {a : me_S} {ν : me_M} (hM : me_RM a ν) (hI : me_Iv a) {n c : Nat} (hn : n < a.w * a.h) (hc : c < 2) : ∀ (d f : Nat) (o : Option Nat), d ≤ a.np → d < f → gh_fo a n c d o → ∃ o', gh_fo a n c 0 o' ∧ f_M_puts_h10 f ν (me_N n) (me_N c) (me_Op o) (me_N d - 1) = f_M_puts_b10 (fun _ _ _ _ _ => none) ν (me_N n) (me_N c) (me_Op o') (-1) := by
  have hnp := hI.n200
  have hwh := hI.wh
  intro d
  induction d with
  | zero =>
    intro f o h1 h2 ho
    obtain ⟨f, rfl⟩ : ∃ g, f = g + 1 := ⟨f - 1, by omega⟩
    refine ⟨o, ho, ?_⟩
    show f_M_puts_b10 _ _ _ _ _ _ = _
    unfold f_M_puts_b10
    rw [if_pos (show me_N 0 - 1 < 0 by decide), if_pos (show (-1 : Int32) < 0 by decide)]
  | succ d ih =>
    intro f o h1 h2 ho
    obtain ⟨f, rfl⟩ : ∃ g, f = g + 1 := ⟨f - 1, by omega⟩
    have hsr := hI.2.1.isr d (by omega)
    have h5 := (hI.2.1.ipt d (by omega)).2
    have h6 := hI.2.1.ibo d (by omega)
    have hch := me_ch_lt (a.kd d)
    have e1 : me_N (d + 1) - 1 = me_N d := by rw [me_N_1, me_N_sub (by omega), Nat.add_sub_cancel]
    have e43 : ∀ s0 : Nat, s0 < 2 → s0 = me_ch (a.kd d) → a.sr d = n → f_M_puts_b43 (f_M_puts_h10 f) ν (me_N n) (me_N c) (me_Op o) (me_N d) (me_N s0) = (@ite _ (gh_yp a n c d) (Classical.propDecidable _) (f_M_puts_h10 f ν (me_N n) (me_N c) (me_N d) (me_N d - 1)) (f_M_puts_h10 f ν (me_N n) (me_N c) (me_Op o) (me_N d - 1))) := fun s0 hs0 es esr => by
      unfold f_M_puts_b43 f_M_puts_b80 f_M_puts_b81
      simp only [me_N_inj (show s0 < 2147483648 by omega) (show c < 2147483648 by omega), me_gd_n (show d < 2147483648 by omega) (show d < 200 by omega), me_N_ix (show d < 2147483648 by omega), hM.st d (by omega), hM.bo d (by omega), hM.pt d (by omega), me_N_lt (show a.bo d < 2147483648 by omega) (show a.pt d < 2147483648 by omega), me_inc_m1, me_lt_s]
      by_cases g2 : s0 = c
      · rw [if_pos g2]
        by_cases g3 : a.st d = 108
        · rw [if_pos g3, if_pos trivial, if_neg (fun (q : gh_yp a n c d) => q.2.2.2 g3)]
        · rw [if_neg g3]
          by_cases g4 : a.bo d < a.pt d
          · rw [if_pos g4, if_pos trivial, if_neg (fun (q : gh_yp a n c d) => by have := q.2.2.1; omega)]
          · rw [if_neg g4, if_neg (show ¬ (1 : Int32) = 0 by decide), if_pos (show gh_yp a n c d from ⟨esr, es.symm.trans g2, by omega, g3⟩)]
      · rw [if_neg g2, if_pos trivial, if_neg (fun (q : gh_yp a n c d) => g2 (es.trans q.2.1))]
    have eqn : f_M_puts_h10 (f + 1) ν (me_N n) (me_N c) (me_Op o) (me_N (d + 1) - 1) = (@ite _ (gh_yp a n c d) (Classical.propDecidable _) (f_M_puts_h10 f ν (me_N n) (me_N c) (me_N d) (me_N d - 1)) (f_M_puts_h10 f ν (me_N n) (me_N c) (me_Op o) (me_N d - 1))) := by
      rw [e1]
      show f_M_puts_b10 _ _ _ _ _ _ = _
      unfold f_M_puts_b10
      rw [if_neg (me_N_nneg (by omega)), me_gd_n (by omega) (by omega), me_N_ix (by omega), hM.sr d (by omega), hM.kd d (by omega)]
      by_cases g1 : a.sr d = n
      · rw [if_pos (by rw [g1]), me_gd_n (by omega) (by omega)]
        by_cases g2 : a.kd d = 97
        · rw [if_pos g2]
          exact e43 1 (by decide) (by unfold me_ch; rw [if_pos g2]) g1
        · rw [if_neg g2]
          exact e43 0 (by decide) (by unfold me_ch; rw [if_neg g2]) g1
      · rw [if_neg (by rw [me_N_inj (by omega) (by omega)]; exact g1), if_neg (fun (q : gh_yp a n c d) => g1 q.1)]
        unfold f_M_puts_b80 f_M_puts_b81
        rw [if_pos (by rfl), me_inc_m1, me_lt_s]
    rw [eqn]
    by_cases g : gh_yp a n c d
    · rw [if_pos g]
      refine ih f (some d) (by omega) (by omega) ⟨fun i h1 h2 h3 => ⟨d, rfl, h1⟩, fun F e => ?_⟩
      have e := Option.some.inj e
      rw [← e]
      exact ⟨Nat.le_refl _, by omega, g⟩
    · rw [if_neg g]
      refine ih f o (by omega) (by omega) ⟨fun i h1 h2 h3 => ?_, fun F e => ?_⟩
      · by_cases ei : i = d
        · rw [ei] at h3
          exact absurd h3 g
        · exact ho.1 i (by omega) h2 h3
      · obtain ⟨q1, q2, q3⟩ := ho.2 F e
        exact ⟨by omega, q2, q3⟩
theorem bb_mv {a b : me_S} {W : Nat → Bool} {v v' : Int32} {μ ν : me_M} (hX : bb_X a b W v v' μ ν) : bb_F a a μ (me_up μ 30 0 7 1) ν ν ∧ bb_X a b W 1 v' (me_up μ 30 0 7 1) ν := by
  obtain ⟨hC, hM, hI, h4, h5, h6, h7, h8, h9⟩ := hX
  refine ⟨⟨rfl, rfl, rfl, rfl, fun k hk => ?_, fun _ _ => rfl, rfl⟩, hC.w_mv 1, hM, hI, ?_, me_up_at, h6, fun n hn => ?_, h8, h9⟩
  · funext i j
    rw [me_up_kn (by omega)]
  · rw [me_up_jn (by decide)]
    exact h4
  · rw [me_up_kn (by decide)]
    exact h7 n hn
/-- a packet's state as its next piece is put in -/
def gh_ph (a : me_S) (p : Nat) : me_S := if a.pt p = 0 then me_S.s_hd (me_S.s_st a (me_fu a.st p 119)) (me_fu a.hd p (some (a.sr p))) else a
def gh_pu (a : me_S) (p r : Nat) : me_S := me_S.s_pt (me_S.s_q a (me_fu a.q r (a.q r ++ [(p, a.pt p, a.bt + 1)]))) (me_fu a.pt p (a.pt p + 1))
theorem gh_iv_pu {a b : me_S} (hI : me_Iv a) {p r : Nat} (hp : p < a.np) (hr : r = me_cr a.kd a.sr p) (hb : a.pt p ≤ a.bo p) (hl : ¬ a.st p = 108) (haw : a.aw (a.sr p) = true) (hfst : ∀ j, j < p → ¬ gh_yp a (a.sr p) (me_ch (a.kd p)) j) (hlen : (a.q r).length < 4) (hfp : a.fp (2 * a.sr p + me_ch (a.kd p)) ≤ p) (e0 : b.w = a.w ∧ b.h = a.h ∧ b.rp = a.rp ∧ b.wy = a.wy ∧ b.fl = a.fl) (e1 : b.np = a.np ∧ b.bt = a.bt ∧ b.kd = a.kd ∧ b.sr = a.sr ∧ b.gl = a.gl ∧ b.bo = a.bo ∧ b.tk = a.tk ∧ b.ma = a.ma ∧ b.pl = a.pl ∧ b.an = a.an) (e2 : b.dp = a.dp ∧ b.ln = a.ln ∧ b.ca = a.ca ∧ b.co = a.co ∧ b.fa = a.fa ∧ b.nm = a.nm ∧ b.nu = a.nu ∧ b.nt = a.nt ∧ b.tn = a.tn ∧ b.tr = a.tr) (e3 : b.aw = a.aw ∧ b.fp = a.fp ∧ b.lr = a.lr ∧ b.rg = a.rg ∧ b.ro = a.ro ∧ b.rh = a.rh ∧ b.dn = a.dn ∧ b.ow = a.ow) (hq' : b.q = me_fu a.q r (a.q r ++ [(p, a.pt p, a.bt + 1)])) (hst' : ∀ p', b.st p' = if p' = p then 119 else a.st p') (hpt' : ∀ p', b.pt p' = if p' = p then a.pt p + 1 else a.pt p') (hhd' : ∀ p', b.hd p' = if p' = p ∧ a.pt p = 0 then some (a.sr p) else a.hd p') : me_Iv b := by
  have hwh := hI.wh
  obtain ⟨h0, hP, hC, hT, hW, hF, hlr, hrg0, hfp0⟩ := hI
  have hs : a.st p = 115 ∨ a.st p = 119 := by
    have ht := (hP.ipt p hp).1
    rcases hP.ist p hp with q | q | q | q | q
    · exact Or.inl q
    · exact Or.inr q
    · have := hP.is2 p hp (Or.inl q)
      omega
    · have := hP.is2 p hp (Or.inr q)
      omega
    · exact absurd q hl
  have kfst : ∀ j, j < p → a.sr j = a.sr p → me_ch (a.kd j) = me_ch (a.kd p) → a.pt j = a.bo j + 1 ∨ a.st j = 108 := fun j hj g1 g2 => by
    have h1 := (hP.ipt j (by omega)).2
    by_cases g3 : a.st j = 108
    · exact Or.inr g3
    · left
      by_cases g4 : a.pt j ≤ a.bo j
      · exact absurd ⟨g1, g2, g4, g3⟩ (hfst j hj)
      · omega
  have kW := hW.put hwh.1 hp hr hb hs (hP.is0 p hp) (fun j hj => hP.is1 j hj) (hP.ipt p hp).1 (hP.isr p hp) haw kfst hst' hpt' hhd' hlen (c' := a.bt + 1)
  have kP := hP.put hp hs hb hst' hpt'
  obtain ⟨w1, w2, w3, w4, w5⟩ := e0
  obtain ⟨x1, x2, x3, x4, x5, x6, x7, x8, x9, x10⟩ := e1
  obtain ⟨y1, y2, y3, y4, y5, y6, y7, y8, y9, y10⟩ := e2
  obtain ⟨z1, z2, z3, z4, z5, z6, z7, z8⟩ := e3
  unfold me_Iv
  simp only [w1, w2, w3, w4, w5, x1, x2, x3, x4, x5, x6, x7, x8, x9, x10, y1, y2, y3, y4, y5, y6, y7, y8, y9, y10, z1, z2, z3, z4, z5, z6, z7, z8, hq']
  refine ⟨h0, kP, hC, hT, kW, fun n c' j g1 g2 g3 g4 => ?_, hlr, hrg0, hfp0⟩
  have ej : ¬ j = p := fun e => by
    rw [e] at g1 g3 g4
    rw [← g3, ← g4] at g1
    omega
  rw [hpt', if_neg ej, hst', if_neg ej]
  exact hF n c' j g1 g2 g3 g4
theorem gh_iv_fp {a : me_S} (hI : me_Iv a) {n c F : Nat} (hc : c < 2) (hF : F ≤ a.np) (h1 : ∀ i, a.fp (2 * n + c) ≤ i → i < F → ¬ gh_yp a n c i) : me_Iv (me_S.s_fp a (me_fu a.fp (2 * n + c) F)) := by
  obtain ⟨h0, hP, hC, hT, hW, hIF, hlr, hrg0, hfp0⟩ := hI
  refine ⟨h0, hP, hC, hT, hW, fun n' c' j g1 g2 g3 g4 => ?_, hlr, hrg0, fun b => ?_⟩
  · have g1 : j < me_fu a.fp (2 * n + c) F (2 * n' + c') := g1
    have hc' : c' < 2 := by rw [← g4]; exact me_ch_lt _
    rw [me_fu_ap] at g1
    by_cases e : 2 * n' + c' = 2 * n + c
    · rw [if_pos e] at g1
      have en : n' = n := by omega
      have ec : c' = c := by omega
      by_cases h : j < a.fp (2 * n + c)
      · exact hIF n' c' j (by rw [e]; exact h) g2 g3 g4
      · have hno := h1 j (by omega) g1
        have h2 := (hP.ipt j g2).2
        by_cases g5 : a.st j = 108
        · exact Or.inr g5
        · left
          by_cases g6 : a.pt j ≤ a.bo j
          · exact absurd ⟨g3.trans en, g4.trans ec, g6, g5⟩ hno
          · have h2 : a.pt j ≤ a.bo j + 1 := h2
            show a.pt j = a.bo j + 1
            omega
    · rw [if_neg e] at g1
      exact hIF n' c' j g1 g2 g3 g4
  · show me_fu a.fp (2 * n + c) F b ≤ a.np
    rw [me_fu_ap]
    split
    · exact hF
    · exact hfp0 b
