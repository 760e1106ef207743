/-! FROM THE ROWS OF whole that speak of the class alone (taken out by gen/extract.py) -/
theorem gh_iv_aq {a : me_S} (hI : me_Iv (me_S.s_ow a (a.ow - 1))) {p : Nat} (h1 : 1 ≤ a.ow) (hn : a.np + a.ow ≤ 200) (hs : a.sr p < a.w * a.h) (hg : a.gl p < a.w * a.h) : me_Iv (gh_aq a p) := by
  have h2 : me_Iv (gh_aw a p) := ⟨hI.1, hI.2.1, hI.2.2.1, hI.2.2.2.1, hI.2.2.2.2.1, hI.2.2.2.2.2.1, hI.2.2.2.2.2.2.1, hI.2.2.2.2.2.2.2.1, hI.2.2.2.2.2.2.2.2⟩
  have hr : (gh_aw a p).np + 1 + (gh_aw a p).ow ≤ 200 := by
    show a.np + 1 + (a.ow - 1) ≤ 200
    omega
  have h3 := gh_iv0 h2 (k := 97) (s := a.gl p) (g := a.sr p) (w := a.mm (a.gl p) (a.pl p)) (b := 1) (Or.inr rfl) hr hg hs ⟨Nat.le_refl _, by omega⟩
  exact gh_iv_an h3 (j := a.np) (Nat.lt_succ_self a.np)
theorem me_nb_ne {w h n d n' : Nat} (hw : 1 ≤ w) (e : me_nb w h n d = some n') : ¬ n' = n := by
  have h1 : n % w ≤ n := Nat.mod_le _ _
  have h2 : n / w ≤ n := Nat.div_le_self _ _
  unfold me_nb at e
  split at e
  · split at e
    · have := Option.some.inj e
      omega
    · cases e
  · split at e
    · have := Option.some.inj e
      omega
    · cases e
  · split at e
    · have := Option.some.inj e
      omega
    · cases e
  · split at e
    · have := Option.some.inj e
      omega
    · cases e
  · cases e
theorem me_sm_0 {g : Nat → Nat} : ∀ (d i : Nat), me_sm g i d = 0 → ∀ j, i ≤ j → j < i + d → g j = 0 := by
  intro d
  induction d with
  | zero => intro i h j h1 h2; omega
  | succ d ih =>
    intro i h j h1 h2
    have h : g i + me_sm g (i + 1) d = 0 := h
    by_cases e : j = i
    · rw [e]
      omega
    · exact ih (i + 1) (by omega) j (by omega) (by omega)
/-- the packet j is yet to be put in by the core n, by the channel c -/
def gh_yp (a : me_S) (n c j : Nat) : Prop := a.sr j = n ∧ me_ch (a.kd j) = c ∧ a.pt j ≤ a.bo j ∧ ¬ a.st j = 108
theorem y_yet {a : me_S} {μ : me_M} (hC : me_RC a μ) (hI : me_Iv a) {j : Nat} (hj : j < a.np) : f_Packet_isYetToPut μ j = some (if a.pt j ≤ a.bo j ∧ ¬ a.st j = 108 then 1 else 0) := by
  have h1 := (hI.2.1.ipt j hj).2
  have h2 := hI.2.1.ibo j hj
  unfold f_Packet_isYetToPut
  rw [hC.bo j hj, hC.pt, hC.st]
  by_cases e : a.pt j ≤ a.bo j
  · rw [if_neg (by rw [me_N_le (by omega) (by omega)]; omega)]
    by_cases g : a.st j = 108
    · rw [if_pos g, if_neg (fun q => q.2 g)]
    · rw [if_neg g, if_pos ⟨e, g⟩]
  · rw [if_pos (by rw [me_N_le (by omega) (by omega)]; omega), if_neg (fun q => e q.1)]
theorem y_fput {a : me_S} {μ : me_M} (hC : me_RC a μ) (hI : me_Iv a) {n c : Nat} (hn : n < a.w * a.h) (hc : c < 2) : ∀ (d f j : Nat), j + d = a.np → d < f → ∃ F, j ≤ F ∧ F ≤ a.np ∧ (∀ i, j ≤ i → i < F → ¬ gh_yp a n c i) ∧ (F < a.np → gh_yp a n c F) ∧ f_Mover_firstToPut_h8 f μ n (me_N n) (me_N c) (me_N j) = f_Mover_firstToPut_b67 μ n (me_N c) (me_N F) := by
  have hnp := hI.n200
  have hwh := hI.wh
  intro d
  induction d with
  | zero =>
    intro f j h1 h2
    obtain ⟨f, rfl⟩ : ∃ g, f = g + 1 := ⟨f - 1, by omega⟩
    refine ⟨j, Nat.le_refl _, by omega, fun i a b => by omega, fun q => by omega, ?_⟩
    show f_Mover_firstToPut_b8 _ _ _ _ _ _ = _
    unfold f_Mover_firstToPut_b8
    rw [hC.np, if_pos (by rw [me_N_le (by omega) (by omega)]; omega)]
  | succ d ih =>
    intro f j h1 h2
    obtain ⟨f, rfl⟩ : ∃ g, f = g + 1 := ⟨f - 1, by omega⟩
    have hsr := hI.2.1.isr j (by omega)
    have hch := me_ch_lt (a.kd j)
    have eqn : f_Mover_firstToPut_h8 (f + 1) μ n (me_N n) (me_N c) (me_N j) = if a.sr j = n then (if me_ch (a.kd j) = c then (if a.pt j ≤ a.bo j ∧ ¬ a.st j = 108 then f_Mover_firstToPut_b67 μ n (me_N c) (me_N j) else f_Mover_firstToPut_h8 f μ n (me_N n) (me_N c) (me_N (j + 1))) else f_Mover_firstToPut_h8 f μ n (me_N n) (me_N c) (me_N (j + 1))) else f_Mover_firstToPut_h8 f μ n (me_N n) (me_N c) (me_N (j + 1)) := by
      show f_Mover_firstToPut_b8 _ _ _ _ _ _ = _
      unfold f_Mover_firstToPut_b8
      rw [hC.np, if_neg (by rw [me_N_le (by omega) (by omega)]; omega), me_gd_n (by omega) (by omega), me_N_ix (by omega), hC.sr, y_chan hC, me_bd_s, y_yet hC hI (by omega), me_bd_s, me_N_inc, me_lt_s]
      simp only [me_N_inj (show a.sr j < 2147483648 by omega) (show n < 2147483648 by omega), me_N_inj (show me_ch (a.kd j) < 2147483648 by omega) (show c < 2147483648 by omega)]
      by_cases g1 : a.sr j = n
      · rw [if_pos g1, if_pos g1]
        by_cases g2 : me_ch (a.kd j) = c
        · rw [if_pos g2, if_pos g2]
          by_cases g3 : a.pt j ≤ a.bo j ∧ ¬ a.st j = 108
          · rw [if_pos g3, if_pos g3, if_neg (by decide)]
          · rw [if_neg g3, if_neg g3, if_pos (by rfl)]
        · rw [if_neg g2, if_neg g2]
      · rw [if_neg g1, if_neg g1]
    have nxt : ¬ gh_yp a n c j → ∃ F, j ≤ F ∧ F ≤ a.np ∧ (∀ i, j ≤ i → i < F → ¬ gh_yp a n c i) ∧ (F < a.np → gh_yp a n c F) ∧ f_Mover_firstToPut_h8 f μ n (me_N n) (me_N c) (me_N (j + 1)) = f_Mover_firstToPut_b67 μ n (me_N c) (me_N F) := fun hno => by
      obtain ⟨F, k1, k2, k3, k4, k5⟩ := ih f (j + 1) (by omega) (by omega)
      refine ⟨F, by omega, k2, fun i i1 i2 => ?_, k4, k5⟩
      by_cases e : i = j
      · rw [e]
        exact hno
      · exact k3 i (by omega) i2
    rw [eqn]
    by_cases g1 : a.sr j = n
    · rw [if_pos g1]
      by_cases g2 : me_ch (a.kd j) = c
      · rw [if_pos g2]
        by_cases g3 : a.pt j ≤ a.bo j ∧ ¬ a.st j = 108
        · rw [if_pos g3]
          exact ⟨j, Nat.le_refl _, by omega, fun i a b => by omega, fun _ => ⟨g1, g2, g3.1, g3.2⟩, rfl⟩
        · rw [if_neg g3]
          exact nxt (fun q => g3 ⟨q.2.2.1, q.2.2.2⟩)
      · rw [if_neg g2]
        exact nxt (fun q => g2 q.2.1)
    · rw [if_neg g1]
      exact nxt (fun q => g1 q.1)
def gh_pu (a : me_S) (p r : Nat) : me_S := me_S.s_pt (me_S.s_q a (me_fu a.q r (a.q r ++ [(p, a.pt p, a.bt + 1)]))) (me_fu a.pt p (a.pt p + 1))
theorem gh_iv_pu {a b : me_S} (hI : me_Iv a) {p r : Nat} (hp : p < a.np) (hr : r = me_cr a.kd a.sr p) (hb : a.pt p ≤ a.bo p) (hl : ¬ a.st p = 108) (haw : a.aw (a.sr p) = true) (hfst : ∀ j, j < p → ¬ gh_yp a (a.sr p) (me_ch (a.kd p)) j) (hlen : (a.q r).length < 4) (hfp : a.fp (2 * a.sr p + me_ch (a.kd p)) ≤ p) (e0 : b.w = a.w ∧ b.h = a.h ∧ b.rp = a.rp ∧ b.wy = a.wy ∧ b.fl = a.fl) (e1 : b.np = a.np ∧ b.bt = a.bt ∧ b.kd = a.kd ∧ b.sr = a.sr ∧ b.gl = a.gl ∧ b.bo = a.bo ∧ b.tk = a.tk ∧ b.ma = a.ma ∧ b.pl = a.pl ∧ b.an = a.an) (e2 : b.dp = a.dp ∧ b.ln = a.ln ∧ b.ca = a.ca ∧ b.co = a.co ∧ b.fa = a.fa ∧ b.nm = a.nm ∧ b.nu = a.nu ∧ b.nt = a.nt ∧ b.tn = a.tn ∧ b.tr = a.tr) (e3 : b.aw = a.aw ∧ b.fp = a.fp ∧ b.lr = a.lr ∧ b.rg = a.rg ∧ b.ro = a.ro ∧ b.rh = a.rh ∧ b.dn = a.dn ∧ b.ow = a.ow) (hq' : b.q = me_fu a.q r (a.q r ++ [(p, a.pt p, a.bt + 1)])) (hst' : ∀ p', b.st p' = if p' = p then 119 else a.st p') (hpt' : ∀ p', b.pt p' = if p' = p then a.pt p + 1 else a.pt p') (hhd' : ∀ p', b.hd p' = if p' = p ∧ a.pt p = 0 then some (a.sr p) else a.hd p') : me_Iv b := by
  have hwh := hI.wh
  obtain ⟨h0, hP, hC, hT, hW, hF, hlr, hrg0, hfp0⟩ := hI
  have hs : a.st p = 115 ∨ a.st p = 119 := by
    have ht := (hP.ipt p hp).1
    rcases hP.ist p hp with q | q | q | q | q
    · exact Or.inl q
    · exact Or.inr q
    · have := hP.is2 p hp (Or.inl q)
      omega
    · have := hP.is2 p hp (Or.inr q)
      omega
    · exact absurd q hl
  have kfst : ∀ j, j < p → a.sr j = a.sr p → me_ch (a.kd j) = me_ch (a.kd p) → a.pt j = a.bo j + 1 ∨ a.st j = 108 := fun j hj g1 g2 => by
    have h1 := (hP.ipt j (by omega)).2
    by_cases g3 : a.st j = 108
    · exact Or.inr g3
    · left
      by_cases g4 : a.pt j ≤ a.bo j
      · exact absurd ⟨g1, g2, g4, g3⟩ (hfst j hj)
      · omega
  have kW := hW.put hwh.1 hp hr hb hs (hP.is0 p hp) (fun j hj => hP.is1 j hj) (hP.ipt p hp).1 (hP.isr p hp) haw kfst hst' hpt' hhd' hlen (c' := a.bt + 1)
  have kP := hP.put hp hs hb hst' hpt'
  obtain ⟨w1, w2, w3, w4, w5⟩ := e0
  obtain ⟨x1, x2, x3, x4, x5, x6, x7, x8, x9, x10⟩ := e1
  obtain ⟨y1, y2, y3, y4, y5, y6, y7, y8, y9, y10⟩ := e2
  obtain ⟨z1, z2, z3, z4, z5, z6, z7, z8⟩ := e3
  unfold me_Iv
  simp only [w1, w2, w3, w4, w5, x1, x2, x3, x4, x5, x6, x7, x8, x9, x10, y1, y2, y3, y4, y5, y6, y7, y8, y9, y10, z1, z2, z3, z4, z5, z6, z7, z8, hq']
  refine ⟨h0, kP, hC, hT, kW, fun n c' j g1 g2 g3 g4 => ?_, hlr, hrg0, hfp0⟩
  have ej : ¬ j = p := fun e => by
    rw [e] at g1 g3 g4
    rw [← g3, ← g4] at g1
    omega
  rw [hpt', if_neg ej, hst', if_neg ej]
  exact hF n c' j g1 g2 g3 g4
theorem gh_iv_fp {a : me_S} (hI : me_Iv a) {n c F : Nat} (hc : c < 2) (hF : F ≤ a.np) (h1 : ∀ i, a.fp (2 * n + c) ≤ i → i < F → ¬ gh_yp a n c i) : me_Iv (me_S.s_fp a (me_fu a.fp (2 * n + c) F)) := by
  obtain ⟨h0, hP, hC, hT, hW, hIF, hlr, hrg0, hfp0⟩ := hI
  refine ⟨h0, hP, hC, hT, hW, fun n' c' j g1 g2 g3 g4 => ?_, hlr, hrg0, fun b => ?_⟩
  · have g1 : j < me_fu a.fp (2 * n + c) F (2 * n' + c') := g1
    have hc' : c' < 2 := by rw [← g4]; exact me_ch_lt _
    rw [me_fu_ap] at g1
    by_cases e : 2 * n' + c' = 2 * n + c
    · rw [if_pos e] at g1
      have en : n' = n := by omega
      have ec : c' = c := by omega
      by_cases h : j < a.fp (2 * n + c)
      · exact hIF n' c' j (by rw [e]; exact h) g2 g3 g4
      · have hno := h1 j (by omega) g1
        have h2 := (hP.ipt j g2).2
        by_cases g5 : a.st j = 108
        · exact Or.inr g5
        · left
          by_cases g6 : a.pt j ≤ a.bo j
          · exact absurd ⟨g3.trans en, g4.trans ec, g6, g5⟩ hno
          · have h2 : a.pt j ≤ a.bo j + 1 := h2
            show a.pt j = a.bo j + 1
            omega
    · rw [if_neg e] at g1
      exact hIF n' c' j g1 g2 g3 g4
  · show me_fu a.fp (2 * n + c) F b ≤ a.np
    rw [me_fu_ap]
    split
    · exact hF
    · exact hfp0 b
theorem y_b77 {a : me_S} {μ : me_M} (hC : me_RC a μ) {p r : Nat} (hp : p < 200) (hr : r < 160) (hl : (a.q r).length < 4) (hnow : μ 30 0 6 = me_N (a.bt + 1)) : ∃ μ', f_Mover_putPiece_b77 μ p r = some (me_up μ' 30 0 7 1, ()) ∧ me_RC (gh_pu a p r) μ' ∧ ∀ k, ¬ (k = 8 ∨ (17 ≤ k ∧ k ≤ 20)) → μ' k = μ k := by
  obtain ⟨μ2, d1, d2, d3⟩ := y_add hC (p := p) (i := a.pt p) (g := a.bt + 1) hr hl
  have z7 : μ2 8 p 7 = me_N (a.pt p) := d2.pt p
  refine ⟨me_up μ2 8 p 7 (me_N (a.pt p + 1)), ?_, d2.w_pt p (a.pt p + 1), fun k hk => ?_⟩
  · unfold f_Mover_putPiece_b77
    rw [hC.p0 p hp, hC.pt, hnow, d1, me_b2_s, z7, me_N_1, me_N_add, me_lt_s, me_lt_s]
  · funext i j
    rw [me_up_kn (by omega), d3 k (by omega)]
def gh_ac (a : me_S) (n : Nat) : Prop := a.co n = 114 ∨ a.co n = 119
/-- those at the barrier up to m run on -/
def gh_b1 (a : me_S) (m : Nat) : me_S := me_S.s_ca (me_S.s_co a (fun n => if n < m ∧ a.co n = 98 then 114 else a.co n)) (fun n => if n < m ∧ a.co n = 98 then a.ca n + 1 else a.ca n)
theorem gh_b1_0 {a : me_S} : me_Eq a (gh_b1 a 0) := by
  have e1 : a.co = fun n => if n < 0 ∧ a.co n = 98 then 114 else a.co n := funext fun n => (if_neg (fun q => absurd q.1 (Nat.not_lt_zero _))).symm
  have e2 : a.ca = fun n => if n < 0 ∧ a.co n = 98 then a.ca n + 1 else a.ca n := funext fun n => (if_neg (fun q => absurd q.1 (Nat.not_lt_zero _))).symm
  exact ⟨rfl, rfl, rfl, rfl, rfl, rfl, rfl, rfl, rfl, rfl, rfl, rfl, rfl, rfl, rfl, rfl, rfl, rfl, rfl, rfl, rfl, rfl, rfl, rfl, rfl, rfl, rfl, rfl, rfl, rfl, rfl, rfl, rfl, rfl, rfl, e2, e1, rfl, rfl, rfl, rfl⟩
theorem gh_b1_s {a : me_S} {m : Nat} (h : a.co m = 98) : me_Eq (me_S.s_ca (me_S.s_co (gh_b1 a m) (me_fu (gh_b1 a m).co m 114)) (me_fu (gh_b1 a m).ca m (a.ca m + 1))) (gh_b1 a (m + 1)) := by
  have e1 : me_fu (gh_b1 a m).co m 114 = fun n => if n < m + 1 ∧ a.co n = 98 then 114 else a.co n := by
    funext n
    rw [me_fu_ap]
    by_cases e : n = m
    · rw [if_pos e, if_pos ⟨by omega, by rw [e]; exact h⟩]
    · rw [if_neg e]
      show (if n < m ∧ a.co n = 98 then (114 : Int32) else a.co n) = _
      by_cases g : n < m ∧ a.co n = 98
      · rw [if_pos g, if_pos ⟨by omega, g.2⟩]
      · rw [if_neg g, if_neg (fun q => g ⟨by omega, q.2⟩)]
  have e2 : me_fu (gh_b1 a m).ca m (a.ca m + 1) = fun n => if n < m + 1 ∧ a.co n = 98 then a.ca n + 1 else a.ca n := by
    funext n
    rw [me_fu_ap]
    by_cases e : n = m
    · rw [if_pos e, if_pos ⟨by omega, by rw [e]; exact h⟩, e]
    · rw [if_neg e]
      show (if n < m ∧ a.co n = 98 then a.ca n + 1 else a.ca n) = _
      by_cases g : n < m ∧ a.co n = 98
      · rw [if_pos g, if_pos ⟨by omega, g.2⟩]
      · rw [if_neg g, if_neg (fun q => g ⟨by omega, q.2⟩)]
  exact ⟨rfl, rfl, rfl, rfl, rfl, rfl, rfl, rfl, rfl, rfl, rfl, rfl, rfl, rfl, rfl, rfl, rfl, rfl, rfl, rfl, rfl, rfl, rfl, rfl, rfl, rfl, rfl, rfl, rfl, rfl, rfl, rfl, rfl, rfl, rfl, e2, e1, rfl, rfl, rfl, rfl⟩
theorem me_Eq.re {a : me_S} : me_Eq a a := ⟨rfl, rfl, rfl, rfl, rfl, rfl, rfl, rfl, rfl, rfl, rfl, rfl, rfl, rfl, rfl, rfl, rfl, rfl, rfl, rfl, rfl, rfl, rfl, rfl, rfl, rfl, rfl, rfl, rfl, rfl, rfl, rfl, rfl, rfl, rfl, rfl, rfl, rfl, rfl, rfl, rfl⟩
theorem gh_b1_n {a : me_S} {m : Nat} (h : ¬ a.co m = 98) : me_Eq (gh_b1 a m) (gh_b1 a (m + 1)) := by
  have e1 : (fun n => if n < m ∧ a.co n = 98 then (114 : Int32) else a.co n) = fun n => if n < m + 1 ∧ a.co n = 98 then 114 else a.co n := by
    funext n
    by_cases g : n < m ∧ a.co n = 98
    · rw [if_pos g, if_pos ⟨by omega, g.2⟩]
    · rw [if_neg g, if_neg (fun q => g ⟨by
        by_cases e : n = m
        · rw [e] at q
          exact absurd q.2 h
        · omega, q.2⟩)]
  have e2 : (fun n => if n < m ∧ a.co n = 98 then a.ca n + 1 else a.ca n) = fun n => if n < m + 1 ∧ a.co n = 98 then a.ca n + 1 else a.ca n := by
    funext n
    by_cases g : n < m ∧ a.co n = 98
    · rw [if_pos g, if_pos ⟨by omega, g.2⟩]
    · rw [if_neg g, if_neg (fun q => g ⟨by
        by_cases e : n = m
        · rw [e] at q
          exact absurd q.2 h
        · omega, q.2⟩)]
  have e3 : gh_b1 a m = gh_b1 a (m + 1) := by
    unfold gh_b1
    rw [e1, e2]
  rw [e3]
  exact me_Eq.re
theorem gh_b1_co {a : me_S} {m : Nat} : (gh_b1 a m).co m = a.co m := if_neg (fun q => absurd q.1 (Nat.lt_irrefl _))
theorem gh_b1_ca {a : me_S} {m : Nat} : (gh_b1 a m).ca m = a.ca m := if_neg (fun q => absurd q.1 (Nat.lt_irrefl _))
theorem y_bar34 {a : me_S} (hwh : a.w * a.h ≤ 16) : ∀ (d f m : Nat) (μ : me_M), m + d = a.w * a.h → d < f → me_RC (gh_b1 a m) μ → ∃ μ', f_Works_passBarrier_h34 f μ (me_N m) = some (μ', ()) ∧ me_RC (gh_b1 a (a.w * a.h)) μ' ∧ ∀ k, ¬ k = 22 → μ' k = μ k := by
  intro d
  induction d with
  | zero =>
    intro f m μ h1 h2 hC
    obtain ⟨f, rfl⟩ : ∃ g, f = g + 1 := ⟨f - 1, by omega⟩
    have zn : μ 1 0 4 = me_N (a.w * a.h) := hC.nn
    have em : m = a.w * a.h := by omega
    refine ⟨μ, ?_, em ▸ hC, fun _ _ => rfl⟩
    show f_Works_passBarrier_b34 _ _ _ = _
    unfold f_Works_passBarrier_b34
    rw [zn, if_pos (by rw [me_N_le (by omega) (by omega)]; omega)]
  | succ d ih =>
    intro f m μ h1 h2 hC
    obtain ⟨f, rfl⟩ : ∃ g, f = g + 1 := ⟨f - 1, by omega⟩
    have zn : μ 1 0 4 = me_N (a.w * a.h) := hC.nn
    have zco : μ 22 m 7 = a.co m := (hC.co m (by omega)).trans gh_b1_co
    have zca : μ 22 m 6 = me_N (a.ca m) := (hC.ca m (by omega)).trans (by rw [gh_b1_ca])
    by_cases e : a.co m = 98
    · have c1 : me_RC (gh_b1 a (m + 1)) (me_up (me_up μ 22 m 7 114) 22 m 6 (me_N (a.ca m + 1))) := ((hC.w_co m 114).w_ca m (a.ca m + 1)).eq (gh_b1_s e)
      obtain ⟨μ', k1, k2, k3⟩ := ih f (m + 1) _ (by omega) (by omega) c1
      refine ⟨μ', ?_, k2, fun k hk => ?_⟩
      · show f_Works_passBarrier_b34 _ _ _ = _
        unfold f_Works_passBarrier_b34
        rw [zn, if_neg (by rw [me_N_le (by omega) (by omega)]; omega), me_gd_n (by omega) (by omega), me_N_ix (by omega), zco, if_pos e, me_lt_s, me_up_jn (show ¬ 6 = 7 by decide), zca, me_N_1, me_N_add, me_lt_s, me_N_inc, me_lt_s]
        exact k1
      · rw [k3 k hk]
        funext i j
        rw [me_up_kn hk, me_up_kn hk]
    · obtain ⟨μ', k1, k2, k3⟩ := ih f (m + 1) μ (by omega) (by omega) (hC.eq (gh_b1_n e))
      refine ⟨μ', ?_, k2, k3⟩
      show f_Works_passBarrier_b34 _ _ _ = _
      unfold f_Works_passBarrier_b34
      rw [zn, if_neg (by rw [me_N_le (by omega) (by omega)]; omega), me_gd_n (by omega) (by omega), me_N_ix (by omega), zco, if_neg e, me_N_inc, me_lt_s]
      exact k1
theorem y_bar2 {a : me_S} {μ : me_M} (hC : me_RC a μ) (hwh : a.w * a.h ≤ 16) : ∀ (d f m : Nat), m + d = a.w * a.h → d < f → ((∃ i, m ≤ i ∧ i < a.w * a.h ∧ gh_ac a i) ∧ f_Works_passBarrier_h2 f μ (me_N m) = some (μ, ())) ∨ ((¬ ∃ i, m ≤ i ∧ i < a.w * a.h ∧ gh_ac a i) ∧ f_Works_passBarrier_h2 f μ (me_N m) = f_Works_passBarrier_h34 me_FU μ 0) := by
  intro d
  induction d with
  | zero =>
    intro f m h1 h2
    obtain ⟨f, rfl⟩ : ∃ g, f = g + 1 := ⟨f - 1, by omega⟩
    right
    refine ⟨fun q => by obtain ⟨i, q1, q2, -⟩ := q; omega, ?_⟩
    show f_Works_passBarrier_b2 _ _ _ = _
    unfold f_Works_passBarrier_b2
    rw [hC.nn, if_pos (by rw [me_N_le (by omega) (by omega)]; omega)]
  | succ d ih =>
    intro f m h1 h2
    obtain ⟨f, rfl⟩ : ∃ g, f = g + 1 := ⟨f - 1, by omega⟩
    have eqn : f_Works_passBarrier_h2 (f + 1) μ (me_N m) = if a.co m = 114 then some (μ, ()) else if a.co m = 119 then some (μ, ()) else f_Works_passBarrier_h2 f μ (me_N (m + 1)) := by
      show f_Works_passBarrier_b2 _ _ _ = _
      unfold f_Works_passBarrier_b2 f_Core_isActive f_Core_isActive_b18
      rw [hC.nn, if_neg (by rw [me_N_le (by omega) (by omega)]; omega), me_gd_n (by omega) (by omega), me_N_ix (by omega), hC.co m (by omega), me_N_inc, me_lt_s]
      by_cases e1 : a.co m = 114
      · rw [if_pos e1, if_pos e1, me_bd_s, if_neg (by decide)]
      · rw [if_neg e1, if_neg e1]
        by_cases e2 : a.co m = 119
        · rw [if_pos e2, if_pos e2, me_bd_s, if_neg (by decide)]
        · rw [if_neg e2, if_neg e2, me_bd_s, if_pos (by rfl)]
    rw [eqn]
    by_cases e1 : a.co m = 114
    · left
      exact ⟨⟨m, Nat.le_refl _, by omega, Or.inl e1⟩, if_pos e1⟩
    · by_cases e2 : a.co m = 119
      · left
        exact ⟨⟨m, Nat.le_refl _, by omega, Or.inr e2⟩, by rw [if_neg e1, if_pos e2]⟩
      · rw [if_neg e1, if_neg e2]
        rcases ih f (m + 1) (by omega) (by omega) with ⟨⟨i, q1, q2, q3⟩, q4⟩ | ⟨q1, q2⟩
        · exact Or.inl ⟨⟨i, by omega, q2, q3⟩, q4⟩
        · refine Or.inr ⟨fun q => ?_, q2⟩
          obtain ⟨i, g1, g2, g3⟩ := q
          by_cases e : i = m
          · rw [e] at g3
            exact g3.elim e1 e2
          · exact q1 ⟨i, by omega, g2, g3⟩
/-- after the barrier -/
noncomputable def gh_bar (a : me_S) : me_S := @ite _ (∃ i, i < a.w * a.h ∧ gh_ac a i) (Classical.propDecidable _) a (gh_b1 a (a.w * a.h))
theorem y_bar {a : me_S} {μ : me_M} (hC : me_RC a μ) (hwh : a.w * a.h ≤ 16) : ∃ μ', f_Works_passBarrier μ = some (μ', ()) ∧ me_RC (gh_bar a) μ' ∧ ∀ k, ¬ k = 22 → μ' k = μ k := by
  unfold gh_bar
  rcases y_bar2 hC hwh (a.w * a.h) me_FU 0 (Nat.zero_add _) (by unfold me_FU; omega) with ⟨⟨i, q1, q2, q3⟩, q4⟩ | ⟨q1, q2⟩
  · rw [if_pos ⟨i, q2, q3⟩]
    exact ⟨μ, q4, hC, fun _ _ => rfl⟩
  · rw [if_neg (fun q => by obtain ⟨i, g1, g2⟩ := q; exact q1 ⟨i, Nat.zero_le _, g1, g2⟩)]
    obtain ⟨μ', k1, k2, k3⟩ := y_bar34 hwh (a.w * a.h) me_FU 0 μ (Nat.zero_add _) (by unfold me_FU; omega) (hC.eq gh_b1_0)
    exact ⟨μ', q2.trans k1, k2, k3⟩
/-- those woken up to m are awake -/
def gh_w1 (a : me_S) (W : Nat → Bool) (m : Nat) : me_S := me_S.s_aw a (fun n => a.aw n || (decide (n < m) && W n))
theorem gh_w1_s {a : me_S} {W : Nat → Bool} {m : Nat} : me_Eq (me_S.s_aw (gh_w1 a W m) (me_fu (gh_w1 a W m).aw m (a.aw m || W m))) (gh_w1 a W (m + 1)) := by
  have e1 : me_fu (gh_w1 a W m).aw m (a.aw m || W m) = fun n => a.aw n || (decide (n < m + 1) && W n) := by
    funext n
    rw [me_fu_ap]
    by_cases e : n = m
    · rw [if_pos e, e, decide_eq_true (Nat.lt_succ_self m), Bool.true_and]
    · rw [if_neg e]
      show (a.aw n || (decide (n < m) && W n)) = _
      rw [show decide (n < m) = decide (n < m + 1) from decide_eq_decide.mpr ⟨fun h => by omega, fun h => by omega⟩]
  exact ⟨rfl, rfl, rfl, rfl, rfl, rfl, rfl, rfl, rfl, rfl, rfl, rfl, rfl, rfl, rfl, rfl, rfl, rfl, rfl, rfl, rfl, rfl, rfl, rfl, rfl, rfl, rfl, rfl, e1, rfl, rfl, rfl, rfl, rfl, rfl, rfl, rfl, rfl, rfl, rfl, rfl⟩
theorem gh_w1_n {a : me_S} {W : Nat → Bool} {m : Nat} (h : W m = false) : me_Eq (gh_w1 a W m) (gh_w1 a W (m + 1)) := by
  have e1 : (fun n => a.aw n || (decide (n < m) && W n)) = fun n => a.aw n || (decide (n < m + 1) && W n) := by
    funext n
    by_cases e : n = m
    · rw [e, h, Bool.and_false, Bool.and_false]
    · rw [show decide (n < m) = decide (n < m + 1) from decide_eq_decide.mpr ⟨fun h => by omega, fun h => by omega⟩]
  have e2 : gh_w1 a W m = gh_w1 a W (m + 1) := congrArg (me_S.s_aw a) e1
  rw [e2]
  exact me_Eq.re
theorem y_end {a : me_S} {W : Nat → Bool} {B : Nat} (hwh : a.w * a.h ≤ 16) : ∀ (d f m : Nat) (μ : me_M), m + d = a.w * a.h → d < f → me_RC (gh_w1 a W m) μ → μ 30 0 6 = me_N B → (∀ n, m ≤ n → n < 16 → μ 13 n 4 = me_bi (W n)) → (∀ n, n < m → μ 13 n 4 = 0) → (∀ n, ¬ n < a.w * a.h → W n = false) → ∃ μ', f_Mover_endBeat_h2 f μ (me_N m) = some (μ', ()) ∧ me_RC (me_S.s_bt (gh_w1 a W (a.w * a.h)) B) μ' ∧ (∀ n, n < 16 → μ' 13 n 4 = 0) ∧ μ' 30 0 7 = μ 30 0 7 ∧ ∀ k, ¬ k = 13 → ¬ k = 30 → μ' k = μ k := by
  intro d
  induction d with
  | zero =>
    intro f m μ h1 h2 hC hnow hw1 hw0 hwo
    obtain ⟨f, rfl⟩ : ∃ g, f = g + 1 := ⟨f - 1, by omega⟩
    have zn : μ 1 0 4 = me_N (a.w * a.h) := hC.nn
    have em : m = a.w * a.h := by omega
    refine ⟨me_up μ 30 0 5 (me_N B), ?_, (em ▸ hC).w_bt B, fun n hn => ?_, me_up_jn (by decide), fun k _ hk => ?_⟩
    · show f_Mover_endBeat_b2 _ _ _ = _
      unfold f_Mover_endBeat_b2
      rw [zn, if_pos (by rw [me_N_le (by omega) (by omega)]; omega), hnow, me_lt_s]
    · rw [me_up_kn (by decide)]
      by_cases e : n < m
      · exact hw0 n e
      · rw [hw1 n (by omega) hn, hwo n (by omega)]
        rfl
    · funext i j
      rw [me_up_kn hk]
  | succ d ih =>
    intro f m μ h1 h2 hC hnow hw1 hw0 hwo
    obtain ⟨f, rfl⟩ : ∃ g, f = g + 1 := ⟨f - 1, by omega⟩
    have zn : μ 1 0 4 = me_N (a.w * a.h) := hC.nn
    have zw := hw1 m (Nat.le_refl _) (by omega)
    cases hW : W m with
    | false =>
      rw [hW] at zw
      obtain ⟨μ', k1, k2⟩ := ih f (m + 1) μ (by omega) (by omega) (hC.eq (gh_w1_n hW)) hnow (fun n h => hw1 n (by omega)) (fun n hn => by
        by_cases e : n = m
        · rw [e]
          exact zw
        · exact hw0 n (by omega)) hwo
      refine ⟨μ', ?_, k2⟩
      show f_Mover_endBeat_b2 _ _ _ = _
      unfold f_Mover_endBeat_b2
      rw [zn, if_neg (by rw [me_N_le (by omega) (by omega)]; omega), me_gd_n (by omega) (by omega), me_N_ix (by omega), zw, if_pos (by rfl), me_N_inc, me_lt_s]
      exact k1
    | true =>
      rw [hW] at zw
      have c1 : me_RC (gh_w1 a W (m + 1)) (me_up (me_up μ 13 m 3 1) 13 m 4 0) := by
        refine ((hC.w_aw m true).w_wk m 0).eq ?_
        have h := gh_w1_s (a := a) (W := W) (m := m)
        rw [hW, Bool.or_true] at h
        exact h
      obtain ⟨μ', k1, k2, k3, k4, k5⟩ := ih f (m + 1) _ (by omega) (by omega) c1 (by rw [me_up_kn (by decide), me_up_kn (by decide)]; exact hnow) (fun n h1' h2' => by
        rw [me_up_in (by omega), me_up_in (by omega)]
        exact hw1 n (by omega) h2') (fun n hn => by
        by_cases e : n = m
        · rw [e, me_up_at]
        · rw [me_up_in e, me_up_in e]
          exact hw0 n (by omega)) hwo
      refine ⟨μ', ?_, k2, k3, ?_, fun k hk hk' => ?_⟩
      · show f_Mover_endBeat_b2 _ _ _ = _
        unfold f_Mover_endBeat_b2
        rw [zn, if_neg (by rw [me_N_le (by omega) (by omega)]; omega), me_gd_n (by omega) (by omega), me_N_ix (by omega), zw, if_neg (by decide), me_lt_s, me_lt_s, me_N_inc, me_lt_s]
        exact k1
      · rw [k4, me_up_kn (by decide), me_up_kn (by decide)]
      · rw [k5 k hk hk']
        funext i j
        rw [me_up_kn hk, me_up_kn hk]
theorem me_IP.mono {w h np ow bt : Nat} {kd st : Nat → Int32} {sr gl bo pt tk ma : Nat → Nat} {dn : Nat → Option Nat} {pl : Nat → Nat} {an : Nat → Option Nat} (hP : me_IP w h np ow bt kd st sr gl bo pt tk ma dn pl an) : me_IP w h np ow (bt + 1) kd st sr gl bo pt tk ma dn pl an :=
  me_IP.mk hP.ile hP.iow hP.ikd hP.ist hP.isr hP.igl hP.ibo hP.ipt (fun i hi => Nat.le_succ_of_le (hP.ima i hi)) (fun i hi h1 => by
    obtain ⟨t, h2, h3, h4⟩ := hP.idn i hi h1
    exact ⟨t, h2, h3, by omega⟩) (fun i t hi h1 => Nat.le_succ_of_le (hP.idm i t hi h1)) hP.ipl hP.ian hP.is0 hP.is1 hP.is2
/-- the ghost as the beat has ended -/
noncomputable def gh_en (a : me_S) (W : Nat → Bool) : me_S := me_S.s_bt (gh_w1 (gh_bar a) W (a.w * a.h)) (a.bt + 1)
theorem gh_iv_b1 {a : me_S} (hI : me_Iv a) (m : Nat) : me_Iv (gh_b1 a m) := by
  have h := hI.2.2.1
  refine ⟨hI.1, hI.2.1, me_IC.mk h.idp h.iln (fun n => ?_) (fun n => ?_) h.ifa h.iok (fun n e => ?_) (fun n e => ?_), hI.2.2.2⟩
  · show (if n < m ∧ a.co n = 98 then a.ca n + 1 else a.ca n) ≤ 12
    by_cases g : n < m ∧ a.co n = 98
    · rw [if_pos g]
      have h1 := h.ibt n g.2
      have h2 := h.iln n
      omega
    · rw [if_neg g]
      exact h.ica n
  · show (if n < m ∧ a.co n = 98 then 114 else a.co n) = 45 ∨ (if n < m ∧ a.co n = 98 then 114 else a.co n) = 114 ∨ (if n < m ∧ a.co n = 98 then 114 else a.co n) = 119 ∨ (if n < m ∧ a.co n = 98 then 114 else a.co n) = 98 ∨ (if n < m ∧ a.co n = 98 then 114 else a.co n) = 104 ∨ (if n < m ∧ a.co n = 98 then 114 else a.co n) = 120
    by_cases g : n < m ∧ a.co n = 98
    · rw [if_pos g]
      exact Or.inr (Or.inl rfl)
    · rw [if_neg g]
      exact h.ico n
  · have e : (if n < m ∧ a.co n = 98 then 114 else a.co n) = 119 := e
    show (if n < m ∧ a.co n = 98 then a.ca n + 1 else a.ca n) < a.ln n ∧ a.nm n (if n < m ∧ a.co n = 98 then a.ca n + 1 else a.ca n) = 114
    by_cases g : n < m ∧ a.co n = 98
    · rw [if_pos g] at e
      exact absurd e (by decide)
    · rw [if_neg g] at e ⊢
      exact h.iwt n e
  · have e : (if n < m ∧ a.co n = 98 then 114 else a.co n) = 98 := e
    show (if n < m ∧ a.co n = 98 then a.ca n + 1 else a.ca n) < a.ln n
    by_cases g : n < m ∧ a.co n = 98
    · rw [if_pos g] at e
      exact absurd e (by decide)
    · rw [if_neg g] at e ⊢
      exact h.ibt n e
theorem gh_iv_w1 {a : me_S} (hI : me_Iv a) (W : Nat → Bool) (m : Nat) : me_Iv (gh_w1 a W m) := by
  obtain ⟨h0, hP, hC, hT, hW, hF, hlr, hrg0, hfp⟩ := hI
  refine ⟨h0, hP, hC, hT, ?_, hF, hlr, hrg0, hfp⟩
  refine (me_Wl.mk hW.wl.iel hW.wl.idi hW.wl.icr hW.wl.ice hW.wl.iow hW.wl.iun hW.wl.ifo hW.wl.ion hW.wl.ivd hW.wl.itl hW.wl.ihm hW.wl.ifi hW.wl.ihd hW.wl.iex hW.wl.ifp (fun x e => ?_)).wm hW.in4 hW.iso hW.ict
  have e : (a.aw (x / 10) || (decide (x / 10 < m) && W (x / 10))) = false := e
  rw [Bool.or_eq_false_iff] at e
  exact hW.wl.isl x e.1
theorem gh_iv_bt {a : me_S} (hI : me_Iv a) : me_Iv (me_S.s_bt a (a.bt + 1)) := by
  obtain ⟨h0, hP, hC, hT, hW, hF, hlr, hrg0, hfp⟩ := hI
  exact ⟨h0, hP.mono, hC, hT, hW, hF, hlr, fun r => Nat.le_succ_of_le (hrg0 r), hfp⟩
theorem gh_bar_c {a : me_S} : ((∃ i, i < a.w * a.h ∧ gh_ac a i) ∧ gh_bar a = a) ∨ ((¬ ∃ i, i < a.w * a.h ∧ gh_ac a i) ∧ gh_bar a = gh_b1 a (a.w * a.h)) := by
  unfold gh_bar
  by_cases h : ∃ i, i < a.w * a.h ∧ gh_ac a i
  · exact Or.inl ⟨h, if_pos h⟩
  · exact Or.inr ⟨h, if_neg h⟩
theorem gh_en_iv {a : me_S} (hI : me_Iv a) (W : Nat → Bool) : me_Iv (gh_en a W) := by
  unfold gh_en
  rcases gh_bar_c (a := a) with ⟨-, e⟩ | ⟨-, e⟩
  · rw [e]
    exact gh_iv_bt (gh_iv_w1 hI W _)
  · rw [e]
    exact gh_iv_bt (gh_iv_w1 (gh_iv_b1 hI _) W _)
theorem gh_en_k {a : me_S} {W : Nat → Bool} : (gh_en a W).w = a.w ∧ (gh_en a W).h = a.h ∧ (gh_en a W).bt = a.bt + 1 := by
  unfold gh_en
  rcases gh_bar_c (a := a) with ⟨-, e⟩ | ⟨-, e⟩
  · rw [e]
    exact ⟨rfl, rfl, rfl⟩
  · rw [e]
    exact ⟨rfl, rfl, rfl⟩
def gh_nw (a : me_S) (w h rp : Nat) : me_S := ((fun k => if k = 0 then w else if k = 1 then h else if k = 2 then rp else 0), (fun _ => 120), (fun k => if k = 4 ∨ k = 5 then fun _ => 45 else a.2.2.1 k), (fun k => if k = 8 then fun _ => 4 else if k = 7 ∨ k = 9 ∨ k = 10 ∨ k = 11 ∨ k = 12 then fun _ => 0 else a.2.2.2.1 k), (fun k => if k = 3 ∨ k = 4 then fun _ => none else a.2.2.2.2.1 k), (fun _ _ => []), (fun k => if k = 0 ∨ k = 1 then fun _ _ => 0 else a.2.2.2.2.2.2.1 k), (fun _ _ => true), (fun _ _ _ => 0))
theorem gh_nw_iv {a : me_S} {w h : Nat} (hw : 1 ≤ w ∧ w ≤ 4) (hh : 1 ≤ h ∧ h ≤ 4) : me_Iv (gh_nw a w h 2) := by
  refine ⟨me_I0.mk hw hh (show 1 ≤ 2 ∧ 2 ≤ 4 from ⟨by decide, by decide⟩) (Or.inl rfl) (fun _ _ => Or.inl rfl) (fun _ _ _ _ _ _ => rfl), ?_, ?_, ?_, ?_, ?_, fun _ _ _ _ => (by decide : 4 < 5), fun _ => Nat.zero_le _, fun _ => Nat.le_refl _⟩
  · exact me_IP.mk (show 0 + 0 ≤ 200 from by decide) rfl (fun i hi => absurd hi (Nat.not_lt_zero i)) (fun i hi => absurd hi (Nat.not_lt_zero i)) (fun i hi => absurd hi (Nat.not_lt_zero i)) (fun i hi => absurd hi (Nat.not_lt_zero i)) (fun i hi => absurd hi (Nat.not_lt_zero i)) (fun i hi => absurd hi (Nat.not_lt_zero i)) (fun i hi => absurd hi (Nat.not_lt_zero i)) (fun i hi => absurd hi (Nat.not_lt_zero i)) (fun i t hi => absurd hi (Nat.not_lt_zero i)) (fun i hi => absurd hi (Nat.not_lt_zero i)) (fun i j hi => absurd hi (Nat.not_lt_zero i)) (fun i hi => absurd hi (Nat.not_lt_zero i)) (fun i hi => absurd hi (Nat.not_lt_zero i)) (fun i hi => absurd hi (Nat.not_lt_zero i))
  · exact me_IC.mk (fun _ => Nat.zero_le _) (fun _ => Nat.zero_le _) (fun _ => Nat.zero_le _) (fun _ => Or.inl rfl) (fun _ => Or.inl rfl) (fun n j hj => absurd hj (Nat.not_lt_zero j)) (fun n e => absurd (show (45 : Int32) = 119 from e) (by decide)) (fun n e => absurd (show (45 : Int32) = 98 from e) (by decide))
  · exact me_IT.mk (Nat.zero_le _) (fun i hi => absurd hi (Nat.not_lt_zero i)) (fun _ _ => rfl) (fun _ _ => Nat.zero_le _)
  · exact me_Wm.mk (fun r => Nat.zero_le _) (fun r e he => absurd he List.not_mem_nil) (fun r e he => absurd he List.not_mem_nil) (fun _ _ => rfl) (fun r e he => absurd he List.not_mem_nil) (fun r p h => by cases h) (fun r r' p h => by cases h) (fun r => List.Pairwise.nil) (fun r r' e e' he => absurd he List.not_mem_nil) (fun r r' e e' he => absurd he List.not_mem_nil) (fun r p hac => by
      rcases hac with ⟨e, he, -⟩ | ⟨-, hp, -⟩ | h
      · exact absurd he List.not_mem_nil
      · exact absurd hp (Nat.not_lt_zero p)
      · cases h) (fun r r' p c he => absurd he List.not_mem_nil) (fun r r' p c he => absurd he List.not_mem_nil) (fun r e p he => absurd he List.not_mem_nil) (fun p hp => absurd hp (Nat.not_lt_zero p)) (fun p i hp => absurd hp (Nat.not_lt_zero p)) (fun p hp => absurd hp (Nat.not_lt_zero p)) (fun p j hp => absurd hp (Nat.not_lt_zero p)) (fun r e => by cases e)
  · exact fun n c j hj => absurd hj (Nat.not_lt_zero j)
/-- what of the class's cells net leaves as it is -/
def gh_RC0 (a : me_S) (μ : me_M) : Prop := (μ 0 0 9 = me_N a.rp ∧ ∀ r, r < 160 → μ 17 r 4 = me_N a.rp) ∧ (∀ i, i < 200 → μ 8 i 0 = me_N i) ∧ ∀ i, μ 8 i 1 = a.kd i ∧ μ 8 i 2 = a.st i ∧ μ 8 i 3 = me_N (a.sr i) ∧ μ 8 i 4 = me_N (a.gl i) ∧ μ 8 i 5 = a.wd i ∧ μ 8 i 7 = me_N (a.pt i) ∧ μ 8 i 8 = me_N (a.tk i) ∧ μ 8 i 10 = me_N (a.ma i) ∧ μ 8 i 12 = me_N (a.pl i) ∧ μ 8 i 13 = a.ad i
theorem me_RC.c0 {a : me_S} {μ : me_M} (h : me_RC a μ) : gh_RC0 a μ := ⟨⟨h.rp, h.qp⟩, h.p0, fun i => ⟨h.kd i, h.st i, h.sr i, h.gl i, h.wd i, h.pt i, h.tk i, h.ma i, h.pl i, h.ad i⟩⟩
theorem y_anew {a : me_S} {μ : me_M} (h0 : gh_RC0 a μ) {w h : Nat} (hw : 1 ≤ w ∧ w ≤ 4) (hh : 1 ≤ h ∧ h ≤ 4) : ∃ μ', f_Y_makeAnew μ (me_N w) (me_N h) = some (μ', ()) ∧ me_RC (gh_nw a w h 2) μ' ∧ (∀ k, 36 ≤ k → μ' k = μ k) ∧ ∀ n, n < 16 → μ' 13 n 4 = 0 := by
  have hwh : w * h ≤ 16 := Nat.mul_le_mul hw.2 hh.2
  obtain ⟨μ2, l1, l2, l3, l4, l5⟩ := y_lay hw hh.2 μ
  obtain ⟨μ4, t1, t2⟩ := y_tr1 64 me_FU 0 (me_up (me_up (me_up μ2 6 0 1 0) 6 0 2 0) 9 0 3 0) rfl (by decide)
  obtain ⟨μn, n1, n2, n3, n4⟩ := y_nodes1 16 me_FU 0 (me_up (me_up (me_up (me_up μ4 27 0 4 120) 30 0 5 0) 30 0 6 0) 30 0 7 0) rfl (by decide) (fun m hm => absurd hm (Nat.not_lt_zero m))
  have q4 : ∀ k i j, ¬ k = 11 → μ4 k i j = me_up (me_up (me_up μ2 6 0 1 0) 6 0 2 0) 9 0 3 0 k i j := fun k i j a => by rw [t2, if_neg (fun q => a q.1)]
  have q6 : ∀ k i j, ¬ k = 27 → ¬ k = 30 → me_up (me_up (me_up (me_up μ4 27 0 4 120) 30 0 5 0) 30 0 6 0) 30 0 7 0 k i j = μ4 k i j := fun k i j a b => by
    rw [me_up_kn b, me_up_kn b, me_up_kn b, me_up_kn a]
  have q2 : ∀ k i j, ¬ k = 6 → ¬ k = 9 → ¬ k = 11 → ¬ k = 27 → ¬ k = 30 → me_up (me_up (me_up (me_up μ4 27 0 4 120) 30 0 5 0) 30 0 6 0) 30 0 7 0 k i j = μ2 k i j := fun k i j a b c d e => by
    rw [q6 k i j d e, q4 k i j c, me_up_kn b, me_up_kn a, me_up_kn a]
  have r2 : ∀ k i j, gh_kk k → ¬ k = 6 → ¬ k = 9 → ¬ k = 11 → ¬ k = 27 → ¬ k = 30 → μn k i j = μ2 k i j := fun k i j hk a b c d e => by
    rw [n3 k hk, q2 k i j a b c d e]
  have r0 : ∀ k i j, gh_kk k → ¬ k = 6 → ¬ k = 9 → ¬ k = 11 → ¬ k = 27 → ¬ k = 30 → ¬ k = 1 → ¬ k = 2 → ¬ k = 3 → ¬ k = 4 → ¬ k = 5 → μn k i j = μ k i j := fun k i j hk a b c d e x1 x2 x3 x4 x5 => by
    rw [r2 k i j hk a b c d e, l5 k x1 x2 x3 x4 x5]
  have kk : ∀ k, k < 13 ∨ 23 < k → gh_kk k := fun k hk => ⟨by omega, by omega, by omega, by omega, by omega, by omega⟩
  have r8 : ∀ i j, μn 8 i j = μ 8 i j := fun i j => r0 8 i j (kk 8 (by decide)) (by decide) (by decide) (by decide) (by decide) (by decide) (by decide) (by decide) (by decide) (by decide) (by decide)
  have r17 : ∀ r, μn 17 r 4 = μ 17 r 4 := fun r => by
    rw [n4, q2 17 r 4 (by decide) (by decide) (by decide) (by decide) (by decide), l5 17 (by decide) (by decide) (by decide) (by decide) (by decide)]
  obtain ⟨⟨a1, a2⟩, b1, b2⟩ := h0
  have w1 : ∀ k i j, (k = 1 ∨ k = 2 ∨ k = 3 ∨ k = 4 ∨ k = 5) → μn k i j = μ2 k i j := fun k i j hk => r2 k i j (kk k (by omega)) (by omega) (by omega) (by omega) (by omega) (by omega)
  have row : ∀ r, r < 160 → μn 15 (r / 10) (r % 10) = 0 ∧ μn 17 r 3 = 0 ∧ μn 17 r 5 = -1 ∧ μn 17 r 6 = -1 ∧ μn 17 r 7 = 0 := fun r hr => by
    have := (n2 (r / 10) (by omega)).2.2.2 (r % 10) (by omega)
    rw [show 10 * (r / 10) + r % 10 = r by omega] at this
    exact this
  have hC : me_RC (gh_nw a w h a.rp) μn := by
    apply me_RC.mk
    case rp => show μn 0 0 9 = me_N a.rp; rw [r0 0 0 9 (kk 0 (by decide)) (by decide) (by decide) (by decide) (by decide) (by decide) (by decide) (by decide) (by decide) (by decide) (by decide)]; exact a1
    case nn => show μn 1 0 4 = me_N (w * h); rw [w1 1 0 4 (by decide)]; exact l2
    case ah => intro n d hn hd; show μn 2 0 (n * 4 + d) = me_Op (me_nb w h n d); rw [w1 2 _ _ (by decide)]; exact (l3 n hn).2.2 d hd
    case fl => intro n d hn hd; show μn 3 0 (n * 4 + d) = 0; rw [w1 3 _ _ (by decide)]; exact l4 _ (by omega)
    case cl => intro n hn; show μn 4 0 n = me_N (n % w); rw [w1 4 _ _ (by decide)]; exact (l3 n hn).1
    case li => intro n hn; show μn 5 0 n = me_N (n / w); rw [w1 5 _ _ (by decide)]; exact (l3 n hn).2.1
    case np => show μn 6 0 1 = me_N 0; rw [n3 6 (kk 6 (by decide)), q6 6 _ _ (by decide) (by decide), q4 6 _ _ (by decide), me_up_kn (by decide), me_up_jn (by decide), me_up_at]; rfl
    case ow => show μn 6 0 2 = me_N 0; rw [n3 6 (kk 6 (by decide)), q6 6 _ _ (by decide) (by decide), q4 6 _ _ (by decide), me_up_kn (by decide), me_up_at]; rfl
    case p0 => intro i hi; rw [r8]; exact b1 i hi
    case kd => intro i; rw [r8]; exact (b2 i).1
    case st => intro i; rw [r8]; exact (b2 i).2.1
    case sr => intro i; rw [r8]; exact (b2 i).2.2.1
    case gl => intro i; rw [r8]; exact (b2 i).2.2.2.1
    case wd => intro i; rw [r8]; exact (b2 i).2.2.2.2.1
    case bo => intro i hi; exact absurd hi (Nat.not_lt_zero i)
    case pt => intro i; rw [r8]; exact (b2 i).2.2.2.2.2.1
    case tk => intro i; rw [r8]; exact (b2 i).2.2.2.2.2.2.1
    case hd => intro i hi; exact absurd hi (Nat.not_lt_zero i)
    case ma => intro i; rw [r8]; exact (b2 i).2.2.2.2.2.2.2.1
    case dn => intro i hi; exact absurd hi (Nat.not_lt_zero i)
    case pl => intro i; rw [r8]; exact (b2 i).2.2.2.2.2.2.2.2.1
    case ad => intro i; rw [r8]; exact (b2 i).2.2.2.2.2.2.2.2.2
    case an => intro i hi; exact absurd hi (Nat.not_lt_zero i)
    case nt => show μn 9 0 3 = me_N 0; rw [n3 9 (kk 9 (by decide)), q6 9 _ _ (by decide) (by decide), q4 9 _ _ (by decide), me_up_at]; rfl
    case tn => intro i hi; exact absurd hi (Nat.not_lt_zero i)
    case tr => intro i j hi hj; show μn 11 0 (i * 8 + j) = me_N 0; rw [n3 11 (kk 11 (by decide)), q6 11 _ _ (by decide) (by decide), t2, if_pos ⟨rfl, rfl, Nat.zero_le _, by omega⟩]; rfl
    case aw => intro n hn; exact (n2 n hn).2.2.1.1
    case lr => intro n k hn hk; show μn 15 n k = me_N ((4 + 1) % 5); exact ((n2 n hn).2.2.2 k hk).1
    case fp => intro n c hn hc; match c, hc with
      | 0, _ => exact (n2 n hn).2.2.1.2.2.1
      | 1, _ => exact (n2 n hn).2.2.1.2.2.2
    case qn => intro r hr; exact (row r hr).2.1
    case qp => intro r hr; show μn 17 r 4 = me_N a.rp; rw [r17]; exact a2 r hr
    case ro => intro r hr; exact (row r hr).2.2.1
    case rh => intro r hr; exact (row r hr).2.2.2.1
    case rg => intro r hr; exact (row r hr).2.2.2.2
    case q1 => intro r j e hr he; cases he
    case q2 => intro r j e hr he; cases he
    case q3 => intro r j e hr he; cases he
    case dp => intro n hn; exact (n2 n hn).1.1
    case ln => intro n hn; exact (n2 n hn).1.2.1
    case ca => intro n hn; exact (n2 n hn).1.2.2.1
    case co => intro n hn; exact (n2 n hn).1.2.2.2.1
    case fa => intro n hn; exact (n2 n hn).1.2.2.2.2
    case mm => intro n j hn hj; exact (n2 n hn).2.1 j hj
    case sk => intro n j hn hj; exact absurd hj (Nat.not_lt_zero j)
    case nm => intro n j hn hj; exact absurd hj (Nat.not_lt_zero j)
    case nu => intro n j hn hj; exact absurd hj (Nat.not_lt_zero j)
    case wy => show μn 27 0 4 = 120; rw [n3 27 (kk 27 (by decide)), me_up_kn (by decide), me_up_kn (by decide), me_up_kn (by decide), me_up_at]
    case bt => show μn 30 0 5 = me_N 0; rw [n3 30 (kk 30 (by decide)), me_up_jn (by decide), me_up_jn (by decide), me_up_at]; rfl
  obtain ⟨μ', s1, s2, s3⟩ := y_setPl hC 2
  refine ⟨μ', ?_, s2.eq ⟨rfl, rfl, rfl, rfl, rfl, rfl, rfl, rfl, rfl, rfl, rfl, rfl, rfl, rfl, rfl, rfl, rfl, rfl, rfl, rfl, rfl, rfl, rfl, rfl, rfl, rfl, rfl, rfl, rfl, rfl, rfl, rfl, rfl, rfl, rfl, rfl, rfl, rfl, rfl, rfl, rfl⟩, fun k hk => ?_, fun n hn => ?_⟩
  · have t1 : f_Placing_reset_h7 me_FU (me_up (me_up (me_up μ2 6 0 1 0) 6 0 2 0) 9 0 3 0) 0 = some (μ4, ()) := t1
    have n1 : f_Y_makeAnew_h41 me_FU (me_up (me_up (me_up (me_up μ4 27 0 4 120) 30 0 5 0) 30 0 6 0) 30 0 7 0) 0 = me_b2 (f_Y_setAllPlaces μn 2) (fun μ3 _ => some (μ3, ())) := n1
    have s1 : f_Y_setAllPlaces μn 2 = some (μ', ()) := s1
    unfold f_Y_makeAnew f_Post_reset f_Placing_reset f_Mover_reset
    rw [l1, me_b2_s, me_lt_s, me_lt_s, me_b2_s, me_lt_s, t1, me_b2_s, me_lt_s, me_lt_s, me_lt_s, me_lt_s, me_b2_s, n1, s1, me_b2_s]
  · rw [s3 k (by omega) (by omega)]
    funext i j
    rw [r0 k i j (kk k (by omega)) (by omega) (by omega) (by omega) (by omega) (by omega) (by omega) (by omega) (by omega) (by omega) (by omega)]
  · rw [s3 13 (by decide) (by decide)]
    exact (n2 n hn).2.2.1.2.1
def gh_zk (k : Nat) : Prop := k = 60 ∨ k = 63 ∨ k = 69 ∨ k = 72 ∨ k = 74 ∨ k = 76 ∨ k = 84 ∨ k = 85 ∨ k = 86 ∨ k = 87 ∨ k = 88 ∨ k = 89 ∨ k = 91
def gh_Z (k : Nat) : Int32 := if k = 63 ∨ k = 91 then -1 else if k = 72 then 4 else if k = 89 then 45 else 0
def gh_zz (ν ν' : me_M) : Prop := ∀ k i j, ν' k i j = ν k i j ∨ (gh_zk k ∧ ν' k i j = gh_Z k)
theorem gh_zz.w {ν ν' : me_M} (h : gh_zz ν ν') {k i j : Nat} {x : Int32} (hk : gh_zk k) (hx : x = gh_Z k) : gh_zz ν (me_up ν' k i j x) := by
  intro k' i' j'
  rw [me_up_ap]
  by_cases e : k' = k ∧ i' = i ∧ j' = j
  · rw [if_pos e, e.1]
    exact Or.inr ⟨hk, hx⟩
  · rw [if_neg e]
    exact h k' i' j'
theorem me_sm_app {F : Nat → Nat} : ∀ (k m i : Nat), me_sm F i (k + m) = me_sm F i k + me_sm F (i + k) m := by
  intro k
  induction k with
  | zero => intro m i; rw [Nat.zero_add, Nat.add_zero]; exact (Nat.zero_add _).symm
  | succ k ih =>
    intro m i
    rw [show k + 1 + m = (k + m) + 1 by omega]
    show F i + me_sm F (i + 1) (k + m) = (F i + me_sm F (i + 1) k) + me_sm F (i + (k + 1)) m
    rw [ih m (i + 1), show i + 1 + k = i + (k + 1) by omega, Nat.add_assoc]
theorem me_sm_zero {g : Nat → Nat} : ∀ (d i : Nat), (∀ j, i ≤ j → j < i + d → g j = 0) → me_sm g i d = 0 := by
  intro d
  induction d with
  | zero => intro i h; rfl
  | succ d ih =>
    intro i h
    show g i + me_sm g (i + 1) d = 0
    rw [h i (Nat.le_refl _) (by omega), ih (i + 1) (fun j a b => h j (by omega) (by omega))]
theorem y_one {a : me_S} {μ : me_M} (hC : me_RC a μ) (hI : me_Iv a) {x : Nat} (hx : x < 160) (h5 : ¬ x % 5 = 4) : f_Audit_hasOnePacket μ x = some 1 := by
  have h4 := me_ql a hI x
  have all : ∀ j, j < (a.q x).length → μ 18 x j = me_Op (a.ro x) := fun j hj => by
    have e := List.getElem?_eq_getElem hj
    rw [hC.q1 x j _ hx e, hI.2.2.2.2.1.idi x _ (List.getElem_mem hj) h5]
    rfl
  have loop : ∀ (k f j : Nat), j + k = (a.q x).length → k < f → 1 ≤ j → f_Audit_hasOnePacket_h2 μ f x (me_N j) = some 1 := by
    intro k
    induction k with
    | zero =>
      intro f j h1 h2 h3
      obtain ⟨f, rfl⟩ : ∃ g, f = g + 1 := ⟨f - 1, by omega⟩
      show f_Audit_hasOnePacket_b2 _ _ _ _ = _
      unfold f_Audit_hasOnePacket_b2
      rw [hC.qn x hx, if_pos (by rw [me_N_le (by omega) (by omega)]; omega)]
    | succ k ih =>
      intro f j h1 h2 h3
      obtain ⟨f, rfl⟩ : ∃ g, f = g + 1 := ⟨f - 1, by omega⟩
      show f_Audit_hasOnePacket_b2 _ _ _ _ = _
      unfold f_Audit_hasOnePacket_b2
      rw [hC.qn x hx, if_neg (by rw [me_N_le (by omega) (by omega)]; omega), me_gd_n (by omega) (by omega), me_N_ix (by omega), all j (by omega), all 0 (by omega), if_pos rfl, me_N_inc, me_lt_s]
      exact ih f (j + 1) (by omega) (by omega) (by omega)
  unfold f_Audit_hasOnePacket
  by_cases e : (a.q x).length = 0
  · show f_Audit_hasOnePacket_b2 μ (f_Audit_hasOnePacket_h2 μ 999) x 1 = _
    unfold f_Audit_hasOnePacket_b2
    rw [hC.qn x hx, e, if_pos (by decide)]
  · exact loop ((a.q x).length - 1) me_FU 1 (by omega) (by unfold me_FU; omega) (Nat.le_refl _)
theorem y_rs38 {a : me_S} {μ : me_M} (hC : me_RC a μ) (hI : me_Iv a) {n : Nat} (hn : n < 16) {K2 : Int32 → Option Int32} : ∀ (k f i : Nat), i + k = 10 → k < f → f_Audit_rowsAreSound_h38 μ K2 f (me_N n) n (me_N i) = K2 (me_N (n + 1)) := by
  intro k
  induction k with
  | zero =>
    intro f i h1 h2
    obtain ⟨f, rfl⟩ : ∃ g, f = g + 1 := ⟨f - 1, by omega⟩
    show f_Audit_rowsAreSound_b38 _ _ _ _ _ _ = _
    unfold f_Audit_rowsAreSound_b38
    rw [if_pos (by rw [me_N_10, me_N_le (by omega) (by omega)]; omega), me_N_inc, me_lt_s]
  | succ k ih =>
    intro f i h1 h2
    obtain ⟨f, rfl⟩ : ∃ g, f = g + 1 := ⟨f - 1, by omega⟩
    show f_Audit_rowsAreSound_b38 _ _ _ _ _ _ = _
    unfold f_Audit_rowsAreSound_b38
    rw [if_neg (by rw [me_N_10, me_N_le (by omega) (by omega)]; omega), me_N_5, me_N_rem (by omega) (by omega) (by omega), me_N_inc, me_lt_s]
    by_cases e : i % 5 = 4
    · rw [if_pos (show me_N (i % 5) = 4 by rw [e]; rfl)]
      exact ih f (i + 1) (by omega) (by omega)
    · rw [if_neg (show ¬ me_N (i % 5) = 4 by rw [me_N_4, me_N_inj (by omega) (by omega)]; exact e), me_gd_n (by omega) (by omega), me_N_ix (by omega), y_one hC hI (by omega) (by omega), me_bd_s, if_neg (by decide)]
      exact ih f (i + 1) (by omega) (by omega)
theorem y_rs2 {a : me_S} {μ : me_M} (hC : me_RC a μ) (hI : me_Iv a) : ∀ (k f n : Nat), n + k = a.w * a.h → k < f → f_Audit_rowsAreSound_h2 μ f (me_N n) = some 1 := by
  have hwh := hI.wh
  intro k
  induction k with
  | zero =>
    intro f n h1 h2
    obtain ⟨f, rfl⟩ : ∃ g, f = g + 1 := ⟨f - 1, by omega⟩
    show f_Audit_rowsAreSound_b2 _ _ _ = _
    unfold f_Audit_rowsAreSound_b2
    rw [hC.nn, if_pos (by rw [me_N_le (by omega) (by omega)]; omega)]
  | succ k ih =>
    intro f n h1 h2
    obtain ⟨f, rfl⟩ : ∃ g, f = g + 1 := ⟨f - 1, by omega⟩
    have e38 : f_Audit_rowsAreSound_h38 μ (f_Audit_rowsAreSound_h2 μ f) me_FU (me_N n) n 0 = f_Audit_rowsAreSound_h2 μ f (me_N (n + 1)) := y_rs38 hC hI (by omega) 10 me_FU 0 (by omega) (by unfold me_FU; omega)
    show f_Audit_rowsAreSound_b2 _ _ _ = _
    unfold f_Audit_rowsAreSound_b2
    rw [hC.nn, if_neg (by rw [me_N_le (by omega) (by omega)]; omega), me_gd_n (by omega) (by omega), me_N_ix (by omega), hC.aw n (by omega), y_pieces hC (by omega), me_bd_s, e38, ih f (n + 1) (by omega) (by omega)]
    cases haw : a.aw n with
    | true => rw [if_neg (show ¬ me_bi true = 0 by decide)]
    | false =>
      have z : me_sm (fun k => gh_ln a (10 * n + k)) 0 10 = 0 := me_sm_zero _ _ (fun j _ hj => by
        have := (hI.2.2.2.2.1.isl (10 * n + j) (by rw [show (10 * n + j) / 10 = n by omega]; exact haw)).1
        unfold gh_ln
        rw [this]
        rfl)
      rw [if_pos (show me_bi false = 0 from rfl), z, if_pos (by decide)]
/-- where a piece was found -/
def gh_FN (μ : me_M) (i x j : Nat) : Prop := μ 33 0 i = me_N (x / 10) ∧ μ 34 0 i = me_N (x % 5) ∧ μ 35 0 i = me_N j
/-- what of a packet's pieces was found, among rows and places that P tells -/
def gh_FS (a : me_S) (p : Nat) (μ : me_M) (P : Nat → Nat → Prop) : Prop := ∀ x j i c, P x j → (a.q x)[j]? = some (p, i, c) → gh_FN μ i x j
theorem gh_uni {a : me_S} (hI : me_Iv a) {p i c c' x j x' j' : Nat} (h1 : (a.q x)[j]? = some (p, i, c)) (h2 : (a.q x')[j']? = some (p, i, c')) : x = x' ∧ j = j' := by
  have hx : x = x' := hI.2.2.2.2.1.ion x x' _ _ (List.mem_of_getElem? h1) (List.mem_of_getElem? h2) rfl rfl
  refine ⟨hx, ?_⟩
  rw [← hx] at h2
  have hp := List.pairwise_iff_getElem.mp (hI.2.2.2.2.1.iso x)
  obtain ⟨b1, e1⟩ := List.getElem?_eq_some_iff.mp h1
  obtain ⟨b2, e2⟩ := List.getElem?_eq_some_iff.mp h2
  rcases Nat.lt_trichotomy j j' with g | g | g
  · have := hp j j' b1 b2 g
    rw [e1, e2] at this
    rcases this with q | q
    · have q : p < p := q
      omega
    · have q : i < i := q.2
      omega
  · exact g
  · have := hp j' j b2 b1 g
    rw [e1, e2] at this
    rcases this with q | q
    · have q : p < p := q
      omega
    · have q : i < i := q.2
      omega
theorem y_fr26 {a : me_S} (hI : me_Iv a) {p x k : Nat} (hp : p < a.np) (hx : x / 10 < a.w * a.h) (hk : x % 5 = k) : ∀ (l : List (Nat × Nat × Nat)) (f j c : Nat) (μ : me_M) (P : Nat → Nat → Prop), (∀ i e, l[i]? = some e → (a.q x)[j + i]? = some e) → j + l.length = (a.q x).length → l.length < f → me_RC a μ → gh_FS a p μ P → (∀ j', j ≤ j' → ¬ P x j') → ∃ μ', f_Audit_findInRow_h26 f μ p (me_N (x / 10)) (me_N k) x (me_N c) (me_N j) = some (μ', me_N (c + l.countP (me_pq p))) ∧ me_RC a μ' ∧ gh_FS a p μ' (fun x' j' => P x' j' ∨ (x' = x ∧ j ≤ j')) ∧ ∀ k', ¬ (k' = 33 ∨ k' = 34 ∨ k' = 35) → μ' k' = μ k' := by
  have hwh := hI.wh
  have hnp := hI.n200
  have h4 := me_ql a hI x
  intro l
  induction l with
  | nil =>
    intro f j c μ P h0 h1 h2 hC hF hP
    obtain ⟨f, rfl⟩ : ∃ g, f = g + 1 := ⟨f - 1, by omega⟩
    refine ⟨μ, ?_, hC, fun x' j' i c' hq h => ?_, fun _ _ => rfl⟩
    · have h1 : j = (a.q x).length := h1
      show f_Audit_findInRow_b26 _ _ _ _ _ _ _ _ = _
      unfold f_Audit_findInRow_b26
      rw [hC.qn x (by omega), if_pos (by rw [me_N_le (by omega) (by omega)]; omega)]
      rfl
    · rcases hq with q | ⟨q1, q2⟩
      · exact hF x' j' i c' q h
      · have h1 : j = (a.q x).length := h1
        rw [q1] at h
        have := (List.getElem?_eq_some_iff.mp h).1
        omega
  | cons e0 l ih =>
    intro f j c μ P h0 h1 h2 hC hF hP
    obtain ⟨f, rfl⟩ : ∃ g, f = g + 1 := ⟨f - 1, by omega⟩
    rw [List.length_cons] at h1 h2
    have hj : (a.q x)[j]? = some e0 := h0 0 e0 rfl
    obtain ⟨p0, i0, c0⟩ := e0
    have hmem := List.mem_of_getElem? hj
    obtain ⟨b1, b2, b3, b4, b5, b6, b7⟩ := hI.2.2.2.2.1.iel x _ hmem
    have b2 : p0 < a.np := b2
    have b6 : i0 < a.pt p0 := b6
    have g1 := hI.2.1.ibo p0 b2
    have g2 := (hI.2.1.ipt p0 b2).2
    have z1 : μ 18 x j = me_N p0 := hC.q1 x j _ (by omega) hj
    have z2 : μ 19 x j = me_N i0 := hC.q2 x j _ (by omega) hj
    have z0 : μ 8 p 0 = me_N p := hC.p0 p (by omega)
    have nxt : ∀ i e, l[i]? = some e → (a.q x)[j + 1 + i]? = some e := fun i e h => by
      have := h0 (i + 1) e (by rw [List.getElem?_cons_succ]; exact h)
      rw [show j + 1 + i = j + (i + 1) by omega]
      exact this
    have eqn : f_Audit_findInRow_h26 (f + 1) μ p (me_N (x / 10)) (me_N k) x (me_N c) (me_N j) = if p0 = p then f_Audit_findInRow_h26 f (me_up (me_up (me_up μ 33 0 i0 (me_N (x / 10))) 34 0 i0 (me_N k)) 35 0 i0 (me_N j)) p (me_N (x / 10)) (me_N k) x (me_N (c + 1)) (me_N (j + 1)) else f_Audit_findInRow_h26 f μ p (me_N (x / 10)) (me_N k) x (me_N c) (me_N (j + 1)) := by
      show f_Audit_findInRow_b26 _ _ _ _ _ _ _ _ = _
      unfold f_Audit_findInRow_b26
      rw [hC.qn x (by omega), if_neg (by rw [me_N_le (by omega) (by omega)]; omega), me_gd_n (by omega) (by omega), me_N_ix (by omega), z2, me_lt_s, me_gd_n (by omega) (by omega), z1, z0]
      by_cases e : p0 = p
      · rw [if_pos (by rw [e]), if_pos e, if_neg (me_N_nneg (by omega)), if_neg (by rw [me_N_5, me_N_le (by omega) (by omega)]; omega)]
        simp only [me_gd_n (show i0 < 2147483648 by omega) (show i0 < 5 by omega), me_N_ix (show i0 < 2147483648 by omega), me_lt_s, me_N_inc]
      · rw [if_neg (by rw [me_N_inj (by omega) (by omega)]; exact e), if_neg e, me_N_inc, me_lt_s]
    rw [eqn, me_pq_cons]
    by_cases e : p0 = p
    · rw [if_pos e, if_pos e]
      have hF2 : gh_FS a p (me_up (me_up (me_up μ 33 0 i0 (me_N (x / 10))) 34 0 i0 (me_N k)) 35 0 i0 (me_N j)) (fun x' j' => P x' j' ∨ (x' = x ∧ j' = j)) := fun x' j' i c' hq h => by
        unfold gh_FN
        rcases hq with q | ⟨q1, q2⟩
        · have hne : ¬ i = i0 := fun ei => by
            rw [ei] at h
            rw [e] at hj
            obtain ⟨u1, u2⟩ := gh_uni hI h hj
            rw [u1] at q
            exact hP j' (by omega) q
          rw [me_up_kn (by decide), me_up_kn (by decide), me_up_jn hne, me_up_kn (by decide), me_up_jn hne, me_up_kn (by decide), me_up_jn hne, me_up_kn (by decide), me_up_kn (by decide)]
          exact hF x' j' i c' q h
        · rw [q1, q2, hj] at h
          have h' := Option.some.inj h
          have ei : i = i0 := by
            have := congrArg (fun t => t.2.1) h'
            exact this.symm
          rw [ei, q1, q2]
          exact ⟨by rw [me_up_kn (by decide), me_up_kn (by decide), me_up_at], by rw [me_up_kn (by decide), me_up_at, hk], me_up_at⟩
      obtain ⟨μ', k1, k2, k3, k4⟩ := ih f (j + 1) (c + 1) _ _ nxt (by omega) (by omega) (((hC.w_k33 0 i0 (me_N (x / 10))).w_k34 0 i0 (me_N k)).w_k35 0 i0 (me_N j)) hF2 (fun j' h3 q => by
        rcases q with q | q
        · exact hP j' (by omega) q
        · omega)
      refine ⟨μ', ?_, k2, fun x' j' i c' hq h => k3 x' j' i c' ?_ h, fun k' hk' => ?_⟩
      · rw [k1]
        congr 3
        omega
      · rcases hq with q | ⟨q1, q2⟩
        · exact Or.inl (Or.inl q)
        · by_cases ej : j' = j
          · exact Or.inl (Or.inr ⟨q1, ej⟩)
          · exact Or.inr ⟨q1, by omega⟩
      · rw [k4 k' hk']
        funext u v
        rw [me_up_kn (by omega), me_up_kn (by omega), me_up_kn (by omega)]
    · rw [if_neg e, if_neg e, Nat.add_zero]
      have hF2 : gh_FS a p μ (fun x' j' => P x' j' ∨ (x' = x ∧ j' = j)) := fun x' j' i c' hq h => by
        rcases hq with q | ⟨q1, q2⟩
        · exact hF x' j' i c' q h
        · rw [q1, q2, hj] at h
          have h' := Option.some.inj h
          exact absurd (congrArg (fun t => t.1) h') e
      obtain ⟨μ', k1, k2, k3, k4⟩ := ih f (j + 1) c μ _ nxt (by omega) (by omega) hC hF2 (fun j' h3 q => by
        rcases q with q | q
        · exact hP j' (by omega) q
        · omega)
      refine ⟨μ', k1, k2, fun x' j' i c' hq h => k3 x' j' i c' ?_ h, k4⟩
      rcases hq with q | ⟨q1, q2⟩
      · exact Or.inl (Or.inl q)
      · by_cases ej : j' = j
        · exact Or.inl (Or.inr ⟨q1, ej⟩)
        · exact Or.inr ⟨q1, by omega⟩
/-- how many pieces of a packet lie in a row -/
def gh_pk (a : me_S) (p x : Nat) : Nat := (a.q x).countP (me_pq p)
theorem gh_pk_0 {a : me_S} (hI : me_Iv a) {p x : Nat} (h : ¬ (x / 10 < a.w * a.h ∧ x % 10 / 5 = me_ch (a.kd p))) : gh_pk a p x = 0 := by
  unfold gh_pk
  rw [List.countP_eq_zero]
  intro e he hp
  unfold me_pq at hp
  rw [decide_eq_true_eq] at hp
  obtain ⟨b1, -, -, b4, -⟩ := hI.2.2.2.2.1.iel x e he
  rw [hp] at b4
  exact h ⟨b1, b4.symm⟩
theorem y_fp18 {a : me_S} (hI : me_Iv a) {p n : Nat} (hp : p < a.np) (hn : n < a.w * a.h) {K4 : me_M → Nat → Int32 → Int32 → Option (me_M × Int32)} : ∀ (d f k : Nat) (μ : me_M), k + d = 5 → d < f → me_RC a μ → gh_FS a p μ (fun x _ => x < 10 * n + 5 * me_ch (a.kd p) + k) → ∃ μ', f_Audit_findPieces_h18 K4 f μ p (me_N (me_sm (gh_pk a p) 0 (10 * n + 5 * me_ch (a.kd p) + k))) (me_N n) (me_N k) = K4 μ' p (me_N (me_sm (gh_pk a p) 0 (10 * n + 5 * me_ch (a.kd p) + 5))) (me_N (n + 1)) ∧ me_RC a μ' ∧ gh_FS a p μ' (fun x _ => x < 10 * n + 5 * me_ch (a.kd p) + 5) ∧ ∀ k', ¬ (k' = 33 ∨ k' = 34 ∨ k' = 35) → μ' k' = μ k' := by
  have hwh := hI.wh
  have hch := me_ch_lt (a.kd p)
  intro d
  induction d with
  | zero =>
    intro f k μ h1 h2 hC hF
    obtain ⟨f, rfl⟩ : ∃ g, f = g + 1 := ⟨f - 1, by omega⟩
    have ek : k = 5 := by omega
    subst ek
    refine ⟨μ, ?_, hC, hF, fun _ _ => rfl⟩
    show f_Audit_findPieces_b18 _ _ _ _ _ _ _ = _
    unfold f_Audit_findPieces_b18
    rw [if_pos (by rw [me_N_5, me_N_le (by omega) (by omega)]; omega), me_N_inc, me_lt_s]
  | succ d ih =>
    intro f k μ h1 h2 hC hF
    obtain ⟨f, rfl⟩ : ∃ g, f = g + 1 := ⟨f - 1, by omega⟩
    have ex : (10 * n + 5 * me_ch (a.kd p) + k) / 10 = n := by omega
    obtain ⟨μ1, g1, g2, g3, g4⟩ := y_fr26 hI (x := 10 * n + 5 * me_ch (a.kd p) + k) (k := k) hp (by omega) (by omega) (a.q (10 * n + 5 * me_ch (a.kd p) + k)) me_FU 0 0 μ _ (fun i e h => by rw [Nat.zero_add]; exact h) (Nat.zero_add _) (by have := me_ql a hI (10 * n + 5 * me_ch (a.kd p) + k); unfold me_FU; omega) hC hF (fun j' _ q => Nat.lt_irrefl _ q)
    rw [ex] at g1
    obtain ⟨μ', k1, k2, k3, k4⟩ := ih f (k + 1) μ1 (by omega) (by omega) g2 (fun x j i c hx h => g3 x j i c (by
      by_cases e : x = 10 * n + 5 * me_ch (a.kd p) + k
      · exact Or.inr ⟨e, Nat.zero_le _⟩
      · exact Or.inl (by have hx : x < 10 * n + 5 * me_ch (a.kd p) + (k + 1) := hx; omega)) h)
    refine ⟨μ', ?_, k2, k3, fun k' hk' => by rw [k4 k' hk', g4 k' hk']⟩
    have er : f_Audit_findInRow μ p (me_N n) (me_N k) = some (μ1, me_N (0 + gh_pk a p (10 * n + 5 * me_ch (a.kd p) + k))) := by
      unfold f_Audit_findInRow
      rw [me_gd_n (by omega) (by omega), y_chan hC, me_bd_s, me_N_5, me_N_mul, me_N_add, me_gd_n (by omega) (by omega), me_N_ix (by omega), me_N_ix (by omega), show 10 * n + (me_ch (a.kd p) * 5 + k) = 10 * n + 5 * me_ch (a.kd p) + k by omega]
      exact g1
    show f_Audit_findPieces_b18 _ _ _ _ _ _ _ = _
    unfold f_Audit_findPieces_b18
    rw [if_neg (by rw [me_N_5, me_N_le (by omega) (by omega)]; omega), er, me_b2_s, me_N_add, me_lt_s, me_N_inc, me_lt_s, Nat.zero_add]
    have es : me_sm (gh_pk a p) 0 (10 * n + 5 * me_ch (a.kd p) + (k + 1)) = me_sm (gh_pk a p) 0 (10 * n + 5 * me_ch (a.kd p) + k) + gh_pk a p (10 * n + 5 * me_ch (a.kd p) + k) := by
      rw [show 10 * n + 5 * me_ch (a.kd p) + (k + 1) = (10 * n + 5 * me_ch (a.kd p) + k) + 1 by omega, me_sm_app, Nat.zero_add]
      rfl
    rw [← es]
    exact k1
theorem y_fp4 {a : me_S} (hI : me_Iv a) {p : Nat} (hp : p < a.np) : ∀ (d f n : Nat) (μ : me_M), n + d = a.w * a.h → d < f → me_RC a μ → gh_FS a p μ (fun x _ => x < 10 * n) → ∃ μ', f_Audit_findPieces_h4 f μ p (me_N (me_sm (gh_pk a p) 0 (10 * n))) (me_N n) = some (μ', me_N (me_sm (gh_pk a p) 0 160)) ∧ me_RC a μ' ∧ gh_FS a p μ' (fun _ _ => True) ∧ ∀ k', ¬ (k' = 33 ∨ k' = 34 ∨ k' = 35) → μ' k' = μ k' := by
  have hwh := hI.wh
  have hch := me_ch_lt (a.kd p)
  -- rows that hold none of it
  have skip : ∀ (x d : Nat), (∀ y, x ≤ y → y < x + d → gh_pk a p y = 0) → me_sm (gh_pk a p) 0 (x + d) = me_sm (gh_pk a p) 0 x := fun x d h => by
    rw [me_sm_app, Nat.zero_add, me_sm_zero _ _ h, Nat.add_zero]
  have none : ∀ x j i c, ¬ (x / 10 < a.w * a.h ∧ x % 10 / 5 = me_ch (a.kd p)) → ¬ (a.q x)[j]? = some (p, i, c) := fun x j i c h q => by
    obtain ⟨b1, -, -, b4, -⟩ := hI.2.2.2.2.1.iel x _ (List.mem_of_getElem? q)
    exact h ⟨b1, b4.symm⟩
  intro d
  induction d with
  | zero =>
    intro f n μ h1 h2 hC hF
    obtain ⟨f, rfl⟩ : ∃ g, f = g + 1 := ⟨f - 1, by omega⟩
    refine ⟨μ, ?_, hC, fun x j i c _ h => ?_, fun _ _ => rfl⟩
    · show f_Audit_findPieces_b4 _ _ _ _ _ = _
      unfold f_Audit_findPieces_b4
      rw [hC.nn, if_pos (by rw [me_N_le (by omega) (by omega)]; omega), show 160 = 10 * n + (160 - 10 * n) by omega, skip (10 * n) (160 - 10 * n) (fun y y1 y2 => gh_pk_0 hI (fun q => by omega))]
    · by_cases e : x < 10 * n
      · exact hF x j i c e h
      · exact absurd h (none x j i c (fun q => by omega))
  | succ d ih =>
    intro f n μ h1 h2 hC hF
    obtain ⟨f, rfl⟩ : ∃ g, f = g + 1 := ⟨f - 1, by omega⟩
    obtain ⟨μ1, g1, g2, g3, g4⟩ := y_fp18 hI hp (show n < a.w * a.h by omega) (K4 := f_Audit_findPieces_h4 f) 5 me_FU 0 μ (by omega) (by unfold me_FU; omega) hC (fun x j i c hx h => by
      by_cases e : x < 10 * n
      · exact hF x j i c e h
      · exact absurd h (none x j i c (fun q => by have hx : x < 10 * n + 5 * me_ch (a.kd p) + 0 := hx; omega)))
    obtain ⟨μ', k1, k2, k3, k4⟩ := ih f (n + 1) μ1 (by omega) (by omega) g2 (fun x j i c hx h => by
      by_cases e : x < 10 * n + 5 * me_ch (a.kd p) + 5
      · exact g3 x j i c e h
      · exact absurd h (none x j i c (fun q => by have hx : x < 10 * (n + 1) := hx; omega)))
    refine ⟨μ', ?_, k2, k3, fun k' hk' => by rw [k4 k' hk', g4 k' hk']⟩
    show f_Audit_findPieces_b4 _ _ _ _ _ = _
    unfold f_Audit_findPieces_b4
    rw [hC.nn, if_neg (by rw [me_N_le (by omega) (by omega)]; omega)]
    have s1 : me_sm (gh_pk a p) 0 (10 * n + 5 * me_ch (a.kd p) + 0) = me_sm (gh_pk a p) 0 (10 * n) := skip (10 * n) (5 * me_ch (a.kd p)) (fun y y1 y2 => gh_pk_0 hI (fun q => by omega))
    have s2 : me_sm (gh_pk a p) 0 (10 * (n + 1)) = me_sm (gh_pk a p) 0 (10 * n + 5 * me_ch (a.kd p) + 5) := by
      rw [show 10 * (n + 1) = (10 * n + 5 * me_ch (a.kd p) + 5) + (5 - 5 * me_ch (a.kd p)) by omega]
      exact skip _ _ (fun y y1 y2 => gh_pk_0 hI (fun q => by omega))
    rw [s1] at g1
    rw [s2] at k1
    exact g1.trans k1
theorem gh_su_sm {F : Nat → Nat} : ∀ n, ((List.range n).map F).sum = me_sm F 0 n := by
  intro n
  induction n with
  | zero => rfl
  | succ n ih =>
    rw [List.range_succ, List.map_append, List.sum_append, ih, me_sm_app, Nat.zero_add]
    rfl
theorem y_behind {a : me_S} {μ : me_M} (hC : me_RC a μ) (hI : me_Iv a) {p i : Nat} (hp : p < a.np) (hst : a.st p = 119) (h1 : a.tk p < i) (h2 : i < a.pt p) (hF : gh_FS a p μ (fun _ _ => True)) : f_Audit_isBehind μ p (me_N i) = some 1 := by
  have hwh := hI.wh
  have g1 := hI.2.1.ibo p hp
  have g2 := hI.2.1.ipt p hp
  obtain ⟨x1, c1, m1⟩ := hI.2.2.2.2.1.iex p (i - 1) hp hst (by omega) (by omega)
  obtain ⟨x2, c2, m2⟩ := hI.2.2.2.2.1.iex p i hp hst (by omega) h2
  obtain ⟨j1, e1⟩ := List.getElem?_of_mem m1
  obtain ⟨j2, e2⟩ := List.getElem?_of_mem m2
  obtain ⟨u1, u2, u3⟩ := hF x1 j1 (i - 1) c1 trivial e1
  obtain ⟨v1, v2, v3⟩ := hF x2 j2 i c2 trivial e2
  have l1 := me_ql a hI x1
  have l2 := me_ql a hI x2
  have b1 : x1 / 10 < a.w * a.h := (hI.2.2.2.2.1.iel x1 _ m1).1
  have b2 : x2 / 10 < a.w * a.h := (hI.2.2.2.2.1.iel x2 _ m2).1
  obtain ⟨w1, d1⟩ := List.getElem?_eq_some_iff.mp e1
  obtain ⟨w2, d2⟩ := List.getElem?_eq_some_iff.mp e2
  unfold f_Audit_isBehind
  rw [show me_N i - 1 = me_N (i - 1) from me_N_sub (b := 1) (by omega), me_lt_s, if_neg (me_N_nneg (by omega)), me_gd_n (by omega) (by omega), me_N_ix (by omega), me_N_ix (by omega), u1, if_neg (me_N_nm1 (by omega)), me_gd_n (by omega) (by omega), me_gd_n (by omega) (by omega), v1]
  rcases hI.2.2.2.2.1.ifo x1 x2 _ _ m1 m2 rfl (show i - 1 < i by omega) with e | e
  · subst e
    rw [if_pos rfl, me_gd_n (by omega) (by omega), me_gd_n (by omega) (by omega), u2, v2, if_pos rfl, me_gd_n (by omega) (by omega), me_gd_n (by omega) (by omega), u3, v3, if_neg]
    rw [me_N_le (by omega) (by omega)]
    intro q
    have hpw := List.pairwise_iff_getElem.mp (hI.2.2.2.2.1.iso x1)
    by_cases ej : j2 = j1
    · rw [ej, e1] at e2
      have := congrArg (fun t => t.2.1) (Option.some.inj e2)
      have : i - 1 = i := this
      omega
    · have := hpw j2 j1 w2 w1 (by omega)
      rw [d1, d2] at this
      rcases this with s | s
      · have s : p < p := s
        omega
      · have s : i < i - 1 := s.2
        omega
  · have e : me_ds a.w (a.sr p) (x2 / 10) < me_ds a.w (a.sr p) (x1 / 10) := e
    have hsr := hI.2.1.isr p hp
    have hd : me_ds a.w (a.sr p) (x1 / 10) < 1000 := by
      have key : ∀ A B C D : Nat, A < 16 → B < 16 → C < 16 → D < 16 → (A - B) + (B - A) + ((C - D) + (D - C)) < 1000 := by
        intro A B C D q1 q2 q3 q4
        omega
      have a1 := Nat.mod_le (a.sr p) a.w
      have a2 := Nat.mod_le (x1 / 10) a.w
      have a3 := Nat.div_le_self (a.sr p) a.w
      have a4 := Nat.div_le_self (x1 / 10) a.w
      exact key _ _ _ _ (by omega) (by omega) (by omega) (by omega)
    rw [if_neg (fun q => by rw [(me_N_inj (by omega) (by omega)).mp q] at e; exact Nat.lt_irrefl _ e), me_gd_n (by omega) (by omega), hC.sr p, y_steps hC hI hsr b1, me_bd_s, me_gd_n (by omega) (by omega), y_steps hC hI hsr b2, me_bd_s, if_neg (by rw [me_N_le (by omega) (by omega)]; omega)]
theorem y_ps48 {a : me_S} {μ : me_M} (hC : me_RC a μ) (hI : me_Iv a) {p : Nat} (hp : p < a.np) (hst : a.st p = 119) (hF : gh_FS a p μ (fun _ _ => True)) : ∀ (k f i : Nat), i + k = a.pt p → a.tk p ≤ i → k < f → f_Audit_packetIsSound_h48 f μ p (me_N i) = some (μ, 1) := by
  have hwh := hI.wh
  have g1 := hI.2.1.ibo p hp
  have g2 := hI.2.1.ipt p hp
  intro k
  induction k with
  | zero =>
    intro f i h1 h2 h3
    obtain ⟨f, rfl⟩ : ∃ g, f = g + 1 := ⟨f - 1, by omega⟩
    show f_Audit_packetIsSound_b48 _ _ _ _ = _
    unfold f_Audit_packetIsSound_b48 f_Audit_packetIsSound_b96
    rw [hC.pt p, if_pos (by rw [me_N_le (by omega) (by omega)]; omega), hC.bo p hp, if_neg (by rw [me_N_lt (by omega) (by omega)]; omega)]
  | succ k ih =>
    intro f i h1 h2 h3
    obtain ⟨f, rfl⟩ : ∃ g, f = g + 1 := ⟨f - 1, by omega⟩
    obtain ⟨x2, c2, m2⟩ := hI.2.2.2.2.1.iex p i hp hst h2 (by omega)
    obtain ⟨j2, e2⟩ := List.getElem?_of_mem m2
    obtain ⟨v1, v2, v3⟩ := hF x2 j2 i c2 trivial e2
    have b2 : x2 / 10 < a.w * a.h := (hI.2.2.2.2.1.iel x2 _ m2).1
    show f_Audit_packetIsSound_b48 _ _ _ _ = _
    unfold f_Audit_packetIsSound_b48
    rw [hC.pt p, if_neg (by rw [me_N_le (by omega) (by omega)]; omega), me_N_5, if_neg (by rw [me_N_le (by omega) (by omega)]; omega), me_gd_n (by omega) (by omega), me_N_ix (by omega), v1, if_neg (me_N_nm1 (by omega)), hC.tk p]
    by_cases e : i ≤ a.tk p
    · rw [if_pos (by rw [me_N_le (by omega) (by omega)]; exact e), me_N_inc, me_lt_s]
      exact ih f (i + 1) (by omega) (by omega) (by omega)
    · rw [if_neg (by rw [me_N_le (by omega) (by omega)]; exact e), y_behind hC hI hp hst (by omega) (by omega) hF, me_bd_s, if_neg (by decide), me_N_inc, me_lt_s]
      exact ih f (i + 1) (by omega) (by omega) (by omega)
theorem y_ps2 {a : me_S} (hI : me_Iv a) {p : Nat} (hp : p < a.np) (hst : a.st p = 119) : ∀ (k f j : Nat) (μ : me_M), j + k = 5 → k < f → me_RC a μ → ∃ μ', f_Audit_packetIsSound_h2 f μ p (me_N j) = some (μ', 1) ∧ me_RC a μ' ∧ ∀ k', ¬ (k' = 33 ∨ k' = 34 ∨ k' = 35) → μ' k' = μ k' := by
  have hwh := hI.wh
  have g1 := hI.2.1.ibo p hp
  have g2 := hI.2.1.ipt p hp
  intro k
  induction k with
  | zero =>
    intro f j μ h1 h2 hC
    obtain ⟨f, rfl⟩ : ∃ g, f = g + 1 := ⟨f - 1, by omega⟩
    obtain ⟨μ', k1, k2, k3, k4⟩ := y_fp4 hI hp (a.w * a.h) me_FU 0 μ (Nat.zero_add _) (by unfold me_FU; omega) hC (fun x j i c hx _ => absurd (show x < 10 * 0 from hx) (by omega))
    have hct : me_sm (gh_pk a p) 0 160 = a.pt p - a.tk p := by
      rw [← gh_su_sm]
      exact hI.2.2.2.2.1.ict p hp (by rw [hst]; decide)
    have k1 : f_Audit_findPieces μ p = some (μ', me_N (me_sm (gh_pk a p) 0 160)) := k1
    refine ⟨μ', ?_, k2, k4⟩
    show f_Audit_packetIsSound_b2 _ _ _ _ = _
    unfold f_Audit_packetIsSound_b2
    rw [if_pos (by rw [me_N_5, me_N_le (by omega) (by omega)]; omega), k1, me_b2_s, hct, k2.pt p, k2.tk p, me_N_sub g2.1, if_pos rfl, me_max0 (by omega), me_lt_s]
    exact y_ps48 k2 hI hp hst k3 (a.pt p - a.tk p) me_FU (a.tk p) (by omega) (Nat.le_refl _) (by unfold me_FU; omega)
  | succ k ih =>
    intro f j μ h1 h2 hC
    obtain ⟨f, rfl⟩ : ∃ g, f = g + 1 := ⟨f - 1, by omega⟩
    obtain ⟨μ', k1, k2, k4⟩ := ih f (j + 1) (me_up μ 33 0 j (-1)) (by omega) (by omega) (hC.w_k33 0 j (-1))
    refine ⟨μ', ?_, k2, fun k' hk' => ?_⟩
    · show f_Audit_packetIsSound_b2 _ _ _ _ = _
      unfold f_Audit_packetIsSound_b2
      rw [if_neg (by rw [me_N_5, me_N_le (by omega) (by omega)]; omega), me_gd_n (by omega) (by omega), me_lt_s, me_N_ix (by omega), me_N_inc, me_lt_s]
      exact k1
    · rw [k4 k' hk']
      funext u v
      rw [me_up_kn (by omega)]
theorem y_pas {a : me_S} (hI : me_Iv a) : ∀ (k f p : Nat) (μ : me_M), p + k = a.np → k < f → me_RC a μ → ∃ μ', f_Y_packetsAreSound_h2 f μ (me_N p) = some (μ', 1) ∧ me_RC a μ' ∧ ∀ k', ¬ (k' = 33 ∨ k' = 34 ∨ k' = 35) → μ' k' = μ k' := by
  have hnp := hI.n200
  intro k
  induction k with
  | zero =>
    intro f p μ h1 h2 hC
    obtain ⟨f, rfl⟩ : ∃ g, f = g + 1 := ⟨f - 1, by omega⟩
    refine ⟨μ, ?_, hC, fun _ _ => rfl⟩
    show f_Y_packetsAreSound_b2 _ _ _ = _
    unfold f_Y_packetsAreSound_b2
    rw [hC.np, if_pos (by rw [me_N_le (by omega) (by omega)]; omega)]
  | succ k ih =>
    intro f p μ h1 h2 hC
    obtain ⟨f, rfl⟩ : ∃ g, f = g + 1 := ⟨f - 1, by omega⟩
    have hp : p < a.np := by omega
    by_cases e : a.st p = 119
    · obtain ⟨μ1, g1, g2, g3⟩ := y_ps2 hI hp e 5 me_FU 0 μ (by omega) (by unfold me_FU; omega) hC
      obtain ⟨μ', k1, k2, k3⟩ := ih f (p + 1) μ1 (by omega) (by omega) g2
      have g1 : f_Audit_packetIsSound μ p = some (μ1, 1) := g1
      refine ⟨μ', ?_, k2, fun k' hk' => by rw [k3 k' hk', g3 k' hk']⟩
      show f_Y_packetsAreSound_b2 _ _ _ = _
      unfold f_Y_packetsAreSound_b2
      rw [hC.np, if_neg (by rw [me_N_le (by omega) (by omega)]; omega), me_gd_n (by omega) (by omega), me_N_ix (by omega), hC.st p, if_pos e, me_gd_n (by omega) (by omega), g1, me_b2_s, if_neg (by decide), me_N_inc, me_lt_s]
      exact k1
    · obtain ⟨μ', k1, k2, k3⟩ := ih f (p + 1) μ (by omega) (by omega) hC
      refine ⟨μ', ?_, k2, k3⟩
      show f_Y_packetsAreSound_b2 _ _ _ = _
      unfold f_Y_packetsAreSound_b2
      rw [hC.np, if_neg (by rw [me_N_le (by omega) (by omega)]; omega), me_gd_n (by omega) (by omega), me_N_ix (by omega), hC.st p, if_neg e, me_N_inc, me_lt_s]
      exact k1
def gc_S (n : me_Nt) (r : me_Rt) (D : Nat → Nat → Nat → Prop) : Prop := ∀ k i j, k < me_NK → i < n k → j < (me_kt k).2.2 → ¬ D k i j → r k i j = me_r0 k i j
theorem gc_S.np {n : me_Nt} {r : me_Rt} {D D' : Nat → Nat → Nat → Prop} (h : gc_S n r D) (k : Nat) (h1 : ∀ k' i' j', D k' i' j' → D' k' i' j') (h2 : ∀ j, j < (me_kt k).2.2 → ¬ D' k (n k) j → me_r0 k (n k) j = none) : gc_S (me_np n k) (me_rn r k (n k)) D' := by
  intro k' i' j' hk hi hj hd
  unfold me_rn
  by_cases e : k' = k ∧ i' = n k
  · rw [if_pos e]
    obtain ⟨e1, e2⟩ := e
    subst e1
    subst e2
    exact (h2 j' hj hd).symm
  · rw [if_neg e]
    refine h k' i' j' hk ?_ hj (fun q => hd (h1 _ _ _ q))
    unfold me_np at hi
    by_cases ek : k' = k
    · rw [if_pos ek] at hi
      subst ek
      have : ¬ i' = n k' := fun q => e ⟨rfl, q⟩
      omega
    · rw [if_neg ek] at hi
      exact hi
theorem gc_S.np0 {n : me_Nt} {r : me_Rt} {D : Nat → Nat → Nat → Prop} (h : gc_S n r D) (k : Nat) (h2 : ∀ i j, me_r0 k i j = none) : gc_S (me_np n k) (me_rn r k (n k)) D := h.np k (fun _ _ _ q => q) (fun j _ _ => h2 _ j)
theorem gc_S.ru {n : me_Nt} {r : me_Rt} {D D' : Nat → Nat → Nat → Prop} (h : gc_S n r D) (k i j : Nat) (q : Nat × Nat) (hq : me_r0 k i j = some q) (h1 : ∀ k' i' j', D k' i' j' → D' k' i' j' ∨ (k' = k ∧ i' = i ∧ j' = j)) : gc_S n (me_ru r k i j q) D' := by
  intro k' i' j' hk hi hj hd
  unfold me_ru
  by_cases e : k' = k ∧ i' = i ∧ j' = j
  · rw [if_pos e]
    obtain ⟨e1, e2, e3⟩ := e
    subst e1
    subst e2
    subst e3
    exact hq.symm
  · rw [if_neg e]
    exact h k' i' j' hk hi hj (fun z => (h1 _ _ _ z).elim hd e)
theorem gc_S.fin {n : me_Nt} {r : me_Rt} {D D' : Nat → Nat → Nat → Prop} (h : gc_S n r D) (h1 : ∀ k i j, j < (me_kt k).2.2 → D k i j → D' k i j) : gc_S n r D' := fun k i j hk hi hj hd => h k i j hk hi hj (fun q => hd (h1 k i j hj q))
def gc_Z (μ : me_M) (N : Nat) : Prop := (∀ k i j, ¬ k = 27 → ¬ (k = 8 ∧ j = 0 ∧ i < N) → μ k i j = 0) ∧ ∀ i, i < N → μ 8 i 0 = me_N i
theorem gc_Z.zc {μ : me_M} {N : Nat} (h : gc_Z μ N) (k i : Nat) (hk : ¬ k = 8) : gc_Z (me_zc μ k i) N := by
  refine ⟨fun k' i' j' a b => ?_, fun i' hi => ?_⟩
  · unfold me_zc
    by_cases e : k' = k ∧ i' = i
    · rw [if_pos e]
    · rw [if_neg e]
      exact h.1 k' i' j' a b
  · unfold me_zc
    rw [if_neg (fun q => hk q.1.symm)]
    exact h.2 i' hi
theorem gc_Z.pk {μ : me_M} {N : Nat} (h : gc_Z μ N) : gc_Z (me_up (me_zc μ 8 N) 8 N 0 (me_N N)) (N + 1) := by
  refine ⟨fun k' i' j' a b => ?_, fun i' hi => ?_⟩
  · rw [me_up_ap, if_neg (fun q => b ⟨q.1, q.2.2, by omega⟩)]
    unfold me_zc
    by_cases e : k' = 8 ∧ i' = N
    · rw [if_pos e]
    · rw [if_neg e]
      exact h.1 k' i' j' a (fun q => b ⟨q.1, q.2.1, by omega⟩)
  · rw [me_up_ap]
    by_cases e : i' = N
    · rw [if_pos ⟨rfl, e, rfl⟩, e]
    · rw [if_neg (fun q => e q.2.1)]
      unfold me_zc
      rw [if_neg (fun q => e q.2)]
      exact h.2 i' (by omega)
theorem gc_Z.u27 {μ : me_M} {N : Nat} (h : gc_Z μ N) (i j : Nat) (v : Int32) : gc_Z (me_up μ 27 i j v) N := ⟨fun k' i' j' a b => by rw [me_up_kn a]; exact h.1 k' i' j' a b, fun i' hi => by rw [me_up_kn (by decide)]; exact h.2 i' hi⟩
def gc_Q {α : Type} (P : α → Prop) (o : Option α) : Prop := ∃ t, o = some t ∧ P t
theorem gc_Q.lt {α β : Type} {P : β → Prop} {x : α} {f : α → Option β} (h : ∀ y, y = x → gc_Q P (f y)) : gc_Q P (me_lt x f) := h x rfl
theorem gc_Q.ift {α : Type} {P : α → Prop} {c : Prop} [Decidable c] {a b : Option α} (hc : c) (h : gc_Q P a) : gc_Q P (if c then a else b) := by
  rw [if_pos hc]
  exact h
theorem gc_Q.b3 {α : Type} {P : α → Prop} {Q : me_Nt × me_Rt × me_M → Prop} {x : Option (me_Nt × me_Rt × me_M)} {f : me_Nt → me_Rt → me_M → Option α} (hx : gc_Q Q x) (h : ∀ n r m, Q (n, r, m) → gc_Q P (f n r m)) : gc_Q P (me_b3 x f) := by
  obtain ⟨⟨n, r, m⟩, rfl, hq⟩ := hx
  exact h n r m hq
