/-! a beat, and beats -/
theorem me_IP.mono {w h np ow bt : Nat} {kd st : Nat → Int32} {sr gl bo pt tk ma : Nat → Nat} {dn : Nat → Option Nat} {pl : Nat → Nat} {an : Nat → Option Nat} (hP : me_IP w h np ow bt kd st sr gl bo pt tk ma dn pl an) : me_IP w h np ow (bt + 1) kd st sr gl bo pt tk ma dn pl an :=
  me_IP.mk hP.ile hP.iow hP.ikd hP.ist hP.isr hP.igl hP.ibo hP.ipt (fun i hi => Nat.le_succ_of_le (hP.ima i hi)) (fun i hi h1 => by
    obtain ⟨t, h2, h3, h4⟩ := hP.idn i hi h1
    exact ⟨t, h2, h3, by omega⟩) (fun i t hi h1 => Nat.le_succ_of_le (hP.idm i t hi h1)) hP.ipl hP.ian hP.is0 hP.is1 hP.is2
/-- the ghost as the beat has ended -/
noncomputable def gh_en (a : me_S) (W : Nat → Bool) : me_S := me_S.s_bt (gh_w1 (gh_bar a) W (a.w * a.h)) (a.bt + 1)
theorem gh_iv_b1 {a : me_S} (hI : me_Iv a) (m : Nat) : me_Iv (gh_b1 a m) := by
  have h := hI.2.2.1
  refine ⟨hI.1, hI.2.1, me_IC.mk h.idp h.iln (fun n => ?_) (fun n => ?_) h.ifa h.iok (fun n e => ?_) (fun n e => ?_), hI.2.2.2⟩
  · show (if n < m ∧ a.co n = 98 then a.ca n + 1 else a.ca n) ≤ 12
    by_cases g : n < m ∧ a.co n = 98
    · rw [if_pos g]
      have h1 := h.ibt n g.2
      have h2 := h.iln n
      omega
    · rw [if_neg g]
      exact h.ica n
  · show (if n < m ∧ a.co n = 98 then 114 else a.co n) = 45 ∨ (if n < m ∧ a.co n = 98 then 114 else a.co n) = 114 ∨ (if n < m ∧ a.co n = 98 then 114 else a.co n) = 119 ∨ (if n < m ∧ a.co n = 98 then 114 else a.co n) = 98 ∨ (if n < m ∧ a.co n = 98 then 114 else a.co n) = 104 ∨ (if n < m ∧ a.co n = 98 then 114 else a.co n) = 120
    by_cases g : n < m ∧ a.co n = 98
    · rw [if_pos g]
      exact Or.inr (Or.inl rfl)
    · rw [if_neg g]
      exact h.ico n
  · have e : (if n < m ∧ a.co n = 98 then 114 else a.co n) = 119 := e
    show (if n < m ∧ a.co n = 98 then a.ca n + 1 else a.ca n) < a.ln n ∧ a.nm n (if n < m ∧ a.co n = 98 then a.ca n + 1 else a.ca n) = 114
    by_cases g : n < m ∧ a.co n = 98
    · rw [if_pos g] at e
      exact absurd e (by decide)
    · rw [if_neg g] at e ⊢
      exact h.iwt n e
  · have e : (if n < m ∧ a.co n = 98 then 114 else a.co n) = 98 := e
    show (if n < m ∧ a.co n = 98 then a.ca n + 1 else a.ca n) < a.ln n
    by_cases g : n < m ∧ a.co n = 98
    · rw [if_pos g] at e
      exact absurd e (by decide)
    · rw [if_neg g] at e ⊢
      exact h.ibt n e
theorem gh_iv_w1 {a : me_S} (hI : me_Iv a) (W : Nat → Bool) (m : Nat) : me_Iv (gh_w1 a W m) := by
  obtain ⟨h0, hP, hC, hT, hW, hF, hlr, hrg0, hfp⟩ := hI
  refine ⟨h0, hP, hC, hT, ?_, hF, hlr, hrg0, hfp⟩
  refine (me_Wl.mk hW.wl.iel hW.wl.idi hW.wl.icr hW.wl.ice hW.wl.iow hW.wl.iun hW.wl.ifo hW.wl.ion hW.wl.ivd hW.wl.itl hW.wl.ihm hW.wl.ifi hW.wl.ihd hW.wl.iex hW.wl.ifp (fun x e => ?_)).wm hW.in4 hW.iso hW.ict
  have e : (a.aw (x / 10) || (decide (x / 10 < m) && W (x / 10))) = false := e
  rw [Bool.or_eq_false_iff] at e
  exact hW.wl.isl x e.1
theorem gh_iv_bt {a : me_S} (hI : me_Iv a) : me_Iv (me_S.s_bt a (a.bt + 1)) := by
  obtain ⟨h0, hP, hC, hT, hW, hF, hlr, hrg0, hfp⟩ := hI
  exact ⟨h0, hP.mono, hC, hT, hW, hF, hlr, fun r => Nat.le_succ_of_le (hrg0 r), hfp⟩
theorem gh_bar_c {a : me_S} : ((∃ i, i < a.w * a.h ∧ gh_ac a i) ∧ gh_bar a = a) ∨ ((¬ ∃ i, i < a.w * a.h ∧ gh_ac a i) ∧ gh_bar a = gh_b1 a (a.w * a.h)) := by
  unfold gh_bar
  by_cases h : ∃ i, i < a.w * a.h ∧ gh_ac a i
  · exact Or.inl ⟨h, if_pos h⟩
  · exact Or.inr ⟨h, if_neg h⟩
theorem gh_en_iv {a : me_S} (hI : me_Iv a) (W : Nat → Bool) : me_Iv (gh_en a W) := by
  unfold gh_en
  rcases gh_bar_c (a := a) with ⟨-, e⟩ | ⟨-, e⟩
  · rw [e]
    exact gh_iv_bt (gh_iv_w1 hI W _)
  · rw [e]
    exact gh_iv_bt (gh_iv_w1 (gh_iv_b1 hI _) W _)
theorem gh_en_k {a : me_S} {W : Nat → Bool} : (gh_en a W).w = a.w ∧ (gh_en a W).h = a.h ∧ (gh_en a W).bt = a.bt + 1 := by
  unfold gh_en
  rcases gh_bar_c (a := a) with ⟨-, e⟩ | ⟨-, e⟩
  · rw [e]
    exact ⟨rfl, rfl, rfl⟩
  · rw [e]
    exact ⟨rfl, rfl, rfl⟩
theorem y_endb {a : me_S} {W : Nat → Bool} {v v' : Int32} {μ ν : me_M} (hX : bb_X a a W v v' μ ν) : ∃ μ1 μ2, f_Works_passBarrier μ = some (μ1, ()) ∧ f_Mover_endBeat μ1 = some (μ2, ()) ∧ me_RC (gh_en a W) μ2 ∧ (∀ n, n < 16 → μ2 13 n 4 = 0) ∧ μ2 30 0 7 = v ∧ ∀ k, 36 ≤ k → μ2 k = μ k := by
  obtain ⟨hC, hM, hI, h4, h5, h6, h7, h8, h9⟩ := hX
  have hwh := hI.wh
  obtain ⟨μ1, k1, k2, k3⟩ := y_bar hC hwh.1
  have ew : (gh_bar a).w = a.w ∧ (gh_bar a).h = a.h := by
    rcases gh_bar_c (a := a) with ⟨-, e⟩ | ⟨-, e⟩
    · rw [e]; exact ⟨rfl, rfl⟩
    · rw [e]; exact ⟨rfl, rfl⟩
  obtain ⟨μ2, q1, q2, q3, q4, q5⟩ := y_end (a := gh_bar a) (W := W) (B := a.bt + 1) (by rw [ew.1, ew.2]; exact hwh.1) (a.w * a.h) me_FU 0 μ1 (by rw [ew.1, ew.2, Nat.zero_add]) (by unfold me_FU; omega) (k2.eq gh_w1_0) (by rw [k3 30 (by decide)]; exact h4) (fun n _ hn => by rw [k3 13 (by decide)]; exact h7 n hn) (fun n hn => absurd hn (Nat.not_lt_zero n)) (by rw [ew.1, ew.2]; exact h9)
  rw [ew.1, ew.2] at q2
  exact ⟨μ1, μ2, k1, q1, q2, q3, by rw [q4, k3 30 (by decide)]; exact h5, fun k hk => by rw [q5 k (by omega) (by omega), k3 k (by omega)]⟩
theorem m_endb {a : me_S} {W : Nat → Bool} {v v' : Int32} {μ ν : me_M} (hX : bb_X a a W v v' μ ν) : ∃ ν', f_M_beatNow_h149 me_FU ν 0 0 0 = some (ν', ()) ∧ me_RM (gh_en a W) ν' ∧ ν' 36 0 5 = v' ∧ ν' 36 0 42 = ν 36 0 42 ∧ ∀ k, k < 36 → ν' k = ν k := by
  obtain ⟨hC, hM, hI, h4, h5, h6, h7, h8, h9⟩ := hX
  have hwh := hI.wh
  obtain ⟨ν1, p, q, k1, k2, k3, k4, k5⟩ := m_149 (a := a) (W := W) hwh.1 (a.w * a.h) me_FU 0 false false ν (Nat.zero_add _) (by unfold me_FU; omega) (hM.eq gh_w1_0.m) h8
  have k1 : f_M_beatNow_h149 me_FU ν 0 0 0 = f_M_beatNow_h237 me_FU ν1 (me_bi p) (me_bi q) 0 := k1
  have zw : ν1 36 0 0 = me_N a.w := k2.w
  have zh : ν1 36 0 1 = me_N a.h := k2.h
  have zb : ν1 36 0 4 = me_N a.bt := k2.bt
  have b1 : me_RM (me_S.s_bt (gh_w1 a W (a.w * a.h)) (a.bt + 1)) (me_up ν1 36 0 4 (me_N (a.bt + 1))) := k2.w_bt (a.bt + 1)
  have f1 : ∀ k, k < 36 → me_up ν1 36 0 4 (me_N (a.bt + 1)) k = ν k := fun k hk => by
    funext i j
    rw [me_up_kn (by omega), k5 k (by omega)]
  have e288 : f_M_beatNow_b288 ν1 = some (me_up ν1 36 0 4 (me_N (a.bt + 1)), ()) := by
    unfold f_M_beatNow_b288
    rw [zb, me_N_1, me_N_add, me_lt_s]
  -- where no more is done than the count
  have quick : (p = false ∨ q = true) → f_M_beatNow_h237 me_FU ν1 (me_bi p) (me_bi q) 0 = some (me_up ν1 36 0 4 (me_N (a.bt + 1)), ()) := fun g => by
    show f_M_beatNow_b237 (f_M_beatNow_h237 999) ν1 (me_bi p) (me_bi q) (me_N 0) = _
    unfold f_M_beatNow_b237 f_M_nodes
    rw [zw, zh, me_N_mul, me_bd_s, e288]
    split
    · rfl
    · rcases g with g | g
      · rw [g, if_pos (show me_bi false = 0 from rfl)]
      · rw [g, if_neg (show ¬ me_bi true = 0 by decide)]
        split
        · rfl
        · rfl
  unfold gh_en
  rcases gh_bar_c (a := a) with ⟨⟨i, i1, i2⟩, e⟩ | ⟨hno, e⟩
  · have hq : q = true := k4.mpr (Or.inr ⟨i, Nat.zero_le _, i1, i2⟩)
    rw [e]
    exact ⟨_, k1.trans (quick (Or.inr hq)), b1, by rw [me_up_jn (by decide), k5 36 (by decide)]; exact h6, by rw [me_up_jn (by decide), k5 36 (by decide)], f1⟩
  · have hq : q = false := by
      cases hq : q with
      | false => rfl
      | true =>
        rcases k4.mp hq with g | ⟨i, -, g2, g3⟩
        · cases g
        · exact absurd ⟨i, g2, g3⟩ hno
    rw [e]
    cases hp : p with
    | false =>
      have hno2 : ∀ i, i < a.w * a.h → ¬ a.co i = 98 := fun i hi h => by
        have := k3.mpr (Or.inr ⟨i, Nat.zero_le _, hi, h⟩)
        rw [hp] at this
        cases this
      have eb : gh_b1 a (a.w * a.h) = me_S.s_ca (me_S.s_co a a.co) a.ca := by
        unfold gh_b1
        congr 1
        · congr 1
          funext n
          exact if_neg (fun g => hno2 n g.1 g.2)
        · funext n
          exact if_neg (fun g => hno2 n g.1 g.2)
      refine ⟨_, k1.trans (quick (Or.inl hp)), ?_, by rw [me_up_jn (by decide), k5 36 (by decide)]; exact h6, by rw [me_up_jn (by decide), k5 36 (by decide)], f1⟩
      rw [eb]
      exact b1.eq ⟨rfl, rfl, rfl, rfl, rfl, rfl, rfl, rfl, rfl, rfl, rfl, rfl, rfl, rfl, rfl, rfl, rfl, rfl, rfl, rfl, rfl, rfl, rfl, rfl, rfl, rfl, rfl, rfl, rfl, rfl, rfl, rfl, rfl, rfl, rfl, rfl, rfl⟩
    | true =>
      obtain ⟨ν2, r1, r2, r3, r4⟩ := m_237 (a := gh_w1 a W (a.w * a.h)) hwh.1 (a.w * a.h) me_FU 0 ν1 (Nat.zero_add _) (by unfold me_FU; omega) (k2.eq gh_b1_0.m)
      rw [hp, hq] at k1
      refine ⟨ν2, k1.trans r1, r2.eq ⟨rfl, rfl, rfl, rfl, rfl, rfl, rfl, rfl, rfl, rfl, rfl, rfl, rfl, rfl, rfl, rfl, rfl, rfl, rfl, rfl, rfl, rfl, rfl, rfl, rfl, rfl, rfl, rfl, rfl, rfl, rfl, rfl, rfl, rfl, rfl, rfl, rfl⟩, by rw [r4 5 (by decide), k5 36 (by decide)]; exact h6, by rw [r4 42 (by decide), k5 36 (by decide)], fun k hk => by rw [r3 k (by omega), k5 k (by omega)]⟩
/-- between two beats -/
def bb_B (a : me_S) (μ ν : me_M) : Prop := me_RC a μ ∧ me_RM a ν ∧ me_Iv a ∧ ∀ n, n < 16 → μ 13 n 4 = 0
theorem m_h7 {a : me_S} {ν : me_M} (hM : me_RM a ν) (hwh : a.w * a.h ≤ 16) : ∀ (d f m : Nat) (ν1 : me_M), m + d = a.w * a.h → d < f → (∀ k, ¬ k = 86 → ν1 k = ν k) → (∀ n, n < m → ν1 86 0 n = 0) → ∃ ν', f_M_beatNow_h7 f ν1 (me_N m) = f_M_beatNow_h30 me_FU ν' 0 ∧ (∀ k, ¬ k = 86 → ν' k = ν k) ∧ ∀ n, n < a.w * a.h → ν' 86 0 n = 0 := by
  intro d
  induction d with
  | zero =>
    intro f m ν1 h1 h2 hf hz
    obtain ⟨f, rfl⟩ : ∃ g, f = g + 1 := ⟨f - 1, by omega⟩
    refine ⟨ν1, ?_, hf, fun n hn => hz n (by omega)⟩
    show f_M_beatNow_b7 _ _ _ = _
    unfold f_M_beatNow_b7 f_M_nodes
    rw [hf 36 (by decide), hM.w, hM.h, me_N_mul, me_bd_s, if_pos (by rw [me_N_le (by omega) (by omega)]; omega)]
  | succ d ih =>
    intro f m ν1 h1 h2 hf hz
    obtain ⟨f, rfl⟩ : ∃ g, f = g + 1 := ⟨f - 1, by omega⟩
    obtain ⟨ν', k1, k2⟩ := ih f (m + 1) (me_up ν1 86 0 m 0) (by omega) (by omega) (fun k hk => by
      funext i j
      rw [me_up_kn hk, hf k hk]) (fun n hn => by
      rw [me_up_ap]
      by_cases e : n = m
      · rw [if_pos ⟨rfl, rfl, e⟩]
      · rw [if_neg (fun q => e q.2.2)]
        exact hz n (by omega))
    refine ⟨ν', ?_, k2⟩
    show f_M_beatNow_b7 _ _ _ = _
    unfold f_M_beatNow_b7 f_M_nodes
    rw [hf 36 (by decide), hM.w, hM.h, me_N_mul, me_bd_s, if_neg (by rw [me_N_le (by omega) (by omega)]; omega), me_gd_n (by omega) (by omega), me_N_ix (by omega), show vp_nar .boolean 0 = (0 : Int32) from rfl, me_lt_s, me_N_inc, me_lt_s]
    exact k1
/-- one beat, on both sides -/
theorem bb_beat {a : me_S} {μ ν : me_M} (hB : bb_B a μ ν) {K10 : me_M → Int32 → Int32 → Option (me_M × (Except Nat Int32))} {m i : Nat} (hi : i < m) (hm : m ≤ 100) : ∃ μ' ν' a' v, f_Y_beats_b10 K10 μ (me_N m) (me_N i) = K10 μ' (me_N m) (me_N (i + 1)) ∧ f_M_beatNow ν = some (ν', ()) ∧ bb_B a' μ' ν' ∧ a'.bt = a.bt + 1 ∧ (v = 0 ∨ v = 1) ∧ μ' 30 0 7 = v ∧ ν' 36 0 5 = v ∧ (∀ k, 36 ≤ k → μ' k = μ k) ∧ (∀ k, k < 36 → ν' k = ν k) ∧ ν' 36 0 42 = ν 36 0 42 := by
  obtain ⟨hC, hM, hI, hz⟩ := hB
  have hwh := hI.wh
  have c1 : me_RC a (me_up (me_up μ 30 0 6 (me_N (a.bt + 1))) 30 0 7 0) := (hC.w_nw _).w_mv 0
  have m1 : me_RM a (me_up ν 36 0 5 0) := hM.w_mv 0
  obtain ⟨ν1, e7, f7, z7⟩ := m_h7 m1 hwh.1 (a.w * a.h) me_FU 0 _ (Nat.zero_add _) (by unfold me_FU; omega) (fun _ _ => rfl) (fun n hn => absurd hn (Nat.not_lt_zero n))
  have m2 : me_RM a ν1 := m1.co_ (fun k hk => ⟨fun i j e => Or.inr (by rw [f7 k (by omega)]), fun _ h86 _ => f7 k h86⟩)
  have hX : bb_X a a (fun _ => false) 0 0 (me_up (me_up μ 30 0 6 (me_N (a.bt + 1))) 30 0 7 0) ν1 := by
    refine ⟨c1, m2, hI, by rw [me_up_jn (by decide), me_up_at], me_up_at, by rw [f7 36 (by decide), me_up_at], fun n hn => ?_, fun n hn => z7 n hn, fun n _ => rfl⟩
    rw [me_up_kn (by decide), me_up_kn (by decide)]
    exact hz n hn
  obtain ⟨μ2, ν2, a2, p1, p2, p3, p4⟩ := bb_cores (a.w * a.h) me_FU me_FU 0 a _ ν1 (Nat.zero_add _) (by unfold me_FU; omega) (by unfold me_FU; omega) hX
  have hwh2 : a2.w * a2.h = a.w * a.h := by rw [p3.1, p3.2.1]
  obtain ⟨μ3, ν3, a3, W3, v3, q1, q2, q3, q4, q5⟩ := bb_moves (a.w * a.h) me_FU me_FU 0 0 a2 (fun _ => false) μ2 ν2 (by rw [hwh2, Nat.zero_add]) (by unfold me_FU; omega) (by unfold me_FU; omega) p4
  have hwh3 : a3.w * a3.h = a.w * a.h := by rw [q3.1, q3.2.1, hwh2]
  obtain ⟨μ4, ν4, a4, W4, v4, r1, r2, r3, r4, r5⟩ := bb_puts (a.w * a.h) me_FU me_FU 0 v3 a3 W3 μ3 ν3 (by rw [hwh3, Nat.zero_add]) (by unfold me_FU; omega) (by unfold me_FU; omega) q4
  obtain ⟨μ5, μ6, s1, s2, s3, s4, s5, s6⟩ := y_endb r4
  obtain ⟨ν6, t1, t2, t3, t4, t5⟩ := m_endb r4
  obtain ⟨g1, g2, g3⟩ := gh_en_k (a := a4) (W := W4)
  have hv4 : v4 = 0 ∨ v4 = 1 := by
    rcases r5 with h | h
    · rw [h]
      rcases q5 with h | h
      · exact Or.inl h
      · exact Or.inr h
    · exact Or.inr h
  have fr := (p3.tr_ q3).tr_ r3
  refine ⟨μ6, ν6, gh_en a4 W4, v4, ?_, ?_, ⟨s3, t2, gh_en_iv r4.2.2.1 W4, s4⟩, ?_, hv4, s5, t3, fun k hk => ?_, fun k hk => ?_, ?_⟩
  · unfold f_Y_beats_b10 f_Mover_beginBeat
    have p1 : f_Works_runCores (me_up (me_up μ 30 0 6 (me_N (a.bt + 1))) 30 0 7 0) (me_N a.bt) = some (μ2, ()) := p1
    have q1 : f_Mover_moveAll μ2 = some (μ3, ()) := q1
    have r1 : f_Mover_putAll μ3 = some (μ4, ()) := r1
    rw [if_neg (by rw [me_N_le (by omega) (by omega)]; omega), hC.bt, me_N_1, me_N_add, me_lt_s, me_lt_s, me_b2_s, me_up_jn (show ¬ 5 = 7 by decide), me_up_jn (show ¬ 5 = 6 by decide), hC.bt, p1, me_b2_s, q1, me_b2_s, r1, me_b2_s, s1, me_b2_s, s2, me_b2_s, me_N_inc, me_lt_s]
  · unfold f_M_beatNow
    rw [me_lt_s]
    exact e7.trans (p2.trans (q2.trans (r2.trans t1)))
  · rw [g3, fr.2.2.1]
  · rw [s6 k hk, fr.2.2.2.2.1 k hk]
    funext x y
    rw [me_up_kn (by omega), me_up_kn (by omega)]
  · rw [t5 k hk, fr.2.2.2.2.2.1 k hk, f7 k (by omega)]
    funext x y
    rw [me_up_kn (by omega)]
  · rw [t4, fr.2.2.2.2.2.2, f7 36 (by decide), me_up_jn (by decide)]
theorem bb_beats {m : Nat} (hm : m ≤ 100) : ∀ (d f f' i : Nat) (a : me_S) (μ ν : me_M), i + d = m → d < f → d < f' → bb_B a μ ν → (0 < d ∨ ∃ v, (v = 0 ∨ v = 1) ∧ μ 30 0 7 = v ∧ ν 36 0 5 = v) → ∃ μ' ν' a' v, f_Y_beats_h10 f μ (me_N m) (me_N i) = some (μ', .ok v) ∧ f_M_beats_h27 f' ν (me_N m) (me_N i) = some (ν', v) ∧ bb_B a' μ' ν' ∧ a'.bt = a.bt + d ∧ (v = 0 ∨ v = 1) ∧ (∀ k, 36 ≤ k → μ' k = μ k) ∧ (∀ k, k < 36 → ν' k = ν k) ∧ ν' 36 0 42 = ν 36 0 42 := by
  intro d
  induction d with
  | zero =>
    intro f f' i a μ ν h1 h2 h3 hB hv
    obtain ⟨f, rfl⟩ : ∃ g, f = g + 1 := ⟨f - 1, by omega⟩
    obtain ⟨f', rfl⟩ : ∃ g, f' = g + 1 := ⟨f' - 1, by omega⟩
    obtain ⟨v, hv, z1, z2⟩ := hv.resolve_left (Nat.lt_irrefl 0)
    have hnr : me_nr .boolean v = true := by
      rcases hv with h | h
      · rw [h]; exact me_nr_z
      · rw [h]; exact me_nr_o
    refine ⟨μ, ν, a, v, ?_, ?_, hB, rfl, hv, fun _ _ => rfl, fun _ _ => rfl, rfl⟩
    · show f_Y_beats_b10 _ _ _ _ = _
      unfold f_Y_beats_b10
      rw [if_pos (by rw [me_N_le (by omega) (by omega)]; omega), z1, me_gd_t hnr]
    · show f_M_beats_b27 _ _ _ _ = _
      unfold f_M_beats_b27
      rw [if_pos (by rw [me_N_le (by omega) (by omega)]; omega), z2, me_gd_t hnr]
  | succ d ih =>
    intro f f' i a μ ν h1 h2 h3 hB hv
    obtain ⟨f, rfl⟩ : ∃ g, f = g + 1 := ⟨f - 1, by omega⟩
    obtain ⟨f', rfl⟩ : ∃ g, f' = g + 1 := ⟨f' - 1, by omega⟩
    obtain ⟨μ1, ν1, a1, v1, g1, g2, g3, g4, g5, g6, g7, g8, g9, g10⟩ := bb_beat hB (K10 := f_Y_beats_h10 f) (m := m) (i := i) (by omega) hm
    obtain ⟨μ', ν', a', v, k1, k2, k3, k4, k5, k6, k7, k8⟩ := ih f f' (i + 1) a1 μ1 ν1 (by omega) (by omega) (by omega) g3 (Or.inr ⟨v1, g5, g6, g7⟩)
    refine ⟨μ', ν', a', v, ?_, ?_, k3, by omega, k5, fun k hk => by rw [k6 k hk, g8 k hk], fun k hk => by rw [k7 k hk, g9 k hk], by rw [k8, g10]⟩
    · show f_Y_beats_b10 _ _ _ _ = _
      exact g1.trans k1
    · show f_M_beats_b27 _ _ _ _ = _
      unfold f_M_beats_b27
      rw [if_neg (by rw [me_N_le (by omega) (by omega)]; omega), g2, me_b2_s, me_N_inc, me_lt_s]
      exact k2
theorem t_14 {T : Nat} {a : me_S} {μ : me_M} {o : Int64 × UInt64} {s1 s2 s3 s4 s5 : Int32} (hR : me_R T a μ) (hT1 : T + 1 ≤ 600) : ∃ μ' o' a', f_case_14 μ o s1 s2 s3 s4 s5 = some (μ', o') ∧ me_R (T + 1) a' μ' := by
  obtain ⟨hC, hM, hI, hbt, hT, hwk⟩ := id hR
  by_cases hb : me_isRg s1 1 100
  · obtain ⟨m, hm1, hm2, rfl⟩ := hb
    have e1 : f_Y_needRange μ (me_N m) 1 100 = some (.ok ()) := y_range_o (by decide) (by decide) ⟨m, hm1, hm2, rfl⟩
    obtain ⟨μ1, ν1, a1, v1, g1, g2, g3, g4, g5, g6, g7, g8⟩ := bb_beats hm2 m me_FU me_FU 0 a μ μ (Nat.zero_add _) (by unfold me_FU; omega) (by unfold me_FU; omega) ⟨hC, hM, hI, hwk⟩ (Or.inl (by omega))
    have hM1 : me_RM a μ1 := hM.co_ (fun k hk => ⟨fun i j e => Or.inr (by rw [g6 k hk]), fun _ _ _ => g6 k hk⟩)
    have hM2 : me_RM a (me_up μ1 36 0 42 0) := hM1.w_th 0
    obtain ⟨μ2, ν2, a2, v2, k1, k2, k3, k4, k5, k6, k7, k8⟩ := bb_beats hm2 m me_FU me_FU 0 a μ (me_up μ1 36 0 42 0) (Nat.zero_add _) (by unfold me_FU; omega) (by unfold me_FU; omega) ⟨hC, hM2, hI, hwk⟩ (Or.inl (by omega))
    rw [g1] at k1
    have ek := Option.some.inj k1
    have em : μ1 = μ2 := congrArg Prod.fst ek
    have ev : v1 = v2 := by
      have := congrArg Prod.snd ek
      have this : (Except.ok v1 : Except Nat Int32) = Except.ok v2 := this
      cases this
      rfl
    obtain ⟨kC, kM, kI, kw⟩ := k3
    have f36 : ∀ k, k < 36 → ν2 k = μ2 k := fun k hk => by
      rw [k7 k hk, ← em]
      funext i j
      rw [me_up_kn (by omega)]
    have z42 : ν2 36 0 42 = 0 := by rw [k8, me_up_at]
    have e4 : f_M_isIn μ1 (me_N m) 1 100 = some 1 := m_isIn_o (by decide) (by decide) ⟨m, hm1, hm2, rfl⟩
    have eY : f_Y_beats μ (me_N m) = some (μ1, .ok v1) := by
      unfold f_Y_beats
      rw [e1, me_bd_s, me_xb2_o]
      exact g1
    have eM : f_M_beats μ1 (me_N m) = some (ν2, v2) := by
      unfold f_M_beats f_M_beats_b16
      rw [e4, me_bd_s, if_neg (by decide), m_th0, me_b2_s, if_pos (by rfl)]
      exact k2
    have hRR : me_R (T + 1) a2 ν2 := by
      refine ⟨kC.co_ (fun k hk => f36 k hk), kM, kI, by omega, hT1, fun n hn => ?_⟩
      rw [f36 13 (by decide)]
      exact kw n hn
    rcases k5 with h | h
    · refine ⟨ν2, ((0 : Int64), o.2), a2, ?_, hRR⟩
      have hv1 : v1 = 0 := ev.trans h
      unfold f_case_14 f_L_beats f_M_thrown
      rw [eY, me_b2_s, me_xm_o, if_pos hv1, me_b2_s, eM, me_b2_s, z42, me_bd_s, if_pos (by rfl), if_pos (by rfl), if_pos h, if_pos (me_cmp_self _)]
    · refine ⟨ν2, ((1 : Int64), o.2), a2, ?_, hRR⟩
      have hv1 : ¬ v1 = 0 := by rw [ev, h]; decide
      have hv2 : ¬ v2 = 0 := by rw [h]; decide
      unfold f_case_14 f_L_beats f_M_thrown
      rw [eY, me_b2_s, me_xm_o, if_neg hv1, me_b2_s, eM, me_b2_s, z42, me_bd_s, if_pos (by rfl), if_pos (by rfl), if_neg hv2, if_pos (me_cmp_self _)]
  · have e1 : f_Y_needRange μ s1 1 100 = some (.error 2) := y_range_n (by decide) (by decide) hb
    have e4 : f_M_isIn μ s1 1 100 = some 0 := m_isIn_n (by decide) (by decide) hb
    refine ⟨_, o, a, ?_, (hR.th 1).mono hT1⟩
    unfold f_case_14 f_L_beats f_M_thrown f_Y_beats f_M_beats f_M_beats_b16
    rw [e1, me_bd_s, me_xb2_e, me_b2_s, me_xm_e, if_pos (by rfl), me_b2_s, e4, me_bd_s, if_pos (by rfl), m_th1, me_b2_s, if_neg (by decide), me_b2_s, me_up_at, me_bd_s, if_pos (by rfl)]
    exact if_neg (fun h => absurd (show (1 : Int32) = 0 from h) (by decide))
