/-! the outputs of a router, and all routers, side by side -/
theorem bb_turn {a : me_S} {W : Nat → Bool} {v : Int32} {μ ν : me_M} {n y k : Nat} (hn : n < 16) (hy : y < 10) (hk : k < 5) (hX : bb_X a (me_S.s_lr a (me_fu a.lr (10 * n + y) k)) W v 1 μ ν) : bb_F a (me_S.s_lr a (me_fu a.lr (10 * n + y) k)) μ (me_up (me_up μ 15 n y (me_N ((k + 1) % 5))) 30 0 7 1) ν ν ∧ bb_X (me_S.s_lr a (me_fu a.lr (10 * n + y) k)) (me_S.s_lr a (me_fu a.lr (10 * n + y) k)) W 1 1 (me_up (me_up μ 15 n y (me_N ((k + 1) % 5))) 30 0 7 1) ν := by
  obtain ⟨hC, hM, hI, h4, h5, h6, h7, h8, h9⟩ := hX
  refine ⟨⟨rfl, rfl, rfl, rfl, fun k' hk' => ?_, fun _ _ => rfl, rfl⟩, (hC.w_lr n y k hy).w_mv 1, hM, gh_iv_lr hI hk, ?_, me_up_at, h6, fun m hm => ?_, h8, h9⟩
  · funext i j
    rw [me_up_kn (by omega), me_up_kn (by omega)]
  · rw [me_up_jn (by decide), me_up_kn (by decide)]
    exact h4
  · rw [me_up_kn (by decide), me_up_kn (by decide)]
    exact h7 m hm
theorem bb_in {n c o L : Nat} (hc : c < 2) (ho : o < 5) (hL : L < 5) {K10 : me_M → Int32 → Int32 → Nat → Int32 → Option (me_M × Unit)} {K2 : me_M → Int32 → Int32 → Int32 → Option (me_M × Unit)} {v : Int32} : ∀ (d f f' i : Nat) (a : me_S) (W : Nat → Bool) (μ ν : me_M), i + d = 5 → d < f → d < f' → n < a.w * a.h → bb_X a a W v v μ ν → ∃ μ' ν' a' W', bb_F a a' μ μ' ν ν' ∧ ((f_Mover_giveTo_h31 K10 f μ (me_N n) (me_N o) n (me_N c) (me_N ((L + 1) % 5)) (me_N i) = K10 μ' (me_N n) (me_N o) n (me_N c - 1) ∧ f_M_routes_h21 K2 f' ν (me_N n) (me_N o) (me_N c) (me_N L) (me_N (i + 1)) = K2 ν' (me_N n) (me_N o) (me_N c - 1) ∧ bb_X a' a' W' v v μ' ν') ∨ (f_Mover_giveTo_h31 K10 f μ (me_N n) (me_N o) n (me_N c) (me_N ((L + 1) % 5)) (me_N i) = some (μ', ()) ∧ f_M_routes_h21 K2 f' ν (me_N n) (me_N o) (me_N c) (me_N L) (me_N (i + 1)) = some (ν', ()) ∧ bb_X a' a' W' 1 1 μ' ν')) := by
  intro d
  induction d with
  | zero =>
    intro f f' i a W μ ν h1 h2 h3 hn hX
    obtain ⟨f, rfl⟩ : ∃ g, f = g + 1 := ⟨f - 1, by omega⟩
    obtain ⟨f', rfl⟩ : ∃ g, f' = g + 1 := ⟨f' - 1, by omega⟩
    refine ⟨μ, ν, a, W, bb_F.re, Or.inl ⟨?_, ?_, hX⟩⟩
    · show f_Mover_giveTo_b31 _ _ _ _ _ _ _ _ _ = _
      unfold f_Mover_giveTo_b31
      rw [if_pos (by rw [me_N_5, me_N_le (by omega) (by omega)]; omega), me_inc_m1, me_lt_s]
    · show f_M_routes_b21 _ _ _ _ _ _ _ _ = _
      unfold f_M_routes_b21
      rw [if_pos (by rw [me_N_5, me_N_lt (by omega) (by omega)]; omega), me_inc_m1, me_lt_s]
  | succ d ih =>
    intro f f' i a W μ ν h1 h2 h3 hn hX
    obtain ⟨f, rfl⟩ : ∃ g, f = g + 1 := ⟨f - 1, by omega⟩
    obtain ⟨f', rfl⟩ : ∃ g, f' = g + 1 := ⟨f' - 1, by omega⟩
    have hwh := hX.2.2.1.wh
    have hk : (L + (i + 1)) % 5 < 5 := Nat.mod_lt _ (by omega)
    have ek : ((L + 1) % 5 + i) % 5 = (L + (i + 1)) % 5 := by omega
    obtain ⟨μ1, ν1, a1, W1, b, g1, g2, g3, g4⟩ := bb_gives hX hn hc hk ho
    have eA : f_Mover_giveTo_h31 K10 (f + 1) μ (me_N n) (me_N o) n (me_N c) (me_N ((L + 1) % 5)) (me_N i) = if me_bi b = 0 then f_Mover_giveTo_h31 K10 f μ1 (me_N n) (me_N o) n (me_N c) (me_N ((L + 1) % 5)) (me_N (i + 1)) else some (me_up (me_up μ1 15 n (c * 5 + o) (me_N (((L + (i + 1)) % 5 + 1) % 5))) 30 0 7 1, ()) := by
      show f_Mover_giveTo_b31 _ _ _ _ _ _ _ _ _ = _
      unfold f_Mover_giveTo_b31
      rw [if_neg (by rw [me_N_5, me_N_le (by omega) (by omega)]; omega), me_N_add, me_N_5, me_N_rem (by omega) (by omega) (by omega), ek, me_lt_s, me_N_mul, me_N_add, me_gd_n (by omega) (by omega), me_N_ix (by omega), show 10 * n + (c * 5 + (L + (i + 1)) % 5) = 5 * (2 * n + c) + (L + (i + 1)) % 5 by omega, g1, me_b2_s, me_N_add, me_gd_n (by omega) (by omega), me_N_ix (by omega), me_N_inc, me_lt_s, me_lt_s, me_lt_s, me_N_1, me_N_add, me_N_rem (by omega) (by omega) (by omega)]
    have eB : f_M_routes_h21 K2 (f' + 1) ν (me_N n) (me_N o) (me_N c) (me_N L) (me_N (i + 1)) = if me_bi b = 0 then f_M_routes_h21 K2 f' ν1 (me_N n) (me_N o) (me_N c) (me_N L) (me_N (i + 1 + 1)) else some (ν1, ()) := by
      show f_M_routes_b21 _ _ _ _ _ _ _ _ = _
      unfold f_M_routes_b21
      rw [if_neg (by rw [me_N_5, me_N_lt (by omega) (by omega)]; omega), me_N_add, me_N_5, me_N_rem (by omega) (by omega) (by omega), g2, me_b2_s, me_N_inc, me_lt_s]
    rw [eA, eB]
    cases b with
    | false =>
      rw [if_neg (by decide), if_neg (by decide)] at g4
      rw [if_pos (show me_bi false = 0 from rfl), if_pos (show me_bi false = 0 from rfl)]
      obtain ⟨μ', ν', a', W', k1, k2⟩ := ih f f' (i + 1) a1 W1 μ1 ν1 (by omega) (by omega) (by omega) (by rw [g3.1, g3.2.1]; exact hn) g4
      exact ⟨μ', ν', a', W', g3.tr_ k1, k2⟩
    | true =>
      rw [if_pos rfl, if_pos rfl] at g4
      rw [if_neg (show ¬ me_bi true = 0 by decide), if_neg (show ¬ me_bi true = 0 by decide)]
      rw [show 5 * (2 * n + c) + o = 10 * n + (c * 5 + o) by omega] at g4
      obtain ⟨k1, k2⟩ := bb_turn (show n < 16 by omega) (show c * 5 + o < 10 by omega) hk g4
      exact ⟨_, ν1, _, W1, g3.tr_ k1, Or.inr ⟨rfl, rfl, k2⟩⟩
theorem bb_ch {n c o : Nat} (hc : c < 2) (ho : o < 5) {K10 : me_M → Int32 → Int32 → Nat → Int32 → Option (me_M × Unit)} {K2 : me_M → Int32 → Int32 → Int32 → Option (me_M × Unit)} {v : Int32} {a : me_S} {W : Nat → Bool} {μ ν : me_M} (hn : n < a.w * a.h) (hX : bb_X a a W v v μ ν) : ∃ μ' ν' a' W', bb_F a a' μ μ' ν ν' ∧ ((f_Mover_giveTo_b10 K10 μ (me_N n) (me_N o) n (me_N c) = K10 μ' (me_N n) (me_N o) n (me_N c - 1) ∧ f_M_routes_b2 K2 ν (me_N n) (me_N o) (me_N c) = K2 ν' (me_N n) (me_N o) (me_N c - 1) ∧ bb_X a' a' W' v v μ' ν') ∨ (f_Mover_giveTo_b10 K10 μ (me_N n) (me_N o) n (me_N c) = some (μ', ()) ∧ f_M_routes_b2 K2 ν (me_N n) (me_N o) (me_N c) = some (ν', ()) ∧ bb_X a' a' W' 1 1 μ' ν')) := by
  obtain ⟨hC, hM, hI, -⟩ := id hX
  have hwh := hI.wh
  have hL := hI.2.2.2.2.2.2.1 (2 * n + c) o (by omega) ho
  have z1 : μ 15 n (c * 5 + o) = me_N ((a.lr (5 * (2 * n + c) + o) + 1) % 5) := by
    have := hC.lr n (c * 5 + o) (by omega) (by omega)
    rw [show 10 * n + (c * 5 + o) = 5 * (2 * n + c) + o by omega] at this
    exact this
  have z2 := hM.lr (2 * n + c) o (by omega) ho
  obtain ⟨μ', ν', a', W', k1, k2⟩ := bb_in hc ho hL (K10 := K10) (K2 := K2) 5 me_FU me_FU 0 a W μ ν (by omega) (by unfold me_FU; omega) (by unfold me_FU; omega) hn hX
  refine ⟨μ', ν', a', W', k1, ?_⟩
  have eA : f_Mover_giveTo_b10 K10 μ (me_N n) (me_N o) n (me_N c) = f_Mover_giveTo_h31 K10 me_FU μ (me_N n) (me_N o) n (me_N c) (me_N ((a.lr (5 * (2 * n + c) + o) + 1) % 5)) (me_N 0) := by
    unfold f_Mover_giveTo_b10
    rw [if_neg (me_N_nneg (by omega)), me_N_5, me_N_mul, me_N_add, me_gd_n (by omega) (by omega), me_N_ix (by omega), z1, me_lt_s]
    rfl
  have eB : f_M_routes_b2 K2 ν (me_N n) (me_N o) (me_N c) = f_M_routes_h21 K2 me_FU ν (me_N n) (me_N o) (me_N c) (me_N (a.lr (5 * (2 * n + c) + o))) (me_N (0 + 1)) := by
    unfold f_M_routes_b2
    rw [if_neg (me_N_nneg (by omega)), me_gd_n (by omega) (by omega), me_gd_n (by omega) hc, me_gd_n (by omega) ho, me_N_ix (by omega), me_N_ix (by omega), me_N_ix (by omega), z2, me_lt_s]
    rfl
  rw [eA, eB]
  exact k2
theorem bb_giveTo {n o : Nat} (ho : o < 5) {v : Int32} {a : me_S} {W : Nat → Bool} {μ ν : me_M} (hn : n < a.w * a.h) (hX : bb_X a a W v v μ ν) : ∃ μ' ν' a' W' v', f_Mover_giveTo μ (me_N n) (me_N o) = some (μ', ()) ∧ f_M_routes ν (me_N n) (me_N o) = some (ν', ()) ∧ bb_F a a' μ μ' ν ν' ∧ bb_X a' a' W' v' v' μ' ν' ∧ (v' = v ∨ v' = 1) := by
  have hwh := hX.2.2.1.wh
  have eA : f_Mover_giveTo μ (me_N n) (me_N o) = f_Mover_giveTo_b10 (f_Mover_giveTo_h10 (997 + 1 + 1)) μ (me_N n) (me_N o) n (me_N 1) := by
    unfold f_Mover_giveTo
    rw [me_gd_n (by omega) (by omega), me_N_ix (by omega)]
    rfl
  have eB : f_M_routes ν (me_N n) (me_N o) = f_M_routes_b2 (f_M_routes_h2 (997 + 1 + 1)) ν (me_N n) (me_N o) (me_N 1) := rfl
  rw [eA, eB]
  obtain ⟨μ1, ν1, a1, W1, k1, k2⟩ := bb_ch (show 1 < 2 by decide) ho (K10 := f_Mover_giveTo_h10 (997 + 1 + 1)) (K2 := f_M_routes_h2 (997 + 1 + 1)) hn hX
  rcases k2 with ⟨e1, e2, e3⟩ | ⟨e1, e2, e3⟩
  · rw [e1, e2]
    obtain ⟨μ2, ν2, a2, W2, q1, q2⟩ := bb_ch (show 0 < 2 by decide) ho (K10 := f_Mover_giveTo_h10 (997 + 1)) (K2 := f_M_routes_h2 (997 + 1)) (n := n) (o := o) (by rw [k1.1, k1.2.1]; exact hn) e3
    have eA2 : f_Mover_giveTo_h10 (997 + 1 + 1) μ1 (me_N n) (me_N o) n (me_N 1 - 1) = f_Mover_giveTo_b10 (f_Mover_giveTo_h10 (997 + 1)) μ1 (me_N n) (me_N o) n (me_N 0) := rfl
    have eB2 : f_M_routes_h2 (997 + 1 + 1) ν1 (me_N n) (me_N o) (me_N 1 - 1) = f_M_routes_b2 (f_M_routes_h2 (997 + 1)) ν1 (me_N n) (me_N o) (me_N 0) := rfl
    rw [eA2, eB2]
    rcases q2 with ⟨e4, e5, e6⟩ | ⟨e4, e5, e6⟩
    · refine ⟨μ2, ν2, a2, W2, v, ?_, ?_, k1.tr_ q1, e6, Or.inl rfl⟩
      · rw [e4]
        show f_Mover_giveTo_b10 _ _ _ _ _ _ = _
        unfold f_Mover_giveTo_b10
        rw [if_pos (by decide)]
      · rw [e5]
        show f_M_routes_b2 _ _ _ _ _ = _
        unfold f_M_routes_b2
        rw [if_pos (by decide)]
    · exact ⟨μ2, ν2, a2, W2, 1, e4, e5, k1.tr_ q1, e6, Or.inr rfl⟩
  · exact ⟨μ1, ν1, a1, W1, 1, e1, e2, k1, e3, Or.inr rfl⟩
theorem me_sm_0 {g : Nat → Nat} : ∀ (d i : Nat), me_sm g i d = 0 → ∀ j, i ≤ j → j < i + d → g j = 0 := by
  intro d
  induction d with
  | zero => intro i h j h1 h2; omega
  | succ d ih =>
    intro i h j h1 h2
    have h : g i + me_sm g (i + 1) d = 0 := h
    by_cases e : j = i
    · rw [e]
      omega
    · exact ih (i + 1) (by omega) j (by omega) (by omega)
theorem m_routes0 {a : me_S} {ν : me_M} (hM : me_RM a ν) (hI : me_Iv a) {n : Nat} (hn : n < 16) (h : ∀ k, k < 10 → a.q (10 * n + k) = []) {O : Int32} {o : Nat} (eO : O = me_N o) (ho : o < 5) : f_M_routes ν (me_N n) O = some (ν, ()) := by
  have g : ∀ c k, c < 2 → k < 5 → f_M_gives ν (me_N n) (me_N c) (me_N k) O = some (ν, 0) := fun c k hc hk => by
    have e : a.q (5 * (2 * n + c) + k) = [] := by
      have := h (5 * c + k) (by omega)
      rw [show 10 * n + (5 * c + k) = 5 * (2 * n + c) + k by omega] at this
      exact this
    exact m_blk hM hn hc hk (by rw [e]; exact Nat.zero_le _) (Or.inl e)
  have inn : ∀ (K2 : me_M → Int32 → Int32 → Int32 → Option (me_M × Unit)) (c L : Nat), c < 2 → L < 1000 → ∀ (d f i : Nat), i + d = 6 → d < f → f_M_routes_h21 K2 f ν (me_N n) O (me_N c) (me_N L) (me_N i) = K2 ν (me_N n) O (me_N c - 1) := by
    intro K2 c L hc hL d
    induction d with
    | zero =>
      intro f i h1 h2
      obtain ⟨f, rfl⟩ : ∃ g, f = g + 1 := ⟨f - 1, by omega⟩
      show f_M_routes_b21 _ _ _ _ _ _ _ _ = _
      unfold f_M_routes_b21
      rw [if_pos (by rw [me_N_5, me_N_lt (by omega) (by omega)]; omega), me_inc_m1, me_lt_s]
    | succ d ih =>
      intro f i h1 h2
      obtain ⟨f, rfl⟩ : ∃ g, f = g + 1 := ⟨f - 1, by omega⟩
      show f_M_routes_b21 _ _ _ _ _ _ _ _ = _
      unfold f_M_routes_b21
      rw [if_neg (by rw [me_N_5, me_N_lt (by omega) (by omega)]; omega), me_N_add, me_N_5, me_N_rem (by omega) (by omega) (by omega), g c _ hc (Nat.mod_lt _ (by omega)), me_b2_s, if_pos (by rfl), me_N_inc, me_lt_s]
      exact ih f (i + 1) (by omega) (by omega)
  have ch : ∀ (K2 : me_M → Int32 → Int32 → Int32 → Option (me_M × Unit)) (c : Nat), c < 2 → a.lr (5 * (2 * n + c) + o) < 5 → f_M_routes_b2 K2 ν (me_N n) O (me_N c) = K2 ν (me_N n) O (me_N c - 1) := fun K2 c hc hL => by
    unfold f_M_routes_b2
    rw [if_neg (me_N_nneg (by omega)), me_gd_n (by omega) hn, me_gd_n (by omega) hc, eO, me_gd_n (by omega) ho, me_N_ix (by omega), me_N_ix (by omega), me_N_ix (by omega), hM.lr (2 * n + c) o (by omega) ho, me_lt_s, ← eO]
    exact inn K2 c _ hc (by omega) 5 me_FU 1 (by omega) (by unfold me_FU; omega)
  have eB : f_M_routes ν (me_N n) O = f_M_routes_b2 (f_M_routes_h2 (997 + 1 + 1)) ν (me_N n) O (me_N 1) := rfl
  have eB2 : f_M_routes_h2 (997 + 1 + 1) ν (me_N n) O (me_N 1 - 1) = f_M_routes_b2 (f_M_routes_h2 (997 + 1)) ν (me_N n) O (me_N 0) := rfl
  rw [eB, ch _ 1 (by decide) (hI.2.2.2.2.2.2.1 _ _ (by omega) ho), eB2, ch _ 0 (by decide) (hI.2.2.2.2.2.2.1 _ _ (by omega) ho)]
  show f_M_routes_b2 _ _ _ _ _ = _
  unfold f_M_routes_b2
  rw [if_pos (by decide)]
theorem bb_outs {n : Nat} {K2 : me_M → Int32 → Option (me_M × Unit)} {K73 : me_M → Int32 → Option (me_M × Unit)} : ∀ (d f f' o : Nat) (v : Int32) (a : me_S) (W : Nat → Bool) (μ ν : me_M), o + d = 5 → d < f → d < f' → n < a.w * a.h → a.aw n = true → bb_X a a W v v μ ν → ∃ μ' ν' a' W' v', f_Mover_moveAll_h39 K2 f μ (me_N n) (me_N o) = K2 μ' (me_N (n + 1)) ∧ f_M_beatNow_h83 K73 f' ν (me_N n) (me_N o) = K73 ν' (me_N (n + 1)) ∧ bb_F a a' μ μ' ν ν' ∧ bb_X a' a' W' v' v' μ' ν' ∧ (v' = v ∨ v' = 1) := by
  intro d
  induction d with
  | zero =>
    intro f f' o v a W μ ν h1 h2 h3 hn haw hX
    obtain ⟨f, rfl⟩ : ∃ g, f = g + 1 := ⟨f - 1, by omega⟩
    obtain ⟨f', rfl⟩ : ∃ g, f' = g + 1 := ⟨f' - 1, by omega⟩
    refine ⟨μ, ν, a, W, v, ?_, ?_, bb_F.re, hX, Or.inl rfl⟩
    · show f_Mover_moveAll_b39 _ _ _ _ _ = _
      unfold f_Mover_moveAll_b39
      rw [if_pos (by rw [me_N_5, me_N_le (by omega) (by omega)]; omega), me_N_inc, me_lt_s]
    · show f_M_beatNow_b83 _ _ _ _ _ = _
      unfold f_M_beatNow_b83
      rw [if_pos (by rw [me_N_5, me_N_le (by omega) (by omega)]; omega), me_N_inc, me_lt_s]
  | succ d ih =>
    intro f f' o v a W μ ν h1 h2 h3 hn haw hX
    obtain ⟨f, rfl⟩ : ∃ g, f = g + 1 := ⟨f - 1, by omega⟩
    obtain ⟨f', rfl⟩ : ∃ g, f' = g + 1 := ⟨f' - 1, by omega⟩
    have hwh := hX.2.2.1.wh
    have hM := hX.2.1
    obtain ⟨μ1, ν1, a1, W1, v1, g1, g2, g3, g4, g5⟩ := bb_giveTo (show o < 5 by omega) hn hX
    obtain ⟨μ', ν', a', W', v', k1, k2, k3, k4, k5⟩ := ih f f' (o + 1) v1 a1 W1 μ1 ν1 (by omega) (by omega) (by omega) (by rw [g3.1, g3.2.1]; exact hn) (by rw [g3.2.2.2.1]; exact haw) g4
    refine ⟨μ', ν', a', W', v', ?_, ?_, g3.tr_ k3, k4, ?_⟩
    · show f_Mover_moveAll_b39 _ _ _ _ _ = _
      unfold f_Mover_moveAll_b39
      rw [if_neg (by rw [me_N_5, me_N_le (by omega) (by omega)]; omega), g1, me_b2_s, me_N_inc, me_lt_s]
      exact k1
    · show f_M_beatNow_b83 _ _ _ _ _ = _
      unfold f_M_beatNow_b83
      rw [if_neg (by rw [me_N_5, me_N_le (by omega) (by omega)]; omega), me_gd_n (by omega) (by omega), me_N_ix (by omega), hM.aw n (by omega), haw, if_pos (by rfl), g2, me_b2_s, me_N_inc, me_lt_s]
      exact k2
    · rcases k5 with q | q
      · rcases g5 with r | r
        · exact Or.inl (q.trans r)
        · exact Or.inr (q.trans r)
      · exact Or.inr q
theorem m_outs0 {a : me_S} {ν : me_M} (hM : me_RM a ν) (hI : me_Iv a) {n : Nat} (hn : n < 16) (h : ∀ k, k < 10 → a.q (10 * n + k) = []) (haw : a.aw n = true) {K73 : me_M → Int32 → Option (me_M × Unit)} : ∀ (d f o : Nat), o + d = 5 → d < f → f_M_beatNow_h83 K73 f ν (me_N n) (me_N o) = K73 ν (me_N (n + 1)) := by
  intro d
  induction d with
  | zero =>
    intro f o h1 h2
    obtain ⟨f, rfl⟩ : ∃ g, f = g + 1 := ⟨f - 1, by omega⟩
    show f_M_beatNow_b83 _ _ _ _ _ = _
    unfold f_M_beatNow_b83
    rw [if_pos (by rw [me_N_5, me_N_le (by omega) (by omega)]; omega), me_N_inc, me_lt_s]
  | succ d ih =>
    intro f o h1 h2
    obtain ⟨f, rfl⟩ : ∃ g, f = g + 1 := ⟨f - 1, by omega⟩
    show f_M_beatNow_b83 _ _ _ _ _ = _
    unfold f_M_beatNow_b83
    rw [if_neg (by rw [me_N_5, me_N_le (by omega) (by omega)]; omega), me_gd_n (by omega) (by omega), me_N_ix (by omega), hM.aw n (by omega), haw, if_pos (by rfl), m_routes0 hM hI hn h rfl (show o < 5 by omega), me_b2_s, me_N_inc, me_lt_s]
    exact ih f (o + 1) (by omega) (by omega)
theorem bb_moves : ∀ (d f f' n : Nat) (v : Int32) (a : me_S) (W : Nat → Bool) (μ ν : me_M), n + d = a.w * a.h → d < f → d < f' → bb_X a a W v v μ ν → ∃ μ' ν' a' W' v', f_Mover_moveAll_h2 f μ (me_N n) = some (μ', ()) ∧ f_M_beatNow_h73 f' ν (me_N n) = f_M_beatNow_h117 me_FU ν' 0 ∧ bb_F a a' μ μ' ν ν' ∧ bb_X a' a' W' v' v' μ' ν' ∧ (v' = v ∨ v' = 1) := by
  intro d
  induction d with
  | zero =>
    intro f f' n v a W μ ν h1 h2 h3 hX
    obtain ⟨f, rfl⟩ : ∃ g, f = g + 1 := ⟨f - 1, by omega⟩
    obtain ⟨f', rfl⟩ : ∃ g, f' = g + 1 := ⟨f' - 1, by omega⟩
    have hwh := hX.2.2.1.wh
    have hC := hX.1
    have hM := hX.2.1
    refine ⟨μ, ν, a, W, v, ?_, ?_, bb_F.re, hX, Or.inl rfl⟩
    · show f_Mover_moveAll_b2 _ _ _ = _
      unfold f_Mover_moveAll_b2
      rw [hC.nn, if_pos (by rw [me_N_le (by omega) (by omega)]; omega)]
    · show f_M_beatNow_b73 _ _ _ = _
      unfold f_M_beatNow_b73 f_M_nodes
      rw [hM.w, hM.h, me_N_mul, me_bd_s, if_pos (by rw [me_N_le (by omega) (by omega)]; omega)]
  | succ d ih =>
    intro f f' n v a W μ ν h1 h2 h3 hX
    obtain ⟨f, rfl⟩ : ∃ g, f = g + 1 := ⟨f - 1, by omega⟩
    obtain ⟨f', rfl⟩ : ∃ g, f' = g + 1 := ⟨f' - 1, by omega⟩
    have hI := hX.2.2.1
    have hwh := hI.wh
    have hC := hX.1
    have hM := hX.2.1
    have hlen : me_sm (fun k => gh_ln a (10 * n + k)) 0 10 ≤ 4 * 10 := me_sm_le (fun k => me_ql a hI _) 10 0
    have eA : f_Mover_moveAll_h2 (f + 1) μ (me_N n) = if a.aw n = true then (if me_sm (fun k => gh_ln a (10 * n + k)) 0 10 = 0 then f_Mover_moveAll_h2 f μ (me_N (n + 1)) else f_Mover_moveAll_h39 (f_Mover_moveAll_h2 f) me_FU μ (me_N n) (me_N 0)) else f_Mover_moveAll_h2 f μ (me_N (n + 1)) := by
      show f_Mover_moveAll_b2 _ _ _ = _
      unfold f_Mover_moveAll_b2
      rw [hC.nn, if_neg (by rw [me_N_le (by omega) (by omega)]; omega), me_gd_n (by omega) (by omega), me_gd_n (by omega) (by omega), me_N_ix (by omega), hC.aw n (by omega), y_pieces hC (by omega), me_bd_s, me_N_inc, me_lt_s]
      by_cases haw : a.aw n = true
      · rw [haw, if_neg (by decide), if_pos rfl]
        by_cases e : me_sm (fun k => gh_ln a (10 * n + k)) 0 10 = 0
        · rw [if_pos (by rw [e]; decide), if_pos e]
        · rw [if_neg (by rw [me_N_0, me_N_le (by omega) (by omega)]; omega), if_neg e]
          rfl
      · rw [show a.aw n = false by cases hb : a.aw n with | true => exact absurd hb haw | false => rfl, if_pos (by rfl), if_neg (by decide)]
    have eB : f_M_beatNow_h73 (f' + 1) ν (me_N n) = f_M_beatNow_h83 (f_M_beatNow_h73 f') me_FU ν (me_N n) (me_N 0) := by
      show f_M_beatNow_b73 _ _ _ = _
      unfold f_M_beatNow_b73 f_M_nodes
      rw [hM.w, hM.h, me_N_mul, me_bd_s, if_neg (by rw [me_N_le (by omega) (by omega)]; omega)]
      rfl
    rw [eA, eB]
    by_cases haw : a.aw n = true
    · rw [if_pos haw]
      by_cases e : me_sm (fun k => gh_ln a (10 * n + k)) 0 10 = 0
      · rw [if_pos e, m_outs0 hM hI (by omega) (fun k hk => List.length_eq_zero_iff.mp (me_sm_0 10 0 e k (by omega) (by omega))) haw 5 me_FU 0 (by omega) (by unfold me_FU; omega)]
        exact ih f f' (n + 1) v a W μ ν (by omega) (by omega) (by omega) hX
      · rw [if_neg e]
        obtain ⟨μ1, ν1, a1, W1, v1, g1, g2, g3, g4, g5⟩ := bb_outs (n := n) (K2 := f_Mover_moveAll_h2 f) (K73 := f_M_beatNow_h73 f') 5 me_FU me_FU 0 v a W μ ν (by omega) (by unfold me_FU; omega) (by unfold me_FU; omega) (by omega) haw hX
        rw [g1, g2]
        obtain ⟨μ', ν', a', W', v', k1, k2, k3, k4, k5⟩ := ih f f' (n + 1) v1 a1 W1 μ1 ν1 (by rw [g3.1, g3.2.1]; omega) (by omega) (by omega) g4
        refine ⟨μ', ν', a', W', v', k1, k2, g3.tr_ k3, k4, ?_⟩
        rcases k5 with q | q
        · rcases g5 with r | r
          · exact Or.inl (q.trans r)
          · exact Or.inr (q.trans r)
        · exact Or.inr q
    · rw [if_neg haw]
      have eC : f_M_beatNow_h83 (f_M_beatNow_h73 f') me_FU ν (me_N n) (me_N 0) = f_M_beatNow_h73 f' ν (me_N (n + 1)) := by
        show f_M_beatNow_b83 (f_M_beatNow_h73 f') (f_M_beatNow_h83 (f_M_beatNow_h73 f') 999) ν (me_N n) (me_N 0) = _
        unfold f_M_beatNow_b83
        rw [if_neg (by decide), me_gd_n (by omega) (by omega), me_N_ix (by omega), hM.aw n (by omega), show a.aw n = false by cases hb : a.aw n with | true => exact absurd hb haw | false => rfl, if_neg (by decide), me_N_inc, me_lt_s]
      rw [eC]
      exact ih f f' (n + 1) v a W μ ν (by omega) (by omega) (by omega) hX
