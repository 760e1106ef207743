/-! the outputs of a router, where one row has pieces or none; all routers -/
theorem gb_turn {a : me_S} {W : Nat → Bool} {v : Int32} {μ : me_M} {n y k : Nat} (hn : n < 16) (hy : y < 10) (hk : k < 5) (hX : gb_X a W v μ) : gb_X (me_S.s_lr a (me_fu a.lr (10 * n + y) k)) W 1 (me_up (me_up μ 15 n y (me_N ((k + 1) % 5))) 30 0 7 1) ∧ gb_F μ (me_up (me_up μ 15 n y (me_N ((k + 1) % 5))) 30 0 7 1) := by
  obtain ⟨hC, hI, h4, h5, h7, h9⟩ := hX
  refine ⟨⟨(hC.w_lr n y k hy).w_mv 1, gh_iv_lr hI hk, ?_, me_up_at, fun m hm => ?_, h9⟩, fun k' hk' => ?_⟩
  · rw [me_up_jn (by decide), me_up_kn (by decide)]
    exact h4
  · rw [me_up_kn (by decide), me_up_kn (by decide)]
    exact h7 m hm
  · funext i j
    rw [me_up_kn (by omega), me_up_kn (by omega)]
/-- a row that is not given from: its looking at answers no and changes nothing -/
def gb_nil (μ : me_M) (n o x : Nat) : Prop := f_Mover_gives μ (me_N n) (me_N o) x = some (μ, 0)
theorem gb_step {n c o L i f : Nat} (hn : n < 16) (hc : c < 2) (ho : o < 5) (hL : L < 5) (hi : i < 5) {K10 : me_M → Int32 → Int32 → Nat → Int32 → Option (me_M × Unit)} {μ μ1 : me_M} {b : Bool} (h : f_Mover_gives μ (me_N n) (me_N o) (5 * (2 * n + c) + (L + i) % 5) = some (μ1, me_bi b)) : f_Mover_giveTo_h31 K10 (f + 1) μ (me_N n) (me_N o) n (me_N c) (me_N L) (me_N i) = if b = false then f_Mover_giveTo_h31 K10 f μ1 (me_N n) (me_N o) n (me_N c) (me_N L) (me_N (i + 1)) else some (me_up (me_up μ1 15 n (c * 5 + o) (me_N (((L + i) % 5 + 1) % 5))) 30 0 7 1, ()) := by
  have hk : (L + i) % 5 < 5 := Nat.mod_lt _ (by omega)
  show f_Mover_giveTo_b31 _ _ _ _ _ _ _ _ _ = _
  unfold f_Mover_giveTo_b31
  rw [if_neg (by rw [me_N_5, me_N_le (by omega) (by omega)]; omega), me_N_add, me_N_5, me_N_rem (by omega) (by omega) (by omega), me_lt_s, me_N_mul, me_N_add, me_gd_n (by omega) (by omega), me_N_ix (by omega), show 10 * n + (c * 5 + (L + i) % 5) = 5 * (2 * n + c) + (L + i) % 5 by omega, h, me_b2_s, me_N_add, me_gd_n (by omega) (by omega), me_N_ix (by omega), me_N_inc, me_lt_s, me_lt_s, me_lt_s, me_N_1, me_N_add, me_N_rem (by omega) (by omega) (by omega)]
  cases b with
  | false => rw [if_pos (show me_bi false = 0 from rfl), if_pos rfl]
  | true => rw [if_neg (show ¬ me_bi true = 0 by decide), if_neg (show ¬ true = false by decide)]
/-- no row of this channel gives, from the place i on -/
theorem gb_in0 {n c o L : Nat} (hn : n < 16) (hc : c < 2) (ho : o < 5) (hL : L < 5) {K10 : me_M → Int32 → Int32 → Nat → Int32 → Option (me_M × Unit)} {μ : me_M} : ∀ (d f i : Nat), i + d = 5 → d < f → (∀ i', i ≤ i' → i' < 5 → gb_nil μ n o (5 * (2 * n + c) + (L + i') % 5)) → f_Mover_giveTo_h31 K10 f μ (me_N n) (me_N o) n (me_N c) (me_N L) (me_N i) = K10 μ (me_N n) (me_N o) n (me_N c - 1) := by
  intro d
  induction d with
  | zero =>
    intro f i h1 h2 hb
    obtain ⟨f, rfl⟩ : ∃ g, f = g + 1 := ⟨f - 1, by omega⟩
    show f_Mover_giveTo_b31 _ _ _ _ _ _ _ _ _ = _
    unfold f_Mover_giveTo_b31
    rw [if_pos (by rw [me_N_5, me_N_le (by omega) (by omega)]; omega), me_inc_m1, me_lt_s]
  | succ d ih =>
    intro f i h1 h2 hb
    obtain ⟨f, rfl⟩ : ∃ g, f = g + 1 := ⟨f - 1, by omega⟩
    rw [gb_step hn hc ho hL (by omega) (b := false) (hb i (Nat.le_refl _) (by omega)), if_pos rfl]
    exact ih f (i + 1) (by omega) (by omega) (fun i' h3 h4 => hb i' (by omega) h4)
/-- one row of this channel is looked at with this outcome; the others give nothing, before it and behind it -/
theorem gb_in1 {n c o L k : Nat} (hn : n < 16) (hc : c < 2) (ho : o < 5) (hL : L < 5) (hk : k < 5) {K10 : me_M → Int32 → Int32 → Nat → Int32 → Option (me_M × Unit)} {μ μ1 : me_M} {b : Bool} (hg : f_Mover_gives μ (me_N n) (me_N o) (5 * (2 * n + c) + k) = some (μ1, me_bi b)) (hb : ∀ k', k' < 5 → ¬ k' = k → gb_nil μ n o (5 * (2 * n + c) + k')) (hb1 : ∀ k', k' < 5 → ¬ k' = k → gb_nil μ1 n o (5 * (2 * n + c) + k')) : ∀ (d f i : Nat), i + d = 5 → d < f → (∃ i', i ≤ i' ∧ i' < 5 ∧ (L + i') % 5 = k) → f_Mover_giveTo_h31 K10 f μ (me_N n) (me_N o) n (me_N c) (me_N L) (me_N i) = if b = false then K10 μ1 (me_N n) (me_N o) n (me_N c - 1) else some (me_up (me_up μ1 15 n (c * 5 + o) (me_N ((k + 1) % 5))) 30 0 7 1, ()) := by
  intro d
  induction d with
  | zero =>
    intro f i h1 h2 hi
    obtain ⟨i', h3, h4, h5⟩ := hi
    omega
  | succ d ih =>
    intro f i h1 h2 hi
    obtain ⟨f, rfl⟩ : ∃ g, f = g + 1 := ⟨f - 1, by omega⟩
    obtain ⟨i', h3, h4, h5⟩ := hi
    have hm : (L + i) % 5 < 5 := Nat.mod_lt _ (by omega)
    by_cases e : (L + i) % 5 = k
    · rw [gb_step hn hc ho hL (by omega) (b := b) (by rw [e]; exact hg), e]
      cases b with
      | true => rw [if_neg (show ¬ true = false by decide), if_neg (show ¬ true = false by decide)]
      | false =>
        rw [if_pos rfl, if_pos rfl]
        exact gb_in0 hn hc ho hL d f (i + 1) (by omega) (by omega) (fun j h6 h7 => hb1 _ (Nat.mod_lt _ (by omega)) (fun q => by
          have h8 : (L + i) % 5 = (L + j) % 5 := e.trans q.symm
          omega))
    · rw [gb_step hn hc ho hL (by omega) (b := false) (hb _ hm e), if_pos rfl]
      refine ih f (i + 1) (by omega) (by omega) ⟨i', ?_, h4, h5⟩
      by_cases q : i' = i
      · rw [q] at h5
        exact absurd h5 e
      · omega
theorem gb_ch {a : me_S} {W : Nat → Bool} {v : Int32} {μ : me_M} (hX : gb_X a W v μ) {n c o : Nat} (hn : n < a.w * a.h) (hc : c < 2) (ho : o < 5) {K10 : me_M → Int32 → Int32 → Nat → Int32 → Option (me_M × Unit)} : a.lr (5 * (2 * n + c) + o) < 5 ∧ f_Mover_giveTo_b10 K10 μ (me_N n) (me_N o) n (me_N c) = f_Mover_giveTo_h31 K10 me_FU μ (me_N n) (me_N o) n (me_N c) (me_N ((a.lr (5 * (2 * n + c) + o) + 1) % 5)) (me_N 0) := by
  obtain ⟨hC, hI, -⟩ := id hX
  have hwh := hI.wh
  have hL := hI.2.2.2.2.2.2.1 (2 * n + c) o (by omega) ho
  have z1 : μ 15 n (c * 5 + o) = me_N ((a.lr (5 * (2 * n + c) + o) + 1) % 5) := by
    have := hC.lr n (c * 5 + o) (by omega) (by omega)
    rw [show 10 * n + (c * 5 + o) = 5 * (2 * n + c) + o by omega] at this
    exact this
  refine ⟨hL, ?_⟩
  unfold f_Mover_giveTo_b10
  rw [if_neg (me_N_nneg (by omega)), me_N_5, me_N_mul, me_N_add, me_gd_n (by omega) (by omega), me_N_ix (by omega), z1, me_lt_s]
  rfl
theorem gb_to {μ : me_M} {n o : Nat} (hn : n < 16) : f_Mover_giveTo μ (me_N n) (me_N o) = f_Mover_giveTo_b10 (f_Mover_giveTo_h10 (997 + 1 + 1)) μ (me_N n) (me_N o) n (me_N 1) := by
  unfold f_Mover_giveTo
  rw [me_gd_n (by omega) (by omega), me_N_ix (by omega)]
  rfl
theorem gb_to1 {μ : me_M} {n o f : Nat} : f_Mover_giveTo_h10 (f + 1) μ (me_N n) (me_N o) n (me_N 1 - 1) = f_Mover_giveTo_b10 (f_Mover_giveTo_h10 f) μ (me_N n) (me_N o) n (me_N 0) := rfl
theorem gb_to0 {μ : me_M} {n o f : Nat} : f_Mover_giveTo_h10 (f + 1) μ (me_N n) (me_N o) n (me_N 0 - 1) = some (μ, ()) := by
  show f_Mover_giveTo_b10 _ _ _ _ _ _ = _
  unfold f_Mover_giveTo_b10
  rw [if_pos (by decide)]
/-- nothing goes to this output -/
theorem gb_out0 {a : me_S} {W : Nat → Bool} {v : Int32} {μ : me_M} (hX : gb_X a W v μ) {n o : Nat} (hn : n < a.w * a.h) (ho : o < 5) (hb : ∀ c k, c < 2 → k < 5 → gb_nil μ n o (5 * (2 * n + c) + k)) : f_Mover_giveTo μ (me_N n) (me_N o) = some (μ, ()) := by
  have hwh := hX.2.1.wh
  rw [gb_to (by omega), (gb_ch hX hn (by decide) ho).2, gb_in0 (by omega) (by decide) ho (Nat.mod_lt _ (by omega)) 5 me_FU 0 (by omega) (by unfold me_FU; omega) (fun i' _ _ => hb 1 _ (by decide) (Nat.mod_lt _ (by omega)))]
  rw [gb_to1, (gb_ch hX hn (by decide) ho).2, gb_in0 (by omega) (by decide) ho (Nat.mod_lt _ (by omega)) 5 me_FU 0 (by omega) (by unfold me_FU; omega) (fun i' _ _ => hb 0 _ (by decide) (Nat.mod_lt _ (by omega))), gb_to0]
theorem gb_turnI {L k : Nat} (hL : L < 5) (hk : k < 5) : ∃ i', 0 ≤ i' ∧ i' < 5 ∧ (L + i') % 5 = k := ⟨(k + 5 - L) % 5, Nat.zero_le _, Nat.mod_lt _ (by omega), by omega⟩
/-- one row is looked at with this outcome, the others give nothing -/
theorem gb_out1 {a : me_S} {W W1 : Nat → Bool} {v v1 : Int32} {μ μ1 : me_M} (hX : gb_X a W v μ) {a1 : me_S} (hX1 : gb_X a1 W1 v1 μ1) (ew : a1.w = a.w) (eh : a1.h = a.h) {n o c k : Nat} (hn : n < a.w * a.h) (ho : o < 5) (hc : c < 2) (hk : k < 5) {b : Bool} (hg : f_Mover_gives μ (me_N n) (me_N o) (5 * (2 * n + c) + k) = some (μ1, me_bi b)) (hb : ∀ c' k', c' < 2 → k' < 5 → ¬ (c' = c ∧ k' = k) → gb_nil μ n o (5 * (2 * n + c') + k')) (hb1 : ∀ c' k', c' < 2 → k' < 5 → ¬ (c' = c ∧ k' = k) → gb_nil μ1 n o (5 * (2 * n + c') + k')) : f_Mover_giveTo μ (me_N n) (me_N o) = if b = false then some (μ1, ()) else some (me_up (me_up μ1 15 n (c * 5 + o) (me_N ((k + 1) % 5))) 30 0 7 1, ()) := by
  have hwh := hX.2.1.wh
  have hn1 : n < a1.w * a1.h := by rw [ew, eh]; exact hn
  rw [gb_to (by omega), (gb_ch hX hn (by decide) ho).2]
  rcases (by omega : c = 0 ∨ c = 1) with e | e
  · subst e
    rw [gb_in0 (by omega) (by decide) ho (Nat.mod_lt _ (by omega)) 5 me_FU 0 (by omega) (by unfold me_FU; omega) (fun i' _ _ => hb 1 _ (by decide) (Nat.mod_lt _ (by omega)) (fun q => absurd q.1 (by decide)))]
    rw [gb_to1, (gb_ch hX hn (by decide) ho).2, gb_in1 (by omega) (by decide) ho (Nat.mod_lt _ (by omega)) hk hg (fun k' h1 h2 => hb 0 k' (by decide) h1 (fun q => h2 q.2)) (fun k' h1 h2 => hb1 0 k' (by decide) h1 (fun q => h2 q.2)) 5 me_FU 0 (by omega) (by unfold me_FU; omega) (gb_turnI (Nat.mod_lt _ (by omega)) hk), gb_to0]
  · subst e
    rw [gb_in1 (by omega) (by decide) ho (Nat.mod_lt _ (by omega)) hk hg (fun k' h1 h2 => hb 1 k' (by decide) h1 (fun q => h2 q.2)) (fun k' h1 h2 => hb1 1 k' (by decide) h1 (fun q => h2 q.2)) 5 me_FU 0 (by omega) (by unfold me_FU; omega) (gb_turnI (Nat.mod_lt _ (by omega)) hk)]
    cases b with
    | true => rw [if_neg (show ¬ true = false by decide), if_neg (show ¬ true = false by decide)]
    | false =>
      rw [if_pos rfl, if_pos rfl, gb_to1, (gb_ch hX1 hn1 (by decide) ho).2, gb_in0 (by omega) (by decide) ho (Nat.mod_lt _ (by omega)) 5 me_FU 0 (by omega) (by unfold me_FU; omega) (fun i' _ _ => hb1 0 _ (by decide) (Nat.mod_lt _ (by omega)) (fun q => absurd q.1 (by decide))), gb_to0]
/-- outputs from o on, to which nothing goes -/
theorem gb_outs0 {n : Nat} {K2 : me_M → Int32 → Option (me_M × Unit)} {μ : me_M} : ∀ (d f o : Nat), o + d = 5 → d < f → (∀ o', o ≤ o' → o' < 5 → f_Mover_giveTo μ (me_N n) (me_N o') = some (μ, ())) → f_Mover_moveAll_h39 K2 f μ (me_N n) (me_N o) = K2 μ (me_N (n + 1)) := by
  intro d
  induction d with
  | zero =>
    intro f o h1 h2 h
    obtain ⟨f, rfl⟩ : ∃ g, f = g + 1 := ⟨f - 1, by omega⟩
    show f_Mover_moveAll_b39 _ _ _ _ _ = _
    unfold f_Mover_moveAll_b39
    rw [if_pos (by rw [me_N_5, me_N_le (by omega) (by omega)]; omega), me_N_inc, me_lt_s]
  | succ d ih =>
    intro f o h1 h2 h
    obtain ⟨f, rfl⟩ : ∃ g, f = g + 1 := ⟨f - 1, by omega⟩
    show f_Mover_moveAll_b39 _ _ _ _ _ = _
    unfold f_Mover_moveAll_b39
    rw [if_neg (by rw [me_N_5, me_N_le (by omega) (by omega)]; omega), h o (Nat.le_refl _) (by omega), me_b2_s, me_N_inc, me_lt_s]
    exact ih f (o + 1) (by omega) (by omega) (fun o' h3 h4 => h o' (by omega) h4)
/-- nothing goes but to one output -/
theorem gb_outs1 {n s : Nat} (hs : s < 5) {K2 : me_M → Int32 → Option (me_M × Unit)} {μ μ1 : me_M} (h0 : ∀ o', o' < s → f_Mover_giveTo μ (me_N n) (me_N o') = some (μ, ())) (hs1 : f_Mover_giveTo μ (me_N n) (me_N s) = some (μ1, ())) (h1 : ∀ o', s < o' → o' < 5 → f_Mover_giveTo μ1 (me_N n) (me_N o') = some (μ1, ())) : ∀ (d f o : Nat), o + d = 5 → o ≤ s → d < f → f_Mover_moveAll_h39 K2 f μ (me_N n) (me_N o) = K2 μ1 (me_N (n + 1)) := by
  intro d
  induction d with
  | zero => intro f o h2 h3 h4; omega
  | succ d ih =>
    intro f o h2 h3 h4
    obtain ⟨f, rfl⟩ : ∃ g, f = g + 1 := ⟨f - 1, by omega⟩
    show f_Mover_moveAll_b39 _ _ _ _ _ = _
    unfold f_Mover_moveAll_b39
    rw [if_neg (by rw [me_N_5, me_N_le (by omega) (by omega)]; omega)]
    by_cases e : o = s
    · rw [e, hs1, me_b2_s, me_N_inc, me_lt_s]
      exact gb_outs0 d f (s + 1) (by omega) (by omega) (fun o' h5 h6 => h1 o' (by omega) h6)
    · rw [h0 o (by omega), me_b2_s, me_N_inc, me_lt_s]
      exact ih f (o + 1) (by omega) (by omega) (by omega)
/-- how a router's turn in a beat begins -/
theorem gb_node {a : me_S} {W : Nat → Bool} {v : Int32} {μ : me_M} (hX : gb_X a W v μ) {n f : Nat} (hn : n < a.w * a.h) : f_Mover_moveAll_h2 (f + 1) μ (me_N n) = if a.aw n = true then (if me_sm (fun k => gh_ln a (10 * n + k)) 0 10 = 0 then f_Mover_moveAll_h2 f μ (me_N (n + 1)) else f_Mover_moveAll_h39 (f_Mover_moveAll_h2 f) me_FU μ (me_N n) (me_N 0)) else f_Mover_moveAll_h2 f μ (me_N (n + 1)) := by
  obtain ⟨hC, hI, -⟩ := id hX
  have hwh := hI.wh
  have hlen : me_sm (fun k => gh_ln a (10 * n + k)) 0 10 ≤ 4 * 10 := me_sm_le (fun k => me_ql a hI _) 10 0
  show f_Mover_moveAll_b2 _ _ _ = _
  unfold f_Mover_moveAll_b2
  rw [hC.nn, if_neg (by rw [me_N_le (by omega) (by omega)]; omega), me_gd_n (by omega) (by omega), me_gd_n (by omega) (by omega), me_N_ix (by omega), hC.aw n (by omega), y_pieces hC (by omega), me_bd_s, me_N_inc, me_lt_s]
  by_cases haw : a.aw n = true
  · rw [haw, if_neg (by decide), if_pos rfl]
    by_cases e : me_sm (fun k => gh_ln a (10 * n + k)) 0 10 = 0
    · rw [if_pos (by rw [e]; decide), if_pos e]
    · rw [if_neg (by rw [me_N_0, me_N_le (by omega) (by omega)]; omega), if_neg e]
      rfl
  · rw [show a.aw n = false by cases hb : a.aw n with | true => exact absurd hb haw | false => rfl, if_pos (by rfl), if_neg (by decide)]
theorem gb_end {a : me_S} {W : Nat → Bool} {v : Int32} {μ : me_M} (hX : gb_X a W v μ) {f : Nat} : f_Mover_moveAll_h2 (f + 1) μ (me_N (a.w * a.h)) = some (μ, ()) := by
  obtain ⟨hC, hI, -⟩ := id hX
  have hwh := hI.wh
  show f_Mover_moveAll_b2 _ _ _ = _
  unfold f_Mover_moveAll_b2
  rw [hC.nn, if_pos (by rw [me_N_le (by omega) (by omega)]; omega)]
/-- a row that is empty, or whose first piece came or was looked at in this beat, gives nothing -/
theorem gb_blk {a : me_S} {W : Nat → Bool} {v : Int32} {μ : me_M} (hX : gb_X a W v μ) {n x o : Nat} (hx : x < 160) (h : gh_bk a x) : gb_nil μ n o x := y_blk hX.1 hx (me_ql a hX.2.1 x) hX.2.2.1 h
/-- a router all of whose rows give nothing -/
theorem gb_skip {a : me_S} {W : Nat → Bool} {v : Int32} {μ : me_M} (hX : gb_X a W v μ) {n f : Nat} (hn : n < a.w * a.h) (hb : ∀ c k, c < 2 → k < 5 → gh_bk a (5 * (2 * n + c) + k)) : f_Mover_moveAll_h2 (f + 1) μ (me_N n) = f_Mover_moveAll_h2 f μ (me_N (n + 1)) := by
  have hwh := hX.2.1.wh
  rw [gb_node hX hn]
  by_cases haw : a.aw n = true
  · rw [if_pos haw]
    split
    · rfl
    · exact gb_outs0 5 me_FU 0 (by omega) (by unfold me_FU; omega) (fun o' _ h2 => gb_out0 hX hn h2 (fun c k hc hk => gb_blk hX (by omega) (hb c k hc hk)))
  · rw [if_neg haw]
/-- a router one of whose rows has a first piece to look at, of the channel c, on the side k, to the side s; the others are empty; a look at it answers b and leaves μ1 -/
theorem gb_one {a a1 : me_S} {W W1 : Nat → Bool} {v : Int32} {μ μ1 : me_M} (hX : gb_X a W v μ) {n c k s f : Nat} {p i ci : Nat} {t : List (Nat × Nat × Nat)} (hn : n < a.w * a.h) (haw : a.aw n = true) (hc : c < 2) (hk : k < 5) (hs : s < 5) (hq : a.q (5 * (2 * n + c) + k) = (p, i, ci) :: t) (hu : gb_un a (5 * (2 * n + c) + k) ci) (hsd : gh_sd a (5 * (2 * n + c) + k) p i = s) (he : ∀ c' k', c' < 2 → k' < 5 → ¬ (c' = c ∧ k' = k) → a.q (5 * (2 * n + c') + k') = []) {b : Bool} (hg : f_Mover_gives μ (me_N n) (me_N s) (5 * (2 * n + c) + k) = some (μ1, me_bi b)) (hX1 : gb_X a1 W1 v μ1) (ew : a1.w = a.w) (eh : a1.h = a.h) (he1 : ∀ c' k', c' < 2 → k' < 5 → ¬ (c' = c ∧ k' = k) → a1.q (5 * (2 * n + c') + k') = [])
    (hb : (b = false ∧ a1.q = a.q ∧ a1.rg = a.rg ∧ a1 = a) ∨ (b = true ∧ a1.rg (5 * (2 * n + c) + k) = a1.bt + 1)) : ∃ μ2, f_Mover_moveAll_h2 (f + 1) μ (me_N n) = f_Mover_moveAll_h2 f μ2 (me_N (n + 1)) ∧ gb_F μ1 μ2 ∧ gb_X (if b = true then me_S.s_lr a1 (me_fu a1.lr (10 * n + (c * 5 + s)) k) else a1) W1 (if b = true then 1 else v) μ2 := by
  have hwh := hX.2.1.wh
  have hne : ¬ me_sm (fun k => gh_ln a (10 * n + k)) 0 10 = 0 := fun e => by
    have h1 := me_sm_0 10 0 e (c * 5 + k) (Nat.zero_le _) (by omega)
    have h2 : (a.q (10 * n + (c * 5 + k))).length = 0 := h1
    rw [show 10 * n + (c * 5 + k) = 5 * (2 * n + c) + k by omega, hq] at h2
    cases h2
  rw [gb_node hX hn, if_pos haw, if_neg hne]
  have hb0 : ∀ o c' k', c' < 2 → k' < 5 → ¬ (c' = c ∧ k' = k) → gb_nil μ n o (5 * (2 * n + c') + k') := fun o c' k' h1 h2 h3 => gb_blk hX (by omega) (Or.inl (he c' k' h1 h2 h3))
  have hb1 : ∀ o c' k', c' < 2 → k' < 5 → ¬ (c' = c ∧ k' = k) → gb_nil μ1 n o (5 * (2 * n + c') + k') := fun o c' k' h1 h2 h3 => gb_blk hX1 (by omega) (Or.inl (he1 c' k' h1 h2 h3))
  have h0 : ∀ o', o' < 5 → ¬ o' = s → f_Mover_giveTo μ (me_N n) (me_N o') = some (μ, ()) := fun o' ho' hne' => gb_out0 hX hn ho' (fun c' k' h1 h2 => by
    by_cases e : c' = c ∧ k' = k
    · rw [e.1, e.2]
      exact gb_other hX (by omega) ho' hq hu (fun q => hne' (q.symm.trans hsd))
    · exact hb0 o' c' k' h1 h2 e)
  have e1 := gb_out1 hX hX1 ew eh hn hs hc hk hg (hb0 s) (hb1 s)
  rcases hb with ⟨b1, b2, b3, b4⟩ | ⟨b1, b2⟩
  · subst b1
    rw [if_pos rfl] at e1
    refine ⟨μ1, ?_, gb_F.rf, by rw [if_neg (by decide), if_neg (by decide)]; exact hX1⟩
    refine gb_outs1 hs (fun o' h1 => h0 o' (by omega) (by omega)) e1 (fun o' h1 h2 => ?_) 5 me_FU 0 (by omega) (Nat.zero_le _) (by unfold me_FU; omega)
    subst b4
    refine gb_out0 hX1 hn h2 (fun c' k' h3 h4 => ?_)
    by_cases e : c' = c ∧ k' = k
    · rw [e.1, e.2]
      exact gb_other hX1 (by omega) h2 hq hu (fun q => by omega)
    · exact hb1 o' c' k' h3 h4 e
  · subst b1
    rw [if_neg (by decide)] at e1
    obtain ⟨t1, t2⟩ := gb_turn (n := n) (y := c * 5 + s) (k := k) (by omega) (by omega) hk hX1
    refine ⟨_, ?_, t2, by rw [if_pos rfl, if_pos rfl]; exact t1⟩
    refine gb_outs1 hs (fun o' h1 => h0 o' (by omega) (by omega)) e1 (fun o' h1 h2 => ?_) 5 me_FU 0 (by omega) (Nat.zero_le _) (by unfold me_FU; omega)
    refine gb_out0 t1 (by show n < a1.w * a1.h; rw [ew, eh]; exact hn) h2 (fun c' k' h3 h4 => ?_)
    by_cases e : c' = c ∧ k' = k
    · rw [e.1, e.2]
      refine gb_blk t1 (by omega) ?_
      cases hq1 : a1.q (5 * (2 * n + c) + k) with
      | nil => exact Or.inl hq1
      | cons e t' =>
        refine Or.inr ⟨e, t', hq1, Or.inl ?_⟩
        show me_N (a1.rg _) = me_N (a1.bt + 1)
        rw [b2]
    · exact gb_blk t1 (by omega) (Or.inl (he1 c' k' h3 h4 e))
