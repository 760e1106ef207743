/-! a packet is lost, on either side -/
def gh_ls (a : me_S) (p : Nat) (P : Nat → Bool) : me_S := me_S.s_q (me_S.s_ro a (fun x => if P x = true ∧ a.ro x = some p then none else a.ro x)) (fun x => if P x = true then me_dr p (a.q x) else a.q x)
def gh_lz (a : me_S) (p : Nat) : me_S := me_S.s_q (me_S.s_ro a (fun x => if a.ro x = some p then none else a.ro x)) (fun x => me_dr p (a.q x))
theorem me_dr_dr {p : Nat} {l : List (Nat × Nat × Nat)} : me_dr p (me_dr p l) = me_dr p l := by
  unfold me_dr
  rw [List.filter_filter]
  congr 1
  funext e
  exact Bool.and_self _
theorem gh_ls_q {a : me_S} {p : Nat} {P : Nat → Bool} {x : Nat} : (gh_ls a p P).q x = if P x = true then me_dr p (a.q x) else a.q x := rfl
theorem gh_ls_ro {a : me_S} {p : Nat} {P : Nat → Bool} {x : Nat} : (gh_ls a p P).ro x = if P x = true ∧ a.ro x = some p then none else a.ro x := rfl
theorem gh_ls_mem {a : me_S} {p : Nat} {P : Nat → Bool} {x : Nat} {e : Nat × Nat × Nat} (h : e ∈ (gh_ls a p P).q x) : e ∈ a.q x := by
  rw [gh_ls_q] at h
  split at h
  · exact (List.mem_filter.mp h).1
  · exact h
theorem gh_ls_len {a : me_S} {p : Nat} {P : Nat → Bool} {x : Nat} : ((gh_ls a p P).q x).length ≤ (a.q x).length := by
  rw [gh_ls_q]
  split
  · exact List.length_filter_le _ _
  · exact Nat.le_refl _
theorem gh_ls_own {a : me_S} {p n : Nat} {P : Nat → Bool} {x : Nat} (h : (gh_ls a p P).ro x = some n) : a.ro x = some n := by
  rw [gh_ls_ro] at h
  split at h
  · cases h
  · exact h
theorem gh_ls_step {a : me_S} {p x0 : Nat} {P : Nat → Bool} : me_Eq (me_S.s_q (me_S.s_ro (gh_ls a p P) (me_fu (gh_ls a p P).ro x0 (if (gh_ls a p P).ro x0 = some p then none else (gh_ls a p P).ro x0))) (me_fu (gh_ls a p P).q x0 (me_dr p ((gh_ls a p P).q x0)))) (gh_ls a p (fun x => P x || decide (x = x0))) := by
  have e1 : me_fu (gh_ls a p P).q x0 (me_dr p ((gh_ls a p P).q x0)) = fun x => if (P x || decide (x = x0)) = true then me_dr p (a.q x) else a.q x := by
    funext x
    rw [me_fu_ap]
    by_cases e : x = x0
    · rw [if_pos e, decide_eq_true e, Bool.or_true, if_pos rfl, gh_ls_q, e]
      split
      · exact me_dr_dr
      · rfl
    · rw [if_neg e, decide_eq_false e, Bool.or_false, gh_ls_q]
  have e2 : me_fu (gh_ls a p P).ro x0 (if (gh_ls a p P).ro x0 = some p then none else (gh_ls a p P).ro x0) = fun x => if (P x || decide (x = x0)) = true ∧ a.ro x = some p then none else a.ro x := by
    funext x
    rw [me_fu_ap]
    by_cases e : x = x0
    · rw [if_pos e, decide_eq_true e, Bool.or_true, e]
      by_cases g : a.ro x0 = some p
      · rw [if_pos (show true = true ∧ a.ro x0 = some p from ⟨rfl, g⟩)]
        by_cases g2 : P x0 = true
        · have v : (gh_ls a p P).ro x0 = none := by rw [gh_ls_ro, if_pos ⟨g2, g⟩]
          rw [v]
          split <;> rfl
        · have v : (gh_ls a p P).ro x0 = a.ro x0 := by rw [gh_ls_ro, if_neg (fun q => g2 q.1)]
          rw [v, if_pos g]
      · have v : (gh_ls a p P).ro x0 = a.ro x0 := by rw [gh_ls_ro, if_neg (fun q => g q.2)]
        rw [v, if_neg g, if_neg (fun q => g q.2)]
    · rw [if_neg e, decide_eq_false e, Bool.or_false, gh_ls_ro]
  exact ⟨rfl, rfl, rfl, rfl, rfl, rfl, rfl, rfl, rfl, rfl, rfl, rfl, rfl, rfl, rfl, rfl, rfl, rfl, rfl, rfl, rfl, e1, e2, rfl, rfl, rfl, rfl, rfl, rfl, rfl, rfl, rfl, rfl, rfl, rfl, rfl, rfl, rfl, rfl, rfl, rfl⟩
theorem gh_ls_all {a : me_S} {p : Nat} {P : Nat → Bool} (h : ∀ x, ¬ P x = true → (∀ e ∈ a.q x, ¬ e.1 = p) ∧ ¬ a.ro x = some p) : me_Eq (gh_ls a p P) (gh_lz a p) := by
  have e1 : (fun x => if P x = true then me_dr p (a.q x) else a.q x) = fun x => me_dr p (a.q x) := by
    funext x
    by_cases g : P x = true
    · rw [if_pos g]
    · rw [if_neg g]
      unfold me_dr
      rw [List.filter_eq_self.mpr]
      intro e he
      unfold me_pq
      rw [decide_eq_false ((h x g).1 e he)]
      rfl
  have e2 : (fun x => if P x = true ∧ a.ro x = some p then none else a.ro x) = fun x => if a.ro x = some p then none else a.ro x := by
    funext x
    by_cases g : P x = true
    · by_cases g2 : a.ro x = some p
      · rw [if_pos ⟨g, g2⟩, if_pos g2]
      · rw [if_neg (fun q => g2 q.2), if_neg g2]
    · rw [if_neg (fun q => g q.1), if_neg (h x g).2]
  exact ⟨rfl, rfl, rfl, rfl, rfl, rfl, rfl, rfl, rfl, rfl, rfl, rfl, rfl, rfl, rfl, rfl, rfl, rfl, rfl, rfl, rfl, e1, e2, rfl, rfl, rfl, rfl, rfl, rfl, rfl, rfl, rfl, rfl, rfl, rfl, rfl, rfl, rfl, rfl, rfl, rfl⟩
/-- bounds that the rows keep while a packet is dropped -/
def gh_bd (a : me_S) : Prop := (∀ r, (a.q r).length ≤ 4) ∧ (∀ r e, e ∈ a.q r → e.1 < 200 ∧ e.2.1 < 8) ∧ (∀ r n, a.ro r = some n → n < 200) ∧ a.w * a.h ≤ 16
theorem gh_iv_bd {a : me_S} (hI : me_Iv a) : gh_bd a := by
  have hnp := hI.n200
  refine ⟨hI.2.2.2.2.1.in4, fun r e he => ?_, fun r n h => ?_, hI.wh.1⟩
  · obtain ⟨-, b2, -, -, -, b6, -⟩ := hI.2.2.2.2.1.iel r e he
    have b7 := hI.2.1.ipt e.1 b2
    have b8 := hI.2.1.ibo e.1 b2
    omega
  · have := (hI.2.2.2.2.1.iow r n h).2.1
    omega
theorem y_lose48 {a : me_S} (hb : gh_bd a) {p n c : Nat} (hp : p < 200) (hn : n < 16) (hc : me_ch (a.kd p) = c) (hp0 : ∀ μ P, me_RC (gh_ls a p P) μ → μ 8 p 0 = me_N p) {K35 : me_M → Nat → Int32 → Option (me_M × Unit)} : ∀ (d f k : Nat) (P : Nat → Bool) (μ : me_M), k + d = 5 → d < f → me_RC (gh_ls a p P) μ → ∃ μ' P', f_Mover_lose_h48 K35 f μ p (me_N n) (me_N k) = K35 μ' p (me_N (n + 1)) ∧ me_RC (gh_ls a p P') μ' ∧ (∀ x, P' x = true ↔ P x = true ∨ (10 * n + 5 * c + k ≤ x ∧ x < 10 * n + 5 * c + 5)) ∧ ∀ k', ¬ (17 ≤ k' ∧ k' ≤ 20) → μ' k' = μ k' := by
  have hc2 : c < 2 := by rw [← hc]; exact me_ch_lt _
  intro d
  induction d with
  | zero =>
    intro f k P μ h1 h2 hC
    obtain ⟨f, rfl⟩ : ∃ g, f = g + 1 := ⟨f - 1, by omega⟩
    refine ⟨μ, P, ?_, hC, fun x => ?_, fun _ _ => rfl⟩
    · show f_Mover_lose_b48 _ _ _ _ _ _ = _
      unfold f_Mover_lose_b48
      rw [if_pos (by rw [me_N_5, me_N_le (by omega) (by omega)]; omega), me_N_inc, me_lt_s]
    · constructor
      · exact Or.inl
      · rintro (q | q)
        · exact q
        · omega
  | succ d ih =>
    intro f k P μ h1 h2 hC
    obtain ⟨f, rfl⟩ : ∃ g, f = g + 1 := ⟨f - 1, by omega⟩
    obtain ⟨μ7, c1, c2, c3⟩ := y_drop hC (r := 10 * n + (c * 5 + k)) (p := p) (by omega) (by omega) (Nat.le_trans gh_ls_len (hb.1 _)) (fun e he => by have := (hb.2.1 _ e (gh_ls_mem he)).1; omega) (fun m hm => by have := hb.2.2.1 _ m (gh_ls_own hm); omega)
    obtain ⟨μ', P', g1, g2, g3, g4⟩ := ih f (k + 1) _ μ7 (by omega) (by omega) (c2.eq gh_ls_step)
    refine ⟨μ', P', ?_, g2, fun x => ?_, fun k' hk' => by rw [g4 k' hk', c3 k' hk']⟩
    · have hch : f_Packet_channel μ p = some (me_N c) := by
        have := y_chan hC p
        rw [show (gh_ls a p P).kd p = a.kd p from rfl, hc] at this
        exact this
      show f_Mover_lose_b48 _ _ _ _ _ _ = _
      unfold f_Mover_lose_b48
      rw [if_neg (by rw [me_N_5, me_N_le (by omega) (by omega)]; omega), me_gd_n (by omega) hn, hch, me_bd_s, me_N_5, me_N_mul, me_N_add, me_gd_n (by omega) (by omega), me_N_ix (by omega), me_N_ix (by omega), hp0 μ P hC, c1, me_b2_s, me_N_inc, me_lt_s]
      exact g1
    · rw [g3 x, Bool.or_eq_true, decide_eq_true_eq]
      constructor
      · rintro ((q | q) | q)
        · exact Or.inl q
        · right; omega
        · right; omega
      · rintro (q | q)
        · exact Or.inl (Or.inl q)
        · by_cases e : x = 10 * n + (c * 5 + k)
          · exact Or.inl (Or.inr e)
          · right; omega
theorem y_lose35 {a : me_S} (hb : gh_bd a) {p c : Nat} (hp : p < 200) (hc : me_ch (a.kd p) = c) (hp0 : ∀ μ P, me_RC (gh_ls a p P) μ → μ 8 p 0 = me_N p) : ∀ (d f n : Nat) (P : Nat → Bool) (μ : me_M), n + d = a.w * a.h → d < f → me_RC (gh_ls a p P) μ → ∃ μ' P', f_Mover_lose_h35 f μ p (me_N n) = some (μ', ()) ∧ me_RC (gh_ls a p P') μ' ∧ (∀ x, P x = true ∨ (n ≤ x / 10 ∧ x / 10 < a.w * a.h ∧ x % 10 / 5 = c) → P' x = true) ∧ ∀ k', ¬ (17 ≤ k' ∧ k' ≤ 20) → μ' k' = μ k' := by
  have hwh := hb.2.2.2
  intro d
  induction d with
  | zero =>
    intro f n P μ h1 h2 hC
    obtain ⟨f, rfl⟩ : ∃ g, f = g + 1 := ⟨f - 1, by omega⟩
    refine ⟨μ, P, ?_, hC, fun x q => ?_, fun _ _ => rfl⟩
    · have zn : μ 1 0 4 = me_N (a.w * a.h) := hC.nn
      show f_Mover_lose_b35 _ _ _ _ = _
      unfold f_Mover_lose_b35
      rw [zn, if_pos (by rw [me_N_le (by omega) (by omega)]; omega)]
    · rcases q with q | q
      · exact q
      · omega
  | succ d ih =>
    intro f n P μ h1 h2 hC
    obtain ⟨f, rfl⟩ : ∃ g, f = g + 1 := ⟨f - 1, by omega⟩
    have zn : μ 1 0 4 = me_N (a.w * a.h) := hC.nn
    obtain ⟨μ1, P1, c1, c2, c3, c4⟩ := y_lose48 hb (n := n) (K35 := f_Mover_lose_h35 f) hp (by omega) hc hp0 5 me_FU 0 P μ (by omega) (by unfold me_FU; omega) hC
    obtain ⟨μ', P', g1, g2, g3, g4⟩ := ih f (n + 1) P1 μ1 (by omega) (by omega) c2
    refine ⟨μ', P', ?_, g2, fun x q => ?_, fun k' hk' => by rw [g4 k' hk', c4 k' hk']⟩
    · show f_Mover_lose_b35 _ _ _ _ = _
      unfold f_Mover_lose_b35
      rw [zn, if_neg (by rw [me_N_le (by omega) (by omega)]; omega)]
      exact c1.trans g1
    · apply g3
      by_cases e : x / 10 = n
      · left
        rw [c3]
        rcases q with q | q
        · exact Or.inl q
        · right; omega
      · rcases q with q | q
        · exact Or.inl ((c3 x).mpr (Or.inl q))
        · right; omega
/-- the ghost as a packet is lost, its rows yet as they were -/
def gh_l0 (a : me_S) (p : Nat) : me_S := me_S.s_ow (me_S.s_hd (me_S.s_st a (me_fu a.st p 108)) (me_fu a.hd p none)) (if a.kd p = 113 then a.ow - 1 else a.ow)
theorem y_lose {a : me_S} {μ : me_M} (hC : me_RC a μ) (hI : me_Iv a) {p : Nat} (hp : p < a.np) (ho : a.kd p = 113 → 1 ≤ a.ow) : ∃ μ', f_Mover_lose μ p = some (μ', ()) ∧ me_RC (gh_lz (gh_l0 a p) p) μ' ∧ ∀ k, ¬ (k = 6 ∨ k = 8 ∨ (17 ≤ k ∧ k ≤ 20)) → μ' k = μ k := by
  have hnp := hI.n200
  have hwh := hI.wh
  have hb0 := gh_iv_bd hI
  have hb : gh_bd (gh_l0 a p) := hb0
  have h1 : me_RC (me_S.s_hd (me_S.s_st a (me_fu a.st p 108)) (me_fu a.hd p none)) (me_up (me_up μ 8 p 2 108) 8 p 9 (-1)) := (hC.w_st p 108).w_hd p none
  have key : ∃ μ4, f_Mover_lose μ p = f_Mover_lose_h35 me_FU μ4 p 0 ∧ me_RC (gh_l0 a p) μ4 ∧ ∀ k, ¬ (k = 6 ∨ k = 8) → μ4 k = μ k := by
    unfold f_Mover_lose gh_l0
    have z1 : me_up (me_up μ 8 p 2 108) 8 p 9 (-1) 8 p 1 = a.kd p := h1.kd p
    rw [me_lt_s, me_lt_s, z1]
    by_cases hk : a.kd p = 113
    · have zo : me_up (me_up μ 8 p 2 108) 8 p 9 (-1) 6 0 2 = me_N a.ow := h1.ow
      have h2 : me_RC (me_S.s_ow (me_S.s_hd (me_S.s_st a (me_fu a.st p 108)) (me_fu a.hd p none)) (a.ow - 1)) (me_up (me_up (me_up μ 8 p 2 108) 8 p 9 (-1)) 6 0 2 (me_N (a.ow - 1))) := h1.w_ow (a.ow - 1)
      rw [if_pos hk, if_pos hk, zo, me_N_1, me_N_sub (ho hk), me_lt_s]
      refine ⟨_, rfl, h2, fun k hk => ?_⟩
      funext i j
      rw [me_up_kn (by omega), me_up_kn (by omega), me_up_kn (by omega)]
    · rw [if_neg hk, if_neg hk]
      refine ⟨_, rfl, h1.eq ⟨rfl, rfl, rfl, rfl, rfl, rfl, rfl, rfl, rfl, rfl, rfl, rfl, rfl, rfl, rfl, rfl, rfl, rfl, rfl, rfl, rfl, rfl, rfl, rfl, rfl, rfl, rfl, rfl, rfl, rfl, rfl, rfl, rfl, rfl, rfl, rfl, rfl, rfl, rfl, rfl, rfl⟩, fun k hk => ?_⟩
      funext i j
      rw [me_up_kn (by omega), me_up_kn (by omega)]
  obtain ⟨μ4, k1, k2, k3⟩ := key
  have k2' : me_RC (gh_ls (gh_l0 a p) p (fun _ => false)) μ4 := by
    refine k2.eq ?_
    have e1 : (gh_l0 a p).q = fun x => if false = true then me_dr p ((gh_l0 a p).q x) else (gh_l0 a p).q x := by
      funext x
      rw [if_neg (by decide)]
    have e2 : (gh_l0 a p).ro = fun x => if false = true ∧ (gh_l0 a p).ro x = some p then none else (gh_l0 a p).ro x := by
      funext x
      rw [if_neg (fun q => by cases q.1)]
    exact ⟨rfl, rfl, rfl, rfl, rfl, rfl, rfl, rfl, rfl, rfl, rfl, rfl, rfl, rfl, rfl, rfl, rfl, rfl, rfl, rfl, rfl, e1, e2, rfl, rfl, rfl, rfl, rfl, rfl, rfl, rfl, rfl, rfl, rfl, rfl, rfl, rfl, rfl, rfl, rfl, rfl⟩
  obtain ⟨μ', P', g1, g2, g3, g4⟩ := y_lose35 hb (p := p) (by omega) rfl (fun μ P h => h.p0 p (by omega)) (a.w * a.h) me_FU 0 _ μ4 (by rw [Nat.zero_add]; rfl) (by unfold me_FU; omega) k2'
  refine ⟨μ', k1.trans g1, g2.eq (gh_ls_all (fun x hx => ⟨fun e he q => ?_, fun q => ?_⟩)), fun k hk => by rw [g4 k (by omega), k3 k (by omega)]⟩
  · obtain ⟨b1, -, -, b4, -⟩ := hI.2.2.2.2.1.iel x e he
    rw [q] at b4
    exact hx (g3 x (Or.inr ⟨Nat.zero_le _, b1, b4.symm⟩))
  · obtain ⟨b1, -, -, b4, -⟩ := hI.2.2.2.2.1.iow x p q
    exact hx (g3 x (Or.inr ⟨Nat.zero_le _, b1, b4.symm⟩))
