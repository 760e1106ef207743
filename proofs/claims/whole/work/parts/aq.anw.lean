/-! the net made anew -/
def gh_nw (a : me_S) (w h rp : Nat) : me_S := ((fun k => if k = 0 then w else if k = 1 then h else if k = 2 then rp else 0), (fun _ => 120), (fun k => if k = 4 ∨ k = 5 then fun _ => 45 else a.2.2.1 k), (fun k => if k = 8 then fun _ => 4 else if k = 7 ∨ k = 9 ∨ k = 10 ∨ k = 11 ∨ k = 12 then fun _ => 0 else a.2.2.2.1 k), (fun k => if k = 3 ∨ k = 4 then fun _ => none else a.2.2.2.2.1 k), (fun _ _ => []), (fun k => if k = 0 ∨ k = 1 then fun _ _ => 0 else a.2.2.2.2.2.2.1 k), (fun _ _ => true), (fun _ _ _ => 0))
theorem gh_nw_iv {a : me_S} {w h : Nat} (hw : 1 ≤ w ∧ w ≤ 4) (hh : 1 ≤ h ∧ h ≤ 4) : me_Iv (gh_nw a w h 2) := by
  refine ⟨me_I0.mk hw hh (show 1 ≤ 2 ∧ 2 ≤ 4 from ⟨by decide, by decide⟩) (Or.inl rfl) (fun _ _ => Or.inl rfl) (fun _ _ _ _ _ _ => rfl), ?_, ?_, ?_, ?_, ?_, fun _ _ _ _ => (by decide : 4 < 5), fun _ => Nat.zero_le _, fun _ => Nat.le_refl _⟩
  · exact me_IP.mk (show 0 + 0 ≤ 200 from by decide) rfl (fun i hi => absurd hi (Nat.not_lt_zero i)) (fun i hi => absurd hi (Nat.not_lt_zero i)) (fun i hi => absurd hi (Nat.not_lt_zero i)) (fun i hi => absurd hi (Nat.not_lt_zero i)) (fun i hi => absurd hi (Nat.not_lt_zero i)) (fun i hi => absurd hi (Nat.not_lt_zero i)) (fun i hi => absurd hi (Nat.not_lt_zero i)) (fun i hi => absurd hi (Nat.not_lt_zero i)) (fun i t hi => absurd hi (Nat.not_lt_zero i)) (fun i hi => absurd hi (Nat.not_lt_zero i)) (fun i j hi => absurd hi (Nat.not_lt_zero i)) (fun i hi => absurd hi (Nat.not_lt_zero i)) (fun i hi => absurd hi (Nat.not_lt_zero i)) (fun i hi => absurd hi (Nat.not_lt_zero i))
  · exact me_IC.mk (fun _ => Nat.zero_le _) (fun _ => Nat.zero_le _) (fun _ => Nat.zero_le _) (fun _ => Or.inl rfl) (fun _ => Or.inl rfl) (fun n j hj => absurd hj (Nat.not_lt_zero j)) (fun n e => absurd (show (45 : Int32) = 119 from e) (by decide)) (fun n e => absurd (show (45 : Int32) = 98 from e) (by decide))
  · exact me_IT.mk (Nat.zero_le _) (fun i hi => absurd hi (Nat.not_lt_zero i)) (fun _ _ => rfl) (fun _ _ => Nat.zero_le _)
  · exact me_Wm.mk (fun r => Nat.zero_le _) (fun r e he => absurd he List.not_mem_nil) (fun r e he => absurd he List.not_mem_nil) (fun _ _ => rfl) (fun r e he => absurd he List.not_mem_nil) (fun r p h => by cases h) (fun r r' p h => by cases h) (fun r => List.Pairwise.nil) (fun r r' e e' he => absurd he List.not_mem_nil) (fun r r' e e' he => absurd he List.not_mem_nil) (fun r p hac => by
      rcases hac with ⟨e, he, -⟩ | ⟨-, hp, -⟩ | h
      · exact absurd he List.not_mem_nil
      · exact absurd hp (Nat.not_lt_zero p)
      · cases h) (fun r r' p c he => absurd he List.not_mem_nil) (fun r r' p c he => absurd he List.not_mem_nil) (fun r e p he => absurd he List.not_mem_nil) (fun p hp => absurd hp (Nat.not_lt_zero p)) (fun p i hp => absurd hp (Nat.not_lt_zero p)) (fun p hp => absurd hp (Nat.not_lt_zero p)) (fun p j hp => absurd hp (Nat.not_lt_zero p)) (fun r e => by cases e)
  · exact fun n c j hj => absurd hj (Nat.not_lt_zero j)
/-- what of the class's cells net leaves as it is -/
def gh_RC0 (a : me_S) (μ : me_M) : Prop := (μ 0 0 9 = me_N a.rp ∧ ∀ r, r < 160 → μ 17 r 4 = me_N a.rp) ∧ (∀ i, i < 200 → μ 8 i 0 = me_N i) ∧ ∀ i, μ 8 i 1 = a.kd i ∧ μ 8 i 2 = a.st i ∧ μ 8 i 3 = me_N (a.sr i) ∧ μ 8 i 4 = me_N (a.gl i) ∧ μ 8 i 5 = a.wd i ∧ μ 8 i 7 = me_N (a.pt i) ∧ μ 8 i 8 = me_N (a.tk i) ∧ μ 8 i 10 = me_N (a.ma i) ∧ μ 8 i 12 = me_N (a.pl i) ∧ μ 8 i 13 = a.ad i
theorem me_RC.c0 {a : me_S} {μ : me_M} (h : me_RC a μ) : gh_RC0 a μ := ⟨⟨h.rp, h.qp⟩, h.p0, fun i => ⟨h.kd i, h.st i, h.sr i, h.gl i, h.wd i, h.pt i, h.tk i, h.ma i, h.pl i, h.ad i⟩⟩
theorem y_anew {a : me_S} {μ : me_M} (h0 : gh_RC0 a μ) {w h : Nat} (hw : 1 ≤ w ∧ w ≤ 4) (hh : 1 ≤ h ∧ h ≤ 4) : ∃ μ', f_Y_makeAnew μ (me_N w) (me_N h) = some (μ', ()) ∧ me_RC (gh_nw a w h 2) μ' ∧ (∀ k, 36 ≤ k → μ' k = μ k) ∧ ∀ n, n < 16 → μ' 13 n 4 = 0 := by
  have hwh : w * h ≤ 16 := Nat.mul_le_mul hw.2 hh.2
  obtain ⟨μ2, l1, l2, l3, l4, l5⟩ := y_lay hw hh.2 μ
  obtain ⟨μ4, t1, t2⟩ := y_tr1 64 me_FU 0 (me_up (me_up (me_up μ2 6 0 1 0) 6 0 2 0) 9 0 3 0) rfl (by decide)
  obtain ⟨μn, n1, n2, n3, n4⟩ := y_nodes1 16 me_FU 0 (me_up (me_up (me_up (me_up μ4 27 0 4 120) 30 0 5 0) 30 0 6 0) 30 0 7 0) rfl (by decide) (fun m hm => absurd hm (Nat.not_lt_zero m))
  have q4 : ∀ k i j, ¬ k = 11 → μ4 k i j = me_up (me_up (me_up μ2 6 0 1 0) 6 0 2 0) 9 0 3 0 k i j := fun k i j a => by rw [t2, if_neg (fun q => a q.1)]
  have q6 : ∀ k i j, ¬ k = 27 → ¬ k = 30 → me_up (me_up (me_up (me_up μ4 27 0 4 120) 30 0 5 0) 30 0 6 0) 30 0 7 0 k i j = μ4 k i j := fun k i j a b => by
    rw [me_up_kn b, me_up_kn b, me_up_kn b, me_up_kn a]
  have q2 : ∀ k i j, ¬ k = 6 → ¬ k = 9 → ¬ k = 11 → ¬ k = 27 → ¬ k = 30 → me_up (me_up (me_up (me_up μ4 27 0 4 120) 30 0 5 0) 30 0 6 0) 30 0 7 0 k i j = μ2 k i j := fun k i j a b c d e => by
    rw [q6 k i j d e, q4 k i j c, me_up_kn b, me_up_kn a, me_up_kn a]
  have r2 : ∀ k i j, gh_kk k → ¬ k = 6 → ¬ k = 9 → ¬ k = 11 → ¬ k = 27 → ¬ k = 30 → μn k i j = μ2 k i j := fun k i j hk a b c d e => by
    rw [n3 k hk, q2 k i j a b c d e]
  have r0 : ∀ k i j, gh_kk k → ¬ k = 6 → ¬ k = 9 → ¬ k = 11 → ¬ k = 27 → ¬ k = 30 → ¬ k = 1 → ¬ k = 2 → ¬ k = 3 → ¬ k = 4 → ¬ k = 5 → μn k i j = μ k i j := fun k i j hk a b c d e x1 x2 x3 x4 x5 => by
    rw [r2 k i j hk a b c d e, l5 k x1 x2 x3 x4 x5]
  have kk : ∀ k, k < 13 ∨ 23 < k → gh_kk k := fun k hk => ⟨by omega, by omega, by omega, by omega, by omega, by omega⟩
  have r8 : ∀ i j, μn 8 i j = μ 8 i j := fun i j => r0 8 i j (kk 8 (by decide)) (by decide) (by decide) (by decide) (by decide) (by decide) (by decide) (by decide) (by decide) (by decide) (by decide)
  have r17 : ∀ r, μn 17 r 4 = μ 17 r 4 := fun r => by
    rw [n4, q2 17 r 4 (by decide) (by decide) (by decide) (by decide) (by decide), l5 17 (by decide) (by decide) (by decide) (by decide) (by decide)]
  obtain ⟨⟨a1, a2⟩, b1, b2⟩ := h0
  have w1 : ∀ k i j, (k = 1 ∨ k = 2 ∨ k = 3 ∨ k = 4 ∨ k = 5) → μn k i j = μ2 k i j := fun k i j hk => r2 k i j (kk k (by omega)) (by omega) (by omega) (by omega) (by omega) (by omega)
  have row : ∀ r, r < 160 → μn 15 (r / 10) (r % 10) = 0 ∧ μn 17 r 3 = 0 ∧ μn 17 r 5 = -1 ∧ μn 17 r 6 = -1 ∧ μn 17 r 7 = 0 := fun r hr => by
    have := (n2 (r / 10) (by omega)).2.2.2 (r % 10) (by omega)
    rw [show 10 * (r / 10) + r % 10 = r by omega] at this
    exact this
  have hC : me_RC (gh_nw a w h a.rp) μn := by
    apply me_RC.mk
    case rp => show μn 0 0 9 = me_N a.rp; rw [r0 0 0 9 (kk 0 (by decide)) (by decide) (by decide) (by decide) (by decide) (by decide) (by decide) (by decide) (by decide) (by decide) (by decide)]; exact a1
    case nn => show μn 1 0 4 = me_N (w * h); rw [w1 1 0 4 (by decide)]; exact l2
    case ah => intro n d hn hd; show μn 2 0 (n * 4 + d) = me_Op (me_nb w h n d); rw [w1 2 _ _ (by decide)]; exact (l3 n hn).2.2 d hd
    case fl => intro n d hn hd; show μn 3 0 (n * 4 + d) = 0; rw [w1 3 _ _ (by decide)]; exact l4 _ (by omega)
    case cl => intro n hn; show μn 4 0 n = me_N (n % w); rw [w1 4 _ _ (by decide)]; exact (l3 n hn).1
    case li => intro n hn; show μn 5 0 n = me_N (n / w); rw [w1 5 _ _ (by decide)]; exact (l3 n hn).2.1
    case np => show μn 6 0 1 = me_N 0; rw [n3 6 (kk 6 (by decide)), q6 6 _ _ (by decide) (by decide), q4 6 _ _ (by decide), me_up_kn (by decide), me_up_jn (by decide), me_up_at]; rfl
    case ow => show μn 6 0 2 = me_N 0; rw [n3 6 (kk 6 (by decide)), q6 6 _ _ (by decide) (by decide), q4 6 _ _ (by decide), me_up_kn (by decide), me_up_at]; rfl
    case p0 => intro i hi; rw [r8]; exact b1 i hi
    case kd => intro i; rw [r8]; exact (b2 i).1
    case st => intro i; rw [r8]; exact (b2 i).2.1
    case sr => intro i; rw [r8]; exact (b2 i).2.2.1
    case gl => intro i; rw [r8]; exact (b2 i).2.2.2.1
    case wd => intro i; rw [r8]; exact (b2 i).2.2.2.2.1
    case bo => intro i hi; exact absurd hi (Nat.not_lt_zero i)
    case pt => intro i; rw [r8]; exact (b2 i).2.2.2.2.2.1
    case tk => intro i; rw [r8]; exact (b2 i).2.2.2.2.2.2.1
    case hd => intro i hi; exact absurd hi (Nat.not_lt_zero i)
    case ma => intro i; rw [r8]; exact (b2 i).2.2.2.2.2.2.2.1
    case dn => intro i hi; exact absurd hi (Nat.not_lt_zero i)
    case pl => intro i; rw [r8]; exact (b2 i).2.2.2.2.2.2.2.2.1
    case ad => intro i; rw [r8]; exact (b2 i).2.2.2.2.2.2.2.2.2
    case an => intro i hi; exact absurd hi (Nat.not_lt_zero i)
    case nt => show μn 9 0 3 = me_N 0; rw [n3 9 (kk 9 (by decide)), q6 9 _ _ (by decide) (by decide), q4 9 _ _ (by decide), me_up_at]; rfl
    case tn => intro i hi; exact absurd hi (Nat.not_lt_zero i)
    case tr => intro i j hi hj; show μn 11 0 (i * 8 + j) = me_N 0; rw [n3 11 (kk 11 (by decide)), q6 11 _ _ (by decide) (by decide), t2, if_pos ⟨rfl, rfl, Nat.zero_le _, by omega⟩]; rfl
    case aw => intro n hn; exact (n2 n hn).2.2.1.1
    case lr => intro n k hn hk; show μn 15 n k = me_N ((4 + 1) % 5); exact ((n2 n hn).2.2.2 k hk).1
    case fp => intro n c hn hc; match c, hc with
      | 0, _ => exact (n2 n hn).2.2.1.2.2.1
      | 1, _ => exact (n2 n hn).2.2.1.2.2.2
    case qn => intro r hr; exact (row r hr).2.1
    case qp => intro r hr; show μn 17 r 4 = me_N a.rp; rw [r17]; exact a2 r hr
    case ro => intro r hr; exact (row r hr).2.2.1
    case rh => intro r hr; exact (row r hr).2.2.2.1
    case rg => intro r hr; exact (row r hr).2.2.2.2
    case q1 => intro r j e hr he; cases he
    case q2 => intro r j e hr he; cases he
    case q3 => intro r j e hr he; cases he
    case dp => intro n hn; exact (n2 n hn).1.1
    case ln => intro n hn; exact (n2 n hn).1.2.1
    case ca => intro n hn; exact (n2 n hn).1.2.2.1
    case co => intro n hn; exact (n2 n hn).1.2.2.2.1
    case fa => intro n hn; exact (n2 n hn).1.2.2.2.2
    case mm => intro n j hn hj; exact (n2 n hn).2.1 j hj
    case sk => intro n j hn hj; exact absurd hj (Nat.not_lt_zero j)
    case nm => intro n j hn hj; exact absurd hj (Nat.not_lt_zero j)
    case nu => intro n j hn hj; exact absurd hj (Nat.not_lt_zero j)
    case wy => show μn 27 0 4 = 120; rw [n3 27 (kk 27 (by decide)), me_up_kn (by decide), me_up_kn (by decide), me_up_kn (by decide), me_up_at]
    case bt => show μn 30 0 5 = me_N 0; rw [n3 30 (kk 30 (by decide)), me_up_jn (by decide), me_up_jn (by decide), me_up_at]; rfl
  obtain ⟨μ', s1, s2, s3⟩ := y_setPl hC 2
  refine ⟨μ', ?_, s2.eq ⟨rfl, rfl, rfl, rfl, rfl, rfl, rfl, rfl, rfl, rfl, rfl, rfl, rfl, rfl, rfl, rfl, rfl, rfl, rfl, rfl, rfl, rfl, rfl, rfl, rfl, rfl, rfl, rfl, rfl, rfl, rfl, rfl, rfl, rfl, rfl, rfl, rfl, rfl, rfl, rfl, rfl⟩, fun k hk => ?_, fun n hn => ?_⟩
  · have t1 : f_Placing_reset_h7 me_FU (me_up (me_up (me_up μ2 6 0 1 0) 6 0 2 0) 9 0 3 0) 0 = some (μ4, ()) := t1
    have n1 : f_Y_makeAnew_h41 me_FU (me_up (me_up (me_up (me_up μ4 27 0 4 120) 30 0 5 0) 30 0 6 0) 30 0 7 0) 0 = me_b2 (f_Y_setAllPlaces μn 2) (fun μ3 _ => some (μ3, ())) := n1
    have s1 : f_Y_setAllPlaces μn 2 = some (μ', ()) := s1
    unfold f_Y_makeAnew f_Post_reset f_Placing_reset f_Mover_reset
    rw [l1, me_b2_s, me_lt_s, me_lt_s, me_b2_s, me_lt_s, t1, me_b2_s, me_lt_s, me_lt_s, me_lt_s, me_lt_s, me_b2_s, n1, s1, me_b2_s]
  · rw [s3 k (by omega) (by omega)]
    funext i j
    rw [r0 k i j (kk k (by omega)) (by omega) (by omega) (by omega) (by omega) (by omega) (by omega) (by omega) (by omega) (by omega) (by omega)]
  · rw [s3 13 (by decide) (by decide)]
    exact (n2 n hn).2.2.1.2.1
/-! the reference begins: each cell that is set is set to one word of its kind -/
def gh_zk (k : Nat) : Prop := k = 60 ∨ k = 63 ∨ k = 69 ∨ k = 72 ∨ k = 74 ∨ k = 76 ∨ k = 84 ∨ k = 85 ∨ k = 86 ∨ k = 87 ∨ k = 88 ∨ k = 89 ∨ k = 91
def gh_Z (k : Nat) : Int32 := if k = 63 ∨ k = 91 then -1 else if k = 72 then 4 else if k = 89 then 45 else 0
def gh_zz (ν ν' : me_M) : Prop := ∀ k i j, ν' k i j = ν k i j ∨ (gh_zk k ∧ ν' k i j = gh_Z k)
theorem gh_zz.re {ν : me_M} : gh_zz ν ν := fun _ _ _ => Or.inl rfl
theorem gh_zz.w {ν ν' : me_M} (h : gh_zz ν ν') {k i j : Nat} {x : Int32} (hk : gh_zk k) (hx : x = gh_Z k) : gh_zz ν (me_up ν' k i j x) := by
  intro k' i' j'
  rw [me_up_ap]
  by_cases e : k' = k ∧ i' = i ∧ j' = j
  · rw [if_pos e, e.1]
    exact Or.inr ⟨hk, hx⟩
  · rw [if_neg e]
    exact h k' i' j'
theorem gh_zz.tr_ {ν ν' ν'' : me_M} (h : gh_zz ν ν') (g : gh_zz ν' ν'') : gh_zz ν ν'' := by
  intro k i j
  rcases g k i j with q | q
  · rcases h k i j with r | r
    · exact Or.inl (q.trans r)
    · exact Or.inr ⟨r.1, q.trans r.2⟩
  · exact Or.inr q
theorem gh_zz.k {ν ν' : me_M} (h : gh_zz ν ν') {k i j : Nat} (e : ν k i j = gh_Z k) : ν' k i j = gh_Z k := by
  rcases h k i j with q | q
  · exact q.trans e
  · exact q.2
theorem gh_zz.f {ν ν' : me_M} (h : gh_zz ν ν') {k : Nat} (hk : ¬ gh_zk k) : ν' k = ν k := by
  funext i j
  exact (h k i j).resolve_right (fun q => hk q.1)
theorem m_b17 {n c : Nat} (hn : n < 16) (hc : c < 2) {K2 : me_M → Int32 → Option (me_M × Unit)} {K10 : me_M → Int32 → Int32 → Option (me_M × Unit)} : ∀ (d f k : Nat) (ν : me_M), k + d = 5 → d < f → ∃ ν', f_M_begins_h17 K2 K10 f ν (me_N n) (me_N c) (me_N k) = K10 ν' (me_N n) (me_N (c + 1)) ∧ gh_zz ν ν' ∧ ∀ k', k ≤ k' → k' < 5 → ν' 60 (2 * n + c) k' = gh_Z 60 ∧ ν' 63 (2 * n + c) k' = gh_Z 63 ∧ ν' 69 (2 * n + c) k' = gh_Z 69 ∧ ν' 72 (2 * n + c) k' = gh_Z 72 := by
  intro d
  induction d with
  | zero =>
    intro f k ν h1 h2
    obtain ⟨f, rfl⟩ : ∃ g, f = g + 1 := ⟨f - 1, by omega⟩
    refine ⟨ν, ?_, gh_zz.re, fun k' a b => by omega⟩
    show f_M_begins_b17 _ _ _ _ _ _ _ = _
    unfold f_M_begins_b17
    rw [if_pos (by rw [me_N_5, me_N_le (by omega) (by omega)]; omega), me_N_inc, me_lt_s]
  | succ d ih =>
    intro f k ν h1 h2
    obtain ⟨f, rfl⟩ : ∃ g, f = g + 1 := ⟨f - 1, by omega⟩
    obtain ⟨ν', k1, k2, k3⟩ := ih f (k + 1) (me_up (me_up (me_up (me_up ν 60 (2 * n + c) k 0) 63 (2 * n + c) k (-1)) 69 (2 * n + c) k 0) 72 (2 * n + c) k 4) (by omega) (by omega)
    have z : gh_zz ν (me_up (me_up (me_up (me_up ν 60 (2 * n + c) k 0) 63 (2 * n + c) k (-1)) 69 (2 * n + c) k 0) 72 (2 * n + c) k 4) := (((gh_zz.re.w (by unfold gh_zk; omega) rfl).w (by unfold gh_zk; omega) rfl).w (by unfold gh_zk; omega) rfl).w (by unfold gh_zk; omega) rfl
    refine ⟨ν', ?_, z.tr_ k2, fun k' a b => ?_⟩
    · show f_M_begins_b17 _ _ _ _ _ _ _ = _
      unfold f_M_begins_b17
      rw [if_neg (by rw [me_N_5, me_N_le (by omega) (by omega)]; omega)]
      simp only [me_gd_n (show n < 2147483648 by omega) hn, me_gd_n (show c < 2147483648 by omega) hc, me_gd_n (show k < 2147483648 by omega) (show k < 5 by omega), me_N_ix (show n < 2147483648 by omega), me_N_ix (show c < 2147483648 by omega), me_N_ix (show k < 2147483648 by omega), me_lt_s, me_N_inc]
      exact k1
    · by_cases e : k' = k
      · rw [e]
        refine ⟨k2.k ?_, k2.k ?_, k2.k ?_, k2.k ?_⟩
        · rw [me_up_kn (by decide), me_up_kn (by decide), me_up_kn (by decide), me_up_at]; rfl
        · rw [me_up_kn (by decide), me_up_kn (by decide), me_up_at]; rfl
        · rw [me_up_kn (by decide), me_up_at]; rfl
        · rw [me_up_at]; rfl
      · exact k3 k' (by omega) b
theorem m_b10 {n : Nat} (hn : n < 16) {K2 : me_M → Int32 → Option (me_M × Unit)} : ∀ (d f c : Nat) (ν : me_M), c + d = 2 → d < f → ∃ ν', f_M_begins_h10 K2 f ν (me_N n) (me_N c) = f_M_begins_h80 K2 me_FU ν' (me_N n) 0 ∧ gh_zz ν ν' ∧ ∀ c' k', c ≤ c' → c' < 2 → k' < 5 → ν' 60 (2 * n + c') k' = gh_Z 60 ∧ ν' 63 (2 * n + c') k' = gh_Z 63 ∧ ν' 69 (2 * n + c') k' = gh_Z 69 ∧ ν' 72 (2 * n + c') k' = gh_Z 72 := by
  intro d
  induction d with
  | zero =>
    intro f c ν h1 h2
    obtain ⟨f, rfl⟩ : ∃ g, f = g + 1 := ⟨f - 1, by omega⟩
    refine ⟨ν, ?_, gh_zz.re, fun c' k' a b => by omega⟩
    show f_M_begins_b10 _ _ _ _ _ = _
    unfold f_M_begins_b10
    rw [if_pos (by rw [me_N_2, me_N_le (by omega) (by omega)]; omega)]
  | succ d ih =>
    intro f c ν h1 h2
    obtain ⟨f, rfl⟩ : ∃ g, f = g + 1 := ⟨f - 1, by omega⟩
    obtain ⟨ν1, g1, g2, g3⟩ := m_b17 hn (show c < 2 by omega) (K2 := K2) (K10 := f_M_begins_h10 K2 f) 5 me_FU 0 ν (by omega) (by unfold me_FU; omega)
    obtain ⟨ν', k1, k2, k3⟩ := ih f (c + 1) ν1 (by omega) (by omega)
    refine ⟨ν', ?_, g2.tr_ k2, fun c' k' a b e => ?_⟩
    · show f_M_begins_b10 _ _ _ _ _ = _
      unfold f_M_begins_b10
      rw [if_neg (by rw [me_N_2, me_N_le (by omega) (by omega)]; omega)]
      exact g1.trans k1
    · by_cases q : c' = c
      · rw [q]
        obtain ⟨r1, r2, r3, r4⟩ := g3 k' (Nat.zero_le _) e
        exact ⟨k2.k r1, k2.k r2, k2.k r3, k2.k r4⟩
      · exact k3 c' k' (by omega) b e
theorem m_b80 {n : Nat} (hn : n < 16) {K2 : me_M → Int32 → Option (me_M × Unit)} : ∀ (d f k : Nat) (ν : me_M), k + d = 5 → d < f → ∃ ν', f_M_begins_h80 K2 f ν (me_N n) (me_N k) = f_M_begins_h102 K2 me_FU ν' (me_N n) 0 ∧ gh_zz ν ν' ∧ ∀ k', k ≤ k' → k' < 5 → ν' 74 n k' = gh_Z 74 := by
  intro d
  induction d with
  | zero =>
    intro f k ν h1 h2
    obtain ⟨f, rfl⟩ : ∃ g, f = g + 1 := ⟨f - 1, by omega⟩
    refine ⟨ν, ?_, gh_zz.re, fun k' a b => by omega⟩
    show f_M_begins_b80 _ _ _ _ _ = _
    unfold f_M_begins_b80
    rw [if_pos (by rw [me_N_5, me_N_le (by omega) (by omega)]; omega)]
  | succ d ih =>
    intro f k ν h1 h2
    obtain ⟨f, rfl⟩ : ∃ g, f = g + 1 := ⟨f - 1, by omega⟩
    obtain ⟨ν', k1, k2, k3⟩ := ih f (k + 1) (me_up ν 74 n k 0) (by omega) (by omega)
    refine ⟨ν', ?_, (gh_zz.re.w (by unfold gh_zk; omega) rfl).tr_ k2, fun k' a b => ?_⟩
    · show f_M_begins_b80 _ _ _ _ _ = _
      unfold f_M_begins_b80
      rw [if_neg (by rw [me_N_5, me_N_le (by omega) (by omega)]; omega), me_gd_n (by omega) hn, me_gd_n (by omega) (by omega), me_N_ix (by omega), me_N_ix (by omega), show vp_nar .boolean 0 = (0 : Int32) from rfl, me_lt_s, me_N_inc, me_lt_s]
      exact k1
    · by_cases e : k' = k
      · rw [e]
        exact k2.k (by rw [me_up_at]; rfl)
      · exact k3 k' (by omega) b
theorem m_b102 {n : Nat} (hn : n < 16) {K2 : me_M → Int32 → Option (me_M × Unit)} : ∀ (d f k : Nat) (ν : me_M), k + d = 8 → d < f → ∃ ν', f_M_begins_h102 K2 f ν (me_N n) (me_N k) = K2 ν' (me_N (n + 1)) ∧ gh_zz ν ν' ∧ (∀ k', k ≤ k' → k' < 8 → ν' 76 n k' = gh_Z 76) ∧ ν' 85 0 n = gh_Z 85 ∧ ν' 86 0 n = gh_Z 86 ∧ ν' 87 0 n = gh_Z 87 ∧ ν' 88 0 n = gh_Z 88 ∧ ν' 89 0 n = gh_Z 89 ∧ ν' 91 0 n = gh_Z 91 := by
  intro d
  induction d with
  | zero =>
    intro f k ν h1 h2
    obtain ⟨f, rfl⟩ : ∃ g, f = g + 1 := ⟨f - 1, by omega⟩
    refine ⟨me_up (me_up (me_up (me_up (me_up (me_up ν 85 0 n 0) 86 0 n 0) 87 0 n 0) 88 0 n 0) 89 0 n 45) 91 0 n (-1), ?_, ?_, fun k' a b => by omega, ?_, ?_, ?_, ?_, ?_, ?_⟩
    · show f_M_begins_b102 _ _ _ _ _ = _
      unfold f_M_begins_b102
      rw [if_pos (by rw [me_N_8, me_N_le (by omega) (by omega)]; omega)]
      simp only [me_gd_n (show n < 2147483648 by omega) hn, me_N_ix (show n < 2147483648 by omega), me_lt_s, me_N_inc, show vp_nar .boolean 0 = (0 : Int32) from rfl, show vp_nar .char 45 = (45 : Int32) from rfl]
    · exact (((((gh_zz.re.w (by unfold gh_zk; omega) rfl).w (by unfold gh_zk; omega) rfl).w (by unfold gh_zk; omega) rfl).w (by unfold gh_zk; omega) rfl).w (by unfold gh_zk; omega) rfl).w (by unfold gh_zk; omega) rfl
    · rw [me_up_kn (by decide), me_up_kn (by decide), me_up_kn (by decide), me_up_kn (by decide), me_up_kn (by decide), me_up_at]; rfl
    · rw [me_up_kn (by decide), me_up_kn (by decide), me_up_kn (by decide), me_up_kn (by decide), me_up_at]; rfl
    · rw [me_up_kn (by decide), me_up_kn (by decide), me_up_kn (by decide), me_up_at]; rfl
    · rw [me_up_kn (by decide), me_up_kn (by decide), me_up_at]; rfl
    · rw [me_up_kn (by decide), me_up_at]; rfl
    · rw [me_up_at]; rfl
  | succ d ih =>
    intro f k ν h1 h2
    obtain ⟨f, rfl⟩ : ∃ g, f = g + 1 := ⟨f - 1, by omega⟩
    obtain ⟨ν', k1, k2, k3, k4⟩ := ih f (k + 1) (me_up ν 76 n k 0) (by omega) (by omega)
    refine ⟨ν', ?_, (gh_zz.re.w (by unfold gh_zk; omega) rfl).tr_ k2, fun k' a b => ?_, k4⟩
    · show f_M_begins_b102 _ _ _ _ _ = _
      unfold f_M_begins_b102
      rw [if_neg (by rw [me_N_8, me_N_le (by omega) (by omega)]; omega), me_gd_n (by omega) hn, me_gd_n (by omega) (by omega), me_N_ix (by omega), me_N_ix (by omega), me_lt_s, me_N_inc, me_lt_s]
      exact k1
    · by_cases e : k' = k
      · rw [e]
        exact k2.k (by rw [me_up_at]; rfl)
      · exact k3 k' (by omega) b
/-- what of a node is set -/
def gh_zn (ν : me_M) (n : Nat) : Prop := (∀ c k, c < 2 → k < 5 → ν 60 (2 * n + c) k = gh_Z 60 ∧ ν 63 (2 * n + c) k = gh_Z 63 ∧ ν 69 (2 * n + c) k = gh_Z 69 ∧ ν 72 (2 * n + c) k = gh_Z 72) ∧ (∀ k, k < 5 → ν 74 n k = gh_Z 74) ∧ (∀ k, k < 8 → ν 76 n k = gh_Z 76) ∧ ν 85 0 n = gh_Z 85 ∧ ν 86 0 n = gh_Z 86 ∧ ν 87 0 n = gh_Z 87 ∧ ν 88 0 n = gh_Z 88 ∧ ν 89 0 n = gh_Z 89 ∧ ν 91 0 n = gh_Z 91
theorem gh_zn.z {ν ν' : me_M} {n : Nat} (h : gh_zn ν n) (z : gh_zz ν ν') : gh_zn ν' n := by
  obtain ⟨a, b, c, d, e, f, g, i, j⟩ := h
  exact ⟨fun x y hx hy => ⟨z.k (a x y hx hy).1, z.k (a x y hx hy).2.1, z.k (a x y hx hy).2.2.1, z.k (a x y hx hy).2.2.2⟩, fun y hy => z.k (b y hy), fun y hy => z.k (c y hy), z.k d, z.k e, z.k f, z.k g, z.k i, z.k j⟩
theorem m_b2 : ∀ (d f n : Nat) (ν : me_M), n + d = 16 → d < f → ∃ ν', f_M_begins_h2 f ν (me_N n) = f_M_begins_h182 me_FU ν' 8 0 ∧ gh_zz ν ν' ∧ ∀ m, n ≤ m → m < 16 → gh_zn ν' m := by
  intro d
  induction d with
  | zero =>
    intro f n ν h1 h2
    obtain ⟨f, rfl⟩ : ∃ g, f = g + 1 := ⟨f - 1, by omega⟩
    refine ⟨ν, ?_, gh_zz.re, fun m a b => by omega⟩
    show f_M_begins_b2 _ _ _ = _
    unfold f_M_begins_b2
    rw [if_pos (by rw [me_N_16, me_N_le (by omega) (by omega)]; omega)]
  | succ d ih =>
    intro f n ν h1 h2
    obtain ⟨f, rfl⟩ : ∃ g, f = g + 1 := ⟨f - 1, by omega⟩
    obtain ⟨ν1, a1, a2, a3⟩ := m_b10 (show n < 16 by omega) (K2 := f_M_begins_h2 f) 2 me_FU 0 ν (by omega) (by unfold me_FU; omega)
    obtain ⟨ν2, b1, b2, b3⟩ := m_b80 (show n < 16 by omega) (K2 := f_M_begins_h2 f) 5 me_FU 0 ν1 (by omega) (by unfold me_FU; omega)
    obtain ⟨ν3, c1, c2, c3, c4⟩ := m_b102 (show n < 16 by omega) (K2 := f_M_begins_h2 f) 8 me_FU 0 ν2 (by omega) (by unfold me_FU; omega)
    obtain ⟨ν', k1, k2, k3⟩ := ih f (n + 1) ν3 (by omega) (by omega)
    have hz : gh_zn ν3 n := ⟨fun c k hc hk => by
      obtain ⟨r1, r2, r3, r4⟩ := a3 c k (Nat.zero_le _) hc hk
      have z := b2.tr_ c2
      exact ⟨z.k r1, z.k r2, z.k r3, z.k r4⟩, fun k hk => c2.k (b3 k (Nat.zero_le _) hk), fun k hk => c3 k (Nat.zero_le _) hk, c4⟩
    refine ⟨ν', ?_, ((a2.tr_ b2).tr_ c2).tr_ k2, fun m a b => ?_⟩
    · show f_M_begins_b2 _ _ _ = _
      unfold f_M_begins_b2
      rw [if_neg (by rw [me_N_16, me_N_le (by omega) (by omega)]; omega)]
      exact a1.trans (b1.trans (c1.trans k1))
    · by_cases e : m = n
      · rw [e]
        exact hz.z k2
      · exact k3 m (by omega) b
theorem m_b195 {K182 : me_M → Int32 → Int32 → Option (me_M × Unit)} {x : Int32} {i r : Nat} : ∀ (d f k : Nat) (ν : me_M), k + d = 8 → d < f → ∃ ν', f_M_begins_h195 K182 f ν x (me_N i) r (me_N k) = K182 ν' x (me_N (i + 1)) ∧ gh_zz ν ν' ∧ ∀ k', k ≤ k' → k' < 8 → ν' 84 r k' = gh_Z 84 := by
  intro d
  induction d with
  | zero =>
    intro f k ν h1 h2
    obtain ⟨f, rfl⟩ : ∃ g, f = g + 1 := ⟨f - 1, by omega⟩
    refine ⟨ν, ?_, gh_zz.re, fun k' a b => by omega⟩
    show f_M_begins_b195 _ _ _ _ _ _ _ = _
    unfold f_M_begins_b195
    rw [if_pos (by rw [me_N_8, me_N_le (by omega) (by omega)]; omega), me_N_inc, me_lt_s]
  | succ d ih =>
    intro f k ν h1 h2
    obtain ⟨f, rfl⟩ : ∃ g, f = g + 1 := ⟨f - 1, by omega⟩
    obtain ⟨ν', k1, k2, k3⟩ := ih f (k + 1) (me_up ν 84 r k 0) (by omega) (by omega)
    refine ⟨ν', ?_, (gh_zz.re.w (by unfold gh_zk; omega) rfl).tr_ k2, fun k' a b => ?_⟩
    · show f_M_begins_b195 _ _ _ _ _ _ _ = _
      unfold f_M_begins_b195
      rw [if_neg (by rw [me_N_8, me_N_le (by omega) (by omega)]; omega), me_gd_n (by omega) (by omega), me_N_ix (by omega), me_lt_s, me_N_inc, me_lt_s]
      exact k1
    · by_cases e : k' = k
      · rw [e]
        exact k2.k (by rw [me_up_at]; rfl)
      · exact k3 k' (by omega) b
theorem m_b182 : ∀ (d f i : Nat) (ν : me_M), i + d = 8 → d < f → ∃ ν', f_M_begins_h182 f ν 8 (me_N i) = some (me_up (me_up (me_up (me_up (me_up ν' 36 0 19 0) 36 0 41 0) 36 0 4 0) 36 0 2 2) 36 0 3 120, ()) ∧ gh_zz ν ν' ∧ ∀ r k, i ≤ r → r < 8 → k < 8 → ν' 84 r k = gh_Z 84 := by
  intro d
  induction d with
  | zero =>
    intro f i ν h1 h2
    obtain ⟨f, rfl⟩ : ∃ g, f = g + 1 := ⟨f - 1, by omega⟩
    refine ⟨ν, ?_, gh_zz.re, fun r k a b => by omega⟩
    show f_M_begins_b182 _ _ _ _ = _
    unfold f_M_begins_b182
    rw [if_pos (by rw [me_N_8, me_N_le (by omega) (by omega)]; omega), me_lt_s, me_lt_s, me_lt_s, me_lt_s, me_lt_s]
  | succ d ih =>
    intro f i ν h1 h2
    obtain ⟨f, rfl⟩ : ∃ g, f = g + 1 := ⟨f - 1, by omega⟩
    obtain ⟨ν1, g1, g2, g3⟩ := m_b195 (K182 := f_M_begins_h182 f) (x := 8) (i := i) (r := i) 8 me_FU 0 ν (by omega) (by unfold me_FU; omega)
    obtain ⟨ν', k1, k2, k3⟩ := ih f (i + 1) ν1 (by omega) (by omega)
    refine ⟨ν', ?_, g2.tr_ k2, fun r k a b e => ?_⟩
    · show f_M_begins_b182 _ _ _ _ = _
      unfold f_M_begins_b182
      rw [if_neg (by rw [me_N_8, me_N_le (by omega) (by omega)]; omega), me_gd_n (by omega) (by omega), me_N_ix (by omega)]
      exact g1.trans k1
    · by_cases q : r = i
      · rw [q]
        exact k2.k (g3 k (Nat.zero_le _) e)
      · exact k3 r k (by omega) b e
theorem m_begins {a : me_S} {ν : me_M} {w h : Nat} (hw : ν 36 0 0 = me_N w) (hh : ν 36 0 1 = me_N h) : ∃ ν', f_M_begins ν = some (ν', ()) ∧ me_RM (gh_nw a w h 2) ν' ∧ (∀ k, k < 36 → ν' k = ν k) ∧ ν' 36 0 42 = ν 36 0 42 := by
  obtain ⟨ν1, a1, a2, a3⟩ := m_b2 16 me_FU 0 ν (by omega) (by unfold me_FU; omega)
  obtain ⟨ν2, b1, b2, b3⟩ := m_b182 8 me_FU 0 ν1 (by omega) (by unfold me_FU; omega)
  have z := a2.tr_ b2
  have z36 : ν2 36 = ν 36 := z.f (by unfold gh_zk; omega)
  have zn : ∀ m, m < 16 → gh_zn ν2 m := fun m hm => (a3 m (Nat.zero_le _) hm).z b2
  refine ⟨me_up (me_up (me_up (me_up (me_up ν2 36 0 19 0) 36 0 41 0) 36 0 4 0) 36 0 2 2) 36 0 3 120, a1.trans b1, ?_, fun k hk => ?_, ?_⟩
  · have ku : ∀ k i j, ¬ k = 36 → me_up (me_up (me_up (me_up (me_up ν2 36 0 19 0) 36 0 41 0) 36 0 4 0) 36 0 2 2) 36 0 3 120 k i j = ν2 k i j := fun k i j hk => by rw [me_up_kn hk, me_up_kn hk, me_up_kn hk, me_up_kn hk, me_up_kn hk]
    apply me_RM.mk
    case w => rw [me_up_jn (by decide), me_up_jn (by decide), me_up_jn (by decide), me_up_jn (by decide), me_up_jn (by decide), z36]; exact hw
    case h => rw [me_up_jn (by decide), me_up_jn (by decide), me_up_jn (by decide), me_up_jn (by decide), me_up_jn (by decide), z36]; exact hh
    case rp => rw [me_up_jn (by decide), me_up_at]; rfl
    case wy => rw [me_up_at]; rfl
    case bt => rw [me_up_jn (by decide), me_up_jn (by decide), me_up_at]; rfl
    case np => rw [me_up_jn (by decide), me_up_jn (by decide), me_up_jn (by decide), me_up_jn (by decide), me_up_at]; rfl
    case nt => rw [me_up_jn (by decide), me_up_jn (by decide), me_up_jn (by decide), me_up_at]; rfl
    case q1 => intro b k j e hb hk he; cases he
    case q3 => intro b k j e hb hk he; cases he
    case qn => intro b k hb hk; rw [ku _ _ _ (by decide)]; have := ((zn (b / 2) (by omega)).1 (b % 2) k (by omega) hk).1; rw [show 2 * (b / 2) + b % 2 = b by omega] at this; exact this
    case ro => intro b k hb hk; rw [ku _ _ _ (by decide)]; have := ((zn (b / 2) (by omega)).1 (b % 2) k (by omega) hk).2.1; rw [show 2 * (b / 2) + b % 2 = b by omega] at this; exact this
    case rh => intro b k hb hk; exact Or.inl rfl
    case rg => intro b k hb hk; rw [ku _ _ _ (by decide)]; have := ((zn (b / 2) (by omega)).1 (b % 2) k (by omega) hk).2.2.1; rw [show 2 * (b / 2) + b % 2 = b by omega] at this; exact this
    case lr => intro b k hb hk; rw [ku _ _ _ (by decide)]; have := ((zn (b / 2) (by omega)).1 (b % 2) k (by omega) hk).2.2.2; rw [show 2 * (b / 2) + b % 2 = b by omega] at this; exact this
    case fl => intro n d hn hd; rw [ku _ _ _ (by decide)]; exact (zn n hn).2.1 d (by omega)
    case mm => intro n j hn hj; rw [ku _ _ _ (by decide)]; exact (zn n hn).2.2.1 j hj
    case tr => intro i j hi hj; rw [ku _ _ _ (by decide)]; exact b3 i j (Nat.zero_le _) hi hj
    case aw => intro n hn; rw [ku _ _ _ (by decide)]; exact (zn n hn).2.2.2.1
    case dp => intro n hn; rw [ku _ _ _ (by decide)]; exact (zn n hn).2.2.2.2.2.1
    case ln => intro n hn; rw [ku _ _ _ (by decide)]; exact (zn n hn).2.2.2.2.2.2.1
    case co => intro n hn; rw [ku _ _ _ (by decide)]; exact (zn n hn).2.2.2.2.2.2.2.1
    case fa => intro n hn e; exact absurd (show (45 : Int32) = 120 from e) (by decide)
    case ca => intro n hn; rw [ku _ _ _ (by decide)]; exact (zn n hn).2.2.2.2.2.2.2.2
    all_goals (intros; exact absurd ‹_ < _› (Nat.not_lt_zero _))
  · rw [← z.f (show ¬ gh_zk k by unfold gh_zk; omega)]
    funext i j
    rw [me_up_kn (by omega), me_up_kn (by omega), me_up_kn (by omega), me_up_kn (by omega), me_up_kn (by omega)]
  · rw [me_up_jn (by decide), me_up_jn (by decide), me_up_jn (by decide), me_up_jn (by decide), me_up_jn (by decide), z36]
