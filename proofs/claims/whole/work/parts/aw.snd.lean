/-! isSound -/
theorem y_one {a : me_S} {μ : me_M} (hC : me_RC a μ) (hI : me_Iv a) {x : Nat} (hx : x < 160) (h5 : ¬ x % 5 = 4) : f_Audit_hasOnePacket μ x = some 1 := by
  have h4 := me_ql a hI x
  have all : ∀ j, j < (a.q x).length → μ 18 x j = me_Op (a.ro x) := fun j hj => by
    have e := List.getElem?_eq_getElem hj
    rw [hC.q1 x j _ hx e, hI.2.2.2.2.1.idi x _ (List.getElem_mem hj) h5]
    rfl
  have loop : ∀ (k f j : Nat), j + k = (a.q x).length → k < f → 1 ≤ j → f_Audit_hasOnePacket_h2 μ f x (me_N j) = some 1 := by
    intro k
    induction k with
    | zero =>
      intro f j h1 h2 h3
      obtain ⟨f, rfl⟩ : ∃ g, f = g + 1 := ⟨f - 1, by omega⟩
      show f_Audit_hasOnePacket_b2 _ _ _ _ = _
      unfold f_Audit_hasOnePacket_b2
      rw [hC.qn x hx, if_pos (by rw [me_N_le (by omega) (by omega)]; omega)]
    | succ k ih =>
      intro f j h1 h2 h3
      obtain ⟨f, rfl⟩ : ∃ g, f = g + 1 := ⟨f - 1, by omega⟩
      show f_Audit_hasOnePacket_b2 _ _ _ _ = _
      unfold f_Audit_hasOnePacket_b2
      rw [hC.qn x hx, if_neg (by rw [me_N_le (by omega) (by omega)]; omega), me_gd_n (by omega) (by omega), me_N_ix (by omega), all j (by omega), all 0 (by omega), if_pos rfl, me_N_inc, me_lt_s]
      exact ih f (j + 1) (by omega) (by omega) (by omega)
  unfold f_Audit_hasOnePacket
  by_cases e : (a.q x).length = 0
  · show f_Audit_hasOnePacket_b2 μ (f_Audit_hasOnePacket_h2 μ 999) x 1 = _
    unfold f_Audit_hasOnePacket_b2
    rw [hC.qn x hx, e, if_pos (by decide)]
  · exact loop ((a.q x).length - 1) me_FU 1 (by omega) (by unfold me_FU; omega) (Nat.le_refl _)
theorem y_rs38 {a : me_S} {μ : me_M} (hC : me_RC a μ) (hI : me_Iv a) {n : Nat} (hn : n < 16) {K2 : Int32 → Option Int32} : ∀ (k f i : Nat), i + k = 10 → k < f → f_Audit_rowsAreSound_h38 μ K2 f (me_N n) n (me_N i) = K2 (me_N (n + 1)) := by
  intro k
  induction k with
  | zero =>
    intro f i h1 h2
    obtain ⟨f, rfl⟩ : ∃ g, f = g + 1 := ⟨f - 1, by omega⟩
    show f_Audit_rowsAreSound_b38 _ _ _ _ _ _ = _
    unfold f_Audit_rowsAreSound_b38
    rw [if_pos (by rw [me_N_10, me_N_le (by omega) (by omega)]; omega), me_N_inc, me_lt_s]
  | succ k ih =>
    intro f i h1 h2
    obtain ⟨f, rfl⟩ : ∃ g, f = g + 1 := ⟨f - 1, by omega⟩
    show f_Audit_rowsAreSound_b38 _ _ _ _ _ _ = _
    unfold f_Audit_rowsAreSound_b38
    rw [if_neg (by rw [me_N_10, me_N_le (by omega) (by omega)]; omega), me_N_5, me_N_rem (by omega) (by omega) (by omega), me_N_inc, me_lt_s]
    by_cases e : i % 5 = 4
    · rw [if_pos (show me_N (i % 5) = 4 by rw [e]; rfl)]
      exact ih f (i + 1) (by omega) (by omega)
    · rw [if_neg (show ¬ me_N (i % 5) = 4 by rw [me_N_4, me_N_inj (by omega) (by omega)]; exact e), me_gd_n (by omega) (by omega), me_N_ix (by omega), y_one hC hI (by omega) (by omega), me_bd_s, if_neg (by decide)]
      exact ih f (i + 1) (by omega) (by omega)
theorem y_rs2 {a : me_S} {μ : me_M} (hC : me_RC a μ) (hI : me_Iv a) : ∀ (k f n : Nat), n + k = a.w * a.h → k < f → f_Audit_rowsAreSound_h2 μ f (me_N n) = some 1 := by
  have hwh := hI.wh
  intro k
  induction k with
  | zero =>
    intro f n h1 h2
    obtain ⟨f, rfl⟩ : ∃ g, f = g + 1 := ⟨f - 1, by omega⟩
    show f_Audit_rowsAreSound_b2 _ _ _ = _
    unfold f_Audit_rowsAreSound_b2
    rw [hC.nn, if_pos (by rw [me_N_le (by omega) (by omega)]; omega)]
  | succ k ih =>
    intro f n h1 h2
    obtain ⟨f, rfl⟩ : ∃ g, f = g + 1 := ⟨f - 1, by omega⟩
    have e38 : f_Audit_rowsAreSound_h38 μ (f_Audit_rowsAreSound_h2 μ f) me_FU (me_N n) n 0 = f_Audit_rowsAreSound_h2 μ f (me_N (n + 1)) := y_rs38 hC hI (by omega) 10 me_FU 0 (by omega) (by unfold me_FU; omega)
    show f_Audit_rowsAreSound_b2 _ _ _ = _
    unfold f_Audit_rowsAreSound_b2
    rw [hC.nn, if_neg (by rw [me_N_le (by omega) (by omega)]; omega), me_gd_n (by omega) (by omega), me_N_ix (by omega), hC.aw n (by omega), y_pieces hC (by omega), me_bd_s, e38, ih f (n + 1) (by omega) (by omega)]
    cases haw : a.aw n with
    | true => rw [if_neg (show ¬ me_bi true = 0 by decide)]
    | false =>
      have z : me_sm (fun k => gh_ln a (10 * n + k)) 0 10 = 0 := me_sm_zero _ _ (fun j _ hj => by
        have := (hI.2.2.2.2.1.isl (10 * n + j) (by rw [show (10 * n + j) / 10 = n by omega]; exact haw)).1
        unfold gh_ln
        rw [this]
        rfl)
      rw [if_pos (show me_bi false = 0 from rfl), z, if_pos (by decide)]
/-- where a piece was found -/
def gh_FN (μ : me_M) (i x j : Nat) : Prop := μ 33 0 i = me_N (x / 10) ∧ μ 34 0 i = me_N (x % 5) ∧ μ 35 0 i = me_N j
/-- what of a packet's pieces was found, among rows and places that P tells -/
def gh_FS (a : me_S) (p : Nat) (μ : me_M) (P : Nat → Nat → Prop) : Prop := ∀ x j i c, P x j → (a.q x)[j]? = some (p, i, c) → gh_FN μ i x j
theorem gh_uni {a : me_S} (hI : me_Iv a) {p i c c' x j x' j' : Nat} (h1 : (a.q x)[j]? = some (p, i, c)) (h2 : (a.q x')[j']? = some (p, i, c')) : x = x' ∧ j = j' := by
  have hx : x = x' := hI.2.2.2.2.1.ion x x' _ _ (List.mem_of_getElem? h1) (List.mem_of_getElem? h2) rfl rfl
  refine ⟨hx, ?_⟩
  rw [← hx] at h2
  have hp := List.pairwise_iff_getElem.mp (hI.2.2.2.2.1.iso x)
  obtain ⟨b1, e1⟩ := List.getElem?_eq_some_iff.mp h1
  obtain ⟨b2, e2⟩ := List.getElem?_eq_some_iff.mp h2
  rcases Nat.lt_trichotomy j j' with g | g | g
  · have := hp j j' b1 b2 g
    rw [e1, e2] at this
    rcases this with q | q
    · have q : p < p := q
      omega
    · have q : i < i := q.2
      omega
  · exact g
  · have := hp j' j b2 b1 g
    rw [e1, e2] at this
    rcases this with q | q
    · have q : p < p := q
      omega
    · have q : i < i := q.2
      omega
theorem y_fr26 {a : me_S} (hI : me_Iv a) {p x k : Nat} (hp : p < a.np) (hx : x / 10 < a.w * a.h) (hk : x % 5 = k) : ∀ (l : List (Nat × Nat × Nat)) (f j c : Nat) (μ : me_M) (P : Nat → Nat → Prop), (∀ i e, l[i]? = some e → (a.q x)[j + i]? = some e) → j + l.length = (a.q x).length → l.length < f → me_RC a μ → gh_FS a p μ P → (∀ j', j ≤ j' → ¬ P x j') → ∃ μ', f_Audit_findInRow_h26 f μ p (me_N (x / 10)) (me_N k) x (me_N c) (me_N j) = some (μ', me_N (c + l.countP (me_pq p))) ∧ me_RC a μ' ∧ gh_FS a p μ' (fun x' j' => P x' j' ∨ (x' = x ∧ j ≤ j')) ∧ ∀ k', ¬ (k' = 33 ∨ k' = 34 ∨ k' = 35) → μ' k' = μ k' := by
  have hwh := hI.wh
  have hnp := hI.n200
  have h4 := me_ql a hI x
  intro l
  induction l with
  | nil =>
    intro f j c μ P h0 h1 h2 hC hF hP
    obtain ⟨f, rfl⟩ : ∃ g, f = g + 1 := ⟨f - 1, by omega⟩
    refine ⟨μ, ?_, hC, fun x' j' i c' hq h => ?_, fun _ _ => rfl⟩
    · have h1 : j = (a.q x).length := h1
      show f_Audit_findInRow_b26 _ _ _ _ _ _ _ _ = _
      unfold f_Audit_findInRow_b26
      rw [hC.qn x (by omega), if_pos (by rw [me_N_le (by omega) (by omega)]; omega)]
      rfl
    · rcases hq with q | ⟨q1, q2⟩
      · exact hF x' j' i c' q h
      · have h1 : j = (a.q x).length := h1
        rw [q1] at h
        have := (List.getElem?_eq_some_iff.mp h).1
        omega
  | cons e0 l ih =>
    intro f j c μ P h0 h1 h2 hC hF hP
    obtain ⟨f, rfl⟩ : ∃ g, f = g + 1 := ⟨f - 1, by omega⟩
    rw [List.length_cons] at h1 h2
    have hj : (a.q x)[j]? = some e0 := h0 0 e0 rfl
    obtain ⟨p0, i0, c0⟩ := e0
    have hmem := List.mem_of_getElem? hj
    obtain ⟨b1, b2, b3, b4, b5, b6, b7⟩ := hI.2.2.2.2.1.iel x _ hmem
    have b2 : p0 < a.np := b2
    have b6 : i0 < a.pt p0 := b6
    have g1 := hI.2.1.ibo p0 b2
    have g2 := (hI.2.1.ipt p0 b2).2
    have z1 : μ 18 x j = me_N p0 := hC.q1 x j _ (by omega) hj
    have z2 : μ 19 x j = me_N i0 := hC.q2 x j _ (by omega) hj
    have z0 : μ 8 p 0 = me_N p := hC.p0 p (by omega)
    have nxt : ∀ i e, l[i]? = some e → (a.q x)[j + 1 + i]? = some e := fun i e h => by
      have := h0 (i + 1) e (by rw [List.getElem?_cons_succ]; exact h)
      rw [show j + 1 + i = j + (i + 1) by omega]
      exact this
    have eqn : f_Audit_findInRow_h26 (f + 1) μ p (me_N (x / 10)) (me_N k) x (me_N c) (me_N j) = if p0 = p then f_Audit_findInRow_h26 f (me_up (me_up (me_up μ 33 0 i0 (me_N (x / 10))) 34 0 i0 (me_N k)) 35 0 i0 (me_N j)) p (me_N (x / 10)) (me_N k) x (me_N (c + 1)) (me_N (j + 1)) else f_Audit_findInRow_h26 f μ p (me_N (x / 10)) (me_N k) x (me_N c) (me_N (j + 1)) := by
      show f_Audit_findInRow_b26 _ _ _ _ _ _ _ _ = _
      unfold f_Audit_findInRow_b26
      rw [hC.qn x (by omega), if_neg (by rw [me_N_le (by omega) (by omega)]; omega), me_gd_n (by omega) (by omega), me_N_ix (by omega), z2, me_lt_s, me_gd_n (by omega) (by omega), z1, z0]
      by_cases e : p0 = p
      · rw [if_pos (by rw [e]), if_pos e, if_neg (me_N_nneg (by omega)), if_neg (by rw [me_N_5, me_N_le (by omega) (by omega)]; omega)]
        simp only [me_gd_n (show i0 < 2147483648 by omega) (show i0 < 5 by omega), me_N_ix (show i0 < 2147483648 by omega), me_lt_s, me_N_inc]
      · rw [if_neg (by rw [me_N_inj (by omega) (by omega)]; exact e), if_neg e, me_N_inc, me_lt_s]
    rw [eqn, me_pq_cons]
    by_cases e : p0 = p
    · rw [if_pos e, if_pos e]
      have hF2 : gh_FS a p (me_up (me_up (me_up μ 33 0 i0 (me_N (x / 10))) 34 0 i0 (me_N k)) 35 0 i0 (me_N j)) (fun x' j' => P x' j' ∨ (x' = x ∧ j' = j)) := fun x' j' i c' hq h => by
        unfold gh_FN
        rcases hq with q | ⟨q1, q2⟩
        · have hne : ¬ i = i0 := fun ei => by
            rw [ei] at h
            rw [e] at hj
            obtain ⟨u1, u2⟩ := gh_uni hI h hj
            rw [u1] at q
            exact hP j' (by omega) q
          rw [me_up_kn (by decide), me_up_kn (by decide), me_up_jn hne, me_up_kn (by decide), me_up_jn hne, me_up_kn (by decide), me_up_jn hne, me_up_kn (by decide), me_up_kn (by decide)]
          exact hF x' j' i c' q h
        · rw [q1, q2, hj] at h
          have h' := Option.some.inj h
          have ei : i = i0 := by
            have := congrArg (fun t => t.2.1) h'
            exact this.symm
          rw [ei, q1, q2]
          exact ⟨by rw [me_up_kn (by decide), me_up_kn (by decide), me_up_at], by rw [me_up_kn (by decide), me_up_at, hk], me_up_at⟩
      obtain ⟨μ', k1, k2, k3, k4⟩ := ih f (j + 1) (c + 1) _ _ nxt (by omega) (by omega) (((hC.w_k33 0 i0 (me_N (x / 10))).w_k34 0 i0 (me_N k)).w_k35 0 i0 (me_N j)) hF2 (fun j' h3 q => by
        rcases q with q | q
        · exact hP j' (by omega) q
        · omega)
      refine ⟨μ', ?_, k2, fun x' j' i c' hq h => k3 x' j' i c' ?_ h, fun k' hk' => ?_⟩
      · rw [k1]
        congr 3
        omega
      · rcases hq with q | ⟨q1, q2⟩
        · exact Or.inl (Or.inl q)
        · by_cases ej : j' = j
          · exact Or.inl (Or.inr ⟨q1, ej⟩)
          · exact Or.inr ⟨q1, by omega⟩
      · rw [k4 k' hk']
        funext u v
        rw [me_up_kn (by omega), me_up_kn (by omega), me_up_kn (by omega)]
    · rw [if_neg e, if_neg e, Nat.add_zero]
      have hF2 : gh_FS a p μ (fun x' j' => P x' j' ∨ (x' = x ∧ j' = j)) := fun x' j' i c' hq h => by
        rcases hq with q | ⟨q1, q2⟩
        · exact hF x' j' i c' q h
        · rw [q1, q2, hj] at h
          have h' := Option.some.inj h
          exact absurd (congrArg (fun t => t.1) h') e
      obtain ⟨μ', k1, k2, k3, k4⟩ := ih f (j + 1) c μ _ nxt (by omega) (by omega) hC hF2 (fun j' h3 q => by
        rcases q with q | q
        · exact hP j' (by omega) q
        · omega)
      refine ⟨μ', k1, k2, fun x' j' i c' hq h => k3 x' j' i c' ?_ h, k4⟩
      rcases hq with q | ⟨q1, q2⟩
      · exact Or.inl (Or.inl q)
      · by_cases ej : j' = j
        · exact Or.inl (Or.inr ⟨q1, ej⟩)
        · exact Or.inr ⟨q1, by omega⟩
/-- how many pieces of a packet lie in a row -/
def gh_pk (a : me_S) (p x : Nat) : Nat := (a.q x).countP (me_pq p)
theorem gh_pk_0 {a : me_S} (hI : me_Iv a) {p x : Nat} (h : ¬ (x / 10 < a.w * a.h ∧ x % 10 / 5 = me_ch (a.kd p))) : gh_pk a p x = 0 := by
  unfold gh_pk
  rw [List.countP_eq_zero]
  intro e he hp
  unfold me_pq at hp
  rw [decide_eq_true_eq] at hp
  obtain ⟨b1, -, -, b4, -⟩ := hI.2.2.2.2.1.iel x e he
  rw [hp] at b4
  exact h ⟨b1, b4.symm⟩
theorem y_fp18 {a : me_S} (hI : me_Iv a) {p n : Nat} (hp : p < a.np) (hn : n < a.w * a.h) {K4 : me_M → Nat → Int32 → Int32 → Option (me_M × Int32)} : ∀ (d f k : Nat) (μ : me_M), k + d = 5 → d < f → me_RC a μ → gh_FS a p μ (fun x _ => x < 10 * n + 5 * me_ch (a.kd p) + k) → ∃ μ', f_Audit_findPieces_h18 K4 f μ p (me_N (me_sm (gh_pk a p) 0 (10 * n + 5 * me_ch (a.kd p) + k))) (me_N n) (me_N k) = K4 μ' p (me_N (me_sm (gh_pk a p) 0 (10 * n + 5 * me_ch (a.kd p) + 5))) (me_N (n + 1)) ∧ me_RC a μ' ∧ gh_FS a p μ' (fun x _ => x < 10 * n + 5 * me_ch (a.kd p) + 5) ∧ ∀ k', ¬ (k' = 33 ∨ k' = 34 ∨ k' = 35) → μ' k' = μ k' := by
  have hwh := hI.wh
  have hch := me_ch_lt (a.kd p)
  intro d
  induction d with
  | zero =>
    intro f k μ h1 h2 hC hF
    obtain ⟨f, rfl⟩ : ∃ g, f = g + 1 := ⟨f - 1, by omega⟩
    have ek : k = 5 := by omega
    subst ek
    refine ⟨μ, ?_, hC, hF, fun _ _ => rfl⟩
    show f_Audit_findPieces_b18 _ _ _ _ _ _ _ = _
    unfold f_Audit_findPieces_b18
    rw [if_pos (by rw [me_N_5, me_N_le (by omega) (by omega)]; omega), me_N_inc, me_lt_s]
  | succ d ih =>
    intro f k μ h1 h2 hC hF
    obtain ⟨f, rfl⟩ : ∃ g, f = g + 1 := ⟨f - 1, by omega⟩
    have ex : (10 * n + 5 * me_ch (a.kd p) + k) / 10 = n := by omega
    obtain ⟨μ1, g1, g2, g3, g4⟩ := y_fr26 hI (x := 10 * n + 5 * me_ch (a.kd p) + k) (k := k) hp (by omega) (by omega) (a.q (10 * n + 5 * me_ch (a.kd p) + k)) me_FU 0 0 μ _ (fun i e h => by rw [Nat.zero_add]; exact h) (Nat.zero_add _) (by have := me_ql a hI (10 * n + 5 * me_ch (a.kd p) + k); unfold me_FU; omega) hC hF (fun j' _ q => Nat.lt_irrefl _ q)
    rw [ex] at g1
    obtain ⟨μ', k1, k2, k3, k4⟩ := ih f (k + 1) μ1 (by omega) (by omega) g2 (fun x j i c hx h => g3 x j i c (by
      by_cases e : x = 10 * n + 5 * me_ch (a.kd p) + k
      · exact Or.inr ⟨e, Nat.zero_le _⟩
      · exact Or.inl (by have hx : x < 10 * n + 5 * me_ch (a.kd p) + (k + 1) := hx; omega)) h)
    refine ⟨μ', ?_, k2, k3, fun k' hk' => by rw [k4 k' hk', g4 k' hk']⟩
    have er : f_Audit_findInRow μ p (me_N n) (me_N k) = some (μ1, me_N (0 + gh_pk a p (10 * n + 5 * me_ch (a.kd p) + k))) := by
      unfold f_Audit_findInRow
      rw [me_gd_n (by omega) (by omega), y_chan hC, me_bd_s, me_N_5, me_N_mul, me_N_add, me_gd_n (by omega) (by omega), me_N_ix (by omega), me_N_ix (by omega), show 10 * n + (me_ch (a.kd p) * 5 + k) = 10 * n + 5 * me_ch (a.kd p) + k by omega]
      exact g1
    show f_Audit_findPieces_b18 _ _ _ _ _ _ _ = _
    unfold f_Audit_findPieces_b18
    rw [if_neg (by rw [me_N_5, me_N_le (by omega) (by omega)]; omega), er, me_b2_s, me_N_add, me_lt_s, me_N_inc, me_lt_s, Nat.zero_add]
    have es : me_sm (gh_pk a p) 0 (10 * n + 5 * me_ch (a.kd p) + (k + 1)) = me_sm (gh_pk a p) 0 (10 * n + 5 * me_ch (a.kd p) + k) + gh_pk a p (10 * n + 5 * me_ch (a.kd p) + k) := by
      rw [show 10 * n + 5 * me_ch (a.kd p) + (k + 1) = (10 * n + 5 * me_ch (a.kd p) + k) + 1 by omega, me_sm_app, Nat.zero_add]
      rfl
    rw [← es]
    exact k1
theorem y_fp4 {a : me_S} (hI : me_Iv a) {p : Nat} (hp : p < a.np) : ∀ (d f n : Nat) (μ : me_M), n + d = a.w * a.h → d < f → me_RC a μ → gh_FS a p μ (fun x _ => x < 10 * n) → ∃ μ', f_Audit_findPieces_h4 f μ p (me_N (me_sm (gh_pk a p) 0 (10 * n))) (me_N n) = some (μ', me_N (me_sm (gh_pk a p) 0 160)) ∧ me_RC a μ' ∧ gh_FS a p μ' (fun _ _ => True) ∧ ∀ k', ¬ (k' = 33 ∨ k' = 34 ∨ k' = 35) → μ' k' = μ k' := by
  have hwh := hI.wh
  have hch := me_ch_lt (a.kd p)
  -- rows that hold none of it
  have skip : ∀ (x d : Nat), (∀ y, x ≤ y → y < x + d → gh_pk a p y = 0) → me_sm (gh_pk a p) 0 (x + d) = me_sm (gh_pk a p) 0 x := fun x d h => by
    rw [me_sm_app, Nat.zero_add, me_sm_zero _ _ h, Nat.add_zero]
  have none : ∀ x j i c, ¬ (x / 10 < a.w * a.h ∧ x % 10 / 5 = me_ch (a.kd p)) → ¬ (a.q x)[j]? = some (p, i, c) := fun x j i c h q => by
    obtain ⟨b1, -, -, b4, -⟩ := hI.2.2.2.2.1.iel x _ (List.mem_of_getElem? q)
    exact h ⟨b1, b4.symm⟩
  intro d
  induction d with
  | zero =>
    intro f n μ h1 h2 hC hF
    obtain ⟨f, rfl⟩ : ∃ g, f = g + 1 := ⟨f - 1, by omega⟩
    refine ⟨μ, ?_, hC, fun x j i c _ h => ?_, fun _ _ => rfl⟩
    · show f_Audit_findPieces_b4 _ _ _ _ _ = _
      unfold f_Audit_findPieces_b4
      rw [hC.nn, if_pos (by rw [me_N_le (by omega) (by omega)]; omega), show 160 = 10 * n + (160 - 10 * n) by omega, skip (10 * n) (160 - 10 * n) (fun y y1 y2 => gh_pk_0 hI (fun q => by omega))]
    · by_cases e : x < 10 * n
      · exact hF x j i c e h
      · exact absurd h (none x j i c (fun q => by omega))
  | succ d ih =>
    intro f n μ h1 h2 hC hF
    obtain ⟨f, rfl⟩ : ∃ g, f = g + 1 := ⟨f - 1, by omega⟩
    obtain ⟨μ1, g1, g2, g3, g4⟩ := y_fp18 hI hp (show n < a.w * a.h by omega) (K4 := f_Audit_findPieces_h4 f) 5 me_FU 0 μ (by omega) (by unfold me_FU; omega) hC (fun x j i c hx h => by
      by_cases e : x < 10 * n
      · exact hF x j i c e h
      · exact absurd h (none x j i c (fun q => by have hx : x < 10 * n + 5 * me_ch (a.kd p) + 0 := hx; omega)))
    obtain ⟨μ', k1, k2, k3, k4⟩ := ih f (n + 1) μ1 (by omega) (by omega) g2 (fun x j i c hx h => by
      by_cases e : x < 10 * n + 5 * me_ch (a.kd p) + 5
      · exact g3 x j i c e h
      · exact absurd h (none x j i c (fun q => by have hx : x < 10 * (n + 1) := hx; omega)))
    refine ⟨μ', ?_, k2, k3, fun k' hk' => by rw [k4 k' hk', g4 k' hk']⟩
    show f_Audit_findPieces_b4 _ _ _ _ _ = _
    unfold f_Audit_findPieces_b4
    rw [hC.nn, if_neg (by rw [me_N_le (by omega) (by omega)]; omega)]
    have s1 : me_sm (gh_pk a p) 0 (10 * n + 5 * me_ch (a.kd p) + 0) = me_sm (gh_pk a p) 0 (10 * n) := skip (10 * n) (5 * me_ch (a.kd p)) (fun y y1 y2 => gh_pk_0 hI (fun q => by omega))
    have s2 : me_sm (gh_pk a p) 0 (10 * (n + 1)) = me_sm (gh_pk a p) 0 (10 * n + 5 * me_ch (a.kd p) + 5) := by
      rw [show 10 * (n + 1) = (10 * n + 5 * me_ch (a.kd p) + 5) + (5 - 5 * me_ch (a.kd p)) by omega]
      exact skip _ _ (fun y y1 y2 => gh_pk_0 hI (fun q => by omega))
    rw [s1] at g1
    rw [s2] at k1
    exact g1.trans k1
theorem gh_su_sm {F : Nat → Nat} : ∀ n, ((List.range n).map F).sum = me_sm F 0 n := by
  intro n
  induction n with
  | zero => rfl
  | succ n ih =>
    rw [List.range_succ, List.map_append, List.sum_append, ih, me_sm_app, Nat.zero_add]
    rfl
