/-! the reference finds no ring -/
theorem me_sm_one {f g : Nat → Nat} {r : Nat} (hx : ∀ x, ¬ x = r → f x = g x) : ∀ d i, i ≤ r → r < i + d → me_sm f i d + g r = me_sm g i d + f r := by
  intro d
  induction d with
  | zero => intro i h1 h2; omega
  | succ d ih =>
    intro i h1 h2
    show f i + me_sm f (i + 1) d + g r = g i + me_sm g (i + 1) d + f r
    by_cases e : r = i
    · rw [e, me_sm_cg (g := f) (g' := g) d (i + 1) (fun j a b => hx j (by omega))]
      omega
    · have := ih (i + 1) (by omega) (by omega)
      have := hx i (fun q => e q.symm)
      omega
theorem me_sm_zero {g : Nat → Nat} : ∀ (d i : Nat), (∀ j, i ≤ j → j < i + d → g j = 0) → me_sm g i d = 0 := by
  intro d
  induction d with
  | zero => intro i h; rfl
  | succ d ih =>
    intro i h
    show g i + me_sm g (i + 1) d = 0
    rw [h i (Nat.le_refl _) (by omega), ih (i + 1) (fun j a b => h j (by omega) (by omega))]
def gh_M95 (a : me_S) (ν : me_M) (L : Nat → Bool) : Prop := ∀ k, k < 4 * (a.w * a.h) → ν 95 0 k = me_bi (L k)
def gh_ct (a : me_S) (L : Nat → Bool) : Nat := me_sm (fun k => if L k = true then 1 else 0) 0 (4 * (a.w * a.h))
theorem gh_ct_le {a : me_S} (hI : me_Iv a) {L : Nat → Bool} : gh_ct a L ≤ 64 := by
  have hwh := hI.wh
  have : gh_ct a L ≤ 4 * (a.w * a.h) := me_sm_l1 (fun k => by split <;> omega) _ _
  omega
theorem me_RM.k95 {a : me_S} {ν : me_M} (hM : me_RM a ν) {j : Nat} {x : Int32} : me_RM a (me_up ν 95 0 j x) := hM.co_ (fun k hk => ⟨fun i j e => Or.inr (me_up_kn (by omega)), fun _ _ h95 => by
  funext i j
  exact me_up_kn h95⟩)
/-- the link k leads to one that is left -/
def gh_ll (a : me_S) (L : Nat → Bool) (k t : Nat) : Bool := L (4 * gh_bh a (k / 4) (k % 4) + t) && gh_lt a (k / 4) (k % 4) t
theorem m_hr104 {a : me_S} {ν : me_M} {L : Nat → Bool} (hM : me_RM a ν) (hI : me_Iv a) (h95 : gh_M95 a ν L) (hlk : ∀ k, k < 4 * (a.w * a.h) → L k = true → gh_lk a (k / 4) (k % 4) = true) {k : Nat} (hk : k < 4 * (a.w * a.h)) {K78 : me_M → Int32 → Int32 → Option (me_M × Int32)} {K87 : me_M → Int32 → Int32 → Int32 → Option (me_M × Int32)} {x y : Int32} (hL : L k = true) : ∀ (j f t : Nat) (s : Bool), t + j = 4 → j < f → f_M_hasRing_h104 K78 K87 f ν x y (me_N k) (me_bi s) (me_N t) = f_M_hasRing_b176 K78 K87 ν x y (me_N k) (me_bi (s || gh_ex (gh_ll a L k) t j)) := by
  have hwh := hI.wh
  have hn : k / 4 < a.w * a.h := by omega
  have hs : (me_nb a.w a.h (k / 4) (k % 4)).isSome = true := by
    have hl := hlk k hk hL
    unfold gh_lk at hl
    rw [Bool.and_eq_true] at hl
    exact hl.1
  obtain ⟨n', e⟩ := Option.isSome_iff_exists.mp hs
  have hn' := (me_Op_lt hI hn (show k % 4 < 4 by omega) e).1
  have eb : gh_bh a (k / 4) (k % 4) = n' := by unfold gh_bh; rw [e]; rfl
  have zk : ν 95 0 k = 1 := by rw [h95 k hk, hL]; rfl
  intro j
  induction j with
  | zero =>
    intro f t s h1 h2
    obtain ⟨f, rfl⟩ : ∃ g, f = g + 1 := ⟨f - 1, by omega⟩
    show f_M_hasRing_b104 _ _ _ _ _ _ _ _ _ = _
    unfold f_M_hasRing_b104
    rw [if_pos (by rw [me_N_4, me_N_le (by omega) (by omega)]; omega)]
    show _ = f_M_hasRing_b176 K78 K87 ν x y (me_N k) (me_bi (s || false))
    rw [Bool.or_false]
  | succ j ih =>
    intro f t s h1 h2
    obtain ⟨f, rfl⟩ : ∃ g, f = g + 1 := ⟨f - 1, by omega⟩
    have o1 : me_bi s ||| (1 : Int32) = me_bi (s || true) := me_bi_or (c := true)
    have o0 : me_bi s ||| (0 : Int32) = me_bi (s || false) := me_bi_or (c := false)
    have zt : ν 95 0 (4 * n' + t) = me_bi (L (4 * n' + t)) := h95 _ (by omega)
    show f_M_hasRing_b104 _ _ _ _ _ _ _ _ _ = f_M_hasRing_b176 K78 K87 ν x y (me_N k) (me_bi (s || ((L (4 * gh_bh a (k / 4) (k % 4) + t) && gh_lt a (k / 4) (k % 4) t) || gh_ex (gh_ll a L k) (t + 1) j)))
    unfold f_M_hasRing_b104 f_M_hasRing_b166
    rw [if_neg (by rw [me_N_4, me_N_le (by omega) (by omega)]; omega), me_gd_n (by omega) (by omega), me_N_ix (by omega), zk, if_neg (show ¬ (1 : Int32) = 0 by decide), me_N_4, me_N_div (by omega) (by omega) (by omega), me_N_rem (by omega) (by omega) (by omega), m_beside hM hI hn (by omega), e, me_bd_s, eb]
    show me_gd (me_inb (me_N 4 * me_N n' + me_N t) 64) (if ν 95 0 (me_ix (me_N 4 * me_N n' + me_N t)) = 0 then _ else _) = _
    rw [me_N_mul, me_N_add, me_gd_n (by omega) (by omega), me_N_ix (by omega), zt, m_lt hM hI hn (by omega) (by omega) hs, me_bd_s, o1, o0, me_N_inc, me_lt_s, me_lt_s, me_lt_s, me_lt_s]
    cases L (4 * n' + t) with
    | false =>
      rw [if_pos (show me_bi false = 0 from rfl), ih f (t + 1) _ (by omega) (by omega), Bool.false_and, Bool.false_or, Bool.or_false]
    | true =>
      rw [if_neg (show ¬ me_bi true = 0 by decide), Bool.true_and]
      cases gh_lt a (k / 4) (k % 4) t with
      | false => rw [if_pos (show me_bi false = 0 from rfl), ih f (t + 1) _ (by omega) (by omega), Bool.false_or, Bool.or_false]
      | true => rw [if_neg (show ¬ me_bi true = 0 by decide), ih f (t + 1) _ (by omega) (by omega), Bool.true_or, Bool.or_true, Bool.true_or]
theorem m_hr87 {a : me_S} (hI : me_Iv a) {r : Nat} {K78 : me_M → Int32 → Int32 → Option (me_M × Int32)} : ∀ (j f k : Nat) (L : Nat → Bool) (mv : Bool) (ν : me_M), k + j = 4 * (a.w * a.h) → j < f → me_RM a ν → gh_M95 a ν L → (∀ k, k < 4 * (a.w * a.h) → L k = true → gh_lk a (k / 4) (k % 4) = true) → (∀ m, m < 4 * (a.w * a.h) → r ≤ gh_R a m → L m = false) → (∀ m, m < k → r ≤ gh_R a m + 1 → L m = false) → ∃ ν' L' mv', f_M_hasRing_h87 K78 f ν (me_N (gh_ct a L)) (me_bi mv) (me_N k) = K78 ν' (me_N (gh_ct a L')) (me_bi mv') ∧ me_RM a ν' ∧ gh_M95 a ν' L' ∧ (∀ m, L' m = true → L m = true) ∧ (∀ m, m < 4 * (a.w * a.h) → r ≤ gh_R a m + 1 → L' m = false) ∧ (mv' = false → mv = false ∧ L' = L ∧ ∀ m, k ≤ m → m < 4 * (a.w * a.h) → L m = true → ∃ t, t < 4 ∧ gh_ll a L m t = true) ∧ ((∀ m, m < 4 * (a.w * a.h) → L m = false) → mv' = mv) ∧ ∀ k', ¬ k' = 95 → ν' k' = ν k' := by
  have hwh := hI.wh
  intro j
  induction j with
  | zero =>
    intro f k L mv ν h1 h2 hM h95 hlk hH hJ
    obtain ⟨f, rfl⟩ : ∃ g, f = g + 1 := ⟨f - 1, by omega⟩
    refine ⟨ν, L, mv, ?_, hM, h95, fun m h => h, fun m hm => hJ m (by omega), fun q => ⟨q, rfl, fun m a b => by omega⟩, fun _ => rfl, fun _ _ => rfl⟩
    show f_M_hasRing_b87 _ _ _ _ _ _ = _
    unfold f_M_hasRing_b87 f_M_nodes
    rw [hM.w, hM.h, me_N_mul, me_bd_s, me_N_4, me_N_mul, if_pos (by rw [me_N_le (by omega) (by omega)]; omega)]
  | succ j ih =>
    intro f k L mv ν h1 h2 hM h95 hlk hH hJ
    obtain ⟨f, rfl⟩ : ∃ g, f = g + 1 := ⟨f - 1, by omega⟩
    have hk : k < 4 * (a.w * a.h) := by omega
    have e87 : f_M_hasRing_h87 K78 (f + 1) ν (me_N (gh_ct a L)) (me_bi mv) (me_N k) = f_M_hasRing_h104 K78 (f_M_hasRing_h87 K78 f) me_FU ν (me_N (gh_ct a L)) (me_bi mv) (me_N k) 0 0 := by
      show f_M_hasRing_b87 _ _ _ _ _ _ = _
      unfold f_M_hasRing_b87 f_M_nodes
      rw [hM.w, hM.h, me_N_mul, me_bd_s, me_N_4, me_N_mul, if_neg (by rw [me_N_le (by omega) (by omega)]; omega)]
    -- the link stays as it is
    have stay : (L k = true → ∃ t, t < 4 ∧ gh_ll a L k t = true) → (r ≤ gh_R a k + 1 → L k = false) → f_M_hasRing_h87 K78 (f + 1) ν (me_N (gh_ct a L)) (me_bi mv) (me_N k) = f_M_hasRing_h87 K78 f ν (me_N (gh_ct a L)) (me_bi mv) (me_N (k + 1)) → ∃ ν' L' mv', f_M_hasRing_h87 K78 (f + 1) ν (me_N (gh_ct a L)) (me_bi mv) (me_N k) = K78 ν' (me_N (gh_ct a L')) (me_bi mv') ∧ me_RM a ν' ∧ gh_M95 a ν' L' ∧ (∀ m, L' m = true → L m = true) ∧ (∀ m, m < 4 * (a.w * a.h) → r ≤ gh_R a m + 1 → L' m = false) ∧ (mv' = false → mv = false ∧ L' = L ∧ ∀ m, k ≤ m → m < 4 * (a.w * a.h) → L m = true → ∃ t, t < 4 ∧ gh_ll a L m t = true) ∧ ((∀ m, m < 4 * (a.w * a.h) → L m = false) → mv' = mv) ∧ ∀ k', ¬ k' = 95 → ν' k' = ν k' := fun s1 s2 he => by
      obtain ⟨ν', L', mv', k1, k2, k3, k4, k5, k6, k7, k8⟩ := ih f (k + 1) L mv ν (by omega) (by omega) hM h95 hlk hH (fun m hm h => by
        by_cases e : m = k
        · rw [e] at h ⊢
          exact s2 h
        · exact hJ m (by omega) h)
      refine ⟨ν', L', mv', he.trans k1, k2, k3, k4, k5, fun q => ⟨(k6 q).1, (k6 q).2.1, fun m h3 h4 h5 => ?_⟩, k7, k8⟩
      by_cases e : m = k
      · rw [e] at h5 ⊢
        exact s1 h5
      · exact (k6 q).2.2 m (by omega) h4 h5
    cases hL : L k with
    | false =>
      refine stay (fun h => by rw [hL] at h; cases h) (fun _ => hL) ?_
      rw [e87]
      show f_M_hasRing_b104 K78 (f_M_hasRing_h87 K78 f) (f_M_hasRing_h104 K78 (f_M_hasRing_h87 K78 f) 999) ν (me_N (gh_ct a L)) (me_bi mv) (me_N k) 0 0 = _
      unfold f_M_hasRing_b104 f_M_hasRing_b176
      rw [if_neg (show ¬ (4 : Int32) ≤ 0 by decide), me_gd_n (by omega) (by omega), me_gd_n (by omega) (by omega), me_N_ix (by omega), h95 k hk, hL, if_pos (show me_bi false = 0 from rfl), if_pos (show me_bi false = 0 from rfl), me_N_inc, me_lt_s]
    | true =>
      have e104 := m_hr104 hM hI h95 hlk hk (K78 := K78) (K87 := f_M_hasRing_h87 K78 f) (x := me_N (gh_ct a L)) (y := me_bi mv) hL 4 me_FU 0 false (by omega) (by unfold me_FU; omega)
      rw [Bool.false_or] at e104
      have e104 : f_M_hasRing_h104 K78 (f_M_hasRing_h87 K78 f) me_FU ν (me_N (gh_ct a L)) (me_bi mv) (me_N k) 0 0 = f_M_hasRing_b176 K78 (f_M_hasRing_h87 K78 f) ν (me_N (gh_ct a L)) (me_bi mv) (me_N k) (me_bi (gh_ex (gh_ll a L k) 0 4)) := e104
      rw [e104] at e87
      unfold f_M_hasRing_b176 at e87
      rw [me_gd_n (by omega) (by omega), me_gd_n (by omega) (by omega), me_N_ix (by omega), h95 k hk, hL, if_neg (show ¬ me_bi true = 0 by decide), me_N_inc, me_lt_s, me_lt_s] at e87
      cases hex : gh_ex (gh_ll a L k) 0 4 with
      | true =>
        rw [hex, if_neg (show ¬ me_bi true = 0 by decide)] at e87
        obtain ⟨t, -, ht, hll⟩ := (gh_ex_iff _ _).mp hex
        refine stay (fun _ => ⟨t, by omega, hll⟩) (fun h => ?_) e87
        exfalso
        unfold gh_ll at hll
        rw [Bool.and_eq_true] at hll
        obtain ⟨u1, u2⟩ := gh_up hI (show k / 4 < a.w * a.h by omega) (show k % 4 < 4 by omega) (show t < 4 by omega) (hlk k hk hL) hll.2
        rw [show 4 * (k / 4) + k % 4 = k by omega] at u2
        have := hH (4 * gh_bh a (k / 4) (k % 4) + t) (by omega) (by omega)
        rw [hll.1] at this
        cases this
      | false =>
        rw [hex, if_pos (show me_bi false = 0 from rfl)] at e87
        have hct : gh_ct a L = gh_ct a (me_fu L k false) + 1 := by
          have := me_sm_one (f := fun m => if L m = true then 1 else 0) (g := fun m => if me_fu L k false m = true then 1 else 0) (r := k) (fun m hm => by rw [me_fu_ne hm]) (4 * (a.w * a.h)) 0 (Nat.zero_le _) (by omega)
          rw [me_fu_at, if_neg (by decide), if_pos hL] at this
          exact this
        have e87 : f_M_hasRing_h87 K78 (f + 1) ν (me_N (gh_ct a L)) (me_bi mv) (me_N k) = f_M_hasRing_h87 K78 f (me_up ν 95 0 k 0) (me_N (gh_ct a (me_fu L k false))) (me_bi true) (me_N (k + 1)) := by
          rw [e87, me_N_dec (by omega), show vp_nar .boolean 0 = (0 : Int32) from rfl, hct, Nat.add_sub_cancel]
          rfl
        have hsub : ∀ m, me_fu L k false m = true → L m = true ∧ ¬ m = k := fun m h => by
          rw [me_fu_ap] at h
          by_cases e : m = k
          · rw [if_pos e] at h
            cases h
          · rw [if_neg e] at h
            exact ⟨h, e⟩
        have hdn : ∀ m, L m = false → me_fu L k false m = false := fun m h => by
          rw [me_fu_ap]
          split
          · rfl
          · exact h
        obtain ⟨ν', L', mv', k1, k2, k3, k4, k5, k6, k7, k8⟩ := ih f (k + 1) (me_fu L k false) true (me_up ν 95 0 k 0) (by omega) (by omega) hM.k95 (fun m hm => by
          rw [me_up_ap, me_fu_ap]
          by_cases e : m = k
          · rw [if_pos ⟨rfl, rfl, e⟩, if_pos e]
            rfl
          · rw [if_neg (fun q => e q.2.2), if_neg e]
            exact h95 m hm) (fun m hm h => hlk m hm (hsub m h).1) (fun m hm h => hdn m (hH m hm h)) (fun m hm h => by
          by_cases e : m = k
          · rw [e, me_fu_at]
          · exact hdn m (hJ m (by omega) h))
        refine ⟨ν', L', mv', e87.trans k1, k2, k3, fun m h => (hsub m (k4 m h)).1, k5, fun q => ?_, fun q => ?_, fun k' hk' => ?_⟩
        · cases (k6 q).1
        · have := q k hk
          rw [hL] at this
          cases this
        · rw [k8 k' hk']
          funext x y
          rw [me_up_kn hk']
theorem m_fix {a : me_S} (hI : me_Iv a) {L : Nat → Bool} (hlk : ∀ k, k < 4 * (a.w * a.h) → L k = true → gh_lk a (k / 4) (k % 4) = true) (hf : ∀ m, m < 4 * (a.w * a.h) → L m = true → ∃ t, t < 4 ∧ gh_ll a L m t = true) : ∀ m, m < 4 * (a.w * a.h) → L m = false := by
  have key : ∀ (b m : Nat), gh_R a m + b = 64 → m < 4 * (a.w * a.h) → L m = false := by
    intro b
    induction b using Nat.strongRecOn with
    | ind b ih =>
      intro m hb hm
      cases hL : L m with
      | false => rfl
      | true =>
        exfalso
        obtain ⟨t, ht, hll⟩ := hf m hm hL
        unfold gh_ll at hll
        rw [Bool.and_eq_true] at hll
        obtain ⟨u1, u2⟩ := gh_up hI (show m / 4 < a.w * a.h by omega) (show m % 4 < 4 by omega) ht (hlk m hm hL) hll.2
        rw [show 4 * (m / 4) + m % 4 = m by omega] at u2
        have u3 := gh_R64 hI (l := 4 * gh_bh a (m / 4) (m % 4) + t) (by omega)
        have := ih (64 - gh_R a (4 * gh_bh a (m / 4) (m % 4) + t)) (by omega) (4 * gh_bh a (m / 4) (m % 4) + t) (by omega) (by omega)
        rw [hll.1] at this
        cases this
  intro m hm
  have := gh_R64 hI (l := m) (by omega)
  exact key (64 - gh_R a m) m (by omega) hm
theorem m_hr78 {a : me_S} (hI : me_Iv a) : ∀ (r f : Nat) (L : Nat → Bool) (ν : me_M), r + 2 ≤ f → me_RM a ν → gh_M95 a ν L → (∀ k, k < 4 * (a.w * a.h) → L k = true → gh_lk a (k / 4) (k % 4) = true) → (∀ m, m < 4 * (a.w * a.h) → r ≤ gh_R a m → L m = false) → ∃ ν', f_M_hasRing_h78 f ν (me_N (gh_ct a L)) (me_bi true) = some (ν', 0) ∧ me_RM a ν' ∧ ∀ k', ¬ k' = 95 → ν' k' = ν k' := by
  have hwh := hI.wh
  have e1 : ∀ (f : Nat) (L : Nat → Bool) (ν : me_M), f_M_hasRing_h78 (f + 1) ν (me_N (gh_ct a L)) (me_bi true) = f_M_hasRing_h87 (f_M_hasRing_h78 f) me_FU ν (me_N (gh_ct a L)) (me_bi false) (me_N 0) := fun f L ν => by
    show f_M_hasRing_b78 _ _ _ _ = _
    unfold f_M_hasRing_b78
    rw [if_neg (show ¬ me_bi true = 0 by decide)]
    rfl
  have e0 : ∀ (f : Nat) (L : Nat → Bool) (ν : me_M), (∀ m, m < 4 * (a.w * a.h) → L m = false) → f_M_hasRing_h78 (f + 1) ν (me_N (gh_ct a L)) (me_bi false) = some (ν, 0) := fun f L ν h => by
    have z : gh_ct a L = 0 := me_sm_zero _ _ (fun m _ hm => by rw [h m (by omega)]; rfl)
    show f_M_hasRing_b78 _ _ _ _ = _
    unfold f_M_hasRing_b78
    rw [if_pos (show me_bi false = 0 from rfl), z, if_pos (by decide)]
  intro r
  induction r with
  | zero =>
    intro f L ν h1 hM h95 hlk hH
    obtain ⟨f, rfl⟩ : ∃ g, f = g + 1 + 1 := ⟨f - 2, by omega⟩
    have hno : ∀ m, m < 4 * (a.w * a.h) → L m = false := fun m hm => hH m hm (Nat.zero_le _)
    obtain ⟨ν', L', mv', k1, k2, k3, k4, k5, k6, k7, k8⟩ := m_hr87 hI (r := 0) (K78 := f_M_hasRing_h78 (f + 1)) (4 * (a.w * a.h)) me_FU 0 L false ν (Nat.zero_add _) (by unfold me_FU; omega) hM h95 hlk hH (fun m hm => absurd hm (Nat.not_lt_zero m))
    have hmv := k7 hno
    rw [hmv] at k1 k6
    rw [(k6 rfl).2.1] at k1
    exact ⟨ν', by rw [e1, k1, e0 f L ν' hno], k2, k8⟩
  | succ r ih =>
    intro f L ν h1 hM h95 hlk hH
    obtain ⟨f, rfl⟩ : ∃ g, f = g + 1 + 1 := ⟨f - 2, by omega⟩
    obtain ⟨ν', L', mv', k1, k2, k3, k4, k5, k6, k7, k8⟩ := m_hr87 hI (r := r + 1) (K78 := f_M_hasRing_h78 (f + 1)) (4 * (a.w * a.h)) me_FU 0 L false ν (Nat.zero_add _) (by unfold me_FU; omega) hM h95 hlk hH (fun m hm => absurd hm (Nat.not_lt_zero m))
    cases hmv : mv' with
    | false =>
      obtain ⟨-, q2, q3⟩ := k6 hmv
      have hno := m_fix hI hlk (fun m hm h => q3 m (Nat.zero_le _) hm h)
      rw [hmv, q2] at k1
      exact ⟨ν', by rw [e1, k1, e0 f L ν' hno], k2, k8⟩
    | true =>
      rw [hmv] at k1
      obtain ⟨ν'', g1, g2, g3⟩ := ih (f + 1) L' ν' (by omega) k2 k3 (fun k hk h => hlk k hk (k4 k h)) (fun m hm h => k5 m hm (by omega))
      exact ⟨ν'', by rw [e1, k1, g1], g2, fun k' hk' => by rw [g3 k' hk', k8 k' hk']⟩
theorem m_hr25 {a : me_S} (hI : me_Iv a) {n : Nat} (hn : n < a.w * a.h) {K14 : me_M → Int32 → Int32 → Option (me_M × Int32)} : ∀ (j f d c : Nat) (ν : me_M), d + j = 4 → j < f → me_RM a ν → ∃ ν', f_M_hasRing_h25 K14 f ν (me_N c) (me_N n) (me_N d) = K14 ν' (me_N (c + me_sm (fun k => if gh_lk a (k / 4) (k % 4) = true then 1 else 0) (4 * n + d) j)) (me_N (n + 1)) ∧ me_RM a ν' ∧ (∀ k, ¬ (4 * n + d ≤ k ∧ k < 4 * n + 4) → ν' 95 0 k = ν 95 0 k) ∧ (∀ k, 4 * n + d ≤ k → k < 4 * n + 4 → ν' 95 0 k = me_bi (gh_lk a (k / 4) (k % 4))) ∧ ∀ k', ¬ k' = 95 → ν' k' = ν k' := by
  have hwh := hI.wh
  intro j
  induction j with
  | zero =>
    intro f d c ν h1 h2 hM
    obtain ⟨f, rfl⟩ : ∃ g, f = g + 1 := ⟨f - 1, by omega⟩
    refine ⟨ν, ?_, hM, fun _ _ => rfl, fun k a b => by omega, fun _ _ => rfl⟩
    show f_M_hasRing_b25 _ _ _ _ _ _ = _
    unfold f_M_hasRing_b25
    rw [if_pos (by rw [me_N_4, me_N_le (by omega) (by omega)]; omega), me_N_inc, me_lt_s]
    rfl
  | succ j ih =>
    intro f d c ν h1 h2 hM
    obtain ⟨f, rfl⟩ : ∃ g, f = g + 1 := ⟨f - 1, by omega⟩
    have hM5 : me_RM a (me_up ν 95 0 (4 * n + d) (me_bi (gh_lk a n d))) := hM.k95
    obtain ⟨ν', k1, k2, k3, k4, k5⟩ := ih f (d + 1) (c + if gh_lk a n d = true then 1 else 0) _ (by omega) (by omega) hM5
    refine ⟨ν', ?_, k2, fun k hk => ?_, fun k g1 g2 => ?_, fun k' hk' => ?_⟩
    · show f_M_hasRing_b25 _ _ _ _ _ _ = K14 ν' (me_N (c + ((if gh_lk a ((4 * n + d) / 4) ((4 * n + d) % 4) = true then 1 else 0) + me_sm (fun k => if gh_lk a (k / 4) (k % 4) = true then 1 else 0) (4 * n + d + 1) j))) (me_N (n + 1))
      unfold f_M_hasRing_b25
      rw [if_neg (by rw [me_N_4, me_N_le (by omega) (by omega)]; omega), m_lk hM hI hn (by omega), me_bd_s, me_N_4, me_N_mul, me_N_add, me_gd_n (by omega) (by omega), me_N_ix (by omega), show vp_nar .boolean (me_bi (gh_lk a n d)) = me_bi (gh_lk a n d) by cases gh_lk a n d <;> decide +kernel, me_lt_s, m_lk hM5 hI hn (by omega), me_bd_s, me_N_inc, me_lt_s, me_lt_s, me_lt_s, me_lt_s, show (4 * n + d) / 4 = n by omega, show (4 * n + d) % 4 = d by omega, ← Nat.add_assoc]
      cases hl : gh_lk a n d with
      | false =>
        rw [hl] at k1
        rw [if_pos (show me_bi false = 0 from rfl), show me_N c + (0 : Int32) = me_N c from Int32.add_zero _]
        exact k1
      | true =>
        rw [hl] at k1
        rw [if_neg (show ¬ me_bi true = 0 by decide), me_N_1, me_N_add]
        exact k1
    · rw [k3 k (by omega), me_up_jn (by omega)]
    · by_cases e : k = 4 * n + d
      · rw [e, k3 _ (by omega), me_up_at, show (4 * n + d) / 4 = n by omega, show (4 * n + d) % 4 = d by omega]
      · exact k4 k (by omega) g2
    · rw [k5 k' hk']
      funext x y
      rw [me_up_kn hk']
theorem me_sm_ap2 {F : Nat → Nat} (k m i : Nat) : me_sm F i (k + m) = me_sm F i k + me_sm F (i + k) m := me_sm_app k m i
theorem m_hr14 {a : me_S} (hI : me_Iv a) : ∀ (j f n : Nat) (ν : me_M), n + j = a.w * a.h → j < f → me_RM a ν → (∀ k, k < 4 * n → ν 95 0 k = me_bi (gh_lk a (k / 4) (k % 4))) → ∃ ν', f_M_hasRing_h14 f ν (me_N (me_sm (fun k => if gh_lk a (k / 4) (k % 4) = true then 1 else 0) 0 (4 * n))) (me_N n) = f_M_hasRing_h78 me_FU ν' (me_N (gh_ct a (fun k => gh_lk a (k / 4) (k % 4)))) 1 ∧ me_RM a ν' ∧ gh_M95 a ν' (fun k => gh_lk a (k / 4) (k % 4)) ∧ ∀ k', ¬ k' = 95 → ν' k' = ν k' := by
  have hwh := hI.wh
  intro j
  induction j with
  | zero =>
    intro f n ν h1 h2 hM hz
    obtain ⟨f, rfl⟩ : ∃ g, f = g + 1 := ⟨f - 1, by omega⟩
    have en : n = a.w * a.h := by omega
    refine ⟨ν, ?_, hM, fun k hk => hz k (by omega), fun _ _ => rfl⟩
    show f_M_hasRing_b14 _ _ _ _ = _
    unfold f_M_hasRing_b14 f_M_nodes
    rw [hM.w, hM.h, me_N_mul, me_bd_s, if_pos (by rw [me_N_le (by omega) (by omega)]; omega), en]
    rfl
  | succ j ih =>
    intro f n ν h1 h2 hM hz
    obtain ⟨f, rfl⟩ : ∃ g, f = g + 1 := ⟨f - 1, by omega⟩
    obtain ⟨ν1, g1, g2, g3, g4, g5⟩ := m_hr25 hI (show n < a.w * a.h by omega) (K14 := f_M_hasRing_h14 f) 4 me_FU 0 (me_sm (fun k => if gh_lk a (k / 4) (k % 4) = true then 1 else 0) 0 (4 * n)) ν (by omega) (by unfold me_FU; omega) hM
    obtain ⟨ν', k1, k2, k3, k4⟩ := ih f (n + 1) ν1 (by omega) (by omega) g2 (fun k hk => by
      by_cases e : k < 4 * n
      · rw [g3 k (by omega)]
        exact hz k e
      · exact g4 k (by omega) (by omega))
    refine ⟨ν', ?_, k2, k3, fun k' hk' => by rw [k4 k' hk', g5 k' hk']⟩
    show f_M_hasRing_b14 _ _ _ _ = _
    unfold f_M_hasRing_b14 f_M_nodes
    rw [hM.w, hM.h, me_N_mul, me_bd_s, if_neg (by rw [me_N_le (by omega) (by omega)]; omega)]
    refine g1.trans ?_
    rw [← k1, show 4 * (n + 1) = 4 * n + 4 by omega, me_sm_ap2, Nat.zero_add]
    rfl
theorem t_24 {T : Nat} {a : me_S} {μ : me_M} {o : Int64 × UInt64} {s1 s2 s3 s4 s5 : Int32} (hR : me_R T a μ) : ∃ μ' o' a', f_case_24 μ o s1 s2 s3 s4 s5 = some (μ', o') ∧ me_R T a' μ' := by
  obtain ⟨hC, hM, hI, hbt, hT, hwk⟩ := id hR
  have hwh := hI.wh
  obtain ⟨μ1, e1, c1, f1⟩ := y_ring hC hI
  have hM1 : me_RM a μ1 := hM.co_ (fun k hk => ⟨fun i j e => Or.inr (by rw [f1 k (by omega) (by omega)]), fun _ _ _ => f1 k (by omega) (by omega)⟩)
  have hM2 : me_RM a (me_zc (me_up μ1 36 0 42 0) 95 0) := (hM1.w_th 0).co_ (fun k hk => ⟨fun i j e => Or.inr (by unfold me_zc; rw [if_neg (fun q => by omega)]), fun _ _ h95 => by
    funext i j
    unfold me_zc
    rw [if_neg (fun q => h95 q.1)]⟩)
  obtain ⟨ν1, g1, g2, g3, g4⟩ := m_hr14 hI (a.w * a.h) me_FU 0 _ (Nat.zero_add _) (by unfold me_FU; omega) hM2 (fun k hk => by omega)
  obtain ⟨ν2, k1, k2, k3⟩ := m_hr78 hI 64 me_FU (fun k => gh_lk a (k / 4) (k % 4)) ν1 (by unfold me_FU; omega) g2 g3 (fun k _ h => h) (fun m hm h => by
    have := gh_R64 hI (l := m) (by omega)
    omega)
  have g1 : f_M_hasRing_h14 me_FU (me_zc (me_up μ1 36 0 42 0) 95 0) 0 0 = f_M_hasRing_h78 me_FU ν1 (me_N (gh_ct a (fun k => gh_lk a (k / 4) (k % 4)))) 1 := g1
  have k1 : f_M_hasRing_h78 me_FU ν1 (me_N (gh_ct a (fun k => gh_lk a (k / 4) (k % 4)))) 1 = some (ν2, 0) := k1
  have f2 : ∀ k, k < 36 → ν2 k = μ1 k := fun k hk => by
    rw [k3 k (by omega), g4 k (by omega)]
    funext i j
    unfold me_zc
    rw [if_neg (fun q => by omega), me_up_kn (by omega)]
  refine ⟨ν2, o, a, ?_, c1.co_ (fun k hk => f2 k hk), k2, hI, hbt, hT, fun n hn => by rw [f2 13 (by decide), f1 13 (by decide) (by decide)]; exact hwk n hn⟩
  unfold f_case_24 f_M_hasRing
  rw [e1, me_b2_s, me_lt_s, me_lt_s, g1, k1, me_b2_s, if_pos (by rfl)]
