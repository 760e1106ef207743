/-! no ring: each link leads to higher ones -/
def gh_mp (k w n g d : Nat) : Bool := if k = 2 then (if gh_ax w n g = some 1 then decide (d = 1) else (decide (gh_ax w n g = some d) || decide (gh_ay w n g = some d))) else if k = 0 then (match gh_ax w n g with
  | some x => decide (x = d)
  | none => decide (gh_ay w n g = some d)) else (match gh_ay w n g with
  | some y => decide (y = d)
  | none => decide (gh_ax w n g = some d))
def gh_rk (k w n d : Nat) : Nat := if k = 0 then (if d = 0 then n % w else if d = 1 then 3 - n % w else if d = 2 then 10 + n / w else 10 + (3 - n / w)) else if k = 1 then (if d = 2 then n / w else if d = 3 then 3 - n / w else if d = 0 then 10 + n % w else 10 + (3 - n % w)) else (if d = 1 then 3 - n % w else if d = 0 then 15 + 10 * (n % w) else if d = 2 then 10 + 10 * (n % w) + n / w else 10 + 10 * (n % w) + (3 - n / w))
theorem gh_rk0 : ∀ w, w < 5 → ∀ h, h < 5 → ∀ n, n < w * h → ∀ g, g < w * h → ∀ d, d < 4 → ∀ t, t < 4 → gh_oq (me_nb w h n d) (fun n' => !(gh_mp 0 w n g d && gh_mp 0 w n' g t) || decide (gh_rk 0 w n d < gh_rk 0 w n' t)) = true := by decide +kernel
theorem gh_rk1 : ∀ w, w < 5 → ∀ h, h < 5 → ∀ n, n < w * h → ∀ g, g < w * h → ∀ d, d < 4 → ∀ t, t < 4 → gh_oq (me_nb w h n d) (fun n' => !(gh_mp 1 w n g d && gh_mp 1 w n' g t) || decide (gh_rk 1 w n d < gh_rk 1 w n' t)) = true := by decide +kernel
theorem gh_rk2 : ∀ w, w < 5 → ∀ h, h < 5 → ∀ n, n < w * h → ∀ g, g < w * h → ∀ d, d < 4 → ∀ t, t < 4 → gh_oq (me_nb w h n d) (fun n' => !(gh_mp 2 w n g d && gh_mp 2 w n' g t) || decide (gh_rk 2 w n d < gh_rk 2 w n' t)) = true := by decide +kernel
theorem gh_rk64 : ∀ k, k < 3 → ∀ w, w < 5 → ∀ h, h < 5 → ∀ n, n < w * h → ∀ d, d < 4 → gh_rk k w n d < 64 := by decide +kernel
def gh_wk (a : me_S) : Nat := if a.wy = 120 then 0 else if a.wy = 121 then 1 else 2
theorem gh_wk3 (a : me_S) : gh_wk a < 3 := by
  unfold gh_wk
  repeat' split
  all_goals decide
theorem gh_mg_mp {a : me_S} (hI : me_Iv a) {n g d : Nat} (hd : d < 4) : gh_mg a n g d = gh_mp (gh_wk a) a.w n g d := by
  have hw := hI.1.iwy
  rcases hw with h | h | h
  · have ek : gh_wk a = 0 := by unfold gh_wk; rw [h]; rfl
    unfold gh_mg gh_mp gh_side
    rw [ek, h, if_neg (show ¬ (120 : Int32) = 116 by decide), if_neg (show ¬ 0 = 2 by decide), if_pos (Eq.refl 0)]
    cases gh_ax a.w n g with
    | none =>
      cases gh_ay a.w n g with
      | none => exact (decide_eq_false (show ¬ 4 = d by omega)).trans (decide_eq_false (fun q => by cases q)).symm
      | some y => exact decide_eq_decide.mpr ⟨fun q => congrArg some q, fun q => Option.some.inj q⟩
    | some x =>
      cases gh_ay a.w n g with
      | none => rfl
      | some y => rfl
  · have ek : gh_wk a = 1 := by unfold gh_wk; rw [h]; rfl
    unfold gh_mg gh_mp gh_side
    rw [ek, h, if_neg (show ¬ (121 : Int32) = 116 by decide), if_neg (show ¬ 1 = 2 by decide), if_neg (show ¬ 1 = 0 by decide)]
    cases gh_ay a.w n g with
    | none =>
      cases gh_ax a.w n g with
      | none => exact (decide_eq_false (show ¬ 4 = d by omega)).trans (decide_eq_false (fun q => by cases q)).symm
      | some y => exact decide_eq_decide.mpr ⟨fun q => congrArg some q, fun q => Option.some.inj q⟩
    | some x =>
      cases gh_ax a.w n g with
      | none => rfl
      | some y => rfl
  · have ek : gh_wk a = 2 := by unfold gh_wk; rw [h]; rfl
    unfold gh_mg gh_mp
    rw [ek, h, if_pos (Eq.refl (116 : Int32)), if_pos (Eq.refl 2)]
/-- the height of a link -/
def gh_R (a : me_S) (l : Nat) : Nat := gh_rk (gh_wk a) a.w (l / 4) (l % 4)
theorem gh_R64 {a : me_S} (hI : me_Iv a) {l : Nat} (hl : l / 4 < a.w * a.h) : gh_R a l < 64 := by
  have hw := hI.1.iw
  have hh := hI.1.ih
  exact gh_rk64 _ (gh_wk3 a) a.w (by omega) a.h (by omega) _ hl _ (by omega)
theorem gh_up {a : me_S} (hI : me_Iv a) {n d t : Nat} (hn : n < a.w * a.h) (hd : d < 4) (ht : t < 4) (hl : gh_lk a n d = true) (h : gh_lt a n d t = true) : gh_bh a n d < a.w * a.h ∧ gh_R a (4 * n + d) < gh_R a (4 * gh_bh a n d + t) := by
  have hw := hI.1.iw
  have hh := hI.1.ih
  have hs : (me_nb a.w a.h n d).isSome = true := by
    unfold gh_lk at hl
    rw [Bool.and_eq_true] at hl
    exact hl.1
  obtain ⟨n', e⟩ := Option.isSome_iff_exists.mp hs
  have hn' := (me_Op_lt hI hn hd e).1
  have eb : gh_bh a n d = n' := by unfold gh_bh; rw [e]; rfl
  unfold gh_lt at h
  obtain ⟨g, -, hg, hm⟩ := (gh_ex_iff _ _).mp h
  rw [eb, gh_mg_mp hI hd, gh_mg_mp hI ht] at hm
  rw [eb]
  refine ⟨hn', ?_⟩
  unfold gh_R
  rw [show (4 * n + d) / 4 = n by omega, show (4 * n + d) % 4 = d by omega, show (4 * n' + t) / 4 = n' by omega, show (4 * n' + t) % 4 = t by omega]
  have key : ∀ k, gh_wk a = k → gh_oq (me_nb a.w a.h n d) (fun n' => !(gh_mp k a.w n g d && gh_mp k a.w n' g t) || decide (gh_rk k a.w n d < gh_rk k a.w n' t)) = true → gh_rk (gh_wk a) a.w n d < gh_rk (gh_wk a) a.w n' t := fun k ek hq => by
    rw [e] at hq
    have hq : (!(gh_mp k a.w n g d && gh_mp k a.w n' g t) || decide (gh_rk k a.w n d < gh_rk k a.w n' t)) = true := hq
    rw [ek] at hm ⊢
    rw [hm, Bool.not_true, Bool.false_or, decide_eq_true_eq] at hq
    exact hq
  have h3 := gh_wk3 a
  rcases (show gh_wk a = 0 ∨ gh_wk a = 1 ∨ gh_wk a = 2 by omega) with q | q | q
  · exact key 0 q (gh_rk0 a.w (by omega) a.h (by omega) n hn g (by omega) d hd t ht)
  · exact key 1 q (gh_rk1 a.w (by omega) a.h (by omega) n hn g (by omega) d hd t ht)
  · exact key 2 q (gh_rk2 a.w (by omega) a.h (by omega) n hn g (by omega) d hd t ht)
theorem gh_B_bit {s : Nat → Bool} {t : Nat} (ht : t < 4) : ((me_N (gh_B s) >>> (me_N t &&& 31)) &&& (1 : Int32)) = me_bi (s t) := by
  unfold gh_B
  match t, ht with
  | 0, _ => cases s 0 <;> cases s 1 <;> cases s 2 <;> cases s 3 <;> decide
  | 1, _ => cases s 0 <;> cases s 1 <;> cases s 2 <;> cases s 3 <;> decide
  | 2, _ => cases s 0 <;> cases s 1 <;> cases s 2 <;> cases s 3 <;> decide
  | 3, _ => cases s 0 <;> cases s 1 <;> cases s 2 <;> cases s 3 <;> decide
theorem gh_B_0 {s : Nat → Bool} (h : ¬ gh_B s = 0) : ∃ t, t < 4 ∧ s t = true := by
  by_cases h0 : s 0 = true
  · exact ⟨0, by decide, h0⟩
  · by_cases h1 : s 1 = true
    · exact ⟨1, by decide, h1⟩
    · by_cases h2 : s 2 = true
      · exact ⟨2, by decide, h2⟩
      · by_cases h3 : s 3 = true
        · exact ⟨3, by decide, h3⟩
        · exfalso
          apply h
          unfold gh_B
          rw [if_neg h0, if_neg h1, if_neg h2, if_neg h3]
/-- the class's cells of ended links -/
def gh_E (a : me_S) (μ : me_M) : Prop := (∀ l, l < 64 → μ 28 0 l = me_N (gh_B (gh_cl a l))) ∧ ∀ l, l < 64 → (μ 29 0 l = 0 ∧ ¬ gh_B (gh_cl a l) = 0) ∨ μ 29 0 l = 1
theorem gh_E.up {a : me_S} {μ : me_M} (h : gh_E a μ) {l : Nat} {x : Int32} (hx : (x = 0 ∧ ¬ gh_B (gh_cl a l) = 0) ∨ x = 1) : gh_E a (me_up μ 29 0 l x) := by
  refine ⟨fun m hm => by rw [me_up_kn (by decide)]; exact h.1 m hm, fun m hm => ?_⟩
  rw [me_up_ap]
  by_cases e : m = l
  · rw [if_pos ⟨rfl, rfl, e⟩, e]
    exact hx
  · rw [if_neg (fun q => e q.2.2)]
    exact h.2 m hm
theorem y_ends {a : me_S} {μ : me_M} (hC : me_RC a μ) (hI : me_Iv a) (hE : gh_E a μ) {l : Nat} (hl : l < 64) (hb : ¬ gh_B (gh_cl a l) = 0) : l / 4 < a.w * a.h ∧ ∃ b : Bool, f_Ways_endsOnward μ (me_N l) = some (me_bi b) ∧ ((∀ t, t < 4 → gh_cl a l t = true → μ 29 0 (4 * gh_bh a (l / 4) (l % 4) + t) = 1) → b = true) := by
  have hwh := hI.wh
  obtain ⟨t0, ht0, hc⟩ := gh_B_0 hb
  unfold gh_cl gh_on at hc
  rw [Bool.and_eq_true, Bool.and_eq_true, decide_eq_true_eq] at hc
  obtain ⟨hn, hlk, -⟩ := hc
  have hs : (me_nb a.w a.h (l / 4) (l % 4)).isSome = true := by
    unfold gh_lk at hlk
    rw [Bool.and_eq_true] at hlk
    exact hlk.1
  obtain ⟨n', e⟩ := Option.isSome_iff_exists.mp hs
  have hn' := (me_Op_lt hI hn (show l % 4 < 4 by omega) e).1
  have eb : gh_bh a (l / 4) (l % 4) = n' := by unfold gh_bh; rw [e]; rfl
  have zah : μ 2 0 l = me_N n' := by
    have := hC.ah (l / 4) (l % 4) hn (by omega)
    rw [show l / 4 * 4 + l % 4 = l by omega, e] at this
    exact this
  have loop : ∀ (k f t : Nat), t + k = 4 → k < f → ∃ b : Bool, f_Ways_endsOnward_h25 μ f (me_N l) (me_N n') (me_N t) = some (me_bi b) ∧ ((∀ u, t ≤ u → u < 4 → gh_cl a l u = true → μ 29 0 (4 * n' + u) = 1) → b = true) := by
    intro k
    induction k with
    | zero =>
      intro f t h1 h2
      obtain ⟨f, rfl⟩ : ∃ g, f = g + 1 := ⟨f - 1, by omega⟩
      refine ⟨true, ?_, fun _ => rfl⟩
      show f_Ways_endsOnward_b25 _ _ _ _ _ = _
      unfold f_Ways_endsOnward_b25
      rw [if_pos (by rw [me_N_4, me_N_le (by omega) (by omega)]; omega)]
      rfl
    | succ k ih =>
      intro f t h1 h2
      obtain ⟨f, rfl⟩ : ∃ g, f = g + 1 := ⟨f - 1, by omega⟩
      obtain ⟨b, k1, k2⟩ := ih f (t + 1) (by omega) (by omega)
      have eqn : f_Ways_endsOnward_h25 μ (f + 1) (me_N l) (me_N n') (me_N t) = if me_bi (gh_cl a l t) = 0 then f_Ways_endsOnward_h25 μ f (me_N l) (me_N n') (me_N (t + 1)) else if μ 29 0 (4 * n' + t) = 0 then some 0 else f_Ways_endsOnward_h25 μ f (me_N l) (me_N n') (me_N (t + 1)) := by
        show f_Ways_endsOnward_b25 _ _ _ _ _ = _
        unfold f_Ways_endsOnward_b25
        rw [if_neg (by rw [me_N_4, me_N_le (by omega) (by omega)]; omega), me_gd_n (by omega) (by omega), me_N_ix (by omega), hE.1 l hl, gh_B_bit (by omega), me_N_inc, me_lt_s, me_N_4, me_N_mul, me_N_add, me_gd_n (by omega) (by omega), me_N_ix (by omega), show n' * 4 + t = 4 * n' + t by omega]
      rw [eqn]
      cases hc : gh_cl a l t with
      | false =>
        rw [if_pos (show me_bi false = 0 from rfl)]
        exact ⟨b, k1, fun q => k2 (fun u a b c => q u (by omega) b c)⟩
      | true =>
        rw [if_neg (show ¬ me_bi true = 0 by decide)]
        rcases hE.2 (4 * n' + t) (by omega) with ⟨q, -⟩ | q
        · rw [if_pos q]
          refine ⟨false, rfl, fun g => ?_⟩
          have := g t (Nat.le_refl _) (by omega) hc
          rw [q] at this
          exact absurd this (by decide)
        · rw [if_neg (by rw [q]; decide)]
          exact ⟨b, k1, fun q => k2 (fun u a b c => q u (by omega) b c)⟩
  refine ⟨hn, ?_⟩
  obtain ⟨b, k1, k2⟩ := loop 4 me_FU 0 (by omega) (by unfold me_FU; omega)
  refine ⟨b, ?_, fun q => k2 (fun u _ hu hc => by rw [← eb]; exact q u hu hc)⟩
  unfold f_Ways_endsOnward
  rw [me_gd_n (by omega) hl, me_N_ix (by omega), zah, me_lt_s, y_hasNode_o hC hI hn', me_bd_s, if_neg (by decide)]
  exact k1
theorem y_ring53 {a : me_S} (hI : me_Iv a) {r : Nat} {i : Nat} {K39 : me_M → Int32 → Int32 → Option (me_M × Int32)} : ∀ (k f l c : Nat) (μ : me_M), l + k = 64 → k < f → me_RC a μ → gh_E a μ → (∀ m, m < 64 → m / 4 < a.w * a.h → r ≤ gh_R a m → μ 29 0 m = 1) → (∀ m, m < l → m / 4 < a.w * a.h → r ≤ gh_R a m + 1 → μ 29 0 m = 1) → c ≤ l → (r ≤ 1 → c = 0) → ∃ μ' c', f_Ways_findsRing_h53 K39 f μ (me_N c) (me_N i) (me_N l) = K39 μ' (me_N c') (me_N (i + 1)) ∧ me_RC a μ' ∧ gh_E a μ' ∧ (∀ m, m < 64 → m / 4 < a.w * a.h → r ≤ gh_R a m + 1 → μ' 29 0 m = 1) ∧ c' ≤ 64 ∧ (r ≤ 1 → c' = 0) ∧ ∀ k', ¬ k' = 29 → μ' k' = μ k' := by
  intro k
  induction k with
  | zero =>
    intro f l c μ h1 h2 hC hE hH hJ hc hr
    obtain ⟨f, rfl⟩ : ∃ g, f = g + 1 := ⟨f - 1, by omega⟩
    refine ⟨μ, c, ?_, hC, hE, fun m hm => hJ m (by omega), by omega, hr, fun _ _ => rfl⟩
    show f_Ways_findsRing_b53 _ _ _ _ _ _ = _
    unfold f_Ways_findsRing_b53
    rw [if_pos (by rw [me_N_64, me_N_le (by omega) (by omega)]; omega), me_N_inc, me_lt_s]
  | succ k ih =>
    intro f l c μ h1 h2 hC hE hH hJ hc hr
    obtain ⟨f, rfl⟩ : ∃ g, f = g + 1 := ⟨f - 1, by omega⟩
    -- one link is written: x
    have stp : ∀ b : Bool, f_Ways_findsRing_b86 K39 (f_Ways_findsRing_h53 K39 f) μ (me_N c) (me_N i) (me_N l) (me_bi b) (me_N l) = f_Ways_findsRing_h53 K39 f (me_up μ 29 0 l (me_bi b)) (me_N (if b = true then c else c + 1)) (me_N i) (me_N (l + 1)) := fun b => by
      unfold f_Ways_findsRing_b86
      rw [me_gd_n (by omega) (by omega), me_N_ix (by omega), show vp_nar .boolean (me_bi b) = me_bi b by cases b <;> decide +kernel, me_lt_s, me_gd_n (by omega) (by omega), me_up_at, me_N_inc, me_lt_s, me_lt_s, me_lt_s, me_lt_s]
      cases b with
      | false => rw [if_pos (show me_bi false = 0 from rfl), if_neg (by decide), me_N_1, me_N_add]
      | true =>
        rw [if_neg (show ¬ me_bi true = 0 by decide), if_pos rfl, show me_N c + (0 : Int32) = me_N c from Int32.add_zero _]
    have fin : ∀ b : Bool, (b = true ∨ (¬ gh_B (gh_cl a l) = 0 ∧ ¬ (l / 4 < a.w * a.h ∧ r ≤ gh_R a l + 1))) → f_Ways_findsRing_h53 K39 (f + 1) μ (me_N c) (me_N i) (me_N l) = f_Ways_findsRing_h53 K39 f (me_up μ 29 0 l (me_bi b)) (me_N (if b = true then c else c + 1)) (me_N i) (me_N (l + 1)) → (b = false → l / 4 < a.w * a.h) → ∃ μ' c', f_Ways_findsRing_h53 K39 (f + 1) μ (me_N c) (me_N i) (me_N l) = K39 μ' (me_N c') (me_N (i + 1)) ∧ me_RC a μ' ∧ gh_E a μ' ∧ (∀ m, m < 64 → m / 4 < a.w * a.h → r ≤ gh_R a m + 1 → μ' 29 0 m = 1) ∧ c' ≤ 64 ∧ (r ≤ 1 → c' = 0) ∧ ∀ k', ¬ k' = 29 → μ' k' = μ k' := fun b hb he hw => by
      have hv : ∀ m, me_up μ 29 0 l (me_bi b) 29 0 m = if m = l then me_bi b else μ 29 0 m := fun m => by
        rw [me_up_ap]
        by_cases e : m = l
        · rw [if_pos ⟨rfl, rfl, e⟩, if_pos e]
        · rw [if_neg (fun q => e q.2.2), if_neg e]
      have hok : ∀ m, m = l → m / 4 < a.w * a.h → r ≤ gh_R a m + 1 → me_bi b = 1 := fun m e h1 h2 => by
        rw [e] at h1 h2
        rcases hb with q | ⟨-, q⟩
        · rw [q]; rfl
        · exact absurd ⟨h1, h2⟩ q
      obtain ⟨μ', c', k1, k2, k3, k4, k5, k6, k7⟩ := ih f (l + 1) (if b = true then c else c + 1) (me_up μ 29 0 l (me_bi b)) (by omega) (by omega) (hC.w_k29 0 l (me_bi b)) (hE.up (by
        cases b with
        | true => exact Or.inr rfl
        | false =>
          rcases hb with q | ⟨q, -⟩
          · cases q
          · exact Or.inl ⟨rfl, q⟩)) (fun m hm h1 h2 => by
        rw [hv]
        by_cases e : m = l
        · rw [if_pos e]
          exact hok m e h1 (by omega)
        · rw [if_neg e]
          exact hH m hm h1 h2) (fun m hm h1 h2 => by
        rw [hv]
        by_cases e : m = l
        · rw [if_pos e]
          exact hok m e h1 h2
        · rw [if_neg e]
          exact hJ m (by omega) h1 h2) (by split <;> omega) (fun h => by
        cases b with
        | true => rw [if_pos rfl]; exact hr h
        | false =>
          rcases hb with q | ⟨-, q⟩
          · cases q
          · exact absurd ⟨hw rfl, by omega⟩ q)
      exact ⟨μ', c', he.trans k1, k2, k3, k4, k5, k6, fun k' hk' => by
        rw [k7 k' hk']
        funext x y
        rw [me_up_kn hk']⟩
    have e53 : f_Ways_findsRing_h53 K39 (f + 1) μ (me_N c) (me_N i) (me_N l) = if μ 29 0 l = 0 then me_bd (f_Ways_endsOnward μ (me_N l)) (fun r5 => if r5 = 0 then f_Ways_findsRing_b86 K39 (f_Ways_findsRing_h53 K39 f) μ (me_N c) (me_N i) (me_N l) 0 (me_N l) else f_Ways_findsRing_b81 K39 (f_Ways_findsRing_h53 K39 f) μ (me_N c) (me_N i) (me_N l) (me_N l)) else f_Ways_findsRing_b81 K39 (f_Ways_findsRing_h53 K39 f) μ (me_N c) (me_N i) (me_N l) (me_N l) := by
      show f_Ways_findsRing_b53 _ _ _ _ _ _ = _
      unfold f_Ways_findsRing_b53
      rw [if_neg (by rw [me_N_64, me_N_le (by omega) (by omega)]; omega), me_gd_n (by omega) (by omega), me_N_ix (by omega)]
    rcases hE.2 l (by omega) with ⟨q, q0⟩ | q
    · obtain ⟨hn, b, g1, g2⟩ := y_ends hC hI hE (show l < 64 by omega) q0
      rw [if_pos q, g1, me_bd_s] at e53
      refine fin b ?_ ?_ (fun _ => hn)
      · by_cases e : r ≤ gh_R a l + 1
        · left
          apply g2
          intro t ht hc
          have hc' := hc
          unfold gh_cl gh_on at hc'
          rw [Bool.and_eq_true, Bool.and_eq_true, Bool.and_eq_true] at hc'
          obtain ⟨u1, u2⟩ := gh_up hI hn (show l % 4 < 4 by omega) ht hc'.2.1 hc'.2.2.2
          rw [show 4 * (l / 4) + l % 4 = l by omega] at u2
          exact hH _ (by have := hI.wh; omega) (by rw [show (4 * gh_bh a (l / 4) (l % 4) + t) / 4 = gh_bh a (l / 4) (l % 4) by omega]; exact u1) (by omega)
        · exact Or.inr ⟨q0, fun h => e h.2⟩
      · rw [e53]
        cases b with
        | false =>
          rw [if_pos (show me_bi false = 0 from rfl)]
          exact stp false
        | true =>
          rw [if_neg (show ¬ me_bi true = 0 by decide)]
          exact stp true
    · rw [if_neg (by rw [q]; decide)] at e53
      exact fin true (Or.inl rfl) (e53.trans (stp true)) (fun h => by cases h)
theorem y_ring39 {a : me_S} (hI : me_Iv a) : ∀ (k f i c : Nat) (μ : me_M), i + k = 64 → k < f → me_RC a μ → gh_E a μ → (∀ m, m < 64 → m / 4 < a.w * a.h → 64 - i ≤ gh_R a m → μ 29 0 m = 1) → c ≤ 64 → (k = 0 → c = 0) → ∃ μ', f_Ways_findsRing_h39 f μ (me_N c) (me_N i) = some (μ', 0) ∧ me_RC a μ' ∧ ∀ k', ¬ k' = 29 → μ' k' = μ k' := by
  intro k
  induction k with
  | zero =>
    intro f i c μ h1 h2 hC hE hH hc h0
    obtain ⟨f, rfl⟩ : ∃ g, f = g + 1 := ⟨f - 1, by omega⟩
    refine ⟨μ, ?_, hC, fun _ _ => rfl⟩
    show f_Ways_findsRing_b39 _ _ _ _ = _
    unfold f_Ways_findsRing_b39 f_Ways_findsRing_b116
    rw [if_pos (by rw [me_N_64, me_N_le (by omega) (by omega)]; omega), h0 rfl, if_pos (by decide)]
  | succ k ih =>
    intro f i c μ h1 h2 hC hE hH hc h0
    obtain ⟨f, rfl⟩ : ∃ g, f = g + 1 := ⟨f - 1, by omega⟩
    by_cases e : c = 0
    · refine ⟨μ, ?_, hC, fun _ _ => rfl⟩
      show f_Ways_findsRing_b39 _ _ _ _ = _
      unfold f_Ways_findsRing_b39 f_Ways_findsRing_b116
      rw [if_neg (by rw [me_N_64, me_N_le (by omega) (by omega)]; omega), e, if_pos (by decide), if_pos (by decide)]
    · obtain ⟨μ1, c1, g1, g2, g3, g4, g5, g6, g7⟩ := y_ring53 hI (r := 64 - i) (i := i) (K39 := f_Ways_findsRing_h39 f) 64 me_FU 0 0 μ (by omega) (by unfold me_FU; omega) hC hE hH (fun m hm => absurd hm (Nat.not_lt_zero m)) (Nat.le_refl _) (fun _ => rfl)
      obtain ⟨μ', k1, k2, k3⟩ := ih f (i + 1) c1 μ1 (by omega) (by omega) g2 g3 (fun m hm h3 h4 => g4 m hm h3 (by omega)) g5 (fun h => g6 (by omega))
      refine ⟨μ', ?_, k2, fun k' hk' => by rw [k3 k' hk', g7 k' hk']⟩
      show f_Ways_findsRing_b39 _ _ _ _ = _
      unfold f_Ways_findsRing_b39
      rw [if_neg (by rw [me_N_64, me_N_le (by omega) (by omega)]; omega), if_neg (by rw [me_N_0, me_N_le (by omega) (by omega)]; omega)]
      exact g1.trans k1
theorem y_ring2 {a : me_S} : ∀ (k f l : Nat) (μ : me_M), l + k = 64 → k < f → me_RC a μ → (∀ m, m < 64 → μ 28 0 m = me_N (gh_B (gh_cl a m))) → (∀ m, m < l → (μ 29 0 m = 0 ∧ ¬ gh_B (gh_cl a m) = 0) ∨ μ 29 0 m = 1) → ∃ μ', f_Ways_findsRing_h2 f μ (me_N l) = f_Ways_findsRing_h39 me_FU μ' 64 0 ∧ me_RC a μ' ∧ gh_E a μ' ∧ ∀ k', ¬ k' = 29 → μ' k' = μ k' := by
  intro k
  induction k with
  | zero =>
    intro f l μ h1 h2 hC h28 h29
    obtain ⟨f, rfl⟩ : ∃ g, f = g + 1 := ⟨f - 1, by omega⟩
    refine ⟨μ, ?_, hC, ⟨h28, fun m hm => h29 m (by omega)⟩, fun _ _ => rfl⟩
    show f_Ways_findsRing_b2 _ _ _ = _
    unfold f_Ways_findsRing_b2
    rw [if_pos (by rw [me_N_64, me_N_le (by omega) (by omega)]; omega)]
  | succ k ih =>
    intro f l μ h1 h2 hC h28 h29
    obtain ⟨f, rfl⟩ : ∃ g, f = g + 1 := ⟨f - 1, by omega⟩
    have hB := gh_B_lt (s := gh_cl a l)
    have go : ∀ b : Bool, (b = false → ¬ gh_B (gh_cl a l) = 0) → f_Ways_findsRing_h2 (f + 1) μ (me_N l) = f_Ways_findsRing_h2 f (me_up μ 29 0 l (me_bi b)) (me_N (l + 1)) → ∃ μ', f_Ways_findsRing_h2 (f + 1) μ (me_N l) = f_Ways_findsRing_h39 me_FU μ' 64 0 ∧ me_RC a μ' ∧ gh_E a μ' ∧ ∀ k', ¬ k' = 29 → μ' k' = μ k' := fun b hb he => by
      obtain ⟨μ', k1, k2, k3, k4⟩ := ih f (l + 1) _ (by omega) (by omega) (hC.w_k29 0 l (me_bi b)) (fun m hm => by rw [me_up_kn (by decide)]; exact h28 m hm) (fun m hm => by
        rw [me_up_ap]
        by_cases e : m = l
        · rw [if_pos ⟨rfl, rfl, e⟩, e]
          cases b with
          | false => exact Or.inl ⟨rfl, hb rfl⟩
          | true => exact Or.inr rfl
        · rw [if_neg (fun q => e q.2.2)]
          exact h29 m (by omega))
      exact ⟨μ', he.trans k1, k2, k3, fun k' hk' => by
        rw [k4 k' hk']
        funext x y
        rw [me_up_kn hk']⟩
    by_cases e : gh_B (gh_cl a l) = 0
    · refine go true (fun h => by cases h) ?_
      show f_Ways_findsRing_b2 _ _ _ = _
      unfold f_Ways_findsRing_b2
      rw [if_neg (by rw [me_N_64, me_N_le (by omega) (by omega)]; omega), me_gd_n (by omega) (by omega), me_N_ix (by omega), h28 l (by omega), e, if_pos (by rfl), me_gd_n (by omega) (by omega), show vp_nar .boolean 1 = (1 : Int32) from rfl, me_lt_s, me_N_inc, me_lt_s]
      rfl
    · refine go false (fun _ => e) ?_
      show f_Ways_findsRing_b2 _ _ _ = _
      unfold f_Ways_findsRing_b2
      rw [if_neg (by rw [me_N_64, me_N_le (by omega) (by omega)]; omega), me_gd_n (by omega) (by omega), me_N_ix (by omega), h28 l (by omega), if_neg (by rw [me_N_0, me_N_inj (by omega) (by omega)]; exact e), me_gd_n (by omega) (by omega), show vp_nar .boolean 0 = (0 : Int32) from rfl, me_lt_s, me_N_inc, me_lt_s]
      rfl
theorem y_ring {a : me_S} {μ : me_M} (hC : me_RC a μ) (hI : me_Iv a) : ∃ μ', f_Y_hasRing μ = some (μ', 0) ∧ me_RC a μ' ∧ ∀ k', ¬ k' = 28 → ¬ k' = 29 → μ' k' = μ k' := by
  obtain ⟨μ1, e1, c1, z1, f1⟩ := y_trace hI hC
  obtain ⟨μ2, e2, c2, z2, f2⟩ := y_ring2 64 me_FU 0 μ1 (by omega) (by unfold me_FU; omega) c1 z1 (fun m hm => absurd hm (Nat.not_lt_zero m))
  obtain ⟨μ3, e3, c3, f3⟩ := y_ring39 hI 64 me_FU 0 64 μ2 (by omega) (by unfold me_FU; omega) c2 z2 (fun m hm h3 h4 => by
    have := gh_R64 hI h3
    omega) (Nat.le_refl _) (fun h => by cases h)
  refine ⟨μ3, ?_, c3, fun k' h28 h29 => by rw [f3 k' h29, f2 k' h29, f1 k' h28]⟩
  have e2 : f_Ways_findsRing μ1 = f_Ways_findsRing_h39 me_FU μ2 64 0 := e2
  have e3 : f_Ways_findsRing_h39 me_FU μ2 64 0 = some (μ3, 0) := e3
  unfold f_Y_hasRing
  rw [e1, me_b2_s, e2, e3, me_b2_s, me_gd_t me_nr_z]
