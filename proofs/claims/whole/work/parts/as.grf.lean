/-! the graph of links -/
def gh_mg (a : me_S) (n g d : Nat) : Bool := if a.wy = 116 then (if gh_ax a.w n g = some 1 then decide (d = 1) else (decide (gh_ax a.w n g = some d) || decide (gh_ay a.w n g = some d))) else decide (gh_side a n g 0 = d)
def gh_lk (a : me_S) (n d : Nat) : Bool := (me_nb a.w a.h n d).isSome && decide (a.fl n d = 0)
theorem me_Op_eq {o : Option Nat} {d : Nat} (ho : ∀ n, o = some n → n < 1000) (hd : d < 1000) : (me_N d = me_Op o) ↔ o = some d := by
  cases o with
  | none => exact ⟨fun q => absurd q (me_N_nm1 (by omega)), fun q => by cases q⟩
  | some n =>
    have := ho n rfl
    show (me_N d = me_N n) ↔ _
    rw [me_N_inj (by omega) (by omega)]
    exact ⟨fun q => by rw [q], fun q => (Option.some.inj q).symm⟩
theorem gh_ax_lt {w n g : Nat} : ∀ m, gh_ax w n g = some m → m < 2 := by
  intro m h
  unfold gh_ax at h
  split at h
  · cases h
  · split at h <;> · have := Option.some.inj h; omega
theorem gh_ay_lt {w n g : Nat} : ∀ m, gh_ay w n g = some m → m < 4 := by
  intro m h
  unfold gh_ay at h
  split at h
  · cases h
  · split at h <;> · have := Option.some.inj h; omega
theorem gh_side_w {a : me_S} {n g c : Nat} (hw : a.wy = 116) (hx : gh_ax a.w n g = some 1) : gh_side a n g c = 1 := by
  unfold gh_side
  rw [hx]
  cases gh_ay a.w n g with
  | none => rfl
  | some y =>
    dsimp only
    rw [if_pos hw, if_pos rfl]
theorem gh_mg_self {a : me_S} {n d : Nat} (hd : d < 4) : gh_mg a n n d = false := by
  unfold gh_mg
  have e1 : gh_ax a.w n n = none := by unfold gh_ax; rw [if_pos rfl]
  have e2 : gh_ay a.w n n = none := by unfold gh_ay; rw [if_pos rfl]
  by_cases h : a.wy = 116
  · rw [if_pos h, e1, e2, if_neg (fun q => by cases q), decide_eq_false (fun q => by cases q), Bool.false_or]
  · rw [if_neg h, gh_side_self, decide_eq_false (by omega)]
theorem y_lk {a : me_S} {μ : me_M} (hC : me_RC a μ) (hI : me_Iv a) {n d : Nat} (hn : n < a.w * a.h) (hd : d < 4) : f_Net_isWhole μ (me_N n * 4 + me_N d) = some (me_bi (gh_lk a n d)) := by
  have hwh := hI.wh
  unfold f_Net_isWhole gh_lk
  rw [me_N_4, me_N_mul, me_N_add, me_gd_n (by omega) (by omega), me_gd_n (by omega) (by omega), me_N_ix (by omega), hC.ah n d hn hd, hC.fl n d (by omega) hd]
  cases e : me_nb a.w a.h n d with
  | none =>
    rw [if_pos (show me_Op none = -1 from rfl)]
    rfl
  | some n' =>
    have := (me_Op_lt hI hn hd e).1
    rw [if_neg (show ¬ me_Op (some n') = -1 from me_N_nm1 (by omega))]
    by_cases g : a.fl n d = 0
    · rw [if_pos g, decide_eq_true g]
      rfl
    · rw [if_neg g, decide_eq_false g]
      rfl
theorem y_cg {a : me_S} {μ : me_M} (hC : me_RC a μ) (hI : me_Iv a) {n g d : Nat} (hn : n < a.w * a.h) (hg : g < a.w * a.h) (hd : d < 4) : f_Ways_couldGo μ (me_N n) (me_N g) (me_N d) = some (me_bi (gh_lk a n d && gh_mg a n g d)) := by
  have hwh := hI.wh
  have b48 : f_Ways_couldGo_b48 μ (me_N n) (me_N g) (me_N d) = some (me_bi (decide (gh_side a n g 0 = d))) := by
    have h5 := gh_side_lt hI hn hg (c := 0)
    unfold f_Ways_couldGo_b48
    rw [show f_Ways_heading μ (me_N n) (me_N g) 0 = some (me_N (gh_side a n g 0)) from y_side hC hI hn hg (by decide), me_bd_s]
    by_cases e : gh_side a n g 0 = d
    · rw [if_pos (by rw [e]), decide_eq_true e]; rfl
    · rw [if_neg (by rw [me_N_inj (by omega) (by omega)]; exact e), decide_eq_false e]; rfl
  unfold f_Ways_couldGo
  by_cases e : n = g
  · rw [if_pos (show me_N n = me_N g by rw [e]), e, gh_mg_self hd, Bool.and_false]
    rfl
  · rw [if_neg (show ¬ me_N n = me_N g by rw [me_N_inj (by omega) (by omega)]; exact e), y_lk hC hI hn hd, me_bd_s]
    cases hl : gh_lk a n d with
    | false => rw [if_pos (by rfl)]; rfl
    | true =>
      rw [if_neg (show ¬ me_bi true = 0 by decide), y_alX hC hI hn hg, me_bd_s, hC.wy, Bool.true_and]
      unfold gh_mg
      by_cases hw : a.wy = 116
      · rw [if_pos hw, if_pos hw]
        by_cases hx : gh_ax a.w n g = some 1
        · rw [if_pos (show me_Op (gh_ax a.w n g) = 1 by rw [hx]; rfl), if_pos hx, b48, gh_side_w hw hx]
          by_cases e1 : 1 = d
          · rw [decide_eq_true e1, decide_eq_true e1.symm]
          · rw [decide_eq_false e1, decide_eq_false (fun q => e1 q.symm)]
        · rw [if_neg (fun q => hx ((me_Op_eq (fun m hm => by have := gh_ax_lt m hm; omega) (by decide)).mp q.symm)), if_neg hx]
          by_cases e1 : gh_ax a.w n g = some d
          · rw [if_pos ((me_Op_eq (fun m hm => by have := gh_ax_lt m hm; omega) (by omega)).mpr e1), decide_eq_true e1]
            rfl
          · rw [if_neg (fun q => e1 ((me_Op_eq (fun m hm => by have := gh_ax_lt m hm; omega) (by omega)).mp q)), decide_eq_false e1, y_alY hC hI hn hg, me_bd_s]
            by_cases e2 : gh_ay a.w n g = some d
            · rw [if_pos ((me_Op_eq (fun m hm => by have := gh_ay_lt m hm; omega) (by omega)).mpr e2), decide_eq_true e2]
              rfl
            · rw [if_neg (fun q => e2 ((me_Op_eq (fun m hm => by have := gh_ay_lt m hm; omega) (by omega)).mp q)), decide_eq_false e2]
              rfl
      · rw [if_neg hw, if_neg hw, b48]
theorem m_mg {a : me_S} {ν : me_M} (hM : me_RM a ν) (hI : me_Iv a) {n g d : Nat} (hn : n < a.w * a.h) (hg : g < a.w * a.h) (hd : d < 4) : f_M_mayGo ν (me_N n) (me_N g) (me_N d) = some (me_bi (gh_mg a n g d)) := by
  have hwh := hI.wh
  obtain ⟨x1, x2⟩ := m_alX hM hI hn hg
  unfold f_M_mayGo f_M_mayGo_b75 gh_mg
  rw [hM.wy, x1, x2, me_bd_s, me_bd_s]
  by_cases hw : a.wy = 116
  · rw [if_pos hw, if_pos hw, if_neg (show ¬ me_N d = -1 from me_N_nm1 (by omega))]
    by_cases hx : gh_ax a.w n g = some 1
    · rw [if_pos (show me_Op (gh_ax a.w n g) = 1 by rw [hx]; rfl), if_pos hx]
      by_cases e1 : d = 1
      · rw [if_pos (show me_N d = 1 by rw [e1]; rfl), decide_eq_true e1]; rfl
      · rw [if_neg (show ¬ me_N d = 1 by rw [me_N_1, me_N_inj (by omega) (by omega)]; exact e1), decide_eq_false e1]; rfl
    · rw [if_neg (fun q => hx ((me_Op_eq (fun m hm => by have := gh_ax_lt m hm; omega) (by decide)).mp q.symm)), if_neg hx]
      by_cases e1 : gh_ax a.w n g = some d
      · rw [if_pos ((me_Op_eq (fun m hm => by have := gh_ax_lt m hm; omega) (by omega)).mpr e1), decide_eq_true e1]
        rfl
      · rw [if_neg (fun q => e1 ((me_Op_eq (fun m hm => by have := gh_ax_lt m hm; omega) (by omega)).mp q)), decide_eq_false e1]
        by_cases e2 : gh_ay a.w n g = some d
        · rw [if_pos ((me_Op_eq (fun m hm => by have := gh_ay_lt m hm; omega) (by omega)).mpr e2), decide_eq_true e2]
          rfl
        · rw [if_neg (fun q => e2 ((me_Op_eq (fun m hm => by have := gh_ay_lt m hm; omega) (by omega)).mp q)), decide_eq_false e2]
          rfl
  · have h5 := gh_side_lt hI hn hg (c := 0)
    rw [if_neg hw, if_neg hw, show f_M_sideOf ν (me_N n) (me_N g) 0 = some (me_N (gh_side a n g 0)) from m_side hM hI hn hg (by decide), me_bd_s]
    by_cases e : gh_side a n g 0 = d
    · rw [if_pos (by rw [e]), decide_eq_true e]; rfl
    · rw [if_neg (by rw [me_N_inj (by omega) (by omega)]; exact e), decide_eq_false e]; rfl
theorem m_lk {a : me_S} {ν : me_M} (hM : me_RM a ν) (hI : me_Iv a) {n d : Nat} (hn : n < a.w * a.h) (hd : d < 4) : f_M_isLink ν (me_N n) (me_N d) = some (me_bi (gh_lk a n d)) := by
  have hwh := hI.wh
  unfold f_M_isLink gh_lk
  rw [m_beside hM hI hn hd, me_bd_s]
  cases e : me_nb a.w a.h n d with
  | none =>
    rw [if_pos (show me_Op none = -1 from rfl)]
    rfl
  | some n' =>
    have := (me_Op_lt hI hn hd e).1
    rw [if_neg (show ¬ me_Op (some n') = -1 from me_N_nm1 (by omega)), me_gd_n (by omega) (by omega), me_gd_n (by omega) (by omega), me_N_ix (by omega), me_N_ix (by omega), hM.fl n d (by omega) hd]
    by_cases g : a.fl n d = 0
    · rw [if_pos g, decide_eq_true g]
      rfl
    · rw [if_neg g, decide_eq_false g]
      rfl
/-- whether some of d from i on -/
def gh_ex (P : Nat → Bool) : Nat → Nat → Bool
  | _, 0 => false
  | i, d + 1 => P i || gh_ex P (i + 1) d
theorem gh_ex_iff {P : Nat → Bool} : ∀ (d i : Nat), gh_ex P i d = true ↔ ∃ k, i ≤ k ∧ k < i + d ∧ P k = true := by
  intro d
  induction d with
  | zero =>
    intro i
    exact ⟨fun q => absurd (show false = true from q) (by decide), fun ⟨k, a, b, _⟩ => by omega⟩
  | succ d ih =>
    intro i
    show (P i || gh_ex P (i + 1) d) = true ↔ _
    rw [Bool.or_eq_true, ih]
    constructor
    · rintro (q | ⟨k, a, b, c⟩)
      · exact ⟨i, Nat.le_refl _, by omega, q⟩
      · exact ⟨k, by omega, by omega, c⟩
    · rintro ⟨k, a, b, c⟩
      by_cases e : k = i
      · exact Or.inl (e ▸ c)
      · exact Or.inr ⟨k, by omega, by omega, c⟩
theorem gh_ex_cg {P Q : Nat → Bool} : ∀ (d i : Nat), (∀ k, i ≤ k → k < i + d → P k = Q k) → gh_ex P i d = gh_ex Q i d := by
  intro d
  induction d with
  | zero => intro i _; rfl
  | succ d ih =>
    intro i h
    show (P i || gh_ex P (i + 1) d) = (Q i || gh_ex Q (i + 1) d)
    rw [h i (Nat.le_refl _) (by omega), ih (i + 1) (fun k a b => h k (by omega) (by omega))]
/-- the node behind, or 0 -/
def gh_bh (a : me_S) (n d : Nat) : Nat := (me_nb a.w a.h n d).getD 0
/-- the reference's leadsTo -/
def gh_lt (a : me_S) (n d t : Nat) : Bool := gh_ex (fun g => gh_mg a n g d && gh_mg a (gh_bh a n d) g t) 0 (a.w * a.h)
/-- the link n d leads to the link behind it by t -/
def gh_on (a : me_S) (n d t : Nat) : Bool := gh_lk a n d && (gh_lk a (gh_bh a n d) t && gh_lt a n d t)
theorem m_lt {a : me_S} {ν : me_M} (hM : me_RM a ν) (hI : me_Iv a) {n d t : Nat} (hn : n < a.w * a.h) (hd : d < 4) (ht : t < 4) (hl : (me_nb a.w a.h n d).isSome = true) : f_M_leadsTo ν (me_N n) (me_N d) (me_N t) = some (me_bi (gh_lt a n d t)) := by
  have hwh := hI.wh
  obtain ⟨n', e⟩ := Option.isSome_iff_exists.mp hl
  have hn' := (me_Op_lt hI hn hd e).1
  have eb : gh_bh a n d = n' := by unfold gh_bh; rw [e]; rfl
  have loop : ∀ (k f g : Nat) (s : Bool), g + k = a.w * a.h → k < f → f_M_leadsTo_h14 ν f (me_N n) (me_N d) (me_N t) (me_N n') (me_bi s) (me_N g) = some (me_bi (s || gh_ex (fun g => gh_mg a n g d && gh_mg a n' g t) g k)) := by
    intro k
    induction k with
    | zero =>
      intro f g s h1 h2
      obtain ⟨f, rfl⟩ : ∃ g, f = g + 1 := ⟨f - 1, by omega⟩
      show f_M_leadsTo_b14 _ _ _ _ _ _ _ _ = _
      unfold f_M_leadsTo_b14 f_M_nodes
      rw [hM.w, hM.h, me_N_mul, me_bd_s, if_pos (by rw [me_N_le (by omega) (by omega)]; omega), me_gd_t (by cases s; exact me_nr_z; exact me_nr_o)]
      show _ = some (me_bi (s || false))
      rw [Bool.or_false]
    | succ k ih =>
      intro f g s h1 h2
      obtain ⟨f, rfl⟩ : ∃ g, f = g + 1 := ⟨f - 1, by omega⟩
      have o1 : me_bi s ||| (1 : Int32) = me_bi (s || true) := me_bi_or (c := true)
      have o0 : me_bi s ||| (0 : Int32) = me_bi (s || false) := me_bi_or (c := false)
      show f_M_leadsTo_b14 _ _ _ _ _ _ _ _ = some (me_bi (s || ((gh_mg a n g d && gh_mg a n' g t) || gh_ex (fun g => gh_mg a n g d && gh_mg a n' g t) (g + 1) k)))
      unfold f_M_leadsTo_b14 f_M_leadsTo_b52 f_M_nodes
      rw [hM.w, hM.h, me_N_mul, me_bd_s, if_neg (by rw [me_N_le (by omega) (by omega)]; omega), m_mg hM hI hn (by omega) hd, me_bd_s, o1, o0, me_N_inc, me_lt_s, me_lt_s, me_lt_s, me_lt_s, m_mg hM hI hn' (by omega) ht, me_bd_s]
      cases h1' : gh_mg a n g d with
      | false =>
        rw [if_pos (show me_bi false = 0 from rfl), ih f (g + 1) _ (by omega) (by omega), Bool.false_and, Bool.false_or, Bool.or_false]
      | true =>
        rw [if_neg (show ¬ me_bi true = 0 by decide)]
        cases h2' : gh_mg a n' g t with
        | false => rw [if_pos (show me_bi false = 0 from rfl), ih f (g + 1) _ (by omega) (by omega), Bool.and_false, Bool.false_or, Bool.or_false]
        | true => rw [if_neg (show ¬ me_bi true = 0 by decide), ih f (g + 1) _ (by omega) (by omega), Bool.and_true, Bool.true_or, Bool.or_true, Bool.true_or]
  unfold f_M_leadsTo gh_lt
  rw [m_beside hM hI hn hd, e, me_bd_s, eb]
  exact (loop (a.w * a.h) me_FU 0 false (Nat.zero_add _) (by unfold me_FU; omega)).trans (by rw [Bool.false_or])
