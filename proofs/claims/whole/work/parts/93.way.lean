/-! WHERE A HEAD GOES; direction -/
def gh_ax (w n g : Nat) : Option Nat := if g % w = n % w then none else if g % w ≤ n % w then some 1 else some 0
def gh_ay (w n g : Nat) : Option Nat := if g / w = n / w then none else if g / w ≤ n / w then some 3 else some 2
def gh_oq (o : Option Nat) (P : Nat → Bool) : Bool := match o with
  | none => true
  | some d => P d
theorem gh_way1 : ∀ w, w < 5 → ∀ h, h < 5 → ∀ n, n < w * h → ∀ g, g < w * h → ((gh_ax w n g).isSome || ((gh_ay w n g).isSome || Nat.beq n g)) = true ∧ gh_oq (gh_ax w n g) (fun d => (me_nb w h n d).isSome && !(Nat.beq n g)) = true ∧ gh_oq (gh_ay w n g) (fun d => (me_nb w h n d).isSome && !(Nat.beq n g)) = true := by decide +kernel
theorem gh_way {a : me_S} (hI : me_Iv a) {n g : Nat} (hn : n < a.w * a.h) (hg : g < a.w * a.h) : (gh_ax a.w n g = none → gh_ay a.w n g = none → n = g) ∧ (∀ d, gh_ax a.w n g = some d → d < 2 ∧ ¬ n = g ∧ ∃ n', me_nb a.w a.h n d = some n' ∧ n' < a.w * a.h) ∧ (∀ d, gh_ay a.w n g = some d → d < 4 ∧ 2 ≤ d ∧ ¬ n = g ∧ ∃ n', me_nb a.w a.h n d = some n' ∧ n' < a.w * a.h) := by
  have hw := hI.1.iw
  have hh := hI.1.ih
  obtain ⟨h1, h2, h3⟩ := gh_way1 a.w (by omega) a.h (by omega) n hn g hg
  refine ⟨fun e1 e2 => ?_, fun d e => ?_, fun d e => ?_⟩
  · rw [e1, e2] at h1
    exact Nat.eq_of_beq_eq_true h1
  · rw [e] at h2
    have h2 : ((me_nb a.w a.h n d).isSome && !(Nat.beq n g)) = true := h2
    rw [Bool.and_eq_true] at h2
    have hd : d < 2 := by
      unfold gh_ax at e
      split at e
      · cases e
      · split at e <;> · cases e; decide
    obtain ⟨n', e'⟩ := Option.isSome_iff_exists.mp h2.1
    refine ⟨hd, fun q => ?_, n', e', (me_Op_lt hI hn (by omega) e').1⟩
    rw [q] at h2
    simp at h2
  · rw [e] at h3
    have h3 : ((me_nb a.w a.h n d).isSome && !(Nat.beq n g)) = true := h3
    rw [Bool.and_eq_true] at h3
    have hd : d < 4 ∧ 2 ≤ d := by
      unfold gh_ay at e
      split at e
      · cases e
      · split at e <;> · cases e; decide
    obtain ⟨n', e'⟩ := Option.isSome_iff_exists.mp h3.1
    refine ⟨hd.1, hd.2, fun q => ?_, n', e', (me_Op_lt hI hn hd.1 e').1⟩
    rw [q] at h3
    simp at h3
def gh_opn (a : me_S) (n' c d : Nat) : Bool := decide (a.ro (10 * n' + 5 * c + me_op d) = none) && decide ((a.q (10 * n' + 5 * c + me_op d)).length < a.rp)
def gh_fr (a : me_S) (n c d : Nat) : Bool := match me_nb a.w a.h n d with
  | none => false
  | some n' => decide (a.fl n d = 0) && gh_opn a n' c d
/-- the side to which a head at n goes -/
def gh_side (a : me_S) (n g c : Nat) : Nat :=
  match gh_ax a.w n g, gh_ay a.w n g with
  | none, none => 4
  | some x, none => x
  | none, some y => y
  | some x, some y => if a.wy = 116 then (if x = 1 then 1 else if gh_fr a n c x = true then x else if gh_fr a n c y = true then y else if a.fl n x = 0 then x else if a.fl n y = 0 then y else x) else if a.wy = 120 then x else y
theorem gh_side_self {a : me_S} {n c : Nat} : gh_side a n n c = 4 := by
  unfold gh_side gh_ax gh_ay
  rw [if_pos rfl, if_pos rfl]
theorem gh_side_lt {a : me_S} (hI : me_Iv a) {n g c : Nat} (hn : n < a.w * a.h) (hg : g < a.w * a.h) : gh_side a n g c < 5 := by
  obtain ⟨-, h2, h3⟩ := gh_way hI hn hg
  unfold gh_side
  cases ex : gh_ax a.w n g with
  | none =>
    cases ey : gh_ay a.w n g with
    | none => exact (by decide : 4 < 5)
    | some y => have := h3 y ey; dsimp only; omega
  | some x =>
    have hx := h2 x ex
    cases ey : gh_ay a.w n g with
    | none => dsimp only; omega
    | some y =>
      have hy := h3 y ey
      dsimp only
      repeat' split
      all_goals omega
theorem y_alX {a : me_S} {μ : me_M} (hC : me_RC a μ) (hI : me_Iv a) {n g : Nat} (hn : n < a.w * a.h) (hg : g < a.w * a.h) : f_Net_alongX μ (me_N n) (me_N g) = some (me_Op (gh_ax a.w n g)) := by
  have hwh := hI.wh
  have hw := hI.1.iw
  have h1 : n % a.w < a.w := Nat.mod_lt _ (by omega)
  have h2 : g % a.w < a.w := Nat.mod_lt _ (by omega)
  unfold f_Net_alongX gh_ax
  simp only [me_gd_n (show n < 2147483648 by omega) (show n < 16 by omega), me_gd_n (show g < 2147483648 by omega) (show g < 16 by omega), me_N_ix (show n < 2147483648 by omega), me_N_ix (show g < 2147483648 by omega), hC.cl n hn, hC.cl g hg, me_N_inj (show g % a.w < 2147483648 by omega) (show n % a.w < 2147483648 by omega), me_N_le (show g % a.w < 2147483648 by omega) (show n % a.w < 2147483648 by omega)]
  split
  · rfl
  · split <;> rfl
theorem y_alY {a : me_S} {μ : me_M} (hC : me_RC a μ) (hI : me_Iv a) {n g : Nat} (hn : n < a.w * a.h) (hg : g < a.w * a.h) : f_Net_alongY μ (me_N n) (me_N g) = some (me_Op (gh_ay a.w n g)) := by
  have hwh := hI.wh
  have h1 : n / a.w ≤ n := Nat.div_le_self _ _
  have h2 : g / a.w ≤ g := Nat.div_le_self _ _
  unfold f_Net_alongY gh_ay
  simp only [me_gd_n (show n < 2147483648 by omega) (show n < 16 by omega), me_gd_n (show g < 2147483648 by omega) (show g < 16 by omega), me_N_ix (show n < 2147483648 by omega), me_N_ix (show g < 2147483648 by omega), hC.li n hn, hC.li g hg, me_N_inj (show g / a.w < 2147483648 by omega) (show n / a.w < 2147483648 by omega), me_N_le (show g / a.w < 2147483648 by omega) (show n / a.w < 2147483648 by omega)]
  split
  · rfl
  · split <;> rfl
theorem me_N_dif {a b : Nat} (ha : a < 1000) (hb : b < 1000) : ((me_N a - me_N b ≤ 0) ↔ a ≤ b) ∧ ((0 ≤ me_N a - me_N b) ↔ b ≤ a) := by
  have e : (me_N a - me_N b).toInt = (a : Int) - (b : Int) := by
    rw [← me_N_ofInt, ← me_N_ofInt, ← Int32.ofInt_sub, Int32.toInt_ofInt_of_le (by omega) (by omega)]
  have z : (0 : Int32).toInt = 0 := rfl
  constructor
  · rw [Int32.le_iff_toInt_le, e, z]; omega
  · rw [Int32.le_iff_toInt_le, e, z]; omega
theorem m_alX {a : me_S} {μ : me_M} (hM : me_RM a μ) (hI : me_Iv a) {n g : Nat} (hn : n < a.w * a.h) (hg : g < a.w * a.h) : f_M_along μ (me_N n) (me_N g) 1 = some (me_Op (gh_ax a.w n g)) ∧ f_M_along μ (me_N n) (me_N g) 0 = some (me_Op (gh_ay a.w n g)) := by
  have hwh := hI.wh
  have hw := hI.1.iw
  have h1 : n % a.w < a.w := Nat.mod_lt _ (by omega)
  have h2 : g % a.w < a.w := Nat.mod_lt _ (by omega)
  have h3 : n / a.w ≤ n := Nat.div_le_self _ _
  have h4 : g / a.w ≤ g := Nat.div_le_self _ _
  have hz : me_nz (me_N a.w) = true := by
    unfold me_nz
    rw [decide_eq_true_eq, me_N_0, me_N_inj (by omega) (by omega)]
    omega
  constructor
  · unfold f_M_along gh_ax
    rw [if_neg (by decide), hM.w, me_gd_t hz, me_gd_t hz, me_N_rem (by omega) (by omega) (by omega), me_N_rem (by omega) (by omega) (by omega), me_lt_s]
    obtain ⟨d1, d2⟩ := me_N_dif (a := g % a.w) (b := n % a.w) (by omega) (by omega)
    by_cases e1 : g % a.w ≤ n % a.w
    · rw [if_pos (d1.mpr e1)]
      by_cases e2 : n % a.w ≤ g % a.w
      · rw [if_pos (d2.mpr e2), if_pos (by omega)]; rfl
      · rw [if_neg (fun q => e2 (d2.mp q)), if_neg (by omega), if_pos e1]; rfl
    · rw [if_neg (fun q => e1 (d1.mp q)), if_neg (by omega), if_neg e1]; rfl
  · unfold f_M_along gh_ay
    rw [if_pos rfl, hM.w, me_gd_t hz, me_gd_t hz, me_N_div (by omega) (by omega) (by omega), me_N_div (by omega) (by omega) (by omega), me_lt_s]
    obtain ⟨d1, d2⟩ := me_N_dif (a := g / a.w) (b := n / a.w) (by omega) (by omega)
    by_cases e1 : g / a.w ≤ n / a.w
    · rw [if_pos (d1.mpr e1)]
      by_cases e2 : n / a.w ≤ g / a.w
      · rw [if_pos (d2.mpr e2), if_pos (by omega)]; rfl
      · rw [if_neg (fun q => e2 (d2.mp q)), if_neg (by omega), if_pos e1]; rfl
    · rw [if_neg (fun q => e1 (d1.mp q)), if_neg (by omega), if_neg e1]; rfl
theorem y_place {a : me_S} {μ : me_M} (hC : me_RC a μ) (hI : me_Iv a) {r : Nat} (hr : r < 160) : f_Row_hasPlace μ r = some (me_bi (decide ((a.q r).length < a.rp))) := by
  have h4 := me_ql a hI r
  have hrp := hI.1.irp
  unfold f_Row_hasPlace
  rw [hC.qp r hr, hC.qn r hr]
  by_cases e : (a.q r).length < a.rp
  · rw [if_neg (by rw [me_N_le (by omega) (by omega)]; omega), if_neg (by rw [me_N_4, me_N_le (by omega) (by omega)]; omega), decide_eq_true e]
    rfl
  · rw [if_pos (by rw [me_N_le (by omega) (by omega)]; omega), decide_eq_false e]
    rfl
theorem y_free {a : me_S} {μ : me_M} (hC : me_RC a μ) (hI : me_Iv a) {n d c n' : Nat} (hn : n < a.w * a.h) (hd : d < 4) (hc : c < 2) (e : me_nb a.w a.h n d = some n') : f_Ways_isFreeAhead μ (me_N n) (me_N d) (me_N c) = some (me_bi (gh_fr a n c d)) := by
  have hwh := hI.wh
  obtain ⟨hn', -⟩ := me_Op_lt hI hn hd e
  have ho := me_op_lt d
  have hq : μ 2 0 (n * 4 + d) = me_N n' := by
    have := hC.ah n d hn hd
    rw [e] at this
    exact this
  unfold f_Ways_isFreeAhead f_Net_opposite gh_fr gh_opn
  rw [e]
  dsimp only
  rw [me_N_4, me_N_mul, me_N_add, me_lt_s, me_gd_n (by omega) (by omega), me_N_ix (by omega), hq, if_neg (me_N_nm1 (by omega)), me_gd_n (by omega) (by omega), hC.fl n d (by omega) hd]
  by_cases e1 : a.fl n d = 0
  · rw [if_pos e1, decide_eq_true e1, me_gd_n (by omega) (by omega), me_gd_n (by omega) (by omega), me_bd_s, me_op_xor hd, me_N_5, me_N_mul, me_N_add, me_gd_n (by omega) (by omega), me_N_ix (by omega), me_N_ix (by omega), show 10 * n' + (c * 5 + me_op d) = 10 * n' + 5 * c + me_op d by omega, hC.ro _ (by omega), y_place hC hI (by omega), me_bd_s]
    by_cases e2 : a.ro (10 * n' + 5 * c + me_op d) = none
    · rw [if_pos ((me_ro_m1 hI _).mpr e2), decide_eq_true e2]
      cases decide ((a.q (10 * n' + 5 * c + me_op d)).length < a.rp) <;> rfl
    · rw [if_neg (fun q => e2 ((me_ro_m1 hI _).mp q)), decide_eq_false e2]
      rfl
  · rw [if_neg e1, decide_eq_false e1]
    rfl
theorem m_open {a : me_S} {μ : me_M} (hM : me_RM a μ) (hI : me_Iv a) {n d c n' : Nat} (hn : n < a.w * a.h) (hd : d < 4) (hc : c < 2) (e : me_nb a.w a.h n d = some n') : f_M_isOpen μ (me_N n) (me_N d) (me_N c) = some (me_bi (gh_opn a n' c d)) := by
  have hwh := hI.wh
  obtain ⟨hn', -⟩ := me_Op_lt hI hn hd e
  have ho := me_op_lt d
  have hrp := hI.1.irp
  have hi : 5 * (2 * n' + c) + me_op d = 10 * n' + 5 * c + me_op d := by omega
  have h4 := me_ql a hI (10 * n' + 5 * c + me_op d)
  unfold f_M_isOpen gh_opn
  rw [m_beside hM hI hn hd, e, me_bd_s, show me_Op (some n') = me_N n' from rfl, me_N_ix (show d < 2147483648 by omega), me_op_opn hd]
  simp only [me_gd_n (show n' < 2147483648 by omega) (show n' < 16 by omega), me_gd_n (show c < 2147483648 by omega) hc, me_gd_n (show d < 2147483648 by omega) hd, me_gd_n (show me_op d < 2147483648 by omega) (show me_op d < 5 by omega), me_N_ix (show n' < 2147483648 by omega), me_N_ix (show c < 2147483648 by omega), me_N_ix (show me_op d < 2147483648 by omega)]
  rw [hM.ro _ _ (by omega) (by omega), hM.qn _ _ (by omega) (by omega), hM.rp, hi]
  by_cases e2 : a.ro (10 * n' + 5 * c + me_op d) = none
  · rw [if_pos ((me_ro_m1 hI _).mpr e2), decide_eq_true e2]
    by_cases e3 : (a.q (10 * n' + 5 * c + me_op d)).length < a.rp
    · rw [if_neg (by rw [me_N_le (by omega) (by omega)]; omega), decide_eq_true e3]
      rfl
    · rw [if_pos (by rw [me_N_le (by omega) (by omega)]; omega), decide_eq_false e3]
      rfl
  · rw [if_neg (fun q => e2 ((me_ro_m1 hI _).mp q)), decide_eq_false e2]
    rfl
theorem y_whole {a : me_S} {μ : me_M} (hC : me_RC a μ) (hI : me_Iv a) {n d n' : Nat} (hn : n < a.w * a.h) (hd : d < 4) (e : me_nb a.w a.h n d = some n') : f_Net_isWhole μ (me_N n * 4 + me_N d) = some (if a.fl n d = 0 then 1 else 0) := by
  have hwh := hI.wh
  obtain ⟨hn', -⟩ := me_Op_lt hI hn hd e
  have hq : μ 2 0 (n * 4 + d) = me_N n' := by
    have := hC.ah n d hn hd
    rw [e] at this
    exact this
  unfold f_Net_isWhole
  rw [me_N_4, me_N_mul, me_N_add, me_gd_n (by omega) (by omega), me_N_ix (by omega), hq, if_neg (me_N_nm1 (by omega)), me_gd_n (by omega) (by omega), hC.fl n d (by omega) hd]
  split <;> rfl
theorem y_side {a : me_S} {μ : me_M} (hC : me_RC a μ) (hI : me_Iv a) {n g c : Nat} (hn : n < a.w * a.h) (hg : g < a.w * a.h) (hc : c < 2) : f_Ways_heading μ (me_N n) (me_N g) (me_N c) = some (me_N (gh_side a n g c)) := by
  have hwh := hI.wh
  by_cases hng : n = g
  · subst hng
    rw [gh_side_self]
    unfold f_Ways_heading
    rw [if_pos rfl]
    rfl
  obtain ⟨k1, k2, k3⟩ := gh_way hI hn hg
  unfold f_Ways_heading f_Ways_headingByTurns f_Ways_headingByTurns_b110 f_Ways_headingByTurns_b111
  rw [if_neg (by rw [me_N_inj (by omega) (by omega)]; exact hng), y_alX hC hI hn hg, y_alY hC hI hn hg, hC.wy]
  simp only [me_bd_s]
  unfold gh_side
  cases ex : gh_ax a.w n g with
  | none =>
    cases ey : gh_ay a.w n g with
    | none => exact absurd (k1 ex ey) hng
    | some y =>
      obtain ⟨hy1, hy2, -, -⟩ := k3 y ey
      have z1 : ¬ me_Op none = 1 := by decide
      have z2 : me_Op none = -1 := rfl
      have z3 : ¬ me_Op (some y) = -1 := me_N_nm1 (by omega)
      simp only [z2, z3, show ¬ (-1 : Int32) = 1 by decide, if_true, if_false, me_bd_s]
      split
      · rfl
      · split <;> rfl
  | some x =>
    obtain ⟨hx1, -, nx, enx, -⟩ := k2 x ex
    have z4 : ¬ me_Op (some x) = -1 := me_N_nm1 (by omega)
    cases ey : gh_ay a.w n g with
    | none =>
      have z2 : me_Op none = -1 := rfl
      simp only [z2, z4, if_true, if_false, me_bd_s]
      split
      · split <;> rfl
      · split <;> rfl
    | some y =>
      obtain ⟨hy1, hy2, -, ny, eny, -⟩ := k3 y ey
      have z3 : ¬ me_Op (some y) = -1 := me_N_nm1 (by omega)
      have z5 : (me_Op (some x) = 1) ↔ x = 1 := by
        show (me_N x = 1) ↔ x = 1
        rw [me_N_1, me_N_inj (by omega) (by omega)]
      have w1 := y_free hC hI hn (show x < 4 by omega) hc enx
      have w2 := y_free hC hI hn hy1 hc eny
      have w3 := y_whole hC hI hn (show x < 4 by omega) enx
      have w4 := y_whole hC hI hn hy1 eny
      simp only [z3, z4, if_false]
      rw [show me_Op (some x) = me_N x from rfl, show me_Op (some y) = me_N y from rfl] at *
      rw [w1, w2, w3, w4]
      simp only [me_bd_s]
      by_cases c1 : a.wy = 116
      · rw [if_pos c1, if_pos c1]
        by_cases c2 : x = 1
        · rw [if_pos (z5.mpr c2), if_pos c2, me_bd_s, c2]
        · rw [if_neg (fun q => c2 (z5.mp q)), if_neg c2]
          by_cases f3 : a.fl n x = 0 <;> by_cases f4 : a.fl n y = 0 <;> cases gh_fr a n c x <;> cases gh_fr a n c y <;> simp [f3, f4, me_bi, me_bd_s]
      · rw [if_neg c1, if_neg c1]
        by_cases c2 : a.wy = 120
        · rw [if_pos c2, if_pos c2]
        · rw [if_neg c2, if_neg c2]
theorem m_side {a : me_S} {μ : me_M} (hM : me_RM a μ) (hI : me_Iv a) {n g c : Nat} (hn : n < a.w * a.h) (hg : g < a.w * a.h) (hc : c < 2) : f_M_sideOf μ (me_N n) (me_N g) (me_N c) = some (me_N (gh_side a n g c)) := by
  have hwh := hI.wh
  obtain ⟨k1, k2, k3⟩ := gh_way hI hn hg
  obtain ⟨m1, m2⟩ := m_alX hM hI hn hg
  unfold f_M_sideOf f_M_sideOf_b32 f_M_sideOf_b98
  rw [m1, m2, hM.wy]
  simp only [me_bd_s]
  unfold gh_side
  cases ex : gh_ax a.w n g with
  | none =>
    cases ey : gh_ay a.w n g with
    | none => rfl
    | some y =>
      obtain ⟨hy1, hy2, -, -⟩ := k3 y ey
      have z2 : me_Op none = -1 := rfl
      have z3 : ¬ me_Op (some y) = -1 := me_N_nm1 (by omega)
      simp only [z2, z3, show ¬ (-1 : Int32) = 1 by decide, if_true, if_false]
      split
      · rfl
      · split <;> rfl
  | some x =>
    obtain ⟨hx1, -, nx, enx, -⟩ := k2 x ex
    have z4 : ¬ me_Op (some x) = -1 := me_N_nm1 (by omega)
    cases ey : gh_ay a.w n g with
    | none =>
      have z2 : me_Op none = -1 := rfl
      simp only [z2, z4, if_true, if_false]
      split
      · split <;> rfl
      · split <;> rfl
    | some y =>
      obtain ⟨hy1, hy2, -, ny, eny, -⟩ := k3 y ey
      have z3 : ¬ me_Op (some y) = -1 := me_N_nm1 (by omega)
      have z5 : (me_Op (some x) = 1) ↔ x = 1 := by
        show (me_N x = 1) ↔ x = 1
        rw [me_N_1, me_N_inj (by omega) (by omega)]
      have w1 := m_open hM hI hn (show x < 4 by omega) hc enx
      have w2 := m_open hM hI hn hy1 hc eny
      simp only [z3, z4, if_false]
      rw [show me_Op (some x) = me_N x from rfl, show me_Op (some y) = me_N y from rfl] at *
      unfold f_M_sideOf_b129 f_M_sideOf_b148 f_M_sideOf_b169 f_M_sideOf_b190
      simp only [me_gd_n (show n < 2147483648 by omega) (show n < 16 by omega), me_gd_n (show x < 2147483648 by omega) (show x < 5 by omega), me_gd_n (show y < 2147483648 by omega) (show y < 5 by omega), me_N_ix (show n < 2147483648 by omega), me_N_ix (show x < 2147483648 by omega), me_N_ix (show y < 2147483648 by omega), hM.fl n x (show n < 16 by omega) (show x < 4 by omega), hM.fl n y (show n < 16 by omega) hy1, w1, w2, me_bd_s]
      have g1 : gh_fr a n c x = (decide (a.fl n x = 0) && gh_opn a nx c x) := by unfold gh_fr; rw [enx]
      have g2 : gh_fr a n c y = (decide (a.fl n y = 0) && gh_opn a ny c y) := by unfold gh_fr; rw [eny]
      rw [g1, g2]
      by_cases c1 : a.wy = 116
      · rw [if_pos c1, if_pos c1]
        by_cases c2 : x = 1
        · rw [if_pos (z5.mpr c2), if_pos c2, c2]
        · rw [if_neg (fun q => c2 (z5.mp q)), if_neg c2]
          by_cases f3 : a.fl n x = 0
          · by_cases f4 : a.fl n y = 0
            · cases gh_opn a nx c x <;> cases gh_opn a ny c y <;> simp [f3, f4, me_bi]
            · cases gh_opn a nx c x <;> cases gh_opn a ny c y <;> simp [f3, f4, me_bi]
          · by_cases f4 : a.fl n y = 0
            · cases gh_opn a nx c x <;> cases gh_opn a ny c y <;> simp [f3, f4, me_bi]
            · cases gh_opn a nx c x <;> cases gh_opn a ny c y <;> simp [f3, f4, me_bi]
      · rw [if_neg c1, if_neg c1]
        by_cases c2 : a.wy = 120
        · rw [if_pos c2, if_pos c2]
        · rw [if_neg c2, if_neg c2]
theorem t_25 {T : Nat} {a : me_S} {μ : me_M} {o : Int64 × UInt64} {s1 s2 s3 s4 s5 : Int32} (hR : me_R T a μ) : ∃ μ' o' a', f_case_25 μ o s1 s2 s3 s4 s5 = some (μ', o') ∧ me_R T a' μ' := by
  obtain ⟨hC, hM, hI, hbt, hT, hwk⟩ := id hR
  have hwh := hI.wh
  have hnp := hI.n200
  have hD : me_Dd a a μ := ⟨hC, hM, hwk⟩
  by_cases hb : me_isB s1 (a.w * a.h)
  · by_cases hb2 : me_isB s2 (a.w * a.h)
    · obtain ⟨n, hn, rfl⟩ := hb
      obtain ⟨m, hm, rfl⟩ := hb2
      have e1 := y_nodes_o hC hI hn hm
      have e2 := m_node_o hM hI hn
      have e3 := m_node_o hM hI hm
      have hlt := gh_side_lt hI (c := 0) hn hm
      have c1 : f_Ways_heading μ (me_N n) (me_N m) 0 = some (me_N (gh_side a n m 0)) := y_side hC hI hn hm (by decide)
      have c2 : f_M_sideOf (me_up μ 36 0 42 0) (me_N n) (me_N m) 0 = some (me_N (gh_side a n m 0)) := m_side (hR.th 0).2.1 hI hn hm (by decide)
      have g1 : ¬ me_N (gh_side a n m 0) < 0 := me_N_nneg (by omega)
      have g2 : ¬ (5 : Int32) ≤ me_N (gh_side a n m 0) := by rw [me_N_5, me_N_le (by omega) (by omega)]; omega
      have g3 : ∀ μ, f_Str_charAt μ 1 (me_N (gh_side a n m 0)) = _ := fun μ => (s_charAt hlt).1
      have g4 := (s_charAt (μ := μ) hlt).2
      refine ⟨_, (Int32.toInt64 ((me_sb 1).getD (gh_side a n m 0) 0), o.2), a, ?_, hR.th 0⟩
      simp [-List.getD_eq_getElem?_getD, f_case_25, f_L_direction, f_Y_direction, f_M_direction, f_M_direction_b22, me_bd_s, me_b2_s, me_lt_s, me_oq_n, me_oq_s, me_xb_o, me_xb_e, me_xb2_o, me_xb2_e, me_xm_o, me_xm_e, f_M_thrown, m_th0, m_th1, me_cmp_self, me_up_at, if_true, if_false, me_nr_z, me_nr_o, me_gd_t, me_up_kn, me_up_jn, e1, e2, e3, c1, c2, g1, g2, g3, g4]
    · obtain ⟨n, hn, rfl⟩ := hb
      have e1 := y_nodes_n (μ := μ) hC hI (v := me_N n) (u := s2) (fun q => hb2 q.2)
      have e2 := m_node_o hM hI hn
      have e3 := m_node_n hM hI hb2
      refine ⟨_, o, a, ?_, hR.th 1⟩
      simp [f_case_25, f_L_direction, f_Y_direction, f_M_direction, f_M_direction_b17, f_M_direction_b22, me_bd_s, me_b2_s, me_lt_s, me_oq_n, me_oq_s, me_xb_o, me_xb_e, me_xb2_o, me_xb2_e, me_xm_o, me_xm_e, f_M_thrown, m_th0, m_th1, me_cmp_self, me_up_at, if_true, if_false, me_nr_z, me_nr_o, me_gd_t, me_up_kn, me_up_jn, e1, e2, e3]
  · have e1 := y_nodes_n (μ := μ) hC hI (v := s1) (u := s2) (fun q => hb q.1)
    have e2 := m_node_n hM hI hb
    refine ⟨_, o, a, ?_, hR.th 1⟩
    simp [f_case_25, f_L_direction, f_Y_direction, f_M_direction, f_M_direction_b17, f_M_direction_b22, me_bd_s, me_b2_s, me_lt_s, me_oq_n, me_oq_s, me_xb_o, me_xb_e, me_xb2_o, me_xb2_e, me_xm_o, me_xm_e, f_M_thrown, m_th0, m_th1, me_cmp_self, me_up_at, if_true, if_false, me_nr_z, me_nr_o, me_gd_t, me_up_kn, me_up_jn, e1, e2]
