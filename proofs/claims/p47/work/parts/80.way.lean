/-! THE WAY of a packet: nodes, directions, rows; the law's reckoning of it -/
/-- the side to which a head goes by the way x or y -/
def gw_sx (x : Bool) (w n g : Nat) : Nat := match x with
  | true => (gh_ax w n g).getD ((gh_ay w n g).getD 4)
  | false => (gh_ay w n g).getD ((gh_ax w n g).getD 4)
theorem gw_side {a : me_S} {x : Bool} (h : a.wy = if x = true then 120 else 121) (n g c : Nat) : gh_side a n g c = gw_sx x a.w n g := by
  unfold gh_side gw_sx
  rw [h]
  cases x <;> cases gh_ax a.w n g <;> cases gh_ay a.w n g <;> first | rfl | exact (if_neg (by decide)).trans (if_pos (by decide)) | exact (if_neg (by decide)).trans (if_neg (by decide))
def gw_ok (x : Bool) (w h n g : Nat) : Bool :=
  match Nat.beq n g with
  | true => Nat.beq (gw_sx x w n g) 4 && Nat.beq (me_ds w n g) 0
  | false => Nat.blt (gw_sx x w n g) 4 && (match me_nb w h n (gw_sx x w n g) with
    | none => false
    | some n' => Nat.blt n' (w * h) && Nat.beq (me_ds w n' g + 1) (me_ds w n g))
theorem gw_okT : ∀ w, w < 5 → ∀ h, h < 5 → ∀ n, n < w * h → ∀ g, g < w * h → gw_ok true w h n g = true ∧ gw_ok false w h n g = true := by decide +kernel
theorem gw_okA {w h n g : Nat} (x : Bool) (hw : w < 5) (hh : h < 5) (hn : n < w * h) (hg : g < w * h) : gw_ok x w h n g = true := by
  obtain ⟨h1, h2⟩ := gw_okT w hw h hh n hn g hg
  cases x
  · exact h2
  · exact h1
theorem gw_self {w h g : Nat} (x : Bool) (hw : w < 5) (hh : h < 5) (hg : g < w * h) : gw_sx x w g g = 4 ∧ me_ds w g g = 0 := by
  have h1 := gw_okA x hw hh hg hg
  unfold gw_ok at h1
  rw [show Nat.beq g g = true from Nat.beq_refl g] at h1
  simp only [Bool.and_eq_true] at h1
  exact ⟨Nat.eq_of_beq_eq_true h1.1, Nat.eq_of_beq_eq_true h1.2⟩
theorem gw_next {w h n g : Nat} (x : Bool) (hw : w < 5) (hh : h < 5) (hn : n < w * h) (hg : g < w * h) (hne : ¬ n = g) : gw_sx x w n g < 4 ∧ ∃ n', me_nb w h n (gw_sx x w n g) = some n' ∧ n' < w * h ∧ me_ds w n' g + 1 = me_ds w n g := by
  have h1 := gw_okA x hw hh hn hg
  unfold gw_ok at h1
  rw [show Nat.beq n g = false by
    cases e : Nat.beq n g with
    | true => exact absurd (Nat.eq_of_beq_eq_true e) hne
    | false => rfl] at h1
  simp only [Bool.and_eq_true] at h1
  refine ⟨Nat.le_of_ble_eq_true h1.1, ?_⟩
  cases e : me_nb w h n (gw_sx x w n g) with
  | none =>
    rw [e] at h1
    exact absurd h1.2 Bool.false_ne_true
  | some n' =>
    rw [e] at h1
    have h2 := h1.2
    simp only [Bool.and_eq_true] at h2
    exact ⟨n', rfl, Nat.le_of_ble_eq_true h2.1, Nat.eq_of_beq_eq_true h2.2⟩
/-- the nodes along the way -/
def gw_n (x : Bool) (w h s g : Nat) : Nat → Nat
  | 0 => s
  | j + 1 => (me_nb w h (gw_n x w h s g j) (gw_sx x w (gw_n x w h s g j) g)).getD (gw_n x w h s g j)
def gw_d (x : Bool) (w h s g j : Nat) : Nat := gw_sx x w (gw_n x w h s g j) g
/-- a way of D steps: its nodes wn, its directions wd -/
def gw_W (x : Bool) (w h s g D : Nat) (wn wd : Nat → Nat) : Prop :=
  (wn 0 = s) ∧
  (wn D = g) ∧
  (∀ j, j ≤ D → wn j < w * h) ∧
  (∀ i j, i ≤ D → j ≤ D → wn i = wn j → i = j) ∧
  (∀ j, j < D → wd j < 4) ∧
  (∀ j, j < D → me_nb w h (wn j) (wd j) = some (wn (j + 1))) ∧
  (∀ j, j < D → gw_sx x w (wn j) g = wd j) ∧
  (gw_sx x w g g = 4) ∧
  (∀ j, j ≤ D → me_ds w (wn j) g = D - j)
theorem gw_W.w0 {x : Bool} {w h s g D : Nat} {wn wd : Nat → Nat} (hyp : gw_W x w h s g D wn wd) : wn 0 = s := hyp.1
theorem gw_W.wD {x : Bool} {w h s g D : Nat} {wn wd : Nat → Nat} (hyp : gw_W x w h s g D wn wd) : wn D = g := hyp.2.1
theorem gw_W.wl {x : Bool} {w h s g D : Nat} {wn wd : Nat → Nat} (hyp : gw_W x w h s g D wn wd) : ∀ j, j ≤ D → wn j < w * h := hyp.2.2.1
theorem gw_W.wi {x : Bool} {w h s g D : Nat} {wn wd : Nat → Nat} (hyp : gw_W x w h s g D wn wd) : ∀ i j, i ≤ D → j ≤ D → wn i = wn j → i = j := hyp.2.2.2.1
theorem gw_W.w4 {x : Bool} {w h s g D : Nat} {wn wd : Nat → Nat} (hyp : gw_W x w h s g D wn wd) : ∀ j, j < D → wd j < 4 := hyp.2.2.2.2.1
theorem gw_W.wnb {x : Bool} {w h s g D : Nat} {wn wd : Nat → Nat} (hyp : gw_W x w h s g D wn wd) : ∀ j, j < D → me_nb w h (wn j) (wd j) = some (wn (j + 1)) := hyp.2.2.2.2.2.1
theorem gw_W.wsd {x : Bool} {w h s g D : Nat} {wn wd : Nat → Nat} (hyp : gw_W x w h s g D wn wd) : ∀ j, j < D → gw_sx x w (wn j) g = wd j := hyp.2.2.2.2.2.2.1
theorem gw_W.wsD {x : Bool} {w h s g D : Nat} {wn wd : Nat → Nat} (hyp : gw_W x w h s g D wn wd) : gw_sx x w g g = 4 := hyp.2.2.2.2.2.2.2.1
theorem gw_W.wds {x : Bool} {w h s g D : Nat} {wn wd : Nat → Nat} (hyp : gw_W x w h s g D wn wd) : ∀ j, j ≤ D → me_ds w (wn j) g = D - j := hyp.2.2.2.2.2.2.2.2
theorem gw_W.mk {x : Bool} {w h s g D : Nat} {wn wd : Nat → Nat} (w0 : wn 0 = s) (wD : wn D = g) (wl : ∀ j, j ≤ D → wn j < w * h) (wi : ∀ i j, i ≤ D → j ≤ D → wn i = wn j → i = j) (w4 : ∀ j, j < D → wd j < 4) (wnb : ∀ j, j < D → me_nb w h (wn j) (wd j) = some (wn (j + 1))) (wsd : ∀ j, j < D → gw_sx x w (wn j) g = wd j) (wsD : gw_sx x w g g = 4) (wds : ∀ j, j ≤ D → me_ds w (wn j) g = D - j) : gw_W x w h s g D wn wd := ⟨w0, wD, wl, wi, w4, wnb, wsd, wsD, wds⟩
theorem gw_ds0 {w h n g : Nat} (hw : w < 5) (hh : h < 5) (hn : n < w * h) (hg : g < w * h) (h0 : me_ds w n g = 0) : n = g := by
  by_cases e : n = g
  · exact e
  · obtain ⟨-, n', -, -, h3⟩ := gw_next true hw hh hn hg e
    omega
theorem gw_way (x : Bool) {w h s g : Nat} (hw : w < 5) (hh : h < 5) (hs : s < w * h) (hg : g < w * h) : gw_W x w h s g (me_ds w s g) (gw_n x w h s g) (gw_d x w h s g) := by
  have key : ∀ j, j ≤ me_ds w s g → gw_n x w h s g j < w * h ∧ me_ds w (gw_n x w h s g j) g = me_ds w s g - j := by
    intro j
    induction j with
    | zero => intro _; exact ⟨hs, rfl⟩
    | succ j ih =>
      intro hj
      obtain ⟨h1, h2⟩ := ih (by omega)
      have hne : ¬ gw_n x w h s g j = g := fun e => by
        rw [e, (gw_self x hw hh hg).2] at h2
        omega
      obtain ⟨h3, n', h4, h5, h6⟩ := gw_next x hw hh h1 hg hne
      have e : gw_n x w h s g (j + 1) = n' := by
        show (me_nb w h (gw_n x w h s g j) (gw_sx x w (gw_n x w h s g j) g)).getD _ = _
        rw [h4]
        rfl
      rw [e]
      exact ⟨h5, by omega⟩
  have hne : ∀ j, j < me_ds w s g → ¬ gw_n x w h s g j = g := fun j hj e => by
    have h2 := (key j (by omega)).2
    rw [e, (gw_self x hw hh hg).2] at h2
    omega
  refine gw_W.mk rfl ?_ (fun j hj => (key j hj).1) (fun i j hi hj e => ?_) (fun j hj => ?_) (fun j hj => ?_) (fun j hj => rfl) (gw_self x hw hh hg).1 (fun j hj => (key j hj).2)
  · obtain ⟨h1, h2⟩ := key (me_ds w s g) (Nat.le_refl _)
    exact gw_ds0 hw hh h1 hg (by omega)
  · have h1 := (key i hi).2
    have h2 := (key j hj).2
    rw [e] at h1
    omega
  · exact (gw_next x hw hh (key j (by omega)).1 hg (hne j hj)).1
  · obtain ⟨h3, n', h4, h5, h6⟩ := gw_next x hw hh (key j (by omega)).1 hg (hne j hj)
    show me_nb w h (gw_n x w h s g j) (gw_sx x w (gw_n x w h s g j) g) = some ((me_nb w h (gw_n x w h s g j) (gw_sx x w (gw_n x w h s g j) g)).getD _)
    rw [h4]
    rfl
/-- the rows along the way, of the channel c -/
def gw_k (wd : Nat → Nat) (j : Nat) : Nat := match j with
  | 0 => 4
  | j + 1 => me_op (wd j)
def gw_x (c : Nat) (wn wd : Nat → Nat) (j : Nat) : Nat := 5 * (2 * wn j + c) + gw_k wd j
theorem gw_k5 (wd : Nat → Nat) (j : Nat) : gw_k wd j < 5 := by
  cases j with
  | zero => show 4 < 5; decide
  | succ j =>
    have := me_op_lt (wd j)
    show me_op (wd j) < 5
    omega
theorem gw_x10 {c : Nat} (hc : c < 2) (wn wd : Nat → Nat) (j : Nat) : gw_x c wn wd j / 10 = wn j := by
  have := gw_k5 wd j
  unfold gw_x
  omega
theorem gw_xi {x : Bool} {w h s g D c : Nat} {wn wd : Nat → Nat} (hc : c < 2) (hW : gw_W x w h s g D wn wd) {i j : Nat} (hi : i ≤ D) (hj : j ≤ D) (e : gw_x c wn wd i = gw_x c wn wd j) : i = j := by
  refine hW.wi i j hi hj ?_
  rw [← gw_x10 hc wn wd i, ← gw_x10 hc wn wd j, e]
/-! the law's reckoning -/
theorem gw_lnext {w h n g : Nat} (x : Bool) (hw : w < 5) (hh : h < 5) (hn : n < w * h) (hg : g < w * h) (hne : ¬ n = g) (μ : me_M) : f_L_next μ (me_N w) (me_N n) (me_N g) (me_bi x) = some (me_N ((me_nb w h n (gw_sx x w n g)).getD n)) := by
  have h1 : ∀ w, w < 5 → ∀ h, h < 5 → ∀ n, n < w * h → ∀ g, g < w * h → (Nat.beq n g || (decide (f_L_next (fun _ _ _ => 0) (me_N w) (me_N n) (me_N g) 1 = some (me_N ((me_nb w h n (gw_sx true w n g)).getD n))) && decide (f_L_next (fun _ _ _ => 0) (me_N w) (me_N n) (me_N g) 0 = some (me_N ((me_nb w h n (gw_sx false w n g)).getD n))))) = true := by decide +kernel
  have h2 := h1 w hw h hh n hn g hg
  rw [show Nat.beq n g = false by
    cases e : Nat.beq n g with
    | true => exact absurd (Nat.eq_of_beq_eq_true e) hne
    | false => rfl, Bool.false_or, Bool.and_eq_true, decide_eq_true_eq, decide_eq_true_eq] at h2
  cases x
  · exact h2.2
  · exact h2.1
theorem gw_lsteps {w h n g : Nat} (hw : w < 5) (hh : h < 5) (hn : n < w * h) (hg : g < w * h) (μ : me_M) : f_L_steps μ (me_N w) (me_N n) (me_N g) = some (me_N (me_ds w n g)) := by
  have h1 : ∀ w, w < 5 → ∀ h, h < 5 → ∀ n, n < w * h → ∀ g, g < w * h → decide (f_L_steps (fun _ _ _ => 0) (me_N w) (me_N n) (me_N g) = some (me_N (me_ds w n g))) = true := by decide +kernel
  exact of_decide_eq_true (h1 w hw h hh n hn g hg)
theorem gw_and31 (r : Int32) : ¬ (r &&& 2147483647) < 0 := by
  intro h
  rw [Int32.lt_iff_toInt_lt] at h
  have h1 : (r &&& 2147483647).toBitVec = r.toBitVec &&& 2147483647#32 := rfl
  have h2 : (r &&& 2147483647).toInt = (r.toBitVec &&& 2147483647#32).toInt := rfl
  have h3 : (r.toBitVec &&& 2147483647#32).toNat ≤ 2147483647 := by
    rw [BitVec.toNat_and]
    exact Nat.and_le_right
  rw [h2, BitVec.toInt_eq_toNat_of_lt (by omega)] at h
  have h4 : (0 : Int32).toInt = 0 := rfl
  omega
theorem gw_cell {L : Nat} {xs : Nat → Int32} {m : Nat} (hL : L ≤ 260) (hm : m < 1000) (μ : me_M) : ∃ r, f_L_cell L xs μ (me_N m) = some r := by
  unfold f_L_cell
  by_cases h : L ≤ m
  · rw [if_pos (show Int32.ofNat L ≤ me_N m from (me_N_le (by omega) (by omega)).mpr h)]
    exact ⟨_, rfl⟩
  · rw [if_neg (show ¬ Int32.ofNat L ≤ me_N m from fun q => h ((me_N_le (by omega) (by omega)).mp q)), me_gd_n (by omega) (by omega)]
    exact ⟨_, rfl⟩
theorem gw_in {L : Nat} {xs : Nat → Int32} {m n : Nat} (hL : L ≤ 260) (hm : m < 1000) (hn : 0 < n) (hn2 : n < 100000) (μ : me_M) : ∃ k, k < n ∧ f_L_in L xs μ (me_N m) (me_N n) = some (me_N k) := by
  obtain ⟨r, hr⟩ := gw_cell (xs := xs) hL hm μ
  obtain ⟨k, hk, e⟩ := me_N_of (gw_and31 r)
  refine ⟨k % n, Nat.mod_lt _ hn, ?_⟩
  unfold f_L_in
  have hz : me_nz (me_N n) = true := by
    unfold me_nz
    rw [decide_eq_true_eq]
    rw [me_N_0, me_N_inj (by omega) (by omega)]
    omega
  rw [hr, me_bd_s, me_gd_t hz, e, me_N_rem hk (by omega) hn]
/-! pieces of one packet, one behind the other -/
def gp_R (p lo hi : Nat) (l : List (Nat × Nat × Nat)) : Prop := l.map (fun e => (e.1, e.2.1)) = (List.range' lo (hi - lo)).map (fun i => (p, i))
theorem gp_R.len {p lo hi : Nat} {l : List (Nat × Nat × Nat)} (h : gp_R p lo hi l) : l.length = hi - lo := by
  have h1 := congrArg List.length h
  simpa using h1
theorem gp_R.nil {p lo hi : Nat} (h : hi ≤ lo) : gp_R p lo hi [] := by
  unfold gp_R
  rw [show hi - lo = 0 by omega]
  rfl
theorem gp_R.eq_nil {p lo hi : Nat} {l : List (Nat × Nat × Nat)} (h : gp_R p lo hi l) (hh : hi ≤ lo) : l = [] := by
  have := h.len
  exact List.length_eq_zero_iff.mp (by omega)
theorem gp_R.cons {p lo hi : Nat} {l : List (Nat × Nat × Nat)} (h : gp_R p lo hi l) (hh : lo < hi) : ∃ ci t, l = (p, lo, ci) :: t ∧ gp_R p (lo + 1) hi t := by
  have h1 := h.len
  unfold gp_R at h
  obtain ⟨n, hn⟩ : ∃ n, hi - lo = n + 1 := ⟨hi - lo - 1, by omega⟩
  rw [hn, List.range'_succ, List.map_cons] at h
  cases l with
  | nil => cases h
  | cons e t =>
    obtain ⟨e1, e2, e3⟩ := e
    rw [List.map_cons] at h
    injection h with h2 h3
    injection h2 with h4 h5
    have h4 : e1 = p := h4
    have h5 : e2 = lo := h5
    subst h4 h5
    refine ⟨e3, t, rfl, ?_⟩
    unfold gp_R
    rw [h3, show hi - (e2 + 1) = n by omega]
theorem gp_R.snoc {p lo hi c : Nat} {l : List (Nat × Nat × Nat)} (h : gp_R p lo hi l) (hh : lo ≤ hi) : gp_R p lo (hi + 1) (l ++ [(p, hi, c)]) := by
  unfold gp_R at h ⊢
  rw [List.map_append, h, show hi + 1 - lo = (hi - lo) + 1 by omega, List.range'_concat, List.map_append]
  congr 1
  show [(p, hi)] = [(p, lo + 1 * (hi - lo))]
  rw [show lo + 1 * (hi - lo) = hi by omega]
theorem gp_R.mem {p lo hi : Nat} {l : List (Nat × Nat × Nat)} (h : gp_R p lo hi l) {e : Nat × Nat × Nat} (he : e ∈ l) : e.1 = p ∧ lo ≤ e.2.1 ∧ e.2.1 < hi := by
  have h1 : (e.1, e.2.1) ∈ l.map (fun e => (e.1, e.2.1)) := List.mem_map_of_mem he
  rw [h] at h1
  obtain ⟨i, h2, h3⟩ := List.mem_map.mp h1
  rw [List.mem_range'_1] at h2
  injection h3 with h4 h5
  exact ⟨h4.symm, by omega, by omega⟩
