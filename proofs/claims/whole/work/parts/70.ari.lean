/-! NUMBERS: words that are small naturals, or none -/
def me_N (n : Nat) : Int32 := Int32.ofNat n
def me_Op : Option Nat → Int32
  | none => -1
  | some n => me_N n
/-- a chosen place of a function -/
def me_fu {α : Type} (f : Nat → α) (i : Nat) (v : α) : Nat → α := fun j => if j = i then v else f j
theorem me_fu_at {α : Type} {f : Nat → α} {i : Nat} {v : α} : me_fu f i v i = v := if_pos rfl
theorem me_fu_ne {α : Type} {f : Nat → α} {i j : Nat} {v : α} (h : ¬ j = i) : me_fu f i v j = f j := if_neg h
theorem me_fu_ap {α : Type} {f : Nat → α} {i j : Nat} {v : α} : me_fu f i v j = if j = i then v else f j := rfl
theorem me_N_toInt {n : Nat} (h : n < 2147483648) : (me_N n).toInt = (n : Int) := by
  unfold me_N
  exact Int32.toInt_ofNat_small h
theorem me_N_0 : (0 : Int32) = me_N 0 := rfl
theorem me_N_1 : (1 : Int32) = me_N 1 := rfl
theorem me_N_2 : (2 : Int32) = me_N 2 := rfl
theorem me_N_3 : (3 : Int32) = me_N 3 := rfl
theorem me_N_4 : (4 : Int32) = me_N 4 := rfl
theorem me_N_5 : (5 : Int32) = me_N 5 := rfl
theorem me_N_6 : (6 : Int32) = me_N 6 := rfl
theorem me_N_7 : (7 : Int32) = me_N 7 := rfl
theorem me_N_8 : (8 : Int32) = me_N 8 := rfl
theorem me_N_10 : (10 : Int32) = me_N 10 := rfl
theorem me_N_12 : (12 : Int32) = me_N 12 := rfl
theorem me_N_16 : (16 : Int32) = me_N 16 := rfl
theorem me_N_64 : (64 : Int32) = me_N 64 := rfl
theorem me_N_99 : (99 : Int32) = me_N 99 := rfl
theorem me_N_100 : (100 : Int32) = me_N 100 := rfl
theorem me_N_200 : (200 : Int32) = me_N 200 := rfl
theorem me_N_inj {a b : Nat} (ha : a < 2147483648) (hb : b < 2147483648) : (me_N a = me_N b) ↔ a = b := by
  constructor
  · intro h
    have := congrArg Int32.toInt h
    rw [me_N_toInt ha, me_N_toInt hb] at this
    omega
  · rintro rfl
    rfl
theorem me_N_le {a b : Nat} (ha : a < 2147483648) (hb : b < 2147483648) : (me_N a ≤ me_N b) ↔ a ≤ b := by
  rw [Int32.le_iff_toInt_le, me_N_toInt ha, me_N_toInt hb]
  omega
theorem me_N_lt {a b : Nat} (ha : a < 2147483648) (hb : b < 2147483648) : (me_N a < me_N b) ↔ a < b := by
  rw [Int32.lt_iff_toInt_lt, me_N_toInt ha, me_N_toInt hb]
  omega
theorem me_N_add (a b : Nat) : me_N a + me_N b = me_N (a + b) := (Int32.ofNat_add a b).symm
theorem me_N_mul (a b : Nat) : me_N a * me_N b = me_N (a * b) := (Int32.ofNat_mul a b).symm
theorem me_N_ofInt (n : Nat) : Int32.ofInt (n : Int) = me_N n := by
  unfold me_N
  exact Int32.ofInt_eq_ofNat
theorem me_N_sub {a b : Nat} (h : b ≤ a) : me_N a - me_N b = me_N (a - b) := by
  rw [← me_N_ofInt, ← me_N_ofInt, ← Int32.ofInt_sub, ← me_N_ofInt]
  congr 1
  omega
theorem me_N_ix {a : Nat} (h : a < 2147483648) : me_ix (me_N a) = a := by
  show (me_N a).toInt.toNat = a
  rw [me_N_toInt h]
  rfl
theorem me_N_inb {a n : Nat} (h : a < 2147483648) (hn : a < n) : me_inb (me_N a) n = true := by
  unfold me_inb
  rw [Bool.and_eq_true, decide_eq_true_eq, decide_eq_true_eq]
  refine ⟨?_, ?_⟩
  · rw [me_N_0, me_N_le (by omega) h]
    omega
  · show me_ix (me_N a) < n
    rw [me_N_ix h]
    exact hn
theorem me_N_nm1 {a : Nat} (h : a < 2147483648) : ¬ me_N a = -1 := by
  intro q
  have := congrArg Int32.toInt q
  rw [me_N_toInt h, show (-1 : Int32).toInt = -1 from rfl] at this
  omega
theorem me_N_m1n {a : Nat} (h : a < 2147483648) : ¬ -1 = me_N a := fun q => me_N_nm1 h q.symm
theorem me_N_nneg {a : Nat} (h : a < 2147483648) : ¬ me_N a < 0 := by
  rw [me_N_0, me_N_lt h (by omega)]
  omega
theorem me_Op_m1 {o : Option Nat} (h : ∀ n, o = some n → n < 2147483648) : (me_Op o = -1) ↔ o = none := by
  cases o with
  | none => exact ⟨fun _ => rfl, fun _ => rfl⟩
  | some n => exact ⟨fun q => absurd q (me_N_nm1 (h n rfl)), fun q => by cases q⟩
theorem me_N_div {a b : Nat} (ha : a < 2147483648) (hb : b < 2147483648) (h0 : 0 < b) : me_N a / me_N b = me_N (a / b) := by
  have h := @Int32.ofInt_tdiv (a : Int) (b : Int) (by have : Int32.minValue.toInt = -2147483648 := rfl; omega) (by have : Int32.maxValue.toInt = 2147483647 := rfl; omega) (by have : Int32.minValue.toInt = -2147483648 := rfl; omega) (by have : Int32.maxValue.toInt = 2147483647 := rfl; omega)
  rw [me_N_ofInt, me_N_ofInt] at h
  rw [← h, ← me_N_ofInt]
  rfl
theorem me_N_rem {a b : Nat} (ha : a < 2147483648) (hb : b < 2147483648) (h0 : 0 < b) : me_rem (me_N a) (me_N b) = me_N (a % b) := by
  unfold me_rem
  rw [me_N_div ha hb h0, me_N_mul, me_N_sub (Nat.div_mul_le_self a b)]
  congr 1
  have := Nat.mod_add_div a b
  rw [Nat.mul_comm] at this
  omega
theorem me_N_inc (a : Nat) : me_inc (me_N a) 1 = me_N (a + 1) := by
  unfold me_inc
  rw [show Int32.ofInt 1 = me_N 1 from rfl, me_N_add]
theorem me_N_dec {a : Nat} (h : 0 < a) : me_inc (me_N a) (-1) = me_N (a - 1) := by
  have : me_inc (me_N a) (-1) = me_N a - me_N 1 := by
    unfold me_inc
    rw [show Int32.ofInt (-1) = -me_N 1 from rfl, Int32.sub_eq_add_neg]
  rw [this, me_N_sub h]
theorem me_N_dec0 : me_inc (me_N 0) (-1) = -1 := rfl
/-- a word within bounds is a small natural -/
theorem me_N_of {x : Int32} (h : ¬ x < 0) : ∃ n : Nat, n < 2147483648 ∧ x = me_N n := by
  have h0 : 0 ≤ x.toInt := by
    rw [Int32.lt_iff_toInt_lt] at h
    have : (0 : Int32).toInt = 0 := rfl
    omega
  have h1 := Int32.toInt_lt x
  refine ⟨x.toInt.toNat, by omega, ?_⟩
  rw [← me_N_ofInt, Int.toNat_of_nonneg h0, Int32.ofInt_toInt]
theorem me_in_range {x : Int32} {a b : Nat} (hb : b < 2147483648) (h1 : ¬ x < me_N a) (h2 : ¬ me_N b < x) (ha : a < 2147483648) : ∃ n, a ≤ n ∧ n ≤ b ∧ x = me_N n := by
  obtain ⟨n, hn, rfl⟩ := me_N_of (x := x) (by
    intro h
    apply h1
    rw [Int32.lt_iff_toInt_lt] at h ⊢
    rw [me_N_toInt ha]
    have : (0 : Int32).toInt = 0 := rfl
    omega)
  rw [me_N_lt hn ha] at h1
  rw [me_N_lt hb hn] at h2
  exact ⟨n, by omega, by omega, rfl⟩
/-! THE OPTION WORDS, as rows to rewrite with -/
theorem me_gd_t {α : Type} {b : Bool} {k : Option α} (h : b = true) : me_gd b k = k := by subst h; rfl
theorem me_gd_n {α : Type} {a n : Nat} {k : Option α} (h : a < 2147483648) (hn : a < n) : me_gd (me_inb (me_N a) n) k = k := me_gd_t (me_N_inb h hn)
theorem me_bd_s {α β : Type} {a : α} {f : α → Option β} : me_bd (some a) f = f a := rfl
theorem me_b2_s {α β γ : Type} {a : α} {b : β} {f : α → β → Option γ} : me_b2 (some (a, b)) f = f a b := rfl
theorem me_lt_s {α β : Type} {x : α} {f : α → Option β} : me_lt x f = f x := rfl
theorem me_oq_n {α β : Type} {a : Option β} {f : α → Option β} : me_oq none a f = a := rfl
theorem me_oq_s {α β : Type} {i : α} {a : Option β} {f : α → Option β} : me_oq (some i) a f = f i := rfl
theorem me_xb_o {α β : Type} {a : α} {f : α → Option (Except Nat β)} : me_xb (.ok a) f = f a := rfl
theorem me_xb_e {α β : Type} {k : Nat} {f : α → Option (Except Nat β)} : me_xb (.error k) f = some (.error k) := rfl
theorem me_xb2_o {α β : Type} {a : α} {μ : me_M} {f : α → Option (me_M × Except Nat β)} : me_xb2 (.ok a) μ f = f a := rfl
theorem me_xb2_e {α β : Type} {k : Nat} {μ : me_M} {f : α → Option (me_M × Except Nat β)} : me_xb2 (.error k) μ f = some (μ, .error k) := rfl
theorem me_xm_o {α β : Type} {a : α} {f : α → Option β} {g : Nat → Option β} : me_xm (.ok a) f g = f a := rfl
theorem me_xm_e {α β : Type} {k : Nat} {f : α → Option β} {g : Nat → Option β} : me_xm (.error k) f g = g k := rfl
theorem me_up_ap {μ : me_M} {k i j : Nat} {x : Int32} {k' i' j' : Nat} : me_up μ k i j x k' i' j' = if k' = k ∧ i' = i ∧ j' = j then x else μ k' i' j' := rfl
theorem me_up_at {μ : me_M} {k i j : Nat} {x : Int32} : me_up μ k i j x k i j = x := if_pos ⟨rfl, rfl, rfl⟩
theorem me_up_kn {μ : me_M} {k i j : Nat} {x : Int32} {k' i' j' : Nat} (h : ¬ k' = k) : me_up μ k i j x k' i' j' = μ k' i' j' := if_neg fun q => h q.1
theorem me_up_jn {μ : me_M} {k i j : Nat} {x : Int32} {k' i' j' : Nat} (h : ¬ j' = j) : me_up μ k i j x k' i' j' = μ k' i' j' := if_neg fun q => h q.2.2
theorem me_up_in {μ : me_M} {k i j : Nat} {x : Int32} {k' i' j' : Nat} (h : ¬ i' = i) : me_up μ k i j x k' i' j' = μ k' i' j' := if_neg fun q => h q.2.1
theorem me_nar_b0 : vp_nar .boolean 0 = 0 := rfl
theorem me_nar_b1 : vp_nar .boolean 1 = 1 := rfl
