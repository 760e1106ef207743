/-! FROM THE ROWS OF whole that speak of the class alone (taken out by gen/extract.py) -/
def me_N (n : Nat) : Int32 := Int32.ofNat n
def me_Op : Option Nat → Int32
  | none => -1
  | some n => me_N n
/-- a chosen place of a function -/
def me_fu {α : Type} (f : Nat → α) (i : Nat) (v : α) : Nat → α := fun j => if j = i then v else f j
theorem me_fu_at {α : Type} {f : Nat → α} {i : Nat} {v : α} : me_fu f i v i = v := if_pos rfl
theorem me_fu_ne {α : Type} {f : Nat → α} {i j : Nat} {v : α} (h : ¬ j = i) : me_fu f i v j = f j := if_neg h
theorem me_fu_ap {α : Type} {f : Nat → α} {i j : Nat} {v : α} : me_fu f i v j = if j = i then v else f j := rfl
theorem me_N_toInt {n : Nat} (h : n < 2147483648) : (me_N n).toInt = (n : Int) := by
  unfold me_N
  exact Int32.toInt_ofNat_small h
theorem me_N_0 : (0 : Int32) = me_N 0 := rfl
theorem me_N_1 : (1 : Int32) = me_N 1 := rfl
theorem me_N_2 : (2 : Int32) = me_N 2 := rfl
theorem me_N_3 : (3 : Int32) = me_N 3 := rfl
theorem me_N_4 : (4 : Int32) = me_N 4 := rfl
theorem me_N_5 : (5 : Int32) = me_N 5 := rfl
theorem me_N_8 : (8 : Int32) = me_N 8 := rfl
theorem me_N_10 : (10 : Int32) = me_N 10 := rfl
theorem me_N_16 : (16 : Int32) = me_N 16 := rfl
theorem me_N_64 : (64 : Int32) = me_N 64 := rfl
theorem me_N_200 : (200 : Int32) = me_N 200 := rfl
theorem me_N_inj {a b : Nat} (ha : a < 2147483648) (hb : b < 2147483648) : (me_N a = me_N b) ↔ a = b := by
  constructor
  · intro h
    have := congrArg Int32.toInt h
    rw [me_N_toInt ha, me_N_toInt hb] at this
    omega
  · rintro rfl
    rfl
theorem me_N_le {a b : Nat} (ha : a < 2147483648) (hb : b < 2147483648) : (me_N a ≤ me_N b) ↔ a ≤ b := by
  rw [Int32.le_iff_toInt_le, me_N_toInt ha, me_N_toInt hb]
  omega
theorem me_N_lt {a b : Nat} (ha : a < 2147483648) (hb : b < 2147483648) : (me_N a < me_N b) ↔ a < b := by
  rw [Int32.lt_iff_toInt_lt, me_N_toInt ha, me_N_toInt hb]
  omega
theorem me_N_add (a b : Nat) : me_N a + me_N b = me_N (a + b) := (Int32.ofNat_add a b).symm
theorem me_N_mul (a b : Nat) : me_N a * me_N b = me_N (a * b) := (Int32.ofNat_mul a b).symm
theorem me_N_ofInt (n : Nat) : Int32.ofInt (n : Int) = me_N n := by
  unfold me_N
  exact Int32.ofInt_eq_ofNat
theorem me_N_sub {a b : Nat} (h : b ≤ a) : me_N a - me_N b = me_N (a - b) := by
  rw [← me_N_ofInt, ← me_N_ofInt, ← Int32.ofInt_sub, ← me_N_ofInt]
  congr 1
  omega
theorem me_N_ix {a : Nat} (h : a < 2147483648) : me_ix (me_N a) = a := by
  show (me_N a).toInt.toNat = a
  rw [me_N_toInt h]
  rfl
theorem me_N_inb {a n : Nat} (h : a < 2147483648) (hn : a < n) : me_inb (me_N a) n = true := by
  unfold me_inb
  rw [Bool.and_eq_true, decide_eq_true_eq, decide_eq_true_eq]
  refine ⟨?_, ?_⟩
  · rw [me_N_0, me_N_le (by omega) h]
    omega
  · show me_ix (me_N a) < n
    rw [me_N_ix h]
    exact hn
theorem me_N_nm1 {a : Nat} (h : a < 2147483648) : ¬ me_N a = -1 := by
  intro q
  have := congrArg Int32.toInt q
  rw [me_N_toInt h, show (-1 : Int32).toInt = -1 from rfl] at this
  omega
theorem me_N_m1n {a : Nat} (h : a < 2147483648) : ¬ -1 = me_N a := fun q => me_N_nm1 h q.symm
theorem me_N_nneg {a : Nat} (h : a < 2147483648) : ¬ me_N a < 0 := by
  rw [me_N_0, me_N_lt h (by omega)]
  omega
theorem me_Op_m1 {o : Option Nat} (h : ∀ n, o = some n → n < 2147483648) : (me_Op o = -1) ↔ o = none := by
  cases o with
  | none => exact ⟨fun _ => rfl, fun _ => rfl⟩
  | some n => exact ⟨fun q => absurd q (me_N_nm1 (h n rfl)), fun q => by cases q⟩
theorem me_N_div {a b : Nat} (ha : a < 2147483648) (hb : b < 2147483648) (h0 : 0 < b) : me_N a / me_N b = me_N (a / b) := by
  have h := @Int32.ofInt_tdiv (a : Int) (b : Int) (by have : Int32.minValue.toInt = -2147483648 := rfl; omega) (by have : Int32.maxValue.toInt = 2147483647 := rfl; omega) (by have : Int32.minValue.toInt = -2147483648 := rfl; omega) (by have : Int32.maxValue.toInt = 2147483647 := rfl; omega)
  rw [me_N_ofInt, me_N_ofInt] at h
  rw [← h, ← me_N_ofInt]
  rfl
theorem me_N_rem {a b : Nat} (ha : a < 2147483648) (hb : b < 2147483648) (h0 : 0 < b) : me_rem (me_N a) (me_N b) = me_N (a % b) := by
  unfold me_rem
  rw [me_N_div ha hb h0, me_N_mul, me_N_sub (Nat.div_mul_le_self a b)]
  congr 1
  have := Nat.mod_add_div a b
  rw [Nat.mul_comm] at this
  omega
theorem me_N_inc (a : Nat) : me_inc (me_N a) 1 = me_N (a + 1) := by
  unfold me_inc
  rw [show Int32.ofInt 1 = me_N 1 from rfl, me_N_add]
theorem me_N_dec {a : Nat} (h : 0 < a) : me_inc (me_N a) (-1) = me_N (a - 1) := by
  have : me_inc (me_N a) (-1) = me_N a - me_N 1 := by
    unfold me_inc
    rw [show Int32.ofInt (-1) = -me_N 1 from rfl, Int32.sub_eq_add_neg]
  rw [this, me_N_sub h]
/-- a word within bounds is a small natural -/
theorem me_N_of {x : Int32} (h : ¬ x < 0) : ∃ n : Nat, n < 2147483648 ∧ x = me_N n := by
  have h0 : 0 ≤ x.toInt := by
    rw [Int32.lt_iff_toInt_lt] at h
    have : (0 : Int32).toInt = 0 := rfl
    omega
  have h1 := Int32.toInt_lt x
  refine ⟨x.toInt.toNat, by omega, ?_⟩
  rw [← me_N_ofInt, Int.toNat_of_nonneg h0, Int32.ofInt_toInt]
theorem me_in_range {x : Int32} {a b : Nat} (hb : b < 2147483648) (h1 : ¬ x < me_N a) (h2 : ¬ me_N b < x) (ha : a < 2147483648) : ∃ n, a ≤ n ∧ n ≤ b ∧ x = me_N n := by
  obtain ⟨n, hn, rfl⟩ := me_N_of (x := x) (by
    intro h
    apply h1
    rw [Int32.lt_iff_toInt_lt] at h ⊢
    rw [me_N_toInt ha]
    have : (0 : Int32).toInt = 0 := rfl
    omega)
  rw [me_N_lt hn ha] at h1
  rw [me_N_lt hb hn] at h2
  exact ⟨n, by omega, by omega, rfl⟩
theorem me_gd_t {α : Type} {b : Bool} {k : Option α} (h : b = true) : me_gd b k = k := by subst h; rfl
theorem me_gd_n {α : Type} {a n : Nat} {k : Option α} (h : a < 2147483648) (hn : a < n) : me_gd (me_inb (me_N a) n) k = k := me_gd_t (me_N_inb h hn)
theorem me_bd_s {α β : Type} {a : α} {f : α → Option β} : me_bd (some a) f = f a := rfl
theorem me_b2_s {α β γ : Type} {a : α} {b : β} {f : α → β → Option γ} : me_b2 (some (a, b)) f = f a b := rfl
theorem me_lt_s {α β : Type} {x : α} {f : α → Option β} : me_lt x f = f x := rfl
theorem me_oq_n {α β : Type} {a : Option β} {f : α → Option β} : me_oq none a f = a := rfl
theorem me_oq_s {α β : Type} {i : α} {a : Option β} {f : α → Option β} : me_oq (some i) a f = f i := rfl
theorem me_xb_o {α β : Type} {a : α} {f : α → Option (Except Nat β)} : me_xb (.ok a) f = f a := rfl
theorem me_xb_e {α β : Type} {k : Nat} {f : α → Option (Except Nat β)} : me_xb (.error k) f = some (.error k) := rfl
theorem me_xb2_o {α β : Type} {a : α} {μ : me_M} {f : α → Option (me_M × Except Nat β)} : me_xb2 (.ok a) μ f = f a := rfl
theorem me_xb2_e {α β : Type} {k : Nat} {μ : me_M} {f : α → Option (me_M × Except Nat β)} : me_xb2 (.error k) μ f = some (μ, .error k) := rfl
theorem me_xm_o {α β : Type} {a : α} {f : α → Option β} {g : Nat → Option β} : me_xm (.ok a) f g = f a := rfl
theorem me_xm_e {α β : Type} {k : Nat} {f : α → Option β} {g : Nat → Option β} : me_xm (.error k) f g = g k := rfl
theorem me_up_ap {μ : me_M} {k i j : Nat} {x : Int32} {k' i' j' : Nat} : me_up μ k i j x k' i' j' = if k' = k ∧ i' = i ∧ j' = j then x else μ k' i' j' := rfl
theorem me_up_at {μ : me_M} {k i j : Nat} {x : Int32} : me_up μ k i j x k i j = x := if_pos ⟨rfl, rfl, rfl⟩
theorem me_up_kn {μ : me_M} {k i j : Nat} {x : Int32} {k' i' j' : Nat} (h : ¬ k' = k) : me_up μ k i j x k' i' j' = μ k' i' j' := if_neg fun q => h q.1
theorem me_up_jn {μ : me_M} {k i j : Nat} {x : Int32} {k' i' j' : Nat} (h : ¬ j' = j) : me_up μ k i j x k' i' j' = μ k' i' j' := if_neg fun q => h q.2.2
theorem me_up_in {μ : me_M} {k i j : Nat} {x : Int32} {k' i' j' : Nat} (h : ¬ i' = i) : me_up μ k i j x k' i' j' = μ k' i' j' := if_neg fun q => h q.2.1
theorem me_nar_b0 : vp_nar .boolean 0 = 0 := rfl
theorem me_nar_b1 : vp_nar .boolean 1 = 1 := rfl
def me_S : Type := (Nat → (Nat)) × (Nat → (Int32)) × (Nat → (Nat → Int32)) × (Nat → (Nat → Nat)) × (Nat → (Nat → Option Nat)) × (Nat → (Nat → List (Nat × Nat × Nat))) × (Nat → (Nat → Nat → Int32)) × (Nat → (Nat → Bool)) × (Nat → (Nat → Nat → Nat))
def me_S.w (a : me_S) : Nat := a.1 0
def me_S.h (a : me_S) : Nat := a.1 1
def me_S.rp (a : me_S) : Nat := a.1 2
def me_S.wy (a : me_S) : Int32 := a.2.1 0
def me_S.bt (a : me_S) : Nat := a.1 3
def me_S.np (a : me_S) : Nat := a.1 4
def me_S.ow (a : me_S) : Nat := a.1 5
def me_S.kd (a : me_S) : Nat → Int32 := a.2.2.1 0
def me_S.st (a : me_S) : Nat → Int32 := a.2.2.1 1
def me_S.sr (a : me_S) : Nat → Nat := a.2.2.2.1 0
def me_S.gl (a : me_S) : Nat → Nat := a.2.2.2.1 1
def me_S.wd (a : me_S) : Nat → Int32 := a.2.2.1 2
def me_S.bo (a : me_S) : Nat → Nat := a.2.2.2.1 2
def me_S.pt (a : me_S) : Nat → Nat := a.2.2.2.1 3
def me_S.tk (a : me_S) : Nat → Nat := a.2.2.2.1 4
def me_S.hd (a : me_S) : Nat → Option Nat := a.2.2.2.2.1 0
def me_S.ma (a : me_S) : Nat → Nat := a.2.2.2.1 5
def me_S.dn (a : me_S) : Nat → Option Nat := a.2.2.2.2.1 1
def me_S.pl (a : me_S) : Nat → Nat := a.2.2.2.1 6
def me_S.ad (a : me_S) : Nat → Int32 := a.2.2.1 3
def me_S.an (a : me_S) : Nat → Option Nat := a.2.2.2.2.1 2
def me_S.q (a : me_S) : Nat → List (Nat × Nat × Nat) := a.2.2.2.2.2.1 0
def me_S.ro (a : me_S) : Nat → Option Nat := a.2.2.2.2.1 3
def me_S.rh (a : me_S) : Nat → Option Nat := a.2.2.2.2.1 4
def me_S.rg (a : me_S) : Nat → Nat := a.2.2.2.1 7
def me_S.lr (a : me_S) : Nat → Nat := a.2.2.2.1 8
def me_S.fp (a : me_S) : Nat → Nat := a.2.2.2.1 9
def me_S.fl (a : me_S) : Nat → Nat → Int32 := a.2.2.2.2.2.2.1 0
def me_S.aw (a : me_S) : Nat → Bool := a.2.2.2.2.2.2.2.1 0
def me_S.mm (a : me_S) : Nat → Nat → Int32 := a.2.2.2.2.2.2.1 1
def me_S.sk (a : me_S) : Nat → Nat → Int32 := a.2.2.2.2.2.2.1 2
def me_S.dp (a : me_S) : Nat → Nat := a.2.2.2.1 10
def me_S.nm (a : me_S) : Nat → Nat → Int32 := a.2.2.2.2.2.2.1 3
def me_S.nu (a : me_S) : Nat → Nat → Int32 := a.2.2.2.2.2.2.1 4
def me_S.ln (a : me_S) : Nat → Nat := a.2.2.2.1 11
def me_S.ca (a : me_S) : Nat → Nat := a.2.2.2.1 12
def me_S.co (a : me_S) : Nat → Int32 := a.2.2.1 4
def me_S.fa (a : me_S) : Nat → Int32 := a.2.2.1 5
def me_S.nt (a : me_S) : Nat := a.1 6
def me_S.tn (a : me_S) : Nat → Nat := a.2.2.2.1 13
def me_S.tr (a : me_S) : Nat → Nat → Nat := a.2.2.2.2.2.2.2.2 0
def me_S.s_rp (a : me_S) (v : Nat) : me_S := (me_fu a.1 2 v, a.2.1, a.2.2.1, a.2.2.2.1, a.2.2.2.2.1, a.2.2.2.2.2.1, a.2.2.2.2.2.2.1, a.2.2.2.2.2.2.2.1, a.2.2.2.2.2.2.2.2)
def me_S.s_wy (a : me_S) (v : Int32) : me_S := (a.1, me_fu a.2.1 0 v, a.2.2.1, a.2.2.2.1, a.2.2.2.2.1, a.2.2.2.2.2.1, a.2.2.2.2.2.2.1, a.2.2.2.2.2.2.2.1, a.2.2.2.2.2.2.2.2)
def me_S.s_bt (a : me_S) (v : Nat) : me_S := (me_fu a.1 3 v, a.2.1, a.2.2.1, a.2.2.2.1, a.2.2.2.2.1, a.2.2.2.2.2.1, a.2.2.2.2.2.2.1, a.2.2.2.2.2.2.2.1, a.2.2.2.2.2.2.2.2)
def me_S.s_np (a : me_S) (v : Nat) : me_S := (me_fu a.1 4 v, a.2.1, a.2.2.1, a.2.2.2.1, a.2.2.2.2.1, a.2.2.2.2.2.1, a.2.2.2.2.2.2.1, a.2.2.2.2.2.2.2.1, a.2.2.2.2.2.2.2.2)
def me_S.s_ow (a : me_S) (v : Nat) : me_S := (me_fu a.1 5 v, a.2.1, a.2.2.1, a.2.2.2.1, a.2.2.2.2.1, a.2.2.2.2.2.1, a.2.2.2.2.2.2.1, a.2.2.2.2.2.2.2.1, a.2.2.2.2.2.2.2.2)
def me_S.s_kd (a : me_S) (v : Nat → Int32) : me_S := (a.1, a.2.1, me_fu a.2.2.1 0 v, a.2.2.2.1, a.2.2.2.2.1, a.2.2.2.2.2.1, a.2.2.2.2.2.2.1, a.2.2.2.2.2.2.2.1, a.2.2.2.2.2.2.2.2)
def me_S.s_st (a : me_S) (v : Nat → Int32) : me_S := (a.1, a.2.1, me_fu a.2.2.1 1 v, a.2.2.2.1, a.2.2.2.2.1, a.2.2.2.2.2.1, a.2.2.2.2.2.2.1, a.2.2.2.2.2.2.2.1, a.2.2.2.2.2.2.2.2)
def me_S.s_sr (a : me_S) (v : Nat → Nat) : me_S := (a.1, a.2.1, a.2.2.1, me_fu a.2.2.2.1 0 v, a.2.2.2.2.1, a.2.2.2.2.2.1, a.2.2.2.2.2.2.1, a.2.2.2.2.2.2.2.1, a.2.2.2.2.2.2.2.2)
def me_S.s_gl (a : me_S) (v : Nat → Nat) : me_S := (a.1, a.2.1, a.2.2.1, me_fu a.2.2.2.1 1 v, a.2.2.2.2.1, a.2.2.2.2.2.1, a.2.2.2.2.2.2.1, a.2.2.2.2.2.2.2.1, a.2.2.2.2.2.2.2.2)
def me_S.s_wd (a : me_S) (v : Nat → Int32) : me_S := (a.1, a.2.1, me_fu a.2.2.1 2 v, a.2.2.2.1, a.2.2.2.2.1, a.2.2.2.2.2.1, a.2.2.2.2.2.2.1, a.2.2.2.2.2.2.2.1, a.2.2.2.2.2.2.2.2)
def me_S.s_bo (a : me_S) (v : Nat → Nat) : me_S := (a.1, a.2.1, a.2.2.1, me_fu a.2.2.2.1 2 v, a.2.2.2.2.1, a.2.2.2.2.2.1, a.2.2.2.2.2.2.1, a.2.2.2.2.2.2.2.1, a.2.2.2.2.2.2.2.2)
def me_S.s_pt (a : me_S) (v : Nat → Nat) : me_S := (a.1, a.2.1, a.2.2.1, me_fu a.2.2.2.1 3 v, a.2.2.2.2.1, a.2.2.2.2.2.1, a.2.2.2.2.2.2.1, a.2.2.2.2.2.2.2.1, a.2.2.2.2.2.2.2.2)
def me_S.s_tk (a : me_S) (v : Nat → Nat) : me_S := (a.1, a.2.1, a.2.2.1, me_fu a.2.2.2.1 4 v, a.2.2.2.2.1, a.2.2.2.2.2.1, a.2.2.2.2.2.2.1, a.2.2.2.2.2.2.2.1, a.2.2.2.2.2.2.2.2)
def me_S.s_hd (a : me_S) (v : Nat → Option Nat) : me_S := (a.1, a.2.1, a.2.2.1, a.2.2.2.1, me_fu a.2.2.2.2.1 0 v, a.2.2.2.2.2.1, a.2.2.2.2.2.2.1, a.2.2.2.2.2.2.2.1, a.2.2.2.2.2.2.2.2)
def me_S.s_ma (a : me_S) (v : Nat → Nat) : me_S := (a.1, a.2.1, a.2.2.1, me_fu a.2.2.2.1 5 v, a.2.2.2.2.1, a.2.2.2.2.2.1, a.2.2.2.2.2.2.1, a.2.2.2.2.2.2.2.1, a.2.2.2.2.2.2.2.2)
def me_S.s_dn (a : me_S) (v : Nat → Option Nat) : me_S := (a.1, a.2.1, a.2.2.1, a.2.2.2.1, me_fu a.2.2.2.2.1 1 v, a.2.2.2.2.2.1, a.2.2.2.2.2.2.1, a.2.2.2.2.2.2.2.1, a.2.2.2.2.2.2.2.2)
def me_S.s_pl (a : me_S) (v : Nat → Nat) : me_S := (a.1, a.2.1, a.2.2.1, me_fu a.2.2.2.1 6 v, a.2.2.2.2.1, a.2.2.2.2.2.1, a.2.2.2.2.2.2.1, a.2.2.2.2.2.2.2.1, a.2.2.2.2.2.2.2.2)
def me_S.s_ad (a : me_S) (v : Nat → Int32) : me_S := (a.1, a.2.1, me_fu a.2.2.1 3 v, a.2.2.2.1, a.2.2.2.2.1, a.2.2.2.2.2.1, a.2.2.2.2.2.2.1, a.2.2.2.2.2.2.2.1, a.2.2.2.2.2.2.2.2)
def me_S.s_an (a : me_S) (v : Nat → Option Nat) : me_S := (a.1, a.2.1, a.2.2.1, a.2.2.2.1, me_fu a.2.2.2.2.1 2 v, a.2.2.2.2.2.1, a.2.2.2.2.2.2.1, a.2.2.2.2.2.2.2.1, a.2.2.2.2.2.2.2.2)
def me_S.s_q (a : me_S) (v : Nat → List (Nat × Nat × Nat)) : me_S := (a.1, a.2.1, a.2.2.1, a.2.2.2.1, a.2.2.2.2.1, me_fu a.2.2.2.2.2.1 0 v, a.2.2.2.2.2.2.1, a.2.2.2.2.2.2.2.1, a.2.2.2.2.2.2.2.2)
def me_S.s_ro (a : me_S) (v : Nat → Option Nat) : me_S := (a.1, a.2.1, a.2.2.1, a.2.2.2.1, me_fu a.2.2.2.2.1 3 v, a.2.2.2.2.2.1, a.2.2.2.2.2.2.1, a.2.2.2.2.2.2.2.1, a.2.2.2.2.2.2.2.2)
def me_S.s_rh (a : me_S) (v : Nat → Option Nat) : me_S := (a.1, a.2.1, a.2.2.1, a.2.2.2.1, me_fu a.2.2.2.2.1 4 v, a.2.2.2.2.2.1, a.2.2.2.2.2.2.1, a.2.2.2.2.2.2.2.1, a.2.2.2.2.2.2.2.2)
def me_S.s_rg (a : me_S) (v : Nat → Nat) : me_S := (a.1, a.2.1, a.2.2.1, me_fu a.2.2.2.1 7 v, a.2.2.2.2.1, a.2.2.2.2.2.1, a.2.2.2.2.2.2.1, a.2.2.2.2.2.2.2.1, a.2.2.2.2.2.2.2.2)
def me_S.s_lr (a : me_S) (v : Nat → Nat) : me_S := (a.1, a.2.1, a.2.2.1, me_fu a.2.2.2.1 8 v, a.2.2.2.2.1, a.2.2.2.2.2.1, a.2.2.2.2.2.2.1, a.2.2.2.2.2.2.2.1, a.2.2.2.2.2.2.2.2)
def me_S.s_fp (a : me_S) (v : Nat → Nat) : me_S := (a.1, a.2.1, a.2.2.1, me_fu a.2.2.2.1 9 v, a.2.2.2.2.1, a.2.2.2.2.2.1, a.2.2.2.2.2.2.1, a.2.2.2.2.2.2.2.1, a.2.2.2.2.2.2.2.2)
def me_S.s_aw (a : me_S) (v : Nat → Bool) : me_S := (a.1, a.2.1, a.2.2.1, a.2.2.2.1, a.2.2.2.2.1, a.2.2.2.2.2.1, a.2.2.2.2.2.2.1, me_fu a.2.2.2.2.2.2.2.1 0 v, a.2.2.2.2.2.2.2.2)
def me_S.s_mm (a : me_S) (v : Nat → Nat → Int32) : me_S := (a.1, a.2.1, a.2.2.1, a.2.2.2.1, a.2.2.2.2.1, a.2.2.2.2.2.1, me_fu a.2.2.2.2.2.2.1 1 v, a.2.2.2.2.2.2.2.1, a.2.2.2.2.2.2.2.2)
def me_S.s_ca (a : me_S) (v : Nat → Nat) : me_S := (a.1, a.2.1, a.2.2.1, me_fu a.2.2.2.1 12 v, a.2.2.2.2.1, a.2.2.2.2.2.1, a.2.2.2.2.2.2.1, a.2.2.2.2.2.2.2.1, a.2.2.2.2.2.2.2.2)
def me_S.s_co (a : me_S) (v : Nat → Int32) : me_S := (a.1, a.2.1, me_fu a.2.2.1 4 v, a.2.2.2.1, a.2.2.2.2.1, a.2.2.2.2.2.1, a.2.2.2.2.2.2.1, a.2.2.2.2.2.2.2.1, a.2.2.2.2.2.2.2.2)
/-- the node behind a link -/
def me_nb (w h n d : Nat) : Option Nat :=
  match d with
  | 0 => if n % w + 1 < w then some (n + 1) else none
  | 1 => if 0 < n % w then some (n - 1) else none
  | 2 => if n / w + 1 < h then some (n + w) else none
  | 3 => if 0 < n / w then some (n - w) else none
  | _ => none
def me_bi (b : Bool) : Int32 := if b = true then 1 else 0
/-- a function of two places, written at one -/
def me_fu2 {α : Type} (f : Nat → Nat → α) (i j : Nat) (v : α) : Nat → Nat → α := fun i' j' => if i' = i ∧ j' = j then v else f i' j'
/-- what the class's cells hold -/
def me_RC (a : me_S) (μ : me_M) : Prop :=
  (μ 0 0 9 = me_N a.rp) ∧
  (μ 1 0 4 = me_N (a.w * a.h)) ∧
  (∀ n d, n < a.w * a.h → d < 4 → μ 2 0 (n * 4 + d) = me_Op (me_nb a.w a.h n d)) ∧
  (∀ n d, n < 16 → d < 4 → μ 3 0 (n * 4 + d) = a.fl n d) ∧
  (∀ n, n < a.w * a.h → μ 4 0 n = me_N (n % a.w)) ∧
  (∀ n, n < a.w * a.h → μ 5 0 n = me_N (n / a.w)) ∧
  (μ 6 0 1 = me_N a.np) ∧
  (μ 6 0 2 = me_N a.ow) ∧
  (∀ i, i < 200 → μ 8 i 0 = me_N i) ∧
  (∀ i, μ 8 i 1 = a.kd i) ∧
  (∀ i, μ 8 i 2 = a.st i) ∧
  (∀ i, μ 8 i 3 = me_N (a.sr i)) ∧
  (∀ i, μ 8 i 4 = me_N (a.gl i)) ∧
  (∀ i, μ 8 i 5 = a.wd i) ∧
  (∀ i, i < a.np → μ 8 i 6 = me_N (a.bo i + 1)) ∧
  (∀ i, μ 8 i 7 = me_N (a.pt i)) ∧
  (∀ i, μ 8 i 8 = me_N (a.tk i)) ∧
  (∀ i, i < a.np → μ 8 i 9 = me_Op (a.hd i)) ∧
  (∀ i, μ 8 i 10 = me_N (a.ma i)) ∧
  (∀ i, i < a.np → μ 8 i 11 = me_Op (a.dn i)) ∧
  (∀ i, μ 8 i 12 = me_N (a.pl i)) ∧
  (∀ i, μ 8 i 13 = a.ad i) ∧
  (∀ i, i < a.np → μ 8 i 14 = me_Op (a.an i)) ∧
  (μ 9 0 3 = me_N a.nt) ∧
  (∀ i, i < a.nt → μ 10 0 i = me_N (a.tn i)) ∧
  (∀ i j, i < 8 → j < 8 → μ 11 0 (i * 8 + j) = me_N (a.tr i j)) ∧
  (∀ n, n < 16 → μ 13 n 3 = me_bi (a.aw n)) ∧
  (∀ n k, n < 16 → k < 10 → μ 15 n k = me_N ((a.lr (10 * n + k) + 1) % 5)) ∧
  (∀ n c, n < 16 → c < 2 → μ 16 n c = me_N (a.fp (2 * n + c))) ∧
  (∀ r, r < 160 → μ 17 r 3 = me_N (a.q r).length) ∧
  (∀ r, r < 160 → μ 17 r 4 = me_N a.rp) ∧
  (∀ r, r < 160 → μ 17 r 5 = me_Op (a.ro r)) ∧
  (∀ r, r < 160 → μ 17 r 6 = me_Op (a.rh r)) ∧
  (∀ r, r < 160 → μ 17 r 7 = me_N (a.rg r)) ∧
  (∀ r j e, r < 160 → (a.q r)[j]? = some e → μ 18 r j = me_N e.1) ∧
  (∀ r j e, r < 160 → (a.q r)[j]? = some e → μ 19 r j = me_N e.2.1) ∧
  (∀ r j e, r < 160 → (a.q r)[j]? = some e → μ 20 r j = me_N e.2.2) ∧
  (∀ n, n < 16 → μ 22 n 4 = me_N (a.dp n)) ∧
  (∀ n, n < 16 → μ 22 n 5 = me_N (a.ln n)) ∧
  (∀ n, n < 16 → μ 22 n 6 = me_N (a.ca n)) ∧
  (∀ n, n < 16 → μ 22 n 7 = a.co n) ∧
  (∀ n, n < 16 → μ 22 n 8 = a.fa n) ∧
  (∀ n j, n < 16 → j < 8 → μ 23 n j = a.mm n j) ∧
  (∀ n j, n < 16 → j < a.dp n → μ 24 n j = a.sk n j) ∧
  (∀ n j, n < 16 → j < a.ln n → μ 25 n j = a.nm n j) ∧
  (∀ n j, n < 16 → j < a.ln n → μ 26 n j = a.nu n j) ∧
  (μ 27 0 4 = a.wy) ∧
  (μ 30 0 5 = me_N a.bt)
theorem me_RC.rp {a : me_S} {μ : me_M} (hyp : me_RC a μ) : μ 0 0 9 = me_N a.rp := hyp.1
theorem me_RC.nn {a : me_S} {μ : me_M} (hyp : me_RC a μ) : μ 1 0 4 = me_N (a.w * a.h) := hyp.2.1
theorem me_RC.ah {a : me_S} {μ : me_M} (hyp : me_RC a μ) : ∀ n d, n < a.w * a.h → d < 4 → μ 2 0 (n * 4 + d) = me_Op (me_nb a.w a.h n d) := hyp.2.2.1
theorem me_RC.fl {a : me_S} {μ : me_M} (hyp : me_RC a μ) : ∀ n d, n < 16 → d < 4 → μ 3 0 (n * 4 + d) = a.fl n d := hyp.2.2.2.1
theorem me_RC.cl {a : me_S} {μ : me_M} (hyp : me_RC a μ) : ∀ n, n < a.w * a.h → μ 4 0 n = me_N (n % a.w) := hyp.2.2.2.2.1
theorem me_RC.li {a : me_S} {μ : me_M} (hyp : me_RC a μ) : ∀ n, n < a.w * a.h → μ 5 0 n = me_N (n / a.w) := hyp.2.2.2.2.2.1
theorem me_RC.np {a : me_S} {μ : me_M} (hyp : me_RC a μ) : μ 6 0 1 = me_N a.np := hyp.2.2.2.2.2.2.1
theorem me_RC.ow {a : me_S} {μ : me_M} (hyp : me_RC a μ) : μ 6 0 2 = me_N a.ow := hyp.2.2.2.2.2.2.2.1
theorem me_RC.p0 {a : me_S} {μ : me_M} (hyp : me_RC a μ) : ∀ i, i < 200 → μ 8 i 0 = me_N i := hyp.2.2.2.2.2.2.2.2.1
theorem me_RC.kd {a : me_S} {μ : me_M} (hyp : me_RC a μ) : ∀ i, μ 8 i 1 = a.kd i := hyp.2.2.2.2.2.2.2.2.2.1
theorem me_RC.st {a : me_S} {μ : me_M} (hyp : me_RC a μ) : ∀ i, μ 8 i 2 = a.st i := hyp.2.2.2.2.2.2.2.2.2.2.1
theorem me_RC.sr {a : me_S} {μ : me_M} (hyp : me_RC a μ) : ∀ i, μ 8 i 3 = me_N (a.sr i) := hyp.2.2.2.2.2.2.2.2.2.2.2.1
theorem me_RC.gl {a : me_S} {μ : me_M} (hyp : me_RC a μ) : ∀ i, μ 8 i 4 = me_N (a.gl i) := hyp.2.2.2.2.2.2.2.2.2.2.2.2.1
theorem me_RC.wd {a : me_S} {μ : me_M} (hyp : me_RC a μ) : ∀ i, μ 8 i 5 = a.wd i := hyp.2.2.2.2.2.2.2.2.2.2.2.2.2.1
theorem me_RC.bo {a : me_S} {μ : me_M} (hyp : me_RC a μ) : ∀ i, i < a.np → μ 8 i 6 = me_N (a.bo i + 1) := hyp.2.2.2.2.2.2.2.2.2.2.2.2.2.2.1
theorem me_RC.pt {a : me_S} {μ : me_M} (hyp : me_RC a μ) : ∀ i, μ 8 i 7 = me_N (a.pt i) := hyp.2.2.2.2.2.2.2.2.2.2.2.2.2.2.2.1
theorem me_RC.tk {a : me_S} {μ : me_M} (hyp : me_RC a μ) : ∀ i, μ 8 i 8 = me_N (a.tk i) := hyp.2.2.2.2.2.2.2.2.2.2.2.2.2.2.2.2.1
theorem me_RC.hd {a : me_S} {μ : me_M} (hyp : me_RC a μ) : ∀ i, i < a.np → μ 8 i 9 = me_Op (a.hd i) := hyp.2.2.2.2.2.2.2.2.2.2.2.2.2.2.2.2.2.1
theorem me_RC.ma {a : me_S} {μ : me_M} (hyp : me_RC a μ) : ∀ i, μ 8 i 10 = me_N (a.ma i) := hyp.2.2.2.2.2.2.2.2.2.2.2.2.2.2.2.2.2.2.1
theorem me_RC.dn {a : me_S} {μ : me_M} (hyp : me_RC a μ) : ∀ i, i < a.np → μ 8 i 11 = me_Op (a.dn i) := hyp.2.2.2.2.2.2.2.2.2.2.2.2.2.2.2.2.2.2.2.1
theorem me_RC.pl {a : me_S} {μ : me_M} (hyp : me_RC a μ) : ∀ i, μ 8 i 12 = me_N (a.pl i) := hyp.2.2.2.2.2.2.2.2.2.2.2.2.2.2.2.2.2.2.2.2.1
theorem me_RC.ad {a : me_S} {μ : me_M} (hyp : me_RC a μ) : ∀ i, μ 8 i 13 = a.ad i := hyp.2.2.2.2.2.2.2.2.2.2.2.2.2.2.2.2.2.2.2.2.2.1
theorem me_RC.an {a : me_S} {μ : me_M} (hyp : me_RC a μ) : ∀ i, i < a.np → μ 8 i 14 = me_Op (a.an i) := hyp.2.2.2.2.2.2.2.2.2.2.2.2.2.2.2.2.2.2.2.2.2.2.1
theorem me_RC.nt {a : me_S} {μ : me_M} (hyp : me_RC a μ) : μ 9 0 3 = me_N a.nt := hyp.2.2.2.2.2.2.2.2.2.2.2.2.2.2.2.2.2.2.2.2.2.2.2.1
theorem me_RC.tn {a : me_S} {μ : me_M} (hyp : me_RC a μ) : ∀ i, i < a.nt → μ 10 0 i = me_N (a.tn i) := hyp.2.2.2.2.2.2.2.2.2.2.2.2.2.2.2.2.2.2.2.2.2.2.2.2.1
theorem me_RC.tr {a : me_S} {μ : me_M} (hyp : me_RC a μ) : ∀ i j, i < 8 → j < 8 → μ 11 0 (i * 8 + j) = me_N (a.tr i j) := hyp.2.2.2.2.2.2.2.2.2.2.2.2.2.2.2.2.2.2.2.2.2.2.2.2.2.1
theorem me_RC.aw {a : me_S} {μ : me_M} (hyp : me_RC a μ) : ∀ n, n < 16 → μ 13 n 3 = me_bi (a.aw n) := hyp.2.2.2.2.2.2.2.2.2.2.2.2.2.2.2.2.2.2.2.2.2.2.2.2.2.2.1
theorem me_RC.lr {a : me_S} {μ : me_M} (hyp : me_RC a μ) : ∀ n k, n < 16 → k < 10 → μ 15 n k = me_N ((a.lr (10 * n + k) + 1) % 5) := hyp.2.2.2.2.2.2.2.2.2.2.2.2.2.2.2.2.2.2.2.2.2.2.2.2.2.2.2.1
theorem me_RC.fp {a : me_S} {μ : me_M} (hyp : me_RC a μ) : ∀ n c, n < 16 → c < 2 → μ 16 n c = me_N (a.fp (2 * n + c)) := hyp.2.2.2.2.2.2.2.2.2.2.2.2.2.2.2.2.2.2.2.2.2.2.2.2.2.2.2.2.1
theorem me_RC.qn {a : me_S} {μ : me_M} (hyp : me_RC a μ) : ∀ r, r < 160 → μ 17 r 3 = me_N (a.q r).length := hyp.2.2.2.2.2.2.2.2.2.2.2.2.2.2.2.2.2.2.2.2.2.2.2.2.2.2.2.2.2.1
theorem me_RC.qp {a : me_S} {μ : me_M} (hyp : me_RC a μ) : ∀ r, r < 160 → μ 17 r 4 = me_N a.rp := hyp.2.2.2.2.2.2.2.2.2.2.2.2.2.2.2.2.2.2.2.2.2.2.2.2.2.2.2.2.2.2.1
theorem me_RC.ro {a : me_S} {μ : me_M} (hyp : me_RC a μ) : ∀ r, r < 160 → μ 17 r 5 = me_Op (a.ro r) := hyp.2.2.2.2.2.2.2.2.2.2.2.2.2.2.2.2.2.2.2.2.2.2.2.2.2.2.2.2.2.2.2.1
theorem me_RC.rh {a : me_S} {μ : me_M} (hyp : me_RC a μ) : ∀ r, r < 160 → μ 17 r 6 = me_Op (a.rh r) := hyp.2.2.2.2.2.2.2.2.2.2.2.2.2.2.2.2.2.2.2.2.2.2.2.2.2.2.2.2.2.2.2.2.1
theorem me_RC.rg {a : me_S} {μ : me_M} (hyp : me_RC a μ) : ∀ r, r < 160 → μ 17 r 7 = me_N (a.rg r) := hyp.2.2.2.2.2.2.2.2.2.2.2.2.2.2.2.2.2.2.2.2.2.2.2.2.2.2.2.2.2.2.2.2.2.1
theorem me_RC.q1 {a : me_S} {μ : me_M} (hyp : me_RC a μ) : ∀ r j e, r < 160 → (a.q r)[j]? = some e → μ 18 r j = me_N e.1 := hyp.2.2.2.2.2.2.2.2.2.2.2.2.2.2.2.2.2.2.2.2.2.2.2.2.2.2.2.2.2.2.2.2.2.2.1
theorem me_RC.q2 {a : me_S} {μ : me_M} (hyp : me_RC a μ) : ∀ r j e, r < 160 → (a.q r)[j]? = some e → μ 19 r j = me_N e.2.1 := hyp.2.2.2.2.2.2.2.2.2.2.2.2.2.2.2.2.2.2.2.2.2.2.2.2.2.2.2.2.2.2.2.2.2.2.2.1
theorem me_RC.q3 {a : me_S} {μ : me_M} (hyp : me_RC a μ) : ∀ r j e, r < 160 → (a.q r)[j]? = some e → μ 20 r j = me_N e.2.2 := hyp.2.2.2.2.2.2.2.2.2.2.2.2.2.2.2.2.2.2.2.2.2.2.2.2.2.2.2.2.2.2.2.2.2.2.2.2.1
theorem me_RC.dp {a : me_S} {μ : me_M} (hyp : me_RC a μ) : ∀ n, n < 16 → μ 22 n 4 = me_N (a.dp n) := hyp.2.2.2.2.2.2.2.2.2.2.2.2.2.2.2.2.2.2.2.2.2.2.2.2.2.2.2.2.2.2.2.2.2.2.2.2.2.1
theorem me_RC.ln {a : me_S} {μ : me_M} (hyp : me_RC a μ) : ∀ n, n < 16 → μ 22 n 5 = me_N (a.ln n) := hyp.2.2.2.2.2.2.2.2.2.2.2.2.2.2.2.2.2.2.2.2.2.2.2.2.2.2.2.2.2.2.2.2.2.2.2.2.2.2.1
theorem me_RC.ca {a : me_S} {μ : me_M} (hyp : me_RC a μ) : ∀ n, n < 16 → μ 22 n 6 = me_N (a.ca n) := hyp.2.2.2.2.2.2.2.2.2.2.2.2.2.2.2.2.2.2.2.2.2.2.2.2.2.2.2.2.2.2.2.2.2.2.2.2.2.2.2.1
theorem me_RC.co {a : me_S} {μ : me_M} (hyp : me_RC a μ) : ∀ n, n < 16 → μ 22 n 7 = a.co n := hyp.2.2.2.2.2.2.2.2.2.2.2.2.2.2.2.2.2.2.2.2.2.2.2.2.2.2.2.2.2.2.2.2.2.2.2.2.2.2.2.2.1
theorem me_RC.fa {a : me_S} {μ : me_M} (hyp : me_RC a μ) : ∀ n, n < 16 → μ 22 n 8 = a.fa n := hyp.2.2.2.2.2.2.2.2.2.2.2.2.2.2.2.2.2.2.2.2.2.2.2.2.2.2.2.2.2.2.2.2.2.2.2.2.2.2.2.2.2.1
theorem me_RC.mm {a : me_S} {μ : me_M} (hyp : me_RC a μ) : ∀ n j, n < 16 → j < 8 → μ 23 n j = a.mm n j := hyp.2.2.2.2.2.2.2.2.2.2.2.2.2.2.2.2.2.2.2.2.2.2.2.2.2.2.2.2.2.2.2.2.2.2.2.2.2.2.2.2.2.2.1
theorem me_RC.sk {a : me_S} {μ : me_M} (hyp : me_RC a μ) : ∀ n j, n < 16 → j < a.dp n → μ 24 n j = a.sk n j := hyp.2.2.2.2.2.2.2.2.2.2.2.2.2.2.2.2.2.2.2.2.2.2.2.2.2.2.2.2.2.2.2.2.2.2.2.2.2.2.2.2.2.2.2.1
theorem me_RC.nm {a : me_S} {μ : me_M} (hyp : me_RC a μ) : ∀ n j, n < 16 → j < a.ln n → μ 25 n j = a.nm n j := hyp.2.2.2.2.2.2.2.2.2.2.2.2.2.2.2.2.2.2.2.2.2.2.2.2.2.2.2.2.2.2.2.2.2.2.2.2.2.2.2.2.2.2.2.2.1
theorem me_RC.nu {a : me_S} {μ : me_M} (hyp : me_RC a μ) : ∀ n j, n < 16 → j < a.ln n → μ 26 n j = a.nu n j := hyp.2.2.2.2.2.2.2.2.2.2.2.2.2.2.2.2.2.2.2.2.2.2.2.2.2.2.2.2.2.2.2.2.2.2.2.2.2.2.2.2.2.2.2.2.2.1
theorem me_RC.wy {a : me_S} {μ : me_M} (hyp : me_RC a μ) : μ 27 0 4 = a.wy := hyp.2.2.2.2.2.2.2.2.2.2.2.2.2.2.2.2.2.2.2.2.2.2.2.2.2.2.2.2.2.2.2.2.2.2.2.2.2.2.2.2.2.2.2.2.2.2.1
theorem me_RC.bt {a : me_S} {μ : me_M} (hyp : me_RC a μ) : μ 30 0 5 = me_N a.bt := hyp.2.2.2.2.2.2.2.2.2.2.2.2.2.2.2.2.2.2.2.2.2.2.2.2.2.2.2.2.2.2.2.2.2.2.2.2.2.2.2.2.2.2.2.2.2.2.2
theorem me_RC.mk {a : me_S} {μ : me_M} (rp : μ 0 0 9 = me_N a.rp) (nn : μ 1 0 4 = me_N (a.w * a.h)) (ah : ∀ n d, n < a.w * a.h → d < 4 → μ 2 0 (n * 4 + d) = me_Op (me_nb a.w a.h n d)) (fl : ∀ n d, n < 16 → d < 4 → μ 3 0 (n * 4 + d) = a.fl n d) (cl : ∀ n, n < a.w * a.h → μ 4 0 n = me_N (n % a.w)) (li : ∀ n, n < a.w * a.h → μ 5 0 n = me_N (n / a.w)) (np : μ 6 0 1 = me_N a.np) (ow : μ 6 0 2 = me_N a.ow) (p0 : ∀ i, i < 200 → μ 8 i 0 = me_N i) (kd : ∀ i, μ 8 i 1 = a.kd i) (st : ∀ i, μ 8 i 2 = a.st i) (sr : ∀ i, μ 8 i 3 = me_N (a.sr i)) (gl : ∀ i, μ 8 i 4 = me_N (a.gl i)) (wd : ∀ i, μ 8 i 5 = a.wd i) (bo : ∀ i, i < a.np → μ 8 i 6 = me_N (a.bo i + 1)) (pt : ∀ i, μ 8 i 7 = me_N (a.pt i)) (tk : ∀ i, μ 8 i 8 = me_N (a.tk i)) (hd : ∀ i, i < a.np → μ 8 i 9 = me_Op (a.hd i)) (ma : ∀ i, μ 8 i 10 = me_N (a.ma i)) (dn : ∀ i, i < a.np → μ 8 i 11 = me_Op (a.dn i)) (pl : ∀ i, μ 8 i 12 = me_N (a.pl i)) (ad : ∀ i, μ 8 i 13 = a.ad i) (an : ∀ i, i < a.np → μ 8 i 14 = me_Op (a.an i)) (nt : μ 9 0 3 = me_N a.nt) (tn : ∀ i, i < a.nt → μ 10 0 i = me_N (a.tn i)) (tr : ∀ i j, i < 8 → j < 8 → μ 11 0 (i * 8 + j) = me_N (a.tr i j)) (aw : ∀ n, n < 16 → μ 13 n 3 = me_bi (a.aw n)) (lr : ∀ n k, n < 16 → k < 10 → μ 15 n k = me_N ((a.lr (10 * n + k) + 1) % 5)) (fp : ∀ n c, n < 16 → c < 2 → μ 16 n c = me_N (a.fp (2 * n + c))) (qn : ∀ r, r < 160 → μ 17 r 3 = me_N (a.q r).length) (qp : ∀ r, r < 160 → μ 17 r 4 = me_N a.rp) (ro : ∀ r, r < 160 → μ 17 r 5 = me_Op (a.ro r)) (rh : ∀ r, r < 160 → μ 17 r 6 = me_Op (a.rh r)) (rg : ∀ r, r < 160 → μ 17 r 7 = me_N (a.rg r)) (q1 : ∀ r j e, r < 160 → (a.q r)[j]? = some e → μ 18 r j = me_N e.1) (q2 : ∀ r j e, r < 160 → (a.q r)[j]? = some e → μ 19 r j = me_N e.2.1) (q3 : ∀ r j e, r < 160 → (a.q r)[j]? = some e → μ 20 r j = me_N e.2.2) (dp : ∀ n, n < 16 → μ 22 n 4 = me_N (a.dp n)) (ln : ∀ n, n < 16 → μ 22 n 5 = me_N (a.ln n)) (ca : ∀ n, n < 16 → μ 22 n 6 = me_N (a.ca n)) (co : ∀ n, n < 16 → μ 22 n 7 = a.co n) (fa : ∀ n, n < 16 → μ 22 n 8 = a.fa n) (mm : ∀ n j, n < 16 → j < 8 → μ 23 n j = a.mm n j) (sk : ∀ n j, n < 16 → j < a.dp n → μ 24 n j = a.sk n j) (nm : ∀ n j, n < 16 → j < a.ln n → μ 25 n j = a.nm n j) (nu : ∀ n j, n < 16 → j < a.ln n → μ 26 n j = a.nu n j) (wy : μ 27 0 4 = a.wy) (bt : μ 30 0 5 = me_N a.bt) : me_RC a μ := ⟨rp, nn, ah, fl, cl, li, np, ow, p0, kd, st, sr, gl, wd, bo, pt, tk, hd, ma, dn, pl, ad, an, nt, tn, tr, aw, lr, fp, qn, qp, ro, rh, rg, q1, q2, q3, dp, ln, ca, co, fa, mm, sk, nm, nu, wy, bt⟩
theorem me_RC.co_ {a : me_S} {μ μ' : me_M} (h : me_RC a μ) (e : ∀ k, k < 36 → μ' k = μ k) : me_RC a μ' := by
  apply me_RC.mk
  all_goals (intros; first
    | (rw [e _ (by decide)]; first | exact h.rp | exact h.nn | exact h.np | exact h.ow | exact h.nt | exact h.wy | exact h.bt)
    | (rw [e _ (by decide)]; first | (apply h.ah <;> assumption) | (apply h.fl <;> assumption) | (apply h.cl <;> assumption) | (apply h.li <;> assumption) | (apply h.p0 <;> assumption) | exact h.kd _ | exact h.st _ | exact h.sr _ | exact h.gl _ | exact h.wd _ | (apply h.bo <;> assumption) | exact h.pt _ | exact h.tk _ | (apply h.hd <;> assumption) | exact h.ma _ | (apply h.dn <;> assumption) | exact h.pl _ | exact h.ad _ | (apply h.an <;> assumption) | (apply h.tn <;> assumption) | (apply h.tr <;> assumption) | (apply h.aw <;> assumption) | (apply h.lr <;> assumption) | (apply h.fp <;> assumption) | (apply h.qn <;> assumption) | (apply h.qp <;> assumption) | (apply h.ro <;> assumption) | (apply h.rh <;> assumption) | (apply h.rg <;> assumption) | (apply h.q1 <;> assumption) | (apply h.q2 <;> assumption) | (apply h.q3 <;> assumption) | (apply h.dp <;> assumption) | (apply h.ln <;> assumption) | (apply h.ca <;> assumption) | (apply h.co <;> assumption) | (apply h.fa <;> assumption) | (apply h.mm <;> assumption) | (apply h.sk <;> assumption) | (apply h.nm <;> assumption) | (apply h.nu <;> assumption)))
/-- steps between two nodes of a net of width w -/
def me_ds (w x y : Nat) : Nat := ((x % w - y % w) + (y % w - x % w)) + ((x / w - y / w) + (y / w - x / w))
/-- the channel of a kind -/
def me_ch (k : Int32) : Nat := if k = 97 then 1 else 0
def me_op (d : Nat) : Nat := match d with
  | 0 => 1
  | 1 => 0
  | 2 => 3
  | 3 => 2
  | _ => 0
/-- the row at a node, by channel and side -/
def me_rw (n c k : Nat) : Nat := 10 * n + 5 * c + k
/-- the core row of a packet -/
def me_cr (kd : Nat → Int32) (sr : Nat → Nat) (p : Nat) : Nat := 10 * sr p + 5 * me_ch (kd p) + 4
def me_I0 (w h rp : Nat) (wy : Int32) (fl : Nat → Nat → Int32) : Prop :=
  (1 ≤ w ∧ w ≤ 4) ∧
  (1 ≤ h ∧ h ≤ 4) ∧
  (1 ≤ rp ∧ rp ≤ 4) ∧
  (wy = 120 ∨ wy = 121 ∨ wy = 116) ∧
  (∀ n d, fl n d = 0 ∨ fl n d = 1) ∧
  (∀ n d n', d < 4 → n < w * h → me_nb w h n d = some n' → fl n' (me_op d) = fl n d)
theorem me_I0.iw {w h rp : Nat} {wy : Int32} {fl : Nat → Nat → Int32} (hyp : me_I0 w h rp wy fl) : 1 ≤ w ∧ w ≤ 4 := hyp.1
theorem me_I0.ih {w h rp : Nat} {wy : Int32} {fl : Nat → Nat → Int32} (hyp : me_I0 w h rp wy fl) : 1 ≤ h ∧ h ≤ 4 := hyp.2.1
theorem me_I0.irp {w h rp : Nat} {wy : Int32} {fl : Nat → Nat → Int32} (hyp : me_I0 w h rp wy fl) : 1 ≤ rp ∧ rp ≤ 4 := hyp.2.2.1
theorem me_I0.mk {w h rp : Nat} {wy : Int32} {fl : Nat → Nat → Int32} (iw : 1 ≤ w ∧ w ≤ 4) (ih : 1 ≤ h ∧ h ≤ 4) (irp : 1 ≤ rp ∧ rp ≤ 4) (iwy : wy = 120 ∨ wy = 121 ∨ wy = 116) (ifl : ∀ n d, fl n d = 0 ∨ fl n d = 1) (ifs : ∀ n d n', d < 4 → n < w * h → me_nb w h n d = some n' → fl n' (me_op d) = fl n d) : me_I0 w h rp wy fl := ⟨iw, ih, irp, iwy, ifl, ifs⟩
def me_qs (kd st : Nat → Int32) (i : Nat) : Bool := decide (kd i = 113) && (decide (st i = 115) || decide (st i = 119))
def me_IP (w h np ow bt : Nat) (kd st : Nat → Int32) (sr gl bo pt tk ma : Nat → Nat) (dn : Nat → Option Nat) (pl : Nat → Nat) (an : Nat → Option Nat) : Prop :=
  (np + ow ≤ 200) ∧
  (ow = (List.range np).countP (me_qs kd st)) ∧
  (∀ i, i < np → kd i = 109 ∨ kd i = 113 ∨ kd i = 97) ∧
  (∀ i, i < np → st i = 115 ∨ st i = 119 ∨ st i = 100 ∨ st i = 114 ∨ st i = 108) ∧
  (∀ i, i < np → sr i < w * h) ∧
  (∀ i, i < np → gl i < w * h) ∧
  (∀ i, i < np → 1 ≤ bo i ∧ bo i ≤ 4) ∧
  (∀ i, i < np → tk i ≤ pt i ∧ pt i ≤ bo i + 1) ∧
  (∀ i, i < np → ma i ≤ bt) ∧
  (∀ i, i < np → st i = 100 ∨ st i = 114 → ∃ t, dn i = some t ∧ ma i ≤ t ∧ t ≤ bt + 1) ∧
  (∀ i t, i < np → dn i = some t → t ≤ bt + 1) ∧
  (∀ i, i < np → pl i < 8) ∧
  (∀ i j, i < np → an i = some j → j < np) ∧
  (∀ i, i < np → st i = 115 → pt i = 0) ∧
  (∀ i, i < np → st i = 119 → 0 < pt i) ∧
  (∀ i, i < np → st i = 100 ∨ st i = 114 → tk i = bo i + 1)
theorem me_IP.ile {w h np ow bt : Nat} {kd st : Nat → Int32} {sr gl bo pt tk ma : Nat → Nat} {dn : Nat → Option Nat} {pl : Nat → Nat} {an : Nat → Option Nat} (hyp : me_IP w h np ow bt kd st sr gl bo pt tk ma dn pl an) : np + ow ≤ 200 := hyp.1
theorem me_IP.iow {w h np ow bt : Nat} {kd st : Nat → Int32} {sr gl bo pt tk ma : Nat → Nat} {dn : Nat → Option Nat} {pl : Nat → Nat} {an : Nat → Option Nat} (hyp : me_IP w h np ow bt kd st sr gl bo pt tk ma dn pl an) : ow = (List.range np).countP (me_qs kd st) := hyp.2.1
theorem me_IP.ikd {w h np ow bt : Nat} {kd st : Nat → Int32} {sr gl bo pt tk ma : Nat → Nat} {dn : Nat → Option Nat} {pl : Nat → Nat} {an : Nat → Option Nat} (hyp : me_IP w h np ow bt kd st sr gl bo pt tk ma dn pl an) : ∀ i, i < np → kd i = 109 ∨ kd i = 113 ∨ kd i = 97 := hyp.2.2.1
theorem me_IP.ist {w h np ow bt : Nat} {kd st : Nat → Int32} {sr gl bo pt tk ma : Nat → Nat} {dn : Nat → Option Nat} {pl : Nat → Nat} {an : Nat → Option Nat} (hyp : me_IP w h np ow bt kd st sr gl bo pt tk ma dn pl an) : ∀ i, i < np → st i = 115 ∨ st i = 119 ∨ st i = 100 ∨ st i = 114 ∨ st i = 108 := hyp.2.2.2.1
theorem me_IP.isr {w h np ow bt : Nat} {kd st : Nat → Int32} {sr gl bo pt tk ma : Nat → Nat} {dn : Nat → Option Nat} {pl : Nat → Nat} {an : Nat → Option Nat} (hyp : me_IP w h np ow bt kd st sr gl bo pt tk ma dn pl an) : ∀ i, i < np → sr i < w * h := hyp.2.2.2.2.1
theorem me_IP.igl {w h np ow bt : Nat} {kd st : Nat → Int32} {sr gl bo pt tk ma : Nat → Nat} {dn : Nat → Option Nat} {pl : Nat → Nat} {an : Nat → Option Nat} (hyp : me_IP w h np ow bt kd st sr gl bo pt tk ma dn pl an) : ∀ i, i < np → gl i < w * h := hyp.2.2.2.2.2.1
theorem me_IP.ibo {w h np ow bt : Nat} {kd st : Nat → Int32} {sr gl bo pt tk ma : Nat → Nat} {dn : Nat → Option Nat} {pl : Nat → Nat} {an : Nat → Option Nat} (hyp : me_IP w h np ow bt kd st sr gl bo pt tk ma dn pl an) : ∀ i, i < np → 1 ≤ bo i ∧ bo i ≤ 4 := hyp.2.2.2.2.2.2.1
theorem me_IP.ipt {w h np ow bt : Nat} {kd st : Nat → Int32} {sr gl bo pt tk ma : Nat → Nat} {dn : Nat → Option Nat} {pl : Nat → Nat} {an : Nat → Option Nat} (hyp : me_IP w h np ow bt kd st sr gl bo pt tk ma dn pl an) : ∀ i, i < np → tk i ≤ pt i ∧ pt i ≤ bo i + 1 := hyp.2.2.2.2.2.2.2.1
theorem me_IP.ima {w h np ow bt : Nat} {kd st : Nat → Int32} {sr gl bo pt tk ma : Nat → Nat} {dn : Nat → Option Nat} {pl : Nat → Nat} {an : Nat → Option Nat} (hyp : me_IP w h np ow bt kd st sr gl bo pt tk ma dn pl an) : ∀ i, i < np → ma i ≤ bt := hyp.2.2.2.2.2.2.2.2.1
theorem me_IP.idn {w h np ow bt : Nat} {kd st : Nat → Int32} {sr gl bo pt tk ma : Nat → Nat} {dn : Nat → Option Nat} {pl : Nat → Nat} {an : Nat → Option Nat} (hyp : me_IP w h np ow bt kd st sr gl bo pt tk ma dn pl an) : ∀ i, i < np → st i = 100 ∨ st i = 114 → ∃ t, dn i = some t ∧ ma i ≤ t ∧ t ≤ bt + 1 := hyp.2.2.2.2.2.2.2.2.2.1
theorem me_IP.idm {w h np ow bt : Nat} {kd st : Nat → Int32} {sr gl bo pt tk ma : Nat → Nat} {dn : Nat → Option Nat} {pl : Nat → Nat} {an : Nat → Option Nat} (hyp : me_IP w h np ow bt kd st sr gl bo pt tk ma dn pl an) : ∀ i t, i < np → dn i = some t → t ≤ bt + 1 := hyp.2.2.2.2.2.2.2.2.2.2.1
theorem me_IP.ipl {w h np ow bt : Nat} {kd st : Nat → Int32} {sr gl bo pt tk ma : Nat → Nat} {dn : Nat → Option Nat} {pl : Nat → Nat} {an : Nat → Option Nat} (hyp : me_IP w h np ow bt kd st sr gl bo pt tk ma dn pl an) : ∀ i, i < np → pl i < 8 := hyp.2.2.2.2.2.2.2.2.2.2.2.1
theorem me_IP.ian {w h np ow bt : Nat} {kd st : Nat → Int32} {sr gl bo pt tk ma : Nat → Nat} {dn : Nat → Option Nat} {pl : Nat → Nat} {an : Nat → Option Nat} (hyp : me_IP w h np ow bt kd st sr gl bo pt tk ma dn pl an) : ∀ i j, i < np → an i = some j → j < np := hyp.2.2.2.2.2.2.2.2.2.2.2.2.1
theorem me_IP.is0 {w h np ow bt : Nat} {kd st : Nat → Int32} {sr gl bo pt tk ma : Nat → Nat} {dn : Nat → Option Nat} {pl : Nat → Nat} {an : Nat → Option Nat} (hyp : me_IP w h np ow bt kd st sr gl bo pt tk ma dn pl an) : ∀ i, i < np → st i = 115 → pt i = 0 := hyp.2.2.2.2.2.2.2.2.2.2.2.2.2.1
theorem me_IP.is1 {w h np ow bt : Nat} {kd st : Nat → Int32} {sr gl bo pt tk ma : Nat → Nat} {dn : Nat → Option Nat} {pl : Nat → Nat} {an : Nat → Option Nat} (hyp : me_IP w h np ow bt kd st sr gl bo pt tk ma dn pl an) : ∀ i, i < np → st i = 119 → 0 < pt i := hyp.2.2.2.2.2.2.2.2.2.2.2.2.2.2.1
theorem me_IP.is2 {w h np ow bt : Nat} {kd st : Nat → Int32} {sr gl bo pt tk ma : Nat → Nat} {dn : Nat → Option Nat} {pl : Nat → Nat} {an : Nat → Option Nat} (hyp : me_IP w h np ow bt kd st sr gl bo pt tk ma dn pl an) : ∀ i, i < np → st i = 100 ∨ st i = 114 → tk i = bo i + 1 := hyp.2.2.2.2.2.2.2.2.2.2.2.2.2.2.2
theorem me_IP.mk {w h np ow bt : Nat} {kd st : Nat → Int32} {sr gl bo pt tk ma : Nat → Nat} {dn : Nat → Option Nat} {pl : Nat → Nat} {an : Nat → Option Nat} (ile : np + ow ≤ 200) (iow : ow = (List.range np).countP (me_qs kd st)) (ikd : ∀ i, i < np → kd i = 109 ∨ kd i = 113 ∨ kd i = 97) (ist : ∀ i, i < np → st i = 115 ∨ st i = 119 ∨ st i = 100 ∨ st i = 114 ∨ st i = 108) (isr : ∀ i, i < np → sr i < w * h) (igl : ∀ i, i < np → gl i < w * h) (ibo : ∀ i, i < np → 1 ≤ bo i ∧ bo i ≤ 4) (ipt : ∀ i, i < np → tk i ≤ pt i ∧ pt i ≤ bo i + 1) (ima : ∀ i, i < np → ma i ≤ bt) (idn : ∀ i, i < np → st i = 100 ∨ st i = 114 → ∃ t, dn i = some t ∧ ma i ≤ t ∧ t ≤ bt + 1) (idm : ∀ i t, i < np → dn i = some t → t ≤ bt + 1) (ipl : ∀ i, i < np → pl i < 8) (ian : ∀ i j, i < np → an i = some j → j < np) (is0 : ∀ i, i < np → st i = 115 → pt i = 0) (is1 : ∀ i, i < np → st i = 119 → 0 < pt i) (is2 : ∀ i, i < np → st i = 100 ∨ st i = 114 → tk i = bo i + 1) : me_IP w h np ow bt kd st sr gl bo pt tk ma dn pl an := ⟨ile, iow, ikd, ist, isr, igl, ibo, ipt, ima, idn, idm, ipl, ian, is0, is1, is2⟩
/-- names of instructions, and what their numbers may be -/
def me_iok (w h : Nat) (nm nu : Int32) : Prop :=
  (nm = 112 ∨ nm = 43 ∨ nm = 45 ∨ nm = 42 ∨ nm = 98 ∨ nm = 104) ∨ ((nm = 108 ∨ nm = 115) ∧ ∃ x, x < 8 ∧ nu = me_N x) ∨ ((nm = 100 ∨ nm = 114) ∧ ∃ x, x < w * h ∧ nu = me_N x) ∨ (nm = 106 ∧ ∃ x, x < 12 ∧ nu = me_N x)
def me_IC (w h : Nat) (dp ln ca : Nat → Nat) (co fa : Nat → Int32) (nm nu : Nat → Nat → Int32) : Prop :=
  (∀ n, dp n ≤ 6) ∧
  (∀ n, ln n ≤ 12) ∧
  (∀ n, ca n ≤ 12) ∧
  (∀ n, co n = 45 ∨ co n = 114 ∨ co n = 119 ∨ co n = 98 ∨ co n = 104 ∨ co n = 120) ∧
  (∀ n, fa n = 45 ∨ fa n = 106 ∨ fa n = 117 ∨ fa n = 111 ∨ fa n = 112) ∧
  (∀ n j, j < ln n → me_iok w h (nm n j) (nu n j)) ∧
  (∀ n, co n = 119 → ca n < ln n ∧ nm n (ca n) = 114) ∧
  (∀ n, co n = 98 → ca n < ln n)
theorem me_IC.idp {w h : Nat} {dp ln ca : Nat → Nat} {co fa : Nat → Int32} {nm nu : Nat → Nat → Int32} (hyp : me_IC w h dp ln ca co fa nm nu) : ∀ n, dp n ≤ 6 := hyp.1
theorem me_IC.iln {w h : Nat} {dp ln ca : Nat → Nat} {co fa : Nat → Int32} {nm nu : Nat → Nat → Int32} (hyp : me_IC w h dp ln ca co fa nm nu) : ∀ n, ln n ≤ 12 := hyp.2.1
theorem me_IC.ica {w h : Nat} {dp ln ca : Nat → Nat} {co fa : Nat → Int32} {nm nu : Nat → Nat → Int32} (hyp : me_IC w h dp ln ca co fa nm nu) : ∀ n, ca n ≤ 12 := hyp.2.2.1
theorem me_IC.ico {w h : Nat} {dp ln ca : Nat → Nat} {co fa : Nat → Int32} {nm nu : Nat → Nat → Int32} (hyp : me_IC w h dp ln ca co fa nm nu) : ∀ n, co n = 45 ∨ co n = 114 ∨ co n = 119 ∨ co n = 98 ∨ co n = 104 ∨ co n = 120 := hyp.2.2.2.1
theorem me_IC.ifa {w h : Nat} {dp ln ca : Nat → Nat} {co fa : Nat → Int32} {nm nu : Nat → Nat → Int32} (hyp : me_IC w h dp ln ca co fa nm nu) : ∀ n, fa n = 45 ∨ fa n = 106 ∨ fa n = 117 ∨ fa n = 111 ∨ fa n = 112 := hyp.2.2.2.2.1
theorem me_IC.iok {w h : Nat} {dp ln ca : Nat → Nat} {co fa : Nat → Int32} {nm nu : Nat → Nat → Int32} (hyp : me_IC w h dp ln ca co fa nm nu) : ∀ n j, j < ln n → me_iok w h (nm n j) (nu n j) := hyp.2.2.2.2.2.1
theorem me_IC.iwt {w h : Nat} {dp ln ca : Nat → Nat} {co fa : Nat → Int32} {nm nu : Nat → Nat → Int32} (hyp : me_IC w h dp ln ca co fa nm nu) : ∀ n, co n = 119 → ca n < ln n ∧ nm n (ca n) = 114 := hyp.2.2.2.2.2.2.1
theorem me_IC.ibt {w h : Nat} {dp ln ca : Nat → Nat} {co fa : Nat → Int32} {nm nu : Nat → Nat → Int32} (hyp : me_IC w h dp ln ca co fa nm nu) : ∀ n, co n = 98 → ca n < ln n := hyp.2.2.2.2.2.2.2
theorem me_IC.mk {w h : Nat} {dp ln ca : Nat → Nat} {co fa : Nat → Int32} {nm nu : Nat → Nat → Int32} (idp : ∀ n, dp n ≤ 6) (iln : ∀ n, ln n ≤ 12) (ica : ∀ n, ca n ≤ 12) (ico : ∀ n, co n = 45 ∨ co n = 114 ∨ co n = 119 ∨ co n = 98 ∨ co n = 104 ∨ co n = 120) (ifa : ∀ n, fa n = 45 ∨ fa n = 106 ∨ fa n = 117 ∨ fa n = 111 ∨ fa n = 112) (iok : ∀ n j, j < ln n → me_iok w h (nm n j) (nu n j)) (iwt : ∀ n, co n = 119 → ca n < ln n ∧ nm n (ca n) = 114) (ibt : ∀ n, co n = 98 → ca n < ln n) : me_IC w h dp ln ca co fa nm nu := ⟨idp, iln, ica, ico, ifa, iok, iwt, ibt⟩
def me_IT (w h nt : Nat) (tn : Nat → Nat) (tr : Nat → Nat → Nat) : Prop :=
  (nt ≤ 8) ∧
  (∀ i, i < nt → tn i < w * h) ∧
  (∀ i j, tr i j = tr j i) ∧
  (∀ i j, tr i j ≤ 99)
theorem me_IT.ile {w h nt : Nat} {tn : Nat → Nat} {tr : Nat → Nat → Nat} (hyp : me_IT w h nt tn tr) : ∀ i j, tr i j ≤ 99 := hyp.2.2.2
theorem me_IT.mk {w h nt : Nat} {tn : Nat → Nat} {tr : Nat → Nat → Nat} (int : nt ≤ 8) (itn : ∀ i, i < nt → tn i < w * h) (isy : ∀ i j, tr i j = tr j i) (ile : ∀ i j, tr i j ≤ 99) : me_IT w h nt tn tr := ⟨int, itn, isy, ile⟩
/-- the way of row r for the packet p is known and leads on -/
def me_Vd (w h : Nat) (kd : Nat → Int32) (sr gl : Nat → Nat) (ro rh : Nat → Option Nat) (r p : Nat) : Prop :=
  (rh r = some 4 ∧ r / 10 = gl p) ∨ ∃ d n', d < 4 ∧ rh r = some d ∧ me_nb w h (r / 10) d = some n' ∧ ro (me_rw n' (me_ch (kd p)) (me_op d)) = some p ∧ me_ds w (sr p) n' = me_ds w (sr p) (r / 10) + 1
def me_Ac (kd st : Nat → Int32) (sr bo pt : Nat → Nat) (q : Nat → List (Nat × Nat × Nat)) (ro : Nat → Option Nat) (np r p : Nat) : Prop :=
  (∃ e ∈ q r, e.1 = p) ∨ (r = me_cr kd sr p ∧ p < np ∧ st p = 119 ∧ pt p ≤ bo p) ∨ ro r = some p
/-- packets as worms -/
def me_Wm (w h np : Nat) (kd st : Nat → Int32) (sr gl bo pt tk : Nat → Nat) (hd : Nat → Option Nat) (q : Nat → List (Nat × Nat × Nat)) (ro rh : Nat → Option Nat) (aw : Nat → Bool) : Prop :=
  (∀ r, (q r).length ≤ 4) ∧
  (∀ r e, e ∈ q r → r / 10 < w * h ∧ e.1 < np ∧ st e.1 = 119 ∧ me_ch (kd e.1) = r % 10 / 5 ∧ tk e.1 ≤ e.2.1 ∧ e.2.1 < pt e.1 ∧ me_ds w (sr e.1) (r / 10) + me_ds w (r / 10) (gl e.1) = me_ds w (sr e.1) (gl e.1)) ∧
  (∀ r e, e ∈ q r → ¬ r % 5 = 4 → ro r = some e.1) ∧
  (∀ r, r % 5 = 4 → ro r = none) ∧
  (∀ r e, e ∈ q r → r % 5 = 4 → sr e.1 = r / 10) ∧
  (∀ r p, ro r = some p → r / 10 < w * h ∧ p < np ∧ st p = 119 ∧ me_ch (kd p) = r % 10 / 5 ∧ me_ds w (sr p) (r / 10) + me_ds w (r / 10) (gl p) = me_ds w (sr p) (gl p) ∧ 1 ≤ me_ds w (sr p) (r / 10)) ∧
  (∀ r r' p, ro r = some p → ro r' = some p → me_ds w (sr p) (r / 10) = me_ds w (sr p) (r' / 10) → r = r') ∧
  (∀ r, (q r).Pairwise (fun e e' => e.1 < e'.1 ∨ (e.1 = e'.1 ∧ e.2.1 < e'.2.1))) ∧
  (∀ r r' e e', e ∈ q r → e' ∈ q r' → e.1 = e'.1 → e.2.1 < e'.2.1 → r = r' ∨ me_ds w (sr e.1) (r' / 10) < me_ds w (sr e.1) (r / 10)) ∧
  (∀ r r' e e', e ∈ q r → e' ∈ q r' → e.1 = e'.1 → e.2.1 = e'.2.1 → r = r') ∧
  (∀ r p, me_Ac kd st sr bo pt q ro np r p → (∀ c, (p, 0, c) ∉ q r) → me_Vd w h kd sr gl ro rh r p) ∧
  (∀ r r' p c, (p, bo p, c) ∈ q r → ro r' = some p → me_ds w (sr p) (r / 10) ≤ me_ds w (sr p) (r' / 10)) ∧
  (∀ r r' p c, (p, 0, c) ∈ q r → ro r' = some p → me_ds w (sr p) (r' / 10) ≤ me_ds w (sr p) (r / 10)) ∧
  (∀ r e p, e ∈ q r → r % 5 = 4 → e.1 < p → p < np → st p = 119 → me_cr kd sr p = r → ∃ c, (p, 0, c) ∈ q r) ∧
  (∀ p, p < np → (∀ n, hd p = some n → ∃ r c, (p, 0, c) ∈ q r ∧ r / 10 = n) ∧ (hd p = none → ∀ r c, (p, 0, c) ∉ q r)) ∧
  (∀ p i, p < np → st p = 119 → tk p ≤ i → i < pt p → ∃ r c, (p, i, c) ∈ q r) ∧
  (∀ p, p < np → ¬ st p = 108 → ((List.range 160).map (fun r => (q r).countP (fun e => decide (e.1 = p)))).sum = pt p - tk p) ∧
  (∀ p j, p < np → 0 < pt p → j < p → sr j = sr p → me_ch (kd j) = me_ch (kd p) → pt j = bo j + 1 ∨ st j = 108) ∧
  (∀ r, aw (r / 10) = false → q r = [] ∧ ro r = none)
theorem me_Wm.in4 {w h np : Nat} {kd st : Nat → Int32} {sr gl bo pt tk : Nat → Nat} {hd : Nat → Option Nat} {q : Nat → List (Nat × Nat × Nat)} {ro rh : Nat → Option Nat} {aw : Nat → Bool} (hyp : me_Wm w h np kd st sr gl bo pt tk hd q ro rh aw) : ∀ r, (q r).length ≤ 4 := hyp.1
theorem me_Wm.iel {w h np : Nat} {kd st : Nat → Int32} {sr gl bo pt tk : Nat → Nat} {hd : Nat → Option Nat} {q : Nat → List (Nat × Nat × Nat)} {ro rh : Nat → Option Nat} {aw : Nat → Bool} (hyp : me_Wm w h np kd st sr gl bo pt tk hd q ro rh aw) : ∀ r e, e ∈ q r → r / 10 < w * h ∧ e.1 < np ∧ st e.1 = 119 ∧ me_ch (kd e.1) = r % 10 / 5 ∧ tk e.1 ≤ e.2.1 ∧ e.2.1 < pt e.1 ∧ me_ds w (sr e.1) (r / 10) + me_ds w (r / 10) (gl e.1) = me_ds w (sr e.1) (gl e.1) := hyp.2.1
theorem me_Wm.idi {w h np : Nat} {kd st : Nat → Int32} {sr gl bo pt tk : Nat → Nat} {hd : Nat → Option Nat} {q : Nat → List (Nat × Nat × Nat)} {ro rh : Nat → Option Nat} {aw : Nat → Bool} (hyp : me_Wm w h np kd st sr gl bo pt tk hd q ro rh aw) : ∀ r e, e ∈ q r → ¬ r % 5 = 4 → ro r = some e.1 := hyp.2.2.1
theorem me_Wm.icr {w h np : Nat} {kd st : Nat → Int32} {sr gl bo pt tk : Nat → Nat} {hd : Nat → Option Nat} {q : Nat → List (Nat × Nat × Nat)} {ro rh : Nat → Option Nat} {aw : Nat → Bool} (hyp : me_Wm w h np kd st sr gl bo pt tk hd q ro rh aw) : ∀ r, r % 5 = 4 → ro r = none := hyp.2.2.2.1
theorem me_Wm.ice {w h np : Nat} {kd st : Nat → Int32} {sr gl bo pt tk : Nat → Nat} {hd : Nat → Option Nat} {q : Nat → List (Nat × Nat × Nat)} {ro rh : Nat → Option Nat} {aw : Nat → Bool} (hyp : me_Wm w h np kd st sr gl bo pt tk hd q ro rh aw) : ∀ r e, e ∈ q r → r % 5 = 4 → sr e.1 = r / 10 := hyp.2.2.2.2.1
theorem me_Wm.iow {w h np : Nat} {kd st : Nat → Int32} {sr gl bo pt tk : Nat → Nat} {hd : Nat → Option Nat} {q : Nat → List (Nat × Nat × Nat)} {ro rh : Nat → Option Nat} {aw : Nat → Bool} (hyp : me_Wm w h np kd st sr gl bo pt tk hd q ro rh aw) : ∀ r p, ro r = some p → r / 10 < w * h ∧ p < np ∧ st p = 119 ∧ me_ch (kd p) = r % 10 / 5 ∧ me_ds w (sr p) (r / 10) + me_ds w (r / 10) (gl p) = me_ds w (sr p) (gl p) ∧ 1 ≤ me_ds w (sr p) (r / 10) := hyp.2.2.2.2.2.1
theorem me_Wm.iun {w h np : Nat} {kd st : Nat → Int32} {sr gl bo pt tk : Nat → Nat} {hd : Nat → Option Nat} {q : Nat → List (Nat × Nat × Nat)} {ro rh : Nat → Option Nat} {aw : Nat → Bool} (hyp : me_Wm w h np kd st sr gl bo pt tk hd q ro rh aw) : ∀ r r' p, ro r = some p → ro r' = some p → me_ds w (sr p) (r / 10) = me_ds w (sr p) (r' / 10) → r = r' := hyp.2.2.2.2.2.2.1
theorem me_Wm.iso {w h np : Nat} {kd st : Nat → Int32} {sr gl bo pt tk : Nat → Nat} {hd : Nat → Option Nat} {q : Nat → List (Nat × Nat × Nat)} {ro rh : Nat → Option Nat} {aw : Nat → Bool} (hyp : me_Wm w h np kd st sr gl bo pt tk hd q ro rh aw) : ∀ r, (q r).Pairwise (fun e e' => e.1 < e'.1 ∨ (e.1 = e'.1 ∧ e.2.1 < e'.2.1)) := hyp.2.2.2.2.2.2.2.1
theorem me_Wm.ifo {w h np : Nat} {kd st : Nat → Int32} {sr gl bo pt tk : Nat → Nat} {hd : Nat → Option Nat} {q : Nat → List (Nat × Nat × Nat)} {ro rh : Nat → Option Nat} {aw : Nat → Bool} (hyp : me_Wm w h np kd st sr gl bo pt tk hd q ro rh aw) : ∀ r r' e e', e ∈ q r → e' ∈ q r' → e.1 = e'.1 → e.2.1 < e'.2.1 → r = r' ∨ me_ds w (sr e.1) (r' / 10) < me_ds w (sr e.1) (r / 10) := hyp.2.2.2.2.2.2.2.2.1
theorem me_Wm.ion {w h np : Nat} {kd st : Nat → Int32} {sr gl bo pt tk : Nat → Nat} {hd : Nat → Option Nat} {q : Nat → List (Nat × Nat × Nat)} {ro rh : Nat → Option Nat} {aw : Nat → Bool} (hyp : me_Wm w h np kd st sr gl bo pt tk hd q ro rh aw) : ∀ r r' e e', e ∈ q r → e' ∈ q r' → e.1 = e'.1 → e.2.1 = e'.2.1 → r = r' := hyp.2.2.2.2.2.2.2.2.2.1
theorem me_Wm.ivd {w h np : Nat} {kd st : Nat → Int32} {sr gl bo pt tk : Nat → Nat} {hd : Nat → Option Nat} {q : Nat → List (Nat × Nat × Nat)} {ro rh : Nat → Option Nat} {aw : Nat → Bool} (hyp : me_Wm w h np kd st sr gl bo pt tk hd q ro rh aw) : ∀ r p, me_Ac kd st sr bo pt q ro np r p → (∀ c, (p, 0, c) ∉ q r) → me_Vd w h kd sr gl ro rh r p := hyp.2.2.2.2.2.2.2.2.2.2.1
theorem me_Wm.itl {w h np : Nat} {kd st : Nat → Int32} {sr gl bo pt tk : Nat → Nat} {hd : Nat → Option Nat} {q : Nat → List (Nat × Nat × Nat)} {ro rh : Nat → Option Nat} {aw : Nat → Bool} (hyp : me_Wm w h np kd st sr gl bo pt tk hd q ro rh aw) : ∀ r r' p c, (p, bo p, c) ∈ q r → ro r' = some p → me_ds w (sr p) (r / 10) ≤ me_ds w (sr p) (r' / 10) := hyp.2.2.2.2.2.2.2.2.2.2.2.1
theorem me_Wm.ihm {w h np : Nat} {kd st : Nat → Int32} {sr gl bo pt tk : Nat → Nat} {hd : Nat → Option Nat} {q : Nat → List (Nat × Nat × Nat)} {ro rh : Nat → Option Nat} {aw : Nat → Bool} (hyp : me_Wm w h np kd st sr gl bo pt tk hd q ro rh aw) : ∀ r r' p c, (p, 0, c) ∈ q r → ro r' = some p → me_ds w (sr p) (r' / 10) ≤ me_ds w (sr p) (r / 10) := hyp.2.2.2.2.2.2.2.2.2.2.2.2.1
theorem me_Wm.ifi {w h np : Nat} {kd st : Nat → Int32} {sr gl bo pt tk : Nat → Nat} {hd : Nat → Option Nat} {q : Nat → List (Nat × Nat × Nat)} {ro rh : Nat → Option Nat} {aw : Nat → Bool} (hyp : me_Wm w h np kd st sr gl bo pt tk hd q ro rh aw) : ∀ r e p, e ∈ q r → r % 5 = 4 → e.1 < p → p < np → st p = 119 → me_cr kd sr p = r → ∃ c, (p, 0, c) ∈ q r := hyp.2.2.2.2.2.2.2.2.2.2.2.2.2.1
theorem me_Wm.ihd {w h np : Nat} {kd st : Nat → Int32} {sr gl bo pt tk : Nat → Nat} {hd : Nat → Option Nat} {q : Nat → List (Nat × Nat × Nat)} {ro rh : Nat → Option Nat} {aw : Nat → Bool} (hyp : me_Wm w h np kd st sr gl bo pt tk hd q ro rh aw) : ∀ p, p < np → (∀ n, hd p = some n → ∃ r c, (p, 0, c) ∈ q r ∧ r / 10 = n) ∧ (hd p = none → ∀ r c, (p, 0, c) ∉ q r) := hyp.2.2.2.2.2.2.2.2.2.2.2.2.2.2.1
theorem me_Wm.iex {w h np : Nat} {kd st : Nat → Int32} {sr gl bo pt tk : Nat → Nat} {hd : Nat → Option Nat} {q : Nat → List (Nat × Nat × Nat)} {ro rh : Nat → Option Nat} {aw : Nat → Bool} (hyp : me_Wm w h np kd st sr gl bo pt tk hd q ro rh aw) : ∀ p i, p < np → st p = 119 → tk p ≤ i → i < pt p → ∃ r c, (p, i, c) ∈ q r := hyp.2.2.2.2.2.2.2.2.2.2.2.2.2.2.2.1
theorem me_Wm.ict {w h np : Nat} {kd st : Nat → Int32} {sr gl bo pt tk : Nat → Nat} {hd : Nat → Option Nat} {q : Nat → List (Nat × Nat × Nat)} {ro rh : Nat → Option Nat} {aw : Nat → Bool} (hyp : me_Wm w h np kd st sr gl bo pt tk hd q ro rh aw) : ∀ p, p < np → ¬ st p = 108 → ((List.range 160).map (fun r => (q r).countP (fun e => decide (e.1 = p)))).sum = pt p - tk p := hyp.2.2.2.2.2.2.2.2.2.2.2.2.2.2.2.2.1
theorem me_Wm.ifp {w h np : Nat} {kd st : Nat → Int32} {sr gl bo pt tk : Nat → Nat} {hd : Nat → Option Nat} {q : Nat → List (Nat × Nat × Nat)} {ro rh : Nat → Option Nat} {aw : Nat → Bool} (hyp : me_Wm w h np kd st sr gl bo pt tk hd q ro rh aw) : ∀ p j, p < np → 0 < pt p → j < p → sr j = sr p → me_ch (kd j) = me_ch (kd p) → pt j = bo j + 1 ∨ st j = 108 := hyp.2.2.2.2.2.2.2.2.2.2.2.2.2.2.2.2.2.1
theorem me_Wm.isl {w h np : Nat} {kd st : Nat → Int32} {sr gl bo pt tk : Nat → Nat} {hd : Nat → Option Nat} {q : Nat → List (Nat × Nat × Nat)} {ro rh : Nat → Option Nat} {aw : Nat → Bool} (hyp : me_Wm w h np kd st sr gl bo pt tk hd q ro rh aw) : ∀ r, aw (r / 10) = false → q r = [] ∧ ro r = none := hyp.2.2.2.2.2.2.2.2.2.2.2.2.2.2.2.2.2.2
theorem me_Wm.mk {w h np : Nat} {kd st : Nat → Int32} {sr gl bo pt tk : Nat → Nat} {hd : Nat → Option Nat} {q : Nat → List (Nat × Nat × Nat)} {ro rh : Nat → Option Nat} {aw : Nat → Bool} (in4 : ∀ r, (q r).length ≤ 4) (iel : ∀ r e, e ∈ q r → r / 10 < w * h ∧ e.1 < np ∧ st e.1 = 119 ∧ me_ch (kd e.1) = r % 10 / 5 ∧ tk e.1 ≤ e.2.1 ∧ e.2.1 < pt e.1 ∧ me_ds w (sr e.1) (r / 10) + me_ds w (r / 10) (gl e.1) = me_ds w (sr e.1) (gl e.1)) (idi : ∀ r e, e ∈ q r → ¬ r % 5 = 4 → ro r = some e.1) (icr : ∀ r, r % 5 = 4 → ro r = none) (ice : ∀ r e, e ∈ q r → r % 5 = 4 → sr e.1 = r / 10) (iow : ∀ r p, ro r = some p → r / 10 < w * h ∧ p < np ∧ st p = 119 ∧ me_ch (kd p) = r % 10 / 5 ∧ me_ds w (sr p) (r / 10) + me_ds w (r / 10) (gl p) = me_ds w (sr p) (gl p) ∧ 1 ≤ me_ds w (sr p) (r / 10)) (iun : ∀ r r' p, ro r = some p → ro r' = some p → me_ds w (sr p) (r / 10) = me_ds w (sr p) (r' / 10) → r = r') (iso : ∀ r, (q r).Pairwise (fun e e' => e.1 < e'.1 ∨ (e.1 = e'.1 ∧ e.2.1 < e'.2.1))) (ifo : ∀ r r' e e', e ∈ q r → e' ∈ q r' → e.1 = e'.1 → e.2.1 < e'.2.1 → r = r' ∨ me_ds w (sr e.1) (r' / 10) < me_ds w (sr e.1) (r / 10)) (ion : ∀ r r' e e', e ∈ q r → e' ∈ q r' → e.1 = e'.1 → e.2.1 = e'.2.1 → r = r') (ivd : ∀ r p, me_Ac kd st sr bo pt q ro np r p → (∀ c, (p, 0, c) ∉ q r) → me_Vd w h kd sr gl ro rh r p) (itl : ∀ r r' p c, (p, bo p, c) ∈ q r → ro r' = some p → me_ds w (sr p) (r / 10) ≤ me_ds w (sr p) (r' / 10)) (ihm : ∀ r r' p c, (p, 0, c) ∈ q r → ro r' = some p → me_ds w (sr p) (r' / 10) ≤ me_ds w (sr p) (r / 10)) (ifi : ∀ r e p, e ∈ q r → r % 5 = 4 → e.1 < p → p < np → st p = 119 → me_cr kd sr p = r → ∃ c, (p, 0, c) ∈ q r) (ihd : ∀ p, p < np → (∀ n, hd p = some n → ∃ r c, (p, 0, c) ∈ q r ∧ r / 10 = n) ∧ (hd p = none → ∀ r c, (p, 0, c) ∉ q r)) (iex : ∀ p i, p < np → st p = 119 → tk p ≤ i → i < pt p → ∃ r c, (p, i, c) ∈ q r) (ict : ∀ p, p < np → ¬ st p = 108 → ((List.range 160).map (fun r => (q r).countP (fun e => decide (e.1 = p)))).sum = pt p - tk p) (ifp : ∀ p j, p < np → 0 < pt p → j < p → sr j = sr p → me_ch (kd j) = me_ch (kd p) → pt j = bo j + 1 ∨ st j = 108) (isl : ∀ r, aw (r / 10) = false → q r = [] ∧ ro r = none) : me_Wm w h np kd st sr gl bo pt tk hd q ro rh aw := ⟨in4, iel, idi, icr, ice, iow, iun, iso, ifo, ion, ivd, itl, ihm, ifi, ihd, iex, ict, ifp, isl⟩
def me_IF (np : Nat) (kd st : Nat → Int32) (sr bo pt fp : Nat → Nat) : Prop := ∀ n c j, j < fp (2 * n + c) → j < np → sr j = n → me_ch (kd j) = c → pt j = bo j + 1 ∨ st j = 108
/-- all that always holds -/
def me_Iv (a : me_S) : Prop :=
  me_I0 a.w a.h a.rp a.wy a.fl ∧ me_IP a.w a.h a.np a.ow a.bt a.kd a.st a.sr a.gl a.bo a.pt a.tk a.ma a.dn a.pl a.an ∧ me_IC a.w a.h a.dp a.ln a.ca a.co a.fa a.nm a.nu ∧ me_IT a.w a.h a.nt a.tn a.tr ∧ me_Wm a.w a.h a.np a.kd a.st a.sr a.gl a.bo a.pt a.tk a.hd a.q a.ro a.rh a.aw ∧ me_IF a.np a.kd a.st a.sr a.bo a.pt a.fp ∧ (∀ b k, b < 32 → k < 5 → a.lr (5 * b + k) < 5) ∧ (∀ r, a.rg r ≤ a.bt + 1) ∧ (∀ b, a.fp b ≤ a.np)
def me_isB (v : Int32) (N : Nat) : Prop := ∃ n, n < N ∧ v = me_N n
def me_isRg (v : Int32) (a b : Nat) : Prop := ∃ n, a ≤ n ∧ n ≤ b ∧ v = me_N n
theorem me_isB_no {v : Int32} {N : Nat} (hN : N < 2147483648) (h : ¬ me_isB v N) : v < 0 ∨ (¬ v < 0 ∧ me_N N ≤ v) := by
  by_cases h0 : v < 0
  · exact Or.inl h0
  · obtain ⟨n, hn, rfl⟩ := me_N_of h0
    refine Or.inr ⟨h0, ?_⟩
    rw [me_N_le hN hn]
    exact Nat.not_lt.mp (fun q => h ⟨n, q, rfl⟩)
theorem me_isRg_no {v : Int32} {a b : Nat} (ha : a < 2147483648) (hb : b < 2147483648) (h : ¬ me_isRg v a b) : v < me_N a ∨ (¬ v < me_N a ∧ ¬ v ≤ me_N b ∧ me_N b < v) := by
  by_cases h0 : v < me_N a
  · exact Or.inl h0
  · by_cases h1 : me_N b < v
    · refine Or.inr ⟨h0, ?_, h1⟩
      rw [Int32.le_iff_toInt_le]
      rw [Int32.lt_iff_toInt_lt] at h1
      omega
    · obtain ⟨n, e1, e2, e3⟩ := me_in_range hb h0 h1 ha
      exact absurd ⟨n, e1, e2, e3⟩ h
theorem y_range_o {μ : me_M} {v : Int32} {a b : Nat} (ha : a < 2147483648) (hb : b < 2147483648) (h : me_isRg v a b) : f_Y_needRange μ v (me_N a) (me_N b) = some (.ok ()) := by
  obtain ⟨n, h1, h2, rfl⟩ := h
  unfold f_Y_needRange
  rw [if_neg (by rw [me_N_lt (by omega) ha]; omega), if_pos (by rw [me_N_le (by omega) hb]; omega)]
theorem y_range_n {μ : me_M} {v : Int32} {a b : Nat} (ha : a < 2147483648) (hb : b < 2147483648) (h : ¬ me_isRg v a b) : f_Y_needRange μ v (me_N a) (me_N b) = some (.error 2) := by
  unfold f_Y_needRange f_Y_needRange_b10
  rcases me_isRg_no ha hb h with h1 | ⟨h1, h2, h3⟩
  · rw [if_pos h1]
  · rw [if_neg h1, if_neg h2]
section MeLeaf
variable {T : Nat} {a : me_S} {μ : me_M}
theorem me_Iv.wh (h : me_Iv a) : a.w * a.h ≤ 16 ∧ 1 ≤ a.w * a.h := by
  have h1 := h.1.iw
  have h2 := h.1.ih
  exact ⟨Nat.mul_le_mul h1.2 h2.2, Nat.mul_le_mul h1.1 h2.1⟩
theorem me_Iv.n200 (h : me_Iv a) : a.np ≤ 200 := by
  have := h.2.1.ile
  omega
theorem y_hasNode_o (hC : me_RC a μ) (hI : me_Iv a) {n : Nat} (hn : n < a.w * a.h) : f_Net_hasNode μ (me_N n) = some 1 := by
  have := hI.wh
  unfold f_Net_hasNode
  rw [if_neg (me_N_nneg (by omega)), hC.nn, if_neg (by rw [me_N_le (by omega) (by omega)]; omega)]
theorem y_hasNode_n (hC : me_RC a μ) (hI : me_Iv a) {v : Int32} (hn : ¬ me_isB v (a.w * a.h)) : f_Net_hasNode μ v = some 0 := by
  have := hI.wh
  unfold f_Net_hasNode
  rcases me_isB_no (by omega) hn with h1 | ⟨h1, h2⟩
  · rw [if_pos h1]
  · rw [if_neg h1, hC.nn, if_pos h2]
theorem y_node_o (hC : me_RC a μ) (hI : me_Iv a) {n : Nat} (hn : n < a.w * a.h) : f_Y_needNode μ (me_N n) = some (.ok ()) := by
  unfold f_Y_needNode
  rw [y_hasNode_o hC hI hn, me_bd_s, if_neg (by decide)]
theorem y_node_n (hC : me_RC a μ) (hI : me_Iv a) {v : Int32} (hn : ¬ me_isB v (a.w * a.h)) : f_Y_needNode μ v = some (.error 1) := by
  unfold f_Y_needNode
  rw [y_hasNode_n hC hI hn, me_bd_s, if_pos rfl]
theorem y_nodes_o (hC : me_RC a μ) (hI : me_Iv a) {n m : Nat} (hn : n < a.w * a.h) (hm : m < a.w * a.h) : f_Y_needNodes μ (me_N n) (me_N m) = some (.ok ()) := by
  unfold f_Y_needNodes
  rw [y_node_o hC hI hn, me_bd_s, me_xb_o, y_node_o hC hI hm, me_bd_s, me_xb_o]
theorem y_nodes_n (hC : me_RC a μ) (hI : me_Iv a) {v u : Int32} (hn : ¬ (me_isB v (a.w * a.h) ∧ me_isB u (a.w * a.h))) : f_Y_needNodes μ v u = some (.error 1) := by
  unfold f_Y_needNodes
  by_cases h : me_isB v (a.w * a.h)
  · obtain ⟨n, h1, rfl⟩ := h
    rw [y_node_o hC hI h1, me_bd_s, me_xb_o, y_node_n hC hI (fun q => hn ⟨⟨n, h1, rfl⟩, q⟩), me_bd_s, me_xb_e]
  · rw [y_node_n hC hI h, me_bd_s, me_xb_e]
theorem y_find_o (hC : me_RC a μ) (hI : me_Iv a) {n : Nat} (hn : n < a.np) : f_Post_find μ (me_N n) = some (some n) := by
  have := hI.n200
  unfold f_Post_find
  rw [if_neg (me_N_nneg (by omega)), hC.np, if_neg (by rw [me_N_le (by omega) (by omega)]; omega), if_neg (by rw [me_N_200, me_N_le (by omega) (by omega)]; omega), me_gd_n (by omega) (by omega), me_N_ix (by omega)]
theorem y_find_n (hC : me_RC a μ) (hI : me_Iv a) {v : Int32} (hn : ¬ me_isB v a.np) : f_Post_find μ v = some none := by
  have := hI.n200
  unfold f_Post_find
  rcases me_isB_no (by omega) hn with h1 | ⟨h1, h2⟩
  · rw [if_pos h1]
  · rw [if_neg h1, hC.np, if_pos h2]
theorem y_packet_o (hC : me_RC a μ) (hI : me_Iv a) {n : Nat} (hn : n < a.np) : f_Y_needPacket μ (me_N n) = some (.ok n) := by
  unfold f_Y_needPacket
  rw [y_find_o hC hI hn, me_bd_s, me_oq_s]
theorem y_packet_n (hC : me_RC a μ) (hI : me_Iv a) {v : Int32} (hn : ¬ me_isB v a.np) : f_Y_needPacket μ v = some (.error 1) := by
  unfold f_Y_needPacket
  rw [y_find_n hC hI hn, me_bd_s, me_oq_n]
end MeLeaf
theorem me_chr {x : Int32} (h : x = 45 ∨ x = 114 ∨ x = 119 ∨ x = 98 ∨ x = 104 ∨ x = 120 ∨ x = 109 ∨ x = 113 ∨ x = 97 ∨ x = 115 ∨ x = 100 ∨ x = 108 ∨ x = 106 ∨ x = 117 ∨ x = 111 ∨ x = 112 ∨ x = 121 ∨ x = 116) : me_nr .char x = true := by
  rcases h with rfl | rfl | rfl | rfl | rfl | rfl | rfl | rfl | rfl | rfl | rfl | rfl | rfl | rfl | rfl | rfl | rfl | rfl <;> decide +kernel
theorem me_Iv.ckd {a : me_S} (h : me_Iv a) {i : Nat} (hi : i < a.np) : me_nr .char (a.kd i) = true := me_chr (by
  rcases h.2.1.ikd i hi with e | e | e <;> simp [e])
theorem me_Iv.cst {a : me_S} (h : me_Iv a) {i : Nat} (hi : i < a.np) : me_nr .char (a.st i) = true := me_chr (by
  rcases h.2.1.ist i hi with e | e | e | e | e <;> simp [e])
theorem me_RC.w_st {a : me_S} {μ : me_M} (h : me_RC a μ) (x : Nat) (v : Int32) : me_RC (me_S.s_st a (me_fu a.st x v)) (me_up μ 8 x 2 (v)) :=
  me_RC.mk ((me_up_kn (by decide)).trans (h.rp))
    ((me_up_kn (by decide)).trans (h.nn))
    (fun n d g0 g1 => (me_up_kn (by decide)).trans (h.ah n d g0 g1))
    (fun n d g0 g1 => (me_up_kn (by decide)).trans (h.fl n d g0 g1))
    (fun n g0 => (me_up_kn (by decide)).trans (h.cl n g0))
    (fun n g0 => (me_up_kn (by decide)).trans (h.li n g0))
    ((me_up_kn (by decide)).trans (h.np))
    ((me_up_kn (by decide)).trans (h.ow))
    (fun i g0 => (me_up_jn (by decide)).trans (h.p0 i g0))
    (fun i => (me_up_jn (by decide)).trans (h.kd i))
    (fun i => by show (me_up μ 8 x 2 (v)) 8 i 2 = (me_fu a.st x v) i; rw [me_up_ap, me_fu_ap]; by_cases e : i = x; simp [e]; simp [e]; exact h.st i)
    (fun i => (me_up_jn (by decide)).trans (h.sr i))
    (fun i => (me_up_jn (by decide)).trans (h.gl i))
    (fun i => (me_up_jn (by decide)).trans (h.wd i))
    (fun i g0 => (me_up_jn (by decide)).trans (h.bo i g0))
    (fun i => (me_up_jn (by decide)).trans (h.pt i))
    (fun i => (me_up_jn (by decide)).trans (h.tk i))
    (fun i g0 => (me_up_jn (by decide)).trans (h.hd i g0))
    (fun i => (me_up_jn (by decide)).trans (h.ma i))
    (fun i g0 => (me_up_jn (by decide)).trans (h.dn i g0))
    (fun i => (me_up_jn (by decide)).trans (h.pl i))
    (fun i => (me_up_jn (by decide)).trans (h.ad i))
    (fun i g0 => (me_up_jn (by decide)).trans (h.an i g0))
    ((me_up_kn (by decide)).trans (h.nt))
    (fun i g0 => (me_up_kn (by decide)).trans (h.tn i g0))
    (fun i j g0 g1 => (me_up_kn (by decide)).trans (h.tr i j g0 g1))
    (fun n g0 => (me_up_kn (by decide)).trans (h.aw n g0))
    (fun n k g0 g1 => (me_up_kn (by decide)).trans (h.lr n k g0 g1))
    (fun n c g0 g1 => (me_up_kn (by decide)).trans (h.fp n c g0 g1))
    (fun r g0 => (me_up_kn (by decide)).trans (h.qn r g0))
    (fun r g0 => (me_up_kn (by decide)).trans (h.qp r g0))
    (fun r g0 => (me_up_kn (by decide)).trans (h.ro r g0))
    (fun r g0 => (me_up_kn (by decide)).trans (h.rh r g0))
    (fun r g0 => (me_up_kn (by decide)).trans (h.rg r g0))
    (fun r j e g0 g1 => (me_up_kn (by decide)).trans (h.q1 r j e g0 g1))
    (fun r j e g0 g1 => (me_up_kn (by decide)).trans (h.q2 r j e g0 g1))
    (fun r j e g0 g1 => (me_up_kn (by decide)).trans (h.q3 r j e g0 g1))
    (fun n g0 => (me_up_kn (by decide)).trans (h.dp n g0))
    (fun n g0 => (me_up_kn (by decide)).trans (h.ln n g0))
    (fun n g0 => (me_up_kn (by decide)).trans (h.ca n g0))
    (fun n g0 => (me_up_kn (by decide)).trans (h.co n g0))
    (fun n g0 => (me_up_kn (by decide)).trans (h.fa n g0))
    (fun n j g0 g1 => (me_up_kn (by decide)).trans (h.mm n j g0 g1))
    (fun n j g0 g1 => (me_up_kn (by decide)).trans (h.sk n j g0 g1))
    (fun n j g0 g1 => (me_up_kn (by decide)).trans (h.nm n j g0 g1))
    (fun n j g0 g1 => (me_up_kn (by decide)).trans (h.nu n j g0 g1))
    ((me_up_kn (by decide)).trans (h.wy))
    ((me_up_kn (by decide)).trans (h.bt))
theorem me_RC.w_pt {a : me_S} {μ : me_M} (h : me_RC a μ) (x : Nat) (v : Nat) : me_RC (me_S.s_pt a (me_fu a.pt x v)) (me_up μ 8 x 7 (me_N v)) :=
  me_RC.mk ((me_up_kn (by decide)).trans (h.rp))
    ((me_up_kn (by decide)).trans (h.nn))
    (fun n d g0 g1 => (me_up_kn (by decide)).trans (h.ah n d g0 g1))
    (fun n d g0 g1 => (me_up_kn (by decide)).trans (h.fl n d g0 g1))
    (fun n g0 => (me_up_kn (by decide)).trans (h.cl n g0))
    (fun n g0 => (me_up_kn (by decide)).trans (h.li n g0))
    ((me_up_kn (by decide)).trans (h.np))
    ((me_up_kn (by decide)).trans (h.ow))
    (fun i g0 => (me_up_jn (by decide)).trans (h.p0 i g0))
    (fun i => (me_up_jn (by decide)).trans (h.kd i))
    (fun i => (me_up_jn (by decide)).trans (h.st i))
    (fun i => (me_up_jn (by decide)).trans (h.sr i))
    (fun i => (me_up_jn (by decide)).trans (h.gl i))
    (fun i => (me_up_jn (by decide)).trans (h.wd i))
    (fun i g0 => (me_up_jn (by decide)).trans (h.bo i g0))
    (fun i => by show (me_up μ 8 x 7 (me_N v)) 8 i 7 = me_N ((me_fu a.pt x v) i); rw [me_up_ap, me_fu_ap]; by_cases e : i = x; simp [e]; simp [e]; exact h.pt i)
    (fun i => (me_up_jn (by decide)).trans (h.tk i))
    (fun i g0 => (me_up_jn (by decide)).trans (h.hd i g0))
    (fun i => (me_up_jn (by decide)).trans (h.ma i))
    (fun i g0 => (me_up_jn (by decide)).trans (h.dn i g0))
    (fun i => (me_up_jn (by decide)).trans (h.pl i))
    (fun i => (me_up_jn (by decide)).trans (h.ad i))
    (fun i g0 => (me_up_jn (by decide)).trans (h.an i g0))
    ((me_up_kn (by decide)).trans (h.nt))
    (fun i g0 => (me_up_kn (by decide)).trans (h.tn i g0))
    (fun i j g0 g1 => (me_up_kn (by decide)).trans (h.tr i j g0 g1))
    (fun n g0 => (me_up_kn (by decide)).trans (h.aw n g0))
    (fun n k g0 g1 => (me_up_kn (by decide)).trans (h.lr n k g0 g1))
    (fun n c g0 g1 => (me_up_kn (by decide)).trans (h.fp n c g0 g1))
    (fun r g0 => (me_up_kn (by decide)).trans (h.qn r g0))
    (fun r g0 => (me_up_kn (by decide)).trans (h.qp r g0))
    (fun r g0 => (me_up_kn (by decide)).trans (h.ro r g0))
    (fun r g0 => (me_up_kn (by decide)).trans (h.rh r g0))
    (fun r g0 => (me_up_kn (by decide)).trans (h.rg r g0))
    (fun r j e g0 g1 => (me_up_kn (by decide)).trans (h.q1 r j e g0 g1))
    (fun r j e g0 g1 => (me_up_kn (by decide)).trans (h.q2 r j e g0 g1))
    (fun r j e g0 g1 => (me_up_kn (by decide)).trans (h.q3 r j e g0 g1))
    (fun n g0 => (me_up_kn (by decide)).trans (h.dp n g0))
    (fun n g0 => (me_up_kn (by decide)).trans (h.ln n g0))
    (fun n g0 => (me_up_kn (by decide)).trans (h.ca n g0))
    (fun n g0 => (me_up_kn (by decide)).trans (h.co n g0))
    (fun n g0 => (me_up_kn (by decide)).trans (h.fa n g0))
    (fun n j g0 g1 => (me_up_kn (by decide)).trans (h.mm n j g0 g1))
    (fun n j g0 g1 => (me_up_kn (by decide)).trans (h.sk n j g0 g1))
    (fun n j g0 g1 => (me_up_kn (by decide)).trans (h.nm n j g0 g1))
    (fun n j g0 g1 => (me_up_kn (by decide)).trans (h.nu n j g0 g1))
    ((me_up_kn (by decide)).trans (h.wy))
    ((me_up_kn (by decide)).trans (h.bt))
theorem me_RC.w_tk {a : me_S} {μ : me_M} (h : me_RC a μ) (x : Nat) (v : Nat) : me_RC (me_S.s_tk a (me_fu a.tk x v)) (me_up μ 8 x 8 (me_N v)) :=
  me_RC.mk ((me_up_kn (by decide)).trans (h.rp))
    ((me_up_kn (by decide)).trans (h.nn))
    (fun n d g0 g1 => (me_up_kn (by decide)).trans (h.ah n d g0 g1))
    (fun n d g0 g1 => (me_up_kn (by decide)).trans (h.fl n d g0 g1))
    (fun n g0 => (me_up_kn (by decide)).trans (h.cl n g0))
    (fun n g0 => (me_up_kn (by decide)).trans (h.li n g0))
    ((me_up_kn (by decide)).trans (h.np))
    ((me_up_kn (by decide)).trans (h.ow))
    (fun i g0 => (me_up_jn (by decide)).trans (h.p0 i g0))
    (fun i => (me_up_jn (by decide)).trans (h.kd i))
    (fun i => (me_up_jn (by decide)).trans (h.st i))
    (fun i => (me_up_jn (by decide)).trans (h.sr i))
    (fun i => (me_up_jn (by decide)).trans (h.gl i))
    (fun i => (me_up_jn (by decide)).trans (h.wd i))
    (fun i g0 => (me_up_jn (by decide)).trans (h.bo i g0))
    (fun i => (me_up_jn (by decide)).trans (h.pt i))
    (fun i => by show (me_up μ 8 x 8 (me_N v)) 8 i 8 = me_N ((me_fu a.tk x v) i); rw [me_up_ap, me_fu_ap]; by_cases e : i = x; simp [e]; simp [e]; exact h.tk i)
    (fun i g0 => (me_up_jn (by decide)).trans (h.hd i g0))
    (fun i => (me_up_jn (by decide)).trans (h.ma i))
    (fun i g0 => (me_up_jn (by decide)).trans (h.dn i g0))
    (fun i => (me_up_jn (by decide)).trans (h.pl i))
    (fun i => (me_up_jn (by decide)).trans (h.ad i))
    (fun i g0 => (me_up_jn (by decide)).trans (h.an i g0))
    ((me_up_kn (by decide)).trans (h.nt))
    (fun i g0 => (me_up_kn (by decide)).trans (h.tn i g0))
    (fun i j g0 g1 => (me_up_kn (by decide)).trans (h.tr i j g0 g1))
    (fun n g0 => (me_up_kn (by decide)).trans (h.aw n g0))
    (fun n k g0 g1 => (me_up_kn (by decide)).trans (h.lr n k g0 g1))
    (fun n c g0 g1 => (me_up_kn (by decide)).trans (h.fp n c g0 g1))
    (fun r g0 => (me_up_kn (by decide)).trans (h.qn r g0))
    (fun r g0 => (me_up_kn (by decide)).trans (h.qp r g0))
    (fun r g0 => (me_up_kn (by decide)).trans (h.ro r g0))
    (fun r g0 => (me_up_kn (by decide)).trans (h.rh r g0))
    (fun r g0 => (me_up_kn (by decide)).trans (h.rg r g0))
    (fun r j e g0 g1 => (me_up_kn (by decide)).trans (h.q1 r j e g0 g1))
    (fun r j e g0 g1 => (me_up_kn (by decide)).trans (h.q2 r j e g0 g1))
    (fun r j e g0 g1 => (me_up_kn (by decide)).trans (h.q3 r j e g0 g1))
    (fun n g0 => (me_up_kn (by decide)).trans (h.dp n g0))
    (fun n g0 => (me_up_kn (by decide)).trans (h.ln n g0))
    (fun n g0 => (me_up_kn (by decide)).trans (h.ca n g0))
    (fun n g0 => (me_up_kn (by decide)).trans (h.co n g0))
    (fun n g0 => (me_up_kn (by decide)).trans (h.fa n g0))
    (fun n j g0 g1 => (me_up_kn (by decide)).trans (h.mm n j g0 g1))
    (fun n j g0 g1 => (me_up_kn (by decide)).trans (h.sk n j g0 g1))
    (fun n j g0 g1 => (me_up_kn (by decide)).trans (h.nm n j g0 g1))
    (fun n j g0 g1 => (me_up_kn (by decide)).trans (h.nu n j g0 g1))
    ((me_up_kn (by decide)).trans (h.wy))
    ((me_up_kn (by decide)).trans (h.bt))
