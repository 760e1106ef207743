/-! BITS of a word below 65536 -/
def gh_allB (P : Nat → Bool) : Nat → Bool
  | 0 => true
  | n + 1 => P n && gh_allB P n
theorem gh_allB_of {P : Nat → Bool} : ∀ (n : Nat), gh_allB P n = true → ∀ k, k < n → P k = true := by
  intro n
  induction n with
  | zero => intro _ k hk; omega
  | succ n ih =>
    intro h k hk
    have h : (P n && gh_allB P n) = true := h
    rw [Bool.and_eq_true] at h
    by_cases e : k = n
    · rw [e]; exact h.1
    · exact ih h.2 k (by omega)
def gh_bits (k : Nat) : Nat → Nat
  | 0 => 0
  | n + 1 => k / 2 ^ n % 2 + gh_bits k n
def gh_bc (k : Nat) : Nat :=
  (fun x1 => (fun x2 => (fun x3 => (fun x4 => (fun x5 => x5 &&& 63) (x4 + x4 / 65536)) (x3 + x3 / 256)) ((x2 + x2 / 16) &&& 252645135)) ((x1 &&& 858993459) + (x1 / 4 &&& 858993459))) (k - (k / 2 &&& 1431655765))
def gh_bck (b : Nat) : Bool := gh_allB (fun hi => gh_allB (fun lo => Nat.beq (gh_bc ((32 * b + hi) * 256 + lo)) (gh_bits ((32 * b + hi) * 256 + lo) 16)) 256) 32
theorem gh_bck0 : gh_bck 0 = true := by decide +kernel
theorem gh_bck1 : gh_bck 1 = true := by decide +kernel
theorem gh_bck2 : gh_bck 2 = true := by decide +kernel
theorem gh_bck3 : gh_bck 3 = true := by decide +kernel
theorem gh_bck4 : gh_bck 4 = true := by decide +kernel
theorem gh_bck5 : gh_bck 5 = true := by decide +kernel
theorem gh_bck6 : gh_bck 6 = true := by decide +kernel
theorem gh_bck7 : gh_bck 7 = true := by decide +kernel
theorem gh_bcka : ∀ b, b < 8 → gh_bck b = true := fun b hb => match b, hb with
  | 0, _ => gh_bck0
  | 1, _ => gh_bck1
  | 2, _ => gh_bck2
  | 3, _ => gh_bck3
  | 4, _ => gh_bck4
  | 5, _ => gh_bck5
  | 6, _ => gh_bck6
  | 7, _ => gh_bck7
  | b + 8, h => absurd h (by omega)
theorem gh_bc_ok {k : Nat} (h : k < 65536) : gh_bc k = gh_bits k 16 := by
  have h1 := gh_allB_of 32 (gh_bcka (k / 8192) (by omega)) (k / 256 % 32) (by omega)
  have h2 : Nat.beq (gh_bc ((32 * (k / 8192) + k / 256 % 32) * 256 + k % 256)) (gh_bits ((32 * (k / 8192) + k / 256 % 32) * 256 + k % 256) 16) = true := gh_allB_of 256 h1 (k % 256) (by omega)
  have e : (32 * (k / 8192) + k / 256 % 32) * 256 + k % 256 = k := by omega
  rw [e] at h2
  exact Nat.eq_of_beq_eq_true h2
theorem me_N_ushr {a b : Nat} (ha : a < 2147483648) (hb : b < 32) : me_ushr (me_N a) (me_N b) = me_N (a / 2 ^ b) := by
  unfold me_ushr
  have h1 : (me_N a).toUInt32 = UInt32.ofNat a := rfl
  have h2 : (me_N b).toUInt32 &&& Int32.toUInt32 31 = UInt32.ofNat b := by
    have : ∀ b, b < 32 → (me_N b).toUInt32 &&& Int32.toUInt32 31 = UInt32.ofNat b := by decide +kernel
    exact this b hb
  rw [h1, h2]
  have h3 : UInt32.ofNat a >>> UInt32.ofNat b = UInt32.ofNat (a / 2 ^ b) := by
    apply UInt32.toNat_inj.mp
    have h5 : a / 2 ^ b ≤ a := Nat.div_le_self _ _
    rw [UInt32.toNat_shiftRight, UInt32.toNat_ofNat', UInt32.toNat_ofNat', UInt32.toNat_ofNat', Nat.mod_eq_of_lt (show a < 2 ^ 32 by omega), Nat.mod_eq_of_lt (show b < 2 ^ 32 by omega), Nat.mod_eq_of_lt (show b < 32 by omega), Nat.mod_eq_of_lt (show a / 2 ^ b < 2 ^ 32 by omega), Nat.shiftRight_eq_div_pow]
  rw [h3]
  rfl
theorem me_N_sshr {a b : Nat} (ha : a < 65536) (hb : b < 16) : (me_N a >>> (me_N b &&& 31)) = me_N (a / 2 ^ b) := by
  have h2 : ∀ b, b < 16 → me_N b &&& 31 = me_N b := by decide +kernel
  rw [h2 b hb]
  apply Int32.toInt_inj.mp
  have h5 : a / 2 ^ b ≤ a := Nat.div_le_self _ _
  have h3 : ∀ b, b < 16 → ((me_N b).toBitVec.smod 32).toNat = b := by decide +kernel
  have h4 : (me_N a).toBitVec.toInt = (a : Int) := me_N_toInt (by omega)
  rw [me_N_toInt (by omega)]
  show (me_N a >>> me_N b).toBitVec.toInt = _
  rw [Int32.toBitVec_shiftRight]
  show (BitVec.sshiftRight _ ((me_N b).toBitVec.smod 32).toNat).toInt = _
  rw [h3 b hb, BitVec.toInt_sshiftRight, h4, Int.shiftRight_eq_div_pow]
  rfl
theorem me_N_and {a b : Nat} (ha : a < 2147483648) (hb : b < 2147483648) : me_N a &&& me_N b = me_N (a &&& b) := by
  apply Int32.toBitVec_inj.mp
  rw [Int32.toBitVec_and]
  show BitVec.ofNat 32 a &&& BitVec.ofNat 32 b = BitVec.ofNat 32 (a &&& b)
  apply BitVec.eq_of_toNat_eq
  have h5 : a &&& b ≤ a := Nat.and_le_left
  rw [BitVec.toNat_and, BitVec.toNat_ofNat, BitVec.toNat_ofNat, BitVec.toNat_ofNat, Nat.mod_eq_of_lt (show a < 2 ^ 32 by omega), Nat.mod_eq_of_lt (show b < 2 ^ 32 by omega), Nat.mod_eq_of_lt (show a &&& b < 2 ^ 32 by omega)]
