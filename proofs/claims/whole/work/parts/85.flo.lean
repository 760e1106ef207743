/-! FLOATING ANSWERS: no NaN -/
theorem gh_b64 : FP.Core.b64.tails = 4503599627370496 ∧ FP.Core.b64.exps = 2048 ∧ 2 ^ FP.Core.b64.p = 9007199254740992 ∧ FP.Core.b64.qmin = -1074 ∧ FP.Core.b64.qmax = 971 := by decide +kernel
def gh_gd : FP.Core.Datum → Prop
  | .nan => False
  | .inf _ => True
  | .fin _ c q => c < 9007199254740992 ∧ q ≤ 971
theorem gh_enc {d : FP.Core.Datum} (h : gh_gd d) : FP.Core.encode FP.Core.b64 d % 9223372036854775808 ≤ 9218868437227405312 := by
  obtain ⟨e1, e2, e3, e4, e5⟩ := gh_b64
  cases d with
  | nan => exact h.elim
  | inf s =>
    unfold FP.Core.encode FP.Core.assemble
    rw [e1, e2]
    cases s <;> decide
  | fin s c q =>
    obtain ⟨h1, h2⟩ := h
    unfold FP.Core.encode FP.Core.assemble
    dsimp only
    rw [e1, e2, e4]
    have hs : s.toNat ≤ 1 := by cases s <;> decide
    split
    · omega
    · omega
theorem gh_dec {n : Nat} (h : n % 9223372036854775808 ≤ 9218868437227405312) : ¬ FP.Core.decode FP.Core.b64 n = .nan := by
  obtain ⟨e1, e2, e3, e4, e5⟩ := gh_b64
  unfold FP.Core.decode FP.Core.fieldE FP.Core.fieldT
  rw [e1, e2]
  intro q
  split at q
  · split at q
    · cases q
    · omega
  · split at q <;> cases q
theorem gh_rr {s : Bool} {a b : Nat} {e : Int} : gh_gd (FP.Core.roundRatio FP.Core.b64 s a b e) := by
  obtain ⟨e1, e2, e3, e4, e5⟩ := gh_b64
  unfold FP.Core.roundRatio FP.Core.roundAt FP.Core.settle FP.Core.bound
  rw [e1, e3, e4, e5]
  split
  · exact ⟨by decide, by decide⟩
  · split
    · split
      · exact ⟨by assumption, by assumption⟩
      · trivial
    · split
      · exact ⟨by decide, by assumption⟩
      · trivial
theorem gh_i2d (x : Int32) : ¬ FP.Core.decode FP.Core.b64 (FP.i2d x).toNat = .nan := by
  refine gh_dec ?_
  show (UInt64.ofNat (FP.Core.encode FP.Core.b64 (FP.Core.round FP.Core.b64 (FP.Core.ofInt x.toInt)))).toNat % _ ≤ _
  have h := gh_enc (d := FP.Core.round FP.Core.b64 (FP.Core.ofInt x.toInt)) gh_rr
  rw [UInt64.toNat_ofNat']
  omega
theorem gh_dn : ∀ n, n < 201 → 0 < n → (match FP.Core.decode FP.Core.b64 (FP.i2d (me_N n)).toNat with | .fin _ d _ => decide (d ≠ 0) | _ => false) = true := by decide +kernel
theorem gh_ddiv (x : Int32) {n : Nat} (h1 : 0 < n) (h2 : n < 201) : me_n64 (FP.ddiv (FP.i2d x) (FP.i2d (me_N n))) = true := by
  have hd := gh_dn n h2 h1
  have hx := gh_i2d x
  have hq : gh_gd (FP.Core.quotient FP.Core.b64 (FP.Core.decode FP.Core.b64 (FP.i2d x).toNat) (FP.Core.decode FP.Core.b64 (FP.i2d (me_N n)).toNat)) := by
    generalize FP.Core.decode FP.Core.b64 (FP.i2d x).toNat = X at hx ⊢
    generalize FP.Core.decode FP.Core.b64 (FP.i2d (me_N n)).toNat = Y at hd ⊢
    cases Y with
    | nan => cases hd
    | inf s => cases hd
    | fin t d r =>
      have hd : d ≠ 0 := of_decide_eq_true hd
      cases X with
      | nan => exact absurd rfl hx
      | inf s => trivial
      | fin s c q =>
        show gh_gd (if d = 0 then _ else _)
        rw [if_neg hd]
        exact gh_rr
  have h := gh_enc hq
  unfold me_n64
  rw [decide_eq_true_eq, UInt64.le_iff_toNat_le, UInt64.toNat_and, show (0x7fffffffffffffff : UInt64).toNat = 2 ^ 63 - 1 from rfl, Nat.and_two_pow_sub_one_eq_mod]
  show (UInt64.ofNat (FP.Core.encode FP.Core.b64 _)).toNat % 2 ^ 63 ≤ 9218868437227405312
  rw [UInt64.toNat_ofNat']
  omega
theorem gh_b64f : FP.Core.b32.tails = 8388608 ∧ FP.Core.b32.exps = 256 ∧ 2 ^ FP.Core.b32.p = 16777216 ∧ FP.Core.b32.qmin = -149 ∧ FP.Core.b32.qmax = 104 := by decide +kernel
def gh_gdf : FP.Core.Datum → Prop
  | .nan => False
  | .inf _ => True
  | .fin _ c q => c < 16777216 ∧ q ≤ 104
theorem gh_encf {d : FP.Core.Datum} (h : gh_gdf d) : FP.Core.encode FP.Core.b32 d % 2147483648 ≤ 2139095040 := by
  obtain ⟨e1, e2, e3, e4, e5⟩ := gh_b64f
  cases d with
  | nan => exact h.elim
  | inf s =>
    unfold FP.Core.encode FP.Core.assemble
    rw [e1, e2]
    cases s <;> decide
  | fin s c q =>
    obtain ⟨h1, h2⟩ := h
    unfold FP.Core.encode FP.Core.assemble
    dsimp only
    rw [e1, e2, e4]
    have hs : s.toNat ≤ 1 := by cases s <;> decide
    split
    · omega
    · omega
theorem gh_decf {n : Nat} (h : n % 2147483648 ≤ 2139095040) : ¬ FP.Core.decode FP.Core.b32 n = .nan := by
  obtain ⟨e1, e2, e3, e4, e5⟩ := gh_b64f
  unfold FP.Core.decode FP.Core.fieldE FP.Core.fieldT
  rw [e1, e2]
  intro q
  split at q
  · split at q
    · cases q
    · omega
  · split at q <;> cases q
theorem gh_rrf {s : Bool} {a b : Nat} {e : Int} : gh_gdf (FP.Core.roundRatio FP.Core.b32 s a b e) := by
  obtain ⟨e1, e2, e3, e4, e5⟩ := gh_b64f
  unfold FP.Core.roundRatio FP.Core.roundAt FP.Core.settle FP.Core.bound
  rw [e1, e3, e4, e5]
  split
  · exact ⟨by decide, by decide⟩
  · split
    · split
      · exact ⟨by assumption, by assumption⟩
      · trivial
    · split
      · exact ⟨by decide, by assumption⟩
      · trivial
theorem gh_i2f (x : Int32) : ¬ FP.Core.decode FP.Core.b32 (FP.i2f x).toNat = .nan := by
  refine gh_decf ?_
  show (UInt32.ofNat (FP.Core.encode FP.Core.b32 (FP.Core.round FP.Core.b32 (FP.Core.ofInt x.toInt)))).toNat % _ ≤ _
  have h := gh_encf (d := FP.Core.round FP.Core.b32 (FP.Core.ofInt x.toInt)) gh_rrf
  rw [UInt32.toNat_ofNat']
  omega
theorem gh_dnf : ∀ n, n < 201 → 0 < n → (match FP.Core.decode FP.Core.b32 (FP.i2f (me_N n)).toNat with | .fin _ d _ => decide (d ≠ 0) | _ => false) = true := by decide +kernel
theorem gh_fdiv (x : Int32) {n : Nat} (h1 : 0 < n) (h2 : n < 201) : me_n32 (FP.fdiv (FP.i2f x) (FP.i2f (me_N n))) = true := by
  have hd := gh_dnf n h2 h1
  have hx := gh_i2f x
  have hq : gh_gdf (FP.Core.quotient FP.Core.b32 (FP.Core.decode FP.Core.b32 (FP.i2f x).toNat) (FP.Core.decode FP.Core.b32 (FP.i2f (me_N n)).toNat)) := by
    generalize FP.Core.decode FP.Core.b32 (FP.i2f x).toNat = X at hx ⊢
    generalize FP.Core.decode FP.Core.b32 (FP.i2f (me_N n)).toNat = Y at hd ⊢
    cases Y with
    | nan => cases hd
    | inf s => cases hd
    | fin t d r =>
      have hd : d ≠ 0 := of_decide_eq_true hd
      cases X with
      | nan => exact absurd rfl hx
      | inf s => trivial
      | fin s c q =>
        show gh_gdf (if d = 0 then _ else _)
        rw [if_neg hd]
        exact gh_rrf
  have h := gh_encf hq
  unfold me_n32
  rw [decide_eq_true_eq, UInt32.le_iff_toNat_le, UInt32.toNat_and, show (0x7fffffff : UInt32).toNat = 2 ^ 31 - 1 from rfl, Nat.and_two_pow_sub_one_eq_mod]
  show (UInt32.ofNat (FP.Core.encode FP.Core.b32 _)).toNat % 2 ^ 31 ≤ 2139095040
  rw [UInt32.toNat_ofNat']
  omega
theorem gh_cmp {d : FP.Core.Datum} (h : ¬ d = .nan) : FP.Core.order d d = some .eq := by
  cases d with
  | nan => exact absurd rfl h
  | inf s => cases s <;> rfl
  | fin s c q =>
    show some (compare _ _) = _
    exact congrArg some (by
      show compareOfLessAndEq _ _ = _
      unfold compareOfLessAndEq
      rw [if_neg (Int.lt_irrefl _), if_pos rfl])
theorem gh_f2d {v : UInt32} (h : ¬ FP.Core.decode FP.Core.b32 v.toNat = .nan) : me_n64 (FP.f2d v) = true ∧ ¬ FP.Core.decode FP.Core.b64 (FP.f2d v).toNat = .nan := by
  have h1 : FP.Core.fIsNaN v = false := decide_eq_false h
  have hq : gh_gd (FP.Core.round FP.Core.b64 (FP.Core.decode FP.Core.b32 v.toNat)) := by
    generalize FP.Core.decode FP.Core.b32 v.toNat = X at h ⊢
    cases X with
    | nan => exact absurd rfl h
    | inf s => trivial
    | fin s c q => exact gh_rr
  have h2 := gh_enc hq
  have h3 : FP.f2d v = UInt64.ofNat (FP.Core.encode FP.Core.b64 (FP.Core.round FP.Core.b64 (FP.Core.decode FP.Core.b32 v.toNat))) := by
    unfold FP.f2d
    rw [h1]
    rfl
  have h4 : (FP.f2d v).toNat % 9223372036854775808 ≤ 9218868437227405312 := by
    rw [h3, UInt64.toNat_ofNat']
    omega
  refine ⟨?_, gh_dec h4⟩
  unfold me_n64
  rw [decide_eq_true_eq, UInt64.le_iff_toNat_le, UInt64.toNat_and, show (0x7fffffffffffffff : UInt64).toNat = 2 ^ 63 - 1 from rfl, Nat.and_two_pow_sub_one_eq_mod]
  exact h4
theorem gh_n32 {r : UInt32} (h : me_n32 r = true) : ¬ FP.Core.decode FP.Core.b32 r.toNat = .nan := by
  unfold me_n32 at h
  rw [decide_eq_true_eq, UInt32.le_iff_toNat_le, UInt32.toNat_and, show (0x7fffffff : UInt32).toNat = 2 ^ 31 - 1 from rfl, Nat.and_two_pow_sub_one_eq_mod] at h
  exact gh_decf h
theorem gh_self {x : UInt64} (h : ¬ FP.Core.decode FP.Core.b64 x.toNat = .nan) : Op.cmpValue (FP.dcmp x x) .l = 0 := by
  have h1 : FP.dcmp x x = some .eq := gh_cmp h
  rw [h1]
  rfl
