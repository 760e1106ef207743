/-! WORDS OF THE FUNCTIONS that the walks are held against -/
def me_FU : Nat := 1000
def me_gd {α : Type} (b : Bool) (k : Option α) : Option α := match b with
  | true => k
  | false => none
theorem me_gs {α : Type} {b : Bool} {k : Option α} {o : α} (h : me_gd b k = some o) : b = true ∧ k = some o := by
  cases b with
  | true => exact ⟨rfl, h⟩
  | false => cases h
def me_bd {α β : Type} (x : Option α) (f : α → Option β) : Option β := match x with
  | some a => f a
  | none => none
theorem me_bs {α β : Type} {x : Option α} {f : α → Option β} {o : β} (h : me_bd x f = some o) : ∃ a, x = some a ∧ f a = some o := by
  cases x with
  | some a => exact ⟨a, rfl, h⟩
  | none => cases h
def me_b2 {α β γ : Type} (x : Option (α × β)) (f : α → β → Option γ) : Option γ := match x with
  | some a => f a.1 a.2
  | none => none
theorem me_bs2 {α β γ : Type} {x : Option (α × β)} {f : α → β → Option γ} {o : γ} (h : me_b2 x f = some o) : ∃ a b, x = some (a, b) ∧ f a b = some o := by
  cases x with
  | some a => exact ⟨a.1, a.2, rfl, h⟩
  | none => cases h
def me_lt {α β : Type} (x : α) (f : α → Option β) : Option β := f x
theorem me_lts {α β : Type} {x : α} {f : α → Option β} {o : β} (h : me_lt x f = some o) : ∃ a, a = x ∧ f a = some o := ⟨x, rfl, h⟩
def me_oq {α β : Type} (x : Option α) (a : Option β) (f : α → Option β) : Option β := match x with
  | some i => f i
  | none => a
theorem me_oqn {α β : Type} {a : Option β} {f : α → Option β} {o : β} (h : me_oq none a f = some o) : a = some o := h
theorem me_oqs {α β : Type} {i : α} {a : Option β} {f : α → Option β} {o : β} (h : me_oq (some i) a f = some o) : f i = some o := h
/-- an exception goes on: a method without writing, with writing -/
def me_xb {α β : Type} (x : Except Nat α) (f : α → Option (Except Nat β)) : Option (Except Nat β) := match x with
  | .ok a => f a
  | .error k => some (.error k)
def me_xb2 {α β : Type} (x : Except Nat α) (μ : me_M) (f : α → Option (me_M × Except Nat β)) : Option (me_M × Except Nat β) := match x with
  | .ok a => f a
  | .error k => some (μ, .error k)
theorem me_xbo {α β : Type} {a : α} {f : α → Option (Except Nat β)} {o : Except Nat β} (h : me_xb (.ok a) f = some o) : f a = some o := h
theorem me_xbe {α β : Type} {k : Nat} {f : α → Option (Except Nat β)} {o : Except Nat β} (h : me_xb (.error k) f = some o) : some (.error k) = some o := h
theorem me_xb2o {α β : Type} {a : α} {μ : me_M} {f : α → Option (me_M × Except Nat β)} {o : me_M × Except Nat β} (h : me_xb2 (.ok a) μ f = some o) : f a = some o := h
theorem me_xb2e {α β : Type} {k : Nat} {μ : me_M} {f : α → Option (me_M × Except Nat β)} {o : me_M × Except Nat β} (h : me_xb2 (.error k) μ f = some o) : some (μ, .error k) = some o := h
def me_xc {α : Type} (g : α → Option me_V) : Except Nat α → Except Nat (Option me_V)
  | .ok a => .ok (g a)
  | .error k => .error k
theorem me_ip {α : Type} {c : Prop} [Decidable c] {a b : Option α} {o : α} (hc : c) (h : (if c then a else b) = some o) : a = some o := by rwa [if_pos hc] at h
theorem me_in {α : Type} {c : Prop} [Decidable c] {a b : Option α} {o : α} (hc : ¬ c) (h : (if c then a else b) = some o) : b = some o := by rwa [if_neg hc] at h
def me_rem (x y : Int32) : Int32 := x - (x / y) * y
def me_inc (x : Int32) (n : Int) : Int32 := x + Int32.ofInt n
def me_nz (x : Int32) : Bool := decide (¬ x = 0)
theorem me_nzs {x : Int32} (h : me_nz x = true) : ¬ x = 0 := of_decide_eq_true h
def me_i2c' (x : Int32) : Int32 := (x.toUInt32 % 65536).toInt32
def me_ushr (x y : Int32) : Int32 := (x.toUInt32 >>> (y.toUInt32 &&& Int32.toUInt32 31)).toInt32
def me_abs' (x : Int32) : Int32 := if 0 ≤ x then x else 0 - x
def me_max' (x y : Int32) : Int32 := if x < y then y else x
theorem me_nri (x : Int32) : me_nr .int x = true := by simp [me_nr, narrow, fits]
section MeMore
variable {X : me_X} {own : String} {cc : ByteArray} {nL : Nat} {ret : Option FieldType} {B B0 : me_B} {nc ns : Nat} {μ : me_M} {pc : Nat} {L : List (Nat × me_V)} {st : List me_V}
theorem me_nm {x y : Int32} (h : y = x) (k : me_Z X B nc ns μ pc L (me_i y :: st)) : me_Z X B nc ns μ pc L (me_i x :: st) := h ▸ k
theorem me_dropI (L' : List (Nat × me_V)) (ks : List Nat) (h : ks.map (fun k => L[k]?) = L'.map some) (k : me_Z X B nc ns μ pc L' st) : me_Z X B nc ns μ pc L st := by
  refine me_drop L' (fun q hq => ?_) k
  have h1 : some q ∈ L'.map some := List.mem_map.mpr ⟨q, hq, rfl⟩
  rw [← h] at h1
  obtain ⟨n, -, hn⟩ := List.mem_map.mp h1
  exact List.mem_of_getElem? hn
theorem me_wid (nc' ns' : Nat) (h1 : nc ≤ nc') (h2 : ns ≤ ns') (k : me_Z X B nc' ns' μ pc L st) : me_Z X B nc ns μ pc L st := by
  obtain ⟨p, l, e, R, s, m, args, below, meth, c, Q, E, A0, nL'⟩ := X
  intro H locs ls hW hS hl hL hst hJ hA
  exact W.widen h1 h2 (k H locs ls hW hS hl hL hst hJ hA)
end MeMore
