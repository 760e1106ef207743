/-! THE GHOST STATE: what both programs hold, as numbers and lists -/
structure me_S where
  w : Nat
  h : Nat
  rp : Nat
  wy : Int32
  bt : Nat
  np : Nat
  ow : Nat
  kd : Nat → Int32
  st : Nat → Int32
  sr : Nat → Nat
  gl : Nat → Nat
  wd : Nat → Int32
  bo : Nat → Nat
  pt : Nat → Nat
  tk : Nat → Nat
  hd : Nat → Option Nat
  ma : Nat → Nat
  dn : Nat → Option Nat
  pl : Nat → Nat
  ad : Nat → Int32
  an : Nat → Option Nat
  q : Nat → List (Nat × Nat × Nat)
  ro : Nat → Option Nat
  rh : Nat → Option Nat
  rg : Nat → Nat
  lr : Nat → Nat
  fp : Nat → Nat
  fl : Nat → Nat → Int32
  aw : Nat → Bool
  mm : Nat → Nat → Int32
  sk : Nat → Nat → Int32
  dp : Nat → Nat
  nm : Nat → Nat → Int32
  nu : Nat → Nat → Int32
  ln : Nat → Nat
  ca : Nat → Nat
  co : Nat → Int32
  fa : Nat → Int32
  nt : Nat
  tn : Nat → Nat
  tr : Nat → Nat → Nat
/-- the node behind a link -/
def me_nb (w h n d : Nat) : Option Nat :=
  match d with
  | 0 => if n % w + 1 < w then some (n + 1) else none
  | 1 => if 0 < n % w then some (n - 1) else none
  | 2 => if n / w + 1 < h then some (n + w) else none
  | 3 => if 0 < n / w then some (n - w) else none
  | _ => none
def me_bi (b : Bool) : Int32 := if b = true then 1 else 0
def me_ni (b : Bool) : Int32 := if b = true then 0 else 1
/-- a function of two places, written at one -/
def me_fu2 {α : Type} (f : Nat → Nat → α) (i j : Nat) (v : α) : Nat → Nat → α := fun i' j' => if i' = i ∧ j' = j then v else f i' j'
/-- what the class's cells hold -/
structure me_RC (a : me_S) (μ : me_M) : Prop where
  rp : μ 0 0 9 = me_N a.rp
  nn : μ 1 0 4 = me_N (a.w * a.h)
  ah : ∀ n d, n < a.w * a.h → d < 4 → μ 2 0 (n * 4 + d) = me_Op (me_nb a.w a.h n d)
  fl : ∀ n d, n < 16 → d < 4 → μ 3 0 (n * 4 + d) = a.fl n d
  cl : ∀ n, n < a.w * a.h → μ 4 0 n = me_N (n % a.w)
  li : ∀ n, n < a.w * a.h → μ 5 0 n = me_N (n / a.w)
  np : μ 6 0 1 = me_N a.np
  ow : μ 6 0 2 = me_N a.ow
  p0 : ∀ i, i < 200 → μ 8 i 0 = me_N i
  kd : ∀ i, μ 8 i 1 = a.kd i
  st : ∀ i, μ 8 i 2 = a.st i
  sr : ∀ i, μ 8 i 3 = me_N (a.sr i)
  gl : ∀ i, μ 8 i 4 = me_N (a.gl i)
  wd : ∀ i, μ 8 i 5 = a.wd i
  bo : ∀ i, i < a.np → μ 8 i 6 = me_N (a.bo i + 1)
  pt : ∀ i, μ 8 i 7 = me_N (a.pt i)
  tk : ∀ i, μ 8 i 8 = me_N (a.tk i)
  hd : ∀ i, i < a.np → μ 8 i 9 = me_Op (a.hd i)
  ma : ∀ i, μ 8 i 10 = me_N (a.ma i)
  dn : ∀ i, i < a.np → μ 8 i 11 = me_Op (a.dn i)
  pl : ∀ i, μ 8 i 12 = me_N (a.pl i)
  ad : ∀ i, μ 8 i 13 = a.ad i
  an : ∀ i, i < a.np → μ 8 i 14 = me_Op (a.an i)
  nt : μ 9 0 3 = me_N a.nt
  tn : ∀ i, i < a.nt → μ 10 0 i = me_N (a.tn i)
  tr : ∀ i j, i < 8 → j < 8 → μ 11 0 (i * 8 + j) = me_N (a.tr i j)
  aw : ∀ n, n < 16 → μ 13 n 3 = me_bi (a.aw n)
  lr : ∀ n k, n < 16 → k < 10 → μ 15 n k = me_N ((a.lr (10 * n + k) + 1) % 5)
  fp : ∀ n c, n < 16 → c < 2 → μ 16 n c = me_N (a.fp (2 * n + c))
  qn : ∀ r, r < 160 → μ 17 r 3 = me_N (a.q r).length
  qp : ∀ r, r < 160 → μ 17 r 4 = me_N a.rp
  ro : ∀ r, r < 160 → μ 17 r 5 = me_Op (a.ro r)
  rh : ∀ r, r < 160 → μ 17 r 6 = me_Op (a.rh r)
  rg : ∀ r, r < 160 → μ 17 r 7 = me_N (a.rg r)
  q1 : ∀ r j e, r < 160 → (a.q r)[j]? = some e → μ 18 r j = me_N e.1
  q2 : ∀ r j e, r < 160 → (a.q r)[j]? = some e → μ 19 r j = me_N e.2.1
  q3 : ∀ r j e, r < 160 → (a.q r)[j]? = some e → μ 20 r j = me_N e.2.2
  dp : ∀ n, n < 16 → μ 22 n 4 = me_N (a.dp n)
  ln : ∀ n, n < 16 → μ 22 n 5 = me_N (a.ln n)
  ca : ∀ n, n < 16 → μ 22 n 6 = me_N (a.ca n)
  co : ∀ n, n < 16 → μ 22 n 7 = a.co n
  fa : ∀ n, n < 16 → μ 22 n 8 = a.fa n
  mm : ∀ n j, n < 16 → j < 8 → μ 23 n j = a.mm n j
  sk : ∀ n j, n < 16 → j < a.dp n → μ 24 n j = a.sk n j
  nm : ∀ n j, n < 16 → j < a.ln n → μ 25 n j = a.nm n j
  nu : ∀ n j, n < 16 → j < a.ln n → μ 26 n j = a.nu n j
  wy : μ 27 0 4 = a.wy
  bt : μ 30 0 5 = me_N a.bt
/-- what the reference's cells hold -/
structure me_RM (a : me_S) (μ : me_M) : Prop where
  w : μ 36 0 0 = me_N a.w
  h : μ 36 0 1 = me_N a.h
  rp : μ 36 0 2 = me_N a.rp
  wy : μ 36 0 3 = a.wy
  bt : μ 36 0 4 = me_N a.bt
  np : μ 36 0 19 = me_N a.np
  nt : μ 36 0 41 = me_N a.nt
  kd : ∀ i, i < a.np → μ 37 0 i = a.kd i
  st : ∀ i, i < a.np → μ 38 0 i = a.st i
  sr : ∀ i, i < a.np → μ 39 0 i = me_N (a.sr i)
  gl : ∀ i, i < a.np → μ 40 0 i = me_N (a.gl i)
  wd : ∀ i, i < a.np → μ 41 0 i = a.wd i
  bo : ∀ i, i < a.np → μ 42 0 i = me_N (a.bo i)
  pt : ∀ i, i < a.np → μ 43 0 i = me_N (a.pt i)
  ma : ∀ i, i < a.np → μ 44 0 i = me_N (a.ma i)
  dn : ∀ i, i < a.np → a.st i = 100 ∨ a.st i = 114 → μ 45 0 i = me_Op (a.dn i)
  pl : ∀ i, i < a.np → a.kd i = 113 → μ 46 0 i = me_N (a.pl i)
  ad : ∀ i, i < a.np → a.kd i = 113 → (if μ 47 0 i = 0 then 0 else μ 48 0 i) = a.ad i
  an : ∀ i, i < a.np → μ 49 0 i = me_Op (a.an i)
  q1 : ∀ b k j e, b < 32 → k < 5 → (a.q (5 * b + k))[j]? = some e → μ 53 (5 * b + k) j = me_N (8 * e.1 + e.2.1)
  q3 : ∀ b k j e, b < 32 → k < 5 → (a.q (5 * b + k))[j]? = some e → μ 57 (5 * b + k) j = me_N e.2.2
  qn : ∀ b k, b < 32 → k < 5 → μ 60 b k = me_N (a.q (5 * b + k)).length
  ro : ∀ b k, b < 32 → k < 5 → μ 63 b k = me_Op (a.ro (5 * b + k))
  rh : ∀ b k, b < 32 → k < 5 → a.rh (5 * b + k) = none ∨ μ 66 b k = me_Op (a.rh (5 * b + k))
  rg : ∀ b k, b < 32 → k < 5 → μ 69 b k = me_N (a.rg (5 * b + k))
  lr : ∀ b k, b < 32 → k < 5 → μ 72 b k = me_N (a.lr (5 * b + k))
  fl : ∀ n d, n < 16 → d < 4 → μ 74 n d = a.fl n d
  mm : ∀ n j, n < 16 → j < 8 → μ 76 n j = a.mm n j
  sk : ∀ n j, n < 16 → j < a.dp n → μ 78 n j = a.sk n j
  nm : ∀ n j, n < 16 → j < a.ln n → μ 80 n j = a.nm n j
  nu : ∀ n j, n < 16 → j < a.ln n → μ 82 n j = a.nu n j
  tr : ∀ i j, i < 8 → j < 8 → μ 84 i j = me_N (a.tr i j)
  aw : ∀ n, n < 16 → μ 85 0 n = me_ni (a.aw n)
  dp : ∀ n, n < 16 → μ 87 0 n = me_N (a.dp n)
  ln : ∀ n, n < 16 → μ 88 0 n = me_N (a.ln n)
  co : ∀ n, n < 16 → μ 89 0 n = a.co n
  fa : ∀ n, n < 16 → a.co n = 120 → μ 90 0 n = a.fa n
  ca : ∀ n, n < 16 → μ 91 0 n = if a.co n = 45 then -1 else me_N (a.ca n)
  tn : ∀ i, i < a.nt → μ 92 0 i = me_N (a.tn i)
theorem me_RC.co_ {a : me_S} {μ μ' : me_M} (h : me_RC a μ) (e : ∀ k, k < 36 → μ' k = μ k) : me_RC a μ' := by
  constructor
  all_goals (intros; first
    | (rw [e _ (by decide)]; first | exact h.rp | exact h.nn | exact h.np | exact h.ow | exact h.nt | exact h.wy | exact h.bt)
    | (rw [e _ (by decide)]; first | (apply h.ah <;> assumption) | (apply h.fl <;> assumption) | (apply h.cl <;> assumption) | (apply h.li <;> assumption) | (apply h.p0 <;> assumption) | exact h.kd _ | exact h.st _ | exact h.sr _ | exact h.gl _ | exact h.wd _ | (apply h.bo <;> assumption) | exact h.pt _ | exact h.tk _ | (apply h.hd <;> assumption) | exact h.ma _ | (apply h.dn <;> assumption) | exact h.pl _ | exact h.ad _ | (apply h.an <;> assumption) | (apply h.tn <;> assumption) | (apply h.tr <;> assumption) | (apply h.aw <;> assumption) | (apply h.lr <;> assumption) | (apply h.fp <;> assumption) | (apply h.qn <;> assumption) | (apply h.qp <;> assumption) | (apply h.ro <;> assumption) | (apply h.rh <;> assumption) | (apply h.rg <;> assumption) | (apply h.q1 <;> assumption) | (apply h.q2 <;> assumption) | (apply h.q3 <;> assumption) | (apply h.dp <;> assumption) | (apply h.ln <;> assumption) | (apply h.ca <;> assumption) | (apply h.co <;> assumption) | (apply h.fa <;> assumption) | (apply h.mm <;> assumption) | (apply h.sk <;> assumption) | (apply h.nm <;> assumption) | (apply h.nu <;> assumption)))
theorem me_RM.co_ {a : me_S} {μ μ' : me_M} (h : me_RM a μ) (e : ∀ k, 36 ≤ k → (∀ i j, k = 36 → j = 42 ∨ μ' k i j = μ k i j) ∧ (¬ k = 36 → ¬ k = 86 → ¬ k = 95 → μ' k = μ k)) : me_RM a μ' := by
  have e0 : ∀ j, ¬ j = 42 → μ' 36 0 j = μ 36 0 j := fun j hj => ((e 36 (by decide)).1 0 j rfl).resolve_left hj
  have e1 : ∀ k, 36 ≤ k → ¬ k = 36 → ¬ k = 86 → ¬ k = 95 → μ' k = μ k := fun k hk => (e k hk).2
  constructor
  case ad => intro i h1 h2; rw [e1 47 (by decide) (by decide) (by decide) (by decide), e1 48 (by decide) (by decide) (by decide) (by decide)]; exact h.ad i h1 h2
  all_goals (intros; first
    | (rw [e0 _ (by decide)]; first | exact h.w | exact h.h | exact h.rp | exact h.wy | exact h.bt | exact h.np | exact h.nt)
    | (rw [e1 _ (by decide) (by decide) (by decide) (by decide)]; first | (apply h.kd <;> assumption) | (apply h.st <;> assumption) | (apply h.sr <;> assumption) | (apply h.gl <;> assumption) | (apply h.wd <;> assumption) | (apply h.bo <;> assumption) | (apply h.pt <;> assumption) | (apply h.ma <;> assumption) | (apply h.dn <;> assumption) | (apply h.pl <;> assumption) | (apply h.an <;> assumption) | (apply h.q1 <;> assumption) | (apply h.q3 <;> assumption) | (apply h.qn <;> assumption) | (apply h.ro <;> assumption) | (apply h.rh <;> assumption) | (apply h.rg <;> assumption) | (apply h.lr <;> assumption) | (apply h.fl <;> assumption) | (apply h.mm <;> assumption) | (apply h.sk <;> assumption) | (apply h.nm <;> assumption) | (apply h.nu <;> assumption) | (apply h.tr <;> assumption) | (apply h.aw <;> assumption) | (apply h.dp <;> assumption) | (apply h.ln <;> assumption) | (apply h.co <;> assumption) | (apply h.fa <;> assumption) | (apply h.ca <;> assumption) | (apply h.tn <;> assumption)))
