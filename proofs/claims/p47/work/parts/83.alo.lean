/-! ONE PACKET ALONE: where its pieces are, by numbers: u j of them have come to the row j of its way or beyond it, u (D + 1) are taken; us: as the beat began -/
def gw_M (a : me_S) (us u : Nat → Nat) (x : Bool) (p c s g b D : Nat) (wn wd : Nat → Nat) : Prop :=
  (me_ch (a.kd p) = c) ∧
  (a.sr p = s) ∧
  (a.gl p = g) ∧
  (a.bo p = b) ∧
  (1 ≤ b ∧ b ≤ 4) ∧
  (c < 2) ∧
  (2 ≤ a.rp) ∧
  (p < a.np) ∧
  (gw_W x a.w a.h s g D wn wd) ∧
  (a.wy = if x = true then 120 else 121) ∧
  (∀ n d, a.fl n d = 0) ∧
  (∀ j, j ≤ D → u (j + 1) ≤ u j) ∧
  (u 0 ≤ b + 1) ∧
  (a.pt p = u 0) ∧
  (a.tk p = u (D + 1)) ∧
  (∀ j, j ≤ D → gp_R p (u (j + 1)) (u j) (a.q (gw_x c wn wd j))) ∧
  (∀ r, (∀ j, j ≤ D → ¬ r = gw_x c wn wd j) → a.q r = []) ∧
  (∀ j e, j ≤ D → e ∈ a.q (gw_x c wn wd j) → (e.2.2 = a.bt + 1 ↔ us j ≤ e.2.1)) ∧
  (∀ j e, j ≤ D → e ∈ a.q (gw_x c wn wd j) → e.2.2 ≤ a.bt + 1) ∧
  (∀ j, j ≤ D → (a.rg (gw_x c wn wd j) = a.bt + 1 ↔ us (j + 1) < u (j + 1))) ∧
  (∀ j, j ≤ D → a.ro (gw_x c wn wd j) = if 1 ≤ j ∧ 1 ≤ u j ∧ u (j + 1) ≤ b then some p else none) ∧
  (∀ j, j ≤ D → 1 ≤ u (j + 1) → u (j + 1) ≤ b → a.rh (gw_x c wn wd j) = some (if j = D then 4 else wd j)) ∧
  (u 0 = 0 → a.hd p = none) ∧
  (1 ≤ u (D + 1) → a.hd p = none) ∧
  (∀ j, j ≤ D → 1 ≤ u j → u (j + 1) = 0 → a.hd p = some (wn j)) ∧
  (∀ j, j ≤ D → 1 ≤ u j → a.aw (wn j) = true) ∧
  (u 0 = 0 → a.st p = 115) ∧
  (1 ≤ u 0 → u (D + 1) ≤ b → a.st p = 119) ∧
  (u (D + 1) = b + 1 → a.st p = 100)
theorem gw_M.mch {a : me_S} {us u : Nat → Nat} {x : Bool} {p c s g b D : Nat} {wn wd : Nat → Nat} (hyp : gw_M a us u x p c s g b D wn wd) : me_ch (a.kd p) = c := hyp.1
theorem gw_M.msr {a : me_S} {us u : Nat → Nat} {x : Bool} {p c s g b D : Nat} {wn wd : Nat → Nat} (hyp : gw_M a us u x p c s g b D wn wd) : a.sr p = s := hyp.2.1
theorem gw_M.mgl {a : me_S} {us u : Nat → Nat} {x : Bool} {p c s g b D : Nat} {wn wd : Nat → Nat} (hyp : gw_M a us u x p c s g b D wn wd) : a.gl p = g := hyp.2.2.1
theorem gw_M.mbo {a : me_S} {us u : Nat → Nat} {x : Bool} {p c s g b D : Nat} {wn wd : Nat → Nat} (hyp : gw_M a us u x p c s g b D wn wd) : a.bo p = b := hyp.2.2.2.1
theorem gw_M.mb {a : me_S} {us u : Nat → Nat} {x : Bool} {p c s g b D : Nat} {wn wd : Nat → Nat} (hyp : gw_M a us u x p c s g b D wn wd) : 1 ≤ b ∧ b ≤ 4 := hyp.2.2.2.2.1
theorem gw_M.mc {a : me_S} {us u : Nat → Nat} {x : Bool} {p c s g b D : Nat} {wn wd : Nat → Nat} (hyp : gw_M a us u x p c s g b D wn wd) : c < 2 := hyp.2.2.2.2.2.1
theorem gw_M.mrp {a : me_S} {us u : Nat → Nat} {x : Bool} {p c s g b D : Nat} {wn wd : Nat → Nat} (hyp : gw_M a us u x p c s g b D wn wd) : 2 ≤ a.rp := hyp.2.2.2.2.2.2.1
theorem gw_M.mnp {a : me_S} {us u : Nat → Nat} {x : Bool} {p c s g b D : Nat} {wn wd : Nat → Nat} (hyp : gw_M a us u x p c s g b D wn wd) : p < a.np := hyp.2.2.2.2.2.2.2.1
theorem gw_M.mW {a : me_S} {us u : Nat → Nat} {x : Bool} {p c s g b D : Nat} {wn wd : Nat → Nat} (hyp : gw_M a us u x p c s g b D wn wd) : gw_W x a.w a.h s g D wn wd := hyp.2.2.2.2.2.2.2.2.1
theorem gw_M.mwy {a : me_S} {us u : Nat → Nat} {x : Bool} {p c s g b D : Nat} {wn wd : Nat → Nat} (hyp : gw_M a us u x p c s g b D wn wd) : a.wy = if x = true then 120 else 121 := hyp.2.2.2.2.2.2.2.2.2.1
theorem gw_M.mfl {a : me_S} {us u : Nat → Nat} {x : Bool} {p c s g b D : Nat} {wn wd : Nat → Nat} (hyp : gw_M a us u x p c s g b D wn wd) : ∀ n d, a.fl n d = 0 := hyp.2.2.2.2.2.2.2.2.2.2.1
theorem gw_M.mum {a : me_S} {us u : Nat → Nat} {x : Bool} {p c s g b D : Nat} {wn wd : Nat → Nat} (hyp : gw_M a us u x p c s g b D wn wd) : ∀ j, j ≤ D → u (j + 1) ≤ u j := hyp.2.2.2.2.2.2.2.2.2.2.2.1
theorem gw_M.mu0 {a : me_S} {us u : Nat → Nat} {x : Bool} {p c s g b D : Nat} {wn wd : Nat → Nat} (hyp : gw_M a us u x p c s g b D wn wd) : u 0 ≤ b + 1 := hyp.2.2.2.2.2.2.2.2.2.2.2.2.1
theorem gw_M.mpt {a : me_S} {us u : Nat → Nat} {x : Bool} {p c s g b D : Nat} {wn wd : Nat → Nat} (hyp : gw_M a us u x p c s g b D wn wd) : a.pt p = u 0 := hyp.2.2.2.2.2.2.2.2.2.2.2.2.2.1
theorem gw_M.mtk {a : me_S} {us u : Nat → Nat} {x : Bool} {p c s g b D : Nat} {wn wd : Nat → Nat} (hyp : gw_M a us u x p c s g b D wn wd) : a.tk p = u (D + 1) := hyp.2.2.2.2.2.2.2.2.2.2.2.2.2.2.1
theorem gw_M.mq {a : me_S} {us u : Nat → Nat} {x : Bool} {p c s g b D : Nat} {wn wd : Nat → Nat} (hyp : gw_M a us u x p c s g b D wn wd) : ∀ j, j ≤ D → gp_R p (u (j + 1)) (u j) (a.q (gw_x c wn wd j)) := hyp.2.2.2.2.2.2.2.2.2.2.2.2.2.2.2.1
theorem gw_M.mqn {a : me_S} {us u : Nat → Nat} {x : Bool} {p c s g b D : Nat} {wn wd : Nat → Nat} (hyp : gw_M a us u x p c s g b D wn wd) : ∀ r, (∀ j, j ≤ D → ¬ r = gw_x c wn wd j) → a.q r = [] := hyp.2.2.2.2.2.2.2.2.2.2.2.2.2.2.2.2.1
theorem gw_M.mold {a : me_S} {us u : Nat → Nat} {x : Bool} {p c s g b D : Nat} {wn wd : Nat → Nat} (hyp : gw_M a us u x p c s g b D wn wd) : ∀ j e, j ≤ D → e ∈ a.q (gw_x c wn wd j) → (e.2.2 = a.bt + 1 ↔ us j ≤ e.2.1) := hyp.2.2.2.2.2.2.2.2.2.2.2.2.2.2.2.2.2.1
theorem gw_M.mub {a : me_S} {us u : Nat → Nat} {x : Bool} {p c s g b D : Nat} {wn wd : Nat → Nat} (hyp : gw_M a us u x p c s g b D wn wd) : ∀ j e, j ≤ D → e ∈ a.q (gw_x c wn wd j) → e.2.2 ≤ a.bt + 1 := hyp.2.2.2.2.2.2.2.2.2.2.2.2.2.2.2.2.2.2.1
theorem gw_M.mrg {a : me_S} {us u : Nat → Nat} {x : Bool} {p c s g b D : Nat} {wn wd : Nat → Nat} (hyp : gw_M a us u x p c s g b D wn wd) : ∀ j, j ≤ D → (a.rg (gw_x c wn wd j) = a.bt + 1 ↔ us (j + 1) < u (j + 1)) := hyp.2.2.2.2.2.2.2.2.2.2.2.2.2.2.2.2.2.2.2.1
theorem gw_M.mro {a : me_S} {us u : Nat → Nat} {x : Bool} {p c s g b D : Nat} {wn wd : Nat → Nat} (hyp : gw_M a us u x p c s g b D wn wd) : ∀ j, j ≤ D → a.ro (gw_x c wn wd j) = if 1 ≤ j ∧ 1 ≤ u j ∧ u (j + 1) ≤ b then some p else none := hyp.2.2.2.2.2.2.2.2.2.2.2.2.2.2.2.2.2.2.2.2.1
theorem gw_M.mrh {a : me_S} {us u : Nat → Nat} {x : Bool} {p c s g b D : Nat} {wn wd : Nat → Nat} (hyp : gw_M a us u x p c s g b D wn wd) : ∀ j, j ≤ D → 1 ≤ u (j + 1) → u (j + 1) ≤ b → a.rh (gw_x c wn wd j) = some (if j = D then 4 else wd j) := hyp.2.2.2.2.2.2.2.2.2.2.2.2.2.2.2.2.2.2.2.2.2.1
theorem gw_M.mh0 {a : me_S} {us u : Nat → Nat} {x : Bool} {p c s g b D : Nat} {wn wd : Nat → Nat} (hyp : gw_M a us u x p c s g b D wn wd) : u 0 = 0 → a.hd p = none := hyp.2.2.2.2.2.2.2.2.2.2.2.2.2.2.2.2.2.2.2.2.2.2.1
theorem gw_M.mhD {a : me_S} {us u : Nat → Nat} {x : Bool} {p c s g b D : Nat} {wn wd : Nat → Nat} (hyp : gw_M a us u x p c s g b D wn wd) : 1 ≤ u (D + 1) → a.hd p = none := hyp.2.2.2.2.2.2.2.2.2.2.2.2.2.2.2.2.2.2.2.2.2.2.2.1
theorem gw_M.mhj {a : me_S} {us u : Nat → Nat} {x : Bool} {p c s g b D : Nat} {wn wd : Nat → Nat} (hyp : gw_M a us u x p c s g b D wn wd) : ∀ j, j ≤ D → 1 ≤ u j → u (j + 1) = 0 → a.hd p = some (wn j) := hyp.2.2.2.2.2.2.2.2.2.2.2.2.2.2.2.2.2.2.2.2.2.2.2.2.1
theorem gw_M.maw {a : me_S} {us u : Nat → Nat} {x : Bool} {p c s g b D : Nat} {wn wd : Nat → Nat} (hyp : gw_M a us u x p c s g b D wn wd) : ∀ j, j ≤ D → 1 ≤ u j → a.aw (wn j) = true := hyp.2.2.2.2.2.2.2.2.2.2.2.2.2.2.2.2.2.2.2.2.2.2.2.2.2.1
theorem gw_M.ms0 {a : me_S} {us u : Nat → Nat} {x : Bool} {p c s g b D : Nat} {wn wd : Nat → Nat} (hyp : gw_M a us u x p c s g b D wn wd) : u 0 = 0 → a.st p = 115 := hyp.2.2.2.2.2.2.2.2.2.2.2.2.2.2.2.2.2.2.2.2.2.2.2.2.2.2.1
theorem gw_M.ms1 {a : me_S} {us u : Nat → Nat} {x : Bool} {p c s g b D : Nat} {wn wd : Nat → Nat} (hyp : gw_M a us u x p c s g b D wn wd) : 1 ≤ u 0 → u (D + 1) ≤ b → a.st p = 119 := hyp.2.2.2.2.2.2.2.2.2.2.2.2.2.2.2.2.2.2.2.2.2.2.2.2.2.2.2.1
theorem gw_M.ms2 {a : me_S} {us u : Nat → Nat} {x : Bool} {p c s g b D : Nat} {wn wd : Nat → Nat} (hyp : gw_M a us u x p c s g b D wn wd) : u (D + 1) = b + 1 → a.st p = 100 := hyp.2.2.2.2.2.2.2.2.2.2.2.2.2.2.2.2.2.2.2.2.2.2.2.2.2.2.2.2
theorem gw_M.mk {a : me_S} {us u : Nat → Nat} {x : Bool} {p c s g b D : Nat} {wn wd : Nat → Nat} (mch : me_ch (a.kd p) = c) (msr : a.sr p = s) (mgl : a.gl p = g) (mbo : a.bo p = b) (mb : 1 ≤ b ∧ b ≤ 4) (mc : c < 2) (mrp : 2 ≤ a.rp) (mnp : p < a.np) (mW : gw_W x a.w a.h s g D wn wd) (mwy : a.wy = if x = true then 120 else 121) (mfl : ∀ n d, a.fl n d = 0) (mum : ∀ j, j ≤ D → u (j + 1) ≤ u j) (mu0 : u 0 ≤ b + 1) (mpt : a.pt p = u 0) (mtk : a.tk p = u (D + 1)) (mq : ∀ j, j ≤ D → gp_R p (u (j + 1)) (u j) (a.q (gw_x c wn wd j))) (mqn : ∀ r, (∀ j, j ≤ D → ¬ r = gw_x c wn wd j) → a.q r = []) (mold : ∀ j e, j ≤ D → e ∈ a.q (gw_x c wn wd j) → (e.2.2 = a.bt + 1 ↔ us j ≤ e.2.1)) (mub : ∀ j e, j ≤ D → e ∈ a.q (gw_x c wn wd j) → e.2.2 ≤ a.bt + 1) (mrg : ∀ j, j ≤ D → (a.rg (gw_x c wn wd j) = a.bt + 1 ↔ us (j + 1) < u (j + 1))) (mro : ∀ j, j ≤ D → a.ro (gw_x c wn wd j) = if 1 ≤ j ∧ 1 ≤ u j ∧ u (j + 1) ≤ b then some p else none) (mrh : ∀ j, j ≤ D → 1 ≤ u (j + 1) → u (j + 1) ≤ b → a.rh (gw_x c wn wd j) = some (if j = D then 4 else wd j)) (mh0 : u 0 = 0 → a.hd p = none) (mhD : 1 ≤ u (D + 1) → a.hd p = none) (mhj : ∀ j, j ≤ D → 1 ≤ u j → u (j + 1) = 0 → a.hd p = some (wn j)) (maw : ∀ j, j ≤ D → 1 ≤ u j → a.aw (wn j) = true) (ms0 : u 0 = 0 → a.st p = 115) (ms1 : 1 ≤ u 0 → u (D + 1) ≤ b → a.st p = 119) (ms2 : u (D + 1) = b + 1 → a.st p = 100) : gw_M a us u x p c s g b D wn wd := ⟨mch, msr, mgl, mbo, mb, mc, mrp, mnp, mW, mwy, mfl, mum, mu0, mpt, mtk, mq, mqn, mold, mub, mrg, mro, mrh, mh0, mhD, mhj, maw, ms0, ms1, ms2⟩
section GwM
variable {a a' : me_S} {us u : Nat → Nat} {x : Bool} {p c s g b D : Nat} {wn wd : Nat → Nat}
theorem gw_M.anti (hM : gw_M a us u x p c s g b D wn wd) : ∀ j i, i ≤ j → j ≤ D + 1 → u j ≤ u i := by
  intro j
  induction j with
  | zero =>
    intro i h1 h2
    rw [show i = 0 by omega]
    exact Nat.le_refl _
  | succ j ih =>
    intro i h1 h2
    by_cases e : i = j + 1
    · rw [e]
      exact Nat.le_refl _
    · exact Nat.le_trans (hM.mum j (by omega)) (ih i (by omega) (by omega))
theorem gw_M.first (hM : gw_M a us u x p c s g b D wn wd) {j : Nat} (hj : j ≤ D) (h : u (j + 1) < u j) : ∃ ci t, a.q (gw_x c wn wd j) = (p, u (j + 1), ci) :: t ∧ gp_R p (u (j + 1) + 1) (u j) t := (hM.mq j hj).cons h
theorem gw_M.un (hM : gw_M a us u x p c s g b D wn wd) (hI : me_Iv a) (hbt : a.bt < 1000000) {j ci : Nat} {t : List (Nat × Nat × Nat)} (hj : j ≤ D) (hq : a.q (gw_x c wn wd j) = (p, u (j + 1), ci) :: t) (h1 : us (j + 1) = u (j + 1)) (h2 : u (j + 1) < us j) : gb_un a (gw_x c wn wd j) ci := by
  have hrg := hI.2.2.2.2.2.2.2.1 (gw_x c wn wd j)
  have hmem : (p, u (j + 1), ci) ∈ a.q (gw_x c wn wd j) := by rw [hq]; exact List.mem_cons_self
  have h3 := hM.mub j _ hj hmem
  have h3 : ci ≤ a.bt + 1 := h3
  refine ⟨fun q => ?_, fun q => ?_⟩
  · rw [me_N_inj (by omega) (by omega)] at q
    have := (hM.mrg j hj).mp q
    omega
  · rw [me_N_inj (by omega) (by omega)] at q
    have h4 : us j ≤ u (j + 1) := (hM.mold j _ hj hmem).mp q
    omega
theorem gw_M.bk (hM : gw_M a us u x p c s g b D wn wd) {j : Nat} (hj : j ≤ D) (h : us j ≤ u (j + 1)) : gh_bk a (gw_x c wn wd j) := by
  by_cases e : u (j + 1) < u j
  · obtain ⟨ci, t, hq, -⟩ := hM.first hj e
    have hmem : (p, u (j + 1), ci) ∈ a.q (gw_x c wn wd j) := by rw [hq]; exact List.mem_cons_self
    have h3 : ci = a.bt + 1 := (hM.mold j _ hj hmem).mpr h
    exact Or.inr ⟨_, t, hq, Or.inr (by show me_N ci = _; rw [h3])⟩
  · exact Or.inl ((hM.mq j hj).eq_nil (by omega))
theorem gw_M.len (hM : gw_M a us u x p c s g b D wn wd) {j : Nat} (hj : j ≤ D) : (a.q (gw_x c wn wd j)).length = u j - u (j + 1) := (hM.mq j hj).len
theorem gw_M.xne (hM : gw_M a us u x p c s g b D wn wd) {i j : Nat} (hi : i ≤ D) (hj : j ≤ D) (h : ¬ i = j) : ¬ gw_x c wn wd i = gw_x c wn wd j := fun e => h (gw_xi hM.mc hM.mW hi hj e)
/-- a row that is not at the node wn j, or another one there, is empty -/
theorem gw_M.emp (hM : gw_M a us u x p c s g b D wn wd) {n c' k' : Nat} (hk : k' < 5) (hc : c' < 2) (h : ∀ j, j ≤ D → wn j = n → ¬ (c' = c ∧ k' = gw_k wd j)) : a.q (5 * (2 * n + c') + k') = [] := by
  refine hM.mqn _ (fun j hj e => ?_)
  have h1 := gw_k5 wd j
  have h2 := hM.mc
  unfold gw_x at e
  exact h j hj (by omega) ⟨by omega, by omega⟩
theorem gw_M.ahead (hM : gw_M a us u x p c s g b D wn wd) {j ci : Nat} {t : List (Nat × Nat × Nat)} (hj : j < D) (hlt : u (j + 1) < u j) (hus : us (j + 1) ≤ u (j + 1)) (haw : a.aw (wn (j + 1)) = true) (hq : a.q (gw_x c wn wd j) = (p, u (j + 1), ci) :: t)
    (e0 : a'.w = a.w ∧ a'.h = a.h ∧ a'.rp = a.rp ∧ a'.wy = a.wy ∧ a'.fl = a.fl ∧ a'.bt = a.bt ∧ a'.np = a.np ∧ a'.kd = a.kd ∧ a'.sr = a.sr ∧ a'.gl = a.gl ∧ a'.bo = a.bo ∧ a'.pt = a.pt ∧ a'.tk = a.tk ∧ a'.st = a.st ∧ a'.aw = a.aw)
    (q' : ∀ r, a'.q r = if r = gw_x c wn wd (j + 1) then a.q (gw_x c wn wd (j + 1)) ++ [(p, u (j + 1), a.bt + 1)] else if r = gw_x c wn wd j then t else a.q r)
    (rg' : ∀ r, a'.rg r = if r = gw_x c wn wd j then a.bt + 1 else a.rg r)
    (ro' : ∀ r, a'.ro r = if r = gw_x c wn wd j ∧ u (j + 1) = b then none else if r = gw_x c wn wd (j + 1) ∧ u (j + 1) = 0 then some p else a.ro r)
    (rh' : ∀ r, a'.rh r = if r = gw_x c wn wd j ∧ u (j + 1) = 0 then some (wd j) else a.rh r)
    (hd' : a'.hd p = if u (j + 1) = 0 then some (wn (j + 1)) else a.hd p) : gw_M a' us (me_fu u (j + 1) (u (j + 1) + 1)) x p c s g b D wn wd := by
  obtain ⟨w1, w2, w3, w4, w5, w6, w7, w8, w9, w10, w11, w12, w13, w14, w15⟩ := e0
  have hx01 := hM.xne (i := j) (j := j + 1) (by omega) (by omega) (by omega)
  have hb := hM.mb
  have hu0 := hM.mu0
  have han := hM.anti
  have h0j := han j 0 (Nat.zero_le _) (by omega)
  have hD1 := han (D + 1) (j + 1) (by omega) (by omega)
  have hl2 := han (j + 1 + 1) (j + 1) (by omega) (by omega)
  have f0 : me_fu u (j + 1) (u (j + 1) + 1) 0 = u 0 := me_fu_ne (by omega)
  have fD : me_fu u (j + 1) (u (j + 1) + 1) (D + 1) = u (D + 1) := me_fu_ne (by omega)
  have f1 : me_fu u (j + 1) (u (j + 1) + 1) (j + 1) = u (j + 1) + 1 := me_fu_at
  have fj : me_fu u (j + 1) (u (j + 1) + 1) j = u j := me_fu_ne (by omega)
  have f2 : me_fu u (j + 1) (u (j + 1) + 1) (j + 1 + 1) = u (j + 1 + 1) := me_fu_ne (by omega)
  have fn : ∀ m, ¬ m = j + 1 → me_fu u (j + 1) (u (j + 1) + 1) m = u m := fun m hm => me_fu_ne hm
  have ht : gp_R p (u (j + 1) + 1) (u j) t := by
    obtain ⟨ci', t', e1, e2⟩ := hM.first (show j ≤ D by omega) hlt
    rw [hq] at e1
    injection e1 with _ e3
    rw [e3]
    exact e2
  have hsub : ∀ e, e ∈ t → e ∈ a.q (gw_x c wn wd j) := fun e he => by rw [hq]; exact List.mem_cons_of_mem _ he
  refine gw_M.mk (by rw [w8]; exact hM.mch) (by rw [w9]; exact hM.msr) (by rw [w10]; exact hM.mgl) (by rw [w11]; exact hM.mbo) hb hM.mc (by rw [w3]; exact hM.mrp) (by rw [w7]; exact hM.mnp) (by rw [w1, w2]; exact hM.mW) (by rw [w4]; exact hM.mwy) (by rw [w5]; exact hM.mfl) (fun m hm => ?_) (by rw [f0]; exact hu0) (by rw [w12, f0]; exact hM.mpt) (by rw [w13, fD]; exact hM.mtk) (fun m hm => ?_) (fun r hr => ?_) (fun m e hm he => ?_) (fun m e hm he => ?_) (fun m hm => ?_) (fun m hm => ?_) (fun m hm g1 g2 => ?_) (fun q0 => ?_) (fun q0 => ?_) (fun m hm g1 g2 => ?_) (fun m hm g1 => ?_) (fun q0 => ?_) (fun q0 q1 => ?_) (fun q0 => ?_)
  · by_cases e1 : m = j
    · rw [e1, f1, fj]
      omega
    · by_cases e2 : m = j + 1
      · rw [e2, f1, f2]
        omega
      · rw [fn m e2, fn (m + 1) (by omega)]
        exact hM.mum m hm
  · rw [q']
    by_cases e1 : m = j
    · rw [e1, if_neg hx01, if_pos rfl, f1, fj]
      exact ht
    · by_cases e2 : m = j + 1
      · rw [e2, if_pos rfl, f1, f2]
        exact (hM.mq (j + 1) (by omega)).snoc (by omega)
      · rw [if_neg (hM.xne hm (by omega) e2), if_neg (hM.xne hm (by omega) e1), fn m e2, fn (m + 1) (by omega)]
        exact hM.mq m hm
  · rw [q', if_neg (hr (j + 1) (by omega)), if_neg (hr j (by omega))]
    exact hM.mqn r hr
  · rw [w6]
    rw [q'] at he
    by_cases e1 : m = j
    · rw [e1, if_neg hx01, if_pos rfl] at he
      rw [e1]
      exact hM.mold j e (by omega) (hsub e he)
    · by_cases e2 : m = j + 1
      · rw [e2, if_pos rfl] at he
        rw [e2]
        rcases List.mem_append.mp he with he | he
        · exact hM.mold (j + 1) e (by omega) he
        · rw [List.mem_singleton.mp he]
          exact ⟨fun _ => hus, fun _ => rfl⟩
      · rw [if_neg (hM.xne hm (by omega) e2), if_neg (hM.xne hm (by omega) e1)] at he
        exact hM.mold m e hm he
  · rw [w6]
    rw [q'] at he
    by_cases e1 : m = j
    · rw [e1, if_neg hx01, if_pos rfl] at he
      exact hM.mub j e (by omega) (hsub e he)
    · by_cases e2 : m = j + 1
      · rw [e2, if_pos rfl] at he
        rcases List.mem_append.mp he with he | he
        · exact hM.mub (j + 1) e (by omega) he
        · rw [List.mem_singleton.mp he]
          exact Nat.le_refl _
      · rw [if_neg (hM.xne hm (by omega) e2), if_neg (hM.xne hm (by omega) e1)] at he
        exact hM.mub m e hm he
  · rw [w6, rg']
    by_cases e1 : m = j
    · rw [e1, if_pos rfl, f1]
      exact ⟨fun _ => by omega, fun _ => rfl⟩
    · rw [if_neg (hM.xne hm (by omega) e1), fn (m + 1) (by omega)]
      exact hM.mrg m hm
  · rw [ro']
    by_cases e1 : m = j
    · rw [e1, f1, fj]
      by_cases e3 : u (j + 1) = b
      · rw [if_pos ⟨rfl, e3⟩, if_neg (by omega)]
      · rw [if_neg (fun q => e3 q.2), if_neg (fun q => hx01 q.1), hM.mro j (by omega)]
        by_cases e4 : 1 ≤ j ∧ 1 ≤ u j ∧ u (j + 1) ≤ b
        · rw [if_pos e4, if_pos ⟨e4.1, e4.2.1, by omega⟩]
        · rw [if_neg e4, if_neg (fun q => e4 ⟨q.1, q.2.1, by omega⟩)]
    · by_cases e2 : m = j + 1
      · rw [e2, f1, f2, if_neg (fun q => hx01 q.1.symm), if_pos (show 1 ≤ j + 1 ∧ 1 ≤ u (j + 1) + 1 ∧ u (j + 1 + 1) ≤ b from ⟨by omega, by omega, by omega⟩)]
        by_cases e3 : u (j + 1) = 0
        · rw [if_pos ⟨rfl, e3⟩]
        · rw [if_neg (fun q => e3 q.2), hM.mro (j + 1) (by omega), if_pos ⟨by omega, by omega, by omega⟩]
      · rw [if_neg (fun q => hM.xne hm (by omega) e1 q.1), if_neg (fun q => hM.xne hm (by omega) e2 q.1), fn m e2, fn (m + 1) (by omega)]
        exact hM.mro m hm
  · rw [rh']
    by_cases e1 : m = j
    · rw [e1] at g1 g2 ⊢
      rw [f1] at g1 g2
      rw [if_neg (show ¬ j = D by omega)]
      by_cases e3 : u (j + 1) = 0
      · rw [if_pos ⟨rfl, e3⟩]
      · rw [if_neg (fun q => e3 q.2), hM.mrh j (by omega) (by omega) (by omega), if_neg (show ¬ j = D by omega)]
    · rw [if_neg (fun q => hM.xne hm (by omega) e1 q.1)]
      rw [fn (m + 1) (by omega)] at g1 g2
      exact hM.mrh m hm g1 g2
  · rw [f0] at q0
    omega
  · rw [fD] at q0
    rw [hd', if_neg (by omega)]
    exact hM.mhD q0
  · rw [hd']
    by_cases e2 : m = j + 1
    · rw [e2]
      rw [e2, f2] at g2
      by_cases e3 : u (j + 1) = 0
      · rw [if_pos e3]
      · rw [if_neg e3]
        exact hM.mhj (j + 1) (by omega) (by omega) g2
    · rw [fn m e2] at g1
      by_cases e1 : m = j
      · rw [e1, f1] at g2
        omega
      · rw [fn (m + 1) (by omega)] at g2
        by_cases e4 : m < j
        · have := han (j + 1) (m + 1) (by omega) (by omega)
          have := han j (m + 1) (by omega) (by omega)
          omega
        · have := han m (j + 1) (by omega) (by omega)
          rw [if_neg (by omega)]
          exact hM.mhj m hm g1 g2
  · rw [w15]
    by_cases e2 : m = j + 1
    · rw [e2]
      exact haw
    · rw [fn m e2] at g1
      exact hM.maw m hm g1
  · rw [f0] at q0
    omega
  · rw [f0] at q0
    rw [fD] at q1
    rw [w14]
    exact hM.ms1 q0 q1
  · rw [fD] at q0
    omega
theorem gw_M.core (hM : gw_M a us u x p c s g b D wn wd) {ci : Nat} {t : List (Nat × Nat × Nat)} (hlt : u (D + 1) < u D) (hq : a.q (gw_x c wn wd D) = (p, u (D + 1), ci) :: t) (hus : us (D + 1) ≤ u (D + 1))
    (e0 : a'.w = a.w ∧ a'.h = a.h ∧ a'.rp = a.rp ∧ a'.wy = a.wy ∧ a'.fl = a.fl ∧ a'.bt = a.bt ∧ a'.np = a.np ∧ a'.kd = a.kd ∧ a'.sr = a.sr ∧ a'.gl = a.gl ∧ a'.bo = a.bo ∧ a'.pt = a.pt ∧ a'.aw = a.aw)
    (q' : ∀ r, a'.q r = if r = gw_x c wn wd D then t else a.q r)
    (rg' : ∀ r, a'.rg r = if r = gw_x c wn wd D then a.bt + 1 else a.rg r)
    (ro' : ∀ r, a'.ro r = if r = gw_x c wn wd D ∧ u (D + 1) = b then none else a.ro r)
    (rh' : ∀ r, a'.rh r = if r = gw_x c wn wd D ∧ u (D + 1) = 0 then some 4 else a.rh r)
    (hd' : a'.hd p = if u (D + 1) = 0 then none else a.hd p) (tk' : a'.tk p = a.tk p + 1) (st' : a'.st p = if u (D + 1) = b then 100 else a.st p) : gw_M a' us (me_fu u (D + 1) (u (D + 1) + 1)) x p c s g b D wn wd := by
  obtain ⟨w1, w2, w3, w4, w5, w6, w7, w8, w9, w10, w11, w12, w15⟩ := e0
  have hb := hM.mb
  have hu0 := hM.mu0
  have han := hM.anti
  have h0D := han D 0 (Nat.zero_le _) (by omega)
  have f0 : me_fu u (D + 1) (u (D + 1) + 1) 0 = u 0 := me_fu_ne (by omega)
  have f1 : me_fu u (D + 1) (u (D + 1) + 1) (D + 1) = u (D + 1) + 1 := me_fu_at
  have fD : me_fu u (D + 1) (u (D + 1) + 1) D = u D := me_fu_ne (by omega)
  have fn : ∀ m, ¬ m = D + 1 → me_fu u (D + 1) (u (D + 1) + 1) m = u m := fun m hm => me_fu_ne hm
  have ht : gp_R p (u (D + 1) + 1) (u D) t := by
    obtain ⟨ci', t', e1, e2⟩ := hM.first (Nat.le_refl D) hlt
    rw [hq] at e1
    injection e1 with _ e3
    rw [e3]
    exact e2
  have hsub : ∀ e, e ∈ t → e ∈ a.q (gw_x c wn wd D) := fun e he => by rw [hq]; exact List.mem_cons_of_mem _ he
  have hst := hM.ms1 (by omega) (by omega)
  refine gw_M.mk (by rw [w8]; exact hM.mch) (by rw [w9]; exact hM.msr) (by rw [w10]; exact hM.mgl) (by rw [w11]; exact hM.mbo) hb hM.mc (by rw [w3]; exact hM.mrp) (by rw [w7]; exact hM.mnp) (by rw [w1, w2]; exact hM.mW) (by rw [w4]; exact hM.mwy) (by rw [w5]; exact hM.mfl) (fun m hm => ?_) (by rw [f0]; exact hu0) (by rw [w12, f0]; exact hM.mpt) (by rw [tk', f1, hM.mtk]) (fun m hm => ?_) (fun r hr => ?_) (fun m e hm he => ?_) (fun m e hm he => ?_) (fun m hm => ?_) (fun m hm => ?_) (fun m hm g1 g2 => ?_) (fun q0 => ?_) (fun q0 => ?_) (fun m hm g1 g2 => ?_) (fun m hm g1 => ?_) (fun q0 => ?_) (fun q0 q1 => ?_) (fun q0 => ?_)
  · by_cases e1 : m = D
    · rw [e1, f1, fD]
      omega
    · rw [fn m (by omega), fn (m + 1) (by omega)]
      exact hM.mum m hm
  · rw [q']
    by_cases e1 : m = D
    · rw [e1, if_pos rfl, f1, fD]
      exact ht
    · rw [if_neg (hM.xne hm (Nat.le_refl _) e1), fn m (by omega), fn (m + 1) (by omega)]
      exact hM.mq m hm
  · rw [q', if_neg (hr D (Nat.le_refl _))]
    exact hM.mqn r hr
  · rw [w6]
    rw [q'] at he
    by_cases e1 : m = D
    · rw [e1, if_pos rfl] at he
      rw [e1]
      exact hM.mold D e (Nat.le_refl _) (hsub e he)
    · rw [if_neg (hM.xne hm (Nat.le_refl _) e1)] at he
      exact hM.mold m e hm he
  · rw [w6]
    rw [q'] at he
    by_cases e1 : m = D
    · rw [e1, if_pos rfl] at he
      exact hM.mub D e (Nat.le_refl _) (hsub e he)
    · rw [if_neg (hM.xne hm (Nat.le_refl _) e1)] at he
      exact hM.mub m e hm he
  · rw [w6, rg']
    by_cases e1 : m = D
    · rw [e1, if_pos rfl, f1]
      exact ⟨fun _ => by omega, fun _ => rfl⟩
    · rw [if_neg (hM.xne hm (Nat.le_refl _) e1), fn (m + 1) (by omega)]
      exact hM.mrg m hm
  · rw [ro']
    by_cases e1 : m = D
    · rw [e1, f1, fD]
      by_cases e3 : u (D + 1) = b
      · rw [if_pos ⟨rfl, e3⟩, if_neg (by omega)]
      · rw [if_neg (fun q => e3 q.2), hM.mro D (Nat.le_refl _)]
        by_cases e4 : 1 ≤ D ∧ 1 ≤ u D ∧ u (D + 1) ≤ b
        · rw [if_pos e4, if_pos ⟨e4.1, e4.2.1, by omega⟩]
        · rw [if_neg e4, if_neg (fun q => e4 ⟨q.1, q.2.1, by omega⟩)]
    · rw [if_neg (fun q => hM.xne hm (Nat.le_refl _) e1 q.1), fn m (by omega), fn (m + 1) (by omega)]
      exact hM.mro m hm
  · rw [rh']
    by_cases e1 : m = D
    · rw [e1] at g1 g2 ⊢
      rw [f1] at g1 g2
      rw [if_pos rfl]
      by_cases e3 : u (D + 1) = 0
      · rw [if_pos ⟨rfl, e3⟩]
      · rw [if_neg (fun q => e3 q.2), hM.mrh D (Nat.le_refl _) (by omega) (by omega), if_pos rfl]
    · rw [if_neg (fun q => hM.xne hm (Nat.le_refl _) e1 q.1)]
      rw [fn (m + 1) (by omega)] at g1 g2
      exact hM.mrh m hm g1 g2
  · rw [f0] at q0
    omega
  · rw [hd']
    by_cases e3 : u (D + 1) = 0
    · rw [if_pos e3]
    · rw [if_neg e3]
      exact hM.mhD (by omega)
  · rw [fn m (by omega)] at g1
    by_cases e1 : m = D
    · rw [e1, f1] at g2
      omega
    · rw [fn (m + 1) (by omega)] at g2
      have := han D (m + 1) (by omega) (by omega)
      omega
  · rw [w15]
    rw [fn m (by omega)] at g1
    exact hM.maw m hm g1
  · rw [f0] at q0
    omega
  · rw [f1] at q1
    rw [st', if_neg (by omega)]
    exact hst
  · rw [f1] at q0
    rw [st', if_pos (by omega)]
theorem gw_M.put (hM : gw_M a us u x p c s g b D wn wd) (hlt : u 0 ≤ b) (hus : us 0 ≤ u 0) (haw : a.aw s = true)
    (e0 : a'.w = a.w ∧ a'.h = a.h ∧ a'.rp = a.rp ∧ a'.wy = a.wy ∧ a'.fl = a.fl ∧ a'.bt = a.bt ∧ a'.np = a.np ∧ a'.kd = a.kd ∧ a'.sr = a.sr ∧ a'.gl = a.gl ∧ a'.bo = a.bo ∧ a'.tk = a.tk ∧ a'.aw = a.aw ∧ a'.ro = a.ro ∧ a'.rh = a.rh ∧ a'.rg = a.rg)
    (q' : ∀ r, a'.q r = if r = gw_x c wn wd 0 then a.q (gw_x c wn wd 0) ++ [(p, u 0, a.bt + 1)] else a.q r)
    (hd' : a'.hd p = if u 0 = 0 then some s else a.hd p) (pt' : a'.pt p = a.pt p + 1) (st' : a'.st p = 119) : gw_M a' us (me_fu u 0 (u 0 + 1)) x p c s g b D wn wd := by
  obtain ⟨w1, w2, w3, w4, w5, w6, w7, w8, w9, w10, w11, w12, w13, w14, w15, w16⟩ := e0
  have hb := hM.mb
  have han := hM.anti
  have h01 := han 1 0 (by omega) (by omega)
  have h0D := han (D + 1) 0 (by omega) (by omega)
  have f0 : me_fu u 0 (u 0 + 1) 0 = u 0 + 1 := me_fu_at
  have fn : ∀ m, ¬ m = 0 → me_fu u 0 (u 0 + 1) m = u m := fun m hm => me_fu_ne hm
  refine gw_M.mk (by rw [w8]; exact hM.mch) (by rw [w9]; exact hM.msr) (by rw [w10]; exact hM.mgl) (by rw [w11]; exact hM.mbo) hb hM.mc (by rw [w3]; exact hM.mrp) (by rw [w7]; exact hM.mnp) (by rw [w1, w2]; exact hM.mW) (by rw [w4]; exact hM.mwy) (by rw [w5]; exact hM.mfl) (fun m hm => ?_) (by rw [f0]; omega) (by rw [pt', f0, hM.mpt]) (by rw [w12, fn (D + 1) (by omega)]; exact hM.mtk) (fun m hm => ?_) (fun r hr => ?_) (fun m e hm he => ?_) (fun m e hm he => ?_) (fun m hm => ?_) (fun m hm => ?_) (fun m hm g1 g2 => ?_) (fun q0 => ?_) (fun q0 => ?_) (fun m hm g1 g2 => ?_) (fun m hm g1 => ?_) (fun q0 => ?_) (fun q0 q1 => st') (fun q0 => ?_)
  · rw [fn (m + 1) (by omega)]
    have h1 := hM.mum m hm
    by_cases e1 : m = 0
    · rw [e1, f0]
      rw [e1] at h1
      omega
    · rw [fn m e1]
      exact h1
  · rw [q', fn (m + 1) (by omega)]
    by_cases e1 : m = 0
    · rw [e1, if_pos rfl, f0]
      exact (hM.mq 0 (Nat.zero_le _)).snoc h01
    · rw [if_neg (hM.xne hm (Nat.zero_le _) e1), fn m e1]
      exact hM.mq m hm
  · rw [q', if_neg (hr 0 (Nat.zero_le _))]
    exact hM.mqn r hr
  · rw [w6]
    rw [q'] at he
    by_cases e1 : m = 0
    · rw [e1, if_pos rfl] at he
      rw [e1]
      rcases List.mem_append.mp he with he | he
      · exact hM.mold 0 e (Nat.zero_le _) he
      · rw [List.mem_singleton.mp he]
        exact ⟨fun _ => hus, fun _ => rfl⟩
    · rw [if_neg (hM.xne hm (Nat.zero_le _) e1)] at he
      exact hM.mold m e hm he
  · rw [w6]
    rw [q'] at he
    by_cases e1 : m = 0
    · rw [e1, if_pos rfl] at he
      rcases List.mem_append.mp he with he | he
      · exact hM.mub 0 e (Nat.zero_le _) he
      · rw [List.mem_singleton.mp he]
        exact Nat.le_refl _
    · rw [if_neg (hM.xne hm (Nat.zero_le _) e1)] at he
      exact hM.mub m e hm he
  · rw [w6, w16, fn (m + 1) (by omega)]
    exact hM.mrg m hm
  · rw [w14, fn (m + 1) (by omega), hM.mro m hm]
    by_cases e1 : m = 0
    · rw [e1, if_neg (fun q => absurd q.1 (by decide)), if_neg (fun q => absurd q.1 (by decide))]
    · rw [fn m e1]
  · rw [w15]
    rw [fn (m + 1) (by omega)] at g1 g2
    exact hM.mrh m hm g1 g2
  · rw [f0] at q0
    omega
  · rw [fn (D + 1) (by omega)] at q0
    rw [hd', if_neg (by omega)]
    exact hM.mhD q0
  · rw [fn (m + 1) (by omega)] at g2
    rw [hd']
    by_cases e3 : u 0 = 0
    · rw [if_pos e3]
      by_cases e1 : m = 0
      · rw [e1, hM.mW.w0]
      · rw [fn m e1] at g1
        have := han m 0 (by omega) (by omega)
        omega
    · rw [if_neg e3]
      by_cases e1 : m = 0
      · rw [e1] at g2 ⊢
        exact hM.mhj 0 (Nat.zero_le _) (by omega) g2
      · rw [fn m e1] at g1
        exact hM.mhj m hm g1 g2
  · rw [w13]
    by_cases e1 : m = 0
    · rw [e1, hM.mW.w0]
      exact haw
    · rw [fn m e1] at g1
      exact hM.maw m hm g1
  · rw [f0] at q0
    omega
  · rw [fn (D + 1) (by omega)] at q0
    omega
/-- the beat ends -/
theorem gw_M.fin (hM : gw_M a us u x p c s g b D wn wd) (hrg : ∀ r, a.rg r ≤ a.bt + 1)
    (e0 : a'.w = a.w ∧ a'.h = a.h ∧ a'.rp = a.rp ∧ a'.wy = a.wy ∧ a'.fl = a.fl ∧ a'.bt = a.bt + 1 ∧ a'.np = a.np ∧ a'.kd = a.kd ∧ a'.sr = a.sr ∧ a'.gl = a.gl ∧ a'.bo = a.bo ∧ a'.pt = a.pt ∧ a'.tk = a.tk ∧ a'.st = a.st ∧ a'.ro = a.ro ∧ a'.rh = a.rh ∧ a'.rg = a.rg ∧ a'.q = a.q ∧ a'.hd = a.hd)
    (haw : ∀ n, a.aw n = true → a'.aw n = true) : gw_M a' u u x p c s g b D wn wd := by
  obtain ⟨w1, w2, w3, w4, w5, w6, w7, w8, w9, w10, w11, w12, w13, w14, w15, w16, w17, w18, w19⟩ := e0
  refine gw_M.mk (by rw [w8]; exact hM.mch) (by rw [w9]; exact hM.msr) (by rw [w10]; exact hM.mgl) (by rw [w11]; exact hM.mbo) hM.mb hM.mc (by rw [w3]; exact hM.mrp) (by rw [w7]; exact hM.mnp) (by rw [w1, w2]; exact hM.mW) (by rw [w4]; exact hM.mwy) (by rw [w5]; exact hM.mfl) hM.mum hM.mu0 (by rw [w12]; exact hM.mpt) (by rw [w13]; exact hM.mtk) (by rw [w18]; exact hM.mq) (by rw [w18]; exact hM.mqn) (fun m e hm he => ?_) (fun m e hm he => ?_) (fun m hm => ?_) (by rw [w15]; exact hM.mro) (by rw [w16]; exact hM.mrh) (by rw [w19]; exact hM.mh0) (by rw [w19]; exact hM.mhD) (by rw [w19]; exact hM.mhj) (fun m hm g1 => haw _ (hM.maw m hm g1)) (by rw [w14]; exact hM.ms0) (by rw [w14]; exact hM.ms1) (by rw [w14]; exact hM.ms2)
  · rw [w18] at he
    rw [w6]
    have h1 := hM.mub m e hm he
    have h2 := ((hM.mq m hm).mem he).2.2
    exact ⟨fun q => by omega, fun q => by omega⟩
  · rw [w18] at he
    rw [w6]
    have h1 := hM.mub m e hm he
    omega
  · rw [w17, w6]
    have := hrg (gw_x c wn wd m)
    exact ⟨fun q => by omega, fun q => by omega⟩
end GwM
