/-! ROWS OVER THE HEAP: fields and arrays -/
def me_inb (x : Int32) (n : Nat) : Bool := decide (0 ≤ x) && decide (x.toNatClampNeg < n)
abbrev me_ix (x : Int32) : Nat := x.toNatClampNeg
theorem me_inb_in {x : Int32} {n : Nat} (h : me_inb x n = true) : vp_in x n := by
  unfold me_inb at h
  rw [Bool.and_eq_true, decide_eq_true_eq, decide_eq_true_eq] at h
  intro q
  rcases q with q | q
  · exact Int32.not_lt.mpr h.1 q
  · omega
theorem me_inb_lt {x : Int32} {n : Nat} (h : me_inb x n = true) : me_ix x < n := by
  unfold me_inb at h
  rw [Bool.and_eq_true, decide_eq_true_eq, decide_eq_true_eq] at h
  exact h.2
/-- references lead where they led when all was built -/
def me_St (B : me_B) : Prop := ∀ k i j, k < me_NK → i < B.2.1 k → j < (me_kt k).2.2 → B.2.2.1 k i j = me_r0 k i j
theorem me_gms {ws : List Cond} (ps : List Nat) (hp : ws = ps.filterMap (fun i => lw_tbl[i]?)) (h : ws.all goodWord = true) : ∀ w ∈ ws, w ∈ me_gw := by
  intro w hw
  have h1 := List.all_eq_true.mp h w hw
  rw [hp] at hw
  obtain ⟨i, -, hi⟩ := List.mem_filterMap.mp hw
  exact me_gm i hi h1
/-- a class of the world: its kind, its fields' words -/
def me_KC (k ci N : Nat) (C : String) (T : u_T) (ty0 : Nat → FieldType) : Prop :=
  me_kt k = (0, ci, N) ∧ vwCl[ci]? = some (C, T, N) ∧ (∀ w ∈ u_ws C T N, w ∈ me_gw) ∧ (∀ j, j < N → parseFieldDescriptor (T j).2.2.1 = some (ty0 j)) ∧ ∀ a, a < N → ∀ b, b < N → a ≠ b → (T a).2.1 ≠ (T b).2.1
/-- a field's place in the pool of a class, and what it is -/
def me_FG (own : String) (idx k j : Nat) : Prop := ∃ (ci N : Nat) (C : String) (T : u_T) (ty0 : Nat → FieldType), me_KC k ci N C T ty0 ∧ j < N ∧ Cond.fieldLink own idx (T j).1 (T j).2.1 (T j).2.2.1 ∈ me_gw
def me_FW (own : String) (idx k j : Nat) (ty : FieldType) : Prop := ∃ (ci N : Nat) (C : String) (T : u_T) (ty0 : Nat → FieldType), me_KC k ci N C T ty0 ∧ j < N ∧ Cond.fieldLink own idx (T j).1 (T j).2.1 (T j).2.2.1 ∈ me_gw ∧ (T j).2.2.2 = false ∧ ty0 j = ty
theorem me_FW.G {own : String} {idx k j : Nat} {ty : FieldType} (h : me_FW own idx k j ty) : me_FG own idx k j := by
  obtain ⟨ci, N, C, T, ty0, h1, h2, h3, -⟩ := h
  exact ⟨ci, N, C, T, ty0, h1, h2, h3⟩
/-- a value as a field of that type holds it -/
def me_nr (ty : FieldType) (x : Int32) : Bool := decide (narrow ty (.int x) = .int x) && fits ty (.int x)
theorem me_ct0 {E : me_G} {B : me_B} {μ : me_M} {k i ci N : Nat} (h : me_kt k = (0, ci, N)) : me_ct E B μ k i = .inr (ci, me_fs B μ k i) := by
  simp only [me_ct, h]
theorem me_ct1 {E : me_G} {B : me_B} {μ : me_M} {k i a N : Nat} (h : me_kt k = (1, a, N)) : me_ct E B μ k i = .inl (E.2 a, N, .inl (μ k i)) := by
  simp only [me_ct, h]
theorem me_ct4 {E : me_G} {B : me_B} {μ : me_M} {k i a N : Nat} (h : me_kt k = (4, a, N)) : me_ct E B μ k i = .inl (E.2 a, N, .inr (.inr (.inr (.inr (fun j => (B.2.2.1 k i j).map (fun q => B.1 q.1 q.2)))))) := by
  simp only [me_ct, h]
theorem me_ev_ok {B : me_B} (hJ : me_J B) {k i j : Nat} (hk : k < me_NK) (hi : i < B.2.1 k) : me_ok B (me_ev (B.2.2.1 k i j)) := by
  cases h : B.2.2.1 k i j with
  | none => trivial
  | some q => exact hJ.2 k i j q hk hi h
theorem me_updL {μ : me_M} {k i j : Nat} {x : Int32} : upd (μ k i) j x = me_up μ k i j x k i := by
  funext n
  unfold upd me_up
  by_cases h : n = j <;> simp [h]
section MeHeap
variable {X : me_X} {own : String} {cc : ByteArray} {nL : Nat} {ret : Option FieldType} {B : me_B} {nc ns : Nat} {μ : me_M} {pc : Nat} {L : List (Nat × me_V)} {st : List me_V}
theorem me_getv (C : me_C X B own cc nL ret) {idx k i j : Nat} (hf : me_FG own idx k j) (hdg : decode cc pc = .ok (.getfield idx, 3)) (kk : k < me_NK → i < B.2.1 k → j < (me_kt k).2.2 → me_Z X B nc ns μ (pc + 3) L ((if me_kr k j = true then me_ev (B.2.2.1 k i j) else me_i (μ k i j)) :: st)) : me_Z X B nc ns μ pc L (me_r k i :: st) := by
  obtain ⟨p, l, e, R, s, m, args, below, meth, c, Q, E, A0, nL'⟩ := X
  obtain ⟨hx, hb, hml, rfl, hown, hts, hK, hlocks, hret, hnt, hF, hNS, hfresh⟩ := C
  intro H locs ls hW hS hl hL hst hJ hA
  obtain ⟨ci, N, C, T, ty0, ⟨h1, h2, h3, -, -⟩, h6, h7⟩ := hf
  obtain ⟨hk, hi⟩ : k < me_NK ∧ i < B.2.1 k := hst (me_r k i) List.mem_cons_self
  obtain ⟨q0, hq⟩ := me_at_ws (E := E) (μ := μ) hk hi
  rw [me_ct0 h1] at hq
  have h8 : j < (me_kt k).2.2 := by rw [h1]; exact h6
  have K := kk hk hi h8 H locs ls hW hS hl hL (me_okc (by by_cases e : me_kr k j = true <;> simp only [e] <;> first | exact me_ev_ok hJ hk hi | trivial) (me_okt hst)) hJ hA
  refine va_get hx hb hts h3 hown hK hW.P q0 hq h2 j h6 (hts _ h7) (fun x h => h) (me_fs_get h8) hdg ?_
  have e : me_cv B (if me_kr k j = true then me_ev (B.2.2.1 k i j) else me_i (μ k i j)) = if me_kr k j = true then me_rv B (B.2.2.1 k i j) else .int (μ k i j) := by
    by_cases e : me_kr k j = true
    · rw [if_pos e, if_pos e, me_cv_ev]
    · rw [if_neg e, if_neg e]; rfl
  rw [← e]
  exact K
theorem me_geti (C : me_C X B own cc nL ret) {idx k i : Nat} (j : Nat) (hf : me_FG own idx k j) (hdg : decode cc pc = .ok (.getfield idx, 3)) (hr : me_kr k j = false) (kk : me_Z X B nc ns μ (pc + 3) L (me_i (μ k i j) :: st)) : me_Z X B nc ns μ pc L (me_r k i :: st) := by
  refine me_getv C hf hdg (fun _ _ _ => ?_)
  rw [if_neg (by rw [hr]; decide)]
  exact kk
theorem me_getr (C : me_C X B own cc nL ret) (hB : me_St B) {idx k i : Nat} (j : Nat) {k' i' : Nat} (hf : me_FG own idx k j) (hdg : decode cc pc = .ok (.getfield idx, 3)) (hr : me_kr k j = true) (h0 : me_r0 k i j = some (k', i')) (kk : me_Z X B nc ns μ (pc + 3) L (me_r k' i' :: st)) : me_Z X B nc ns μ pc L (me_r k i :: st) := by
  refine me_getv C hf hdg (fun a b d => ?_)
  rw [if_pos hr, hB k i j a b d, h0]
  exact kk
theorem me_puti (C : me_C X B own cc nL ret) {idx k i : Nat} (j : Nat) {ty : FieldType} {x : Int32} {μ' : me_M} (hf : me_FW own idx k j ty) (hdg : decode cc pc = .ok (.putfield idx, 3)) (hr : me_kr k j = false) (hn : me_nr ty x = true) (hμ : μ' = me_up μ k i j x) (kk : me_Z X B nc ns μ' (pc + 3) L st) : me_Z X B nc ns μ pc L (me_i x :: me_r k i :: st) := by
  obtain ⟨p, l, e, R, s, m, args, below, meth, c, Q, E, A0, nL'⟩ := X
  obtain ⟨hx, hb, hml, rfl, hown, hts, hK, hlocks, hret, hnt, hF, hNS, hfresh⟩ := C
  intro H locs ls hW hS hl hL hst hJ hA
  subst hμ
  obtain ⟨ci, N, C, T, ty0, ⟨h1, h2, h3, h4, h5⟩, h6, h7, h9, h10⟩ := hf
  obtain ⟨hk, hi⟩ : k < me_NK ∧ i < B.2.1 k := hst (me_r k i) (List.mem_cons_of_mem _ List.mem_cons_self)
  obtain ⟨q0, hq⟩ := me_at_ws (E := E) (μ := μ) hk hi
  have hq0 := hq
  rw [me_ct0 h1] at hq
  have h8 : j < (me_kt k).2.2 := by rw [h1]; exact h6
  unfold me_nr at hn
  rw [Bool.and_eq_true, decide_eq_true_eq] at hn
  have hlen : j < (me_fs B μ k i).length := by unfold me_fs; simpa using h8
  refine va_put hx hb hts h3 ty0 h4 h5 hown hK hW.P (me_D hJ hA) hS q0 hq h2 j h6 (hts _ h7) (fun x h => h) h9 (by rw [← h10]; exact h4 j h6) hn.1 hn.2 hlen hdg (fun H1 locs1 hP1 hD1 hS1 => ?_)
  have hP1 : va_P E.1 vwCl ((me_ws E B μ).set q0 (B.1 k i, .inr (ci, (me_fs B μ k i).set j (.int x)))) H1 := hP1
  rw [me_fs_up h8 hr, ← me_ct0 (E := E) h1] at hP1
  exact kk H1 locs1 ls (me_W.set hJ hk hi hq0 hP1 me_ct_up) hS1 hl hL (me_okt (me_okt hst)) hJ hA
theorem me_iald (C : me_C X B own cc nL ret) {k i a N : Nat} {x : Int32} (hk : me_kt k = (1, a, N)) (ht : ∀ cA, (me_ty cA)[a]? = some (cA a, .int)) (hin : me_inb x N = true) (hdg : decode cc pc = .ok (.iaload, 1)) (kk : me_Z X B nc ns μ (pc + 1) L (me_i (μ k i (me_ix x)) :: st)) : me_Z X B nc ns μ pc L (me_i x :: me_r k i :: st) := by
  obtain ⟨p, l, e, R, s, m, args, below, meth, c, Q, E, A0, nL'⟩ := X
  obtain ⟨hx, hb, hml, rfl, hown, hts, hK, hlocks, hret, hnt, hF, hNS, hfresh⟩ := C
  intro H locs ls hW hS hl hL hst hJ hA
  obtain ⟨hk0, hi⟩ : k < me_NK ∧ i < B.2.1 k := hst (me_r k i) (List.mem_cons_of_mem _ List.mem_cons_self)
  obtain ⟨q0, hq⟩ := me_at_ws (E := E) (μ := μ) hk0 hi
  rw [me_ct1 hk] at hq
  exact va_iald hx hb hK hW.P q0 a hq (ht _) (me_inb_in hin) hdg (kk H locs ls hW hS hl hL (me_okc trivial (me_okt (me_okt hst))) hJ hA)
theorem me_zald (C : me_C X B own cc nL ret) {k i a N : Nat} {x : Int32} (hk : me_kt k = (1, a, N)) (ht : ∀ cA, (me_ty cA)[a]? = some (cA a, .boolean)) (hin : me_inb x N = true) (hdg : decode cc pc = .ok (.baload, 1)) (kk : me_Z X B nc ns μ (pc + 1) L (me_i (μ k i (me_ix x)) :: st)) : me_Z X B nc ns μ pc L (me_i x :: me_r k i :: st) := by
  obtain ⟨p, l, e, R, s, m, args, below, meth, c, Q, E, A0, nL'⟩ := X
  obtain ⟨hx, hb, hml, rfl, hown, hts, hK, hlocks, hret, hnt, hF, hNS, hfresh⟩ := C
  intro H locs ls hW hS hl hL hst hJ hA
  obtain ⟨hk0, hi⟩ : k < me_NK ∧ i < B.2.1 k := hst (me_r k i) (List.mem_cons_of_mem _ List.mem_cons_self)
  obtain ⟨q0, hq⟩ := me_at_ws (E := E) (μ := μ) hk0 hi
  rw [me_ct1 hk] at hq
  exact va_zald hx hb hK hW.P q0 a hq (ht _) (me_inb_in hin) hdg (kk H locs ls hW hS hl hL (me_okc trivial (me_okt (me_okt hst))) hJ hA)
theorem me_cald (C : me_C X B own cc nL ret) {k i a N : Nat} {x : Int32} (hk : me_kt k = (1, a, N)) (ht : ∀ cA, (me_ty cA)[a]? = some (cA a, .char)) (hin : me_inb x N = true) (hdg : decode cc pc = .ok (.caload, 1)) (kk : me_Z X B nc ns μ (pc + 1) L (me_i (μ k i (me_ix x)) :: st)) : me_Z X B nc ns μ pc L (me_i x :: me_r k i :: st) := by
  obtain ⟨p, l, e, R, s, m, args, below, meth, c, Q, E, A0, nL'⟩ := X
  obtain ⟨hx, hb, hml, rfl, hown, hts, hK, hlocks, hret, hnt, hF, hNS, hfresh⟩ := C
  intro H locs ls hW hS hl hL hst hJ hA
  obtain ⟨hk0, hi⟩ : k < me_NK ∧ i < B.2.1 k := hst (me_r k i) (List.mem_cons_of_mem _ List.mem_cons_self)
  obtain ⟨q0, hq⟩ := me_at_ws (E := E) (μ := μ) hk0 hi
  rw [me_ct1 hk] at hq
  exact va_cald hx hb hK hW.P q0 a hq (ht _) (me_inb_in hin) hdg (kk H locs ls hW hS hl hL (me_okc trivial (me_okt (me_okt hst))) hJ hA)
theorem me_iast (C : me_C X B own cc nL ret) {k i a N : Nat} {x y : Int32} {μ' : me_M} (hk : me_kt k = (1, a, N)) (ht : ∀ cA, (me_ty cA)[a]? = some (cA a, .int)) (hin : me_inb x N = true) (hdg : decode cc pc = .ok (.iastore, 1)) (hμ : μ' = me_up μ k i (me_ix x) y) (kk : me_Z X B nc ns μ' (pc + 1) L st) : me_Z X B nc ns μ pc L (me_i y :: me_i x :: me_r k i :: st) := by
  obtain ⟨p, l, e, R, s, m, args, below, meth, c, Q, E, A0, nL'⟩ := X
  obtain ⟨hx, hb, hml, rfl, hown, hts, hK, hlocks, hret, hnt, hF, hNS, hfresh⟩ := C
  intro H locs ls hW hS hl hL hst hJ hA
  subst hμ
  obtain ⟨hk0, hi⟩ : k < me_NK ∧ i < B.2.1 k := hst (me_r k i) (List.mem_cons_of_mem _ (List.mem_cons_of_mem _ List.mem_cons_self))
  obtain ⟨q0, hq⟩ := me_at_ws (E := E) (μ := μ) hk0 hi
  have hq0 := hq
  rw [me_ct1 hk] at hq
  refine va_iast hx hb hK hW.P (me_D hJ hA) hS q0 a hq (ht _) (me_inb_in hin) hdg (fun H1 locs1 hP1 hD1 hS1 => ?_)
  have hP1 : va_P E.1 vwCl ((me_ws E B μ).set q0 (B.1 k i, .inl (E.2 a, N, .inl (upd (μ k i) (me_ix x) y)))) H1 := hP1
  rw [me_updL, ← me_ct1 (E := E) (B := B) hk] at hP1
  exact kk H1 locs1 ls (me_W.set hJ hk0 hi hq0 hP1 me_ct_up) hS1 hl hL (me_okt (me_okt (me_okt hst))) hJ hA
theorem me_zast (C : me_C X B own cc nL ret) {k i a N : Nat} {x y : Int32} {μ' : me_M} (hk : me_kt k = (1, a, N)) (ht : ∀ cA, (me_ty cA)[a]? = some (cA a, .boolean)) (hin : me_inb x N = true) (hdg : decode cc pc = .ok (.bastore, 1)) (hμ : μ' = me_up μ k i (me_ix x) (vp_nar .boolean y)) (kk : me_Z X B nc ns μ' (pc + 1) L st) : me_Z X B nc ns μ pc L (me_i y :: me_i x :: me_r k i :: st) := by
  obtain ⟨p, l, e, R, s, m, args, below, meth, c, Q, E, A0, nL'⟩ := X
  obtain ⟨hx, hb, hml, rfl, hown, hts, hK, hlocks, hret, hnt, hF, hNS, hfresh⟩ := C
  intro H locs ls hW hS hl hL hst hJ hA
  subst hμ
  obtain ⟨hk0, hi⟩ : k < me_NK ∧ i < B.2.1 k := hst (me_r k i) (List.mem_cons_of_mem _ (List.mem_cons_of_mem _ List.mem_cons_self))
  obtain ⟨q0, hq⟩ := me_at_ws (E := E) (μ := μ) hk0 hi
  have hq0 := hq
  rw [me_ct1 hk] at hq
  refine va_zast hx hb hK hW.P (me_D hJ hA) hS q0 a hq (ht _) (me_inb_in hin) hdg (fun H1 locs1 hP1 hD1 hS1 => ?_)
  have hP1 : va_P E.1 vwCl ((me_ws E B μ).set q0 (B.1 k i, .inl (E.2 a, N, .inl (upd (μ k i) (me_ix x) (vp_nar .boolean y))))) H1 := hP1
  rw [me_updL, ← me_ct1 (E := E) (B := B) hk] at hP1
  exact kk H1 locs1 ls (me_W.set hJ hk0 hi hq0 hP1 me_ct_up) hS1 hl hL (me_okt (me_okt (me_okt hst))) hJ hA
theorem me_cast (C : me_C X B own cc nL ret) {k i a N : Nat} {x y : Int32} {μ' : me_M} (hk : me_kt k = (1, a, N)) (ht : ∀ cA, (me_ty cA)[a]? = some (cA a, .char)) (hin : me_inb x N = true) (hdg : decode cc pc = .ok (.castore, 1)) (hμ : μ' = me_up μ k i (me_ix x) (vp_nar .char y)) (kk : me_Z X B nc ns μ' (pc + 1) L st) : me_Z X B nc ns μ pc L (me_i y :: me_i x :: me_r k i :: st) := by
  obtain ⟨p, l, e, R, s, m, args, below, meth, c, Q, E, A0, nL'⟩ := X
  obtain ⟨hx, hb, hml, rfl, hown, hts, hK, hlocks, hret, hnt, hF, hNS, hfresh⟩ := C
  intro H locs ls hW hS hl hL hst hJ hA
  subst hμ
  obtain ⟨hk0, hi⟩ : k < me_NK ∧ i < B.2.1 k := hst (me_r k i) (List.mem_cons_of_mem _ (List.mem_cons_of_mem _ List.mem_cons_self))
  obtain ⟨q0, hq⟩ := me_at_ws (E := E) (μ := μ) hk0 hi
  have hq0 := hq
  rw [me_ct1 hk] at hq
  refine va_cast hx hb hK hW.P (me_D hJ hA) hS q0 a hq (ht _) (me_inb_in hin) hdg (fun H1 locs1 hP1 hD1 hS1 => ?_)
  have hP1 : va_P E.1 vwCl ((me_ws E B μ).set q0 (B.1 k i, .inl (E.2 a, N, .inl (upd (μ k i) (me_ix x) (vp_nar .char y))))) H1 := hP1
  rw [me_updL, ← me_ct1 (E := E) (B := B) hk] at hP1
  exact kk H1 locs1 ls (me_W.set hJ hk0 hi hq0 hP1 me_ct_up) hS1 hl hL (me_okt (me_okt (me_okt hst))) hJ hA
theorem me_aald (C : me_C X B own cc nL ret) (hB : me_St B) {k i a N k' i' : Nat} {x : Int32} {ty : FieldType} (hk : me_kt k = (4, a, N)) (ht : ∀ cA, (me_ty cA)[a]? = some (cA a, ty)) (hty : ty.isReference = true) (hin : me_inb x N = true) (hdg : decode cc pc = .ok (.aaload, 1)) (h0 : me_r0 k i (me_ix x) = some (k', i')) (kk : me_Z X B nc ns μ (pc + 1) L (me_r k' i' :: st)) : me_Z X B nc ns μ pc L (me_i x :: me_r k i :: st) := by
  obtain ⟨p, l, e, R, s, m, args, below, meth, c, Q, E, A0, nL'⟩ := X
  obtain ⟨hx, hb, hml, rfl, hown, hts, hK, hlocks, hret, hnt, hF, hNS, hfresh⟩ := C
  intro H locs ls hW hS hl hL hst hJ hA
  obtain ⟨hk0, hi⟩ : k < me_NK ∧ i < B.2.1 k := hst (me_r k i) (List.mem_cons_of_mem _ List.mem_cons_self)
  obtain ⟨q0, hq⟩ := me_at_ws (E := E) (μ := μ) hk0 hi
  rw [me_ct4 hk] at hq
  have hlt : me_ix x < N := me_inb_lt hin
  have hr := hB k i (me_ix x) hk0 hi (by rw [hk]; exact hlt)
  rw [h0] at hr
  have hok := hJ.2 k i _ _ hk0 hi hr
  have K := kk H locs ls hW hS hl hL (me_okc (v := me_r k' i') hok (me_okt (me_okt hst))) hJ hA
  refine W.aald (v := .ref (B.1 k' i')) (ty := ty) hx hb (hW.P q0 _ hq) ((hK.2 a _ (ht _)).1 N (fun j => va_rf ((B.2.2.1 k i j).map (fun q => B.1 q.1 q.2)))) hty (fun q => by cases q) (by show ¬ (x < 0 ∨ (arrV _ _ _).slots.size ≤ _); rw [arrV_size]; exact me_inb_in hin) ?_ rfl rfl hdg K
  show (arrV _ _ _).slots[_]? = _
  rw [arrV_read _ _ hlt]
  show some (va_rf ((B.2.2.1 k i (me_ix x)).map _)) = _
  rw [hr]
  rfl
theorem me_alen (C : me_C X B own cc nL ret) {k i t a N : Nat} {v : Int32} {ty : FieldType} (hk : me_kt k = (t, a, N)) (h0 : t = 1 ∨ t = 4) (ht : ∀ cA, (me_ty cA)[a]? = some (cA a, ty)) (hdg : decode cc pc = .ok (.arraylength, 1)) (hv : Int32.ofNat N = v) (kk : me_Z X B nc ns μ (pc + 1) L (me_i v :: st)) : me_Z X B nc ns μ pc L (me_r k i :: st) := by
  obtain ⟨p, l, e, R, s, m, args, below, meth, c, Q, E, A0, nL'⟩ := X
  obtain ⟨hx, hb, hml, rfl, hown, hts, hK, hlocks, hret, hnt, hF, hNS, hfresh⟩ := C
  intro H locs ls hW hS hl hL hst hJ hA
  obtain ⟨hk0, hi⟩ : k < me_NK ∧ i < B.2.1 k := hst (me_r k i) List.mem_cons_self
  obtain ⟨q0, hq⟩ := me_at_ws (E := E) (μ := μ) hk0 hi
  rcases h0 with rfl | rfl
  · rw [me_ct1 hk] at hq
    exact va_alen hx hb hK hW.P q0 a hq (ht _) hv hdg (kk H locs ls hW hS hl hL (me_okc trivial (me_okt hst)) hJ hA)
  · rw [me_ct4 hk] at hq
    exact va_alen hx hb hK hW.P q0 a hq (ht _) hv hdg (kk H locs ls hW hS hl hL (me_okc trivial (me_okt hst)) hJ hA)
end MeHeap
