/-! A STATIC WORLD: every object and array has a kind and a number; what they hold is one function of kind, number and place -/
/-- a logical value: a machine value that is no cell of the world, or a cell by its kind and number -/
abbrev me_V : Type := Value ⊕ (Nat × Nat)
abbrev me_M : Type := Nat → Nat → Nat → Int32
/-- addresses, counts, references, the length and the ints of the law's script -/
abbrev me_B : Type := (Nat → Nat → Nat) × (Nat → Nat) × (Nat → Nat → Nat → Option (Nat × Nat)) × Nat × (Nat → Int32)
abbrev me_G : Type := va_G × (Nat → ClassId)
def me_cv (B : me_B) : me_V → Value
  | .inl v => v
  | .inr q => .ref (B.1 q.1 q.2)
def me_ev : Option (Nat × Nat) → me_V
  | none => .inl .null
  | some q => .inr q
def me_rv (B : me_B) : Option (Nat × Nat) → Value
  | none => .null
  | some q => .ref (B.1 q.1 q.2)
theorem me_cv_ev (B : me_B) (o : Option (Nat × Nat)) : me_cv B (me_ev o) = me_rv B o := by cases o <;> rfl
abbrev me_i (x : Int32) : me_V := .inl (.int x)
abbrev me_r (k i : Nat) : me_V := .inr (k, i)
abbrev me_n : me_V := .inl .null
abbrev me_l (x : Int64) : me_V := .inl (.long x)
abbrev me_f (x : UInt32) : me_V := .inl (.float x)
abbrev me_d (x : UInt64) : me_V := .inl (.double x)
/-- a cell of kind k, or null -/
def me_q (k : Nat) : Option Nat → me_V
  | none => .inl .null
  | some i => .inr (k, i)
def me_kt (k : Nat) : Nat × Nat × Nat := me_kT.getD k (0, 0, 0)
def me_kr (k j : Nat) : Bool := (me_kR.getD k []).getD j false
def me_r0 (k i j : Nat) : Option (Nat × Nat) := (me_rT.getD k (fun _ _ => none)) i j
def me_ty (cA : Nat → ClassId) : List (ClassId × FieldType) := [(cA 0, .int), (cA 1, .boolean), (cA 2, .char), (cA 3, .object "Meshyard$Row"), (cA 4, .object "Meshyard$Router"), (cA 5, .object "Meshyard$Core"), (cA 6, .object "Meshyard$Packet")]
def me_fs (B : me_B) (μ : me_M) (k i : Nat) : List Value := (List.range (me_kt k).2.2).map (fun j => if me_kr k j = true then me_rv B (B.2.2.1 k i j) else .int (μ k i j))
def me_ct (E : me_G) (B : me_B) (μ : me_M) (k i : Nat) : va_E :=
  match (me_kt k).1 with
  | 0 => .inr ((me_kt k).2.1, me_fs B μ k i)
  | 1 => .inl (E.2 (me_kt k).2.1, (me_kt k).2.2, .inl (μ k i))
  | _ => .inl (E.2 (me_kt k).2.1, (me_kt k).2.2, .inr (.inr (.inr (.inr (fun j => (B.2.2.1 k i j).map (fun q => B.1 q.1 q.2))))))
def me_W (E : me_G) (B : me_B) (μ : me_M) (H : Heap) : Prop := ∀ k, k < me_NK → ∀ i, i < B.2.1 k → va_at E.1 vwCl (B.1 k i, me_ct E B μ k i) H
def me_ok (B : me_B) : me_V → Prop
  | .inl _ => True
  | .inr q => q.1 < me_NK ∧ q.2 < B.2.1 q.1
/-- addresses are apart; references lead to cells that are there -/
def me_J (B : me_B) : Prop := (∀ k i k' i', k < me_NK → k' < me_NK → i < B.2.1 k → i' < B.2.1 k' → B.1 k i = B.1 k' i' → k = k' ∧ i = i') ∧ ∀ k i j q, k < me_NK → i < B.2.1 k → B.2.2.1 k i j = some q → q.1 < me_NK ∧ q.2 < B.2.1 q.1
/-- the cells of the world -/
def me_A (B : me_B) : Nat → Prop := fun q => ∃ k i, k < me_NK ∧ i < B.2.1 k ∧ q = B.1 k i
def me_F (B : me_B) (sz : Nat) : Nat → Prop := fun q => me_A B q ∨ sz ≤ q
def me_ws (E : me_G) (B : me_B) (μ : me_M) : va_W := (List.range me_NK).flatMap fun k => (List.range (B.2.1 k)).map fun i => (B.1 k i, me_ct E B μ k i)
theorem me_ws_mem {E : me_G} {B : me_B} {μ : me_M} {q : Nat × va_E} : q ∈ me_ws E B μ ↔ ∃ k i, k < me_NK ∧ i < B.2.1 k ∧ q = (B.1 k i, me_ct E B μ k i) := by
  unfold me_ws
  simp only [List.mem_flatMap, List.mem_range, List.mem_map]
  constructor
  · rintro ⟨k, hk, i, hi, rfl⟩
    exact ⟨k, i, hk, hi, rfl⟩
  · rintro ⟨k, i, hk, hi, rfl⟩
    exact ⟨k, hk, i, hi, rfl⟩
theorem me_at_ws {E : me_G} {B : me_B} {μ : me_M} {k i : Nat} (hk : k < me_NK) (hi : i < B.2.1 k) : ∃ q0 : Nat, (me_ws E B μ)[q0]? = some (B.1 k i, me_ct E B μ k i) :=
  List.getElem?_of_mem (me_ws_mem.mpr ⟨k, i, hk, hi, rfl⟩)
theorem me_W.P {E : me_G} {B : me_B} {μ : me_M} {H : Heap} (h : me_W E B μ H) : va_P E.1 vwCl (me_ws E B μ) H := by
  intro n q hq
  obtain ⟨k, i, hk, hi, rfl⟩ := me_ws_mem.mp (List.mem_of_getElem? hq)
  exact h k hk i hi
theorem me_W.ofP {E : me_G} {B : me_B} {μ : me_M} {H : Heap} (h : va_P E.1 vwCl (me_ws E B μ) H) : me_W E B μ H := by
  intro k hk i hi
  obtain ⟨n, hn⟩ := me_at_ws (E := E) (μ := μ) hk hi
  exact h n _ hn
theorem me_nodup {E : me_G} {B : me_B} {μ : me_M} (hJ : me_J B) : ((me_ws E B μ).map (fun q => q.1)).Nodup := by
  unfold me_ws List.Nodup
  rw [List.pairwise_map, List.pairwise_flatMap]
  refine ⟨fun k hk => ?_, ?_⟩
  · rw [List.pairwise_map]
    have hk := List.mem_range.mp hk
    refine List.Pairwise.imp_of_mem ?_ (List.pairwise_lt_range (n := B.2.1 k))
    intro a b ha hb hab e
    have := (hJ.1 k a k b hk hk (List.mem_range.mp ha) (List.mem_range.mp hb) e).2
    omega
  · refine List.Pairwise.imp_of_mem ?_ (List.pairwise_lt_range (n := me_NK))
    intro a b ha hb hab x hx y hy e
    obtain ⟨i, hi, rfl⟩ := List.mem_map.mp hx
    obtain ⟨j, hj, rfl⟩ := List.mem_map.mp hy
    have := (hJ.1 a i b j (List.mem_range.mp ha) (List.mem_range.mp hb) (List.mem_range.mp hi) (List.mem_range.mp hj) e).1
    omega
theorem me_D {E : me_G} {B : me_B} {μ : me_M} {A : Nat → Prop} (hJ : me_J B) (hA : ∀ q, me_A B q → A q) : va_D A (me_ws E B μ) := by
  refine ⟨fun i j p q hp hq e => ?_, fun n q hq => ?_⟩
  · have hn := me_nodup (E := E) (μ := μ) hJ
    have h1 : ((me_ws E B μ).map (fun q => q.1))[i]? = some p.1 := by rw [List.getElem?_map, hp]; rfl
    have h2 : ((me_ws E B μ).map (fun q => q.1))[j]? = some p.1 := by rw [List.getElem?_map, hq, e]; rfl
    have hl : i < ((me_ws E B μ).map (fun q => q.1)).length := (List.getElem?_eq_some_iff.mp h1).1
    exact (List.getElem?_inj hl hn).mp (h1.trans h2.symm)
  · obtain ⟨k, i, hk, hi, rfl⟩ := me_ws_mem.mp (List.mem_of_getElem? hq)
    exact hA _ ⟨k, i, hk, hi, rfl⟩
/-- one cell changed -/
theorem me_W.set {E : me_G} {B : me_B} {μ μ' : me_M} {H1 : Heap} {k i q0 : Nat} (hJ : me_J B) (hk : k < me_NK) (hi : i < B.2.1 k) (hq : (me_ws E B μ)[q0]? = some (B.1 k i, me_ct E B μ k i))
    (hP : va_P E.1 vwCl ((me_ws E B μ).set q0 (B.1 k i, me_ct E B μ' k i)) H1) (hs : ∀ k' i', ¬ (k' = k ∧ i' = i) → me_ct E B μ' k' i' = me_ct E B μ k' i') : me_W E B μ' H1 := by
  intro k' hk' i' hi'
  by_cases e : k' = k ∧ i' = i
  · obtain ⟨rfl, rfl⟩ := e
    exact hP q0 _ (by rw [List.getElem?_set_self (List.getElem?_eq_some_iff.mp hq).1])
  · obtain ⟨n, hn⟩ := me_at_ws (E := E) (μ := μ) hk' hi'
    have hne : ¬ q0 = n := by
      intro h
      subst h
      rw [hq] at hn
      have h1 := congrArg Prod.fst (Option.some.inj hn)
      have := hJ.1 k i k' i' hk hk' hi hi' h1
      exact e ⟨this.1.symm, this.2.symm⟩
    rw [hs k' i' e]
    exact hP n _ (by rw [List.getElem?_set_ne hne]; exact hn)
def me_up (μ : me_M) (k i j : Nat) (x : Int32) : me_M := fun k' i' j' => if k' = k ∧ i' = i ∧ j' = j then x else μ k' i' j'
theorem me_up_eq {μ : me_M} {k i j : Nat} {x : Int32} : me_up μ k i j x k i j = x := if_pos ⟨rfl, rfl, rfl⟩
theorem me_ct_up {E : me_G} {B : me_B} {μ : me_M} {k i j : Nat} {x : Int32} : ∀ k' i', ¬ (k' = k ∧ i' = i) → me_ct E B (me_up μ k i j x) k' i' = me_ct E B μ k' i' := by
  intro k' i' h
  have h1 : ∀ j', me_up μ k i j x k' i' j' = μ k' i' j' := fun j' => if_neg (fun q => h ⟨q.1, q.2.1⟩)
  have h2 : me_up μ k i j x k' i' = μ k' i' := funext h1
  unfold me_ct me_fs
  simp only [h2]
theorem me_fs_get {B : me_B} {μ : me_M} {k i j : Nat} (hj : j < (me_kt k).2.2) : (me_fs B μ k i)[j]? = some (if me_kr k j = true then me_rv B (B.2.2.1 k i j) else .int (μ k i j)) := by
  unfold me_fs
  rw [List.getElem?_map, List.getElem?_range hj]
  rfl
theorem me_fs_up {B : me_B} {μ : me_M} {k i j : Nat} {x : Int32} (hj : j < (me_kt k).2.2) (hr : me_kr k j = false) : (me_fs B μ k i).set j (.int x) = me_fs B (me_up μ k i j x) k i := by
  unfold me_fs
  apply List.ext_getElem?
  intro n
  rw [List.getElem?_set]
  by_cases e : j = n
  · subst e
    rw [if_pos rfl, if_pos (by simpa using hj), List.getElem?_map, List.getElem?_range hj]
    simp [hr, me_up_eq]
  · rw [if_neg e, List.getElem?_map, List.getElem?_map]
    cases h : (List.range (me_kt k).2.2)[n]? with
    | none => rfl
    | some m =>
      obtain ⟨h1, h2⟩ := List.getElem?_eq_some_iff.mp h
      have hm : m = n := by rw [← h2]; simp
      subst hm
      simp [me_up, show ¬ m = j from fun q => e q.symm]
/-! static facts: strings, statics; what is no cell of the world stays. The addresses of strings, of their bytes, of the law's script: kinds 200, 201, 202 of the world's addresses (no cells of the world) -/
def me_sb : Nat → List Int32
  | 0 => [120, 121, 116]
  | 1 => [101, 119, 115, 110, 99]
  | _ => [112, 108, 115, 43, 45, 42, 100, 114, 106, 98, 104]
def me_SS (B : me_B) (A : Nat → Prop) (U : State) (H : Heap) : Prop :=
  (∀ i, i < 2 → va_O "java/lang/String" (B.1 200 i) A U H ∧ va_OF "java/lang/String" "coder" "B" (.int 0) (B.1 200 i) A U H ∧ va_OF "java/lang/String" "value" "[B" (.ref (B.1 201 i)) (B.1 200 i) A U H ∧ va_T .byte (B.1 201 i) (me_sb i).length (fun j => .int ((me_sb i).getD j 0)) A U H)
  ∧ va_Z "java/lang/String" "COMPACT_STRINGS" "Z" (.int 1) A U H ∧ va_Zq "jdk/internal/util/Preconditions" "SIOOBE_FORMATTER" "Ljava/util/function/BiFunction;" A U H
  ∧ va_T .int (B.1 202 0) B.2.2.2.1 (fun j => .int (B.2.2.2.2 j)) A U H
theorem me_SS.moved {B : me_B} {A : Nat → Prop} {u U : State} {H : Heap} (hvm : u.vm.Alike U.vm) (h : me_SS B A u H) : me_SS B A U H :=
  ⟨fun i hi => ⟨va_O.moved hvm (h.1 i hi).1, va_OF.moved hvm (h.1 i hi).2.1, va_OF.moved hvm (h.1 i hi).2.2.1, va_T.moved hvm (h.1 i hi).2.2.2⟩, va_Z.moved hvm h.2.1, va_Zq.moved hvm h.2.2.1, va_T.moved hvm h.2.2.2⟩
theorem me_SS.kept {B : me_B} {A : Nat → Prop} {U : State} {H H1 : Heap} (h : me_SS B A U H) (hq : ∀ a : Nat, a < H.size → ¬ A a → H1[a]? = H[a]?) : me_SS B A U H1 :=
  ⟨fun i hi => ⟨(h.1 i hi).1.kept hq, (h.1 i hi).2.1.kept hq, (h.1 i hi).2.2.1.kept hq, (h.1 i hi).2.2.2.kept hq⟩, h.2.1.kept hq, h.2.2.1.kept hq, h.2.2.2.kept hq⟩
theorem me_SS.narrow {B0 : me_B} {A B : Nat → Prop} {U : State} {H : Heap} (h : me_SS B0 A U H) (hAB : ∀ q, B q → A q) : me_SS B0 B U H :=
  ⟨fun i hi => ⟨(h.1 i hi).1.narrow hAB, (h.1 i hi).2.1.narrow hAB, (h.1 i hi).2.2.1.narrow hAB, (h.1 i hi).2.2.2.narrow hAB⟩, h.2.1.narrow hAB, h.2.2.1.narrow hAB, h.2.2.2.narrow hAB⟩
def me_SF (B : me_B) (A : Nat → Prop) (U : State) (H : Heap) : Prop := vx_Zq Bundle.tN "UNASSIGNED_STACK" Bundle.steD A U H ∧ vx_Zq Bundle.tN "SUPPRESSED_SENTINEL" Bundle.listD A U H ∧ me_SS B A U H
theorem me_SF.moved {B : me_B} {A : Nat → Prop} {u U : State} {H : Heap} (hvm : u.vm.Alike U.vm) (h : me_SF B A u H) : me_SF B A U H := ⟨h.1.moved hvm, h.2.1.moved hvm, h.2.2.moved hvm⟩
theorem me_SF.kept {B : me_B} {A : Nat → Prop} {U : State} {H H1 : Heap} (h : me_SF B A U H) (hq : ∀ a : Nat, a < H.size → ¬ A a → H1[a]? = H[a]?) : me_SF B A U H1 := ⟨h.1.kept hq, h.2.1.kept hq, h.2.2.kept hq⟩
theorem me_SF.narrow {B0 : me_B} {A B : Nat → Prop} {U : State} {H : Heap} (h : me_SF B0 A U H) (hAB : ∀ q, B q → A q) : me_SF B0 B U H := ⟨h.1.narrow hAB, h.2.1.narrow hAB, h.2.2.narrow hAB⟩
/-! words of the tables that a warm state keeps by laws of their own; string constants; exceptions that are no kin -/
def me_bad : Cond → Bool
  | .castable .. => true
  | .declares _ => true
  | .methodLinkNest .. => true
  | _ => false
def me_bw : List Cond := lw_tbl.filter me_bad
theorem me_bm {w : Cond} (i : Nat) (h : lw_tbl[i]? = some w) (hg : me_bad w = true) : w ∈ me_bw := List.mem_filter.mpr ⟨List.mem_of_getElem? h, hg⟩
def me_S3 : List (String × Nat × String × Nat) := [("Meshyard", 213, "xyt", 0), ("Meshyard", 243, "ewsnc", 1)]
def me_NS (B : me_B) (U : State) : Prop := (∀ w ∈ me_bw, va_Nw w U) ∧ (∀ q ∈ me_strs, ∃ a, vk_R q.1 q.2.1 q.2.2 a U) ∧ (∀ q ∈ me_S3, vk_R q.1 q.2.1 q.2.2.1 (B.1 200 q.2.2.2) U) ∧ ∀ q ∈ me_ncs, va_Nc q.1 q.2 U
theorem me_NS.warm {B : me_B} {s U : State} (hW : s.WarmedH U.vm) (h : me_NS B s) : me_NS B U := by
  refine ⟨fun w hw => ?_, fun q hq => ?_, fun q hq => (h.2.2.1 q hq).warm hW, fun q hq => (h.2.2.2 q hq).moved hW.alike⟩
  · have h1 := h.1 w hw
    have h2 := (List.mem_filter.mp hw).2
    cases w <;> first | exact va_Nw.warmC hW h1 | exact va_Nw.warmD hW h1 | exact va_Nw.warmM hW h1 | (exfalso; simp [me_bad] at h2)
  · obtain ⟨a, ha⟩ := h.2.1 q hq
    exact ⟨a, ha.warm hW⟩
theorem me_NS.calling {B : me_B} {U : State} {g : JFrame} {mk : MethodId} {a : Array Value} (h : me_NS B U) : me_NS B (U.calling g mk a) := by
  refine ⟨fun w hw => ?_, fun q hq => ?_, fun q hq => vk_R.same (u := U) (U := U.calling g mk a) rfl (h.2.2.1 q hq), fun q hq => (h.2.2.2 q hq).moved (Vm.Alike.refl U.vm)⟩
  · have h1 := h.1 w hw
    have h2 := (List.mem_filter.mp hw).2
    have h3 : w.onTables = true := by cases w <;> first | rfl | (exfalso; simp [me_bad] at h2)
    exact va_Nw.same (u := U) (U := U.calling g mk a) h3 rfl h1
  · obtain ⟨x, hx⟩ := h.2.1 q hq
    exact ⟨x, vk_R.same (u := U) (U := U.calling g mk a) rfl hx⟩
