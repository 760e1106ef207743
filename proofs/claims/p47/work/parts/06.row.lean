/-! THE JUDGEMENT OF A WALK: at pc, with logical locals and stack, over the world's contents -/
abbrev me_X : Type := Program × Launch × Env × Room × State × MethodId × Array Value × List Frame × Method × Code × (State → Prop) × me_G × (Nat → Prop) × Nat
def me_c2 : me_V → Bool
  | .inl v => v.category == 2
  | .inr _ => false
def me_lk (L : List (Nat × me_V)) (i : Nat) : Option me_V := (L.find? (fun q => q.1 == i)).map (fun q => q.2)
def me_st (i : Nat) (v : me_V) (L : List (Nat × me_V)) : List (Nat × me_V) := (i, v) :: L.filter (fun q => !(q.1 == i) && !(q.1 + 1 == i && me_c2 q.2))
def me_st2 (i : Nat) (v : me_V) (L : List (Nat × me_V)) : List (Nat × me_V) := (i, v) :: L.filter (fun q => !(q.1 == i) && (!(q.1 == i + 1) && !(q.1 + 1 == i && me_c2 q.2)))
def me_ls (B : me_B) (L : List (Nat × me_V)) : List (Nat × Value) := L.map (fun q => (q.1, me_cv B q.2))
def me_Z (X : me_X) (B : me_B) (nc ns : Nat) (μ : me_M) (pc : Nat) (L : List (Nat × me_V)) (st : List me_V) : Prop :=
  match X with
  | (p, l, e, R, s, m, args, below, meth, c, Q, E, A0, nL) =>
    ∀ (H : Heap) (locs : List Loc) (ls : Array Slot), me_W E B μ H → va_S A0 s.heap H locs → lv_has ls nL (me_ls B L) → (∀ q ∈ L, me_ok B q.2) → (∀ v ∈ st, me_ok B v) → me_J B → (∀ q, me_A B q → A0 q) →
      W p l e R s m args below meth c H locs nc ns Q (F0 m pc ls (st.map (me_cv B)))
/-- the words that every method may use: those of the tables that keep -/
def me_gw : List Cond := lw_tbl.filter goodWord
theorem me_gm {w : Cond} (i : Nat) (h : lw_tbl[i]? = some w) (hg : goodWord w = true) : w ∈ me_gw := List.mem_filter.mpr ⟨List.mem_of_getElem? h, hg⟩
/-- what is known all along a method's walk -/
def me_C (X : me_X) (B : me_B) (own : String) (cc : ByteArray) (nL : Nat) (ret : Option FieldType) : Prop :=
  match X with
  | (p, l, _, _, s, m, args, _, meth, c, _, E, A0, nL') =>
    p.tables.exec = Jvm.exec ∧ c.code = cc ∧ c.maxLocals = nL ∧ nL' = nL ∧ s.vm.findClass own = some m.cls ∧ (∀ w ∈ me_gw, w.before args s = true) ∧ va_K E.1 vwCl (me_ty E.2) s ∧ meth.locks = false ∧ meth.sig.returnType = ret ∧ l.stackTraces = false ∧ me_SF B A0 s s.heap ∧ me_NS B s ∧ ∀ q, s.heap.size ≤ q → A0 q
theorem me_ls_filter (B : me_B) (f : Nat → Bool → Bool) (L : List (Nat × me_V)) : me_ls B (L.filter (fun q => f q.1 (me_c2 q.2))) = (me_ls B L).filter (fun q => f q.1 (q.2.category == 2)) := by
  unfold me_ls
  rw [List.filter_map]
  congr 1
  apply List.filter_congr
  intro q _
  obtain ⟨i, v⟩ := q
  cases v <;> rfl
theorem me_lk_mem {L : List (Nat × me_V)} {i : Nat} {v : me_V} (h : me_lk L i = some v) : (i, v) ∈ L := by
  unfold me_lk at h
  cases hf : L.find? (fun q => q.1 == i) with
  | none => rw [hf] at h; cases h
  | some q =>
    rw [hf] at h
    have h1 := List.mem_of_find?_eq_some hf
    have h2 := List.find?_some hf
    have h3 : q.2 = v := Option.some.inj h
    have h4 : q.1 = i := by simpa using h2
    rw [← h3, ← h4]
    exact h1
theorem me_lk_at {B : me_B} {L : List (Nat × me_V)} {ls : Array Slot} {n i : Nat} {v : me_V} (hl : lv_has ls n (me_ls B L)) (h : me_lk L i = some v) : ls[i]? = some (.val (me_cv B v)) :=
  hl.2.2 (i, me_cv B v) (List.mem_map.mpr ⟨_, me_lk_mem h, rfl⟩)
theorem me_st_ls {B : me_B} {L : List (Nat × me_V)} {i : Nat} {v : me_V} : (i, me_cv B v) :: (me_ls B L).filter (fun q => !(q.1 == i) && !(q.1 + 1 == i && q.2.category == 2)) = me_ls B (me_st i v L) := by
  show _ = (i, me_cv B v) :: me_ls B _
  rw [me_ls_filter B (fun a b => !(a == i) && !(a + 1 == i && b)) L]
theorem me_st2_ls {B : me_B} {L : List (Nat × me_V)} {i : Nat} {v : me_V} : (i, me_cv B v) :: (me_ls B L).filter (fun q => !(q.1 == i) && (!(q.1 == i + 1) && !(q.1 + 1 == i && q.2.category == 2))) = me_ls B (me_st2 i v L) := by
  show _ = (i, me_cv B v) :: me_ls B _
  rw [me_ls_filter B (fun a b => !(a == i) && (!(a == i + 1) && !(a + 1 == i && b))) L]
theorem me_st_ok {B : me_B} {L : List (Nat × me_V)} {i : Nat} {v : me_V} (hv : me_ok B v) (h : ∀ q ∈ L, me_ok B q.2) : ∀ q ∈ me_st i v L, me_ok B q.2 := by
  intro q hq
  rcases List.mem_cons.mp hq with rfl | hq
  · exact hv
  · exact h q (List.mem_filter.mp hq).1
theorem me_st2_ok {B : me_B} {L : List (Nat × me_V)} {i : Nat} {v : me_V} (hv : me_ok B v) (h : ∀ q ∈ L, me_ok B q.2) : ∀ q ∈ me_st2 i v L, me_ok B q.2 := by
  intro q hq
  rcases List.mem_cons.mp hq with rfl | hq
  · exact hv
  · exact h q (List.mem_filter.mp hq).1
theorem me_okc {B : me_B} {v : me_V} {st : List me_V} (hv : me_ok B v) (h : ∀ w ∈ st, me_ok B w) : ∀ w ∈ v :: st, me_ok B w := fun w hw => (List.mem_cons.mp hw).elim (fun e => e ▸ hv) (h w)
theorem me_okt {B : me_B} {v : me_V} {st : List me_V} (h : ∀ w ∈ v :: st, me_ok B w) : ∀ w ∈ st, me_ok B w := fun w hw => h w (List.mem_cons_of_mem _ hw)
section MeRows
variable {X : me_X} {own : String} {cc : ByteArray} {nL : Nat} {ret : Option FieldType} {B : me_B} {nc ns : Nat} {μ : me_M} {pc : Nat} {L : List (Nat × me_V)} {st : List me_V}
/-- fewer locals -/
theorem me_drop (L' : List (Nat × me_V)) (h : ∀ q ∈ L', q ∈ L) (k : me_Z X B nc ns μ pc L' st) : me_Z X B nc ns μ pc L st := by
  obtain ⟨p, l, e, R, s, m, args, below, meth, c, Q, E, A0, nL'⟩ := X
  intro H locs ls hW hS hl hL hst hJ hA
  refine k H locs ls hW hS ⟨hl.1, hl.2.1, fun q hq => ?_⟩ (fun q hq => hL q (h q hq)) hst hJ hA
  obtain ⟨x, hx, rfl⟩ := List.mem_map.mp hq
  exact hl.2.2 _ (List.mem_map.mpr ⟨x, h x hx, rfl⟩)
theorem me_dropB (L' : List (Nat × me_V)) (bs : List Bool) (h : ((L.zip bs).filter (fun q => q.2)).map (fun q => q.1) = L') (k : me_Z X B nc ns μ pc L' st) : me_Z X B nc ns μ pc L st := by
  refine me_drop L' (fun q hq => ?_) k
  rw [← h] at hq
  obtain ⟨x, hx, rfl⟩ := List.mem_map.mp hq
  exact (List.of_mem_zip (List.mem_filter.mp hx).1).1

theorem me_iconst (C : me_C X B own cc nL ret) {n : Int} {v : Int32} (hdg : decode cc pc = .ok (.iconst n, 1)) (hv : Int32.ofInt n = v) (k : me_Z X B nc ns μ (pc + 1) L (me_i v :: st)) : me_Z X B nc ns μ pc L (st) := by
  obtain ⟨p, l, e, R, s, m, args, below, meth, c, Q, E, A0, nL'⟩ := X
  obtain ⟨hx, hb, hml, rfl, hown, hts, hK, hlocks, hret, hnt, hF, hNS, hfresh⟩ := C
  intro H locs ls hW hS hl hL hst hJ hA
  exact lv_iconst hx hb hdg hv (k H locs ls hW hS hl hL (me_okc trivial hst) hJ hA)
theorem me_bipush (C : me_C X B own cc nL ret) {n : Int} {v : Int32} (hdg : decode cc pc = .ok (.bipush n, 2)) (hv : (Int8.ofInt n).toInt32 = v) (k : me_Z X B nc ns μ (pc + 2) L (me_i v :: st)) : me_Z X B nc ns μ pc L (st) := by
  obtain ⟨p, l, e, R, s, m, args, below, meth, c, Q, E, A0, nL'⟩ := X
  obtain ⟨hx, hb, hml, rfl, hown, hts, hK, hlocks, hret, hnt, hF, hNS, hfresh⟩ := C
  intro H locs ls hW hS hl hL hst hJ hA
  exact lv_bipush hx hb hdg hv (k H locs ls hW hS hl hL (me_okc trivial hst) hJ hA)
theorem me_sipush (C : me_C X B own cc nL ret) {n : Int} {v : Int32} (hdg : decode cc pc = .ok (.sipush n, 3)) (hv : (Int16.ofInt n).toInt32 = v) (k : me_Z X B nc ns μ (pc + 3) L (me_i v :: st)) : me_Z X B nc ns μ pc L (st) := by
  obtain ⟨p, l, e, R, s, m, args, below, meth, c, Q, E, A0, nL'⟩ := X
  obtain ⟨hx, hb, hml, rfl, hown, hts, hK, hlocks, hret, hnt, hF, hNS, hfresh⟩ := C
  intro H locs ls hW hS hl hL hst hJ hA
  exact lv_sipush hx hb hdg hv (k H locs ls hW hS hl hL (me_okc trivial hst) hJ hA)
theorem me_lconst (C : me_C X B own cc nL ret) {n : Fin 2} {v : Int64} (hdg : decode cc pc = .ok (.lconst n, 1)) (hv : Int64.ofNat (n : Nat) = v) (k : me_Z X B nc ns μ (pc + 1) L (me_l v :: st)) : me_Z X B nc ns μ pc L (st) := by
  obtain ⟨p, l, e, R, s, m, args, below, meth, c, Q, E, A0, nL'⟩ := X
  obtain ⟨hx, hb, hml, rfl, hown, hts, hK, hlocks, hret, hnt, hF, hNS, hfresh⟩ := C
  intro H locs ls hW hS hl hL hst hJ hA
  exact lv_lconst hx hb hdg hv (k H locs ls hW hS hl hL (me_okc trivial hst) hJ hA)
theorem me_null (C : me_C X B own cc nL ret)  (hdg : decode cc pc = .ok (.aconst_null, 1)) (k : me_Z X B nc ns μ (pc + 1) L (me_n :: st)) : me_Z X B nc ns μ pc L (st) := by
  obtain ⟨p, l, e, R, s, m, args, below, meth, c, Q, E, A0, nL'⟩ := X
  obtain ⟨hx, hb, hml, rfl, hown, hts, hK, hlocks, hret, hnt, hF, hNS, hfresh⟩ := C
  intro H locs ls hW hS hl hL hst hJ hA
  exact lv_null hx hb hdg (k H locs ls hW hS hl hL (me_okc trivial hst) hJ hA)
theorem me_ldc2 (C : me_C X B own cc nL ret) {idx : Nat} {v : Int64} (hdg : decode cc pc = .ok (.ldc2_w idx, 3)) (hw : Cond.constantLong own idx v ∈ me_gw) (k : me_Z X B nc ns μ (pc + 3) L (me_l v :: st)) : me_Z X B nc ns μ pc L (st) := by
  obtain ⟨p, l, e, R, s, m, args, below, meth, c, Q, E, A0, nL'⟩ := X
  obtain ⟨hx, hb, hml, rfl, hown, hts, hK, hlocks, hret, hnt, hF, hNS, hfresh⟩ := C
  intro H locs ls hW hS hl hL hst hJ hA
  exact lv_ldc2 hx hb hown (hts _ hw) hdg (k H locs ls hW hS hl hL (me_okc trivial hst) hJ hA)
theorem me_fconst0 (C : me_C X B own cc nL ret)  (hdg : decode cc pc = .ok (.fconst 0, 1)) (k : me_Z X B nc ns μ (pc + 1) L (me_f FP.fconst0 :: st)) : me_Z X B nc ns μ pc L (st) := by
  obtain ⟨p, l, e, R, s, m, args, below, meth, c, Q, E, A0, nL'⟩ := X
  obtain ⟨hx, hb, hml, rfl, hown, hts, hK, hlocks, hret, hnt, hF, hNS, hfresh⟩ := C
  intro H locs ls hW hS hl hL hst hJ hA
  exact lv_fconst0 hx hb hdg (k H locs ls hW hS hl hL (me_okc trivial hst) hJ hA)
theorem me_dconst0 (C : me_C X B own cc nL ret)  (hdg : decode cc pc = .ok (.dconst 0, 1)) (k : me_Z X B nc ns μ (pc + 1) L (me_d FP.dconst0 :: st)) : me_Z X B nc ns μ pc L (st) := by
  obtain ⟨p, l, e, R, s, m, args, below, meth, c, Q, E, A0, nL'⟩ := X
  obtain ⟨hx, hb, hml, rfl, hown, hts, hK, hlocks, hret, hnt, hF, hNS, hfresh⟩ := C
  intro H locs ls hW hS hl hL hst hJ hA
  exact lv_dconst0 hx hb hdg (k H locs ls hW hS hl hL (me_okc trivial hst) hJ hA)
theorem me_iload (C : me_C X B own cc nL ret) {i : Nat} {x : Int32} (hdg : decode cc pc = .ok (.iload i, 2)) (hk : me_lk L i = some (me_i x)) (k : me_Z X B nc ns μ (pc + 2) L (me_i x :: st)) : me_Z X B nc ns μ pc L (st) := by
  obtain ⟨p, l, e, R, s, m, args, below, meth, c, Q, E, A0, nL'⟩ := X
  obtain ⟨hx, hb, hml, rfl, hown, hts, hK, hlocks, hret, hnt, hF, hNS, hfresh⟩ := C
  intro H locs ls hW hS hl hL hst hJ hA
  exact lv_iload hx hb hdg (me_lk_at hl hk) (k H locs ls hW hS hl hL (me_okc trivial hst) hJ hA)
theorem me_iload_n (C : me_C X B own cc nL ret) {j : Fin 4} (i : Nat) {x : Int32} (hdg : decode cc pc = .ok (.iload_n j, 1)) (hi : (j : Nat) = i) (hk : me_lk L i = some (me_i x)) (k : me_Z X B nc ns μ (pc + 1) L (me_i x :: st)) : me_Z X B nc ns μ pc L (st) := by
  obtain ⟨p, l, e, R, s, m, args, below, meth, c, Q, E, A0, nL'⟩ := X
  obtain ⟨hx, hb, hml, rfl, hown, hts, hK, hlocks, hret, hnt, hF, hNS, hfresh⟩ := C
  intro H locs ls hW hS hl hL hst hJ hA
  exact lv_iload_n hx hb hdg hi (me_lk_at hl hk) (k H locs ls hW hS hl hL (me_okc trivial hst) hJ hA)
theorem me_lload (C : me_C X B own cc nL ret) {i : Nat} {x : Int64} (hdg : decode cc pc = .ok (.lload i, 2)) (hk : me_lk L i = some (me_l x)) (k : me_Z X B nc ns μ (pc + 2) L (me_l x :: st)) : me_Z X B nc ns μ pc L (st) := by
  obtain ⟨p, l, e, R, s, m, args, below, meth, c, Q, E, A0, nL'⟩ := X
  obtain ⟨hx, hb, hml, rfl, hown, hts, hK, hlocks, hret, hnt, hF, hNS, hfresh⟩ := C
  intro H locs ls hW hS hl hL hst hJ hA
  exact lv_lload hx hb hdg (me_lk_at hl hk) (k H locs ls hW hS hl hL (me_okc trivial hst) hJ hA)
theorem me_lload_n (C : me_C X B own cc nL ret) {j : Fin 4} (i : Nat) {x : Int64} (hdg : decode cc pc = .ok (.lload_n j, 1)) (hi : (j : Nat) = i) (hk : me_lk L i = some (me_l x)) (k : me_Z X B nc ns μ (pc + 1) L (me_l x :: st)) : me_Z X B nc ns μ pc L (st) := by
  obtain ⟨p, l, e, R, s, m, args, below, meth, c, Q, E, A0, nL'⟩ := X
  obtain ⟨hx, hb, hml, rfl, hown, hts, hK, hlocks, hret, hnt, hF, hNS, hfresh⟩ := C
  intro H locs ls hW hS hl hL hst hJ hA
  exact lv_lload_n hx hb hdg hi (me_lk_at hl hk) (k H locs ls hW hS hl hL (me_okc trivial hst) hJ hA)
theorem me_fload (C : me_C X B own cc nL ret) {i : Nat} {x : UInt32} (hdg : decode cc pc = .ok (.fload i, 2)) (hk : me_lk L i = some (me_f x)) (k : me_Z X B nc ns μ (pc + 2) L (me_f x :: st)) : me_Z X B nc ns μ pc L (st) := by
  obtain ⟨p, l, e, R, s, m, args, below, meth, c, Q, E, A0, nL'⟩ := X
  obtain ⟨hx, hb, hml, rfl, hown, hts, hK, hlocks, hret, hnt, hF, hNS, hfresh⟩ := C
  intro H locs ls hW hS hl hL hst hJ hA
  exact lv_fload hx hb hdg (me_lk_at hl hk) (k H locs ls hW hS hl hL (me_okc trivial hst) hJ hA)
theorem me_dload (C : me_C X B own cc nL ret) {i : Nat} {x : UInt64} (hdg : decode cc pc = .ok (.dload i, 2)) (hk : me_lk L i = some (me_d x)) (k : me_Z X B nc ns μ (pc + 2) L (me_d x :: st)) : me_Z X B nc ns μ pc L (st) := by
  obtain ⟨p, l, e, R, s, m, args, below, meth, c, Q, E, A0, nL'⟩ := X
  obtain ⟨hx, hb, hml, rfl, hown, hts, hK, hlocks, hret, hnt, hF, hNS, hfresh⟩ := C
  intro H locs ls hW hS hl hL hst hJ hA
  exact lv_dload hx hb hdg (me_lk_at hl hk) (k H locs ls hW hS hl hL (me_okc trivial hst) hJ hA)
theorem me_dload_n (C : me_C X B own cc nL ret) {j : Fin 4} (i : Nat) {x : UInt64} (hdg : decode cc pc = .ok (.dload_n j, 1)) (hi : (j : Nat) = i) (hk : me_lk L i = some (me_d x)) (k : me_Z X B nc ns μ (pc + 1) L (me_d x :: st)) : me_Z X B nc ns μ pc L (st) := by
  obtain ⟨p, l, e, R, s, m, args, below, meth, c, Q, E, A0, nL'⟩ := X
  obtain ⟨hx, hb, hml, rfl, hown, hts, hK, hlocks, hret, hnt, hF, hNS, hfresh⟩ := C
  intro H locs ls hW hS hl hL hst hJ hA
  exact lv_dload_n hx hb hdg hi (me_lk_at hl hk) (k H locs ls hW hS hl hL (me_okc trivial hst) hJ hA)
theorem me_aload (C : me_C X B own cc nL ret) {i : Nat} {v : me_V} (hv : v = me_n ∨ (∃ q, v = .inr q) ∨ ∃ q, v = .inl (.ref q)) (hdg : decode cc pc = .ok (.aload i, 2)) (hk : me_lk L i = some v) (k : me_Z X B nc ns μ (pc + 2) L (v :: st)) : me_Z X B nc ns μ pc L (st) := by
  obtain ⟨p, l, e, R, s, m, args, below, meth, c, Q, E, A0, nL'⟩ := X
  obtain ⟨hx, hb, hml, rfl, hown, hts, hK, hlocks, hret, hnt, hF, hNS, hfresh⟩ := C
  intro H locs ls hW hS hl hL hst hJ hA
  have hv' := hL _ (me_lk_mem hk)
  have h2 := me_lk_at hl hk
  rcases hv with rfl | ⟨q, rfl⟩ | ⟨q, rfl⟩
  · exact lv_aloadN hx hb hdg h2 (k H locs ls hW hS hl hL (me_okc hv' hst) hJ hA)
  · exact lv_aload hx hb hdg h2 (k H locs ls hW hS hl hL (me_okc hv' hst) hJ hA)
  · exact lv_aload hx hb hdg h2 (k H locs ls hW hS hl hL (me_okc hv' hst) hJ hA)
theorem me_aload_n (C : me_C X B own cc nL ret) {j : Fin 4} (i : Nat) {v : me_V} (hv : v = me_n ∨ (∃ q, v = .inr q) ∨ ∃ q, v = .inl (.ref q)) (hdg : decode cc pc = .ok (.aload_n j, 1)) (hi : (j : Nat) = i) (hk : me_lk L i = some v) (k : me_Z X B nc ns μ (pc + 1) L (v :: st)) : me_Z X B nc ns μ pc L (st) := by
  obtain ⟨p, l, e, R, s, m, args, below, meth, c, Q, E, A0, nL'⟩ := X
  obtain ⟨hx, hb, hml, rfl, hown, hts, hK, hlocks, hret, hnt, hF, hNS, hfresh⟩ := C
  intro H locs ls hW hS hl hL hst hJ hA
  have hv' := hL _ (me_lk_mem hk)
  have h2 := me_lk_at hl hk
  rcases hv with rfl | ⟨q, rfl⟩ | ⟨q, rfl⟩
  · exact lv_aload_nN hx hb hdg hi h2 (k H locs ls hW hS hl hL (me_okc hv' hst) hJ hA)
  · exact lv_aload_n hx hb hdg hi h2 (k H locs ls hW hS hl hL (me_okc hv' hst) hJ hA)
  · exact lv_aload_n hx hb hdg hi h2 (k H locs ls hW hS hl hL (me_okc hv' hst) hJ hA)
theorem me_istore (C : me_C X B own cc nL ret) {i : Nat} {x : Int32} {L' : List (Nat × me_V)} (hdg : decode cc pc = .ok (.istore i, 2)) (hn : i < nL) (hl' : me_st i (me_i x) L = L') (k : me_Z X B nc ns μ (pc + 2) L' st) : me_Z X B nc ns μ pc L (me_i x :: st) := by
  obtain ⟨p, l, e, R, s, m, args, below, meth, c, Q, E, A0, nL'⟩ := X
  obtain ⟨hx, hb, hml, rfl, hown, hts, hK, hlocks, hret, hnt, hF, hNS, hfresh⟩ := C
  intro H locs ls hW hS hl hL hst hJ hA
  subst hl'
  exact lv_istore hx hb hdg hl hn (me_st_ls (v := me_i x)) (fun ls' hl2 => k H locs ls' hW hS hl2 (me_st_ok trivial hL) (me_okt hst) hJ hA)
theorem me_istore_n (C : me_C X B own cc nL ret) {j : Fin 4} (i : Nat) {x : Int32} {L' : List (Nat × me_V)} (hdg : decode cc pc = .ok (.istore_n j, 1)) (hi : (j : Nat) = i) (hn : i < nL) (hl' : me_st i (me_i x) L = L') (k : me_Z X B nc ns μ (pc + 1) L' st) : me_Z X B nc ns μ pc L (me_i x :: st) := by
  obtain ⟨p, l, e, R, s, m, args, below, meth, c, Q, E, A0, nL'⟩ := X
  obtain ⟨hx, hb, hml, rfl, hown, hts, hK, hlocks, hret, hnt, hF, hNS, hfresh⟩ := C
  intro H locs ls hW hS hl hL hst hJ hA
  subst hl'
  exact lv_istore_n hx hb hdg hi hl hn (me_st_ls (v := me_i x)) (fun ls' hl2 => k H locs ls' hW hS hl2 (me_st_ok trivial hL) (me_okt hst) hJ hA)
theorem me_fstore (C : me_C X B own cc nL ret) {i : Nat} {x : UInt32} {L' : List (Nat × me_V)} (hdg : decode cc pc = .ok (.fstore i, 2)) (hn : i < nL) (hl' : me_st i (me_f x) L = L') (k : me_Z X B nc ns μ (pc + 2) L' st) : me_Z X B nc ns μ pc L (me_f x :: st) := by
  obtain ⟨p, l, e, R, s, m, args, below, meth, c, Q, E, A0, nL'⟩ := X
  obtain ⟨hx, hb, hml, rfl, hown, hts, hK, hlocks, hret, hnt, hF, hNS, hfresh⟩ := C
  intro H locs ls hW hS hl hL hst hJ hA
  subst hl'
  exact lv_fstore hx hb hdg hl hn (me_st_ls (v := me_f x)) (fun ls' hl2 => k H locs ls' hW hS hl2 (me_st_ok trivial hL) (me_okt hst) hJ hA)
theorem me_lstore (C : me_C X B own cc nL ret) {i : Nat} {x : Int64} {L' : List (Nat × me_V)} (hdg : decode cc pc = .ok (.lstore i, 2)) (hn : i + 1 < nL) (hl' : me_st2 i (me_l x) L = L') (k : me_Z X B nc ns μ (pc + 2) L' st) : me_Z X B nc ns μ pc L (me_l x :: st) := by
  obtain ⟨p, l, e, R, s, m, args, below, meth, c, Q, E, A0, nL'⟩ := X
  obtain ⟨hx, hb, hml, rfl, hown, hts, hK, hlocks, hret, hnt, hF, hNS, hfresh⟩ := C
  intro H locs ls hW hS hl hL hst hJ hA
  subst hl'
  exact lv_lstore hx hb hdg hl hn (me_st2_ls (v := me_l x)) (fun ls' hl2 => k H locs ls' hW hS hl2 (me_st2_ok trivial hL) (me_okt hst) hJ hA)
theorem me_lstore_n (C : me_C X B own cc nL ret) {j : Fin 4} (i : Nat) {x : Int64} {L' : List (Nat × me_V)} (hdg : decode cc pc = .ok (.lstore_n j, 1)) (hi : (j : Nat) = i) (hn : i + 1 < nL) (hl' : me_st2 i (me_l x) L = L') (k : me_Z X B nc ns μ (pc + 1) L' st) : me_Z X B nc ns μ pc L (me_l x :: st) := by
  obtain ⟨p, l, e, R, s, m, args, below, meth, c, Q, E, A0, nL'⟩ := X
  obtain ⟨hx, hb, hml, rfl, hown, hts, hK, hlocks, hret, hnt, hF, hNS, hfresh⟩ := C
  intro H locs ls hW hS hl hL hst hJ hA
  subst hl'
  exact lv_lstore_n hx hb hdg hi hl hn (me_st2_ls (v := me_l x)) (fun ls' hl2 => k H locs ls' hW hS hl2 (me_st2_ok trivial hL) (me_okt hst) hJ hA)
theorem me_dstore (C : me_C X B own cc nL ret) {i : Nat} {x : UInt64} {L' : List (Nat × me_V)} (hdg : decode cc pc = .ok (.dstore i, 2)) (hn : i + 1 < nL) (hl' : me_st2 i (me_d x) L = L') (k : me_Z X B nc ns μ (pc + 2) L' st) : me_Z X B nc ns μ pc L (me_d x :: st) := by
  obtain ⟨p, l, e, R, s, m, args, below, meth, c, Q, E, A0, nL'⟩ := X
  obtain ⟨hx, hb, hml, rfl, hown, hts, hK, hlocks, hret, hnt, hF, hNS, hfresh⟩ := C
  intro H locs ls hW hS hl hL hst hJ hA
  subst hl'
  exact lv_dstore hx hb hdg hl hn (me_st2_ls (v := me_d x)) (fun ls' hl2 => k H locs ls' hW hS hl2 (me_st2_ok trivial hL) (me_okt hst) hJ hA)
theorem me_dstore_n (C : me_C X B own cc nL ret) {j : Fin 4} (i : Nat) {x : UInt64} {L' : List (Nat × me_V)} (hdg : decode cc pc = .ok (.dstore_n j, 1)) (hi : (j : Nat) = i) (hn : i + 1 < nL) (hl' : me_st2 i (me_d x) L = L') (k : me_Z X B nc ns μ (pc + 1) L' st) : me_Z X B nc ns μ pc L (me_d x :: st) := by
  obtain ⟨p, l, e, R, s, m, args, below, meth, c, Q, E, A0, nL'⟩ := X
  obtain ⟨hx, hb, hml, rfl, hown, hts, hK, hlocks, hret, hnt, hF, hNS, hfresh⟩ := C
  intro H locs ls hW hS hl hL hst hJ hA
  subst hl'
  exact lv_dstore_n hx hb hdg hi hl hn (me_st2_ls (v := me_d x)) (fun ls' hl2 => k H locs ls' hW hS hl2 (me_st2_ok trivial hL) (me_okt hst) hJ hA)
theorem me_astore (C : me_C X B own cc nL ret) {i : Nat} {v : me_V} (hv : v = me_n ∨ (∃ q, v = .inr q) ∨ ∃ q, v = .inl (.ref q)) {L' : List (Nat × me_V)} (hdg : decode cc pc = .ok (.astore i, 2)) (hn : i < nL) (hl' : me_st i (v) L = L') (k : me_Z X B nc ns μ (pc + 2) L' st) : me_Z X B nc ns μ pc L (v :: st) := by
  obtain ⟨p, l, e, R, s, m, args, below, meth, c, Q, E, A0, nL'⟩ := X
  obtain ⟨hx, hb, hml, rfl, hown, hts, hK, hlocks, hret, hnt, hF, hNS, hfresh⟩ := C
  intro H locs ls hW hS hl hL hst hJ hA
  subst hl'
  have hv2 := hst _ List.mem_cons_self
  rcases hv with rfl | ⟨q, rfl⟩ | ⟨q, rfl⟩
  · exact lv_astoreN hx hb hdg hl hn (me_st_ls (v := .inl .null)) (fun ls' hl2 => k H locs ls' hW hS hl2 (me_st_ok hv2 hL) (me_okt hst) hJ hA)
  · exact lv_astore hx hb hdg hl hn (me_st_ls (v := .inr q)) (fun ls' hl2 => k H locs ls' hW hS hl2 (me_st_ok hv2 hL) (me_okt hst) hJ hA)
  · exact lv_astore hx hb hdg hl hn (me_st_ls (v := .inl (.ref q))) (fun ls' hl2 => k H locs ls' hW hS hl2 (me_st_ok hv2 hL) (me_okt hst) hJ hA)
theorem me_astore_n (C : me_C X B own cc nL ret) {j : Fin 4} (i : Nat) {v : me_V} (hv : v = me_n ∨ (∃ q, v = .inr q) ∨ ∃ q, v = .inl (.ref q)) {L' : List (Nat × me_V)} (hdg : decode cc pc = .ok (.astore_n j, 1)) (hi : (j : Nat) = i) (hn : i < nL) (hl' : me_st i (v) L = L') (k : me_Z X B nc ns μ (pc + 1) L' st) : me_Z X B nc ns μ pc L (v :: st) := by
  obtain ⟨p, l, e, R, s, m, args, below, meth, c, Q, E, A0, nL'⟩ := X
  obtain ⟨hx, hb, hml, rfl, hown, hts, hK, hlocks, hret, hnt, hF, hNS, hfresh⟩ := C
  intro H locs ls hW hS hl hL hst hJ hA
  subst hl'
  have hv2 := hst _ List.mem_cons_self
  rcases hv with rfl | ⟨q, rfl⟩ | ⟨q, rfl⟩
  · exact lv_astore_nN hx hb hdg hi hl hn (me_st_ls (v := .inl .null)) (fun ls' hl2 => k H locs ls' hW hS hl2 (me_st_ok hv2 hL) (me_okt hst) hJ hA)
  · exact lv_astore_n hx hb hdg hi hl hn (me_st_ls (v := .inr q)) (fun ls' hl2 => k H locs ls' hW hS hl2 (me_st_ok hv2 hL) (me_okt hst) hJ hA)
  · exact lv_astore_n hx hb hdg hi hl hn (me_st_ls (v := .inl (.ref q))) (fun ls' hl2 => k H locs ls' hW hS hl2 (me_st_ok hv2 hL) (me_okt hst) hJ hA)
theorem me_lk_idx {B : me_B} {L : List (Nat × me_V)} {i : Nat} {v : me_V} (h : me_lk L i = some v) : ∃ k : Nat, (me_ls B L)[k]? = some (i, me_cv B v) :=
  List.getElem?_of_mem (List.mem_map.mpr ⟨_, me_lk_mem h, rfl⟩)
theorem me_iinc (C : me_C X B own cc nL ret) {i : Nat} {n : Int} {x v : Int32} {L' : List (Nat × me_V)} (hdg : decode cc pc = .ok (.iinc i n, 3)) (hk : me_lk L i = some (me_i x)) (hv : x + Int32.ofInt n = v) (hn : i < nL) (hl' : me_st i (me_i v) L = L') (k : me_Z X B nc ns μ (pc + 3) L' st) : me_Z X B nc ns μ pc L st := by
  obtain ⟨p, l, e, R, s, m, args, below, meth, c, Q, E, A0, nL'⟩ := X
  obtain ⟨hx, hb, hml, rfl, hown, hts, hK, hlocks, hret, hnt, hF, hNS, hfresh⟩ := C
  intro H locs ls hW hS hl hL hst hJ hA
  subst hl'
  obtain ⟨k0, hk0⟩ := me_lk_idx (B := B) hk
  exact lv_iinc hx hb hdg hl hk0 hv hn (me_st_ls (v := me_i v)) (fun ls' hl2 => k H locs ls' hW hS hl2 (me_st_ok trivial hL) hst hJ hA)
theorem me_iadd (C : me_C X B own cc nL ret) {x y : Int32} (hdg : decode cc pc = .ok (.iadd, 1)) (k : me_Z X B nc ns μ (pc + 1) L (me_i (x + y) :: st)) : me_Z X B nc ns μ pc L (me_i y :: me_i x :: st) := by
  obtain ⟨p, l, e, R, s, m, args, below, meth, c, Q, E, A0, nL'⟩ := X
  obtain ⟨hx, hb, hml, rfl, hown, hts, hK, hlocks, hret, hnt, hF, hNS, hfresh⟩ := C
  intro H locs ls hW hS hl hL hst hJ hA
  exact lv_iadd hx hb hdg (k H locs ls hW hS hl hL (me_okc trivial (me_okt (me_okt hst))) hJ hA)
theorem me_isub (C : me_C X B own cc nL ret) {x y : Int32} (hdg : decode cc pc = .ok (.isub, 1)) (k : me_Z X B nc ns μ (pc + 1) L (me_i (x - y) :: st)) : me_Z X B nc ns μ pc L (me_i y :: me_i x :: st) := by
  obtain ⟨p, l, e, R, s, m, args, below, meth, c, Q, E, A0, nL'⟩ := X
  obtain ⟨hx, hb, hml, rfl, hown, hts, hK, hlocks, hret, hnt, hF, hNS, hfresh⟩ := C
  intro H locs ls hW hS hl hL hst hJ hA
  exact lv_isub hx hb hdg (k H locs ls hW hS hl hL (me_okc trivial (me_okt (me_okt hst))) hJ hA)
theorem me_imul (C : me_C X B own cc nL ret) {x y : Int32} (hdg : decode cc pc = .ok (.imul, 1)) (k : me_Z X B nc ns μ (pc + 1) L (me_i (x * y) :: st)) : me_Z X B nc ns μ pc L (me_i y :: me_i x :: st) := by
  obtain ⟨p, l, e, R, s, m, args, below, meth, c, Q, E, A0, nL'⟩ := X
  obtain ⟨hx, hb, hml, rfl, hown, hts, hK, hlocks, hret, hnt, hF, hNS, hfresh⟩ := C
  intro H locs ls hW hS hl hL hst hJ hA
  exact lv_imul hx hb hdg (k H locs ls hW hS hl hL (me_okc trivial (me_okt (me_okt hst))) hJ hA)
theorem me_iand (C : me_C X B own cc nL ret) {x y : Int32} (hdg : decode cc pc = .ok (.iand, 1)) (k : me_Z X B nc ns μ (pc + 1) L (me_i (x &&& y) :: st)) : me_Z X B nc ns μ pc L (me_i y :: me_i x :: st) := by
  obtain ⟨p, l, e, R, s, m, args, below, meth, c, Q, E, A0, nL'⟩ := X
  obtain ⟨hx, hb, hml, rfl, hown, hts, hK, hlocks, hret, hnt, hF, hNS, hfresh⟩ := C
  intro H locs ls hW hS hl hL hst hJ hA
  exact lv_iand hx hb hdg (k H locs ls hW hS hl hL (me_okc trivial (me_okt (me_okt hst))) hJ hA)
theorem me_ior (C : me_C X B own cc nL ret) {x y : Int32} (hdg : decode cc pc = .ok (.ior, 1)) (k : me_Z X B nc ns μ (pc + 1) L (me_i (x ||| y) :: st)) : me_Z X B nc ns μ pc L (me_i y :: me_i x :: st) := by
  obtain ⟨p, l, e, R, s, m, args, below, meth, c, Q, E, A0, nL'⟩ := X
  obtain ⟨hx, hb, hml, rfl, hown, hts, hK, hlocks, hret, hnt, hF, hNS, hfresh⟩ := C
  intro H locs ls hW hS hl hL hst hJ hA
  exact lv_ior hx hb hdg (k H locs ls hW hS hl hL (me_okc trivial (me_okt (me_okt hst))) hJ hA)
theorem me_ixor (C : me_C X B own cc nL ret) {x y : Int32} (hdg : decode cc pc = .ok (.ixor, 1)) (k : me_Z X B nc ns μ (pc + 1) L (me_i (x ^^^ y) :: st)) : me_Z X B nc ns μ pc L (me_i y :: me_i x :: st) := by
  obtain ⟨p, l, e, R, s, m, args, below, meth, c, Q, E, A0, nL'⟩ := X
  obtain ⟨hx, hb, hml, rfl, hown, hts, hK, hlocks, hret, hnt, hF, hNS, hfresh⟩ := C
  intro H locs ls hW hS hl hL hst hJ hA
  exact lv_ixor hx hb hdg (k H locs ls hW hS hl hL (me_okc trivial (me_okt (me_okt hst))) hJ hA)
theorem me_ishl (C : me_C X B own cc nL ret) {x y : Int32} (hdg : decode cc pc = .ok (.ishl, 1)) (k : me_Z X B nc ns μ (pc + 1) L (me_i (x <<< (y &&& 31)) :: st)) : me_Z X B nc ns μ pc L (me_i y :: me_i x :: st) := by
  obtain ⟨p, l, e, R, s, m, args, below, meth, c, Q, E, A0, nL'⟩ := X
  obtain ⟨hx, hb, hml, rfl, hown, hts, hK, hlocks, hret, hnt, hF, hNS, hfresh⟩ := C
  intro H locs ls hW hS hl hL hst hJ hA
  exact lv_ishl hx hb hdg (k H locs ls hW hS hl hL (me_okc trivial (me_okt (me_okt hst))) hJ hA)
theorem me_ishr (C : me_C X B own cc nL ret) {x y : Int32} (hdg : decode cc pc = .ok (.ishr, 1)) (k : me_Z X B nc ns μ (pc + 1) L (me_i (x >>> (y &&& 31)) :: st)) : me_Z X B nc ns μ pc L (me_i y :: me_i x :: st) := by
  obtain ⟨p, l, e, R, s, m, args, below, meth, c, Q, E, A0, nL'⟩ := X
  obtain ⟨hx, hb, hml, rfl, hown, hts, hK, hlocks, hret, hnt, hF, hNS, hfresh⟩ := C
  intro H locs ls hW hS hl hL hst hJ hA
  exact lv_ishr hx hb hdg (k H locs ls hW hS hl hL (me_okc trivial (me_okt (me_okt hst))) hJ hA)
theorem me_ladd (C : me_C X B own cc nL ret) {x y : Int64} (hdg : decode cc pc = .ok (.ladd, 1)) (k : me_Z X B nc ns μ (pc + 1) L (me_l (x + y) :: st)) : me_Z X B nc ns μ pc L (me_l y :: me_l x :: st) := by
  obtain ⟨p, l, e, R, s, m, args, below, meth, c, Q, E, A0, nL'⟩ := X
  obtain ⟨hx, hb, hml, rfl, hown, hts, hK, hlocks, hret, hnt, hF, hNS, hfresh⟩ := C
  intro H locs ls hW hS hl hL hst hJ hA
  exact lv_ladd hx hb hdg (k H locs ls hW hS hl hL (me_okc trivial (me_okt (me_okt hst))) hJ hA)
theorem me_lmul (C : me_C X B own cc nL ret) {x y : Int64} (hdg : decode cc pc = .ok (.lmul, 1)) (k : me_Z X B nc ns μ (pc + 1) L (me_l (x * y) :: st)) : me_Z X B nc ns μ pc L (me_l y :: me_l x :: st) := by
  obtain ⟨p, l, e, R, s, m, args, below, meth, c, Q, E, A0, nL'⟩ := X
  obtain ⟨hx, hb, hml, rfl, hown, hts, hK, hlocks, hret, hnt, hF, hNS, hfresh⟩ := C
  intro H locs ls hW hS hl hL hst hJ hA
  exact lv_lmul hx hb hdg (k H locs ls hW hS hl hL (me_okc trivial (me_okt (me_okt hst))) hJ hA)
theorem me_lsub (C : me_C X B own cc nL ret) {x y : Int64} (hdg : decode cc pc = .ok (.lsub, 1)) (k : me_Z X B nc ns μ (pc + 1) L (me_l (x - y) :: st)) : me_Z X B nc ns μ pc L (me_l y :: me_l x :: st) := by
  obtain ⟨p, l, e, R, s, m, args, below, meth, c, Q, E, A0, nL'⟩ := X
  obtain ⟨hx, hb, hml, rfl, hown, hts, hK, hlocks, hret, hnt, hF, hNS, hfresh⟩ := C
  intro H locs ls hW hS hl hL hst hJ hA
  exact lv_lsub hx hb hdg (k H locs ls hW hS hl hL (me_okc trivial (me_okt (me_okt hst))) hJ hA)
theorem me_idiv (C : me_C X B own cc nL ret) {x y : Int32} (hdg : decode cc pc = .ok (.idiv, 1)) (hne : ¬ y = 0) (k : me_Z X B nc ns μ (pc + 1) L (me_i (x / y) :: st)) : me_Z X B nc ns μ pc L (me_i y :: me_i x :: st) := by
  obtain ⟨p, l, e, R, s, m, args, below, meth, c, Q, E, A0, nL'⟩ := X
  obtain ⟨hx, hb, hml, rfl, hown, hts, hK, hlocks, hret, hnt, hF, hNS, hfresh⟩ := C
  intro H locs ls hW hS hl hL hst hJ hA
  exact lv_idiv hx hb hdg hne (k H locs ls hW hS hl hL (me_okc trivial (me_okt (me_okt hst))) hJ hA)
theorem me_irem (C : me_C X B own cc nL ret) {x y : Int32} (hdg : decode cc pc = .ok (.irem, 1)) (hne : ¬ y = 0) (k : me_Z X B nc ns μ (pc + 1) L (me_i (x - (x / y) * y) :: st)) : me_Z X B nc ns μ pc L (me_i y :: me_i x :: st) := by
  obtain ⟨p, l, e, R, s, m, args, below, meth, c, Q, E, A0, nL'⟩ := X
  obtain ⟨hx, hb, hml, rfl, hown, hts, hK, hlocks, hret, hnt, hF, hNS, hfresh⟩ := C
  intro H locs ls hW hS hl hL hst hJ hA
  exact lv_irem hx hb hdg hne (k H locs ls hW hS hl hL (me_okc trivial (me_okt (me_okt hst))) hJ hA)
theorem me_iushr (C : me_C X B own cc nL ret) {x y : Int32} (hdg : decode cc pc = .ok (.iushr, 1)) (k : me_Z X B nc ns μ (pc + 1) L (me_i (x.toUInt32 >>> (y.toUInt32 &&& Int32.toUInt32 31)).toInt32 :: st)) : me_Z X B nc ns μ pc L (me_i y :: me_i x :: st) := by
  obtain ⟨p, l, e, R, s, m, args, below, meth, c, Q, E, A0, nL'⟩ := X
  obtain ⟨hx, hb, hml, rfl, hown, hts, hK, hlocks, hret, hnt, hF, hNS, hfresh⟩ := C
  intro H locs ls hW hS hl hL hst hJ hA
  exact lv_iushr hx hb hdg rfl (k H locs ls hW hS hl hL (me_okc trivial (me_okt (me_okt hst))) hJ hA)
theorem me_i2l (C : me_C X B own cc nL ret) {x : Int32} (hdg : decode cc pc = .ok (.i2l, 1)) (k : me_Z X B nc ns μ (pc + 1) L (me_l x.toInt64 :: st)) : me_Z X B nc ns μ pc L (me_i x :: st) := by
  obtain ⟨p, l, e, R, s, m, args, below, meth, c, Q, E, A0, nL'⟩ := X
  obtain ⟨hx, hb, hml, rfl, hown, hts, hK, hlocks, hret, hnt, hF, hNS, hfresh⟩ := C
  intro H locs ls hW hS hl hL hst hJ hA
  exact lv_i2l hx hb hdg rfl (k H locs ls hW hS hl hL (me_okc trivial (me_okt hst)) hJ hA)
theorem me_i2c (C : me_C X B own cc nL ret) {x : Int32} (hdg : decode cc pc = .ok (.i2c, 1)) (k : me_Z X B nc ns μ (pc + 1) L (me_i (x.toUInt32 % 65536).toInt32 :: st)) : me_Z X B nc ns μ pc L (me_i x :: st) := by
  obtain ⟨p, l, e, R, s, m, args, below, meth, c, Q, E, A0, nL'⟩ := X
  obtain ⟨hx, hb, hml, rfl, hown, hts, hK, hlocks, hret, hnt, hF, hNS, hfresh⟩ := C
  intro H locs ls hW hS hl hL hst hJ hA
  exact lv_i2c hx hb hdg rfl (k H locs ls hW hS hl hL (me_okc trivial (me_okt hst)) hJ hA)
theorem me_i2f (C : me_C X B own cc nL ret) {x : Int32} (hdg : decode cc pc = .ok (.i2f, 1)) (k : me_Z X B nc ns μ (pc + 1) L (me_f (FP.i2f x) :: st)) : me_Z X B nc ns μ pc L (me_i x :: st) := by
  obtain ⟨p, l, e, R, s, m, args, below, meth, c, Q, E, A0, nL'⟩ := X
  obtain ⟨hx, hb, hml, rfl, hown, hts, hK, hlocks, hret, hnt, hF, hNS, hfresh⟩ := C
  intro H locs ls hW hS hl hL hst hJ hA
  exact lv_i2f hx hb hdg (k H locs ls hW hS hl hL (me_okc trivial (me_okt hst)) hJ hA)
theorem me_i2d (C : me_C X B own cc nL ret) {x : Int32} (hdg : decode cc pc = .ok (.i2d, 1)) (k : me_Z X B nc ns μ (pc + 1) L (me_d (FP.i2d x) :: st)) : me_Z X B nc ns μ pc L (me_i x :: st) := by
  obtain ⟨p, l, e, R, s, m, args, below, meth, c, Q, E, A0, nL'⟩ := X
  obtain ⟨hx, hb, hml, rfl, hown, hts, hK, hlocks, hret, hnt, hF, hNS, hfresh⟩ := C
  intro H locs ls hW hS hl hL hst hJ hA
  exact lv_i2d hx hb hdg (k H locs ls hW hS hl hL (me_okc trivial (me_okt hst)) hJ hA)
theorem me_fdiv (C : me_C X B own cc nL ret) {x y : UInt32} (hdg : decode cc pc = .ok (.fdiv, 1)) (hne : vf_n32 (FP.fdiv x y)) (k : me_Z X B nc ns μ (pc + 1) L (me_f (FP.fdiv x y) :: st)) : me_Z X B nc ns μ pc L (me_f y :: me_f x :: st) := by
  obtain ⟨p, l, e, R, s, m, args, below, meth, c, Q, E, A0, nL'⟩ := X
  obtain ⟨hx, hb, hml, rfl, hown, hts, hK, hlocks, hret, hnt, hF, hNS, hfresh⟩ := C
  intro H locs ls hW hS hl hL hst hJ hA
  exact lv_fdiv hx hb hdg hne (k H locs ls hW hS hl hL (me_okc trivial (me_okt (me_okt hst))) hJ hA)
theorem me_ddiv (C : me_C X B own cc nL ret) {x y : UInt64} (hdg : decode cc pc = .ok (.ddiv, 1)) (hne : vf_n64 (FP.ddiv x y)) (k : me_Z X B nc ns μ (pc + 1) L (me_d (FP.ddiv x y) :: st)) : me_Z X B nc ns μ pc L (me_d y :: me_d x :: st) := by
  obtain ⟨p, l, e, R, s, m, args, below, meth, c, Q, E, A0, nL'⟩ := X
  obtain ⟨hx, hb, hml, rfl, hown, hts, hK, hlocks, hret, hnt, hF, hNS, hfresh⟩ := C
  intro H locs ls hW hS hl hL hst hJ hA
  exact lv_ddiv hx hb hdg hne (k H locs ls hW hS hl hL (me_okc trivial (me_okt (me_okt hst))) hJ hA)
theorem me_f2d (C : me_C X B own cc nL ret) {x : UInt32} (hdg : decode cc pc = .ok (.f2d, 1)) (hne : vf_n64 (FP.f2d x)) (k : me_Z X B nc ns μ (pc + 1) L (me_d (FP.f2d x) :: st)) : me_Z X B nc ns μ pc L (me_f x :: st) := by
  obtain ⟨p, l, e, R, s, m, args, below, meth, c, Q, E, A0, nL'⟩ := X
  obtain ⟨hx, hb, hml, rfl, hown, hts, hK, hlocks, hret, hnt, hF, hNS, hfresh⟩ := C
  intro H locs ls hW hS hl hL hst hJ hA
  exact lv_f2d hx hb hdg hne (k H locs ls hW hS hl hL (me_okc trivial (me_okt hst)) hJ hA)
theorem me_lcmp (C : me_C X B own cc nL ret) {x y : Int64} (hdg : decode cc pc = .ok (.lcmp, 1)) (k : me_Z X B nc ns μ (pc + 1) L (me_i (lg_cmp x y) :: st)) : me_Z X B nc ns μ pc L (me_l y :: me_l x :: st) := by
  obtain ⟨p, l, e, R, s, m, args, below, meth, c, Q, E, A0, nL'⟩ := X
  obtain ⟨hx, hb, hml, rfl, hown, hts, hK, hlocks, hret, hnt, hF, hNS, hfresh⟩ := C
  intro H locs ls hW hS hl hL hst hJ hA
  exact W.lcmp hx hb hdg (k H locs ls hW hS hl hL (me_okc trivial (me_okt (me_okt hst))) hJ hA)
theorem me_dcmp (C : me_C X B own cc nL ret) {x y : UInt64} {op : CmpOp} (hdg : decode cc pc = .ok (.dcmp op, 1)) (k : me_Z X B nc ns μ (pc + 1) L (me_i (Op.cmpValue (FP.dcmp x y) op) :: st)) : me_Z X B nc ns μ pc L (me_d y :: me_d x :: st) := by
  obtain ⟨p, l, e, R, s, m, args, below, meth, c, Q, E, A0, nL'⟩ := X
  obtain ⟨hx, hb, hml, rfl, hown, hts, hK, hlocks, hret, hnt, hF, hNS, hfresh⟩ := C
  intro H locs ls hW hS hl hL hst hJ hA
  exact lv_dcmp hx hb hdg (k H locs ls hW hS hl hL (me_okc trivial (me_okt (me_okt hst))) hJ hA)
theorem me_fcmp (C : me_C X B own cc nL ret) {x y : UInt32} {op : CmpOp} (hdg : decode cc pc = .ok (.fcmp op, 1)) (k : me_Z X B nc ns μ (pc + 1) L (me_i (Op.cmpValue (FP.fcmp x y) op) :: st)) : me_Z X B nc ns μ pc L (me_f y :: me_f x :: st) := by
  obtain ⟨p, l, e, R, s, m, args, below, meth, c, Q, E, A0, nL'⟩ := X
  obtain ⟨hx, hb, hml, rfl, hown, hts, hK, hlocks, hret, hnt, hF, hNS, hfresh⟩ := C
  intro H locs ls hW hS hl hL hst hJ hA
  exact lv_fcmp hx hb hdg (k H locs ls hW hS hl hL (me_okc trivial (me_okt (me_okt hst))) hJ hA)
theorem me_cat {B : me_B} {v : me_V} (h : me_c2 v = false) : (me_cv B v).category = 1 := by
  rcases v with v | q
  · cases v <;> first | rfl | exact absurd h (by simp [me_c2, Value.category])
  · rfl
theorem me_dup (C : me_C X B own cc nL ret) {v : me_V} (hv : me_c2 v = false) (hdg : decode cc pc = .ok (.dup, 1)) (k : me_Z X B nc ns μ (pc + 1) L (v :: v :: st)) : me_Z X B nc ns μ pc L (v :: st) := by
  obtain ⟨p, l, e, R, s, m, args, below, meth, c, Q, E, A0, nL'⟩ := X
  obtain ⟨hx, hb, hml, rfl, hown, hts, hK, hlocks, hret, hnt, hF, hNS, hfresh⟩ := C
  intro H locs ls hW hS hl hL hst hJ hA
  exact lv_dup hx hb hdg (me_cat hv) (k H locs ls hW hS hl hL (me_okc (hst _ List.mem_cons_self) hst) hJ hA)
theorem me_pop (C : me_C X B own cc nL ret) {v : me_V} (hv : me_c2 v = false) (hdg : decode cc pc = .ok (.pop, 1)) (k : me_Z X B nc ns μ (pc + 1) L (st)) : me_Z X B nc ns μ pc L (v :: st) := by
  obtain ⟨p, l, e, R, s, m, args, below, meth, c, Q, E, A0, nL'⟩ := X
  obtain ⟨hx, hb, hml, rfl, hown, hts, hK, hlocks, hret, hnt, hF, hNS, hfresh⟩ := C
  intro H locs ls hW hS hl hL hst hJ hA
  exact lv_pop hx hb hdg (me_cat hv) (k H locs ls hW hS hl hL (me_okt hst) hJ hA)
theorem me_dup2 (C : me_C X B own cc nL ret) {v w : me_V} (hv : me_c2 v = false) (hw : me_c2 w = false) (hdg : decode cc pc = .ok (.dup2, 1)) (k : me_Z X B nc ns μ (pc + 1) L (v :: w :: v :: w :: st)) : me_Z X B nc ns μ pc L (v :: w :: st) := by
  obtain ⟨p, l, e, R, s, m, args, below, meth, c, Q, E, A0, nL'⟩ := X
  obtain ⟨hx, hb, hml, rfl, hown, hts, hK, hlocks, hret, hnt, hF, hNS, hfresh⟩ := C
  intro H locs ls hW hS hl hL hst hJ hA
  exact lv_dup2_11 hx hb hdg (me_cat hv) (me_cat hw) (k H locs ls hW hS hl hL (me_okc (hst _ List.mem_cons_self) (me_okc (hst _ (List.mem_cons_of_mem _ List.mem_cons_self)) hst)) hJ hA)
theorem me_if_eq (C : me_C X B own cc nL ret) {x : Int32} {off : Int} {tgt : Nat} (hdg : decode cc pc = .ok (.ifCond .eq off, 3)) (ht : (pc : Int) + off = (tgt : Int)) (kt : x = 0 → me_Z X B nc ns μ tgt L st) (kf : ¬ x = 0 → me_Z X B nc ns μ (pc + 3) L st) : me_Z X B nc ns μ pc L (me_i x :: st) := by
  obtain ⟨p, l, e, R, s, m, args, below, meth, c, Q, E, A0, nL'⟩ := X
  obtain ⟨hx, hb, hml, rfl, hown, hts, hK, hlocks, hret, hnt, hF, hNS, hfresh⟩ := C
  intro H locs ls hW hS hl hL hst hJ hA
  exact lv_if_eq hx hb hdg ht (fun q => kt q H locs ls hW hS hl hL (me_okt hst) hJ hA) (fun q => kf q H locs ls hW hS hl hL (me_okt hst) hJ hA)
theorem me_if_ne (C : me_C X B own cc nL ret) {x : Int32} {off : Int} {tgt : Nat} (hdg : decode cc pc = .ok (.ifCond .ne off, 3)) (ht : (pc : Int) + off = (tgt : Int)) (kt : ¬ x = 0 → me_Z X B nc ns μ tgt L st) (kf : x = 0 → me_Z X B nc ns μ (pc + 3) L st) : me_Z X B nc ns μ pc L (me_i x :: st) := by
  obtain ⟨p, l, e, R, s, m, args, below, meth, c, Q, E, A0, nL'⟩ := X
  obtain ⟨hx, hb, hml, rfl, hown, hts, hK, hlocks, hret, hnt, hF, hNS, hfresh⟩ := C
  intro H locs ls hW hS hl hL hst hJ hA
  exact lv_if_ne hx hb hdg ht (fun q => kt q H locs ls hW hS hl hL (me_okt hst) hJ hA) (fun q => kf q H locs ls hW hS hl hL (me_okt hst) hJ hA)
theorem me_if_lt (C : me_C X B own cc nL ret) {x : Int32} {off : Int} {tgt : Nat} (hdg : decode cc pc = .ok (.ifCond .lt off, 3)) (ht : (pc : Int) + off = (tgt : Int)) (kt : x < 0 → me_Z X B nc ns μ tgt L st) (kf : ¬ x < 0 → me_Z X B nc ns μ (pc + 3) L st) : me_Z X B nc ns μ pc L (me_i x :: st) := by
  obtain ⟨p, l, e, R, s, m, args, below, meth, c, Q, E, A0, nL'⟩ := X
  obtain ⟨hx, hb, hml, rfl, hown, hts, hK, hlocks, hret, hnt, hF, hNS, hfresh⟩ := C
  intro H locs ls hW hS hl hL hst hJ hA
  exact lv_if_lt hx hb hdg ht (fun q => kt q H locs ls hW hS hl hL (me_okt hst) hJ hA) (fun q => kf q H locs ls hW hS hl hL (me_okt hst) hJ hA)
theorem me_if_ge (C : me_C X B own cc nL ret) {x : Int32} {off : Int} {tgt : Nat} (hdg : decode cc pc = .ok (.ifCond .ge off, 3)) (ht : (pc : Int) + off = (tgt : Int)) (kt : 0 ≤ x → me_Z X B nc ns μ tgt L st) (kf : ¬ 0 ≤ x → me_Z X B nc ns μ (pc + 3) L st) : me_Z X B nc ns μ pc L (me_i x :: st) := by
  obtain ⟨p, l, e, R, s, m, args, below, meth, c, Q, E, A0, nL'⟩ := X
  obtain ⟨hx, hb, hml, rfl, hown, hts, hK, hlocks, hret, hnt, hF, hNS, hfresh⟩ := C
  intro H locs ls hW hS hl hL hst hJ hA
  exact lv_if_ge hx hb hdg ht (fun q => kt q H locs ls hW hS hl hL (me_okt hst) hJ hA) (fun q => kf q H locs ls hW hS hl hL (me_okt hst) hJ hA)
theorem me_if_gt (C : me_C X B own cc nL ret) {x : Int32} {off : Int} {tgt : Nat} (hdg : decode cc pc = .ok (.ifCond .gt off, 3)) (ht : (pc : Int) + off = (tgt : Int)) (kt : 0 < x → me_Z X B nc ns μ tgt L st) (kf : ¬ 0 < x → me_Z X B nc ns μ (pc + 3) L st) : me_Z X B nc ns μ pc L (me_i x :: st) := by
  obtain ⟨p, l, e, R, s, m, args, below, meth, c, Q, E, A0, nL'⟩ := X
  obtain ⟨hx, hb, hml, rfl, hown, hts, hK, hlocks, hret, hnt, hF, hNS, hfresh⟩ := C
  intro H locs ls hW hS hl hL hst hJ hA
  exact lv_if_gt hx hb hdg ht (fun q => kt q H locs ls hW hS hl hL (me_okt hst) hJ hA) (fun q => kf q H locs ls hW hS hl hL (me_okt hst) hJ hA)
theorem me_if_le (C : me_C X B own cc nL ret) {x : Int32} {off : Int} {tgt : Nat} (hdg : decode cc pc = .ok (.ifCond .le off, 3)) (ht : (pc : Int) + off = (tgt : Int)) (kt : x ≤ 0 → me_Z X B nc ns μ tgt L st) (kf : ¬ x ≤ 0 → me_Z X B nc ns μ (pc + 3) L st) : me_Z X B nc ns μ pc L (me_i x :: st) := by
  obtain ⟨p, l, e, R, s, m, args, below, meth, c, Q, E, A0, nL'⟩ := X
  obtain ⟨hx, hb, hml, rfl, hown, hts, hK, hlocks, hret, hnt, hF, hNS, hfresh⟩ := C
  intro H locs ls hW hS hl hL hst hJ hA
  exact lv_if_le hx hb hdg ht (fun q => kt q H locs ls hW hS hl hL (me_okt hst) hJ hA) (fun q => kf q H locs ls hW hS hl hL (me_okt hst) hJ hA)
theorem me_icmp_eq (C : me_C X B own cc nL ret) {x y : Int32} {off : Int} {tgt : Nat} (hdg : decode cc pc = .ok (.if_icmp .eq off, 3)) (ht : (pc : Int) + off = (tgt : Int)) (kt : x = y → me_Z X B nc ns μ tgt L st) (kf : ¬ x = y → me_Z X B nc ns μ (pc + 3) L st) : me_Z X B nc ns μ pc L (me_i y :: me_i x :: st) := by
  obtain ⟨p, l, e, R, s, m, args, below, meth, c, Q, E, A0, nL'⟩ := X
  obtain ⟨hx, hb, hml, rfl, hown, hts, hK, hlocks, hret, hnt, hF, hNS, hfresh⟩ := C
  intro H locs ls hW hS hl hL hst hJ hA
  exact lv_icmp_eq hx hb hdg ht (fun q => kt q H locs ls hW hS hl hL (me_okt (me_okt hst)) hJ hA) (fun q => kf q H locs ls hW hS hl hL (me_okt (me_okt hst)) hJ hA)
theorem me_icmp_ne (C : me_C X B own cc nL ret) {x y : Int32} {off : Int} {tgt : Nat} (hdg : decode cc pc = .ok (.if_icmp .ne off, 3)) (ht : (pc : Int) + off = (tgt : Int)) (kt : ¬ x = y → me_Z X B nc ns μ tgt L st) (kf : x = y → me_Z X B nc ns μ (pc + 3) L st) : me_Z X B nc ns μ pc L (me_i y :: me_i x :: st) := by
  obtain ⟨p, l, e, R, s, m, args, below, meth, c, Q, E, A0, nL'⟩ := X
  obtain ⟨hx, hb, hml, rfl, hown, hts, hK, hlocks, hret, hnt, hF, hNS, hfresh⟩ := C
  intro H locs ls hW hS hl hL hst hJ hA
  exact lv_icmp_ne hx hb hdg ht (fun q => kt q H locs ls hW hS hl hL (me_okt (me_okt hst)) hJ hA) (fun q => kf q H locs ls hW hS hl hL (me_okt (me_okt hst)) hJ hA)
theorem me_icmp_lt (C : me_C X B own cc nL ret) {x y : Int32} {off : Int} {tgt : Nat} (hdg : decode cc pc = .ok (.if_icmp .lt off, 3)) (ht : (pc : Int) + off = (tgt : Int)) (kt : x < y → me_Z X B nc ns μ tgt L st) (kf : ¬ x < y → me_Z X B nc ns μ (pc + 3) L st) : me_Z X B nc ns μ pc L (me_i y :: me_i x :: st) := by
  obtain ⟨p, l, e, R, s, m, args, below, meth, c, Q, E, A0, nL'⟩ := X
  obtain ⟨hx, hb, hml, rfl, hown, hts, hK, hlocks, hret, hnt, hF, hNS, hfresh⟩ := C
  intro H locs ls hW hS hl hL hst hJ hA
  exact lv_icmp_lt hx hb hdg ht (fun q => kt q H locs ls hW hS hl hL (me_okt (me_okt hst)) hJ hA) (fun q => kf q H locs ls hW hS hl hL (me_okt (me_okt hst)) hJ hA)
theorem me_icmp_ge (C : me_C X B own cc nL ret) {x y : Int32} {off : Int} {tgt : Nat} (hdg : decode cc pc = .ok (.if_icmp .ge off, 3)) (ht : (pc : Int) + off = (tgt : Int)) (kt : y ≤ x → me_Z X B nc ns μ tgt L st) (kf : ¬ y ≤ x → me_Z X B nc ns μ (pc + 3) L st) : me_Z X B nc ns μ pc L (me_i y :: me_i x :: st) := by
  obtain ⟨p, l, e, R, s, m, args, below, meth, c, Q, E, A0, nL'⟩ := X
  obtain ⟨hx, hb, hml, rfl, hown, hts, hK, hlocks, hret, hnt, hF, hNS, hfresh⟩ := C
  intro H locs ls hW hS hl hL hst hJ hA
  exact lv_icmp_ge hx hb hdg ht (fun q => kt q H locs ls hW hS hl hL (me_okt (me_okt hst)) hJ hA) (fun q => kf q H locs ls hW hS hl hL (me_okt (me_okt hst)) hJ hA)
theorem me_icmp_gt (C : me_C X B own cc nL ret) {x y : Int32} {off : Int} {tgt : Nat} (hdg : decode cc pc = .ok (.if_icmp .gt off, 3)) (ht : (pc : Int) + off = (tgt : Int)) (kt : y < x → me_Z X B nc ns μ tgt L st) (kf : ¬ y < x → me_Z X B nc ns μ (pc + 3) L st) : me_Z X B nc ns μ pc L (me_i y :: me_i x :: st) := by
  obtain ⟨p, l, e, R, s, m, args, below, meth, c, Q, E, A0, nL'⟩ := X
  obtain ⟨hx, hb, hml, rfl, hown, hts, hK, hlocks, hret, hnt, hF, hNS, hfresh⟩ := C
  intro H locs ls hW hS hl hL hst hJ hA
  exact lv_icmp_gt hx hb hdg ht (fun q => kt q H locs ls hW hS hl hL (me_okt (me_okt hst)) hJ hA) (fun q => kf q H locs ls hW hS hl hL (me_okt (me_okt hst)) hJ hA)
theorem me_icmp_le (C : me_C X B own cc nL ret) {x y : Int32} {off : Int} {tgt : Nat} (hdg : decode cc pc = .ok (.if_icmp .le off, 3)) (ht : (pc : Int) + off = (tgt : Int)) (kt : x ≤ y → me_Z X B nc ns μ tgt L st) (kf : ¬ x ≤ y → me_Z X B nc ns μ (pc + 3) L st) : me_Z X B nc ns μ pc L (me_i y :: me_i x :: st) := by
  obtain ⟨p, l, e, R, s, m, args, below, meth, c, Q, E, A0, nL'⟩ := X
  obtain ⟨hx, hb, hml, rfl, hown, hts, hK, hlocks, hret, hnt, hF, hNS, hfresh⟩ := C
  intro H locs ls hW hS hl hL hst hJ hA
  exact lv_icmp_le hx hb hdg ht (fun q => kt q H locs ls hW hS hl hL (me_okt (me_okt hst)) hJ hA) (fun q => kf q H locs ls hW hS hl hL (me_okt (me_okt hst)) hJ hA)
theorem me_goto (C : me_C X B own cc nL ret) {off : Int} {tgt : Nat} (hdg : decode cc pc = .ok (.goto off, 3)) (ht : (pc : Int) + off = (tgt : Int)) (k : me_Z X B nc ns μ tgt L st) : me_Z X B nc ns μ pc L st := by
  obtain ⟨p, l, e, R, s, m, args, below, meth, c, Q, E, A0, nL'⟩ := X
  obtain ⟨hx, hb, hml, rfl, hown, hts, hK, hlocks, hret, hnt, hF, hNS, hfresh⟩ := C
  intro H locs ls hW hS hl hL hst hJ hA
  exact lv_goto hx hb hdg ht (k H locs ls hW hS hl hL hst hJ hA)
theorem me_ifnull_n (C : me_C X B own cc nL ret) {off : Int} {tgt : Nat} (hdg : decode cc pc = .ok (.ifnull off, 3)) (ht : (pc : Int) + off = (tgt : Int)) (k : me_Z X B nc ns μ tgt L st) : me_Z X B nc ns μ pc L (me_n :: st) := by
  obtain ⟨p, l, e, R, s, m, args, below, meth, c, Q, E, A0, nL'⟩ := X
  obtain ⟨hx, hb, hml, rfl, hown, hts, hK, hlocks, hret, hnt, hF, hNS, hfresh⟩ := C
  intro H locs ls hW hS hl hL hst hJ hA
  exact lv_ifnullN hx hb hdg ht (k H locs ls hW hS hl hL (me_okt hst) hJ hA)
theorem me_ifnull_r (C : me_C X B own cc nL ret) {q : Nat × Nat} {off : Int} (hdg : decode cc pc = .ok (.ifnull off, 3)) (k : me_Z X B nc ns μ (pc + 3) L st) : me_Z X B nc ns μ pc L (.inr q :: st) := by
  obtain ⟨p, l, e, R, s, m, args, below, meth, c, Q, E, A0, nL'⟩ := X
  obtain ⟨hx, hb, hml, rfl, hown, hts, hK, hlocks, hret, hnt, hF, hNS, hfresh⟩ := C
  intro H locs ls hW hS hl hL hst hJ hA
  exact lv_ifnull hx hb hdg (k H locs ls hW hS hl hL (me_okt hst) hJ hA)
theorem me_ifnonnull_n (C : me_C X B own cc nL ret) {off : Int} (hdg : decode cc pc = .ok (.ifnonnull off, 3)) (k : me_Z X B nc ns μ (pc + 3) L st) : me_Z X B nc ns μ pc L (me_n :: st) := by
  obtain ⟨p, l, e, R, s, m, args, below, meth, c, Q, E, A0, nL'⟩ := X
  obtain ⟨hx, hb, hml, rfl, hown, hts, hK, hlocks, hret, hnt, hF, hNS, hfresh⟩ := C
  intro H locs ls hW hS hl hL hst hJ hA
  exact lv_ifnonnullN hx hb hdg (k H locs ls hW hS hl hL (me_okt hst) hJ hA)
theorem me_ifnonnull_r (C : me_C X B own cc nL ret) {q : Nat × Nat} {off : Int} {tgt : Nat} (hdg : decode cc pc = .ok (.ifnonnull off, 3)) (ht : (pc : Int) + off = (tgt : Int)) (k : me_Z X B nc ns μ tgt L st) : me_Z X B nc ns μ pc L (.inr q :: st) := by
  obtain ⟨p, l, e, R, s, m, args, below, meth, c, Q, E, A0, nL'⟩ := X
  obtain ⟨hx, hb, hml, rfl, hown, hts, hK, hlocks, hret, hnt, hF, hNS, hfresh⟩ := C
  intro H locs ls hW hS hl hL hst hJ hA
  exact lv_ifnonnull hx hb hdg ht (k H locs ls hW hS hl hL (me_okt hst) hJ hA)
end MeRows
