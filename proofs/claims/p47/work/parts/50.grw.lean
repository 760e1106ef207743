/-! A WORLD THAT GROWS: constructors. Counts n, references r and contents are known; addresses are any -/
abbrev me_Nt : Type := Nat → Nat
abbrev me_Rt : Type := Nat → Nat → Nat → Option (Nat × Nat)
abbrev me_w : Type := Nat × (Nat → Int32)
def me_np (n : me_Nt) (k : Nat) : me_Nt := fun k' => if k' = k then n k + 1 else n k'
def me_rn (r : me_Rt) (k i : Nat) : me_Rt := fun k' i' j => if k' = k ∧ i' = i then none else r k' i' j
def me_ru (r : me_Rt) (k i j : Nat) (q : Nat × Nat) : me_Rt := fun k' i' j' => if k' = k ∧ i' = i ∧ j' = j then some q else r k' i' j'
def me_an (a : Nat → Nat → Nat) (k i q : Nat) : Nat → Nat → Nat := fun k' i' => if k' = k ∧ i' = i then q else a k' i'
/-- the cells of before are there, where they were -/
def me_agr (a : Nat → Nat → Nat) (n : me_Nt) (a' : Nat → Nat → Nat) (n' : me_Nt) : Prop := (∀ k i, k < me_NK → i < n k → i < n' k ∧ a' k i = a k i) ∧ ∀ k i, me_NK ≤ k → a' k i = a k i
theorem me_agr.rf {a : Nat → Nat → Nat} {n : me_Nt} : me_agr a n a n := ⟨fun _ _ _ h => ⟨h, rfl⟩, fun _ _ _ => rfl⟩
theorem me_agr.tr {a a' a2 : Nat → Nat → Nat} {n n' n2 : me_Nt} (h : me_agr a n a' n') (h2 : me_agr a' n' a2 n2) : me_agr a n a2 n2 :=
  ⟨fun k i hk hi => ⟨(h2.1 k i hk (h.1 k i hk hi).1).1, (h2.1 k i hk (h.1 k i hk hi).1).2.trans (h.1 k i hk hi).2⟩, fun k i hk => (h2.2 k i hk).trans (h.2 k i hk)⟩
theorem me_SF.ag {B B' : me_B} (h : ∀ k i, me_NK ≤ k → B'.1 k i = B.1 k i) (hw : B'.2.2.2 = B.2.2.2) {A : Nat → Prop} {U : State} {H : Heap} (hF : me_SF B A U H) : me_SF B' A U H := by
  have e0 : ∀ i, B'.1 200 i = B.1 200 i := fun i => h 200 i (by decide)
  have e1 : ∀ i, B'.1 201 i = B.1 201 i := fun i => h 201 i (by decide)
  have e2 : ∀ i, B'.1 202 i = B.1 202 i := fun i => h 202 i (by decide)
  unfold me_SF me_SS at hF ⊢
  simp only [e0, e1, e2, hw]
  exact hF
theorem me_NS.ag {B B' : me_B} (h : ∀ k i, me_NK ≤ k → B'.1 k i = B.1 k i) {U : State} (hF : me_NS B U) : me_NS B' U := by
  have e0 : ∀ i, B'.1 200 i = B.1 200 i := fun i => h 200 i (by decide)
  unfold me_NS at hF ⊢
  simp only [e0]
  exact hF
theorem me_C.ag {X : me_X} {own : String} {cc : ByteArray} {nL : Nat} {ret : Option FieldType} {B B' : me_B} (h : ∀ k i, me_NK ≤ k → B'.1 k i = B.1 k i) (C : me_C X B own cc nL ret) (hw : B'.2.2.2 = B.2.2.2) : me_C X B' own cc nL ret := by
  obtain ⟨p, l, e, R, s, m, args, below, meth, c, Q, E, A0, nL'⟩ := X
  obtain ⟨hx, hb, hml, h4, hown, hts, hK, hlocks, hret, hnt, hF, hNS, hfresh⟩ := C
  exact ⟨hx, hb, hml, h4, hown, hts, hK, hlocks, hret, hnt, hF.ag h hw, hNS.ag h, hfresh⟩
theorem me_ct_cg {E : me_G} {B B' : me_B} {μ μ' : me_M} {k i : Nat} (hμ : μ' k i = μ k i) (hw : B'.2.2.2 = B.2.2.2) (hr : ∀ j, B'.2.2.1 k i j = B.2.2.1 k i j) (ha : ∀ j q, B.2.2.1 k i j = some q → B'.1 q.1 q.2 = B.1 q.1 q.2) : me_ct E B' μ' k i = me_ct E B μ k i := by
  have e1 : ∀ j, me_rv B' (B'.2.2.1 k i j) = me_rv B (B.2.2.1 k i j) := by
    intro j
    rw [hr]
    cases h : B.2.2.1 k i j with
    | none => rfl
    | some q =>
      show Value.ref (B'.1 q.1 q.2) = .ref (B.1 q.1 q.2)
      rw [ha j q h]
  have e2 : ∀ j, (B'.2.2.1 k i j).map (fun q => B'.1 q.1 q.2) = (B.2.2.1 k i j).map (fun q => B.1 q.1 q.2) := by
    intro j
    rw [hr]
    cases h : B.2.2.1 k i j with
    | none => rfl
    | some q =>
      show some (B'.1 q.1 q.2) = some (B.1 q.1 q.2)
      rw [ha j q h]
  unfold me_ct me_fs
  simp only [hμ, hw, e1, e2]
theorem me_cv_ag {a a' : Nat → Nat → Nat} {n n' : me_Nt} {r r' : me_Rt} {w w' : me_w} (h : me_agr a n a' n') {v : me_V} (hv : me_ok (a, n, r, w) v) : me_cv (a', n', r', w') v = me_cv (a, n, r, w) v := by
  rcases v with v | q
  · rfl
  · show Value.ref (a' q.1 q.2) = .ref (a q.1 q.2)
    rw [(h.1 q.1 q.2 hv.1 hv.2).2]
theorem me_ok_ag {a a' : Nat → Nat → Nat} {n n' : me_Nt} {r r' : me_Rt} {w w' : me_w} (h : me_agr a n a' n') {v : me_V} (hv : me_ok (a, n, r, w) v) : me_ok (a', n', r', w') v := by
  rcases v with v | q
  · trivial
  · exact ⟨hv.1, (h.1 q.1 q.2 hv.1 hv.2).1⟩
theorem me_ls_ag {a a' : Nat → Nat → Nat} {n n' : me_Nt} {r r' : me_Rt} {w w' : me_w} (h : me_agr a n a' n') {L : List (Nat × me_V)} (hL : ∀ q ∈ L, me_ok (a, n, r, w) q.2) : me_ls (a', n', r', w') L = me_ls (a, n, r, w) L := by
  unfold me_ls
  exact List.map_congr_left fun q hq => by rw [me_cv_ag h (hL q hq)]
theorem me_map_ag {a a' : Nat → Nat → Nat} {n n' : me_Nt} {r r' : me_Rt} {w w' : me_w} (h : me_agr a n a' n') {L : List me_V} (hL : ∀ q ∈ L, me_ok (a, n, r, w) q) : L.map (me_cv (a', n', r', w')) = L.map (me_cv (a, n, r, w)) :=
  List.map_congr_left fun q hq => me_cv_ag h (hL q hq)
/-- one cell more -/
theorem me_grow {E : me_G} {a : Nat → Nat → Nat} {n : me_Nt} {r : me_Rt} {w : me_w} {μ : me_M} {H H1 : Heap} {k : Nat} (hk : k < me_NK) (hW : me_W E (a, n, r, w) μ H) (hJ : me_J (a, n, r, w)) (z1 : H1.size = H.size + 1) (o1 : ∀ q, q < H.size → H1[q]? = H[q]?)
    (hnew : va_at E.1 vwCl (H.size, me_ct E (me_an a k (n k) H.size, me_np n k, me_rn r k (n k), w) (me_zc μ k (n k)) k (n k)) H1) :
    me_W E (me_an a k (n k) H.size, me_np n k, me_rn r k (n k), w) (me_zc μ k (n k)) H1 ∧ me_J (me_an a k (n k) H.size, me_np n k, me_rn r k (n k), w) ∧ me_agr a n (me_an a k (n k) H.size) (me_np n k) := by
  have hlt : ∀ k i, k < me_NK → i < n k → a k i < H.size := fun k i hk hi => (hW k hk i hi).lt
  have hne : ∀ k' i', i' < n k' → ¬ (k' = k ∧ i' = n k) := fun k' i' hi' h => by
    obtain ⟨rfl, rfl⟩ := h
    omega
  have hin : ∀ k' i', i' < me_np n k k' → ¬ (k' = k ∧ i' = n k) → i' < n k' := fun k' i' hi' h => by
    unfold me_np at hi'
    by_cases e : k' = k
    · rw [if_pos e] at hi'
      subst e
      have : ¬ i' = n k' := fun q => h ⟨rfl, q⟩
      omega
    · rwa [if_neg e] at hi'
  have hgo : ∀ k' i', i' < n k' → i' < me_np n k k' := fun k' i' hi' => by
    unfold me_np
    by_cases e : k' = k
    · rw [if_pos e]
      subst e
      omega
    · rwa [if_neg e]
  refine ⟨fun k' hk' i' hi' => ?_, ⟨fun k1 i1 k2 i2 h1 h2 g1 g2 he => ?_, fun k' i' j q hk' hi' hq => ?_⟩, fun k' i' hk' hi' => ⟨hgo k' i' hi', if_neg (hne k' i' hi')⟩, fun k' i' hk' => if_neg (fun h => by omega)⟩
  · by_cases e : k' = k ∧ i' = n k
    · obtain ⟨rfl, rfl⟩ := e
      have e0 : (me_an a k' (n k') H.size) k' (n k') = H.size := if_pos ⟨rfl, rfl⟩
      show va_at E.1 vwCl ((me_an a k' (n k') H.size) k' (n k'), _) H1
      rw [e0]
      exact hnew
    · have hi2 := hin k' i' hi' e
      have e0 : (me_an a k (n k) H.size) k' i' = a k' i' := if_neg e
      show va_at E.1 vwCl ((me_an a k (n k) H.size) k' i', _) H1
      have ec : me_ct E (me_an a k (n k) H.size, me_np n k, me_rn r k (n k), w) (me_zc μ k (n k)) k' i' = me_ct E (a, n, r, w) μ k' i' := me_ct_cg (B := (a, n, r, w)) (B' := (me_an a k (n k) H.size, me_np n k, me_rn r k (n k), w)) (funext fun j => if_neg e) rfl (fun j => if_neg e) (fun j q hq => if_neg (hne q.1 q.2 (hJ.2 k' i' j q hk' hi2 hq).2))
      rw [e0, ec]
      exact (hW k' hk' i' hi2).kept (o1 _ (hlt k' i' hk' hi2))
  · have he : (me_an a k (n k) H.size) k1 i1 = (me_an a k (n k) H.size) k2 i2 := he
    unfold me_an at he
    by_cases e1 : k1 = k ∧ i1 = n k
    · by_cases e2 : k2 = k ∧ i2 = n k
      · exact ⟨e1.1.trans e2.1.symm, e1.2.trans e2.2.symm⟩
      · rw [if_pos e1, if_neg e2] at he
        have := hlt k2 i2 h2 (hin k2 i2 g2 e2)
        omega
    · by_cases e2 : k2 = k ∧ i2 = n k
      · rw [if_neg e1, if_pos e2] at he
        have := hlt k1 i1 h1 (hin k1 i1 g1 e1)
        omega
      · rw [if_neg e1, if_neg e2] at he
        exact hJ.1 k1 i1 k2 i2 h1 h2 (hin k1 i1 g1 e1) (hin k2 i2 g2 e2) he
  · have hq : me_rn r k (n k) k' i' j = some q := hq
    unfold me_rn at hq
    by_cases e : k' = k ∧ i' = n k
    · rw [if_pos e] at hq
      cases hq
    · rw [if_neg e] at hq
      have h9 := hJ.2 k' i' j q hk' (hin k' i' hi' e) hq
      exact ⟨h9.1, hgo _ _ h9.2⟩
/-- an array class whose component is an array class -/
def me_AR (ty : FieldType) (U : State) : Prop := ∃ (c : ClassId) (k : Class) (comp : ClassId), U.vm.findClass ("[" ++ ty.toString) = some c ∧ U.vm.classes[c]? = some k ∧ k.kind = .array comp ty ∧ U.vm.findClass ty.toString = some comp
theorem me_AR.moved {ty : FieldType} {u U : State} (hvm : u.vm.Alike U.vm) (h : me_AR ty u) : me_AR ty U := by
  obtain ⟨c, k, comp, h1, h2, h3, h4⟩ := h
  obtain ⟨k', hk', he⟩ := hvm.2.2 _ _ h2
  exact ⟨c, k', comp, by rw [hvm.findClass]; exact h1, hk', by rw [he]; exact h3, by rw [hvm.findClass]; exact h4⟩
theorem me_AR.of {t : FieldType} {args : Array Value} {s : State} (h : (Cond.arrayOver (.array t)).before args s = true) : me_AR (.array t) s := by
  have h : (Cond.arrayOver (.array t)).holds args s none s [] = true := h
  simp only [Cond.holds, Cond.value, beq_iff_eq] at h
  cases hc : s.vm.findClass (FieldType.array t).toString with
  | none => simp [hc] at h
  | some comp =>
    simp only [hc, Option.bind_some, Option.bind_eq_some_iff, Option.map_eq_some_iff] at h
    obtain ⟨c, hi, k, hk, hb⟩ := h
    obtain ⟨hlt, hp, -⟩ := Array.findIdx?_eq_some_iff_getElem.mp hi
    have hkk : s.vm.classes[c] = k := (Array.getElem?_eq_some_iff.mp hk).2
    rw [hkk] at hp
    cases hkind : k.kind with
    | array component ty =>
      rw [hkind] at hb hp
      simp at hb hp
      exact ⟨c, k, comp, hb.2, hk, by rw [hkind, hp, hb.1], hc⟩
    | _ => rw [hkind] at hb; simp at hb
def me_AO (U : State) : Prop := va_AO "Meshyard$Packet" U ∧ va_AO "Meshyard$Router" U ∧ va_AO "Meshyard$Core" U ∧ va_AO "Meshyard$Row" U
theorem me_AO.moved {u U : State} (hvm : u.vm.Alike U.vm) (h : me_AO u) : me_AO U := ⟨h.1.moved hvm, h.2.1.moved hvm, h.2.2.1.moved hvm, h.2.2.2.moved hvm⟩
/-- a constructor's frame: its name, the arrays that it may make -/
def me_CI (X : me_X) : Prop :=
  match X with
  | (_, _, _, _, s, _, _, _, meth, _, _, _, _, _) => meth.name = "<init>" ∧ me_AO s
def me_AX (X : me_X) : Prop :=
  match X with
  | (_, _, _, _, s, _, _, _, _, _, _, _, A0, _) => ∀ q, s.heap.size ≤ q → A0 q
section MeGrow
variable {X : me_X} {own : String} {cc : ByteArray} {nL : Nat} {ret : Option FieldType} {a : Nat → Nat → Nat} {n : me_Nt} {r : me_Rt} {w : me_w} {nc ns : Nat} {μ : me_M} {pc : Nat} {L : List (Nat × me_V)} {st S : List me_V} {sz fr lo mc ms : Nat}
theorem me_grZ {p : Program} {l : Launch} {e : Env} {R : Room} {s : State} {m : MethodId} {args : Array Value} {below : List Frame} {meth : Method} {c : Code} {Q : State → Prop} {E : me_G} {A0 : Nat → Prop} {nL' : Nat} (C0 : me_C (p, l, e, R, s, m, args, below, meth, c, Q, E, A0, nL') (a, n, r, w) own cc nL ret) {k : Nat} (hk : k < me_NK) {H H1 : Heap} {locs : List Loc} {ls : Array Slot}
    (hW : me_W E (a, n, r, w) μ H) (hS : va_S A0 s.heap H locs) (hl : lv_has ls nL' (me_ls (a, n, r, w) L)) (hL : ∀ q ∈ L, me_ok (a, n, r, w) q.2) (hst : ∀ v ∈ st, me_ok (a, n, r, w) v) (hJ : me_J (a, n, r, w)) (hA : ∀ q, me_A (a, n, r, w) q → A0 q)
    (z1 : H1.size = H.size + 1) (o1 : ∀ q, q < H.size → H1[q]? = H[q]?) (hnew : va_at E.1 vwCl (H.size, me_ct E (me_an a k (n k) H.size, me_np n k, me_rn r k (n k), w) (me_zc μ k (n k)) k (n k)) H1) {nc' ns' pc' : Nat}
    (kk : ∀ a' : Nat → Nat → Nat, me_agr a n a' (me_np n k) → me_C (p, l, e, R, s, m, args, below, meth, c, Q, E, A0, nL') (a', me_np n k, me_rn r k (n k), w) own cc nL ret → me_Z (p, l, e, R, s, m, args, below, meth, c, Q, E, A0, nL') (a', me_np n k, me_rn r k (n k), w) nc' ns' (me_zc μ k (n k)) pc' L (me_r k (n k) :: st)) :
    W p l e R s m args below meth c H1 locs nc' ns' Q (F0 m pc' ls (.ref H.size :: st.map (me_cv (a, n, r, w)))) := by
  obtain ⟨g1, g2, g3⟩ := me_grow (H1 := H1) hk hW hJ z1 o1 hnew
  have hfresh : ∀ q, s.heap.size ≤ q → A0 q := C0.2.2.2.2.2.2.2.2.2.2.2.2
  have hS1 : va_S A0 s.heap H1 locs := ⟨Nat.le_trans hS.1 (by omega), fun x h1 h2 => (o1 x (Nat.lt_of_lt_of_le h1 hS.1)).trans (hS.2.1 x h1 h2), hS.2.2⟩
  have K := kk _ g3 (C0.ag g3.2 rfl) H1 locs ls g1 hS1 (by rw [me_ls_ag g3 hL]; exact hl) (fun q hq => me_ok_ag g3 (hL q hq)) (fun v hv => by
    rcases List.mem_cons.mp hv with rfl | hv
    · exact ⟨hk, by show n k < me_np n k k; unfold me_np; rw [if_pos rfl]; omega⟩
    · exact me_ok_ag g3 (hst v hv)) g2 (by
    rintro q ⟨k', i', hk', hi', rfl⟩
    show A0 (me_an a k (n k) H.size k' i')
    by_cases e : k' = k ∧ i' = n k
    · rw [show me_an a k (n k) H.size k' i' = H.size from if_pos e]
      exact hfresh _ hS.1
    · rw [show me_an a k (n k) H.size k' i' = a k' i' from if_neg e]
      refine hA _ ⟨k', i', hk', ?_, rfl⟩
      have hi' : i' < me_np n k k' := hi'
      show i' < n k'
      unfold me_np at hi'
      by_cases e' : k' = k
      · rw [if_pos e'] at hi'
        subst e'
        have : ¬ i' = n k' := fun q => e ⟨rfl, q⟩
        omega
      · rwa [if_neg e'] at hi')
  have e0 : me_an a k (n k) H.size k (n k) = H.size := if_pos ⟨rfl, rfl⟩
  have hst1 : (me_r k (n k) :: st).map (me_cv (me_an a k (n k) H.size, me_np n k, me_rn r k (n k), w)) = .ref H.size :: st.map (me_cv (a, n, r, w)) := by
    rw [List.map_cons, me_map_ag g3 hst]
    show Value.ref (me_an a k (n k) H.size k (n k)) :: _ = _
    rw [e0]
  rw [hst1] at K
  exact K
theorem me_newO (C : me_C X (a, n, r, w) own cc nL ret) (hroom : me_Rm X fr lo mc ms) {k ci N idx : Nat} {Cn : String} {T : u_T} {ty0 : Nat → FieldType} (hk : k < me_NK) (hkc : me_KC k ci N Cn T ty0) (hdv : ∀ j, j < N → defaultValue (ty0 j) = if me_kr k j = true then .null else .int 0) (hl0 : Cond.classLink own idx Cn ∈ me_gw) (hi0 : Cond.instantiable Cn N ∈ me_gw) (hi1 : Cond.initialized Cn ∈ me_gw)
    (hdg : decode cc pc = .ok (.new idx, 3)) (hc : nc + 1 ≤ mc ∧ ns + N ≤ ms) (kk : ∀ a' : Nat → Nat → Nat, me_agr a n a' (me_np n k) → me_C X (a', me_np n k, me_rn r k (n k), w) own cc nL ret → me_Z X (a', me_np n k, me_rn r k (n k), w) (nc + 1) (ns + N) (me_zc μ k (n k)) (pc + 3) L (me_r k (n k) :: st)) : me_Z X (a, n, r, w) nc ns μ pc L st := by
  have C0 := C
  obtain ⟨p, l, e, R, s, m, args, below, meth, c, Q, E, A0, nL'⟩ := X
  obtain ⟨hx, hb, hml, rfl, hown, hts, hK, hlocks, hret, hnt, hF, hNS, hfresh⟩ := C
  obtain ⟨hRc, hRs, hRf, hRl⟩ := hroom
  intro H locs ls hW hS hl hL hst hJ hA
  obtain ⟨h1, h2, h3, h4, -⟩ := hkc
  have hKn := hK.1 ci _ h2
  refine W.newcK hx hb hown (hts _ hl0) (hts _ hi0) (hts _ hi1) rfl hdg (by omega) (by omega) hKn.2.1 rfl fun H1 kC hkC e1 z1 o1 => ?_
  refine me_grZ (st := st) C0 hk hW hS hl hL hst hJ hA z1 o1 ?_ kk
  rw [me_ct0 h1]
  refine ⟨_, h2, (u_born ty0 hts h3 hKn hkC e1 h4).to (fun j hj => ?_)⟩
  show defaultValue (ty0 j) = ((me_fs _ _ k (n k)).getD j .null)
  rw [hdv j hj, List.getD_eq_getElem?_getD, me_fs_get (by rw [h1]; exact hj)]
  by_cases q : me_kr k j = true
  · rw [if_pos q, if_pos q]
    show Value.null = me_rv _ (me_rn r k (n k) k (n k) j)
    rw [show me_rn r k (n k) k (n k) j = none from if_pos ⟨rfl, rfl⟩]
    rfl
  · rw [if_neg q, if_neg q]
    show Value.int 0 = .int (me_zc μ k (n k) k (n k) j)
    rw [show me_zc μ k (n k) k (n k) j = 0 from if_pos ⟨rfl, rfl⟩]
/-- the number of an array class among the world's -/
theorem me_RA {s : State} {cA c0 : ClassId} {ty : FieldType} (h : va_RA s cA ty) (h0 : s.vm.findClass ("[" ++ ty.toString) = some c0) : cA = c0 := by
  unfold va_RA at h
  cases ty with
  | object C =>
    obtain ⟨_, _, -, -, -, h4⟩ := h
    exact Option.some.inj (h4.symm.trans h0)
  | _ => exact Option.some.inj (h.symm.trans h0)
theorem me_newI (C : me_C X (a, n, r, w) own cc nL ret) (hroom : me_Rm X fr lo mc ms) {k ai N : Nat} {x : Int32} {at0 : ArrayType} (hk : k < me_NK) (h1 : me_kt k = (1, ai, N)) (hac : Cond.arrayClass (newarray.typeOf at0) ∈ me_gw) (hty : ∀ cA, (me_ty cA)[ai]? = some (cA ai, newarray.typeOf at0)) (hdv : defaultValue (newarray.typeOf at0) = .int 0)
    (hn : ¬ x < 0) (hN : x.toNatClampNeg = N) (hbytes : N * componentBytes (newarray.typeOf at0) ≤ 536870912) (hdg : decode cc pc = .ok (.newarray at0, 2)) (hc : nc + 1 ≤ mc ∧ ns + N ≤ ms) (kk : ∀ a' : Nat → Nat → Nat, me_agr a n a' (me_np n k) → me_C X (a', me_np n k, me_rn r k (n k), w) own cc nL ret → me_Z X (a', me_np n k, me_rn r k (n k), w) (nc + 1) (ns + N) (me_zc μ k (n k)) (pc + 2) L (me_r k (n k) :: st)) : me_Z X (a, n, r, w) nc ns μ pc L (me_i x :: st) := by
  have C0 := C
  obtain ⟨p, l, e, R, s, m, args, below, meth, c, Q, E, A0, nL'⟩ := X
  obtain ⟨hx, hb, hml, rfl, hown, hts, hK, hlocks, hret, hnt, hF, hNS, hfresh⟩ := C
  obtain ⟨hRc, hRs, hRf, hRl⟩ := hroom
  intro H locs ls hW hS hl hL hst hJ hA
  refine va_newaK hx hb (atype := at0) (hts _ hac) (g := F0 m pc ls (.int x :: st.map (me_cv (a, n, r, w)))) rfl hdg (n := x) (N := N) rfl hn hN hbytes (by omega) (by omega) rfl fun H1 cA e1 z1 o1 hAr hNm => ?_
  refine me_grZ (st := st) C0 hk hW hS hl hL (me_okt hst) hJ hA z1 o1 ?_ kk
  rw [me_ct1 h1]
  have hcA := me_RA (hK.2 ai _ (hty E.2)).2 hNm
  show H1[H.size]? = some (vp_cell (E.2 ai) (N, .inl (me_zc μ k (n k) k (n k))))
  have hcA : E.2 ai = cA := hcA
  rw [e1, hcA, vp_cell_i, hdv]
  refine congrArg some (me_arrX (fun j hj => ?_))
  rw [show me_zc μ k (n k) k (n k) j = 0 from if_pos ⟨rfl, rfl⟩]
theorem me_newQ (C : me_C X (a, n, r, w) own cc nL ret) (hroom : me_Rm X fr lo mc ms) {k ai N idx : Nat} {x : Int32} {Cn : String} (hk : k < me_NK) (h1 : me_kt k = (4, ai, N)) (hao : ∀ s : State, me_AO s → va_AO Cn s) (hci : me_CI X) (hl0 : Cond.classLink own idx Cn ∈ me_gw) (hty : ∀ cA, (me_ty cA)[ai]? = some (cA ai, .object Cn))
    (hn : ¬ x < 0) (hN : x.toNatClampNeg = N) (hbytes : N * 4 ≤ 536870912) (hdg : decode cc pc = .ok (.anewarray idx, 3)) (hc : nc + 1 ≤ mc ∧ ns + N ≤ ms) (kk : ∀ a' : Nat → Nat → Nat, me_agr a n a' (me_np n k) → me_C X (a', me_np n k, me_rn r k (n k), w) own cc nL ret → me_Z X (a', me_np n k, me_rn r k (n k), w) (nc + 1) (ns + N) (me_zc μ k (n k)) (pc + 3) L (me_r k (n k) :: st)) : me_Z X (a, n, r, w) nc ns μ pc L (me_i x :: st) := by
  have C0 := C
  obtain ⟨p, l, e, R, s, m, args, below, meth, c, Q, E, A0, nL'⟩ := X
  obtain ⟨hx, hb, hml, rfl, hown, hts, hK, hlocks, hret, hnt, hF, hNS, hfresh⟩ := C
  obtain ⟨hRc, hRs, hRf, hRl⟩ := hroom
  intro H locs ls hW hS hl hL hst hJ hA
  subst hN
  refine W.anew hx hb hown (hts _ hl0) (va_AO.use (hao s hci.2)) (g := F0 m pc ls (.int x :: st.map (me_cv (a, n, r, w)))) rfl hdg rfl hn hbytes (by omega) (by omega) fun cA kA comp f1 f2 f3 f4 => ?_
  refine me_grZ (st := st) C0 hk hW hS hl hL (me_okt hst) hJ hA (by rw [Array.size_push]) (fun q hq => by rw [Array.getElem?_push, if_neg (Nat.ne_of_lt hq)]) ?_ kk
  rw [me_ct4 h1]
  have hcA : E.2 ai = cA := me_RA (hK.2 ai _ (hty E.2)).2 f1
  show (H.push _)[H.size]? = some (vp_cell (E.2 ai) (x.toNatClampNeg, _))
  rw [Array.getElem?_push_size, arrV_new, hcA, vp_cell_q]
  refine congrArg some (me_arrX (fun j hj => ?_))
  show Value.null = va_rf ((me_rn r k (n k) k (n k) j).map _)
  rw [show me_rn r k (n k) k (n k) j = none from if_pos ⟨rfl, rfl⟩]
  rfl
/-- one reference more -/
theorem me_refW {E : me_G} {H1 : Heap} {k i j q0 : Nat} {q : Nat × Nat} {x : va_E} (hJ : me_J (a, n, r, w)) (hk : k < me_NK) (hi : i < n k) (hq : (me_ws E (a, n, r, w) μ)[q0]? = some (a k i, me_ct E (a, n, r, w) μ k i)) (hP : va_P E.1 vwCl ((me_ws E (a, n, r, w) μ).set q0 (a k i, x)) H1) (hx : x = me_ct E (a, n, me_ru r k i j q, w) μ k i) : me_W E (a, n, me_ru r k i j q, w) μ H1 := by
  intro k' hk' i' hi'
  by_cases e : k' = k ∧ i' = i
  · obtain ⟨rfl, rfl⟩ := e
    rw [← hx]
    exact hP q0 _ (by rw [List.getElem?_set_self (List.getElem?_eq_some_iff.mp hq).1])
  · obtain ⟨n0, hn⟩ := me_at_ws (E := E) (B := (a, n, r, w)) (μ := μ) hk' hi'
    have hne : ¬ q0 = n0 := by
      intro h
      subst h
      rw [hq] at hn
      have h1 := congrArg Prod.fst (Option.some.inj hn)
      have := hJ.1 k i k' i' hk hk' hi hi' h1
      exact e ⟨this.1.symm, this.2.symm⟩
    have ec : me_ct E (a, n, me_ru r k i j q, w) μ k' i' = me_ct E (a, n, r, w) μ k' i' := me_ct_cg (B := (a, n, r, w)) (B' := (a, n, me_ru r k i j q, w)) rfl rfl (fun j' => if_neg (fun h => e ⟨h.1, h.2.1⟩)) (fun _ _ _ => rfl)
    rw [ec]
    exact hP n0 _ (by rw [List.getElem?_set_ne hne]; exact hn)
theorem me_refJ {k i j : Nat} {q : Nat × Nat} (hJ : me_J (a, n, r, w)) (hq : q.1 < me_NK ∧ q.2 < n q.1) : me_J (a, n, me_ru r k i j q, w) := by
  refine ⟨hJ.1, fun k' i' j' q' hk' hi' h => ?_⟩
  have h : me_ru r k i j q k' i' j' = some q' := h
  unfold me_ru at h
  by_cases e : k' = k ∧ i' = i ∧ j' = j
  · rw [if_pos e] at h
    cases h
    exact hq
  · rw [if_neg e] at h
    exact hJ.2 k' i' j' q' hk' hi' h
theorem me_fs_ru {k i j : Nat} {q : Nat × Nat} (hj : j < (me_kt k).2.2) (hr : me_kr k j = true) : (me_fs (a, n, r, w) μ k i).set j (.ref (a q.1 q.2)) = me_fs (a, n, me_ru r k i j q, w) μ k i := by
  unfold me_fs
  apply List.ext_getElem?
  intro n0
  rw [List.getElem?_set]
  by_cases e : j = n0
  · subst e
    rw [if_pos rfl, if_pos (by simpa using hj), List.getElem?_map, List.getElem?_range hj]
    simp only [Option.map_some, if_pos hr]
    show some (Value.ref (a q.1 q.2)) = some (me_rv _ (me_ru r k i j q k i j))
    rw [show me_ru r k i j q k i j = some q from if_pos ⟨rfl, rfl, rfl⟩]
    rfl
  · rw [if_neg e, List.getElem?_map, List.getElem?_map]
    cases h : (List.range (me_kt k).2.2)[n0]? with
    | none => rfl
    | some m =>
      obtain ⟨h1, h2⟩ := List.getElem?_eq_some_iff.mp h
      have hm : m = n0 := by rw [← h2]; simp
      subst hm
      simp only [Option.map_some]
      have e1 : me_ru r k i j q k i m = r k i m := if_neg (fun h => e h.2.2.symm)
      show some (if me_kr k m = true then me_rv (a, n, r, w) (r k i m) else _) = some (if me_kr k m = true then me_rv (a, n, me_ru r k i j q, w) (me_ru r k i j q k i m) else _)
      rw [e1]
      rfl
theorem me_C.ru (C : me_C X (a, n, r, w) own cc nL ret) (r' : me_Rt) : me_C X (a, n, r', w) own cc nL ret := by
  obtain ⟨p, l, e, R, s, m, args, below, meth, c, Q, E, A0, nL'⟩ := X
  exact C
def me_isR : FieldType → Bool
  | .object _ => true
  | .array _ => true
  | _ => false
theorem me_isR_n {ty : FieldType} (h : me_isR ty = true) (q : Nat) : narrow ty (.ref q) = .ref q ∧ fits ty (.ref q) = true := by
  cases ty <;> first | exact ⟨rfl, rfl⟩ | cases h
theorem me_putR (C : me_C X (a, n, r, w) own cc nL ret) (hci : me_CI X) {idx k i j k' i' ci N : Nat} {Cn : String} {T : u_T} {ty0 : Nat → FieldType} (hkc : me_KC k ci N Cn T ty0) (hj : j < N) (hl0 : Cond.fieldLink own idx (T j).1 (T j).2.1 (T j).2.2.1 ∈ me_gw) (hfin : (T j).2.2.2 = true) (hdec : (T j).1 = own) (hty : me_isR (ty0 j) = true) (hr : me_kr k j = true) (hdg : decode cc pc = .ok (.putfield idx, 3))
    (kk : me_C X (a, n, me_ru r k i j (k', i'), w) own cc nL ret → me_Z X (a, n, me_ru r k i j (k', i'), w) nc ns μ (pc + 3) L st) : me_Z X (a, n, r, w) nc ns μ pc L (me_r k' i' :: me_r k i :: st) := by
  have C0 := C.ru (me_ru r k i j (k', i'))
  obtain ⟨p, l, e, R, s, m, args, below, meth, c, Q, E, A0, nL'⟩ := X
  obtain ⟨hx, hb, hml, rfl, hown, hts, hK, hlocks, hret, hnt, hF, hNS, hfresh⟩ := C
  intro H locs ls hW hS hl hL hst hJ hA
  obtain ⟨h1, h2, h3, h4, h5⟩ := hkc
  have hq' : k' < me_NK ∧ i' < n k' := hst (me_r k' i') List.mem_cons_self
  obtain ⟨hk, hi⟩ : k < me_NK ∧ i < n k := hst (me_r k i) (List.mem_cons_of_mem _ List.mem_cons_self)
  obtain ⟨q0, hq⟩ := me_at_ws (E := E) (B := (a, n, r, w)) (μ := μ) hk hi
  have hq0 := hq
  rw [me_ct0 h1] at hq
  have hj2 : j < (me_kt k).2.2 := by rw [h1]; exact hj
  have hn := me_isR_n hty (a k' i')
  refine va_putF hx hb hts h3 ty0 h4 h5 hown hK hW.P (me_D hJ hA) hS q0 hq h2 j hj (hts _ hl0) (fun x h => h) hfin hci.1 hdec (h4 j hj) hn.1 hn.2 (by unfold me_fs; simpa using hj2) hdg (fun H1 locs1 hP1 hD1 hS1 => ?_)
  exact kk C0 H1 locs1 ls (me_refW hJ hk hi hq0 hP1 (by rw [me_ct0 h1]; exact congrArg (fun f => (Sum.inr (ci, f) : va_E)) (me_fs_ru (q := (k', i')) hj2 hr))) hS1 hl hL (me_okt (me_okt hst)) (me_refJ hJ hq') hA
theorem me_putF (C : me_C X (a, n, r, w) own cc nL ret) (hci : me_CI X) {idx k i j ci N : Nat} {x : Int32} {Cn : String} {T : u_T} {ty0 : Nat → FieldType} (hkc : me_KC k ci N Cn T ty0) (hj : j < N) (hl0 : Cond.fieldLink own idx (T j).1 (T j).2.1 (T j).2.2.1 ∈ me_gw) (hfin : (T j).2.2.2 = true) (hdec : (T j).1 = own) (hn : me_nr (ty0 j) x = true) (hr : me_kr k j = false) (hdg : decode cc pc = .ok (.putfield idx, 3))
    (kk : me_Z X (a, n, r, w) nc ns (me_up μ k i j x) (pc + 3) L st) : me_Z X (a, n, r, w) nc ns μ pc L (me_i x :: me_r k i :: st) := by
  obtain ⟨p, l, e, R, s, m, args, below, meth, c, Q, E, A0, nL'⟩ := X
  obtain ⟨hx, hb, hml, rfl, hown, hts, hK, hlocks, hret, hnt, hF, hNS, hfresh⟩ := C
  intro H locs ls hW hS hl hL hst hJ hA
  obtain ⟨h1, h2, h3, h4, h5⟩ := hkc
  obtain ⟨hk, hi⟩ : k < me_NK ∧ i < n k := hst (me_r k i) (List.mem_cons_of_mem _ List.mem_cons_self)
  obtain ⟨q0, hq⟩ := me_at_ws (E := E) (B := (a, n, r, w)) (μ := μ) hk hi
  have hq0 := hq
  rw [me_ct0 h1] at hq
  have hj2 : j < (me_kt k).2.2 := by rw [h1]; exact hj
  unfold me_nr at hn
  rw [Bool.and_eq_true, decide_eq_true_eq] at hn
  refine va_putF hx hb hts h3 ty0 h4 h5 hown hK hW.P (me_D hJ hA) hS q0 hq h2 j hj (hts _ hl0) (fun x h => h) hfin hci.1 hdec (h4 j hj) hn.1 hn.2 (by unfold me_fs; simpa using hj2) hdg (fun H1 locs1 hP1 hD1 hS1 => ?_)
  have hP1 : va_P E.1 vwCl ((me_ws E (a, n, r, w) μ).set q0 (a k i, .inr (ci, (me_fs (a, n, r, w) μ k i).set j (.int x)))) H1 := hP1
  rw [me_fs_up hj2 hr, ← me_ct0 (E := E) h1] at hP1
  exact kk H1 locs1 ls (me_W.set hJ hk hi hq0 hP1 me_ct_up) hS1 hl hL (me_okt (me_okt hst)) hJ hA
theorem me_aastR (C : me_C X (a, n, r, w) own cc nL ret) {k i k' i' ai ci N N' : Nat} {x : Int32} {rc : vw_C} (h1 : me_kt k = (4, ai, N)) (h1' : me_kt k' = (0, ci, N')) (hc : vwCl[ci]? = some rc) (hty : ∀ cA, (me_ty cA)[ai]? = some (cA ai, .object rc.1)) (hin : me_inb x N = true) (hdg : decode cc pc = .ok (.aastore, 1))
    (kk : me_C X (a, n, me_ru r k i (me_ix x) (k', i'), w) own cc nL ret → me_Z X (a, n, me_ru r k i (me_ix x) (k', i'), w) nc ns μ (pc + 1) L st) : me_Z X (a, n, r, w) nc ns μ pc L (me_r k' i' :: me_i x :: me_r k i :: st) := by
  have C0 := C.ru (me_ru r k i (me_ix x) (k', i'))
  obtain ⟨p, l, e, R, s, m, args, below, meth, c, Q, E, A0, nL'⟩ := X
  obtain ⟨hx, hb, hml, rfl, hown, hts, hK, hlocks, hret, hnt, hF, hNS, hfresh⟩ := C
  intro H locs ls hW hS hl hL hst hJ hA
  have hq' : k' < me_NK ∧ i' < n k' := hst (me_r k' i') List.mem_cons_self
  obtain ⟨hk, hi⟩ : k < me_NK ∧ i < n k := hst (me_r k i) (List.mem_cons_of_mem _ (List.mem_cons_of_mem _ List.mem_cons_self))
  obtain ⟨q0, hq⟩ := me_at_ws (E := E) (B := (a, n, r, w)) (μ := μ) hk hi
  obtain ⟨q1, hq1⟩ := me_at_ws (E := E) (B := (a, n, r, w)) (μ := μ) hq'.1 hq'.2
  have hq0 := hq
  rw [me_ct4 h1] at hq
  rw [me_ct0 h1'] at hq1
  refine va_astq hx hb hK hW.P (me_D hJ hA) hS q0 ai q1 ci hq (hty E.2) hq1 hc (me_inb_in hin) hdg (fun H1 locs1 hP1 hD1 hS1 => ?_)
  refine kk C0 H1 locs1 ls (me_refW hJ hk hi hq0 hP1 ?_) hS1 hl hL (me_okt (me_okt (me_okt hst))) (me_refJ hJ hq') hA
  rw [me_ct4 h1]
  refine congrArg (fun f : Nat → Option Nat => (Sum.inl (E.2 ai, N, .inr (.inr (.inr (.inr f)))) : va_E)) (funext fun j => ?_)
  show va_up (fun j => (r k i j).map (fun q => a q.1 q.2)) (me_ix x) (some (a k' i')) j = (me_ru r k i (me_ix x) (k', i') k i j).map (fun q => a q.1 q.2)
  unfold va_up me_ru
  by_cases e : j = me_ix x
  · rw [if_pos e, if_pos ⟨rfl, rfl, e⟩]
    rfl
  · rw [if_neg e, if_neg (fun h => e h.2.2)]
theorem me_getq (C : me_C X (a, n, r, w) own cc nL ret) {idx k i : Nat} (j : Nat) {k' i' : Nat} (hf : me_FG own idx k j) (hdg : decode cc pc = .ok (.getfield idx, 3)) (hr : me_kr k j = true) (h0 : r k i j = some (k', i')) (kk : me_Z X (a, n, r, w) nc ns μ (pc + 3) L (me_r k' i' :: st)) : me_Z X (a, n, r, w) nc ns μ pc L (me_r k i :: st) := by
  refine me_getv C hf hdg (fun _ _ _ => ?_)
  rw [if_pos hr]
  show me_Z X (a, n, r, w) nc ns μ (pc + 3) L (me_ev (r k i j) :: st)
  rw [h0]
  exact kk
theorem me_objI (C : me_C X (a, n, r, w) own cc nL ret) (hroom : me_Rm X fr lo mc ms) {idx k i : Nat} (hl0 : Cond.methodLink own idx Lib.objectInit ∈ me_gw) (hi0 : Cond.instanceMethod Lib.objectInit ∈ me_gw) (hc0 : Cond.code Lib.objectInit ⟨#[0xb1]⟩ 1 none ∈ me_gw) (hdg : decode cc pc = .ok (.invokespecial idx, 3)) (hR : 1 ≤ fr ∧ 20 ≤ lo) (hw : me_wd st ≤ 8) (kk : me_Z X (a, n, r, w) nc ns μ (pc + 3) L st) : me_Z X (a, n, r, w) nc ns μ pc L (me_r k i :: st) := by
  obtain ⟨p, l, e, R, s, m, args, below, meth, c, Q, E, A0, nL'⟩ := X
  obtain ⟨hx, hb, hml, rfl, hown, hts, hK, hlocks, hret, hnt, hF, hNS, hfresh⟩ := C
  obtain ⟨hRc, hRs, hRf, hRl⟩ := hroom
  intro H locs ls hW hS hl hL hst hJ hA
  refine W.objInit hx hb hown (hts _ hl0) (hts _ hi0) (hts _ hc0) (g := F0 m pc ls (.ref (a k i) :: st.map (me_cv (a, n, r, w)))) rfl (hl.1.trans hml.symm) rfl hdg (by omega) ?_ (kk H locs ls hW hS hl hL (me_okt hst) hJ hA)
  show 2 * 0 + _ + 12 ≤ _
  rw [me_wd_cat]
  omega
end MeGrow
