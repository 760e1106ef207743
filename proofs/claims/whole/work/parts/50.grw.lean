/-! A WORLD THAT GROWS: constructors. Counts n, references r and contents are known; addresses are any -/
abbrev me_Nt : Type := Nat → Nat
abbrev me_Rt : Type := Nat → Nat → Nat → Option (Nat × Nat)
abbrev me_w : Type := Int64 × UInt64
def me_nn (n : me_Nt) (k : Nat) : me_Nt := fun k' => if k' = k then n k + 1 else n k'
def me_rn (r : me_Rt) (k i : Nat) : me_Rt := fun k' i' j => if k' = k ∧ i' = i then none else r k' i' j
def me_ru (r : me_Rt) (k i j : Nat) (q : Nat × Nat) : me_Rt := fun k' i' j' => if k' = k ∧ i' = i ∧ j' = j then some q else r k' i' j'
def me_an (a : Nat → Nat → Nat) (k i q : Nat) : Nat → Nat → Nat := fun k' i' => if k' = k ∧ i' = i then q else a k' i'
/-- the cells of before are there, where they were -/
def me_agr (a : Nat → Nat → Nat) (n : me_Nt) (a' : Nat → Nat → Nat) (n' : me_Nt) : Prop := (∀ k i, k < me_NK → i < n k → i < n' k ∧ a' k i = a k i) ∧ ∀ k i, me_NK ≤ k → a' k i = a k i
theorem me_agr.rf {a : Nat → Nat → Nat} {n : me_Nt} : me_agr a n a n := ⟨fun _ _ _ h => ⟨h, rfl⟩, fun _ _ _ => rfl⟩
theorem me_agr.tr {a a' a2 : Nat → Nat → Nat} {n n' n2 : me_Nt} (h : me_agr a n a' n') (h2 : me_agr a' n' a2 n2) : me_agr a n a2 n2 :=
  ⟨fun k i hk hi => ⟨(h2.1 k i hk (h.1 k i hk hi).1).1, (h2.1 k i hk (h.1 k i hk hi).1).2.trans (h.1 k i hk hi).2⟩, fun k i hk => (h2.2 k i hk).trans (h.2 k i hk)⟩
theorem me_SF.ag {B B' : me_B} (h : ∀ k i, me_NK ≤ k → B'.1 k i = B.1 k i) {A : Nat → Prop} {U : State} {H : Heap} (hF : me_SF B A U H) : me_SF B' A U H := by
  have e0 : ∀ i, B'.1 200 i = B.1 200 i := fun i => h 200 i (by decide)
  have e1 : ∀ i, B'.1 201 i = B.1 201 i := fun i => h 201 i (by decide)
  have e2 : ∀ i, B'.1 202 i = B.1 202 i := fun i => h 202 i (by decide)
  unfold me_SF me_SS at hF ⊢
  simp only [e0, e1, e2]
  exact hF
theorem me_NS.ag {B B' : me_B} (h : ∀ k i, me_NK ≤ k → B'.1 k i = B.1 k i) {U : State} (hF : me_NS B U) : me_NS B' U := by
  have e0 : ∀ i, B'.1 200 i = B.1 200 i := fun i => h 200 i (by decide)
  unfold me_NS at hF ⊢
  simp only [e0]
  exact hF
theorem me_C.ag {X : me_X} {own : String} {cc : ByteArray} {nL : Nat} {ret : Option FieldType} {B B' : me_B} (h : ∀ k i, me_NK ≤ k → B'.1 k i = B.1 k i) (C : me_C X B own cc nL ret) : me_C X B' own cc nL ret := by
  obtain ⟨p, l, e, R, s, m, args, below, meth, c, Q, E, A0, nL'⟩ := X
  obtain ⟨hx, hb, hml, h4, hown, hts, hK, hlocks, hret, hnt, hF, hNS, hfresh⟩ := C
  exact ⟨hx, hb, hml, h4, hown, hts, hK, hlocks, hret, hnt, hF.ag h, hNS.ag h, hfresh⟩
theorem me_ct_cg {E : me_G} {B B' : me_B} {μ μ' : me_M} {k i : Nat} (hμ : μ' k i = μ k i) (hw : B'.2.2.2 = B.2.2.2) (hr : ∀ j, B'.2.2.1 k i j = B.2.2.1 k i j) (ha : ∀ j q, B.2.2.1 k i j = some q → B'.1 q.1 q.2 = B.1 q.1 q.2) : me_ct E B' μ' k i = me_ct E B μ k i := by
  have e1 : ∀ j, me_rv B' (B'.2.2.1 k i j) = me_rv B (B.2.2.1 k i j) := by
    intro j
    rw [hr]
    cases h : B.2.2.1 k i j with
    | none => rfl
    | some q =>
      show Value.ref (B'.1 q.1 q.2) = .ref (B.1 q.1 q.2)
      rw [ha j q h]
  have e2 : ∀ j, (B'.2.2.1 k i j).map (fun q => B'.1 q.1 q.2) = (B.2.2.1 k i j).map (fun q => B.1 q.1 q.2) := by
    intro j
    rw [hr]
    cases h : B.2.2.1 k i j with
    | none => rfl
    | some q =>
      show some (B'.1 q.1 q.2) = some (B.1 q.1 q.2)
      rw [ha j q h]
  unfold me_ct me_fs
  simp only [hμ, hw, e1, e2]
theorem me_cv_ag {a a' : Nat → Nat → Nat} {n n' : me_Nt} {r r' : me_Rt} {w w' : me_w} (h : me_agr a n a' n') {v : me_V} (hv : me_ok (a, n, r, w) v) : me_cv (a', n', r', w') v = me_cv (a, n, r, w) v := by
  rcases v with v | q
  · rfl
  · show Value.ref (a' q.1 q.2) = .ref (a q.1 q.2)
    rw [(h.1 q.1 q.2 hv.1 hv.2).2]
theorem me_ok_ag {a a' : Nat → Nat → Nat} {n n' : me_Nt} {r r' : me_Rt} {w w' : me_w} (h : me_agr a n a' n') {v : me_V} (hv : me_ok (a, n, r, w) v) : me_ok (a', n', r', w') v := by
  rcases v with v | q
  · trivial
  · exact ⟨hv.1, (h.1 q.1 q.2 hv.1 hv.2).1⟩
theorem me_ls_ag {a a' : Nat → Nat → Nat} {n n' : me_Nt} {r r' : me_Rt} {w w' : me_w} (h : me_agr a n a' n') {L : List (Nat × me_V)} (hL : ∀ q ∈ L, me_ok (a, n, r, w) q.2) : me_ls (a', n', r', w') L = me_ls (a, n, r, w) L := by
  unfold me_ls
  exact List.map_congr_left fun q hq => by rw [me_cv_ag h (hL q hq)]
theorem me_map_ag {a a' : Nat → Nat → Nat} {n n' : me_Nt} {r r' : me_Rt} {w w' : me_w} (h : me_agr a n a' n') {L : List me_V} (hL : ∀ q ∈ L, me_ok (a, n, r, w) q) : L.map (me_cv (a', n', r', w')) = L.map (me_cv (a, n, r, w)) :=
  List.map_congr_left fun q hq => me_cv_ag h (hL q hq)
/-- one cell more -/
theorem me_grow {E : me_G} {a : Nat → Nat → Nat} {n : me_Nt} {r : me_Rt} {w : me_w} {μ : me_M} {H H1 : Heap} {k : Nat} (hk : k < me_NK) (hW : me_W E (a, n, r, w) μ H) (hJ : me_J (a, n, r, w)) (z1 : H1.size = H.size + 1) (o1 : ∀ q, q < H.size → H1[q]? = H[q]?)
    (hnew : va_at E.1 vwCl (H.size, me_ct E (me_an a k (n k) H.size, me_nn n k, me_rn r k (n k), w) (me_zc μ k (n k)) k (n k)) H1) :
    me_W E (me_an a k (n k) H.size, me_nn n k, me_rn r k (n k), w) (me_zc μ k (n k)) H1 ∧ me_J (me_an a k (n k) H.size, me_nn n k, me_rn r k (n k), w) ∧ me_agr a n (me_an a k (n k) H.size) (me_nn n k) := by
  have hlt : ∀ k i, k < me_NK → i < n k → a k i < H.size := fun k i hk hi => (hW k hk i hi).lt
  have hne : ∀ k' i', i' < n k' → ¬ (k' = k ∧ i' = n k) := fun k' i' hi' h => by
    obtain ⟨rfl, rfl⟩ := h
    omega
  have hin : ∀ k' i', i' < me_nn n k k' → ¬ (k' = k ∧ i' = n k) → i' < n k' := fun k' i' hi' h => by
    unfold me_nn at hi'
    by_cases e : k' = k
    · rw [if_pos e] at hi'
      subst e
      have : ¬ i' = n k' := fun q => h ⟨rfl, q⟩
      omega
    · rwa [if_neg e] at hi'
  have hgo : ∀ k' i', i' < n k' → i' < me_nn n k k' := fun k' i' hi' => by
    unfold me_nn
    by_cases e : k' = k
    · rw [if_pos e]
      subst e
      omega
    · rwa [if_neg e]
  refine ⟨fun k' hk' i' hi' => ?_, ⟨fun k1 i1 k2 i2 h1 h2 g1 g2 he => ?_, fun k' i' j q hk' hi' hq => ?_⟩, fun k' i' hk' hi' => ⟨hgo k' i' hi', if_neg (hne k' i' hi')⟩, fun k' i' hk' => if_neg (fun h => by omega)⟩
  · by_cases e : k' = k ∧ i' = n k
    · obtain ⟨rfl, rfl⟩ := e
      have e0 : (me_an a k' (n k') H.size) k' (n k') = H.size := if_pos ⟨rfl, rfl⟩
      show va_at E.1 vwCl ((me_an a k' (n k') H.size) k' (n k'), _) H1
      rw [e0]
      exact hnew
    · have hi2 := hin k' i' hi' e
      have e0 : (me_an a k (n k) H.size) k' i' = a k' i' := if_neg e
      show va_at E.1 vwCl ((me_an a k (n k) H.size) k' i', _) H1
      rw [e0, me_ct_cg (B := (a, n, r, w)) (μ := μ) (funext fun j => if_neg e) rfl (fun j => if_neg e) (fun j q hq => if_neg (hne q.1 q.2 (hJ.2 k' i' j q hk' hi2 hq).2))]
      exact (hW k' hk' i' hi2).kept (o1 _ (hlt k' i' hk' hi2))
  · have he : (me_an a k (n k) H.size) k1 i1 = (me_an a k (n k) H.size) k2 i2 := he
    unfold me_an at he
    by_cases e1 : k1 = k ∧ i1 = n k
    · by_cases e2 : k2 = k ∧ i2 = n k
      · exact ⟨e1.1.trans e2.1.symm, e1.2.trans e2.2.symm⟩
      · rw [if_pos e1, if_neg e2] at he
        have := hlt k2 i2 h2 (hin k2 i2 g2 e2)
        omega
    · by_cases e2 : k2 = k ∧ i2 = n k
      · rw [if_neg e1, if_pos e2] at he
        have := hlt k1 i1 h1 (hin k1 i1 g1 e1)
        omega
      · rw [if_neg e1, if_neg e2] at he
        exact hJ.1 k1 i1 k2 i2 h1 h2 (hin k1 i1 g1 e1) (hin k2 i2 g2 e2) he
  · have hq : me_rn r k (n k) k' i' j = some q := hq
    unfold me_rn at hq
    by_cases e : k' = k ∧ i' = n k
    · rw [if_pos e] at hq
      cases hq
    · rw [if_neg e] at hq
      have h9 := hJ.2 k' i' j q hk' (hin k' i' hi' e) hq
      exact ⟨h9.1, hgo _ _ h9.2⟩
def me_AO (U : State) : Prop := va_AO "Meshyard$Packet" U ∧ va_AO "Meshyard$Router" U ∧ va_AO "Meshyard$Core" U ∧ va_AO "Meshyard$Row" U
theorem me_AO.moved {u U : State} (hvm : u.vm.Alike U.vm) (h : me_AO u) : me_AO U := ⟨h.1.moved hvm, h.2.1.moved hvm, h.2.2.1.moved hvm, h.2.2.2.moved hvm⟩
/-- a constructor's frame: its name, the arrays that it may make -/
def me_CI (X : me_X) : Prop :=
  match X with
  | (_, _, _, _, s, _, _, _, meth, _, _, _, _, _) => meth.name = "<init>" ∧ me_AO s
def me_AX (X : me_X) : Prop :=
  match X with
  | (_, _, _, _, s, _, _, _, _, _, _, _, A0, _) => ∀ q, s.heap.size ≤ q → A0 q
section MeGrow
variable {X : me_X} {own : String} {cc : ByteArray} {nL : Nat} {ret : Option FieldType} {a : Nat → Nat → Nat} {n : me_Nt} {r : me_Rt} {w : me_w} {nc ns : Nat} {μ : me_M} {pc : Nat} {L : List (Nat × me_V)} {st S : List me_V} {sz fr lo mc ms : Nat}
theorem me_newO (C : me_C X (a, n, r, w) own cc nL ret) (hroom : me_Rm X fr lo mc ms) {k ci N idx : Nat} {Cn : String} {T : u_T} {ty0 : Nat → FieldType} (hk : k < me_NK) (hkc : me_KC k ci N Cn T ty0) (hdv : ∀ j, j < N → defaultValue (ty0 j) = if me_kr k j = true then .null else .int 0) (hl0 : Cond.classLink own idx Cn ∈ me_gw) (hi0 : Cond.instantiable Cn N ∈ me_gw) (hi1 : Cond.initialized Cn ∈ me_gw)
    (hdg : decode cc pc = .ok (.new idx, 3)) (hc : nc + 1 ≤ mc ∧ ns + N ≤ ms) (kk : ∀ a' : Nat → Nat → Nat, me_agr a n a' (me_nn n k) → me_C X (a', me_nn n k, me_rn r k (n k), w) own cc nL ret → me_Z X (a', me_nn n k, me_rn r k (n k), w) (nc + 1) (ns + N) (me_zc μ k (n k)) (pc + 3) L (me_r k (n k) :: st)) : me_Z X (a, n, r, w) nc ns μ pc L st := by
  have C0 := C
  obtain ⟨p, l, e, R, s, m, args, below, meth, c, Q, E, A0, nL'⟩ := X
  obtain ⟨hx, hb, hml, rfl, hown, hts, hK, hlocks, hret, hnt, hF, hNS, hfresh⟩ := C
  obtain ⟨hRc, hRs, hRf, hRl⟩ := hroom
  intro H locs ls hW hS hl hL hst hJ hA
  obtain ⟨h1, h2, h3, h4, -⟩ := hkc
  have hKn := hK.1 ci _ h2
  refine W.newcK hx hb hown (hts _ hl0) (hts _ hi0) (hts _ hi1) rfl hdg (by omega) (by omega) hKn.2.1 rfl fun H1 kC hkC e1 z1 o1 => ?_
  obtain ⟨g1, g2, g3⟩ := me_grow (H1 := H1) hk hW hJ z1 o1 (by
    rw [me_ct0 h1]
    refine ⟨_, h2, (u_born ty0 hts h3 hKn hkC e1 h4).to (fun j hj => ?_)⟩
    show defaultValue (ty0 j) = ((me_fs _ _ k (n k)).getD j .null)
    rw [hdv j hj, List.getD_eq_getElem?_getD, me_fs_get (by rw [h1]; exact hj)]
    by_cases q : me_kr k j = true
    · rw [if_pos q]
      simp only [q, if_true, Option.getD_some]
      show Value.null = me_rv _ (me_rn r k (n k) k (n k) j)
      rw [show me_rn r k (n k) k (n k) j = none from if_pos ⟨rfl, rfl⟩]
      rfl
    · rw [if_neg q]
      simp only [q, Option.getD_some]
      show Value.int 0 = .int (me_zc μ k (n k) k (n k) j)
      rw [show me_zc μ k (n k) k (n k) j = 0 from if_pos ⟨rfl, rfl⟩])
  have hS1 : va_S A0 s.heap H1 locs := ⟨Nat.le_trans hS.1 (by omega), fun x h1 h2 => (o1 x (Nat.lt_of_lt_of_le h1 hS.1)).trans (hS.2.1 x h1 h2), hS.2.2⟩
  have K := kk _ g3 (C0.ag g3.2) H1 locs ls g1 hS1 (by rw [me_ls_ag g3 hL]; exact hl) (fun q hq => me_ok_ag g3 (hL q hq)) (fun v hv => by
    rcases List.mem_cons.mp hv with rfl | hv
    · exact ⟨hk, by show n k < me_nn n k k; unfold me_nn; rw [if_pos rfl]; omega⟩
    · exact me_ok_ag g3 (hst v hv)) g2 (by
    rintro q ⟨k', i', hk', hi', rfl⟩
    show A0 (me_an a k (n k) H.size k' i')
    by_cases e : k' = k ∧ i' = n k
    · rw [show me_an a k (n k) H.size k' i' = H.size from if_pos e]
      exact hfresh _ hS.1
    · rw [show me_an a k (n k) H.size k' i' = a k' i' from if_neg e]
      refine hA _ ⟨k', i', hk', ?_, rfl⟩
      have hi' : i' < me_nn n k k' := hi'
      show i' < n k'
      unfold me_nn at hi'
      by_cases e' : k' = k
      · rw [if_pos e'] at hi'
        subst e'
        have : ¬ i' = n k' := fun q => e ⟨rfl, q⟩
        omega
      · rwa [if_neg e'] at hi')
  have e0 : me_an a k (n k) H.size k (n k) = H.size := if_pos ⟨rfl, rfl⟩
  have hst1 : (me_r k (n k) :: st).map (me_cv (me_an a k (n k) H.size, me_nn n k, me_rn r k (n k), w)) = .ref H.size :: st.map (me_cv (a, n, r, w)) := by
    rw [List.map_cons, me_map_ag g3 hst]
    show Value.ref (me_an a k (n k) H.size k (n k)) :: _ = _
    rw [e0]
  rw [hst1] at K
  exact K
end MeGrow
