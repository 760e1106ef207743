/-! A PASSING ARRAY: hasRing of the reference makes one of 64 booleans, kind 95 -/
def me_zc (μ : me_M) (k i : Nat) : me_M := fun k' i' j => if k' = k ∧ i' = i then 0 else μ k' i' j
def me_tb (B : me_B) (q : Nat) : me_B := (fun k i => if k = 95 then q else B.1 k i, fun k => if k = 95 then 1 else B.2.1 k, fun k i j => if k = 95 then none else B.2.2.1 k i j, B.2.2.2)
theorem me_tb1 {B : me_B} {q k i : Nat} (h : ¬ k = 95) : (me_tb B q).1 k i = B.1 k i := if_neg h
theorem me_tb2 {B : me_B} {q k : Nat} (h : ¬ k = 95) : (me_tb B q).2.1 k = B.2.1 k := if_neg h
theorem me_tb3 {B : me_B} {q k i j : Nat} (h : ¬ k = 95) : (me_tb B q).2.2.1 k i j = B.2.2.1 k i j := if_neg h
theorem me_SF.tb {B : me_B} {q : Nat} {A : Nat → Prop} {U : State} {H : Heap} : me_SF (me_tb B q) A U H ↔ me_SF B A U H := Iff.rfl
theorem me_NS.tb {B : me_B} {q : Nat} {U : State} : me_NS (me_tb B q) U ↔ me_NS B U := Iff.rfl
theorem me_C.tb {X : me_X} {own : String} {cc : ByteArray} {nL : Nat} {ret : Option FieldType} {B : me_B} (C : me_C X B own cc nL ret) (q : Nat) : me_C X (me_tb B q) own cc nL ret := by
  obtain ⟨p, l, e, R, s, m, args, below, meth, c, Q, E, A0, nL'⟩ := X
  exact C
theorem me_C.ub {X : me_X} {own : String} {cc : ByteArray} {nL : Nat} {ret : Option FieldType} {B : me_B} {q : Nat} (C : me_C X (me_tb B q) own cc nL ret) : me_C X B own cc nL ret := by
  obtain ⟨p, l, e, R, s, m, args, below, meth, c, Q, E, A0, nL'⟩ := X
  exact C
theorem me_St.tb {B : me_B} {q : Nat} (h : me_St B) : me_St (me_tb B q) := by
  intro k i j hk hi hj
  by_cases e : k = 95
  · subst e
    rfl
  · rw [me_tb2 e] at hi
    rw [me_tb3 e]
    exact h k i j hk hi hj
theorem me_k95 : me_kt 95 = (1, 1, 64) := rfl
theorem me_ref95 {B : me_B} (hJ : me_J B) (h0 : B.2.1 95 = 0) {k i j : Nat} {q : Nat × Nat} (hk : k < me_NK) (hi : i < B.2.1 k) (h : B.2.2.1 k i j = some q) : ¬ q.1 = 95 := by
  intro e
  have := (hJ.2 k i j q hk hi h).2
  rw [e, h0] at this
  omega
theorem me_ct_tb {E : me_G} {B : me_B} {μ : me_M} {t k i : Nat} (hJ : me_J B) (h0 : B.2.1 95 = 0) (hk : k < me_NK) (hi : i < B.2.1 k) : me_ct E (me_tb B t) μ k i = me_ct E B μ k i := by
  have e : ¬ k = 95 := by
    intro e
    rw [e, h0] at hi
    omega
  have e1 : ∀ j, me_rv (me_tb B t) ((me_tb B t).2.2.1 k i j) = me_rv B (B.2.2.1 k i j) := by
    intro j
    rw [me_tb3 e]
    cases h : B.2.2.1 k i j with
    | none => rfl
    | some q =>
      show Value.ref ((me_tb B t).1 q.1 q.2) = .ref (B.1 q.1 q.2)
      rw [me_tb1 (me_ref95 hJ h0 hk hi h)]
  have e2 : ∀ j, ((me_tb B t).2.2.1 k i j).map (fun q => (me_tb B t).1 q.1 q.2) = (B.2.2.1 k i j).map (fun q => B.1 q.1 q.2) := by
    intro j
    rw [me_tb3 e]
    cases h : B.2.2.1 k i j with
    | none => rfl
    | some q =>
      show some ((me_tb B t).1 q.1 q.2) = some (B.1 q.1 q.2)
      rw [me_tb1 (me_ref95 hJ h0 hk hi h)]
  have e3 : me_fs (me_tb B t) μ k i = me_fs B μ k i := by
    unfold me_fs
    simp only [e1]
  unfold me_ct
  rw [e3]
  simp only [e2]
  rfl
theorem me_ct_zc {E : me_G} {B : me_B} {μ : me_M} {k i : Nat} (h : ¬ k = 95) : me_ct E B (me_zc μ 95 0) k i = me_ct E B μ k i := by
  have h1 : me_zc μ 95 0 k i = μ k i := funext fun j => if_neg (fun q => h q.1)
  unfold me_ct me_fs
  simp only [h1]
theorem me_ac_bool : Cond.arrayClass .boolean ∈ me_gw := me_gm 147 (by decide +kernel) (by decide +kernel)
section MeTmp
variable {X : me_X} {own : String} {cc : ByteArray} {nL : Nat} {ret : Option FieldType} {B B0 : me_B} {nc ns : Nat} {μ : me_M} {pc : Nat} {L : List (Nat × me_V)} {st S : List me_V} {sz fr lo mc ms : Nat} {out : me_O}
theorem me_cv_tb {t : Nat} {v : me_V} (h0 : B.2.1 95 = 0) (h : me_ok B v) : me_cv (me_tb B t) v = me_cv B v := by
  rcases v with v | q
  · rfl
  · show Value.ref ((me_tb B t).1 q.1 q.2) = .ref (B.1 q.1 q.2)
    rw [me_tb1]
    intro e
    have := h.2
    rw [e, h0] at this
    omega
theorem me_ok_tb {t : Nat} {v : me_V} (h0 : B.2.1 95 = 0) (h : me_ok B v) : me_ok (me_tb B t) v := by
  rcases v with v | q
  · trivial
  · refine ⟨h.1, ?_⟩
    rw [me_tb2]
    · exact h.2
    · intro e
      have := h.2
      rw [e, h0] at this
      omega
theorem me_newT (C : me_C X B own cc nL ret) (N : me_En X B0 sz out fr lo mc ms) (h0 : B.2.1 95 = 0) (hdg : decode cc pc = .ok (.newarray .boolean, 2)) (hc : nc + 1 ≤ mc ∧ ns + 64 ≤ ms) {μ' : me_M} (hμ : μ' = me_zc μ 95 0) (kk : ∀ q : Nat, me_J B → me_C X (me_tb B q) own cc nL ret → me_Z X (me_tb B q) (nc + 1) (ns + 64) μ' (pc + 2) L (me_r 95 0 :: st)) : me_Z X B nc ns μ pc L (me_i 64 :: st) := by
  subst hμ
  have C0 := C
  obtain ⟨p, l, e, R, s, m, args, below, meth, c, Q, E, A0, nL'⟩ := X
  obtain ⟨hx, hb, hml, rfl, hown, hts, hK, hlocks, hret, hnt, hF, hNS, hfresh⟩ := C
  obtain ⟨-, -, -, hRc, hRs, hRf, hRl⟩ := N
  intro H locs ls hW hS hl hL hst hJ hA
  have h0i : ∀ k i, i < B.2.1 k → ¬ k = 95 := fun k i hi e => by
    rw [e, h0] at hi
    omega
  refine va_newaK hx hb (atype := .boolean) (hts _ me_ac_bool) (g := F0 m pc ls (.int 64 :: st.map (me_cv B))) rfl hdg (n := 64) (N := 64) rfl (by decide) (by decide) (by decide) (by omega) (by omega) rfl fun H1 cA e1 z1 o1 hAr hNm => ?_
  have hcA : E.2 1 = cA := by
    have h1 := (hK.2 1 (E.2 1, .boolean) rfl).2
    exact Option.some.inj (Eq.trans (Eq.symm h1) hNm)
  have hlt : ∀ k i, k < me_NK → i < B.2.1 k → B.1 k i < H.size := fun k i hk hi => (hW k hk i hi).lt
  have hW1 : me_W E (me_tb B H.size) (me_zc μ 95 0) H1 := by
    intro k hk i hi
    by_cases e : k = 95
    · subst e
      have hi0 : i = 0 := by
        have : i < 1 := hi
        omega
      subst hi0
      rw [me_ct1 me_k95]
      show H1[H.size]? = some (vp_cell (E.2 1) (64, .inl (me_zc μ 95 0 95 0)))
      rw [e1, hcA, vp_cell_i]
      rfl
    · rw [me_tb2 e] at hi
      rw [me_ct_tb hJ h0 hk hi, me_ct_zc e, me_tb1 e]
      exact (hW k hk i hi).kept (o1 _ (hlt k i hk hi))
  have hJ1 : me_J (me_tb B H.size) := by
    refine ⟨fun k i k' i' hk hk' hi hi' he => ?_, fun k i j q hk hi h => ?_⟩
    · by_cases e : k = 95
      · subst e
        have hi0 : i < 1 := hi
        by_cases e' : k' = 95
        · subst e'
          have hi0' : i' < 1 := hi'
          exact ⟨rfl, by omega⟩
        · rw [me_tb2 e'] at hi'
          rw [me_tb1 e'] at he
          have := hlt k' i' hk' hi'
          have he2 : H.size = B.1 k' i' := he
          omega
      · rw [me_tb2 e] at hi
        by_cases e' : k' = 95
        · subst e'
          rw [me_tb1 e] at he
          have := hlt k i hk hi
          have he2 : B.1 k i = H.size := he
          omega
        · rw [me_tb2 e'] at hi'
          rw [me_tb1 e, me_tb1 e'] at he
          exact hJ.1 k i k' i' hk hk' hi hi' he
    · by_cases e : k = 95
      · subst e
        cases h
      · rw [me_tb2 e] at hi
        rw [me_tb3 e] at h
        have h9 := hJ.2 k i j q hk hi h
        refine ⟨h9.1, ?_⟩
        rw [me_tb2 (me_ref95 hJ h0 hk hi h)]
        exact h9.2
  have hA1 : ∀ q, me_A (me_tb B H.size) q → A0 q := by
    rintro q ⟨k, i, hk, hi, rfl⟩
    by_cases e : k = 95
    · subst e
      exact hfresh _ hS.1
    · rw [me_tb2 e] at hi
      rw [me_tb1 e]
      exact hA _ ⟨k, i, hk, hi, rfl⟩
  have hS1 : va_S A0 s.heap H1 locs := ⟨Nat.le_trans hS.1 (by omega), fun x h1 h2 => (o1 x (Nat.lt_of_lt_of_le h1 hS.1)).trans (hS.2.1 x h1 h2), hS.2.2⟩
  have hl1 : me_ls (me_tb B H.size) L = me_ls B L := by
    unfold me_ls
    exact List.map_congr_left fun q hq => by rw [me_cv_tb h0 (hL q hq)]
  have hst1 : (me_r 95 0 :: st).map (me_cv (me_tb B H.size)) = .ref H.size :: st.map (me_cv B) := by
    rw [List.map_cons]
    congr 1
    exact List.map_congr_left fun v hv => me_cv_tb h0 (hst (v) (List.mem_cons_of_mem _ hv))
  have K := kk H.size hJ (C0.tb H.size) H1 locs ls hW1 hS1 (by rw [hl1]; exact hl) (fun q hq => me_ok_tb h0 (hL q hq)) (fun v hv => by
    rcases List.mem_cons.mp hv with rfl | hv
    · exact ⟨by decide, by show 0 < 1; decide⟩
    · exact me_ok_tb h0 (hst v (List.mem_cons_of_mem _ hv))) hJ1 hA1
  rw [hst1] at K
  exact K
/-- it passes -/
theorem me_shrT {t : Nat} {v : Int32} (hJ0 : me_J B) (h0 : B.2.1 95 = 0) (kk : me_Z X B nc ns μ pc [] [me_i v]) : me_Z X (me_tb B t) nc ns μ pc [] [me_i v] := by
  obtain ⟨p, l, e, R, s, m, args, below, meth, c, Q, E, A0, nL'⟩ := X
  intro H locs ls hW hS hl hL hst hJ hA
  have h0i : ∀ k i, i < B.2.1 k → ¬ k = 95 := fun k i hi e => by
    rw [e, h0] at hi
    omega
  refine kk H locs ls (fun k hk i hi => ?_) hS hl (fun q hq => by cases hq) (fun v hv => by
    rw [List.mem_singleton.mp hv]
    trivial) hJ0 (fun q hq => ?_)
  · have h := hW k hk i (by rw [me_tb2 (h0i k i hi)]; exact hi)
    rw [me_tb1 (h0i k i hi), me_ct_tb hJ0 h0 hk hi] at h
    exact h
  · obtain ⟨k, i, hk, hi, rfl⟩ := hq
    exact hA _ ⟨k, i, hk, by rw [me_tb2 (h0i k i hi)]; exact hi, (me_tb1 (h0i k i hi)).symm⟩
end MeTmp
