/-! A PASSING ARRAY: the law makes one of booleans in each round, of n of them: kind 36 + n -/
def me_zc (μ : me_M) (k i : Nat) : me_M := fun k' i' j => if k' = k ∧ i' = i then 0 else μ k' i' j
def me_tb (B : me_B) (K q : Nat) : me_B := (fun k i => if k = K then q else B.1 k i, fun k => if k = K then 1 else B.2.1 k, fun k i j => if k = K then none else B.2.2.1 k i j, B.2.2.2)
theorem me_tbK1 {B : me_B} {K q i : Nat} : (me_tb B K q).1 K i = q := if_pos rfl
theorem me_tbK2 {B : me_B} {K q : Nat} : (me_tb B K q).2.1 K = 1 := if_pos rfl
theorem me_tbK3 {B : me_B} {K q i j : Nat} : (me_tb B K q).2.2.1 K i j = none := if_pos rfl
theorem me_tb1 {B : me_B} {K q k i : Nat} (h : ¬ k = K) : (me_tb B K q).1 k i = B.1 k i := if_neg h
theorem me_tb2 {B : me_B} {K q k : Nat} (h : ¬ k = K) : (me_tb B K q).2.1 k = B.2.1 k := if_neg h
theorem me_tb3 {B : me_B} {K q k i j : Nat} (h : ¬ k = K) : (me_tb B K q).2.2.1 k i j = B.2.2.1 k i j := if_neg h
theorem me_SS.tb {B : me_B} {K q : Nat} (hK : K < 53) {A : Nat → Prop} {U : State} {H : Heap} : me_SS (me_tb B K q) A U H = me_SS B A U H := by
  unfold me_SS
  simp only [me_tb1 (B := B) (q := q) (show ¬ 200 = K by omega), me_tb1 (B := B) (q := q) (show ¬ 201 = K by omega), me_tb1 (B := B) (q := q) (show ¬ 202 = K by omega)]
  rfl
theorem me_SF.tb {B : me_B} {K q : Nat} (hK : K < 53) {A : Nat → Prop} {U : State} {H : Heap} : me_SF (me_tb B K q) A U H = me_SF B A U H := by
  unfold me_SF
  rw [me_SS.tb hK]
theorem me_NS.tb {B : me_B} {K q : Nat} (hK : K < 53) {U : State} : me_NS (me_tb B K q) U = me_NS B U := by
  unfold me_NS
  simp only [me_tb1 (B := B) (q := q) (show ¬ 200 = K by omega)]
theorem me_C.tb {X : me_X} {own : String} {cc : ByteArray} {nL : Nat} {ret : Option FieldType} {B : me_B} (C : me_C X B own cc nL ret) {K : Nat} (hK : K < 53) (q : Nat) : me_C X (me_tb B K q) own cc nL ret := by
  obtain ⟨p, l, e, R, s, m, args, below, meth, c, Q, E, A0, nL'⟩ := X
  obtain ⟨c1, c2, c3, c4, c5, c6, c7, c8, c9, c10, c11, c12, c13⟩ := C
  exact ⟨c1, c2, c3, c4, c5, c6, c7, c8, c9, c10, by rw [me_SF.tb hK]; exact c11, by rw [me_NS.tb hK]; exact c12, c13⟩
theorem me_St.tb {B : me_B} {K q : Nat} (hr : ∀ i j, me_r0 K i j = none) (h : me_St B) : me_St (me_tb B K q) := by
  intro k i j hk hi hj
  by_cases e : k = K
  · rw [e, me_tbK3, hr]
  · rw [me_tb2 e] at hi
    rw [me_tb3 e]
    exact h k i j hk hi hj
theorem me_ref95 {B : me_B} {K : Nat} (hJ : me_J B) (h0 : B.2.1 K = 0) {k i j : Nat} {q : Nat × Nat} (hk : k < me_NK) (hi : i < B.2.1 k) (h : B.2.2.1 k i j = some q) : ¬ q.1 = K := by
  intro e
  have := (hJ.2 k i j q hk hi h).2
  rw [e, h0] at this
  omega
theorem me_ct_tb {E : me_G} {B : me_B} {μ : me_M} {K t k i : Nat} (hJ : me_J B) (h0 : B.2.1 K = 0) (hk : k < me_NK) (hi : i < B.2.1 k) : me_ct E (me_tb B K t) μ k i = me_ct E B μ k i := by
  have e : ¬ k = K := by
    intro e
    rw [e, h0] at hi
    omega
  have e1 : ∀ j, me_rv (me_tb B K t) ((me_tb B K t).2.2.1 k i j) = me_rv B (B.2.2.1 k i j) := by
    intro j
    rw [me_tb3 e]
    cases h : B.2.2.1 k i j with
    | none => rfl
    | some q =>
      show Value.ref ((me_tb B K t).1 q.1 q.2) = .ref (B.1 q.1 q.2)
      rw [me_tb1 (me_ref95 hJ h0 hk hi h)]
  have e2 : ∀ j, ((me_tb B K t).2.2.1 k i j).map (fun q => (me_tb B K t).1 q.1 q.2) = (B.2.2.1 k i j).map (fun q => B.1 q.1 q.2) := by
    intro j
    rw [me_tb3 e]
    cases h : B.2.2.1 k i j with
    | none => rfl
    | some q =>
      show some ((me_tb B K t).1 q.1 q.2) = some (B.1 q.1 q.2)
      rw [me_tb1 (me_ref95 hJ h0 hk hi h)]
  have e3 : me_fs (me_tb B K t) μ k i = me_fs B μ k i := by
    unfold me_fs
    simp only [e1]
  unfold me_ct
  rw [e3]
  simp only [e2]
theorem me_ct_zc {E : me_G} {B : me_B} {μ : me_M} {K k i : Nat} (h : ¬ k = K) : me_ct E B (me_zc μ K 0) k i = me_ct E B μ k i := by
  have h1 : me_zc μ K 0 k i = μ k i := funext fun j => if_neg (fun q => h q.1)
  unfold me_ct me_fs
  simp only [h1]
/-- the kind of the law's array of L booleans -/
theorem me_kL {L : Nat} (h : L < 17) : me_kt (36 + L) = (1, 1, L) := by
  have h1 : ∀ L, L < 17 → me_kt (36 + L) = (1, 1, L) := by decide +kernel
  exact h1 L h
theorem me_rL {L : Nat} (h : L < 17) (i j : Nat) : me_r0 (36 + L) i j = none := by
  match L, h with
  | 0, _ => rfl
  | 1, _ => rfl
  | 2, _ => rfl
  | 3, _ => rfl
  | 4, _ => rfl
  | 5, _ => rfl
  | 6, _ => rfl
  | 7, _ => rfl
  | 8, _ => rfl
  | 9, _ => rfl
  | 10, _ => rfl
  | 11, _ => rfl
  | 12, _ => rfl
  | 13, _ => rfl
  | 14, _ => rfl
  | 15, _ => rfl
  | 16, _ => rfl
  | k + 17, h => exact absurd h (by omega)
theorem me_ac_bool : Cond.arrayClass .boolean ∈ me_gw := me_gm 95 (by decide +kernel) (by decide +kernel)
section MeTmp
variable {X : me_X} {own : String} {cc : ByteArray} {nL : Nat} {ret : Option FieldType} {B B0 : me_B} {nc ns : Nat} {μ : me_M} {pc : Nat} {L : List (Nat × me_V)} {st S : List me_V} {sz fr lo mc ms : Nat} {out : me_O}
theorem me_cv_tb {K t : Nat} {v : me_V} (h0 : B.2.1 K = 0) (h : me_ok B v) : me_cv (me_tb B K t) v = me_cv B v := by
  rcases v with v | q
  · rfl
  · show Value.ref ((me_tb B K t).1 q.1 q.2) = .ref (B.1 q.1 q.2)
    rw [me_tb1]
    intro e
    have := h.2
    rw [e, h0] at this
    omega
theorem me_ok_tb {K t : Nat} {v : me_V} (h0 : B.2.1 K = 0) (h : me_ok B v) : me_ok (me_tb B K t) v := by
  rcases v with v | q
  · trivial
  · refine ⟨h.1, ?_⟩
    rw [me_tb2]
    · exact h.2
    · intro e
      have := h.2
      rw [e, h0] at this
      omega
theorem me_newT (C : me_C X B own cc nL ret) (hroom : me_Rm X fr lo mc ms) {K N : Nat} {x : Int32} (hin : me_inb x 17 = true) (hN : me_ix x = N) (hkt : me_kt K = (1, 1, N)) (hKn : K < me_NK) (h0 : B.2.1 K = 0) (hdg : decode cc pc = .ok (.newarray .boolean, 2)) (hc : nc + 1 ≤ mc ∧ ns + 17 ≤ ms) {μ' : me_M} (hμ : μ' = me_zc μ K 0) (kk : ∀ q : Nat, me_J B → me_C X (me_tb B K q) own cc nL ret → me_Z X (me_tb B K q) (nc + 1) (ns + 17) μ' (pc + 2) L (me_r K 0 :: st)) : me_Z X B nc ns μ pc L (me_i x :: st) := by
  subst hμ
  have C0 := C
  obtain ⟨p, l, e, R, s, m, args, below, meth, c, Q, E, A0, nL'⟩ := X
  obtain ⟨hx, hb, hml, rfl, hown, hts, hK, hlocks, hret, hnt, hF, hNS, hfresh⟩ := C
  obtain ⟨hRc, hRs, hRf, hRl⟩ := hroom
  have hNl : N < 17 := by rw [← hN]; exact me_inb_lt hin
  have hx0 : ¬ x < 0 := by
    unfold me_inb at hin
    rw [Bool.and_eq_true, decide_eq_true_eq] at hin
    exact Int32.not_lt.mpr hin.1
  intro H locs ls hW hS hl hL hst hJ hA
  have h0i : ∀ k i, i < B.2.1 k → ¬ k = K := fun k i hi e => by
    rw [e, h0] at hi
    omega
  refine va_newaK hx hb (atype := .boolean) (hts _ me_ac_bool) (g := F0 m pc ls (.int x :: st.map (me_cv B))) rfl hdg (n := x) (N := N) rfl hx0 hN (by show N * 1 ≤ 536870912; omega) (by omega) (by omega) rfl fun H1 cA e1 z1 o1 hAr hNm => ?_
  have hcA : E.2 1 = cA := by
    have h1 := (hK.2 1 (E.2 1, .boolean) rfl).2
    exact Option.some.inj (Eq.trans (Eq.symm h1) hNm)
  have hlt : ∀ k i, k < me_NK → i < B.2.1 k → B.1 k i < H.size := fun k i hk hi => (hW k hk i hi).lt
  have hW1 : me_W E (me_tb B K H.size) (me_zc μ K 0) H1 := by
    intro k hk i hi
    by_cases e : k = K
    · rw [e, me_tbK2] at hi
      have hi0 : i = 0 := by omega
      rw [e, hi0, me_ct1 hkt, me_tbK1]
      show H1[H.size]? = some (vp_cell (E.2 1) (N, .inl (me_zc μ K 0 K 0)))
      rw [e1, hcA, vp_cell_i]
      exact congrArg some (me_arrX (fun j hj => by rw [me_zc, if_pos ⟨rfl, rfl⟩]; rfl))
    · rw [me_tb2 e] at hi
      rw [me_ct_tb hJ h0 hk hi, me_ct_zc e, me_tb1 e]
      exact (hW k hk i hi).kept (o1 _ (hlt k i hk hi))
  have hJ1 : me_J (me_tb B K H.size) := by
    refine ⟨fun k i k' i' hk hk' hi hi' he => ?_, fun k i j q hk hi h => ?_⟩
    · by_cases e : k = K
      · rw [e, me_tbK2] at hi
        by_cases e' : k' = K
        · rw [e', me_tbK2] at hi'
          exact ⟨e.trans e'.symm, by omega⟩
        · rw [me_tb2 e'] at hi'
          rw [me_tb1 e', e, me_tbK1] at he
          have := hlt k' i' hk' hi'
          omega
      · rw [me_tb2 e] at hi
        by_cases e' : k' = K
        · rw [me_tb1 e, e', me_tbK1] at he
          have := hlt k i hk hi
          omega
        · rw [me_tb2 e'] at hi'
          rw [me_tb1 e, me_tb1 e'] at he
          exact hJ.1 k i k' i' hk hk' hi hi' he
    · by_cases e : k = K
      · rw [e, me_tbK3] at h
        cases h
      · rw [me_tb2 e] at hi
        rw [me_tb3 e] at h
        have h9 := hJ.2 k i j q hk hi h
        refine ⟨h9.1, ?_⟩
        rw [me_tb2 (me_ref95 hJ h0 hk hi h)]
        exact h9.2
  have hA1 : ∀ q, me_A (me_tb B K H.size) q → A0 q := by
    rintro q ⟨k, i, hk, hi, rfl⟩
    by_cases e : k = K
    · rw [e, me_tbK1]
      exact hfresh _ hS.1
    · rw [me_tb2 e] at hi
      rw [me_tb1 e]
      exact hA _ ⟨k, i, hk, hi, rfl⟩
  have hS1 : va_S A0 s.heap H1 locs := ⟨Nat.le_trans hS.1 (by omega), fun x h1 h2 => (o1 x (Nat.lt_of_lt_of_le h1 hS.1)).trans (hS.2.1 x h1 h2), hS.2.2⟩
  have hl1 : me_ls (me_tb B K H.size) L = me_ls B L := by
    unfold me_ls
    exact List.map_congr_left fun q hq => by rw [me_cv_tb h0 (hL q hq)]
  have hst1 : (me_r K 0 :: st).map (me_cv (me_tb B K H.size)) = .ref H.size :: st.map (me_cv B) := by
    rw [List.map_cons, List.map_congr_left fun v hv => me_cv_tb h0 (hst (v) (List.mem_cons_of_mem _ hv))]
    show Value.ref ((me_tb B K H.size).1 K 0) :: _ = _
    rw [me_tbK1]
  have K2 := kk H.size hJ (C0.tb hKn H.size) H1 locs ls hW1 hS1 (by rw [hl1]; exact hl) (fun q hq => me_ok_tb h0 (hL q hq)) (fun v hv => by
    rcases List.mem_cons.mp hv with rfl | hv
    · exact ⟨hKn, by show 0 < (me_tb B K H.size).2.1 K; rw [me_tbK2]; decide⟩
    · exact me_ok_tb h0 (hst v (List.mem_cons_of_mem _ hv))) hJ1 hA1
  rw [hst1] at K2
  exact W.widen (Nat.le_refl _) (by omega) K2
/-- it passes -/
def me_lo : me_V → Bool
  | .inl _ => true
  | .inr q => decide (q.1 < 36)
theorem me_shr {K t : Nat} (hJ0 : me_J B) (h0 : B.2.1 K = 0) (hK : 36 ≤ K) (hlo : L.all (fun q => me_lo q.2) = true) (kk : me_Z X B nc ns μ pc L []) : me_Z X (me_tb B K t) nc ns μ pc L [] := by
  obtain ⟨p, l, e, R, s, m, args, below, meth, c, Q, E, A0, nL'⟩ := X
  intro H locs ls hW hS hl hL hst hJ hA
  have h0i : ∀ k i, i < B.2.1 k → ¬ k = K := fun k i hi e => by
    rw [e, h0] at hi
    omega
  have hne : ∀ q ∈ L, ∀ k i, q.2 = .inr (k, i) → ¬ k = K := fun q hq k i e1 e2 => by
    have h1 := List.all_eq_true.mp hlo q hq
    rw [e1] at h1
    have h2 : k < 36 := of_decide_eq_true h1
    omega
  have hl1 : me_ls (me_tb B K t) L = me_ls B L := by
    unfold me_ls
    refine List.map_congr_left fun q hq => ?_
    have hn := hne q hq
    obtain ⟨x, v | ⟨k, i⟩⟩ := q
    · rfl
    · show (x, Value.ref ((me_tb B K t).1 k i)) = (x, Value.ref (B.1 k i))
      rw [me_tb1 (hn k i rfl)]
  have hL1 : ∀ q ∈ L, me_ok B q.2 := fun q hq => by
    have hn := hne q hq
    have ho := hL q hq
    obtain ⟨x, v | ⟨k, i⟩⟩ := q
    · trivial
    · obtain ⟨g1, g2⟩ := ho
      refine ⟨g1, ?_⟩
      have g2 : i < (me_tb B K t).2.1 k := g2
      rw [me_tb2 (hn k i rfl)] at g2
      exact g2
  rw [hl1] at hl
  refine kk H locs ls (fun k hk i hi => ?_) hS hl hL1 (fun v hv => by cases hv) hJ0 (fun q hq => ?_)
  · have h := hW k hk i (by rw [me_tb2 (h0i k i hi)]; exact hi)
    rw [me_tb1 (h0i k i hi), me_ct_tb hJ0 h0 hk hi] at h
    exact h
  · obtain ⟨k, i, hk, hi, rfl⟩ := hq
    exact hA _ ⟨k, i, hk, by rw [me_tb2 (h0i k i hi)]; exact hi, (me_tb1 (h0i k i hi)).symm⟩
end MeTmp
