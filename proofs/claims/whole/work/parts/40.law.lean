/-! THE LAW's OWN METHODS: its two answer cells, its handlers -/
/-- the world with these answers in its long cell, its double cell -/
def me_ob (B : me_B) (o : Int64 × UInt64) : me_B := (B.1, B.2.1, B.2.2.1, o)
theorem me_ob_eta (B : me_B) : me_ob B B.2.2.2 = B := rfl
theorem me_C.ob {X : me_X} {own : String} {cc : ByteArray} {nL : Nat} {ret : Option FieldType} {B : me_B} (C : me_C X B own cc nL ret) (o : Int64 × UInt64) : me_C X (me_ob B o) own cc nL ret := by
  obtain ⟨p, l, e, R, s, m, args, below, meth, c, Q, E, A0, nL'⟩ := X
  exact C
theorem me_St.ob {B : me_B} (h : me_St B) (o : Int64 × UInt64) : me_St (me_ob B o) := h
theorem me_arrX {c : ClassId} {N : Nat} {f g : Nat → Value} (h : ∀ j, j < N → f j = g j) : arrV c N f = arrV c N g := by
  have e : (fun j : Fin N => f j.val) = fun j => g j.val := funext fun j => h j.val j.isLt
  unfold arrV
  rw [e]
theorem me_ct_obL {E : me_G} {B : me_B} {μ : me_M} {v : Int64} {k i : Nat} (h : ¬ (me_kt k).1 = 2) : me_ct E (me_ob B (v, B.2.2.2.2)) μ k i = me_ct E B μ k i := by
  unfold me_ct
  generalize (me_kt k).1 = t at h
  match t, h with
  | 0, _ => rfl
  | 1, _ => rfl
  | 2, h => exact absurd rfl h
  | 3, _ => rfl
  | n + 4, _ => rfl
theorem me_ct_obD {E : me_G} {B : me_B} {μ : me_M} {v : UInt64} {k i : Nat} (h : ¬ (me_kt k).1 = 3) : me_ct E (me_ob B (B.2.2.2.1, v)) μ k i = me_ct E B μ k i := by
  unfold me_ct
  generalize (me_kt k).1 = t at h
  match t, h with
  | 0, _ => rfl
  | 1, _ => rfl
  | 2, _ => rfl
  | 3, h => exact absurd rfl h
  | n + 4, _ => rfl
theorem me_only2 : ∀ k, k < me_NK → (me_kt k).1 = 2 → k = 93 := by decide +kernel
theorem me_only3 : ∀ k, k < me_NK → (me_kt k).1 = 3 → k = 94 := by decide +kernel
theorem me_k93 : me_kt 93 = (2, 3, 1) := rfl
theorem me_k94 : me_kt 94 = (3, 4, 1) := rfl
def me_Tb (X : me_X) (hh : List (Nat × Nat × Nat × Nat)) : Prop :=
  match X with
  | (_, _, _, _, _, _, _, _, _, c, _, _, _, _) => c.exceptionTable.toList.map (fun h => (h.startPc, h.endPc, h.handlerPc, h.catchType)) = hh
theorem me_in01 : vp_in 0 1 := by
  unfold vp_in
  decide
section MeLaw
variable {X : me_X} {own : String} {cc : ByteArray} {nL : Nat} {ret : Option FieldType} {B B0 : me_B} {nc ns : Nat} {μ : me_M} {pc : Nat} {L : List (Nat × me_V)} {st S : List me_V} {sz fr lo mc ms : Nat} {out : me_O}
theorem me_lald (C : me_C X B own cc nL ret) (hdg : decode cc pc = .ok (.laload, 1)) (kk : me_Z X B nc ns μ (pc + 1) L (me_l B.2.2.2.1 :: st)) : me_Z X B nc ns μ pc L (me_i 0 :: me_r 93 0 :: st) := by
  obtain ⟨p, l, e, R, s, m, args, below, meth, c, Q, E, A0, nL'⟩ := X
  obtain ⟨hx, hb, hml, rfl, hown, hts, hK, hlocks, hret, hnt, hF, hNS, hfresh⟩ := C
  intro H locs ls hW hS hl hL hst hJ hA
  obtain ⟨hk0, hi⟩ : 93 < me_NK ∧ 0 < B.2.1 93 := hst (me_r 93 0) (List.mem_cons_of_mem _ List.mem_cons_self)
  obtain ⟨q0, hq⟩ := me_at_ws (E := E) (μ := μ) hk0 hi
  rw [me_ct2 me_k93] at hq
  exact va_lald hx hb hK hW.P q0 3 hq rfl me_in01 hdg (kk H locs ls hW hS hl hL (me_okc trivial (me_okt (me_okt hst))) hJ hA)
theorem me_dald (C : me_C X B own cc nL ret) (hdg : decode cc pc = .ok (.daload, 1)) (kk : me_Z X B nc ns μ (pc + 1) L (me_d B.2.2.2.2 :: st)) : me_Z X B nc ns μ pc L (me_i 0 :: me_r 94 0 :: st) := by
  obtain ⟨p, l, e, R, s, m, args, below, meth, c, Q, E, A0, nL'⟩ := X
  obtain ⟨hx, hb, hml, rfl, hown, hts, hK, hlocks, hret, hnt, hF, hNS, hfresh⟩ := C
  intro H locs ls hW hS hl hL hst hJ hA
  obtain ⟨hk0, hi⟩ : 94 < me_NK ∧ 0 < B.2.1 94 := hst (me_r 94 0) (List.mem_cons_of_mem _ List.mem_cons_self)
  obtain ⟨q0, hq⟩ := me_at_ws (E := E) (μ := μ) hk0 hi
  rw [me_ct3 me_k94] at hq
  exact va_dald hx hb hK hW.P q0 4 hq rfl me_in01 hdg (kk H locs ls hW hS hl hL (me_okc trivial (me_okt (me_okt hst))) hJ hA)
theorem me_ws_ob {E : me_G} {o : Int64 × UInt64} {H H1 : Heap} {k q0 : Nat} {x : va_E} (hJ : me_J B) (hk : k < me_NK) (hi : 0 < B.2.1 k) (h1 : ∀ i, i < B.2.1 k → i = 0) (hq : (me_ws E B μ)[q0]? = some (B.1 k 0, me_ct E B μ k 0))
    (hP : va_P E.1 vwCl ((me_ws E B μ).set q0 (B.1 k 0, x)) H1) (hx : ∀ H : Heap, va_at E.1 vwCl (B.1 k 0, x) H → va_at E.1 vwCl (B.1 k 0, me_ct E (me_ob B o) μ k 0) H) (hs : ∀ k' i', k' < me_NK → ¬ k' = k → me_ct E (me_ob B o) μ k' i' = me_ct E B μ k' i') : me_W E (me_ob B o) μ H1 := by
  intro k' hk' i' hi'
  have hi2 : i' < B.2.1 k' := hi'
  show va_at E.1 vwCl (B.1 k' i', me_ct E (me_ob B o) μ k' i') H1
  by_cases e : k' = k
  · subst e
    rw [h1 i' hi2]
    exact hx _ (hP q0 _ (by rw [List.getElem?_set_self (List.getElem?_eq_some_iff.mp hq).1]))
  · obtain ⟨n, hn⟩ := me_at_ws (E := E) (μ := μ) hk' hi2
    have hne : ¬ q0 = n := by
      intro h
      subst h
      rw [hq] at hn
      have h1 := congrArg Prod.fst (Option.some.inj hn)
      exact e (hJ.1 k 0 k' i' hk hk' hi hi2 h1).1.symm
    rw [hs k' i' hk' e]
    exact hP n _ (by rw [List.getElem?_set_ne hne]; exact hn)
theorem me_last (C : me_C X B own cc nL ret) (h1 : ∀ i, i < B.2.1 93 → i = 0) {v : Int64} (hdg : decode cc pc = .ok (.lastore, 1)) (kk : me_Z X (me_ob B (v, B.2.2.2.2)) nc ns μ (pc + 1) L st) : me_Z X B nc ns μ pc L (me_l v :: me_i 0 :: me_r 93 0 :: st) := by
  obtain ⟨p, l, e, R, s, m, args, below, meth, c, Q, E, A0, nL'⟩ := X
  obtain ⟨hx, hb, hml, rfl, hown, hts, hK, hlocks, hret, hnt, hF, hNS, hfresh⟩ := C
  intro H locs ls hW hS hl hL hst hJ hA
  obtain ⟨hk0, hi⟩ : 93 < me_NK ∧ 0 < B.2.1 93 := hst (me_r 93 0) (List.mem_cons_of_mem _ (List.mem_cons_of_mem _ List.mem_cons_self))
  obtain ⟨q0, hq⟩ := me_at_ws (E := E) (μ := μ) hk0 hi
  have hq0 := hq
  rw [me_ct2 me_k93] at hq
  refine va_last hx hb hK hW.P (me_D hJ hA) hS q0 3 hq rfl me_in01 hdg (fun H1 locs1 hP1 hD1 hS1 => ?_)
  refine kk H1 locs1 ls (me_ws_ob (o := (v, B.2.2.2.2)) (H := H) hJ hk0 hi h1 hq0 hP1 (fun H2 h2 => ?_) (fun k' i' hk' hne => ?_)) hS1 hl hL (me_okt (me_okt (me_okt hst))) hJ hA
  · rw [me_ct2 me_k93]
    have e2 : H2[B.1 93 0]? = some (vp_cell (E.2 3) (1, .inr (.inl (vp_updL (fun _ => B.2.2.2.1) (0 : Int32).toNatClampNeg v)))) := h2
    show H2[B.1 93 0]? = some (vp_cell (E.2 3) (1, .inr (.inl (fun _ => v))))
    rw [e2, vp_cell_l, vp_cell_l]
    refine congrArg some (me_arrX (fun j hj => ?_))
    have : j = 0 := by omega
    subst this
    rfl
  · exact me_ct_obL (fun q => hne (me_only2 k' hk' q))
theorem me_dast (C : me_C X B own cc nL ret) (h1 : ∀ i, i < B.2.1 94 → i = 0) {v : UInt64} (hdg : decode cc pc = .ok (.dastore, 1)) (kk : me_Z X (me_ob B (B.2.2.2.1, v)) nc ns μ (pc + 1) L st) : me_Z X B nc ns μ pc L (me_d v :: me_i 0 :: me_r 94 0 :: st) := by
  obtain ⟨p, l, e, R, s, m, args, below, meth, c, Q, E, A0, nL'⟩ := X
  obtain ⟨hx, hb, hml, rfl, hown, hts, hK, hlocks, hret, hnt, hF, hNS, hfresh⟩ := C
  intro H locs ls hW hS hl hL hst hJ hA
  obtain ⟨hk0, hi⟩ : 94 < me_NK ∧ 0 < B.2.1 94 := hst (me_r 94 0) (List.mem_cons_of_mem _ (List.mem_cons_of_mem _ List.mem_cons_self))
  obtain ⟨q0, hq⟩ := me_at_ws (E := E) (μ := μ) hk0 hi
  have hq0 := hq
  rw [me_ct3 me_k94] at hq
  refine va_dast hx hb hK hW.P (me_D hJ hA) hS q0 4 hq rfl me_in01 hdg (fun H1 locs1 hP1 hD1 hS1 => ?_)
  refine kk H1 locs1 ls (me_ws_ob (o := (B.2.2.2.1, v)) (H := H) hJ hk0 hi h1 hq0 hP1 (fun H2 h2 => ?_) (fun k' i' hk' hne => ?_)) hS1 hl hL (me_okt (me_okt (me_okt hst))) hJ hA
  · rw [me_ct3 me_k94]
    have e2 : H2[B.1 94 0]? = some (vp_cell (E.2 4) (1, .inr (.inr (.inr (.inl (vf_upd (fun _ => B.2.2.2.2) (0 : Int32).toNatClampNeg v)))))) := h2
    show H2[B.1 94 0]? = some (vp_cell (E.2 4) (1, .inr (.inr (.inr (.inl (fun _ => v))))))
    rw [e2, vp_cell_d, vp_cell_d]
    refine congrArg some (me_arrX (fun j hj => ?_))
    have : j = 0 := by omega
    subst this
    rfl
  · exact me_ct_obD (fun q => hne (me_only3 k' hk' q))
/-- an exception comes to its handler -/
theorem me_catch (C : me_C X B own cc nL ret) {hh : List (Nat × Nat × Nat × Nat)} (hT : me_Tb X hh) {k : Nat} (pre : List (Nat × Nat × Nat × Nat)) (x : Nat × Nat × Nat × Nat) (suf : List (Nat × Nat × Nat × Nat)) (hs : hh = pre ++ x :: suf)
    (hp : ∀ z ∈ pre, z.2.2.2 ≠ 0 ∧ ∃ nm : String, Cond.classLink own z.2.2.2 nm ∈ me_gw ∧ (me_ex k, nm) ∈ me_ncs) (hx1 : x.1 ≤ pc ∧ pc < x.2.1) (h0 : x.2.2.2 ≠ 0) (hl0 : Cond.classLink own x.2.2.2 (me_ex k) ∈ me_gw) (hca : Cond.castable (me_ex k) (me_ex k) ∈ me_bw)
    (kk : ∀ q : Nat, me_Z X B nc ns μ x.2.2.1 L [.inl (.ref q)]) : me_ZX X B nc ns μ pc L k := by
  obtain ⟨p, l, e, R, s, m, args, below, meth, c, Q, E, A0, nL'⟩ := X
  obtain ⟨hx, hb, hml, rfl, hown, hts, hK, hlocks, hret, hnt, hF, hNS, hfresh⟩ := C
  intro H locs ls q ce rest hW hS hl hL hJ hA h1 h2 h3
  have hT' : c.exceptionTable.toList.map (fun h => (h.startPc, h.endPc, h.handlerPc, h.catchType)) = pre ++ x :: suf := Eq.trans hT hs
  obtain ⟨l1, l2, e1, e2, e3⟩ := List.map_eq_append_iff.mp hT'
  obtain ⟨x', l3, e4, e5, e6⟩ := List.map_eq_cons_iff.mp e3
  subst e4
  have ex1 : x'.startPc = x.1 := by rw [← e5]
  have ex2 : x'.endPc = x.2.1 := by rw [← e5]
  have ex3 : x'.handlerPc = x.2.2.1 := by rw [← e5]
  have ex4 : x'.catchType = x.2.2.2 := by rw [← e5]
  refine vx_catch (own := own) (name := me_ex k) (E := me_ex k) hown l1 x' l3 e1 (fun z hz => Or.inr ?_) ?_ (by rw [ex4]; exact h0) (by rw [ex4]; exact hts _ hl0) (va_Nw.use (me_bad_onT (List.mem_filter.mp hca).2) (hNS.1 _ hca)) h1 h2 h3 ?_
  · have hz' : (z.startPc, z.endPc, z.handlerPc, z.catchType) ∈ pre := by
      rw [← e2]
      exact List.mem_map.mpr ⟨z, hz, rfl⟩
    obtain ⟨g1, nm, g2, g3⟩ := hp _ hz'
    exact ⟨g1, nm, hts _ g2, hNS.2.2.2 _ g3⟩
  · unfold covers
    simp only [ex1, ex2]
    simpa using hx1
  · rw [ex3]
    exact kk q H locs ls hW hS hl hL (me_okc trivial (fun v hv => by cases hv)) hJ hA
end MeLaw
/-- a contract of a method with handlers -/
def me_MetH (l : Launch) (y : MethodName) (cc : ByteArray) (maxL : Nat) (ret : Option FieldType) (hh : List (Nat × Nat × Nat × Nat)) (fr lo mc ms : Nat) (E : me_G) (B : me_B) (μ : me_M) (sz : Nat) (As : List me_V) (out : me_O) : Prop :=
  vx_Met l y (.codeWith y cc maxL ret hh :: me_gw) { frames := fr, cells := mc, slots := ms, locals := lo } (me_P E B μ sz As) (me_Q E B sz out) (me_XQ E B sz out) mc ms (me_F B sz)
theorem me_ofZH {l : Launch} {y : MethodName} {cc : ByteArray} {maxL : Nat} {ret : Option FieldType} {hh : List (Nat × Nat × Nat × Nat)} {fr lo mc ms : Nat} {E : me_G} {B : me_B} {μ : me_M} {sz : Nat} {As : List me_V} {out : me_O} (hl : l.stackTraces = false)
    (hy : plainName y.cls = true) (hd : me_wd As ≤ maxL)
    (k : ∀ X : me_X, me_C X B y.cls cc maxL ret → me_En X B sz out fr lo mc ms → me_Tb X hh → me_Z X B 0 0 μ 0 (me_al 0 As) []) : me_MetH l y cc maxL ret hh fr lo mc ms E B μ sz As out := by
  refine vx_ofWH (cc := cc) (maxL := maxL) (ret := ret) (hh := hh) hy rfl ?_
  intro p e s m args below meth c s₁ Bd hml hv
  obtain ⟨rfl, hsz, hW, hJ, hok, hK, hF, hNS⟩ := hv
  have hown : s.vm.findClass y.cls = some m.cls := findClass_of_methodNamed Bd.named
  have hts0 : ∀ c ∈ (Jvm.Cond.codeWith y cc maxL ret hh :: me_gw), c.before (As.map (me_cv B)).toArray s = true := atoms_spec (ws := Jvm.Cond.codeWith y cc maxL ret hh :: me_gw) Bd.pre
  have hts : ∀ w ∈ me_gw, w.before (As.map (me_cv B)).toArray s = true := fun w hw => hts0 w (List.mem_cons_of_mem _ hw)
  have htb : c.exceptionTable.toList.map (fun h => (h.startPc, h.endPc, h.handlerPc, h.catchType)) = hh := by
    obtain ⟨m9, meth9, c9, h0, h1, h2, -, -, h5, -⟩ := Cond.codeWith_spec (hts0 _ List.mem_cons_self)
    cases Option.some.inj (h0.symm.trans Bd.named)
    cases Option.some.inj (h1.symm.trans Bd.method)
    cases Option.some.inj (h2.symm.trans (Stand.of_body Bd).code)
    exact h5
  rw [lg_entry_eq]
  have hl0 := lv_entry (As.map (me_cv B)) (n := maxL) (by rw [me_wd_sl]; exact hd)
  generalize (lg_sl (As.map (me_cv B)) ++ List.replicate (maxL - (lg_sl (As.map (me_cv B))).length) Slot.unset).toArray = ls at hl0 ⊢
  rw [me_al_ls] at hl0
  subst hsz
  exact k (p, l, e, _, s, m, _, below, meth, c, _, E, me_F B s.heap.size, maxL) ⟨Bd.exec, Bd.bytes, hml, rfl, hown, hts, hK, Bd.notSynchronized, Bd.returns, hl, hF, hNS, fun q hq => Or.inr hq⟩ ⟨rfl, rfl, rfl, Nat.le_refl _, Nat.le_refl _, Nat.le_refl _, Nat.le_refl _⟩ htb
    s.heap [] ls hW va_S.rf hl0 (me_al_ok As 0 hok) (fun v hv => by cases hv) hJ (fun q hq => Or.inl hq)
/-- the end of a method of the law: an int, the world with other answers in its cells -/
theorem me_iretO {X : me_X} {own : String} {cc : ByteArray} {nL : Nat} {B B0 : me_B} {nc ns : Nat} {μ : me_M} {pc : Nat} {L : List (Nat × me_V)} {sz fr lo mc ms : Nat} {out : me_O} (C : me_C X B own cc nL (some .int)) (N : me_En X B0 sz out fr lo mc ms) {v : Int32} (hdg : decode cc pc = .ok (.ireturn, 1)) (ho : out = (B, μ, .ok (some (me_i v)))) (hc : nc ≤ mc) (hs : ns ≤ ms) : me_Z X B nc ns μ pc L [me_i v] := me_iret C N hdg (me_nri _) ho hc hs
