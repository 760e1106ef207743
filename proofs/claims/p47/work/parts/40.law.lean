/-! THE LAW's OWN METHODS: their handlers -/
theorem me_arrX {c : ClassId} {N : Nat} {f g : Nat → Value} (h : ∀ j, j < N → f j = g j) : arrV c N f = arrV c N g := by
  have e : (fun j : Fin N => f j.val) = fun j => g j.val := funext fun j => h j.val j.isLt
  unfold arrV
  rw [e]
def me_Tb (X : me_X) (hh : List (Nat × Nat × Nat × Nat)) : Prop :=
  match X with
  | (_, _, _, _, _, _, _, _, _, c, _, _, _, _) => c.exceptionTable.toList.map (fun h => (h.startPc, h.endPc, h.handlerPc, h.catchType)) = hh
section MeLaw
variable {X : me_X} {own : String} {cc : ByteArray} {nL : Nat} {ret : Option FieldType} {B B0 : me_B} {nc ns : Nat} {μ : me_M} {pc : Nat} {L : List (Nat × me_V)} {st S : List me_V} {sz fr lo mc ms : Nat} {out : me_O}
theorem me_ineg (C : me_C X B own cc nL ret) {x : Int32} (hdg : decode cc pc = .ok (.ineg, 1)) (k : me_Z X B nc ns μ (pc + 1) L (me_i (-x) :: st)) : me_Z X B nc ns μ pc L (me_i x :: st) := by
  obtain ⟨p, l, e, R, s, m, args, below, meth, c, Q, E, A0, nL'⟩ := X
  obtain ⟨hx, hb, hml, rfl, hown, hts, hK, hlocks, hret, hnt, hF, hNS, hfresh⟩ := C
  intro H locs ls hW hS hl hL hst hJ hA
  exact lv_ineg hx hb hdg (k H locs ls hW hS hl hL (me_okc trivial (me_okt hst)) hJ hA)
theorem me_catch (C : me_C X B own cc nL ret) {hh : List (Nat × Nat × Nat × Nat)} (hT : me_Tb X hh) {k : Nat} (pre : List (Nat × Nat × Nat × Nat)) (x : Nat × Nat × Nat × Nat) (suf : List (Nat × Nat × Nat × Nat)) (hs : hh = pre ++ x :: suf)
    (hp : ∀ z ∈ pre, z.2.2.2 ≠ 0 ∧ ∃ nm : String, Cond.classLink own z.2.2.2 nm ∈ me_gw ∧ (me_ex k, nm) ∈ me_ncs) (hx1 : x.1 ≤ pc ∧ pc < x.2.1) (h0 : x.2.2.2 ≠ 0) (hl0 : Cond.classLink own x.2.2.2 (me_ex k) ∈ me_gw) (hca : Cond.castable (me_ex k) (me_ex k) ∈ me_bw)
    (kk : ∀ q : Nat, me_Z X B nc ns μ x.2.2.1 L [.inl (.ref q)]) : me_ZX X B nc ns μ pc L k := by
  obtain ⟨p, l, e, R, s, m, args, below, meth, c, Q, E, A0, nL'⟩ := X
  obtain ⟨hx, hb, hml, rfl, hown, hts, hK, hlocks, hret, hnt, hF, hNS, hfresh⟩ := C
  intro H locs ls q ce rest hW hS hl hL hJ hA h1 h2 h3
  have hT' : c.exceptionTable.toList.map (fun h => (h.startPc, h.endPc, h.handlerPc, h.catchType)) = pre ++ x :: suf := Eq.trans hT hs
  obtain ⟨l1, l2, e1, e2, e3⟩ := List.map_eq_append_iff.mp hT'
  obtain ⟨x', l3, e4, e5, e6⟩ := List.map_eq_cons_iff.mp e3
  subst e4
  have ex1 : x'.startPc = x.1 := by rw [← e5]
  have ex2 : x'.endPc = x.2.1 := by rw [← e5]
  have ex3 : x'.handlerPc = x.2.2.1 := by rw [← e5]
  have ex4 : x'.catchType = x.2.2.2 := by rw [← e5]
  refine vx_catch (own := own) (name := me_ex k) (E := me_ex k) hown l1 x' l3 e1 (fun z hz => Or.inr ?_) ?_ (by rw [ex4]; exact h0) (by rw [ex4]; exact hts _ hl0) (va_Nw.use (me_bad_onT (List.mem_filter.mp hca).2) (hNS.1 _ hca)) h1 h2 h3 ?_
  · have hz' : (z.startPc, z.endPc, z.handlerPc, z.catchType) ∈ pre := by
      rw [← e2]
      exact List.mem_map.mpr ⟨z, hz, rfl⟩
    obtain ⟨g1, nm, g2, g3⟩ := hp _ hz'
    exact ⟨g1, nm, hts _ g2, hNS.2.2.2 _ g3⟩
  · unfold covers
    simp only [ex1, ex2]
    simpa using hx1
  · rw [ex3]
    exact kk q H locs ls hW hS hl hL (me_okc trivial (fun v hv => by cases hv)) hJ hA
end MeLaw
/-- a contract of a method with handlers -/
def me_MetH (l : Launch) (y : MethodName) (cc : ByteArray) (maxL : Nat) (ret : Option FieldType) (hh : List (Nat × Nat × Nat × Nat)) (fr lo mc ms : Nat) (E : me_G) (B : me_B) (μ : me_M) (sz : Nat) (As : List me_V) (out : me_O) : Prop :=
  vx_Met l y (.codeWith y cc maxL ret hh :: me_gw) { frames := fr, cells := mc, slots := ms, locals := lo } (me_P E B μ sz As) (me_Q E B sz out) (me_XQ E B sz out) mc ms (me_F B sz)
theorem me_ofZH {l : Launch} {y : MethodName} {cc : ByteArray} {maxL : Nat} {ret : Option FieldType} {hh : List (Nat × Nat × Nat × Nat)} {fr lo mc ms : Nat} {E : me_G} {B : me_B} {μ : me_M} {sz : Nat} {As : List me_V} {out : me_O} (hl : l.stackTraces = false)
    (hy : plainName y.cls = true) (hd : me_wd As ≤ maxL)
    (k : ∀ X : me_X, me_C X B y.cls cc maxL ret → me_En X B sz out fr lo mc ms → me_Tb X hh → me_Z X B 0 0 μ 0 (me_al 0 As) []) : me_MetH l y cc maxL ret hh fr lo mc ms E B μ sz As out := by
  refine vx_ofWH (cc := cc) (maxL := maxL) (ret := ret) (hh := hh) hy rfl ?_
  intro p e s m args below meth c s₁ Bd hml hv
  obtain ⟨rfl, hsz, hW, hJ, hok, hK, hF, hNS⟩ := hv
  have hown : s.vm.findClass y.cls = some m.cls := findClass_of_methodNamed Bd.named
  have hts0 : ∀ c ∈ (Jvm.Cond.codeWith y cc maxL ret hh :: me_gw), c.before (As.map (me_cv B)).toArray s = true := atoms_spec (ws := Jvm.Cond.codeWith y cc maxL ret hh :: me_gw) Bd.pre
  have hts : ∀ w ∈ me_gw, w.before (As.map (me_cv B)).toArray s = true := fun w hw => hts0 w (List.mem_cons_of_mem _ hw)
  have htb : c.exceptionTable.toList.map (fun h => (h.startPc, h.endPc, h.handlerPc, h.catchType)) = hh := by
    obtain ⟨m9, meth9, c9, h0, h1, h2, -, -, h5, -⟩ := Cond.codeWith_spec (hts0 _ List.mem_cons_self)
    cases Option.some.inj (h0.symm.trans Bd.named)
    cases Option.some.inj (h1.symm.trans Bd.method)
    cases Option.some.inj (h2.symm.trans (Stand.of_body Bd).code)
    exact h5
  rw [lg_entry_eq]
  have hl0 := lv_entry (As.map (me_cv B)) (n := maxL) (by rw [me_wd_sl]; exact hd)
  generalize (lg_sl (As.map (me_cv B)) ++ List.replicate (maxL - (lg_sl (As.map (me_cv B))).length) Slot.unset).toArray = ls at hl0 ⊢
  rw [me_al_ls] at hl0
  subst hsz
  exact k (p, l, e, _, s, m, _, below, meth, c, _, E, me_F B s.heap.size, maxL) ⟨Bd.exec, Bd.bytes, hml, rfl, hown, hts, hK, Bd.notSynchronized, Bd.returns, hl, hF, hNS, fun q hq => Or.inr hq⟩ ⟨rfl, rfl, rfl, Nat.le_refl _, Nat.le_refl _, Nat.le_refl _, Nat.le_refl _⟩ htb
    s.heap [] ls hW va_S.rf hl0 (me_al_ok As 0 hok) (fun v hv => by cases hv) hJ (fun q hq => Or.inl hq)
