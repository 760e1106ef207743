/-! THROWS with the text by a wide index; NoSuchElementException, whose constructor goes on by another index of its pool (the road is the one that the library goes for classes whose constructors are all alike: Stand.ctorThrowS) -/
def me_nse : String := "java/util/NoSuchElementException"
def me_rte : String := "java/lang/RuntimeException"
def me_nn : List String := ["java/lang/Exception"]
def me_n7 (w : Cond) : Bool := decide (w ≠ .code (Bundle.initS me_nse) Bundle.six 2 none) && decide (w ≠ .methodLink me_nse 7 (Bundle.initS me_rte))
def me_nA (own : String) (ic : Nat) : List Cond := Bundle.ownAtoms own ic me_nse (me_rte :: me_nn)
theorem me_nA_n7 {own : String} {ic : Nat} (ho : own ≠ me_nse) : ∀ w ∈ Bundle.throwableAtoms ++ Bundle.throwableSAtoms ++ Bundle.chainSAtoms me_rte me_nn, me_n7 w = true ∧ w ∈ me_nA own ic := by
  intro w hw
  have h1 : (Bundle.throwableAtoms ++ Bundle.throwableSAtoms ++ Bundle.chainSAtoms me_rte me_nn).all me_n7 = true := by decide +kernel
  refine ⟨List.all_eq_true.mp h1 w hw, ?_⟩
  unfold me_nA Bundle.ownAtoms
  simp only [Bundle.chainSAtoms, List.mem_append] at hw ⊢
  rcases hw with (h | h) | h
  · exact Or.inl (Or.inl (Or.inl h))
  · exact Or.inl (Or.inl (Or.inr h))
  · exact Or.inl (Or.inr (Or.inr h))
section MeNse
variable {p : Program} {l : Launch} {e : Env} {R : Room} {s : State} {m₀ : MethodId} {args : Array Value} {below : List Frame} {meth : Method} {c : Code} {W : State} {locs : List Loc} {cells slots : Nat}
set_option maxHeartbeats 4000000 in
theorem me_nse_ctor (X : Stand p l e R s m₀ args below meth c W locs cells slots) (hexec : p.tables.exec = Jvm.exec) (htr : e.platform.stackTraces = false) {own : String} {ic : Nat} (ho : own ≠ me_nse) (hown : s.vm.findClass own = some m₀.cls)
    (h0 : ∀ w ∈ me_nA own ic, me_n7 w = true → w.before args s = true) (hcd : (Cond.code (Bundle.initS me_nse) prog_32_method_4_code 2 none).before args s = true) (hlk : (Cond.methodLink me_nse 13 (Bundle.initS me_rte)).before args s = true)
    (hlocs : ∀ x ∈ locs, ∀ cell, s.heap[x.base]? = some cell → cell.vm.isStatics = false)
    {a : Addr} {cX : ClassId} {kX : Class} (hfoundX : s.vm.findClass me_nse = some cX) (hkX : s.vm.classes[cX]? = some kX) (hcell : W.heap[a]? = some (freshCell cX kX)) (hnew : s.heap.size ≤ a)
    {msg : Value} (hmsg : msg.isRef = true)
    {g : JFrame} (hg : g.method = m₀) (hsize : g.locals.size = c.maxLocals) (hlocked : g.locked = none) (hentered : g.entered = []) {rest : List Value} (hstack : g.stack = msg :: .ref a :: .ref a :: rest)
    (hd6 : decode c.code g.pc = .ok (.invokespecial ic, 3)) (hd9 : decode c.code (g.pc + 3) = .ok (.athrow, 1)) (hout : ∀ x ∈ c.exceptionTable.toList, covers x (g.pc + 3) = false)
    (hRframes : 5 < R.frames) (hRlocals : 2 * g.monitorRoom + ((Value.ref a :: rest).map fun v => v.category).sum + 81 ≤ R.locals) (hlocks : meth.locks = false) :
    ∃ U : State, Steps p.tables e below (W.setTop g) U ∧ U.status = .running ∧ Ended U below (.threw a) ∧ s.WarmedH U.vm ∧ s.sameButNew ({ U with vm := s.vm } : State) locs cells slots ∧
      ∃ ce, U.heap[a]? = some ce ∧ s.vm.findClass me_nse = some ce.cls ∧ ce.vm = .none := by
  have howns : e.platform.frameOwnsMonitors = true := by rw [X.admits.platform]
  have hfin : e.platform.finalization = false := by rw [X.admits.platform]
  have hpl : e.platform.magicAccessors = ({} : Platform).magicAccessors := by rw [X.admits.platform]
  have hB : ∀ w ∈ Bundle.throwableAtoms ++ Bundle.throwableSAtoms ++ Bundle.chainSAtoms me_rte me_nn, w.before args s = true := fun w hw => h0 w (me_nA_n7 (ic := ic) ho w hw).2 (me_nA_n7 (ic := ic) ho w hw).1
  obtain ⟨T, Z0, L, -, Y⟩ := ThrowableC.of_atoms (args := args) howns hfin hpl (fun x hx => hB x (by simp [hx]))
  obtain ⟨Z, M, LZ, LM, hnZ⟩ := Init0T.ofS_atoms (args := args) hpl L Y (fun x hx => hB x (by simp [hx]))
  obtain ⟨P2, Ps, hlen, L2, hL, hP2m, hlink2, hlink⟩ := Bundle.chainS (args := args) hpl hnZ me_nn me_rte (by decide +kernel) (by decide +kernel) (fun x hx => hB x (by simp [hx]))
  have hap : ∀ {w : Cond}, w ∈ Bundle.passSAtoms me_nse me_rte 13 prog_32_method_4_code → w.before args s = true := by
    intro w hw
    have hi : (Cond.instanceMethod (Bundle.initS me_nse)).before args s = true := h0 _ (by simp [me_nA, Bundle.ownAtoms, Bundle.chainSAtoms, Bundle.passSAtoms]) (by decide +kernel)
    have hj : (Cond.instanceMethod (Bundle.initS me_rte)).before args s = true := h0 _ (by simp [me_nA, Bundle.ownAtoms, Bundle.chainSAtoms, Bundle.passSAtoms]) (by decide +kernel)
    have hk : (Cond.declares (Bundle.initS me_rte)).before args s = true := h0 _ (by simp [me_nA, Bundle.ownAtoms, Bundle.chainSAtoms, Bundle.passSAtoms]) (by decide +kernel)
    simp only [Bundle.passSAtoms, List.mem_cons, List.not_mem_nil, or_false] at hw
    rcases hw with rfl | rfl | rfl | rfl | rfl <;> assumption
  obtain ⟨P1, L1, hP1m, hP1s⟩ := PassC.ofS_atoms (args := args) (s := s) hpl (X := me_nse) (Y := me_rte) (by decide +kernel) (by decide +kernel) (index := 13) (bytes := prog_32_method_4_code) (by decide +kernel) (by decide +kernel) (by decide +kernel) (by decide +kernel) (fun c hc => hap hc)
  have hlink1 : P1.sup = P2.m := Option.some.inj (hP1s.symm.trans hP2m)
  have hfound : s.vm.findClass me_nse = some P1.m.cls := findClass_of_methodNamed hP1m
  cases Option.some.inj (hfoundX.symm.trans hfound)
  have ht : ∀ {w : Cond}, w ∈ me_nA own ic → me_n7 w = true → w.holds args s none s [] = true := fun hw hn => h0 _ hw hn
  have tl : ∀ {w : Cond}, w ∈ me_nA own ic → me_n7 w = true → w.before args s = true := fun hw hn => h0 _ hw hn
  obtain ⟨c1, kX', hc1, hk, hord, -, -, hn6⟩ := Cond.instantiable_spec (ht (w := .instantiable me_nse 6) (by simp [me_nA, Bundle.ownAtoms]) (by decide +kernel))
  cases Option.some.inj (hc1.symm.trans hfound)
  cases Option.some.inj (hkX.symm.trans hk)
  have hsel0 : selectMethod e.platform s.vm P1.m.cls T.fill0 = .method T.fill0 := by
    obtain ⟨c2, r2, m2, q1, q2, q3, q4, -⟩ := Cond.selects_spec (ht (w := .selects me_nse Bundle.tFill0 Bundle.tFill0) (by simp [me_nA, Bundle.ownAtoms]) (by decide +kernel))
    cases Option.some.inj (q1.symm.trans hfound)
    cases Option.some.inj (q2.symm.trans (State.methodFound?_of_named Y.fill0 (by decide)))
    cases Option.some.inj (q3.symm.trans Y.fill0)
    rw [Launch.admits_selectMethod X.admits]; exact q4
  have hselF : selectMethod e.platform s.vm P1.m.cls T.fill = .method T.fill := by
    obtain ⟨c2, r2, m2, q1, q2, q3, q4, -⟩ := Cond.selects_spec (ht (w := .selects me_nse Bundle.tFill Bundle.tFill) (by simp [me_nA, Bundle.ownAtoms]) (by decide +kernel))
    cases Option.some.inj (q1.symm.trans hfound)
    cases Option.some.inj (q2.symm.trans (State.methodFound?_of_named Y.fill (by decide)))
    cases Option.some.inj (q3.symm.trans Y.fill)
    rw [Launch.admits_selectMethod X.admits]; exact q4
  obtain ⟨cellS0, hcS0, hiss⟩ := Y.statics
  obtain ⟨u0, hu0⟩ := Cond.staticRefV Y.unassigned L.unassignedStatic L.statics hcS0 hiss (ht (w := .isRef (.static Bundle.tN "UNASSIGNED_STACK" Bundle.steD)) (by simp [me_nA, Bundle.ownAtoms]) (by decide +kernel))
  obtain ⟨sen, hsen⟩ := Cond.staticRefV Y.sentinel L.sentinelStatic L.statics hcS0 hiss (ht (w := .isRef (.static Bundle.tN "SUPPRESSED_SENTINEL" Bundle.listD)) (by simp [me_nA, Bundle.ownAtoms]) (by decide +kernel))
  obtain ⟨ci198, i198, fB, hk198, hg198, ha198, hsB, -, hnB, htB, hffB⟩ := Cond.ownField (t := .object "java/lang/Object") Y.found L.cls (by decide +kernel) (ht (w := .fieldLink Bundle.tN 198 Bundle.tN "backtrace" "Ljava/lang/Object;") (by simp [me_nA, Bundle.ownAtoms]) (by decide +kernel)) (ht (w := .lays Bundle.tN Bundle.tN "backtrace" "Ljava/lang/Object;") (by simp [me_nA, Bundle.ownAtoms]) (by decide +kernel)) e.platform hpl
  obtain ⟨cellS, hcS', heS, -, hkeep⟩ := X.same.2.2.2.2.2 T.aS cellS0 hcS0
  have hcellS : W.heap[T.aS]? = some cellS := hcS'
  have hout' : ∀ i, (⟨T.aS, i⟩ : Loc) ∉ locs := fun i hmem => by
    have := hlocs _ hmem cellS0 hcS0
    rw [hiss] at this; cases this
  have hknownS : cellS.vm ≠ .unknown := by
    rw [heS]; intro hu
    rw [show cellS0.vm = .unknown from hu] at hiss
    cases hiss
  have hneS : T.aS ≠ a := Nat.ne_of_lt (Nat.lt_of_lt_of_le (Array.getElem?_eq_some_iff.mp hcS0).1 hnew)
  obtain ⟨iM, hffM⟩ := Y.msg
  obtain ⟨tyC, dC, hdC, hdnC⟩ := Cond.laysAt hfound hk Y.cause (ht (w := .lays me_nse Bundle.tN "cause" "Ljava/lang/Throwable;") (by simp [me_nA, Bundle.ownAtoms]) (by decide +kernel))
  obtain ⟨tyS, dS, hdS, hdnS⟩ := Cond.laysAt hfound hk Y.stack (ht (w := .lays me_nse Bundle.tN "stackTrace" Bundle.steD) (by simp [me_nA, Bundle.ownAtoms]) (by decide +kernel))
  obtain ⟨tyP, dP, hdP, hdnP⟩ := Cond.laysAt hfound hk Y.supp (ht (w := .lays me_nse Bundle.tN "suppressedExceptions" Bundle.listD) (by simp [me_nA, Bundle.ownAtoms]) (by decide +kernel))
  obtain ⟨tyM, dM, hdM, hdnM⟩ := Cond.laysAt hfound hk hffM (ht (w := .lays me_nse Bundle.tN "detailMessage" "Ljava/lang/String;") (by simp [me_nA, Bundle.ownAtoms]) (by decide +kernel))
  obtain ⟨tyB, dB, hdB, hdnB⟩ := Cond.laysAt hfound hk hffB (ht (w := .lays me_nse Bundle.tN "backtrace" "Ljava/lang/Object;") (by simp [me_nA, Bundle.ownAtoms]) (by decide +kernel))
  have bC := Cond.laysApart hdB hdC hdnB hdnC (by rw [hnB, Y.causeName]; decide)
  have bS := Cond.laysApart hdB hdS hdnB hdnS (by rw [hnB, Y.stackName]; decide)
  have bP := Cond.laysApart hdB hdP hdnB hdnP (by rw [hnB, Y.suppName]; decide)
  have hskip : SkipFacts T e.platform s (fun u => u) u0 ((preparedCellV T.toThrowableT (freshCell P1.m.cls kX) a u0 sen).withEntry W.cur) :=
    ⟨{ ci198 := ci198, i198 := i198, fBack := fB }, ⟨hk198, hg198, ha198, hsB⟩, by
      have := fresh_default (c := P1.m.cls) tyB
      rw [htB] at this
      simpa [preparedCellV, Cell.setSlot, Cell.withEntry, Array.getElem?_setIfInBounds, bC, bS, bP, bC.symm, bS.symm, bP.symm, defaultValue] using this, fun _ _ => rfl⟩
  obtain ⟨tm, methC, cdC, kC, vm₁, hnC, -, -, -, -, -, -, -, hW₁, st1⟩ := Steps.initColdS (tb := p.tables) (e := e) (below := below) (s := s) (U := W) X.here hexec X.warmed hpl hown (t := Bundle.initS me_nse) rfl rfl (by decide +kernel)
    (ht (w := .methodLink own ic (Bundle.initS me_nse)) (by simp [me_nA, Bundle.ownAtoms]) (by simp [me_n7, ho])) (tl (w := .instanceMethod (Bundle.initS me_nse)) (by simp [me_nA, Bundle.ownAtoms, Bundle.chainSAtoms, Bundle.passSAtoms]) (by decide +kernel)) (bytes := prog_32_method_4_code) (maxL := 2) hcd
    (f := g) hg (a := a) (msg := msg) (rest := .ref a :: rest) hstack hd6
  cases Option.some.inj (hnC.symm.trans hP1m)
  have X₁ := X.noted hW₁
  have hl1 : (P2 :: Ps).length = 2 := by simp [hlen, me_nn]
  obtain ⟨vm₂, X₂, st2⟩ := X₁.ctorMessageOffV hexec (g := { g with stack := .ref a :: rest }) hg hsize T L Z LZ M LM (P1 :: P2 :: Ps)
    (fun P hP => by
      rcases List.mem_cons.mp hP with rfl | hP
      · exact L1
      · rcases List.mem_cons.mp hP with rfl | hP
        · exact L2
        · exact hL P hP) ⟨hlink1, hlink2, hlink⟩ (u0 := u0) (sen := sen) (self := a) hmsg (cell := freshCell P1.m.cls kX) (cellS := cellS)
    hcell (fun _ => by simp) (by simp) rfl rfl hsel0 hselF hcellS hneS hknownS (by rw [hkeep _ (hout' _)]; exact hu0) (by rw [hkeep _ (hout' _)]; exact hsen)
    (Takes.of_laid hk hord tyC (by rw [Y.causeType]; rfl)) (Takes.of_laid hk hord tyS (by rw [Y.stackType]; exact fits_refV_array _ u0)) (Takes.of_laid hk hord tyP (by rw [Y.suppType]; exact fits_refV_object _ sen))
    (Takes.of_laid hk hord tyM (by rw [Y.msgType]; exact fits_refV_object _ ⟨msg, hmsg⟩)) Y.objLocals hskip htr [] hd6
    (by rw [List.length_cons, hl1]; omega) (by rw [List.length_cons, hl1]; exact hRlocals)
  obtain ⟨hwalk, hrun, hended, hWU, hsame⟩ := X₂.athrowLeaves hexec (g := { g with stack := .ref a :: rest, pc := g.pc + 3 }) hg hlocked hentered hout (a := a) (rest := rest) rfl hd9 hlocks
  have hlt : a < ((W.setVm vm₁).setVm vm₂).heap.size := (Array.getElem?_eq_some_iff.mp hcell).1
  have hU := heapAt_setCell_self (s := (W.setVm vm₁).setVm vm₂) (plainBareV T.toThrowableT (freshCell P1.m.cls kX) a u0 sen msg) hlt
  refine ⟨_, st1 _ (fun acts => ?_), hrun, hended, hWU, hsame.weaken (fun y hy hlt' => ?_) (Nat.le_refl _) (Nat.le_refl _), _, hU, hfound, rfl⟩
  · rw [doInvoke_state]
    exact st2 _ hwalk
  · rcases List.mem_append.mp hy with h1 | h1
    · exact h1
    · exfalso
      have hb : y.base = a := by
        simp only [List.mem_cons, List.not_mem_nil, or_false] at h1
        rcases h1 with rfl | rfl | rfl | rfl | rfl <;> rfl
      rw [hb] at hlt'
      exact Nat.not_lt.mpr hnew hlt'
end MeNse
section MeNse2
variable {p : Program} {l : Launch} {e : Env} {R : Room} {s : State} {m : MethodId} {args : Array Value} {below : List Frame} {meth : Method} {c : Code} {H : Heap} {locs : List Loc} {cells slots : Nat} {Q : State → Prop}
variable {free : Addr → Prop} {ls : Array Slot} {rest : List Value} {Qc : Array Value → State → Outcome → State → Prop} {XC : String → State → State → Prop}
def me_nW (own : String) (ic : Nat) : List Cond := (me_nA own ic).filter (fun w => me_n7 w && vx_no w)
set_option maxHeartbeats 4000000 in
/-- 'throw new NoSuchElementException("text")' -/
theorem me_nse_throw {cc : ByteArray} {pc : Nat} (hexec : p.tables.exec = Jvm.exec) (hb : c.code = cc) (hl : l.stackTraces = false) {own text : String} {ik is ic mc ms sa k : Nat} {A : Nat → Prop} (ho : own ≠ me_nse)
    (hown : s.vm.findClass own = some m.cls)
    (hk : (Cond.classLink own ik me_nse).before args s = true) (hini : (Cond.initialized me_nse).before args s = true) (hstr : vk_R own is text sa s) (hat : ∀ w ∈ me_nW own ic, w.before args s = true) (hcd : (Cond.code (Bundle.initS me_nse) prog_32_method_4_code 2 none).before args s = true) (hlk : (Cond.methodLink me_nse 13 (Bundle.initS me_rte)).before args s = true)
    (hgood : ∀ w ∈ Cond.code (Bundle.initS me_nse) prog_32_method_4_code 2 none :: Cond.methodLink me_nse 13 (Bundle.initS me_rte) :: Cond.classLink own ik me_nse :: Cond.initialized me_nse :: me_nW own ic, vx_ot w = true)
    (hU : vx_Zq Bundle.tN "UNASSIGNED_STACK" Bundle.steD A s s.heap) (hN : vx_Zq Bundle.tN "SUPPRESSED_SENTINEL" Bundle.listD A s s.heap) (hS : va_S A s.heap H locs) (hsize : ls.size = c.maxLocals)
    (d0 : decode cc pc = .ok (.new ik, 3)) (d3 : decode cc (pc + 3) = .ok (.dup, 1)) (d4 : (decode cc (pc + 4) = .ok (.ldc is, 2) ∧ k = 2) ∨ (decode cc (pc + 4) = .ok (.ldc_w is, 3) ∧ k = 3)) (d6 : decode cc (pc + 4 + k) = .ok (.invokespecial ic, 3)) (d9 : decode cc (pc + 4 + k + 3) = .ok (.athrow, 1))
    (hout : ∀ x ∈ c.exceptionTable.toList, covers x (pc + 4 + k + 3) = false)
    (hRframes : 5 < R.frames) (hRlocals : (rest.map fun v => v.category).sum + 82 ≤ R.locals) (hRcells : cells + 1 ≤ R.cells) (hRslots : slots + 6 ≤ R.slots) (hlocks : meth.locks = false)
    (hx : ∀ t : State, s.vm.Alike t.vm → H.size ≤ t.heap.size → (∀ q : Nat, q < H.size → t.heap[q]? = H[q]?) → XC me_nse s t)
    (hf : ∀ z ∈ locs, free z.base) (hc : cells + 1 ≤ mc) (hs : slots + 6 ≤ ms) :
    W p l e R s m args below meth c H locs cells slots (vx_MQ below Qc XC args s mc ms free) (F0 m pc ls rest) := by
  intro T hT X
  have htr : e.platform.stackTraces = false := (show e.platform.stackTraces = l.stackTraces by rw [X.admits.platform]).trans hl
  have Y := vx_rebase X (R' := { frames := R.frames, locals := R.locals, cells := 1, slots := 6 }) (Nat.le_refl _) (Nat.le_refl _) hRcells hRslots
  obtain ⟨s', hA⟩ : ∃ z, z = (T.setVm s.vm).setFrames (.invoking m args :: below) := ⟨_, rfl⟩
  rw [← hA] at Y
  have hvm : s'.vm = s.vm := by rw [hA]; rfl
  have hhp : s'.heap = H := by rw [hA]; exact hT
  have hW0 : s.WarmedH s'.vm := by rw [hvm]; exact State.WarmedH.refl s
  have g4 : ∀ w ∈ me_nW own ic, vx_ot w = true := fun w hw => hgood w (List.mem_cons_of_mem _ (List.mem_cons_of_mem _ (List.mem_cons_of_mem _ (List.mem_cons_of_mem _ hw))))
  have hat' : ∀ w ∈ me_nW own ic, w.before args s' = true := fun w hw => vx_ot_at hW0 hvm.symm (g4 w hw) (hat w hw)
  have hcd' : (Cond.code (Bundle.initS me_nse) prog_32_method_4_code 2 none).before args s' = true := vx_ot_at hW0 hvm.symm (hgood _ List.mem_cons_self) hcd
  have hlk' : (Cond.methodLink me_nse 13 (Bundle.initS me_rte)).before args s' = true := vx_ot_at hW0 hvm.symm (hgood _ (List.mem_cons_of_mem _ List.mem_cons_self)) hlk
  have hk' : (Cond.classLink own ik me_nse).before args s' = true := vx_ot_at hW0 hvm.symm (hgood _ (List.mem_cons_of_mem _ (List.mem_cons_of_mem _ List.mem_cons_self))) hk
  have hini' : (Cond.initialized me_nse).before args s' = true := vx_ot_at hW0 hvm.symm (hgood _ (List.mem_cons_of_mem _ (List.mem_cons_of_mem _ (List.mem_cons_of_mem _ List.mem_cons_self)))) hini
  have hU' : vx_Zq Bundle.tN "UNASSIGNED_STACK" Bundle.steD A s' s'.heap := by rw [hhp]; exact vx_Zq.moved hW0.alike (hU.kept hS.2.1)
  have hN' : vx_Zq Bundle.tN "SUPPRESSED_SENTINEL" Bundle.listD A s' s'.heap := by rw [hhp]; exact vx_Zq.moved hW0.alike (hN.kept hS.2.1)
  have h : ∀ w ∈ (me_nA own ic).filter me_n7, w.before args s' = true := vx_own (fun w hw => hat' w (by
    obtain ⟨h1, h2⟩ := List.mem_filter.mp hw
    obtain ⟨h3, h4⟩ := List.mem_filter.mp h1
    exact List.mem_filter.mpr ⟨h3, by rw [h4, h2]; rfl⟩)) (vx_isRefq hU'.1) (vx_isRefq hN'.1) hU'.2.word hN'.2.word
  have hown' : s'.vm.findClass own = some m.cls := by rw [hvm]; exact hown
  have hins : (Cond.instantiable me_nse 6).before args s' = true := h _ (List.mem_filter.mpr ⟨by simp [me_nA, Bundle.ownAtoms], by decide +kernel⟩)
  obtain ⟨vm₁, cX, kX, hfX, hkX, -, -, X₁, st1⟩ := Y.newCold hexec (own := own) (C := me_nse) (index := ik) (n := 6) hown' hk' hins hini'
    (g := F0 m pc ls rest) rfl (by rw [hb]; exact d0) (Nat.le_refl _) (Nat.le_refl _)
  generalize hT1 : (T.setVm vm₁).pushCell { cls := cX, slots := kX.instanceTypes.map defaultValue, vm := .none } = T1 at X₁ st1
  have hcat : (Value.ref T.heap.size).category = 1 := rfl
  have hcellA : T1.heap[T.heap.size]? = some (freshCell cX kX) := by rw [← hT1]; exact State.heap_pushCell_size _ _
  have d3' : decode c.code (pc + 3) = .ok (.dup, 1) := by rw [hb]; exact d3
  have hstr' : vk_R own is text sa s' := vk_R.warm hW0 hstr
  obtain ⟨U, hsteps, hrun, hend, hW, hsame, ce, hce, hcc, hcv⟩ := me_nse_ctor X₁ hexec htr (own := own) (ic := ic) ho hown' (fun w hw hn => h w (List.mem_filter.mpr ⟨hw, hn⟩)) hcd' hlk' (fun x hx => nomatch hx) hfX hkX hcellA (by rw [hhp, hT]; exact Nat.le_refl _) (msg := .ref sa) rfl
    (g := { method := m, pc := pc + 4 + k, locals := ls, stack := .ref sa :: .ref T.heap.size :: .ref T.heap.size :: rest, locked := none }) rfl hsize rfl rfl (rest := rest) rfl
    (by rw [hb]; exact d6) (by rw [hb]; exact d9) hout hRframes (by simp only [List.map_cons, List.sum_cons, hcat]; omega) hlocks
  obtain ⟨f1, f2⟩ := vx_frame hsame
  rw [hhp] at f1 f2
  have hWs : s.WarmedH U.vm := State.WarmedH.trans hW0 hW
  rw [hvm] at hcc
  have hall : s.sameButNew ({ U with vm := s.vm } : State) locs mc ms := by
    subst hA
    obtain ⟨e1, e2⟩ := hsame
    rw [State.setFrames_setFrames] at e1
    have h2 : (T.setVm s.vm).sameButNew ({ U with vm := s.vm } : State) [] (0 + 1) (0 + 6) := ⟨e1, e2⟩
    have h3 := X.same.trans h2
    rw [List.append_nil] at h3
    exact h3.mono hc hs
  refine ⟨U, ?_, .threw T.heap.size, hrun, hend, Or.inr ⟨T.heap.size, rfl, me_nse, ce, locs, hx U hWs.alike f1 (fun q hq => f2 q hq (fun z hz => nomatch hz)), hce, hcv, hcc, hWs, hall, hf⟩⟩
  refine st1 _ ?_
  show Steps p.tables e below (T1.setTop { method := m, pc := pc + 3, locals := ls, stack := .ref T.heap.size :: rest, locked := none }) _
  jvm_step X₁.here [X₁.here.top, hexec, d3', Value.category]
  rcases d4 with ⟨d4, rfl⟩ | ⟨d4, rfl⟩
  · have d4' : decode c.code (pc + 4) = .ok (.ldc is, 2) := by rw [hb]; exact d4
    exact X₁.ldcString hexec (own := own) (text := text) (index := is) (a := sa) hown' hstr'.1 hstr'.2
      (g := { method := m, pc := pc + 4, locals := ls, stack := .ref T.heap.size :: .ref T.heap.size :: rest, locked := none }) rfl d4' _ hsteps
  · have d4' : decode c.code (pc + 4) = .ok (.ldc_w is, 3) := by rw [hb]; exact d4
    exact X₁.ldcStringW hexec (own := own) (text := text) (index := is) (a := sa) hown' hstr'.1 hstr'.2
      (g := { method := m, pc := pc + 4, locals := ls, stack := .ref T.heap.size :: .ref T.heap.size :: rest, locked := none }) rfl d4' _ hsteps
end MeNse2
section MeThrowW
variable {X : me_X} {own : String} {cc : ByteArray} {nL : Nat} {ret : Option FieldType} {B B0 : me_B} {nc ns : Nat} {μ : me_M} {pc : Nat} {L : List (Nat × me_V)} {st : List me_V} {sz fr lo mc ms : Nat} {out : me_O}
theorem me_throwW (C : me_C X B own cc nL ret) (N : me_En X B0 sz out fr lo mc ms) (hNx : me_Nx X) (k : Nat) {ik is ic : Nat} {text : String} (hk : Cond.classLink own ik (me_ex k) ∈ me_gw) (hini : Cond.initialized (me_ex k) ∈ me_gw) (hstr : (own, is, text) ∈ me_strs) (hat : me_TW own ic (me_ex k)) (hfit : Bundle.fit (me_ex k) = true)
    (d0 : decode cc pc = .ok (.new ik, 3)) (d3 : decode cc (pc + 3) = .ok (.dup, 1)) (d4 : decode cc (pc + 4) = .ok (.ldc_w is, 3)) (d6 : decode cc (pc + 7) = .ok (.invokespecial ic, 3)) (d9 : decode cc (pc + 10) = .ok (.athrow, 1))
    (hR : 6 ≤ fr ∧ 90 ≤ lo) (hw : me_wd st ≤ 8) (hc : nc + 1 ≤ mc ∧ ns + 6 ≤ ms) (ho : out = (B, μ, .error k)) : me_Z X B nc ns μ pc L st := by
  obtain ⟨p, l, e, R, s, m, args, below, meth, c, Q, E, A0, nL'⟩ := X
  obtain ⟨hx, hb, hml, rfl, hown, hts, hK, hlocks, hret, hnt, hF, hNS, hfresh⟩ := C
  obtain ⟨rfl, rfl, hsz, hRc, hRs, hRf, hRl⟩ := N
  intro H locs ls hW hS hl hL hst hJ hA
  obtain ⟨sa, hsa⟩ := hNS.2.1 _ hstr
  refine vx_throwSW hx hb hnt (own := own) (cls := me_ex k) (text := text) (names := me_RE) (ik := ik) (is := is) (ic := ic) (sa := sa) (A := me_F B0 sz) hown hfit (by decide +kernel) (hts _ hk) (hts _ hini) hsa (fun w hw => ?_) (fun w hw => ?_) hF.1 hF.2.1 hS (hl.1.trans hml.symm) d0 d3 d4 d6 d9 (fun x hx => (hNx x hx).elim) ?_ ?_ (by omega) (by omega) hlocks (fun t hal hsz1 hkeep => ?_) (fun z hz => hS.2.2 z hz) (by omega) (by omega)
  · rcases hat w hw with h | h
    · exact hts _ h
    · exact va_Nw.use (me_bad_onT (List.mem_filter.mp h).2) (hNS.1 w h)
  · unfold vx_ot
    rw [Bool.or_eq_true]
    rcases List.mem_cons.mp hw with rfl | hw
    · exact Or.inr (List.mem_filter.mp hk).2
    · rcases List.mem_cons.mp hw with rfl | hw
      · exact Or.inr (List.mem_filter.mp hini).2
      · rcases hat w hw with h | h
        · exact Or.inr (List.mem_filter.mp h).2
        · exact Or.inl (me_bad_onT (List.mem_filter.mp h).2)
  · show 2 + 3 < R.frames
    omega
  · rw [me_wd_cat]
    show _ + 82 ≤ _
    omega
  · subst ho
    refine ⟨k, rfl, rfl, fun k' hk' i hi => ?_, Nat.le_trans hS.1 hsz1, fun q h1 h2 => ?_⟩
    · have h := hW k' hk' i hi
      exact h.kept (hkeep _ h.lt)
    · rw [hkeep q (Nat.lt_of_lt_of_le h1 hS.1)]
      exact hS.2.1 q h1 h2
theorem me_nse_cd : Cond.code (Bundle.initS me_nse) prog_32_method_4_code 2 none ∈ me_gw := me_gm 631 (by decide +kernel) (by decide +kernel)
theorem me_nse_lk : Cond.methodLink me_nse 13 (Bundle.initS me_rte) ∈ me_gw := me_gm 632 (by decide +kernel) (by decide +kernel)
def me_TN (own : String) (ic : Nat) : Prop := own ≠ me_nse ∧ ∀ w ∈ me_nW own ic, w ∈ me_gw ∨ w ∈ me_bw
theorem me_tn {own : String} {ic : Nat} (ps : List Nat) (ho : own ≠ me_nse) (hp : me_nW own ic = ps.filterMap (fun i => lw_tbl[i]?)) (h : (me_nW own ic).all (fun w => goodWord w || me_bad w) = true) : me_TN own ic := by
  refine ⟨ho, fun w hw => ?_⟩
  have h1 := List.all_eq_true.mp h w hw
  rw [hp] at hw
  obtain ⟨i, -, hi⟩ := List.mem_filterMap.mp hw
  rcases Bool.or_eq_true_iff.mp h1 with h1 | h1
  · exact Or.inl (me_gm i hi h1)
  · exact Or.inr (me_bm i hi h1)
theorem me_throwN0 (C : me_C X B own cc nL ret) (N : me_En X B0 sz out fr lo mc ms) (hNx : me_Nx X) {ik is ic k : Nat} {text : String} (hk : Cond.classLink own ik me_nse ∈ me_gw) (hini : Cond.initialized me_nse ∈ me_gw) (hstr : (own, is, text) ∈ me_strs) (hat : me_TN own ic)
    (d0 : decode cc pc = .ok (.new ik, 3)) (d3 : decode cc (pc + 3) = .ok (.dup, 1)) (d4 : (decode cc (pc + 4) = .ok (.ldc is, 2) ∧ k = 2) ∨ (decode cc (pc + 4) = .ok (.ldc_w is, 3) ∧ k = 3)) (d6 : decode cc (pc + 4 + k) = .ok (.invokespecial ic, 3)) (d9 : decode cc (pc + 4 + k + 3) = .ok (.athrow, 1))
    (hR : 6 ≤ fr ∧ 90 ≤ lo) (hw : me_wd st ≤ 8) (hc : nc + 1 ≤ mc ∧ ns + 6 ≤ ms) (ho : out = (B, μ, .error 5)) : me_Z X B nc ns μ pc L st := by
  obtain ⟨p, l, e, R, s, m, args, below, meth, c, Q, E, A0, nL'⟩ := X
  obtain ⟨hx, hb, hml, rfl, hown, hts, hK, hlocks, hret, hnt, hF, hNS, hfresh⟩ := C
  obtain ⟨rfl, rfl, hsz, hRc, hRs, hRf, hRl⟩ := N
  intro H locs ls hW hS hl hL hst hJ hA
  obtain ⟨sa, hsa⟩ := hNS.2.1 _ hstr
  refine me_nse_throw hx hb hnt (own := own) (text := text) (ik := ik) (is := is) (ic := ic) (sa := sa) (k := k) (A := me_F B0 sz) hat.1 hown (hts _ hk) (hts _ hini) hsa (fun w hw => ?_) (hts _ me_nse_cd) (hts _ me_nse_lk) (fun w hw => ?_) hF.1 hF.2.1 hS (hl.1.trans hml.symm) d0 d3 d4 d6 d9 (fun x hx => (hNx x hx).elim) ?_ ?_ (by omega) (by omega) hlocks (fun t hal hsz1 hkeep => ?_) (fun z hz => hS.2.2 z hz) (by omega) (by omega)
  · rcases hat.2 w hw with h | h
    · exact hts _ h
    · exact va_Nw.use (me_bad_onT (List.mem_filter.mp h).2) (hNS.1 w h)
  · unfold vx_ot
    rw [Bool.or_eq_true]
    have hg : ∀ {w : Cond}, w ∈ me_gw → w.onTables = true ∨ goodWord w = true := fun h => Or.inr (List.mem_filter.mp h).2
    rcases List.mem_cons.mp hw with rfl | hw
    · exact hg me_nse_cd
    rcases List.mem_cons.mp hw with rfl | hw
    · exact hg me_nse_lk
    rcases List.mem_cons.mp hw with rfl | hw
    · exact hg hk
    rcases List.mem_cons.mp hw with rfl | hw
    · exact hg hini
    rcases hat.2 w hw with h | h
    · exact hg h
    · exact Or.inl (me_bad_onT (List.mem_filter.mp h).2)
  · omega
  · rw [me_wd_cat]
    omega
  · subst ho
    refine ⟨5, rfl, rfl, fun k' hk' i hi => ?_, Nat.le_trans hS.1 hsz1, fun q h1 h2 => ?_⟩
    · have h := hW k' hk' i hi
      exact h.kept (hkeep _ h.lt)
    · rw [hkeep q (Nat.lt_of_lt_of_le h1 hS.1)]
      exact hS.2.1 q h1 h2
theorem me_throwN (C : me_C X B own cc nL ret) (N : me_En X B0 sz out fr lo mc ms) (hNx : me_Nx X) (k : Nat) {ik is ic : Nat} {text : String} (hk : Cond.classLink own ik (me_ex k) ∈ me_gw) (hini : Cond.initialized (me_ex k) ∈ me_gw) (hstr : (own, is, text) ∈ me_strs) (hat : me_TN own ic) (hk5 : k = 5)
    (d0 : decode cc pc = .ok (.new ik, 3)) (d3 : decode cc (pc + 3) = .ok (.dup, 1)) (d4 : decode cc (pc + 4) = .ok (.ldc is, 2)) (d6 : decode cc (pc + 6) = .ok (.invokespecial ic, 3)) (d9 : decode cc (pc + 9) = .ok (.athrow, 1))
    (hR : 6 ≤ fr ∧ 90 ≤ lo) (hw : me_wd st ≤ 8) (hc : nc + 1 ≤ mc ∧ ns + 6 ≤ ms) (ho : out = (B, μ, .error k)) : me_Z X B nc ns μ pc L st := by
  subst hk5
  exact me_throwN0 C N hNx (k := 2) hk hini hstr hat d0 d3 (Or.inl ⟨d4, rfl⟩) d6 d9 hR hw hc ho
theorem me_throwNW (C : me_C X B own cc nL ret) (N : me_En X B0 sz out fr lo mc ms) (hNx : me_Nx X) (k : Nat) {ik is ic : Nat} {text : String} (hk : Cond.classLink own ik (me_ex k) ∈ me_gw) (hini : Cond.initialized (me_ex k) ∈ me_gw) (hstr : (own, is, text) ∈ me_strs) (hat : me_TN own ic) (hk5 : k = 5)
    (d0 : decode cc pc = .ok (.new ik, 3)) (d3 : decode cc (pc + 3) = .ok (.dup, 1)) (d4 : decode cc (pc + 4) = .ok (.ldc_w is, 3)) (d6 : decode cc (pc + 7) = .ok (.invokespecial ic, 3)) (d9 : decode cc (pc + 10) = .ok (.athrow, 1))
    (hR : 6 ≤ fr ∧ 90 ≤ lo) (hw : me_wd st ≤ 8) (hc : nc + 1 ≤ mc ∧ ns + 6 ≤ ms) (ho : out = (B, μ, .error k)) : me_Z X B nc ns μ pc L st := by
  subst hk5
  exact me_throwN0 C N hNx (k := 3) hk hini hstr hat d0 d3 (Or.inr ⟨d4, rfl⟩) d6 d9 hR hw hc ho
end MeThrowW
theorem me_cat1 {v : Value} (h : v = .null ∨ ∃ q, v = .ref q) : (v.category == 2) = false := by
  rcases h with rfl | ⟨q, rfl⟩ <;> rfl
