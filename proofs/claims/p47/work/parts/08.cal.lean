/-! CONTRACTS over the world: what a method answers, what it leaves -/
abbrev me_O : Type := me_B × me_M × Except Nat (Option me_V)
def me_ex : Nat → String
  | 1 => "java/lang/IndexOutOfBoundsException"
  | 2 => "java/lang/IllegalArgumentException"
  | 3 => "java/lang/IllegalStateException"
  | 4 => "java/lang/UnsupportedOperationException"
  | _ => "java/util/NoSuchElementException"
def me_P (E : me_G) (B : me_B) (μ : me_M) (sz : Nat) (As : List me_V) : Array Value → State → Prop := fun v U => v = (As.map (me_cv B)).toArray ∧ U.heap.size = sz ∧ me_W E B μ U.heap ∧ me_J B ∧ (∀ v ∈ As, me_ok B v) ∧ va_K E.1 vwCl (me_ty E.2) U ∧ me_SF B (me_F B sz) U U.heap ∧ me_NS B U
def me_Q (E : me_G) (B : me_B) (sz : Nat) (out : me_O) : Array Value → State → Outcome → State → Prop := fun _ st oc t => ∃ rv : Option me_V, out.2.2 = .ok rv ∧ oc = .returned (rv.map (me_cv out.1)) ∧ (∀ v, rv = some v → me_ok out.1 v) ∧ me_W E out.1 out.2.1 t.heap ∧ va_F (me_F B sz) st t
def me_XQ (E : me_G) (B : me_B) (sz : Nat) (out : me_O) : String → State → State → Prop := fun n st t => ∃ k : Nat, out.2.2 = .error k ∧ me_ex k = n ∧ me_W E out.1 out.2.1 t.heap ∧ va_F (me_F B sz) st t
def me_Met (l : Launch) (y : MethodName) (cc : ByteArray) (maxL : Nat) (ret : Option FieldType) (fr lo mc ms : Nat) (E : me_G) (B : me_B) (μ : me_M) (sz : Nat) (As : List me_V) (out : me_O) : Prop :=
  vx_Met l y (.code y cc maxL ret :: me_gw) { frames := fr, cells := mc, slots := ms, locals := lo } (me_P E B μ sz As) (me_Q E B sz out) (me_XQ E B sz out) mc ms (me_F B sz)
theorem me_P.blind {E : me_G} {B : me_B} {μ : me_M} {sz : Nat} {As : List me_V} : FrameBlind (me_P E B μ sz As) := by
  intro a U g mk h
  obtain ⟨h1, h2, h3, h4, h5, h6, h7, h8⟩ := h
  exact ⟨h1, h2, h3, h4, h5, va_K.moved (u := U) (U := U.calling g mk a) (Vm.Alike.refl U.vm) h6, h7.moved (Vm.Alike.refl U.vm), h8.calling⟩
/-- how a method's walk must end, and its room -/
def me_En (X : me_X) (B : me_B) (sz : Nat) (out : me_O) (fr lo mc ms : Nat) : Prop :=
  match X with
  | (_, _, _, R, s, _, args, below, _, _, Q, E, A0, _) => Q = vx_MQ below (me_Q E B sz out) (me_XQ E B sz out) args s mc ms (me_F B sz) ∧ A0 = me_F B sz ∧ s.heap.size = sz ∧ mc ≤ R.cells ∧ ms ≤ R.slots ∧ fr ≤ R.frames ∧ lo ≤ R.locals
def me_Nx (X : me_X) : Prop :=
  match X with
  | (_, _, _, _, _, _, _, _, _, c, _, _, _, _) => ∀ x ∈ c.exceptionTable.toList, False
/-- an exception goes through this frame -/
def me_ZX (X : me_X) (B : me_B) (nc ns : Nat) (μ : me_M) (pc : Nat) (L : List (Nat × me_V)) (k : Nat) : Prop :=
  match X with
  | (p, l, e, R, s, m, args, below, meth, c, Q, E, A0, nL) =>
    ∀ (H : Heap) (locs : List Loc) (ls : Array Slot) (q : Addr) (ce : Cell) (rest : List Value), me_W E B μ H → va_S A0 s.heap H locs → lv_has ls nL (me_ls B L) → (∀ q ∈ L, me_ok B q.2) → me_J B → (∀ q, me_A B q → A0 q) →
      H[q]? = some ce → ce.vm = .none → s.vm.findClass (me_ex k) = some ce.cls → vx_W p l e R s m args below meth c H locs nc ns Q (F0 m pc ls rest) q
def me_al : Nat → List me_V → List (Nat × me_V)
  | _, [] => []
  | i, v :: vs => (i, v) :: me_al (if me_c2 v = true then i + 2 else i + 1) vs
theorem me_al_ls {B : me_B} : ∀ (As : List me_V) (i : Nat), lv_args i (As.map (me_cv B)) = me_ls B (me_al i As)
  | [], _ => rfl
  | v :: vs, i => by
    have e : (if (me_cv B v).category = 2 then i + 2 else i + 1) = if me_c2 v = true then i + 2 else i + 1 := by
      rcases v with v | q
      · show (if v.category = 2 then i + 2 else i + 1) = if (v.category == 2) = true then i + 2 else i + 1
        by_cases h : v.category = 2 <;> simp [h]
      · rfl
    show (i, me_cv B v) :: lv_args _ _ = (i, me_cv B v) :: me_ls B _
    rw [e, me_al_ls vs]
theorem me_al_ok {B : me_B} : ∀ (As : List me_V) (i : Nat), (∀ v ∈ As, me_ok B v) → ∀ q ∈ me_al i As, me_ok B q.2
  | [], _, _, q, hq => by cases hq
  | v :: vs, i, h, q, hq => by
    rcases List.mem_cons.mp hq with rfl | hq
    · exact h v List.mem_cons_self
    · exact me_al_ok vs _ (fun w hw => h w (List.mem_cons_of_mem _ hw)) q hq
/-- the words that a slot row of these values takes -/
def me_wd (As : List me_V) : Nat := (As.map (fun v => if me_c2 v = true then 2 else 1)).sum
theorem me_wd_sl {B : me_B} : ∀ (As : List me_V), (lg_sl (As.map (me_cv B))).length = me_wd As
  | [] => rfl
  | v :: vs => by
    have h := me_wd_sl (B := B) vs
    unfold lg_sl me_wd at h ⊢
    simp only [List.map_cons, List.flatMap_cons, List.length_append, List.sum_cons] at h ⊢
    rw [h]
    congr 1
    rcases v with v | q
    · show (if v.category = 2 then [Slot.val v, Slot.second] else [Slot.val v]).length = if (v.category == 2) = true then 2 else 1
      by_cases e : v.category = 2 <;> simp [e]
    · rfl
theorem me_wd_cat {B : me_B} : ∀ (As : List me_V), ((As.map (me_cv B)).map (fun v => v.category)).sum = me_wd As
  | [] => rfl
  | v :: vs => by
    have h := me_wd_cat (B := B) vs
    unfold me_wd at h ⊢
    simp only [List.map_cons, List.sum_cons] at h ⊢
    rw [h]
    congr 1
    rcases v with v | q
    · show v.category = if (v.category == 2) = true then 2 else 1
      cases v <;> rfl
    · rfl
/-- A CONTRACT out of a walk -/
theorem me_ofZ {l : Launch} {y : MethodName} {cc : ByteArray} {maxL : Nat} {ret : Option FieldType} {fr lo mc ms : Nat} {E : me_G} {B : me_B} {μ : me_M} {sz : Nat} {As : List me_V} {out : me_O} (hl : l.stackTraces = false)
    (hy : plainName y.cls = true) (hd : me_wd As ≤ maxL)
    (k : ∀ X : me_X, me_C X B y.cls cc maxL ret → me_En X B sz out fr lo mc ms → me_Nx X → me_Z X B 0 0 μ 0 (me_al 0 As) []) : me_Met l y cc maxL ret fr lo mc ms E B μ sz As out := by
  refine vx_ofW (cc := cc) (maxL := maxL) (ret := ret) hy rfl ?_
  intro p e s m args below meth c s₁ Bd hml hx hv
  obtain ⟨rfl, hsz, hW, hJ, hok, hK, hF, hNS⟩ := hv
  have hown : s.vm.findClass y.cls = some m.cls := findClass_of_methodNamed Bd.named
  have hts0 : ∀ c ∈ (Jvm.Cond.code y cc maxL ret :: me_gw), c.before (As.map (me_cv B)).toArray s = true := atoms_spec (ws := Jvm.Cond.code y cc maxL ret :: me_gw) Bd.pre
  have hts : ∀ w ∈ me_gw, w.before (As.map (me_cv B)).toArray s = true := fun w hw => hts0 w (List.mem_cons_of_mem _ hw)
  rw [lg_entry_eq]
  have hl0 := lv_entry (As.map (me_cv B)) (n := maxL) (by rw [me_wd_sl]; exact hd)
  generalize (lg_sl (As.map (me_cv B)) ++ List.replicate (maxL - (lg_sl (As.map (me_cv B))).length) Slot.unset).toArray = ls at hl0 ⊢
  rw [me_al_ls] at hl0
  subst hsz
  exact k (p, l, e, _, s, m, _, below, meth, c, _, E, me_F B s.heap.size, maxL) ⟨Bd.exec, Bd.bytes, hml, rfl, hown, hts, hK, Bd.notSynchronized, Bd.returns, hl, hF, hNS, fun q hq => Or.inr hq⟩ ⟨rfl, rfl, rfl, Nat.le_refl _, Nat.le_refl _, Nat.le_refl _, Nat.le_refl _⟩ hx
    s.heap [] ls hW va_S.rf hl0 (me_al_ok As 0 hok) (fun v hv => by cases hv) hJ (fun q hq => Or.inl hq)
section MeEnds
variable {X : me_X} {own : String} {cc : ByteArray} {nL : Nat} {ret : Option FieldType} {B B0 : me_B} {nc ns : Nat} {μ : me_M} {pc : Nat} {L : List (Nat × me_V)} {st : List me_V} {sz fr lo mc ms : Nat} {out : me_O}
theorem me_Qof {E : me_G} {rv : Option me_V} {H : Heap} {s : State} {locs : List Loc} {args : Array Value} (ho : out = (B, μ, .ok rv)) (hv : ∀ v, rv = some v → me_ok B v) (hW : me_W E B μ H) (hS : va_S (me_F B0 sz) s.heap H locs) :
    ∀ t : State, t.heap = H → s.WarmedH t.vm → me_Q E B0 sz out args s (.returned (rv.map (me_cv B))) t := by
  intro t ht _
  subst ho
  exact ⟨rv, rfl, rfl, hv, by rw [ht]; exact hW, va_S.F hS ht⟩
theorem me_iret {ty0 : FieldType} (C : me_C X B own cc nL (some ty0)) (N : me_En X B0 sz out fr lo mc ms) {v : Int32} (hdg : decode cc pc = .ok (.ireturn, 1)) (hn : me_nr ty0 v = true) (ho : out = (B, μ, .ok (some (me_i v)))) (hc : nc ≤ mc) (hs : ns ≤ ms) : me_Z X B nc ns μ pc L [me_i v] := by
  obtain ⟨p, l, e, R, s, m, args, below, meth, c, Q, E, A0, nL'⟩ := X
  obtain ⟨hx, hb, hml, rfl, hown, hts, hK, hlocks, hret, hnt, hF, hNS, hfresh⟩ := C
  obtain ⟨rfl, rfl, hsz, hRc, hRs, hRf, hRl⟩ := N
  intro H locs ls hW hS hl hL hst hJ hA
  unfold me_nr at hn
  rw [Bool.and_eq_true, decide_eq_true_eq] at hn
  exact W.widen hc hs (vx_ret (W.zret hx hb hret hn.1 (me_Qof (rv := some (me_i v)) ho (fun w hw => by cases hw; trivial) hW hS) (fun q hq => hS.2.2 q hq) hdg hlocks))
theorem me_vret (C : me_C X B own cc nL none) (N : me_En X B0 sz out fr lo mc ms) (hdg : decode cc pc = .ok (.return_, 1)) (ho : out = (B, μ, .ok none)) (hc : nc ≤ mc) (hs : ns ≤ ms) : me_Z X B nc ns μ pc L [] := by
  obtain ⟨p, l, e, R, s, m, args, below, meth, c, Q, E, A0, nL'⟩ := X
  obtain ⟨hx, hb, hml, rfl, hown, hts, hK, hlocks, hret, hnt, hF, hNS, hfresh⟩ := C
  obtain ⟨rfl, rfl, hsz, hRc, hRs, hRf, hRl⟩ := N
  intro H locs ls hW hS hl hL hst hJ hA
  exact W.widen hc hs (vx_ret (W.vret hx hb hret (me_Qof (rv := none) ho (fun w hw => by cases hw) hW hS) (fun q hq => hS.2.2 q hq) hdg hlocks))
theorem me_aret {cn : String} (C : me_C X B own cc nL (some (.object cn))) (N : me_En X B0 sz out fr lo mc ms) {v : me_V} (hv : v = me_n ∨ ∃ q, v = .inr q) (hdg : decode cc pc = .ok (.areturn, 1)) (ho : out = (B, μ, .ok (some v))) (hc : nc ≤ mc) (hs : ns ≤ ms) : me_Z X B nc ns μ pc L [v] := by
  obtain ⟨p, l, e, R, s, m, args, below, meth, c, Q, E, A0, nL'⟩ := X
  obtain ⟨hx, hb, hml, rfl, hown, hts, hK, hlocks, hret, hnt, hF, hNS, hfresh⟩ := C
  obtain ⟨rfl, rfl, hsz, hRc, hRs, hRf, hRl⟩ := N
  intro H locs ls hW hS hl hL hst hJ hA
  refine W.widen hc hs (vx_ret (W.aret hx hb hret (Or.inl ⟨cn, rfl⟩) ?_ (me_Qof (rv := some v) ho (fun w hw => by cases hw; exact hst _ List.mem_cons_self) hW hS) (fun q hq => hS.2.2 q hq) hdg hlocks))
  rcases hv with rfl | ⟨q, rfl⟩
  · exact Or.inl rfl
  · exact Or.inr ⟨_, rfl⟩
theorem me_lret (C : me_C X B own cc nL (some .long)) (N : me_En X B0 sz out fr lo mc ms) {v : Int64} (hdg : decode cc pc = .ok (.lreturn, 1)) (ho : out = (B, μ, .ok (some (me_l v)))) (hc : nc ≤ mc) (hs : ns ≤ ms) : me_Z X B nc ns μ pc L [me_l v] := by
  obtain ⟨p, l, e, R, s, m, args, below, meth, c, Q, E, A0, nL'⟩ := X
  obtain ⟨hx, hb, hml, rfl, hown, hts, hK, hlocks, hret, hnt, hF, hNS, hfresh⟩ := C
  obtain ⟨rfl, rfl, hsz, hRc, hRs, hRf, hRl⟩ := N
  intro H locs ls hW hS hl hL hst hJ hA
  exact W.widen hc hs (vx_ret (W.lret hx hb hret (me_Qof (rv := some (me_l v)) ho (fun w hw => by cases hw; trivial) hW hS) (fun q hq => hS.2.2 q hq) hdg hlocks))
theorem me_fret (C : me_C X B own cc nL (some .float)) (N : me_En X B0 sz out fr lo mc ms) {v : UInt32} (hdg : decode cc pc = .ok (.freturn, 1)) (ho : out = (B, μ, .ok (some (me_f v)))) (hc : nc ≤ mc) (hs : ns ≤ ms) : me_Z X B nc ns μ pc L [me_f v] := by
  obtain ⟨p, l, e, R, s, m, args, below, meth, c, Q, E, A0, nL'⟩ := X
  obtain ⟨hx, hb, hml, rfl, hown, hts, hK, hlocks, hret, hnt, hF, hNS, hfresh⟩ := C
  obtain ⟨rfl, rfl, hsz, hRc, hRs, hRf, hRl⟩ := N
  intro H locs ls hW hS hl hL hst hJ hA
  exact W.widen hc hs (vx_ret (W.fret hx hb hret (me_Qof (rv := some (me_f v)) ho (fun w hw => by cases hw; trivial) hW hS) (fun q hq => hS.2.2 q hq) hdg hlocks))
theorem me_dret (C : me_C X B own cc nL (some .double)) (N : me_En X B0 sz out fr lo mc ms) {v : UInt64} (hdg : decode cc pc = .ok (.dreturn, 1)) (ho : out = (B, μ, .ok (some (me_d v)))) (hc : nc ≤ mc) (hs : ns ≤ ms) : me_Z X B nc ns μ pc L [me_d v] := by
  obtain ⟨p, l, e, R, s, m, args, below, meth, c, Q, E, A0, nL'⟩ := X
  obtain ⟨hx, hb, hml, rfl, hown, hts, hK, hlocks, hret, hnt, hF, hNS, hfresh⟩ := C
  obtain ⟨rfl, rfl, hsz, hRc, hRs, hRf, hRl⟩ := N
  intro H locs ls hW hS hl hL hst hJ hA
  exact W.widen hc hs (vx_ret (W.dret hx hb hret (me_Qof (rv := some (me_d v)) ho (fun w hw => by cases hw; trivial) hW hS) (fun q hq => hS.2.2 q hq) hdg hlocks))
/-- no handler here: the exception leaves the method -/
theorem me_outX (C : me_C X B own cc nL ret) (N : me_En X B0 sz out fr lo mc ms) (hx : me_Nx X) {k : Nat} (ho : out = (B, μ, .error k)) (hc : nc ≤ mc) (hs : ns ≤ ms) : me_ZX X B nc ns μ pc L k := by
  obtain ⟨p, l, e, R, s, m, args, below, meth, c, Q, E, A0, nL'⟩ := X
  obtain ⟨hexec, hb, hml, rfl, hown, hts, hK, hlocks, hret, hnt, hF, hNS, hfresh⟩ := C
  obtain ⟨rfl, rfl, hsz, hRc, hRs, hRf, hRl⟩ := N
  intro H locs ls q ce rest hW hS hl hL hJ hA h1 h2 h3
  refine vx_out (fun x h => (hx x h).elim) hlocks h1 h2 h3 (fun t ht hal => ?_) (fun q hq => hS.2.2 q hq) hc hs
  subst ho
  exact ⟨k, rfl, rfl, by rw [ht]; exact hW, va_S.F hS ht⟩
end MeEnds
