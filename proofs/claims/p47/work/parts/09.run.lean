/-! CALLS -/
/-- an instance method that may be called: its code, its words -/
def me_MV (y : MethodName) (cc : ByteArray) (maxL : Nat) (ret : Option FieldType) (n : Nat) : Prop :=
  Cond.code y cc maxL ret ∈ me_gw ∧ Cond.initialized y.cls ∈ me_gw ∧ (y.cls ≠ "java/lang/invoke/MethodHandle" ∧ y.cls ≠ "java/lang/invoke/VarHandle") ∧ (parseMethodDescriptor y.desc).map (fun d => d.parameters.length) = some n ∧ Cond.instanceMethod y ∈ me_gw ∧ Cond.selects y.cls y y ∈ me_gw
def me_MS (y : MethodName) (cc : ByteArray) (maxL : Nat) (ret : Option FieldType) (n : Nat) : Prop :=
  Cond.code y cc maxL ret ∈ me_gw ∧ Cond.initialized y.cls ∈ me_gw ∧ (y.cls ≠ "java/lang/invoke/MethodHandle" ∧ y.cls ≠ "java/lang/invoke/VarHandle") ∧ (parseMethodDescriptor y.desc).map (fun d => d.parameters.length) = some n ∧ Cond.static y ∈ me_gw
theorem me_callB {R : Room} {s : State} {args : Array Value} {own : String} {idx : Nat} {y : MethodName} {cc : ByteArray} {maxL : Nat} {ret : Option FieldType} {n fr lo mc ms : Nat} (hts : ∀ w ∈ me_gw, w.before args s = true)
    (h1 : Cond.code y cc maxL ret ∈ me_gw) (h2 : Cond.initialized y.cls ∈ me_gw) (h3 : y.cls ≠ "java/lang/invoke/MethodHandle" ∧ y.cls ≠ "java/lang/invoke/VarHandle") (h4 : (parseMethodDescriptor y.desc).map (fun d => d.parameters.length) = some n) (hl : Cond.methodLink own idx y ∈ me_gw)
    (hf : fr + 1 ≤ R.frames) (hlo : 8 + (maxL + 11) + lo ≤ R.locals) :
    CallB R s args own idx y cc maxL ret (.code y cc maxL ret :: me_gw) { frames := fr, cells := mc, slots := ms, locals := lo } mc ms n := by
  have good : ∀ w ∈ me_gw, ∀ (a' : Array Value) (U : State), s.WarmedH U.vm → w.before a' U = true := fun w hw a' U hW => word_at hW (good_of_word (List.mem_filter.mp hw).2) (hts w hw)
  refine ⟨rfl, rfl, hf, hlo, fun w hw => ?_, List.mem_cons_self, hts _ h1, hts _ h2, h3, fun sig h => ?_, hts _ hl⟩
  · rcases List.mem_cons.mp hw with rfl | hw
    · exact good _ h1
    · exact good w hw
  · rw [h] at h4
    exact (Option.some.inj h4).symm
theorem me_SF.at {B : me_B} {A0 A : Nat → Prop} {s U : State} {H : Heap} {locs : List Loc} (hF : me_SF B A0 s s.heap) (hS : va_S A0 s.heap H locs) (hA : ∀ q, A q → A0 q) (hU : U.heap = H) (hW : s.WarmedH U.vm) : me_SF B A U U.heap := by
  rw [hU]
  exact ((hF.kept hS.2.1).narrow hA).moved hW.alike
theorem me_Pof {E : me_G} {B : me_B} {μ : me_M} {As : List me_V} {A0 : Nat → Prop} {s : State} {H : Heap} {locs : List Loc} (hW : me_W E B μ H) (hJ : me_J B) (hok : ∀ v ∈ As, me_ok B v) (hK : va_K E.1 vwCl (me_ty E.2) s) (hF : me_SF B A0 s s.heap) (hNS : me_NS B s) (hS : va_S A0 s.heap H locs) (hA : ∀ q, me_A B q → A0 q) (hfresh : ∀ q, s.heap.size ≤ q → A0 q) :
    ∀ U : State, U.heap = H → s.WarmedH U.vm → me_P E B μ H.size As (As.map (me_cv B)).toArray U := fun U hU hw =>
  ⟨rfl, by rw [hU], by rw [hU]; exact hW, hJ, hok, hK.moved hw.alike, hF.at hS (fun q hq => hq.elim (hA q) (fun h => hfresh q (Nat.le_trans hS.1 h))) hU hw, hNS.warm hw⟩
section MeRun
variable {p : Program} {l : Launch} {e : Env} {R : Room} {s : State} {m : MethodId} {args : Array Value} {below : List Frame} {meth : Method} {c : Code} {Q : State → Prop} {E : me_G} {A0 : Nat → Prop} {nL : Nat} {own : String} {cc : ByteArray} {ret : Option FieldType}
variable {B : me_B} {nc ns : Nat} {μ : me_M} {pc : Nat} {L : List (Nat × me_V)} {st : List me_V}
/-- behind a call -/
theorem me_run {H : Heap} {locs : List Loc} {ls : Array Slot} {st0 : List Value} {a : Array Value} {o : me_O} {mc ms nc' ns' : Nat} (hr : vx_Run p l e R s m args below meth c H locs nc ns mc ms (F0 m pc ls st0) (st.map (me_cv B)) (me_Q E B H.size o a) (me_XQ E B H.size o) (me_F B H.size))
    (hS : va_S A0 s.heap H locs) (hl : lv_has ls nL (me_ls B L)) (hL : ∀ q ∈ L, me_ok B q.2) (hst : ∀ v ∈ st, me_ok B v) (hJ : me_J B) (hA : ∀ q, me_A B q → A0 q) (hfresh : ∀ q, s.heap.size ≤ q → A0 q) (h1 : nc + mc ≤ nc') (h2 : ns + ms ≤ ns') (ho : o.1 = B)
    (kk : ∀ rv, o.2.2 = .ok rv → me_Z (p, l, e, R, s, m, args, below, meth, c, Q, E, A0, nL) B nc' ns' o.2.1 (pc + 3) L (rv.toList ++ st))
    (kx : ∀ k, o.2.2 = .error k → me_ZX (p, l, e, R, s, m, args, below, meth, c, Q, E, A0, nL) B nc' ns' o.2.1 pc L k) : W p l e R s m args below meth c H locs nc ns Q (F0 m pc ls st0) := by
  have hAF : ∀ q, me_F B H.size q → A0 q := fun q hq => hq.elim (hA q) (fun h => hfresh q (Nat.le_trans hS.1 h))
  intro T hT Xs
  rcases hr T hT Xs with ⟨v, st₀, t, T', L1, h0, X', hL1, e1, e2, hq, hgo⟩ | ⟨q, st₀, t, T', L1, En, ce, h0, X', hL1, e1, e2, hq, h5, h6, h7, hgo⟩
  · obtain ⟨rv, g1, g2, g3, g4, g5⟩ := hq
    obtain ⟨k1, k2, k3⟩ := vx_keep h0 e1 hS (fun q _ h => hAF q h) hAF hL1 g5
    rw [ho] at g2 g3 g4
    rw [← e1] at g4
    cases g2
    have K := kk rv g1 T'.heap (locs ++ L1) ls g4 k3 hl hL (fun v hv => by
      rcases List.mem_append.mp hv with h | h
      · cases rv with
        | none => cases h
        | some w => rw [List.mem_singleton.mp h]; exact g3 w rfl
      · exact hst v h) hJ hA
    have K2 := W.widen h1 h2 K
    obtain ⟨t2, a1, b1⟩ := K2 T' rfl X'
    refine ⟨t2, hgo t2 ?_, b1⟩
    have eqs : ((rv.map (me_cv B)).toList ++ st.map (me_cv B)) = (rv.toList ++ st).map (me_cv B) := by cases rv <;> rfl
    rw [eqs]
    exact a1
  · obtain ⟨k, g1, g2, g4, g5⟩ := hq
    obtain ⟨k1, k2, k3⟩ := vx_keep h0 e1 hS (fun q _ h => hAF q h) hAF hL1 g5
    rw [ho] at g4
    rw [← e1] at g4 h5
    subst g2
    have K := kx k g1 T'.heap (locs ++ L1) ls q ce (st.map (me_cv B)) g4 k3 hl hL hJ hA h5 h6 h7
    obtain ⟨t2, a1, b1⟩ := vx_widen h1 h2 K T' rfl X'
    exact ⟨t2, hgo.trans a1, b1⟩
end MeRun
section MeCalls
variable {X : me_X} {own : String} {cc : ByteArray} {nL : Nat} {ret : Option FieldType} {B B0 : me_B} {nc ns : Nat} {μ : me_M} {pc : Nat} {L : List (Nat × me_V)} {st S : List me_V} {sz fr lo mc ms : Nat} {out : me_O}
variable {y : MethodName} {cc' : ByteArray} {maxL' : Nat} {ret' : Option FieldType} {fr' lo' mc' ms' : Nat} {As : List me_V} {o : me_O} {idx n : Nat}
theorem me_callVX (C : me_C X B own cc nL ret) (N : me_En X B0 sz out fr lo mc ms) {k i ci N0 : Nat} (nc' ns' : Nat) (hM : ∀ l E z, l.stackTraces = false → me_Met l y cc' maxL' ret' fr' lo' mc' ms' E B μ z (me_r k i :: As) o) (mv : me_MV y cc' maxL' ret' n) (hl0 : Cond.methodLink own idx y ∈ me_gw) (hk : me_kt k = (0, ci, N0)) (hcl : (vwCl[ci]?).map (fun q => q.1) = some y.cls)
    (hdg : decode cc pc = .ok (.invokevirtual idx, 3)) (hs : S = As.reverse ++ me_r k i :: st) (hn : As.length = n) (hR : fr' + 1 ≤ fr ∧ 8 + (maxL' + 11) + lo' ≤ lo) (hc : nc + mc' ≤ nc' ∧ ns + ms' ≤ ns' ∧ nc' ≤ mc ∧ ns' ≤ ms) (hw : me_wd st ≤ 8) (ho : o.1 = B)
    (kk : ∀ rv, o.2.2 = .ok rv → me_Z X B nc' ns' o.2.1 (pc + 3) L (rv.toList ++ st)) (kx : ∀ k, o.2.2 = .error k → me_ZX X B nc' ns' o.2.1 pc L k) : me_Z X B nc ns μ pc L S := by
  obtain ⟨p, l, e, R, s, m, args, below, meth, c, Q, E, A0, nL'⟩ := X
  obtain ⟨hx, hb, hml, rfl, hown, hts, hK, hlocks, hret, hnt, hF, hNS, hfresh⟩ := C
  obtain ⟨-, -, -, hRc, hRs, hRf, hRl⟩ := N
  intro H locs ls hW hS hl hL hst hJ hA
  subst hs
  have hAs : ∀ v ∈ me_r k i :: As, me_ok B v := fun v hv => by
    rcases List.mem_cons.mp hv with rfl | hv
    · exact hst _ (List.mem_append_right _ List.mem_cons_self)
    · exact hst _ (List.mem_append_left _ (List.mem_reverse.mpr hv))
  have hst' : ∀ v ∈ st, me_ok B v := fun v hv => hst v (List.mem_append_right _ (List.mem_cons_of_mem _ hv))
  obtain ⟨hk0, hi⟩ : k < me_NK ∧ i < B.2.1 k := hAs _ List.mem_cons_self
  obtain ⟨q0, hq⟩ := me_at_ws (E := E) (μ := μ) hk0 hi
  rw [me_ct0 hk] at hq
  obtain ⟨⟨C1, T1, N1⟩, hq1, hq2⟩ := Option.map_eq_some_iff.mp hcl
  have hrc := va_recv hK hW.P hq1 hq
  dsimp only at hq2 hrc
  rw [hq2] at hrc
  obtain ⟨g1, g2, g3, g4, g5, g6⟩ := mv
  have cw : CallW R s args own y.cls idx y cc' maxL' ret' (.code y cc' maxL' ret' :: me_gw) { frames := fr', cells := mc', slots := ms', locals := lo' } mc' ms' n := ⟨me_callB hts g1 g2 g3 g4 hl0 (Nat.le_trans hR.1 hRf) (Nat.le_trans hR.2 hRl), hts _ g5, hts _ g6⟩
  have hp : PreV s H y.cls (B.1 k i) (me_P E B μ H.size (me_r k i :: As)) (As.map (me_cv B)) := ⟨me_P.blind, hrc, me_Pof (As := me_r k i :: As) hW hJ hAs hK hF hNS hS hA hfresh⟩
  have hstk : (As.reverse ++ me_r k i :: st).map (me_cv B) = (As.map (me_cv B)).reverse ++ .ref (B.1 k i) :: st.map (me_cv B) := by simp [List.map_append, List.map_reverse, me_cv]
  rw [hstk]
  refine me_run (o := o) (nc' := nc') (ns' := ns') (vx_runV (As := As.map (me_cv B)) (rest := st.map (me_cv B)) (g := F0 m pc ls ((As.map (me_cv B)).reverse ++ .ref (B.1 k i) :: st.map (me_cv B))) ⟨hx, hb, hml, hown, hts⟩ (hM l E H.size hnt) cw hp rfl (by simpa using hn) hl.1 rfl ?_ hdg ⟨by omega, by omega⟩) hS hl hL hst' hJ hA hfresh hc.1 hc.2.1 ho kk kx
  show 2 * 0 + _ ≤ 8
  rw [me_wd_cat]
  omega
theorem me_callSX (C : me_C X B own cc nL ret) (N : me_En X B0 sz out fr lo mc ms) (nc' ns' : Nat) (hM : ∀ l E z, l.stackTraces = false → me_Met l y cc' maxL' ret' fr' lo' mc' ms' E B μ z As o) (mv : me_MS y cc' maxL' ret' n) (hl0 : Cond.methodLink own idx y ∈ me_gw)
    (hdg : decode cc pc = .ok (.invokestatic idx, 3)) (hs : S = As.reverse ++ st) (hn : As.length = n) (hR : fr' + 1 ≤ fr ∧ 8 + (maxL' + 11) + lo' ≤ lo) (hc : nc + mc' ≤ nc' ∧ ns + ms' ≤ ns' ∧ nc' ≤ mc ∧ ns' ≤ ms) (hw : me_wd st ≤ 8) (ho : o.1 = B)
    (kk : ∀ rv, o.2.2 = .ok rv → me_Z X B nc' ns' o.2.1 (pc + 3) L (rv.toList ++ st)) (kx : ∀ k, o.2.2 = .error k → me_ZX X B nc' ns' o.2.1 pc L k) : me_Z X B nc ns μ pc L S := by
  obtain ⟨p, l, e, R, s, m, args, below, meth, c, Q, E, A0, nL'⟩ := X
  obtain ⟨hx, hb, hml, rfl, hown, hts, hK, hlocks, hret, hnt, hF, hNS, hfresh⟩ := C
  obtain ⟨-, -, -, hRc, hRs, hRf, hRl⟩ := N
  intro H locs ls hW hS hl hL hst hJ hA
  subst hs
  have hAs : ∀ v ∈ As, me_ok B v := fun v hv => hst _ (List.mem_append_left _ (List.mem_reverse.mpr hv))
  have hst' : ∀ v ∈ st, me_ok B v := fun v hv => hst v (List.mem_append_right _ hv)
  obtain ⟨g1, g2, g3, g4, g5⟩ := mv
  have cw : CallB R s args own idx y cc' maxL' ret' (.code y cc' maxL' ret' :: me_gw) { frames := fr', cells := mc', slots := ms', locals := lo' } mc' ms' n ∧ (Cond.static y).before args s = true := ⟨me_callB hts g1 g2 g3 g4 hl0 (Nat.le_trans hR.1 hRf) (Nat.le_trans hR.2 hRl), hts _ g5⟩
  have hp : PreS s H (me_P E B μ H.size As) (As.map (me_cv B)) := ⟨me_P.blind, me_Pof hW hJ hAs hK hF hNS hS hA hfresh⟩
  have hstk : (As.reverse ++ st).map (me_cv B) = (As.map (me_cv B)).reverse ++ st.map (me_cv B) := by simp [List.map_append, List.map_reverse]
  rw [hstk]
  refine me_run (o := o) (nc' := nc') (ns' := ns') (vx_runS (As := As.map (me_cv B)) (rest := st.map (me_cv B)) (g := F0 m pc ls ((As.map (me_cv B)).reverse ++ st.map (me_cv B))) ⟨hx, hb, hml, hown, hts⟩ (hM l E H.size hnt) cw hp rfl (by simpa using hn) hl.1 rfl ?_ hdg ⟨by omega, by omega⟩) hS hl hL hst' hJ hA hfresh hc.1 hc.2.1 ho kk kx
  show 2 * 0 + _ ≤ 8
  rw [me_wd_cat]
  omega
theorem me_callV (C : me_C X B own cc nL ret) (N : me_En X B0 sz out fr lo mc ms) {k i ci N0 : Nat} {μ' : me_M} {v : me_V} (nc' ns' : Nat) (hM : ∀ l E z, l.stackTraces = false → me_Met l y cc' maxL' ret' fr' lo' mc' ms' E B μ z (me_r k i :: As) (B, μ', .ok (some v))) (mv : me_MV y cc' maxL' ret' n) (hl0 : Cond.methodLink own idx y ∈ me_gw) (hk : me_kt k = (0, ci, N0)) (hcl : (vwCl[ci]?).map (fun q => q.1) = some y.cls) (hdg : decode cc pc = .ok (.invokevirtual idx, 3)) (hs : S = As.reverse ++ me_r k i :: st) (hn : As.length = n) (hR : fr' + 1 ≤ fr ∧ 8 + (maxL' + 11) + lo' ≤ lo) (hc : nc + mc' ≤ nc' ∧ ns + ms' ≤ ns' ∧ nc' ≤ mc ∧ ns' ≤ ms) (hw : me_wd st ≤ 8)
    (kk : me_Z X B nc' ns' μ' (pc + 3) L (v :: st)) : me_Z X B nc ns μ pc L S :=
  me_callVX C N nc' ns' hM mv hl0 hk hcl hdg hs hn hR hc hw rfl (fun rv h => by cases h; exact kk) (fun k h => by cases h)
theorem me_callV0 (C : me_C X B own cc nL ret) (N : me_En X B0 sz out fr lo mc ms) {k i ci N0 : Nat} {μ' : me_M} (nc' ns' : Nat) (hM : ∀ l E z, l.stackTraces = false → me_Met l y cc' maxL' ret' fr' lo' mc' ms' E B μ z (me_r k i :: As) (B, μ', .ok (none))) (mv : me_MV y cc' maxL' ret' n) (hl0 : Cond.methodLink own idx y ∈ me_gw) (hk : me_kt k = (0, ci, N0)) (hcl : (vwCl[ci]?).map (fun q => q.1) = some y.cls) (hdg : decode cc pc = .ok (.invokevirtual idx, 3)) (hs : S = As.reverse ++ me_r k i :: st) (hn : As.length = n) (hR : fr' + 1 ≤ fr ∧ 8 + (maxL' + 11) + lo' ≤ lo) (hc : nc + mc' ≤ nc' ∧ ns + ms' ≤ ns' ∧ nc' ≤ mc ∧ ns' ≤ ms) (hw : me_wd st ≤ 8)
    (kk : me_Z X B nc' ns' μ' (pc + 3) L (st)) : me_Z X B nc ns μ pc L S :=
  me_callVX C N nc' ns' hM mv hl0 hk hcl hdg hs hn hR hc hw rfl (fun rv h => by cases h; exact kk) (fun k h => by cases h)
theorem me_callS (C : me_C X B own cc nL ret) (N : me_En X B0 sz out fr lo mc ms) {μ' : me_M} {v : me_V} (nc' ns' : Nat) (hM : ∀ l E z, l.stackTraces = false → me_Met l y cc' maxL' ret' fr' lo' mc' ms' E B μ z As (B, μ', .ok (some v))) (mv : me_MS y cc' maxL' ret' n) (hl0 : Cond.methodLink own idx y ∈ me_gw) (hdg : decode cc pc = .ok (.invokestatic idx, 3)) (hs : S = As.reverse ++ st) (hn : As.length = n) (hR : fr' + 1 ≤ fr ∧ 8 + (maxL' + 11) + lo' ≤ lo) (hc : nc + mc' ≤ nc' ∧ ns + ms' ≤ ns' ∧ nc' ≤ mc ∧ ns' ≤ ms) (hw : me_wd st ≤ 8)
    (kk : me_Z X B nc' ns' μ' (pc + 3) L (v :: st)) : me_Z X B nc ns μ pc L S :=
  me_callSX C N nc' ns' hM mv hl0 hdg hs hn hR hc hw rfl (fun rv h => by cases h; exact kk) (fun k h => by cases h)
theorem me_callS0 (C : me_C X B own cc nL ret) (N : me_En X B0 sz out fr lo mc ms) {μ' : me_M} (nc' ns' : Nat) (hM : ∀ l E z, l.stackTraces = false → me_Met l y cc' maxL' ret' fr' lo' mc' ms' E B μ z As (B, μ', .ok (none))) (mv : me_MS y cc' maxL' ret' n) (hl0 : Cond.methodLink own idx y ∈ me_gw) (hdg : decode cc pc = .ok (.invokestatic idx, 3)) (hs : S = As.reverse ++ st) (hn : As.length = n) (hR : fr' + 1 ≤ fr ∧ 8 + (maxL' + 11) + lo' ≤ lo) (hc : nc + mc' ≤ nc' ∧ ns + ms' ≤ ns' ∧ nc' ≤ mc ∧ ns' ≤ ms) (hw : me_wd st ≤ 8)
    (kk : me_Z X B nc' ns' μ' (pc + 3) L (st)) : me_Z X B nc ns μ pc L S :=
  me_callSX C N nc' ns' hM mv hl0 hdg hs hn hR hc hw rfl (fun rv h => by cases h; exact kk) (fun k h => by cases h)
end MeCalls
