/-! CONTRACTS of constructors: the world has grown -/
def me_AOX (X : me_X) : Prop :=
  match X with
  | (_, _, _, _, s, _, _, _, _, _, _, _, _, _) => me_AO s
theorem me_CI.ao {X : me_X} (h : me_CI X) : me_AOX X := by
  obtain ⟨p, l, e, R, s, m, args, below, meth, c, Q, E, A0, nL'⟩ := X
  exact h.2
def me_QK (E : me_G) (a : Nat → Nat → Nat) (n : me_Nt) (w : me_w) (sz : Nat) (n' : me_Nt) (r' : me_Rt) (μ' : me_M) : Array Value → State → Outcome → State → Prop := fun _ st oc t => oc = .returned none ∧ (∃ a', me_agr a n a' n' ∧ me_W E (a', n', r', w) μ' t.heap ∧ me_J (a', n', r', w) ∧ ∀ q, me_A (a', n', r', w) q → me_F (a, n, r', w) sz q) ∧ va_F (me_F (a, n, r', w) sz) st t
def me_PK (E : me_G) (B : me_B) (μ : me_M) (sz : Nat) (As : List me_V) : Array Value → State → Prop := fun v U => me_P E B μ sz As v U ∧ me_AO U
theorem me_PK.blind {E : me_G} {B : me_B} {μ : me_M} {sz : Nat} {As : List me_V} : FrameBlind (me_PK E B μ sz As) := by
  intro a U g mk h
  exact ⟨me_P.blind a U g mk h.1, me_AO.moved (u := U) (U := U.calling g mk a) (Vm.Alike.refl U.vm) h.2⟩
def me_MetK (l : Launch) (y : MethodName) (cc : ByteArray) (maxL fr lo mc ms : Nat) (E : me_G) (a : Nat → Nat → Nat) (n : me_Nt) (r : me_Rt) (w : me_w) (μ : me_M) (sz : Nat) (As : List me_V) (n' : me_Nt) (r' : me_Rt) (μ' : me_M) : Prop :=
  Met l y (.code y cc maxL none :: me_gw) { frames := fr, cells := mc, slots := ms, locals := lo } (me_PK E (a, n, r, w) μ sz As) (me_QK E a n w sz n' r' μ') mc ms (me_F (a, n, r, w) sz)
/-- how a constructor's walk must end -/
def me_EK (X : me_X) (a : Nat → Nat → Nat) (n : me_Nt) (r : me_Rt) (w : me_w) (sz : Nat) (n' : me_Nt) (r' : me_Rt) (μ' : me_M) (mc ms : Nat) : Prop :=
  match X with
  | (_, _, _, _, s, _, args, below, _, _, Q, E, A0, _) => Q = MQ below (me_QK E a n w sz n' r' μ') args s mc ms (me_F (a, n, r, w) sz) ∧ A0 = me_F (a, n, r, w) sz ∧ s.heap.size = sz
theorem me_ofK {l : Launch} {y : MethodName} {cc : ByteArray} {maxL fr lo mc ms : Nat} {E : me_G} {a : Nat → Nat → Nat} {n : me_Nt} {r : me_Rt} {w : me_w} {μ : me_M} {sz : Nat} {As : List me_V} {n' : me_Nt} {r' : me_Rt} {μ' : me_M} (hl : l.stackTraces = false)
    (hy : plainName y.cls = true) (hin : y.name = "<init>") (hd : me_wd As ≤ maxL)
    (k : ∀ X : me_X, me_C X (a, n, r, w) y.cls cc maxL none → me_Rm X fr lo mc ms → me_CI X → me_EK X a n r w sz n' r' μ' mc ms → me_Z X (a, n, r, w) 0 0 μ 0 (me_al 0 As) []) : me_MetK l y cc maxL fr lo mc ms E a n r w μ sz As n' r' μ' := by
  refine Met.ofW (cc := cc) (maxL := maxL) (ret := none) hy rfl ?_
  intro p e s m args below meth c s₁ Bd hml hv
  obtain ⟨⟨rfl, hsz, hW, hJ, hok, hK, hF, hNS⟩, hao⟩ := hv
  have hown : s.vm.findClass y.cls = some m.cls := findClass_of_methodNamed Bd.named
  have hname : meth.name = "<init>" := (name_of_methodNamed Bd.named Bd.method).1.trans hin
  have hts0 : ∀ c ∈ (Jvm.Cond.code y cc maxL none :: me_gw), c.before (As.map (me_cv (a, n, r, w))).toArray s = true := atoms_spec (ws := Jvm.Cond.code y cc maxL none :: me_gw) Bd.pre
  have hts : ∀ w0 ∈ me_gw, w0.before (As.map (me_cv (a, n, r, w))).toArray s = true := fun w0 hw => hts0 w0 (List.mem_cons_of_mem _ hw)
  rw [lg_entry_eq]
  have hl0 := lv_entry (As.map (me_cv (a, n, r, w))) (n := maxL) (by rw [me_wd_sl]; exact hd)
  generalize (lg_sl (As.map (me_cv (a, n, r, w))) ++ List.replicate (maxL - (lg_sl (As.map (me_cv (a, n, r, w)))).length) Slot.unset).toArray = ls at hl0 ⊢
  rw [me_al_ls] at hl0
  subst hsz
  exact k (p, l, e, _, s, m, _, below, meth, c, _, E, me_F (a, n, r, w) s.heap.size, maxL) ⟨Bd.exec, Bd.bytes, hml, rfl, hown, hts, hK, Bd.notSynchronized, Bd.returns, hl, hF, hNS, fun q hq => Or.inr hq⟩ ⟨Nat.le_refl _, Nat.le_refl _, Nat.le_refl _, Nat.le_refl _⟩ ⟨hname, hao⟩ ⟨rfl, rfl, rfl⟩
    s.heap [] ls hW va_S.rf hl0 (me_al_ok As 0 hok) (fun v hv => by cases hv) hJ (fun q hq => Or.inl hq)
def me_MI (y : MethodName) (cc : ByteArray) (maxL n : Nat) : Prop :=
  Cond.code y cc maxL none ∈ me_gw ∧ Cond.initialized y.cls ∈ me_gw ∧ (y.cls ≠ "java/lang/invoke/MethodHandle" ∧ y.cls ≠ "java/lang/invoke/VarHandle") ∧ (parseMethodDescriptor y.desc).map (fun d => d.parameters.length) = some n ∧ y.name = "<init>" ∧ Cond.instanceMethod y ∈ me_gw
section MeKon
variable {X : me_X} {own : String} {cc : ByteArray} {nL : Nat} {ret : Option FieldType} {a : Nat → Nat → Nat} {n : me_Nt} {r : me_Rt} {w : me_w} {nc ns : Nat} {μ : me_M} {pc : Nat} {L : List (Nat × me_V)} {st S : List me_V} {sz fr lo mc ms : Nat}
variable {y : MethodName} {cc' : ByteArray} {maxL' fr' lo' mc' ms' n0 idx : Nat} {As : List me_V} {n' : me_Nt} {r' : me_Rt} {μ' : me_M}
theorem me_vretK {a1 : Nat → Nat → Nat} (C : me_C X (a1, n', r', w) own cc nL none) (K : me_EK X a n r w sz n' r' μ' mc ms) (hag : me_agr a n a1 n') (hdg : decode cc pc = .ok (.return_, 1)) (hc : nc ≤ mc) (hs : ns ≤ ms) : me_Z X (a1, n', r', w) nc ns μ' pc L [] := by
  obtain ⟨p, l, e, R, s, m, args, below, meth, c, Q, E, A0, nL'⟩ := X
  obtain ⟨hx, hb, hml, rfl, hown, hts, hK, hlocks, hret, hnt, hF, hNS, hfresh⟩ := C
  obtain ⟨rfl, rfl, hsz⟩ := K
  intro H locs ls hW hS hl hL hst hJ hA
  exact W.widen hc hs (W.vret hx hb hret (fun t ht _ => ⟨rfl, ⟨a1, hag, by rw [ht]; exact hW, hJ, hA⟩, va_S.F hS ht⟩) (fun q hq => hS.2.2 q hq) hdg hlocks)
theorem me_runK {p : Program} {l : Launch} {e : Env} {R : Room} {s : State} {m : MethodId} {args : Array Value} {below : List Frame} {meth : Method} {c : Code} {Q : State → Prop} {E : me_G} {A0 : Nat → Prop} {nL' : Nat} {H : Heap} {locs : List Loc} {ls : Array Slot} {st0 : List Value} {aa : Array Value} {mc ms nc' ns' : Nat}
    (hr : va_Run p l e R s m args below meth c H locs nc ns mc ms (F0 m pc ls st0) (st.map (me_cv (a, n, r, w))) (me_QK E a n w H.size n' r' μ' aa) (me_F (a, n, r, w) H.size))
    (hS : va_S A0 s.heap H locs) (hl : lv_has ls nL' (me_ls (a, n, r, w) L)) (hL : ∀ q ∈ L, me_ok (a, n, r, w) q.2) (hst : ∀ v ∈ st, me_ok (a, n, r, w) v) (hA : ∀ q, me_A (a, n, r, w) q → A0 q) (hfresh : ∀ q, s.heap.size ≤ q → A0 q) (h1 : nc + mc ≤ nc') (h2 : ns + ms ≤ ns')
    (kk : ∀ a', me_agr a n a' n' → me_Z (p, l, e, R, s, m, args, below, meth, c, Q, E, A0, nL') (a', n', r', w) nc' ns' μ' (pc + 3) L st) : W p l e R s m args below meth c H locs nc ns Q (F0 m pc ls st0) := by
  have hAF : ∀ q, me_F (a, n, r, w) H.size q → A0 q := fun q hq => hq.elim (hA q) (fun h => hfresh q (Nat.le_trans hS.1 h))
  intro T hT Xs
  obtain ⟨v, st₀, t, T', L1, h0, X', hL1, e1, e2, hq, hgo⟩ := hr T hT Xs
  obtain ⟨g1, ⟨a', g2, g3, g4, g5⟩, g6⟩ := hq
  obtain ⟨k1, k2, k3⟩ := vx_keep h0 e1 hS (fun q _ h => hAF q h) hAF hL1 g6
  cases g1
  rw [← e1] at g3
  have K := kk a' g2 T'.heap (locs ++ L1) ls g3 k3 (by rw [me_ls_ag g2 hL]; exact hl) (fun q hq => me_ok_ag g2 (hL q hq)) (fun v hv => me_ok_ag g2 (hst v hv)) g4 (fun q hq => hAF q (g5 q hq))
  rw [me_map_ag g2 hst] at K
  have K2 := W.widen h1 h2 K
  obtain ⟨t2, a1, b1⟩ := K2 T' rfl X'
  exact ⟨t2, hgo t2 a1, b1⟩
theorem me_PKof {E : me_G} {B : me_B} {A0 : Nat → Prop} {s : State} {H : Heap} {locs : List Loc} (hW : me_W E B μ H) (hJ : me_J B) (hok : ∀ v ∈ As, me_ok B v) (hK : va_K E.1 vwCl (me_ty E.2) s) (hF : me_SF B A0 s s.heap) (hNS : me_NS B s) (hao : me_AO s) (hS : va_S A0 s.heap H locs) (hA : ∀ q, me_A B q → A0 q) (hfresh : ∀ q, s.heap.size ≤ q → A0 q) :
    ∀ U : State, U.heap = H → s.WarmedH U.vm → me_PK E B μ H.size As (As.map (me_cv B)).toArray U := fun U hU hw => ⟨me_Pof hW hJ hok hK hF hNS hS hA hfresh U hU hw, hao.moved hw.alike⟩
theorem me_callK (C : me_C X (a, n, r, w) own cc nL ret) (hroom : me_Rm X fr lo mc ms) (hao : me_AOX X) {k i : Nat} (nc' ns' : Nat) (hM : ∀ l E z, l.stackTraces = false → me_MetK l y cc' maxL' fr' lo' mc' ms' E a n r w μ z (me_r k i :: As) n' r' μ') (mv : me_MI y cc' maxL' n0) (hl0 : Cond.methodLink own idx y ∈ me_gw)
    (hdg : decode cc pc = .ok (.invokespecial idx, 3)) (hs : S = As.reverse ++ me_r k i :: st) (hn : As.length = n0) (hR : fr' + 1 ≤ fr ∧ 8 + (maxL' + 11) + lo' ≤ lo) (hc : nc + mc' ≤ nc' ∧ ns + ms' ≤ ns' ∧ nc' ≤ mc ∧ ns' ≤ ms) (hw : me_wd st ≤ 8)
    (kk : ∀ a', me_agr a n a' n' → me_C X (a', n', r', w) own cc nL ret → me_Z X (a', n', r', w) nc' ns' μ' (pc + 3) L st) : me_Z X (a, n, r, w) nc ns μ pc L S := by
  have C0 := C
  obtain ⟨p, l, e, R, s, m, args, below, meth, c, Q, E, A0, nL'⟩ := X
  obtain ⟨hx, hb, hml, rfl, hown, hts, hK, hlocks, hret, hnt, hF, hNS, hfresh⟩ := C
  obtain ⟨hRc, hRs, hRf, hRl⟩ := hroom
  intro H locs ls hW hS hl hL hst hJ hA
  subst hs
  have hAs : ∀ v ∈ me_r k i :: As, me_ok (a, n, r, w) v := fun v hv => by
    rcases List.mem_cons.mp hv with rfl | hv
    · exact hst _ (List.mem_append_right _ List.mem_cons_self)
    · exact hst _ (List.mem_append_left _ (List.mem_reverse.mpr hv))
  have hst' : ∀ v ∈ st, me_ok (a, n, r, w) v := fun v hv => hst v (List.mem_append_right _ (List.mem_cons_of_mem _ hv))
  obtain ⟨g1, g2, g3, g4, g5, g6⟩ := mv
  have cw : CallB R s args own idx y cc' maxL' none (.code y cc' maxL' none :: me_gw) { frames := fr', cells := mc', slots := ms', locals := lo' } mc' ms' n0 ∧ y.name = "<init>" ∧ (Cond.instanceMethod y).before args s = true := ⟨me_callB hts g1 g2 g3 g4 hl0 (Nat.le_trans hR.1 hRf) (Nat.le_trans hR.2 hRl), g5, hts _ g6⟩
  have hp : PreS s H (me_PK E (a, n, r, w) μ H.size (me_r k i :: As)) (.ref (a k i) :: As.map (me_cv (a, n, r, w))) := ⟨me_PK.blind, me_PKof (As := me_r k i :: As) hW hJ hAs hK hF hNS hao hS hA hfresh⟩
  have hstk : (As.reverse ++ me_r k i :: st).map (me_cv (a, n, r, w)) = (As.map (me_cv (a, n, r, w))).reverse ++ .ref (a k i) :: st.map (me_cv (a, n, r, w)) := by simp [List.map_append, List.map_reverse, me_cv]
  rw [hstk]
  refine me_runK (nc' := nc') (ns' := ns') (va_runI (As := As.map (me_cv (a, n, r, w))) (rest := st.map (me_cv (a, n, r, w))) (g := F0 m pc ls ((As.map (me_cv (a, n, r, w))).reverse ++ .ref (a k i) :: st.map (me_cv (a, n, r, w)))) ⟨hx, hb, hml, hown, hts⟩ (hM l E H.size hnt) cw hp rfl (by simpa using hn) hl.1 rfl ?_ hdg ⟨by omega, by omega⟩) hS hl hL hst' hA hfresh hc.1 hc.2.1 (fun a' hag => kk a' hag (C0.ag hag.2 rfl))
  show 2 * 0 + _ ≤ 8
  rw [me_wd_cat]
  omega
theorem me_callKN (C : me_C X (a, n, r, w) own cc nL ret) (hroom : me_Rm X fr lo mc ms) (hao : me_AOX X) {host : String} {k i : Nat} (nc' ns' : Nat) (hM : ∀ l E z, l.stackTraces = false → me_MetK l y cc' maxL' fr' lo' mc' ms' E a n r w μ z (me_r k i :: As) n' r' μ') (mv : me_MI y cc' maxL' n0) (hl0 : Cond.methodLinkNest own idx y host ∈ me_bw)
    (hdg : decode cc pc = .ok (.invokespecial idx, 3)) (hs : S = As.reverse ++ me_r k i :: st) (hn : As.length = n0) (hR : fr' + 1 ≤ fr ∧ 8 + (maxL' + 11) + lo' ≤ lo) (hc : nc + mc' ≤ nc' ∧ ns + ms' ≤ ns' ∧ nc' ≤ mc ∧ ns' ≤ ms) (hw : me_wd st ≤ 8)
    (kk : ∀ a', me_agr a n a' n' → me_C X (a', n', r', w) own cc nL ret → me_Z X (a', n', r', w) nc' ns' μ' (pc + 3) L st) : me_Z X (a, n, r, w) nc ns μ pc L S := by
  have C0 := C
  obtain ⟨p, l, e, R, s, m, args, below, meth, c, Q, E, A0, nL'⟩ := X
  obtain ⟨hx, hb, hml, rfl, hown, hts, hK, hlocks, hret, hnt, hF, hNS, hfresh⟩ := C
  obtain ⟨hRc, hRs, hRf, hRl⟩ := hroom
  intro H locs ls hW hS hl hL hst hJ hA
  subst hs
  have hAs : ∀ v ∈ me_r k i :: As, me_ok (a, n, r, w) v := fun v hv => by
    rcases List.mem_cons.mp hv with rfl | hv
    · exact hst _ (List.mem_append_right _ List.mem_cons_self)
    · exact hst _ (List.mem_append_left _ (List.mem_reverse.mpr hv))
  have hst' : ∀ v ∈ st, me_ok (a, n, r, w) v := fun v hv => hst v (List.mem_append_right _ (List.mem_cons_of_mem _ hv))
  have good : ∀ w ∈ me_gw, ∀ (a' : Array Value) (U : State), s.WarmedH U.vm → w.before a' U = true := fun w hw a' U hW => word_at hW (good_of_word (List.mem_filter.mp hw).2) (hts w hw)
  obtain ⟨g1, g2, g3, g4, g5, g6⟩ := mv
  have cw : va_CN R s args own idx y host cc' maxL' none (.code y cc' maxL' none :: me_gw) { frames := fr', cells := mc', slots := ms', locals := lo' } mc' ms' n0 ∧ y.name = "<init>" ∧ (Cond.instanceMethod y).before args s = true := by
    refine ⟨⟨⟨rfl, rfl, Nat.le_trans hR.1 hRf, Nat.le_trans hR.2 hRl, fun w hw => ?_, List.mem_cons_self⟩, hts _ g1, hts _ g2, g3, fun sig h => ?_, va_Nw.use (me_bad_onT (List.mem_filter.mp hl0).2) (hNS.1 _ hl0)⟩, g5, hts _ g6⟩
    · rcases List.mem_cons.mp hw with rfl | hw
      · exact good _ g1
      · exact good w hw
    · rw [h] at g4
      exact (Option.some.inj g4).symm
  have hp : PreS s H (me_PK E (a, n, r, w) μ H.size (me_r k i :: As)) (.ref (a k i) :: As.map (me_cv (a, n, r, w))) := ⟨me_PK.blind, me_PKof (As := me_r k i :: As) hW hJ hAs hK hF hNS hao hS hA hfresh⟩
  have hstk : (As.reverse ++ me_r k i :: st).map (me_cv (a, n, r, w)) = (As.map (me_cv (a, n, r, w))).reverse ++ .ref (a k i) :: st.map (me_cv (a, n, r, w)) := by simp [List.map_append, List.map_reverse, me_cv]
  rw [hstk]
  refine me_runK (nc' := nc') (ns' := ns') (va_runIN (As := As.map (me_cv (a, n, r, w))) (rest := st.map (me_cv (a, n, r, w))) (g := F0 m pc ls ((As.map (me_cv (a, n, r, w))).reverse ++ .ref (a k i) :: st.map (me_cv (a, n, r, w)))) ⟨hx, hb, hml, hown, hts⟩ (hM l E H.size hnt) cw hp rfl (by simpa using hn) hl.1 rfl ?_ hdg ⟨by omega, by omega⟩) hS hl hL hst' hA hfresh hc.1 hc.2.1 (fun a' hag => kk a' hag (C0.ag hag.2 rfl))
  show 2 * 0 + _ ≤ 8
  rw [me_wd_cat]
  omega
end MeKon
