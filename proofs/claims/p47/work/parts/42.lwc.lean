/-! THE LAW's MAIN BODY: its calls -/
/-- the room of a walk -/
def me_Rm (X : me_X) (fr lo mc ms : Nat) : Prop :=
  match X with
  | (_, _, _, R, _, _, _, _, _, _, _, _, _, _) => mc ≤ R.cells ∧ ms ≤ R.slots ∧ fr ≤ R.frames ∧ lo ≤ R.locals
section MeCallH
variable {X : me_X} {own : String} {cc : ByteArray} {nL : Nat} {ret : Option FieldType} {B B0 : me_B} {nc ns : Nat} {μ : me_M} {pc : Nat} {L : List (Nat × me_V)} {st S : List me_V} {sz fr lo mc ms : Nat} {out : me_O}
variable {y : MethodName} {cc' : ByteArray} {maxL' : Nat} {ret' : Option FieldType} {fr' lo' mc' ms' : Nat} {As : List me_V} {o : me_O} {idx n : Nat}
theorem me_callSH (C : me_C X B own cc nL ret) (hroom : me_Rm X fr lo mc ms) {hh : List (Nat × Nat × Nat × Nat)} {μ' : me_M} {v : me_V} (nc' ns' : Nat) (hM : ∀ l E z, l.stackTraces = false → me_MetH l y cc' maxL' ret' hh fr' lo' mc' ms' E B μ z As (B, μ', .ok (some v))) (g1 : Cond.codeWith y cc' maxL' ret' hh ∈ me_gw) (g2 : Cond.initialized y.cls ∈ me_gw) (g3 : y.cls ≠ "java/lang/invoke/MethodHandle" ∧ y.cls ≠ "java/lang/invoke/VarHandle") (g4 : (parseMethodDescriptor y.desc).map (fun d => d.parameters.length) = some n) (g5 : Cond.static y ∈ me_gw) (hl0 : Cond.methodLink own idx y ∈ me_gw)
    (hdg : decode cc pc = .ok (.invokestatic idx, 3)) (hs : S = As.reverse ++ st) (hn : As.length = n) (hR : fr' + 1 ≤ fr ∧ 8 + (maxL' + 11) + lo' ≤ lo) (hc : nc + mc' ≤ nc' ∧ ns + ms' ≤ ns' ∧ nc' ≤ mc ∧ ns' ≤ ms) (hw : me_wd st ≤ 8)
    (kk : me_Z X B nc' ns' μ' (pc + 3) L (v :: st)) : me_Z X B nc ns μ pc L S := by
  obtain ⟨p, l, e, R, s, m, args, below, meth, c, Q, E, A0, nL'⟩ := X
  obtain ⟨hx, hb, hml, rfl, hown, hts, hK, hlocks, hret, hnt, hF, hNS, hfresh⟩ := C
  obtain ⟨hRc, hRs, hRf, hRl⟩ := hroom
  intro H locs ls hW hS hl hL hst hJ hA
  subst hs
  have hAs : ∀ v ∈ As, me_ok B v := fun v hv => hst _ (List.mem_append_left _ (List.mem_reverse.mpr hv))
  have hst' : ∀ v ∈ st, me_ok B v := fun v hv => hst v (List.mem_append_right _ hv)
  have good : ∀ w ∈ me_gw, ∀ (a' : Array Value) (U : State), s.WarmedH U.vm → w.before a' U = true := fun w hw a' U hW => word_at hW (good_of_word (List.mem_filter.mp hw).2) (hts w hw)
  have cw : vx_CSW R s args own idx y cc' maxL' ret' hh (.codeWith y cc' maxL' ret' hh :: me_gw) { frames := fr', cells := mc', slots := ms', locals := lo' } mc' ms' n := by
    refine ⟨⟨rfl, rfl, Nat.le_trans hR.1 hRf, Nat.le_trans hR.2 hRl, fun w hw => ?_, List.mem_cons_self⟩, hts _ g1, hts _ g2, g3, fun sig h => ?_, hts _ hl0, hts _ g5⟩
    · rcases List.mem_cons.mp hw with rfl | hw
      · exact good _ g1
      · exact good w hw
    · rw [h] at g4
      exact (Option.some.inj g4).symm
  have hp : PreS s H (me_P E B μ H.size As) (As.map (me_cv B)) := ⟨me_P.blind, me_Pof hW hJ hAs hK hF hNS hS hA hfresh⟩
  have hstk : (As.reverse ++ st).map (me_cv B) = (As.map (me_cv B)).reverse ++ st.map (me_cv B) := by simp [List.map_append, List.map_reverse]
  rw [hstk]
  refine me_run (o := (B, μ', .ok (some v))) (nc' := nc') (ns' := ns') (vx_runSX (hh := hh) (As := As.map (me_cv B)) (rest := st.map (me_cv B)) (g := F0 m pc ls ((As.map (me_cv B)).reverse ++ st.map (me_cv B))) ⟨hx, hb, hml, hown, hts⟩ (hM l E H.size hnt) cw hp rfl (by simpa using hn) hl.1 rfl ?_ hdg ⟨by omega, by omega⟩) hS hl hL hst' hJ hA hfresh hc.1 hc.2.1 rfl (fun rv h => by cases h; exact kk) (fun k h => by cases h)
  show 2 * 0 + _ ≤ 8
  rw [me_wd_cat]
  omega
theorem me_callVXR (C : me_C X B own cc nL ret) (hroom : me_Rm X fr lo mc ms) {k i ci N0 : Nat} (nc' ns' : Nat) (hM : ∀ l E z, l.stackTraces = false → me_Met l y cc' maxL' ret' fr' lo' mc' ms' E B μ z (me_r k i :: As) o) (mv : me_MV y cc' maxL' ret' n) (hl0 : Cond.methodLink own idx y ∈ me_gw) (hk : me_kt k = (0, ci, N0)) (hcl : (vwCl[ci]?).map (fun q => q.1) = some y.cls)
    (hdg : decode cc pc = .ok (.invokevirtual idx, 3)) (hs : S = As.reverse ++ me_r k i :: st) (hn : As.length = n) (hR : fr' + 1 ≤ fr ∧ 8 + (maxL' + 11) + lo' ≤ lo) (hc : nc + mc' ≤ nc' ∧ ns + ms' ≤ ns' ∧ nc' ≤ mc ∧ ns' ≤ ms) (hw : me_wd st ≤ 8) (ho : o.1 = B)
    (kk : ∀ rv, o.2.2 = .ok rv → me_Z X B nc' ns' o.2.1 (pc + 3) L (rv.toList ++ st)) (kx : ∀ k, o.2.2 = .error k → me_ZX X B nc' ns' o.2.1 pc L k) : me_Z X B nc ns μ pc L S := by
  obtain ⟨p, l, e, R, s, m, args, below, meth, c, Q, E, A0, nL'⟩ := X
  obtain ⟨hx, hb, hml, rfl, hown, hts, hK, hlocks, hret, hnt, hF, hNS, hfresh⟩ := C
  obtain ⟨hRc, hRs, hRf, hRl⟩ := hroom
  intro H locs ls hW hS hl hL hst hJ hA
  subst hs
  have hAs : ∀ v ∈ me_r k i :: As, me_ok B v := fun v hv => by
    rcases List.mem_cons.mp hv with rfl | hv
    · exact hst _ (List.mem_append_right _ List.mem_cons_self)
    · exact hst _ (List.mem_append_left _ (List.mem_reverse.mpr hv))
  have hst' : ∀ v ∈ st, me_ok B v := fun v hv => hst v (List.mem_append_right _ (List.mem_cons_of_mem _ hv))
  obtain ⟨hk0, hi⟩ : k < me_NK ∧ i < B.2.1 k := hAs _ List.mem_cons_self
  obtain ⟨q0, hq⟩ := me_at_ws (E := E) (μ := μ) hk0 hi
  rw [me_ct0 hk] at hq
  obtain ⟨⟨C1, T1, N1⟩, hq1, hq2⟩ := Option.map_eq_some_iff.mp hcl
  have hrc := va_recv hK hW.P hq1 hq
  dsimp only at hq2 hrc
  rw [hq2] at hrc
  obtain ⟨g1, g2, g3, g4, g5, g6⟩ := mv
  have cw : CallW R s args own y.cls idx y cc' maxL' ret' (.code y cc' maxL' ret' :: me_gw) { frames := fr', cells := mc', slots := ms', locals := lo' } mc' ms' n := ⟨me_callB hts g1 g2 g3 g4 hl0 (Nat.le_trans hR.1 hRf) (Nat.le_trans hR.2 hRl), hts _ g5, hts _ g6⟩
  have hp : PreV s H y.cls (B.1 k i) (me_P E B μ H.size (me_r k i :: As)) (As.map (me_cv B)) := ⟨me_P.blind, hrc, me_Pof (As := me_r k i :: As) hW hJ hAs hK hF hNS hS hA hfresh⟩
  have hstk : (As.reverse ++ me_r k i :: st).map (me_cv B) = (As.map (me_cv B)).reverse ++ .ref (B.1 k i) :: st.map (me_cv B) := by simp [List.map_append, List.map_reverse, me_cv]
  rw [hstk]
  refine me_run (o := o) (nc' := nc') (ns' := ns') (vx_runV (As := As.map (me_cv B)) (rest := st.map (me_cv B)) (g := F0 m pc ls ((As.map (me_cv B)).reverse ++ .ref (B.1 k i) :: st.map (me_cv B))) ⟨hx, hb, hml, hown, hts⟩ (hM l E H.size hnt) cw hp rfl (by simpa using hn) hl.1 rfl ?_ hdg ⟨by omega, by omega⟩) hS hl hL hst' hJ hA hfresh hc.1 hc.2.1 ho kk kx
  show 2 * 0 + _ ≤ 8
  rw [me_wd_cat]
  omega
theorem me_callVR (C : me_C X B own cc nL ret) (hroom : me_Rm X fr lo mc ms) {k i ci N0 : Nat} {μ' : me_M} {v : me_V} (nc' ns' : Nat) (hM : ∀ l E z, l.stackTraces = false → me_Met l y cc' maxL' ret' fr' lo' mc' ms' E B μ z (me_r k i :: As) (B, μ', .ok (some v))) (mv : me_MV y cc' maxL' ret' n) (hl0 : Cond.methodLink own idx y ∈ me_gw) (hk : me_kt k = (0, ci, N0)) (hcl : (vwCl[ci]?).map (fun q => q.1) = some y.cls) (hdg : decode cc pc = .ok (.invokevirtual idx, 3)) (hs : S = As.reverse ++ me_r k i :: st) (hn : As.length = n) (hR : fr' + 1 ≤ fr ∧ 8 + (maxL' + 11) + lo' ≤ lo) (hc : nc + mc' ≤ nc' ∧ ns + ms' ≤ ns' ∧ nc' ≤ mc ∧ ns' ≤ ms) (hw : me_wd st ≤ 8)
    (kk : me_Z X B nc' ns' μ' (pc + 3) L (v :: st)) : me_Z X B nc ns μ pc L S :=
  me_callVXR C hroom nc' ns' hM mv hl0 hk hcl hdg hs hn hR hc hw rfl (fun rv h => by cases h; exact kk) (fun k h => by cases h)
theorem me_callSXR (C : me_C X B own cc nL ret) (hroom : me_Rm X fr lo mc ms) (nc' ns' : Nat) (hM : ∀ l E z, l.stackTraces = false → me_Met l y cc' maxL' ret' fr' lo' mc' ms' E B μ z As o) (mv : me_MS y cc' maxL' ret' n) (hl0 : Cond.methodLink own idx y ∈ me_gw)
    (hdg : decode cc pc = .ok (.invokestatic idx, 3)) (hs : S = As.reverse ++ st) (hn : As.length = n) (hR : fr' + 1 ≤ fr ∧ 8 + (maxL' + 11) + lo' ≤ lo) (hc : nc + mc' ≤ nc' ∧ ns + ms' ≤ ns' ∧ nc' ≤ mc ∧ ns' ≤ ms) (hw : me_wd st ≤ 8) (ho : o.1 = B)
    (kk : ∀ rv, o.2.2 = .ok rv → me_Z X B nc' ns' o.2.1 (pc + 3) L (rv.toList ++ st)) (kx : ∀ k, o.2.2 = .error k → me_ZX X B nc' ns' o.2.1 pc L k) : me_Z X B nc ns μ pc L S := by
  obtain ⟨p, l, e, R, s, m, args, below, meth, c, Q, E, A0, nL'⟩ := X
  obtain ⟨hx, hb, hml, rfl, hown, hts, hK, hlocks, hret, hnt, hF, hNS, hfresh⟩ := C
  obtain ⟨hRc, hRs, hRf, hRl⟩ := hroom
  intro H locs ls hW hS hl hL hst hJ hA
  subst hs
  have hAs : ∀ v ∈ As, me_ok B v := fun v hv => hst _ (List.mem_append_left _ (List.mem_reverse.mpr hv))
  have hst' : ∀ v ∈ st, me_ok B v := fun v hv => hst v (List.mem_append_right _ hv)
  obtain ⟨g1, g2, g3, g4, g5⟩ := mv
  have cw : CallB R s args own idx y cc' maxL' ret' (.code y cc' maxL' ret' :: me_gw) { frames := fr', cells := mc', slots := ms', locals := lo' } mc' ms' n ∧ (Cond.static y).before args s = true := ⟨me_callB hts g1 g2 g3 g4 hl0 (Nat.le_trans hR.1 hRf) (Nat.le_trans hR.2 hRl), hts _ g5⟩
  have hp : PreS s H (me_P E B μ H.size As) (As.map (me_cv B)) := ⟨me_P.blind, me_Pof hW hJ hAs hK hF hNS hS hA hfresh⟩
  have hstk : (As.reverse ++ st).map (me_cv B) = (As.map (me_cv B)).reverse ++ st.map (me_cv B) := by simp [List.map_append, List.map_reverse]
  rw [hstk]
  refine me_run (o := o) (nc' := nc') (ns' := ns') (vx_runS (As := As.map (me_cv B)) (rest := st.map (me_cv B)) (g := F0 m pc ls ((As.map (me_cv B)).reverse ++ st.map (me_cv B))) ⟨hx, hb, hml, hown, hts⟩ (hM l E H.size hnt) cw hp rfl (by simpa using hn) hl.1 rfl ?_ hdg ⟨by omega, by omega⟩) hS hl hL hst' hJ hA hfresh hc.1 hc.2.1 ho kk kx
  show 2 * 0 + _ ≤ 8
  rw [me_wd_cat]
  omega
theorem me_callSR (C : me_C X B own cc nL ret) (hroom : me_Rm X fr lo mc ms) {μ' : me_M} {v : me_V} (nc' ns' : Nat) (hM : ∀ l E z, l.stackTraces = false → me_Met l y cc' maxL' ret' fr' lo' mc' ms' E B μ z As (B, μ', .ok (some v))) (mv : me_MS y cc' maxL' ret' n) (hl0 : Cond.methodLink own idx y ∈ me_gw) (hdg : decode cc pc = .ok (.invokestatic idx, 3)) (hs : S = As.reverse ++ st) (hn : As.length = n) (hR : fr' + 1 ≤ fr ∧ 8 + (maxL' + 11) + lo' ≤ lo) (hc : nc + mc' ≤ nc' ∧ ns + ms' ≤ ns' ∧ nc' ≤ mc ∧ ns' ≤ ms) (hw : me_wd st ≤ 8)
    (kk : me_Z X B nc' ns' μ' (pc + 3) L (v :: st)) : me_Z X B nc ns μ pc L S :=
  me_callSXR C hroom nc' ns' hM mv hl0 hdg hs hn hR hc hw rfl (fun rv h => by cases h; exact kk) (fun k h => by cases h)
end MeCallH
