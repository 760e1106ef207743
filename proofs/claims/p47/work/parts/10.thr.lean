/-! THROWS: new X(text), thrown at once; no handler in the method -/
def me_RE : List String := ["java/lang/RuntimeException", "java/lang/Exception"]
def me_TW (own : String) (ic : Nat) (cls : String) : Prop := ∀ w ∈ vx_atS own ic cls me_RE, w ∈ me_gw ∨ w ∈ me_bw
theorem me_tw {own : String} {ic : Nat} {cls : String} (ps : List Nat) (hp : vx_atS own ic cls me_RE = ps.filterMap (fun i => lw_tbl[i]?)) (h : (vx_atS own ic cls me_RE).all (fun w => goodWord w || me_bad w) = true) : me_TW own ic cls := by
  intro w hw
  have h1 := List.all_eq_true.mp h w hw
  rw [hp] at hw
  obtain ⟨i, -, hi⟩ := List.mem_filterMap.mp hw
  rcases Bool.or_eq_true_iff.mp h1 with h1 | h1
  · exact Or.inl (me_gm i hi h1)
  · exact Or.inr (me_bm i hi h1)
theorem me_bad_onT {w : Cond} (h : me_bad w = true) : w.onTables = true := by cases w <;> first | rfl | (exfalso; simp [me_bad] at h)
section MeThrow
variable {X : me_X} {own : String} {cc : ByteArray} {nL : Nat} {ret : Option FieldType} {B B0 : me_B} {nc ns : Nat} {μ : me_M} {pc : Nat} {L : List (Nat × me_V)} {st : List me_V} {sz fr lo mc ms : Nat} {out : me_O}
theorem me_throw (C : me_C X B own cc nL ret) (N : me_En X B0 sz out fr lo mc ms) (hNx : me_Nx X) (k : Nat) {ik is ic : Nat} {text : String} (hk : Cond.classLink own ik (me_ex k) ∈ me_gw) (hini : Cond.initialized (me_ex k) ∈ me_gw) (hstr : (own, is, text) ∈ me_strs) (hat : me_TW own ic (me_ex k)) (hfit : Bundle.fit (me_ex k) = true)
    (d0 : decode cc pc = .ok (.new ik, 3)) (d3 : decode cc (pc + 3) = .ok (.dup, 1)) (d4 : decode cc (pc + 4) = .ok (.ldc is, 2)) (d6 : decode cc (pc + 6) = .ok (.invokespecial ic, 3)) (d9 : decode cc (pc + 9) = .ok (.athrow, 1))
    (hR : 6 ≤ fr ∧ 90 ≤ lo) (hw : me_wd st ≤ 8) (hc : nc + 1 ≤ mc ∧ ns + 6 ≤ ms) (ho : out = (B, μ, .error k)) : me_Z X B nc ns μ pc L st := by
  obtain ⟨p, l, e, R, s, m, args, below, meth, c, Q, E, A0, nL'⟩ := X
  obtain ⟨hx, hb, hml, rfl, hown, hts, hK, hlocks, hret, hnt, hF, hNS, hfresh⟩ := C
  obtain ⟨rfl, rfl, hsz, hRc, hRs, hRf, hRl⟩ := N
  intro H locs ls hW hS hl hL hst hJ hA
  obtain ⟨sa, hsa⟩ := hNS.2.1 _ hstr
  refine vx_throwS hx hb hnt (own := own) (cls := me_ex k) (text := text) (names := me_RE) (ik := ik) (is := is) (ic := ic) (sa := sa) (A := me_F B0 sz) hown hfit (by decide +kernel) (hts _ hk) (hts _ hini) hsa (fun w hw => ?_) (fun w hw => ?_) hF.1 hF.2.1 hS (hl.1.trans hml.symm) d0 d3 d4 d6 d9 (fun x hx => (hNx x hx).elim) ?_ ?_ (by omega) (by omega) hlocks (fun t hal hsz1 hkeep => ?_) (fun z hz => hS.2.2 z hz) (by omega) (by omega)
  · rcases hat w hw with h | h
    · exact hts _ h
    · exact va_Nw.use (me_bad_onT (List.mem_filter.mp h).2) (hNS.1 w h)
  · unfold vx_ot
    rw [Bool.or_eq_true]
    rcases List.mem_cons.mp hw with rfl | hw
    · exact Or.inr (List.mem_filter.mp hk).2
    · rcases List.mem_cons.mp hw with rfl | hw
      · exact Or.inr (List.mem_filter.mp hini).2
      · rcases hat w hw with h | h
        · exact Or.inr (List.mem_filter.mp h).2
        · exact Or.inl (me_bad_onT (List.mem_filter.mp h).2)
  · show 2 + 3 < R.frames
    omega
  · rw [me_wd_cat]
    show _ + 82 ≤ _
    omega
  · subst ho
    refine ⟨k, rfl, rfl, fun k' hk' i hi => ?_, Nat.le_trans hS.1 hsz1, fun q h1 h2 => ?_⟩
    · have h := hW k' hk' i hi
      exact h.kept (hkeep _ h.lt)
    · rw [hkeep q (Nat.lt_of_lt_of_le h1 hS.1)]
      exact hS.2.1 q h1 h2
end MeThrow
