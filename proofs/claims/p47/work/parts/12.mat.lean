/-! CALLS of Math.max, Math.abs -/
theorem me_mx_code : Cond.code Lib.Math.max.name Lib.Math.max.code 2 (some .int) ∈ me_gw := (me_gm 677 (by decide +kernel) (by decide +kernel))
theorem me_mx_stat : Cond.static Lib.Math.max.name ∈ me_gw := (me_gm 676 (by decide +kernel) (by decide +kernel))
theorem me_ab_code : Cond.code Lib.Math.abs.name Lib.Math.abs.code 1 (some .int) ∈ me_gw := (me_gm 688 (by decide +kernel) (by decide +kernel))
theorem me_ab_stat : Cond.static Lib.Math.abs.name ∈ me_gw := (me_gm 687 (by decide +kernel) (by decide +kernel))
theorem me_ma_ini : Cond.initialized "java/lang/Math" ∈ me_gw := (me_gm 48 (by decide +kernel) (by decide +kernel))
section MeMath
variable {X : me_X} {own : String} {cc : ByteArray} {nL : Nat} {ret : Option FieldType} {B B0 : me_B} {nc ns : Nat} {μ : me_M} {pc : Nat} {L : List (Nat × me_V)} {st : List me_V} {sz fr lo mc ms : Nat} {out : me_O}
theorem me_mmax (C : me_C X B own cc nL ret) (N : me_En X B0 sz out fr lo mc ms) {idx : Nat} {x y : Int32} (hl0 : Cond.methodLink own idx Lib.Math.max.name ∈ me_gw) (hdg : decode cc pc = .ok (.invokestatic idx, 3)) (hR : 1 ≤ fr ∧ 24 ≤ lo) (hw : me_wd st ≤ 8) (h1 : nc ≤ mc) (h2 : ns ≤ ms) (k : me_Z X B nc ns μ (pc + 3) L (me_i (me_max' x y) :: st)) : me_Z X B nc ns μ pc L (me_i y :: me_i x :: st) := by
  obtain ⟨p, l, e, R, s, m, args, below, meth, c, Q, E, A0, nL'⟩ := X
  obtain ⟨hx, hb, hml, rfl, hown, hts, hK, hlocks, hret, hnt, hF, hNS, hfresh⟩ := C
  obtain ⟨-, -, -, hRc, hRs, hRf, hRl⟩ := N
  intro H locs ls hW hS hl hL hst hJ hA
  exact va_mmax hx hb (hml.trans hl.1.symm) hown (hts _ hl0) (hts _ me_mx_stat) (hts _ me_ma_ini) (hts _ me_mx_code) (by omega) (by rw [me_wd_cat]; omega) (by omega) (by omega) hdg (k H locs ls hW hS hl hL (me_okc trivial (me_okt (me_okt hst))) hJ hA)
theorem me_mabs (C : me_C X B own cc nL ret) (N : me_En X B0 sz out fr lo mc ms) {idx : Nat} {x : Int32} (hl0 : Cond.methodLink own idx Lib.Math.abs.name ∈ me_gw) (hdg : decode cc pc = .ok (.invokestatic idx, 3)) (hR : 1 ≤ fr ∧ 24 ≤ lo) (hw : me_wd st ≤ 8) (h1 : nc ≤ mc) (h2 : ns ≤ ms) (k : me_Z X B nc ns μ (pc + 3) L (me_i (me_abs' x) :: st)) : me_Z X B nc ns μ pc L (me_i x :: st) := by
  obtain ⟨p, l, e, R, s, m, args, below, meth, c, Q, E, A0, nL'⟩ := X
  obtain ⟨hx, hb, hml, rfl, hown, hts, hK, hlocks, hret, hnt, hF, hNS, hfresh⟩ := C
  obtain ⟨-, -, -, hRc, hRs, hRf, hRl⟩ := N
  intro H locs ls hW hS hl hL hst hJ hA
  exact va_mabs hx hb (hml.trans hl.1.symm) hown (hts _ hl0) (hts _ me_ab_stat) (hts _ me_ma_ini) (hts _ me_ab_code) (by omega) (by rw [me_wd_cat]; omega) (by omega) (by omega) hdg (k H locs ls hW hS hl hL (me_okc trivial (me_okt hst)) hJ hA)
end MeMath
