/-! MORE ROWS: constants, strings, statics, switches, copies, exceptions that go through -/
def me_n32 (r : UInt32) : Bool := decide (r &&& 0x7fffffff ≤ 0x7f800000)
theorem me_n32s {r : UInt32} (h : me_n32 r = true) : vf_n32 r := by unfold vf_n32; unfold me_n32 at h; exact of_decide_eq_true h
def me_n64 (r : UInt64) : Bool := decide (r &&& 0x7fffffffffffffff ≤ 0x7ff0000000000000)
theorem me_n64s {r : UInt64} (h : me_n64 r = true) : vf_n64 r := by unfold vf_n64; unfold me_n64 at h; exact of_decide_eq_true h
def me_min' (x y : Int32) : Int32 := if y < x then y else x
def me_tabok (lo hi : Int) (offs : Array Int) (x : Int32) (off : Int) : Bool := decide (¬ x.toInt < lo) && (decide (¬ hi < x.toInt) && decide (offs[(x.toInt - lo).toNat]? = some off))
def me_nk (x : Int32) : List Int32 → Prop
  | [] => True
  | k :: r => ¬ x = k ∧ me_nk x r
theorem me_nk_of {x : Int32} : ∀ {ks : List Int32}, me_nk x ks → ∀ k ∈ ks, ¬ x = k
  | [], _, k, hk => by cases hk
  | a :: r, h, k, hk => by
    rcases List.mem_cons.mp hk with rfl | hk
    · exact h.1
    · exact me_nk_of h.2 k hk
def me_tabkeys (dflt lo hi : Int) (offs : Array Int) (keys : List Int32) : Bool := decide (hi - lo + 1 = (offs.size : Int)) && (List.range offs.size).all (fun n => decide (offs[n]? = some dflt) || (decide ((Int32.ofInt (lo + n)).toInt = lo + n) && keys.contains (Int32.ofInt (lo + n))))
def me_lookeys (dflt : Int) (ps : List (Int × Int)) (keys : List Int32) : Bool := ps.all (fun q => decide (q.2 = dflt) || (decide ((Int32.ofInt q.1).toInt = q.1) && keys.contains (Int32.ofInt q.1)))
theorem me_look {dflt : Int} {x : Int32} {keys : List Int32} (hx : me_nk x keys) : ∀ {ps : List (Int × Int)}, me_lookeys dflt ps keys = true → Op.lookupswitch.offset ps dflt x.toInt = dflt
  | [], _ => rfl
  | (a, o) :: r, h => by
    unfold me_lookeys at h
    rw [List.all_cons, Bool.and_eq_true] at h
    rw [Op.lookupswitch.offset_cons]
    by_cases e : a = x.toInt
    · rw [if_pos e]
      rcases Bool.or_eq_true_iff.mp h.1 with h1 | h1
      · exact of_decide_eq_true h1
      · rw [Bool.and_eq_true, decide_eq_true_eq, List.contains_iff_mem] at h1
        exact absurd (Int32.toInt_inj.mp (by rw [← e]; exact h1.1.symm)) (me_nk_of hx _ h1.2)
    · rw [if_neg e]
      exact me_look hx h.2
section MeMor
variable {X : me_X} {own : String} {cc : ByteArray} {nL : Nat} {ret : Option FieldType} {B B0 : me_B} {nc ns : Nat} {μ : me_M} {pc : Nat} {L : List (Nat × me_V)} {st : List me_V} {sz fr lo mc ms : Nat} {out : me_O}
theorem me_ldc (C : me_C X B own cc nL ret) {idx : Nat} {v : Int32} (hdg : decode cc pc = .ok (.ldc idx, 2)) (hw : Cond.constant own idx v ∈ me_gw) (k : me_Z X B nc ns μ (pc + 2) L (me_i v :: st)) : me_Z X B nc ns μ pc L (st) := by
  obtain ⟨p, l, e, R, s, m, args, below, meth, c, Q, E, A0, nL'⟩ := X
  obtain ⟨hx, hb, hml, rfl, hown, hts, hK, hlocks, hret, hnt, hF, hNS, hfresh⟩ := C
  intro H locs ls hW hS hl hL hst hJ hA
  exact lv_ldc hx hb hown (hts _ hw) hdg (k H locs ls hW hS hl hL (me_okc trivial hst) hJ hA)
theorem me_ldcw (C : me_C X B own cc nL ret) {idx : Nat} {v : Int32} (hdg : decode cc pc = .ok (.ldc_w idx, 3)) (hw : Cond.constant own idx v ∈ me_gw) (k : me_Z X B nc ns μ (pc + 3) L (me_i v :: st)) : me_Z X B nc ns μ pc L (st) := by
  obtain ⟨p, l, e, R, s, m, args, below, meth, c, Q, E, A0, nL'⟩ := X
  obtain ⟨hx, hb, hml, rfl, hown, hts, hK, hlocks, hret, hnt, hF, hNS, hfresh⟩ := C
  intro H locs ls hW hS hl hL hst hJ hA
  exact lv_ldcw hx hb hown (hts _ hw) hdg (k H locs ls hW hS hl hL (me_okc trivial hst) hJ hA)
theorem me_ldcS (C : me_C X B own cc nL ret) {idx i : Nat} {tx : String} (hs : (own, idx, tx, i) ∈ me_S3) (hdg : decode cc pc = .ok (.ldc idx, 2)) (k : me_Z X B nc ns μ (pc + 2) L (.inl (.ref (B.1 200 i)) :: st)) : me_Z X B nc ns μ pc L (st) := by
  obtain ⟨p, l, e, R, s, m, args, below, meth, c, Q, E, A0, nL'⟩ := X
  obtain ⟨hx, hb, hml, rfl, hown, hts, hK, hlocks, hret, hnt, hF, hNS, hfresh⟩ := C
  intro H locs ls hW hS hl hL hst hJ hA
  exact va_ldcS hx hb hown (hNS.2.2.1 _ hs) hdg (k H locs ls hW hS hl hL (me_okc trivial hst) hJ hA)
theorem me_ldcSw (C : me_C X B own cc nL ret) {idx i : Nat} {tx : String} (hs : (own, idx, tx, i) ∈ me_S3) (hdg : decode cc pc = .ok (.ldc_w idx, 3)) (k : me_Z X B nc ns μ (pc + 3) L (.inl (.ref (B.1 200 i)) :: st)) : me_Z X B nc ns μ pc L (st) := by
  obtain ⟨p, l, e, R, s, m, args, below, meth, c, Q, E, A0, nL'⟩ := X
  obtain ⟨hx, hb, hml, rfl, hown, hts, hK, hlocks, hret, hnt, hF, hNS, hfresh⟩ := C
  intro H locs ls hW hS hl hL hst hJ hA
  intro T hT X'
  obtain ⟨t, a1, b1⟩ := (k H locs ls hW hS hl hL (me_okc trivial hst) hJ hA) T hT X'
  exact ⟨t, X'.ldcStringW hx hown (text := tx) (a := B.1 200 i) (hNS.2.2.1 _ hs).1 (hNS.2.2.1 _ hs).2 (g := F0 m pc ls _) rfl (by rw [hb]; exact hdg) t a1, b1⟩
theorem me_getcod (C : me_C X B own cc nL ret) {idx i : Nat} (hi : i < 2) (hw : Cond.fieldLink own idx "java/lang/String" "coder" "B" ∈ me_gw) (hdg : decode cc pc = .ok (.getfield idx, 3)) (k : me_Z X B nc ns μ (pc + 3) L (me_i 0 :: st)) : me_Z X B nc ns μ pc L (.inl (.ref (B.1 200 i)) :: st) := by
  obtain ⟨p, l, e, R, s, m, args, below, meth, c, Q, E, A0, nL'⟩ := X
  obtain ⟨hx, hb, hml, rfl, hown, hts, hK, hlocks, hret, hnt, hF, hNS, hfresh⟩ := C
  intro H locs ls hW hS hl hL hst hJ hA
  exact vk_getf hx hb (hF.2.2.1 i hi).2.1 hS hown (hts _ hw) (fun x h => h) hdg (k H locs ls hW hS hl hL (me_okc trivial (me_okt hst)) hJ hA)
theorem me_getval (C : me_C X B own cc nL ret) {idx i : Nat} (hi : i < 2) (hw : Cond.fieldLink own idx "java/lang/String" "value" "[B" ∈ me_gw) (hdg : decode cc pc = .ok (.getfield idx, 3)) (k : me_Z X B nc ns μ (pc + 3) L (.inl (.ref (B.1 201 i)) :: st)) : me_Z X B nc ns μ pc L (.inl (.ref (B.1 200 i)) :: st) := by
  obtain ⟨p, l, e, R, s, m, args, below, meth, c, Q, E, A0, nL'⟩ := X
  obtain ⟨hx, hb, hml, rfl, hown, hts, hK, hlocks, hret, hnt, hF, hNS, hfresh⟩ := C
  intro H locs ls hW hS hl hL hst hJ hA
  exact vk_getf hx hb (hF.2.2.1 i hi).2.2.1 hS hown (hts _ hw) (fun x h => h) hdg (k H locs ls hW hS hl hL (me_okc trivial (me_okt hst)) hJ hA)
theorem me_slen (C : me_C X B own cc nL ret) {i : Nat} (hi : i < 2) (hdg : decode cc pc = .ok (.arraylength, 1)) (k : me_Z X B nc ns μ (pc + 1) L (me_i (Int32.ofNat (me_sb i).length) :: st)) : me_Z X B nc ns μ pc L (.inl (.ref (B.1 201 i)) :: st) := by
  obtain ⟨p, l, e, R, s, m, args, below, meth, c, Q, E, A0, nL'⟩ := X
  obtain ⟨hx, hb, hml, rfl, hown, hts, hK, hlocks, hret, hnt, hF, hNS, hfresh⟩ := C
  intro H locs ls hW hS hl hL hst hJ hA
  exact va_tlen hx hb (hF.2.2.1 i hi).2.2.2 hS rfl hdg (k H locs ls hW hS hl hL (me_okc trivial (me_okt hst)) hJ hA)
theorem me_sbl (C : me_C X B own cc nL ret) {i : Nat} {x : Int32} (hi : i < 2) (hin : me_inb x (me_sb i).length = true) (hdg : decode cc pc = .ok (.baload, 1)) (k : me_Z X B nc ns μ (pc + 1) L (me_i ((me_sb i).getD (me_ix x) 0) :: st)) : me_Z X B nc ns μ pc L (me_i x :: .inl (.ref (B.1 201 i)) :: st) := by
  obtain ⟨p, l, e, R, s, m, args, below, meth, c, Q, E, A0, nL'⟩ := X
  obtain ⟨hx, hb, hml, rfl, hown, hts, hK, hlocks, hret, hnt, hF, hNS, hfresh⟩ := C
  intro H locs ls hW hS hl hL hst hJ hA
  exact va_tb hx hb (hF.2.2.1 i hi).2.2.2 hS (me_inb_in hin) rfl hdg (k H locs ls hW hS hl hL (me_okc trivial (me_okt (me_okt hst))) hJ hA)
theorem me_gcs (C : me_C X B own cc nL ret) {idx : Nat} (hw : Cond.fieldLink own idx "java/lang/String" "COMPACT_STRINGS" "Z" ∈ me_gw) (hdg : decode cc pc = .ok (.getstatic idx, 3)) (k : me_Z X B nc ns μ (pc + 3) L (me_i 1 :: st)) : me_Z X B nc ns μ pc L (st) := by
  obtain ⟨p, l, e, R, s, m, args, below, meth, c, Q, E, A0, nL'⟩ := X
  obtain ⟨hx, hb, hml, rfl, hown, hts, hK, hlocks, hret, hnt, hF, hNS, hfresh⟩ := C
  intro H locs ls hW hS hl hL hst hJ hA
  exact va_gets hx hb hF.2.2.2.1 hS hown (hts _ hw) (fun x h => h) hdg (k H locs ls hW hS hl hL (me_okc trivial hst) hJ hA)
theorem me_oppl (C : me_C X B own cc nL ret) {x : Int32} (hin : me_inb x B.2.2.2.1 = true) (hdg : decode cc pc = .ok (.iaload, 1)) (k : me_Z X B nc ns μ (pc + 1) L (me_i (B.2.2.2.2 (me_ix x)) :: st)) : me_Z X B nc ns μ pc L (me_i x :: .inl (.ref (B.1 202 0)) :: st) := by
  obtain ⟨p, l, e, R, s, m, args, below, meth, c, Q, E, A0, nL'⟩ := X
  obtain ⟨hx, hb, hml, rfl, hown, hts, hK, hlocks, hret, hnt, hF, hNS, hfresh⟩ := C
  intro H locs ls hW hS hl hL hst hJ hA
  exact va_ti hx hb hF.2.2.2.2.2 hS (me_inb_in hin) rfl hdg (k H locs ls hW hS hl hL (me_okc trivial (me_okt (me_okt hst))) hJ hA)
theorem me_oppn (C : me_C X B own cc nL ret) (hdg : decode cc pc = .ok (.arraylength, 1)) (k : me_Z X B nc ns μ (pc + 1) L (me_i (Int32.ofNat B.2.2.2.1) :: st)) : me_Z X B nc ns μ pc L (.inl (.ref (B.1 202 0)) :: st) := by
  obtain ⟨p, l, e, R, s, m, args, below, meth, c, Q, E, A0, nL'⟩ := X
  obtain ⟨hx, hb, hml, rfl, hown, hts, hK, hlocks, hret, hnt, hF, hNS, hfresh⟩ := C
  intro H locs ls hW hS hl hL hst hJ hA
  exact va_tlen hx hb hF.2.2.2.2.2 hS rfl hdg (k H locs ls hW hS hl hL (me_okc trivial (me_okt hst)) hJ hA)
theorem me_gsio (C : me_C X B own cc nL ret) {idx : Nat} (hw : Cond.fieldLink own idx "jdk/internal/util/Preconditions" "SIOOBE_FORMATTER" "Ljava/util/function/BiFunction;" ∈ me_gw) (hdg : decode cc pc = .ok (.getstatic idx, 3)) (k : ∀ v : Value, (v = .null ∨ ∃ q, v = .ref q) → me_Z X B nc ns μ (pc + 3) L (.inl v :: st)) : me_Z X B nc ns μ pc L st := by
  obtain ⟨p, l, e, R, s, m, args, below, meth, c, Q, E, A0, nL'⟩ := X
  obtain ⟨hx, hb, hml, rfl, hown, hts, hK, hlocks, hret, hnt, hF, hNS, hfresh⟩ := C
  intro H locs ls hW hS hl hL hst hJ hA
  rcases hF.2.2.2.2.1 with h | ⟨t, h⟩
  · exact va_gets hx hb h hS hown (hts _ hw) (fun x h => h) hdg (k .null (Or.inl rfl) H locs ls hW hS hl hL (me_okc trivial hst) hJ hA)
  · exact va_gets hx hb h hS hown (hts _ hw) (fun x h => h) hdg (k (.ref t) (Or.inr ⟨_, rfl⟩) H locs ls hW hS hl hL (me_okc trivial hst) hJ hA)
theorem me_i2b (C : me_C X B own cc nL ret) {x : Int32} (hdg : decode cc pc = .ok (.i2b, 1)) (k : me_Z X B nc ns μ (pc + 1) L (me_i x.toInt8.toInt32 :: st)) : me_Z X B nc ns μ pc L (me_i x :: st) := by
  obtain ⟨p, l, e, R, s, m, args, below, meth, c, Q, E, A0, nL'⟩ := X
  obtain ⟨hx, hb, hml, rfl, hown, hts, hK, hlocks, hret, hnt, hF, hNS, hfresh⟩ := C
  intro H locs ls hW hS hl hL hst hJ hA
  exact lv_i2b hx hb hdg rfl (k H locs ls hW hS hl hL (me_okc trivial (me_okt hst)) hJ hA)
theorem me_tab (C : me_C X B own cc nL ret) {dflt lo hi : Int} {offs : Array Int} {len : Nat} {x : Int32} (off : Int) {tgt : Nat} (hdg : decode cc pc = .ok (.tableswitch dflt lo hi offs, len)) (h : me_tabok lo hi offs x off = true) (ht : (pc : Int) + off = (tgt : Int)) (k : me_Z X B nc ns μ tgt L st) : me_Z X B nc ns μ pc L (me_i x :: st) := by
  obtain ⟨p, l, e, R, s, m, args, below, meth, c, Q, E, A0, nL'⟩ := X
  obtain ⟨hx, hb, hml, rfl, hown, hts, hK, hlocks, hret, hnt, hF, hNS, hfresh⟩ := C
  intro H locs ls hW hS hl hL hst hJ hA
  unfold me_tabok at h
  rw [Bool.and_eq_true, Bool.and_eq_true, decide_eq_true_eq, decide_eq_true_eq, decide_eq_true_eq] at h
  exact lv_tableIn hx hb hdg h.1 h.2.1 h.2.2 ht (k H locs ls hW hS hl hL (me_okt hst) hJ hA)
theorem me_tabD (C : me_C X B own cc nL ret) {dflt lo hi : Int} {offs : Array Int} {len : Nat} {x : Int32} (keys : List Int32) {tgt : Nat} (hdg : decode cc pc = .ok (.tableswitch dflt lo hi offs, len)) (hk : me_tabkeys dflt lo hi offs keys = true) (hxk : me_nk x keys) (ht : (pc : Int) + dflt = (tgt : Int)) (k : me_Z X B nc ns μ tgt L st) : me_Z X B nc ns μ pc L (me_i x :: st) := by
  obtain ⟨p, l, e, R, s, m, args, below, meth, c, Q, E, A0, nL'⟩ := X
  obtain ⟨hx, hb, hml, rfl, hown, hts, hK, hlocks, hret, hnt, hF, hNS, hfresh⟩ := C
  intro H locs ls hW hS hl hL hst hJ hA
  have K := k H locs ls hW hS hl hL (me_okt hst) hJ hA
  by_cases h0 : x.toInt < lo ∨ hi < x.toInt
  · exact lv_tableOut hx hb hdg h0 ht K
  · unfold me_tabkeys at hk
    rw [Bool.and_eq_true, decide_eq_true_eq] at hk
    have h1 : ¬ x.toInt < lo := fun q => h0 (Or.inl q)
    have h2 : ¬ hi < x.toInt := fun q => h0 (Or.inr q)
    have h3 := List.all_eq_true.mp hk.2 (x.toInt - lo).toNat (List.mem_range.mpr (by omega))
    have e : lo + ((x.toInt - lo).toNat : Int) = x.toInt := by omega
    rcases Bool.or_eq_true_iff.mp h3 with h4 | h4
    · exact lv_tableIn hx hb hdg h1 h2 (of_decide_eq_true h4) ht K
    · rw [e, Bool.and_eq_true, decide_eq_true_eq, List.contains_iff_mem] at h4
      exact absurd (Int32.toInt_inj.mp h4.1.symm) (me_nk_of hxk _ h4.2)
theorem me_loo (C : me_C X B own cc nL ret) {dflt : Int} {ps : Array (Int × Int)} {len : Nat} {x : Int32} (off : Int) {tgt : Nat} (hdg : decode cc pc = .ok (.lookupswitch dflt ps, len)) (hp : (ps.toList.zip (ps.toList.drop 1)).all (fun (a, next) => a.1 < next.1) = true) (h : Op.lookupswitch.offset ps.toList dflt x.toInt = off) (ht : (pc : Int) + off = (tgt : Int)) (k : me_Z X B nc ns μ tgt L st) : me_Z X B nc ns μ pc L (me_i x :: st) := by
  obtain ⟨p, l, e, R, s, m, args, below, meth, c, Q, E, A0, nL'⟩ := X
  obtain ⟨hx, hb, hml, rfl, hown, hts, hK, hlocks, hret, hnt, hF, hNS, hfresh⟩ := C
  intro H locs ls hW hS hl hL hst hJ hA
  exact lv_lookup hx hb hdg hp h ht (k H locs ls hW hS hl hL (me_okt hst) hJ hA)
theorem me_looD (C : me_C X B own cc nL ret) {dflt : Int} {ps : Array (Int × Int)} {len : Nat} {x : Int32} (keys : List Int32) {tgt : Nat} (hdg : decode cc pc = .ok (.lookupswitch dflt ps, len)) (hp : (ps.toList.zip (ps.toList.drop 1)).all (fun (a, next) => a.1 < next.1) = true) (hk : me_lookeys dflt ps.toList keys = true) (hxk : me_nk x keys) (ht : (pc : Int) + dflt = (tgt : Int)) (k : me_Z X B nc ns μ tgt L st) : me_Z X B nc ns μ pc L (me_i x :: st) := by
  obtain ⟨p, l, e, R, s, m, args, below, meth, c, Q, E, A0, nL'⟩ := X
  obtain ⟨hx, hb, hml, rfl, hown, hts, hK, hlocks, hret, hnt, hF, hNS, hfresh⟩ := C
  intro H locs ls hW hS hl hL hst hJ hA
  exact lv_lookup hx hb hdg hp (me_look hxk hk) ht (k H locs ls hW hS hl hL (me_okt hst) hJ hA)
def me_cpok (sp dp ln : Int32) (N : Nat) : Bool := decide (¬ sp < 0) && (decide (¬ dp < 0) && (decide (¬ ln < 0) && (decide (sp.toNatClampNeg + ln.toNatClampNeg ≤ N) && decide (dp.toNatClampNeg + ln.toNatClampNeg ≤ N))))
def me_cpy (μ : me_M) (k i : Nat) (sp dp ln : Int32) : me_M := fun k' i' j' => if k' = k ∧ i' = i then va_cpy (μ k i) (μ k i) sp.toNatClampNeg dp.toNatClampNeg ln.toNatClampNeg j' else μ k' i' j'
theorem me_ct_eq {E : me_G} {B : me_B} {μ μ' : me_M} {k i : Nat} (h : ∀ k' i', ¬ (k' = k ∧ i' = i) → μ' k' i' = μ k' i') : ∀ k' i', ¬ (k' = k ∧ i' = i) → me_ct E B μ' k' i' = me_ct E B μ k' i' := by
  intro k' i' hn
  unfold me_ct me_fs
  simp only [h k' i' hn]
theorem me_mi_code : Cond.code Lib.Math.min.name Lib.Math.min.code 2 (some .int) ∈ me_gw := (me_gm 884 (by decide +kernel) (by decide +kernel))
theorem me_mi_stat : Cond.static Lib.Math.min.name ∈ me_gw := (me_gm 883 (by decide +kernel) (by decide +kernel))
theorem me_mmin (C : me_C X B own cc nL ret) (N : me_En X B0 sz out fr lo mc ms) {idx : Nat} {x y : Int32} (hl0 : Cond.methodLink own idx Lib.Math.min.name ∈ me_gw) (hdg : decode cc pc = .ok (.invokestatic idx, 3)) (hR : 1 ≤ fr ∧ 24 ≤ lo) (hw : me_wd st ≤ 8) (h1 : nc ≤ mc) (h2 : ns ≤ ms) (k : me_Z X B nc ns μ (pc + 3) L (me_i (me_min' x y) :: st)) : me_Z X B nc ns μ pc L (me_i y :: me_i x :: st) := by
  obtain ⟨p, l, e, R, s, m, args, below, meth, c, Q, E, A0, nL'⟩ := X
  obtain ⟨hx, hb, hml, rfl, hown, hts, hK, hlocks, hret, hnt, hF, hNS, hfresh⟩ := C
  obtain ⟨-, -, -, hRc, hRs, hRf, hRl⟩ := N
  intro H locs ls hW hS hl hL hst hJ hA
  exact va_mmin hx hb (hml.trans hl.1.symm) hown (hts _ hl0) (hts _ me_mi_stat) (hts _ me_ma_ini) (hts _ me_mi_code) (by omega) (by rw [me_wd_cat]; omega) (by omega) (by omega) hdg (k H locs ls hW hS hl hL (me_okc trivial (me_okt (me_okt hst))) hJ hA)
end MeMor
section MeCallE
variable {X : me_X} {own : String} {cc : ByteArray} {nL : Nat} {ret : Option FieldType} {B B0 : me_B} {nc ns : Nat} {μ : me_M} {pc : Nat} {L : List (Nat × me_V)} {st S : List me_V} {sz fr lo mc ms : Nat} {out : me_O}
variable {y : MethodName} {cc' : ByteArray} {maxL' : Nat} {ret' : Option FieldType} {fr' lo' mc' ms' : Nat} {As : List me_V} {o : me_O} {idx n : Nat}
theorem me_callVE (C : me_C X B own cc nL ret) (N : me_En X B0 sz out fr lo mc ms) {k i ci N0 : Nat} {μ' : me_M} {q : Nat} (nc' ns' : Nat) (hM : ∀ l E z, l.stackTraces = false → me_Met l y cc' maxL' ret' fr' lo' mc' ms' E B μ z (me_r k i :: As) (B, μ', .error q)) (mv : me_MV y cc' maxL' ret' n) (hl0 : Cond.methodLink own idx y ∈ me_gw) (hk : me_kt k = (0, ci, N0)) (hcl : (vwCl[ci]?).map (fun q => q.1) = some y.cls) (hdg : decode cc pc = .ok (.invokevirtual idx, 3)) (hs : S = As.reverse ++ me_r k i :: st) (hn : As.length = n) (hR : fr' + 1 ≤ fr ∧ 8 + (maxL' + 11) + lo' ≤ lo) (hc : nc + mc' ≤ nc' ∧ ns + ms' ≤ ns' ∧ nc' ≤ mc ∧ ns' ≤ ms) (hw : me_wd st ≤ 8)
    (kx : me_ZX X B nc' ns' μ' pc L q) : me_Z X B nc ns μ pc L S :=
  me_callVX C N nc' ns' hM mv hl0 hk hcl hdg hs hn hR hc hw rfl (fun rv h => by cases h) (fun k h => by cases h; exact kx)
theorem me_callSE (C : me_C X B own cc nL ret) (N : me_En X B0 sz out fr lo mc ms) {μ' : me_M} {q : Nat} (nc' ns' : Nat) (hM : ∀ l E z, l.stackTraces = false → me_Met l y cc' maxL' ret' fr' lo' mc' ms' E B μ z As (B, μ', .error q)) (mv : me_MS y cc' maxL' ret' n) (hl0 : Cond.methodLink own idx y ∈ me_gw) (hdg : decode cc pc = .ok (.invokestatic idx, 3)) (hs : S = As.reverse ++ st) (hn : As.length = n) (hR : fr' + 1 ≤ fr ∧ 8 + (maxL' + 11) + lo' ≤ lo) (hc : nc + mc' ≤ nc' ∧ ns + ms' ≤ ns' ∧ nc' ≤ mc ∧ ns' ≤ ms) (hw : me_wd st ≤ 8)
    (kx : me_ZX X B nc' ns' μ' pc L q) : me_Z X B nc ns μ pc L S :=
  me_callSX C N nc' ns' hM mv hl0 hdg hs hn hR hc hw rfl (fun rv h => by cases h) (fun k h => by cases h; exact kx)
/-- a call over a string -/
theorem me_callG (C : me_C X B own cc nL ret) (N : me_En X B0 sz out fr lo mc ms) {i : Nat} {μ' : me_M} {v : me_V} (hi : i < 2) (nc' ns' : Nat) (hM : ∀ l E z, l.stackTraces = false → me_Met l y cc' maxL' ret' fr' lo' mc' ms' E B μ z (.inl (.ref (B.1 200 i)) :: As) (B, μ', .ok (some v))) (mv : me_MV y cc' maxL' ret' n) (hl0 : Cond.methodLink own idx y ∈ me_gw) (hcl : y.cls = "java/lang/String")
    (hdg : decode cc pc = .ok (.invokevirtual idx, 3)) (hs : S = As.reverse ++ .inl (.ref (B.1 200 i)) :: st) (hn : As.length = n) (hR : fr' + 1 ≤ fr ∧ 8 + (maxL' + 11) + lo' ≤ lo) (hc : nc + mc' ≤ nc' ∧ ns + ms' ≤ ns' ∧ nc' ≤ mc ∧ ns' ≤ ms) (hw : me_wd st ≤ 8)
    (kk : me_Z X B nc' ns' μ' (pc + 3) L (v :: st)) : me_Z X B nc ns μ pc L S := by
  obtain ⟨p, l, e, R, s, m, args, below, meth, c, Q, E, A0, nL'⟩ := X
  obtain ⟨hx, hb, hml, rfl, hown, hts, hK, hlocks, hret, hnt, hF, hNS, hfresh⟩ := C
  obtain ⟨-, -, -, hRc, hRs, hRf, hRl⟩ := N
  intro H locs ls hW hS hl hL hst hJ hA
  subst hs
  have hAs : ∀ v ∈ (Sum.inl (Value.ref (B.1 200 i)) : me_V) :: As, me_ok B v := fun v hv => by
    rcases List.mem_cons.mp hv with rfl | hv
    · trivial
    · exact hst _ (List.mem_append_left _ (List.mem_reverse.mpr hv))
  have hst' : ∀ v ∈ st, me_ok B v := fun v hv => hst v (List.mem_append_right _ (List.mem_cons_of_mem _ hv))
  have hrc : ∃ cell : Cell, H[B.1 200 i]? = some cell ∧ cell.vm.isStatics = false ∧ s.vm.findClass y.cls = some cell.cls := by
    obtain ⟨cell, h1, h2, h3, -⟩ := (hF.2.2.1 i hi).1.kept hS.2.1
    exact ⟨cell, h1, h2, by rw [hcl]; exact h3⟩
  obtain ⟨g1, g2, g3, g4, g5, g6⟩ := mv
  have cw : CallW R s args own y.cls idx y cc' maxL' ret' (.code y cc' maxL' ret' :: me_gw) { frames := fr', cells := mc', slots := ms', locals := lo' } mc' ms' n := ⟨me_callB hts g1 g2 g3 g4 hl0 (Nat.le_trans hR.1 hRf) (Nat.le_trans hR.2 hRl), hts _ g5, hts _ g6⟩
  have hp : PreV s H y.cls (B.1 200 i) (me_P E B μ H.size (.inl (.ref (B.1 200 i)) :: As)) (As.map (me_cv B)) := ⟨me_P.blind, hrc, me_Pof (As := .inl (.ref (B.1 200 i)) :: As) hW hJ hAs hK hF hNS hS hA hfresh⟩
  have hstk : (As.reverse ++ (Sum.inl (Value.ref (B.1 200 i)) : me_V) :: st).map (me_cv B) = (As.map (me_cv B)).reverse ++ .ref (B.1 200 i) :: st.map (me_cv B) := by simp [List.map_append, List.map_reverse, me_cv]
  rw [hstk]
  refine me_run (o := (B, μ', .ok (some v))) (nc' := nc') (ns' := ns') (vx_runV (As := As.map (me_cv B)) (rest := st.map (me_cv B)) (g := F0 m pc ls ((As.map (me_cv B)).reverse ++ .ref (B.1 200 i) :: st.map (me_cv B))) ⟨hx, hb, hml, hown, hts⟩ (hM l E H.size hnt) cw hp rfl (by simpa using hn) hl.1 rfl ?_ hdg ⟨by omega, by omega⟩) hS hl hL hst' hJ hA hfresh hc.1 hc.2.1 rfl (fun rv h => by cases h; exact kk) (fun k h => by cases h)
  show 2 * 0 + _ ≤ 8
  rw [me_wd_cat]
  omega
end MeCallE
