/-! MULTIDIMENSIONAL ARRAYS of the reference: the shapes -/
def me_Li (e : Env) : Prop := 1000 ≤ e.platform.arrayLengthLimit ∧ 1000 ≤ e.platform.maxHeapBytes
theorem me_kind {E : me_G} {s : State} {vm : Vm} {ai : Nat} {ty : FieldType} (hK : va_K E.1 vwCl (me_ty E.2) s) (hal : s.vm.Alike vm) (ht : (me_ty E.2)[ai]? = some (E.2 ai, ty)) : ∃ (k : Class) (comp : ClassId), vm.classes[E.2 ai]? = some k ∧ k.kind = .array comp ty := by
  obtain ⟨-, kA, h2, comp, h3⟩ := (hK.2 ai _ ht).1 0 (fun _ => .null)
  obtain ⟨k', hk', he⟩ := hal.2.2 _ _ h2
  exact ⟨k', comp, hk', by rw [he]; exact h3⟩
theorem me_kindA {E : me_G} {s : State} {vm : Vm} {ai a1 : Nat} {t : FieldType} (hK : va_K E.1 vwCl (me_ty E.2) s) (hal : s.vm.Alike vm) (ht : (me_ty E.2)[ai]? = some (E.2 ai, .array t)) (h1 : (me_ty E.2)[a1]? = some (E.2 a1, t)) (hn : ("[" ++ t.toString) = (FieldType.array t).toString) (ha : me_AR (.array t) s) : ∃ k : Class, vm.classes[E.2 ai]? = some k ∧ k.kind = .array (E.2 a1) (.array t) := by
  obtain ⟨c, k, comp, g1, g2, g3, g4⟩ := ha
  have e1 : E.2 ai = c := me_RA (hK.2 ai _ ht).2 g1
  have e2 : E.2 a1 = comp := me_RA (hK.2 a1 _ h1).2 (by rw [hn]; exact g4)
  obtain ⟨k', hk', he⟩ := hal.2.2 _ _ g2
  exact ⟨k', by rw [e1]; exact hk', by rw [he, e2]; exact g3⟩
section MeMul2
variable {X : me_X} {own : String} {cc : ByteArray} {nL : Nat} {ret : Option FieldType} {a : Nat → Nat → Nat} {n : me_Nt} {r : me_Rt} {w : me_w} {nc ns : Nat} {μ : me_M} {pc : Nat} {L : List (Nat × me_V)} {st S : List me_V} {sz fr lo mc ms : Nat}
theorem me_multi2 (C : me_C X (a, n, r, w) own cc nL ret) (hroom : me_Rm X fr lo mc ms) {k idx ai K KS : Nat} {x1 x2 : Int32} {f : me_T3 → me_T3} {gf : me_G → State → State} {ty : FieldType} {name : String} (hao : ∀ (Y : me_X), Y = X → me_AOX Y) (hk : k < me_NK) (hl0 : Cond.classLink own idx name ∈ me_gw) (hty : ∀ cA, (me_ty cA)[ai]? = some (cA ai, .array ty)) (hname : name = "[" ++ (FieldType.array ty).toString) (hG : ∀ E, me_Gr (gf E) K KS) (hMW : ∀ E, me_MkW E (gf E) k f)
    (hWp : ∀ (E : me_G) (e : Env) (s : State) (vm : Vm), me_Li e → va_K E.1 vwCl (me_ty E.2) s → me_AO s → s.vm.Alike vm → me_Wp e vm (E.2 ai) [x1, x2] (gf E) K KS) (hdg : decode cc pc = .ok (.multianewarray idx 2, 4)) (hc : nc + K ≤ mc ∧ ns + KS ≤ ms)
    (kk : ∀ a' : Nat → Nat → Nat, me_agr a n a' (f (n, r, μ)).1 → me_C X (a', (f (n, r, μ)).1, (f (n, r, μ)).2.1, w) own cc nL ret → me_Z X (a', (f (n, r, μ)).1, (f (n, r, μ)).2.1, w) (nc + K) (ns + KS) (f (n, r, μ)).2.2 (pc + 4) L (me_r k (n k) :: st)) : me_Z X (a, n, r, w) nc ns μ pc L (me_i x2 :: me_i x1 :: st) := by
  have C0 := C
  have hao := hao X rfl
  obtain ⟨p, l, e, R, s, m, args, below, meth, c, Q, E, A0, nL'⟩ := X
  obtain ⟨hx, hb, hml, rfl, hown, hts, hK, hlocks, hret, hnt, hF, hNS, hfresh⟩ := C
  obtain ⟨hRc, hRs, hRf, hRl⟩ := hroom
  intro H locs ls hW hS hl hL hst hJ hA
  intro T hT Xs
  have hlim : me_Li e := ⟨by rw [Launch.admits_arrayLengthLimit Xs.admits]; decide, by rw [Launch.admits_maxHeapBytes Xs.admits]; decide⟩
  have hcA : s.vm.findClass name = some (E.2 ai) := by
    rw [hname]
    exact (hK.2 ai _ (hty E.2)).2
  obtain ⟨vm₁, hw1, X1, st1⟩ := me_multiS2 Xs hx hown (hts _ hl0) hcA (g := F0 m pc ls (.int x2 :: .int x1 :: st.map (me_cv (a, n, r, w)))) rfl (by rw [hb]; exact hdg) rfl (hG E) (fun vm hal => hWp E e s vm hlim hK hao hal) (by omega) (by omega)
  obtain ⟨b1, b2, b3, b4⟩ := (hG E).1 (T.setVm vm₁)
  have hsz : (T.setVm vm₁).heap = H := hT
  obtain ⟨a', c1, c2, c3, c4, c5, c6⟩ := hMW E a n r w μ (T.setVm vm₁) (by rw [hsz]; exact hW) hJ
  rw [hsz] at b2 b4 c4 c6
  have hst2 : ∀ v ∈ st, me_ok (a, n, r, w) v := (me_okt (me_okt hst))
  have hS1 : va_S A0 s.heap (gf E (T.setVm vm₁)).heap locs := ⟨Nat.le_trans hS.1 (by omega), fun x h1 h2 => (b4 x (Nat.lt_of_lt_of_le h1 hS.1)).trans (hS.2.1 x h1 h2), hS.2.2⟩
  have K1 := kk a' c1 (C0.ag c1.2) (gf E (T.setVm vm₁)).heap locs ls c2 hS1 (by rw [me_ls_ag c1 hL]; exact hl) (fun q hq => me_ok_ag c1 (hL q hq)) (fun v hv => by
    rcases List.mem_cons.mp hv with rfl | hv
    · exact ⟨hk, c5⟩
    · exact me_ok_ag c1 (hst2 v hv)) c3 (fun q hq => by
    rcases c6 q hq with h | h
    · exact hA q h
    · exact hfresh q (Nat.le_trans hS.1 h))
  have hst1 : (me_r k (n k) :: st).map (me_cv (a', (f (n, r, μ)).1, (f (n, r, μ)).2.1, w)) = .ref H.size :: st.map (me_cv (a, n, r, w)) := by
    rw [List.map_cons, me_map_ag c1 hst2]
    show Value.ref (a' k (n k)) :: _ = _
    rw [c4]
  rw [hst1] at K1
  obtain ⟨t, a1, b1⟩ := K1 (gf E (T.setVm vm₁)) rfl X1
  refine ⟨t, st1 t ?_, b1⟩
  rw [hT]
  exact a1
end MeMul2
section MeMul3
variable {X : me_X} {own : String} {cc : ByteArray} {nL : Nat} {ret : Option FieldType} {a : Nat → Nat → Nat} {n : me_Nt} {r : me_Rt} {w : me_w} {nc ns : Nat} {μ : me_M} {pc : Nat} {L : List (Nat × me_V)} {st S : List me_V} {sz fr lo mc ms : Nat}
theorem me_multi3 (C : me_C X (a, n, r, w) own cc nL ret) (hroom : me_Rm X fr lo mc ms) {k idx ai K KS : Nat} {x1 x2 x3 : Int32} {f : me_T3 → me_T3} {gf : me_G → State → State} {ty : FieldType} {name : String} (hao : ∀ (Y : me_X), Y = X → me_AOX Y) (hk : k < me_NK) (hl0 : Cond.classLink own idx name ∈ me_gw) (hty : ∀ cA, (me_ty cA)[ai]? = some (cA ai, .array ty)) (hname : name = "[" ++ (FieldType.array ty).toString) (hG : ∀ E, me_Gr (gf E) K KS) (hMW : ∀ E, me_MkW E (gf E) k f)
    (hWp : ∀ (E : me_G) (e : Env) (s : State) (vm : Vm), me_Li e → va_K E.1 vwCl (me_ty E.2) s → me_AO s → s.vm.Alike vm → me_Wp e vm (E.2 ai) [x1, x2, x3] (gf E) K KS) (hdg : decode cc pc = .ok (.multianewarray idx 3, 4)) (hc : nc + K ≤ mc ∧ ns + KS ≤ ms)
    (kk : ∀ a' : Nat → Nat → Nat, me_agr a n a' (f (n, r, μ)).1 → me_C X (a', (f (n, r, μ)).1, (f (n, r, μ)).2.1, w) own cc nL ret → me_Z X (a', (f (n, r, μ)).1, (f (n, r, μ)).2.1, w) (nc + K) (ns + KS) (f (n, r, μ)).2.2 (pc + 4) L (me_r k (n k) :: st)) : me_Z X (a, n, r, w) nc ns μ pc L (me_i x3 :: me_i x2 :: me_i x1 :: st) := by
  have C0 := C
  have hao := hao X rfl
  obtain ⟨p, l, e, R, s, m, args, below, meth, c, Q, E, A0, nL'⟩ := X
  obtain ⟨hx, hb, hml, rfl, hown, hts, hK, hlocks, hret, hnt, hF, hNS, hfresh⟩ := C
  obtain ⟨hRc, hRs, hRf, hRl⟩ := hroom
  intro H locs ls hW hS hl hL hst hJ hA
  intro T hT Xs
  have hlim : me_Li e := ⟨by rw [Launch.admits_arrayLengthLimit Xs.admits]; decide, by rw [Launch.admits_maxHeapBytes Xs.admits]; decide⟩
  have hcA : s.vm.findClass name = some (E.2 ai) := by
    rw [hname]
    exact (hK.2 ai _ (hty E.2)).2
  obtain ⟨vm₁, hw1, X1, st1⟩ := me_multiS3 Xs hx hown (hts _ hl0) hcA (g := F0 m pc ls (.int x3 :: .int x2 :: .int x1 :: st.map (me_cv (a, n, r, w)))) rfl (by rw [hb]; exact hdg) rfl (hG E) (fun vm hal => hWp E e s vm hlim hK hao hal) (by omega) (by omega)
  obtain ⟨b1, b2, b3, b4⟩ := (hG E).1 (T.setVm vm₁)
  have hsz : (T.setVm vm₁).heap = H := hT
  obtain ⟨a', c1, c2, c3, c4, c5, c6⟩ := hMW E a n r w μ (T.setVm vm₁) (by rw [hsz]; exact hW) hJ
  rw [hsz] at b2 b4 c4 c6
  have hst2 : ∀ v ∈ st, me_ok (a, n, r, w) v := (me_okt (me_okt (me_okt hst)))
  have hS1 : va_S A0 s.heap (gf E (T.setVm vm₁)).heap locs := ⟨Nat.le_trans hS.1 (by omega), fun x h1 h2 => (b4 x (Nat.lt_of_lt_of_le h1 hS.1)).trans (hS.2.1 x h1 h2), hS.2.2⟩
  have K1 := kk a' c1 (C0.ag c1.2) (gf E (T.setVm vm₁)).heap locs ls c2 hS1 (by rw [me_ls_ag c1 hL]; exact hl) (fun q hq => me_ok_ag c1 (hL q hq)) (fun v hv => by
    rcases List.mem_cons.mp hv with rfl | hv
    · exact ⟨hk, c5⟩
    · exact me_ok_ag c1 (hst2 v hv)) c3 (fun q hq => by
    rcases c6 q hq with h | h
    · exact hA q h
    · exact hfresh q (Nat.le_trans hS.1 h))
  have hst1 : (me_r k (n k) :: st).map (me_cv (a', (f (n, r, μ)).1, (f (n, r, μ)).2.1, w)) = .ref H.size :: st.map (me_cv (a, n, r, w)) := by
    rw [List.map_cons, me_map_ag c1 hst2]
    show Value.ref (a' k (n k)) :: _ = _
    rw [c4]
  rw [hst1] at K1
  obtain ⟨t, a1, b1⟩ := K1 (gf E (T.setVm vm₁)) rfl X1
  refine ⟨t, st1 t ?_, b1⟩
  rw [hT]
  exact a1
end MeMul3
section MeMul4
variable {X : me_X} {own : String} {cc : ByteArray} {nL : Nat} {ret : Option FieldType} {a : Nat → Nat → Nat} {n : me_Nt} {r : me_Rt} {w : me_w} {nc ns : Nat} {μ : me_M} {pc : Nat} {L : List (Nat × me_V)} {st S : List me_V} {sz fr lo mc ms : Nat}
theorem me_multi4 (C : me_C X (a, n, r, w) own cc nL ret) (hroom : me_Rm X fr lo mc ms) {k idx ai K KS : Nat} {x1 x2 x3 x4 : Int32} {f : me_T3 → me_T3} {gf : me_G → State → State} {ty : FieldType} {name : String} (hao : ∀ (Y : me_X), Y = X → me_AOX Y) (hk : k < me_NK) (hl0 : Cond.classLink own idx name ∈ me_gw) (hty : ∀ cA, (me_ty cA)[ai]? = some (cA ai, .array ty)) (hname : name = "[" ++ (FieldType.array ty).toString) (hG : ∀ E, me_Gr (gf E) K KS) (hMW : ∀ E, me_MkW E (gf E) k f)
    (hWp : ∀ (E : me_G) (e : Env) (s : State) (vm : Vm), me_Li e → va_K E.1 vwCl (me_ty E.2) s → me_AO s → s.vm.Alike vm → me_Wp e vm (E.2 ai) [x1, x2, x3, x4] (gf E) K KS) (hdg : decode cc pc = .ok (.multianewarray idx 4, 4)) (hc : nc + K ≤ mc ∧ ns + KS ≤ ms)
    (kk : ∀ a' : Nat → Nat → Nat, me_agr a n a' (f (n, r, μ)).1 → me_C X (a', (f (n, r, μ)).1, (f (n, r, μ)).2.1, w) own cc nL ret → me_Z X (a', (f (n, r, μ)).1, (f (n, r, μ)).2.1, w) (nc + K) (ns + KS) (f (n, r, μ)).2.2 (pc + 4) L (me_r k (n k) :: st)) : me_Z X (a, n, r, w) nc ns μ pc L (me_i x4 :: me_i x3 :: me_i x2 :: me_i x1 :: st) := by
  have C0 := C
  have hao := hao X rfl
  obtain ⟨p, l, e, R, s, m, args, below, meth, c, Q, E, A0, nL'⟩ := X
  obtain ⟨hx, hb, hml, rfl, hown, hts, hK, hlocks, hret, hnt, hF, hNS, hfresh⟩ := C
  obtain ⟨hRc, hRs, hRf, hRl⟩ := hroom
  intro H locs ls hW hS hl hL hst hJ hA
  intro T hT Xs
  have hlim : me_Li e := ⟨by rw [Launch.admits_arrayLengthLimit Xs.admits]; decide, by rw [Launch.admits_maxHeapBytes Xs.admits]; decide⟩
  have hcA : s.vm.findClass name = some (E.2 ai) := by
    rw [hname]
    exact (hK.2 ai _ (hty E.2)).2
  obtain ⟨vm₁, hw1, X1, st1⟩ := me_multiS4 Xs hx hown (hts _ hl0) hcA (g := F0 m pc ls (.int x4 :: .int x3 :: .int x2 :: .int x1 :: st.map (me_cv (a, n, r, w)))) rfl (by rw [hb]; exact hdg) rfl (hG E) (fun vm hal => hWp E e s vm hlim hK hao hal) (by omega) (by omega)
  obtain ⟨b1, b2, b3, b4⟩ := (hG E).1 (T.setVm vm₁)
  have hsz : (T.setVm vm₁).heap = H := hT
  obtain ⟨a', c1, c2, c3, c4, c5, c6⟩ := hMW E a n r w μ (T.setVm vm₁) (by rw [hsz]; exact hW) hJ
  rw [hsz] at b2 b4 c4 c6
  have hst2 : ∀ v ∈ st, me_ok (a, n, r, w) v := (me_okt (me_okt (me_okt (me_okt hst))))
  have hS1 : va_S A0 s.heap (gf E (T.setVm vm₁)).heap locs := ⟨Nat.le_trans hS.1 (by omega), fun x h1 h2 => (b4 x (Nat.lt_of_lt_of_le h1 hS.1)).trans (hS.2.1 x h1 h2), hS.2.2⟩
  have K1 := kk a' c1 (C0.ag c1.2) (gf E (T.setVm vm₁)).heap locs ls c2 hS1 (by rw [me_ls_ag c1 hL]; exact hl) (fun q hq => me_ok_ag c1 (hL q hq)) (fun v hv => by
    rcases List.mem_cons.mp hv with rfl | hv
    · exact ⟨hk, c5⟩
    · exact me_ok_ag c1 (hst2 v hv)) c3 (fun q hq => by
    rcases c6 q hq with h | h
    · exact hA q h
    · exact hfresh q (Nat.le_trans hS.1 h))
  have hst1 : (me_r k (n k) :: st).map (me_cv (a', (f (n, r, μ)).1, (f (n, r, μ)).2.1, w)) = .ref H.size :: st.map (me_cv (a, n, r, w)) := by
    rw [List.map_cons, me_map_ag c1 hst2]
    show Value.ref (a' k (n k)) :: _ = _
    rw [c4]
  rw [hst1] at K1
  obtain ⟨t, a1, b1⟩ := K1 (gf E (T.setVm vm₁)) rfl X1
  refine ⟨t, st1 t ?_, b1⟩
  rw [hT]
  exact a1
end MeMul4
theorem me_wp_i4 (E : me_G) (e : Env) (s : State) (vm : Vm) (hl : me_Li e) (hK : va_K E.1 vwCl (me_ty E.2) s) (hao : me_AO s) (hal : s.vm.Alike vm) : me_Wp e vm (E.2 11) [16, 2, 5, 4] ((fun s => me_mkF (E.2 11) 16 13 ((fun s => me_mkF (E.2 10) 2 6 ((fun s => me_mkF (E.2 9) 5 1 (me_mk1 (E.2 0) 4 (.int 0)) s 5)) s 2)) s 16)) 209 848 := by
  obtain ⟨h1, h2⟩ := hl
  obtain ⟨kz, cz, z1, z2⟩ := me_kind (ai := 0) (ty := .int) hK hal rfl
  have w0 : me_Wp e vm (E.2 0) [4] (me_mk1 (E.2 0) 4 (.int 0)) 1 4 := me_Wp1 (type := .int) z1 z2 (by decide) (by decide) (by omega) (by show ¬ 4 * componentBytes (FieldType.int) > _; have hcb : componentBytes (FieldType.int) ≤ 4 := (by decide); have := Nat.mul_le_mul_left 4 hcb; omega) rfl rfl
  obtain ⟨k1, y1, v1⟩ := me_kindA (ai := 9) (a1 := 0) (t := .int) hK hal rfl rfl (by decide) hao.2.2.2.2.1
  have w1 := me_WpF (m := 5) (m0 := 5) (me_Gr1 (E.2 0) 4 (.int 0)) w0 y1 v1 rfl (by decide) (by decide) (by decide) (by omega) (by show ¬ 5 * 4 > _; omega)
  obtain ⟨k2, y2, v2⟩ := me_kindA (ai := 10) (a1 := 9) (t := (.array .int)) hK hal rfl rfl (by decide) hao.2.2.2.2.2.1
  have w2 := me_WpF (m := 2) (m0 := 2) (me_GrF (c := E.2 9) (N := 5) (me_Gr1 (E.2 0) 4 (.int 0))) w1 y2 v2 rfl (by decide) (by decide) (by decide) (by omega) (by show ¬ 2 * 4 > _; omega)
  obtain ⟨k3, y3, v3⟩ := me_kindA (ai := 11) (a1 := 10) (t := (.array (.array .int))) hK hal rfl rfl (by decide) hao.2.2.2.2.2.2.1
  have w3 := me_WpF (m := 16) (m0 := 16) (me_GrF (c := E.2 10) (N := 2) (me_GrF (c := E.2 9) (N := 5) (me_Gr1 (E.2 0) 4 (.int 0)))) w2 y3 v3 rfl (by decide) (by decide) (by decide) (by omega) (by show ¬ 16 * 4 > _; omega)
  exact w3
theorem me_wp_i3 (E : me_G) (e : Env) (s : State) (vm : Vm) (hl : me_Li e) (hK : va_K E.1 vwCl (me_ty E.2) s) (hao : me_AO s) (hal : s.vm.Alike vm) : me_Wp e vm (E.2 10) [16, 2, 5] ((fun s => me_mkF (E.2 10) 16 3 ((fun s => me_mkF (E.2 9) 2 1 (me_mk1 (E.2 0) 5 (.int 0)) s 2)) s 16)) 49 208 := by
  obtain ⟨h1, h2⟩ := hl
  obtain ⟨kz, cz, z1, z2⟩ := me_kind (ai := 0) (ty := .int) hK hal rfl
  have w0 : me_Wp e vm (E.2 0) [5] (me_mk1 (E.2 0) 5 (.int 0)) 1 5 := me_Wp1 (type := .int) z1 z2 (by decide) (by decide) (by omega) (by show ¬ 5 * componentBytes (FieldType.int) > _; have hcb : componentBytes (FieldType.int) ≤ 4 := (by decide); have := Nat.mul_le_mul_left 5 hcb; omega) rfl rfl
  obtain ⟨k1, y1, v1⟩ := me_kindA (ai := 9) (a1 := 0) (t := .int) hK hal rfl rfl (by decide) hao.2.2.2.2.1
  have w1 := me_WpF (m := 2) (m0 := 2) (me_Gr1 (E.2 0) 5 (.int 0)) w0 y1 v1 rfl (by decide) (by decide) (by decide) (by omega) (by show ¬ 2 * 4 > _; omega)
  obtain ⟨k2, y2, v2⟩ := me_kindA (ai := 10) (a1 := 9) (t := (.array .int)) hK hal rfl rfl (by decide) hao.2.2.2.2.2.1
  have w2 := me_WpF (m := 16) (m0 := 16) (me_GrF (c := E.2 9) (N := 2) (me_Gr1 (E.2 0) 5 (.int 0))) w1 y2 v2 rfl (by decide) (by decide) (by decide) (by omega) (by show ¬ 16 * 4 > _; omega)
  exact w2
theorem me_wp_z2 (E : me_G) (e : Env) (s : State) (vm : Vm) (hl : me_Li e) (hK : va_K E.1 vwCl (me_ty E.2) s) (hao : me_AO s) (hal : s.vm.Alike vm) : me_Wp e vm (E.2 12) [16, 5] ((fun s => me_mkF (E.2 12) 16 1 (me_mk1 (E.2 1) 5 (.int 0)) s 16)) 17 96 := by
  obtain ⟨h1, h2⟩ := hl
  obtain ⟨kz, cz, z1, z2⟩ := me_kind (ai := 1) (ty := .boolean) hK hal rfl
  have w0 : me_Wp e vm (E.2 1) [5] (me_mk1 (E.2 1) 5 (.int 0)) 1 5 := me_Wp1 (type := .boolean) z1 z2 (by decide) (by decide) (by omega) (by show ¬ 5 * componentBytes (FieldType.boolean) > _; have hcb : componentBytes (FieldType.boolean) ≤ 4 := (by decide); have := Nat.mul_le_mul_left 5 hcb; omega) rfl rfl
  obtain ⟨k1, y1, v1⟩ := me_kindA (ai := 12) (a1 := 1) (t := .boolean) hK hal rfl rfl (by decide) hao.2.2.2.2.2.2.2.1
  have w1 := me_WpF (m := 16) (m0 := 16) (me_Gr1 (E.2 1) 5 (.int 0)) w0 y1 v1 rfl (by decide) (by decide) (by decide) (by omega) (by show ¬ 16 * 4 > _; omega)
  exact w1
theorem me_wp_i28 (E : me_G) (e : Env) (s : State) (vm : Vm) (hl : me_Li e) (hK : va_K E.1 vwCl (me_ty E.2) s) (hao : me_AO s) (hal : s.vm.Alike vm) : me_Wp e vm (E.2 9) [16, 8] ((fun s => me_mkF (E.2 9) 16 1 (me_mk1 (E.2 0) 8 (.int 0)) s 16)) 17 144 := by
  obtain ⟨h1, h2⟩ := hl
  obtain ⟨kz, cz, z1, z2⟩ := me_kind (ai := 0) (ty := .int) hK hal rfl
  have w0 : me_Wp e vm (E.2 0) [8] (me_mk1 (E.2 0) 8 (.int 0)) 1 8 := me_Wp1 (type := .int) z1 z2 (by decide) (by decide) (by omega) (by show ¬ 8 * componentBytes (FieldType.int) > _; have hcb : componentBytes (FieldType.int) ≤ 4 := (by decide); have := Nat.mul_le_mul_left 8 hcb; omega) rfl rfl
  obtain ⟨k1, y1, v1⟩ := me_kindA (ai := 9) (a1 := 0) (t := .int) hK hal rfl rfl (by decide) hao.2.2.2.2.1
  have w1 := me_WpF (m := 16) (m0 := 16) (me_Gr1 (E.2 0) 8 (.int 0)) w0 y1 v1 rfl (by decide) (by decide) (by decide) (by omega) (by show ¬ 16 * 4 > _; omega)
  exact w1
theorem me_wp_i26 (E : me_G) (e : Env) (s : State) (vm : Vm) (hl : me_Li e) (hK : va_K E.1 vwCl (me_ty E.2) s) (hao : me_AO s) (hal : s.vm.Alike vm) : me_Wp e vm (E.2 9) [16, 6] ((fun s => me_mkF (E.2 9) 16 1 (me_mk1 (E.2 0) 6 (.int 0)) s 16)) 17 112 := by
  obtain ⟨h1, h2⟩ := hl
  obtain ⟨kz, cz, z1, z2⟩ := me_kind (ai := 0) (ty := .int) hK hal rfl
  have w0 : me_Wp e vm (E.2 0) [6] (me_mk1 (E.2 0) 6 (.int 0)) 1 6 := me_Wp1 (type := .int) z1 z2 (by decide) (by decide) (by omega) (by show ¬ 6 * componentBytes (FieldType.int) > _; have hcb : componentBytes (FieldType.int) ≤ 4 := (by decide); have := Nat.mul_le_mul_left 6 hcb; omega) rfl rfl
  obtain ⟨k1, y1, v1⟩ := me_kindA (ai := 9) (a1 := 0) (t := .int) hK hal rfl rfl (by decide) hao.2.2.2.2.1
  have w1 := me_WpF (m := 16) (m0 := 16) (me_Gr1 (E.2 0) 6 (.int 0)) w0 y1 v1 rfl (by decide) (by decide) (by decide) (by omega) (by show ¬ 16 * 4 > _; omega)
  exact w1
theorem me_wp_c2 (E : me_G) (e : Env) (s : State) (vm : Vm) (hl : me_Li e) (hK : va_K E.1 vwCl (me_ty E.2) s) (hao : me_AO s) (hal : s.vm.Alike vm) : me_Wp e vm (E.2 13) [16, 12] ((fun s => me_mkF (E.2 13) 16 1 (me_mk1 (E.2 2) 12 (.int 0)) s 16)) 17 208 := by
  obtain ⟨h1, h2⟩ := hl
  obtain ⟨kz, cz, z1, z2⟩ := me_kind (ai := 2) (ty := .char) hK hal rfl
  have w0 : me_Wp e vm (E.2 2) [12] (me_mk1 (E.2 2) 12 (.int 0)) 1 12 := me_Wp1 (type := .char) z1 z2 (by decide) (by decide) (by omega) (by show ¬ 12 * componentBytes (FieldType.char) > _; have hcb : componentBytes (FieldType.char) ≤ 4 := (by decide); have := Nat.mul_le_mul_left 12 hcb; omega) rfl rfl
  obtain ⟨k1, y1, v1⟩ := me_kindA (ai := 13) (a1 := 2) (t := .char) hK hal rfl rfl (by decide) hao.2.2.2.2.2.2.2.2
  have w1 := me_WpF (m := 16) (m0 := 16) (me_Gr1 (E.2 2) 12 (.int 0)) w0 y1 v1 rfl (by decide) (by decide) (by decide) (by omega) (by show ¬ 16 * 4 > _; omega)
  exact w1
theorem me_wp_i2c (E : me_G) (e : Env) (s : State) (vm : Vm) (hl : me_Li e) (hK : va_K E.1 vwCl (me_ty E.2) s) (hao : me_AO s) (hal : s.vm.Alike vm) : me_Wp e vm (E.2 9) [16, 12] ((fun s => me_mkF (E.2 9) 16 1 (me_mk1 (E.2 0) 12 (.int 0)) s 16)) 17 208 := by
  obtain ⟨h1, h2⟩ := hl
  obtain ⟨kz, cz, z1, z2⟩ := me_kind (ai := 0) (ty := .int) hK hal rfl
  have w0 : me_Wp e vm (E.2 0) [12] (me_mk1 (E.2 0) 12 (.int 0)) 1 12 := me_Wp1 (type := .int) z1 z2 (by decide) (by decide) (by omega) (by show ¬ 12 * componentBytes (FieldType.int) > _; have hcb : componentBytes (FieldType.int) ≤ 4 := (by decide); have := Nat.mul_le_mul_left 12 hcb; omega) rfl rfl
  obtain ⟨k1, y1, v1⟩ := me_kindA (ai := 9) (a1 := 0) (t := .int) hK hal rfl rfl (by decide) hao.2.2.2.2.1
  have w1 := me_WpF (m := 16) (m0 := 16) (me_Gr1 (E.2 0) 12 (.int 0)) w0 y1 v1 rfl (by decide) (by decide) (by decide) (by omega) (by show ¬ 16 * 4 > _; omega)
  exact w1
theorem me_wp_i88 (E : me_G) (e : Env) (s : State) (vm : Vm) (hl : me_Li e) (hK : va_K E.1 vwCl (me_ty E.2) s) (hao : me_AO s) (hal : s.vm.Alike vm) : me_Wp e vm (E.2 9) [8, 8] ((fun s => me_mkF (E.2 9) 8 1 (me_mk1 (E.2 0) 8 (.int 0)) s 8)) 9 72 := by
  obtain ⟨h1, h2⟩ := hl
  obtain ⟨kz, cz, z1, z2⟩ := me_kind (ai := 0) (ty := .int) hK hal rfl
  have w0 : me_Wp e vm (E.2 0) [8] (me_mk1 (E.2 0) 8 (.int 0)) 1 8 := me_Wp1 (type := .int) z1 z2 (by decide) (by decide) (by omega) (by show ¬ 8 * componentBytes (FieldType.int) > _; have hcb : componentBytes (FieldType.int) ≤ 4 := (by decide); have := Nat.mul_le_mul_left 8 hcb; omega) rfl rfl
  obtain ⟨k1, y1, v1⟩ := me_kindA (ai := 9) (a1 := 0) (t := .int) hK hal rfl rfl (by decide) hao.2.2.2.2.1
  have w1 := me_WpF (m := 8) (m0 := 8) (me_Gr1 (E.2 0) 8 (.int 0)) w0 y1 v1 rfl (by decide) (by decide) (by decide) (by omega) (by show ¬ 8 * 4 > _; omega)
  exact w1
