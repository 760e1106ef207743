/-! THE LAW FROM ITS ENTRY, out of what its functions do -/
theorem dv_0 : ∀ j, j < 10 → defaultValue (tyX11 j) = if me_kr 0 j = true then .null else .int 0 := fun j hj => match j, hj with
  | 0, _ => rfl
  | 1, _ => rfl
  | 2, _ => rfl
  | 3, _ => rfl
  | 4, _ => rfl
  | 5, _ => rfl
  | 6, _ => rfl
  | 7, _ => rfl
  | 8, _ => rfl
  | 9, _ => rfl
  | j + 10, h => absurd h (by omega)
theorem dv_36 : ∀ j, j < 43 → defaultValue (tyX12 j) = if me_kr 36 j = true then .null else .int 0 := fun j hj => match j, hj with
  | 0, _ => rfl
  | 1, _ => rfl
  | 2, _ => rfl
  | 3, _ => rfl
  | 4, _ => rfl
  | 5, _ => rfl
  | 6, _ => rfl
  | 7, _ => rfl
  | 8, _ => rfl
  | 9, _ => rfl
  | 10, _ => rfl
  | 11, _ => rfl
  | 12, _ => rfl
  | 13, _ => rfl
  | 14, _ => rfl
  | 15, _ => rfl
  | 16, _ => rfl
  | 17, _ => rfl
  | 18, _ => rfl
  | 19, _ => rfl
  | 20, _ => rfl
  | 21, _ => rfl
  | 22, _ => rfl
  | 23, _ => rfl
  | 24, _ => rfl
  | 25, _ => rfl
  | 26, _ => rfl
  | 27, _ => rfl
  | 28, _ => rfl
  | 29, _ => rfl
  | 30, _ => rfl
  | 31, _ => rfl
  | 32, _ => rfl
  | 33, _ => rfl
  | 34, _ => rfl
  | 35, _ => rfl
  | 36, _ => rfl
  | 37, _ => rfl
  | 38, _ => rfl
  | 39, _ => rfl
  | 40, _ => rfl
  | 41, _ => rfl
  | 42, _ => rfl
  | j + 43, h => absurd h (by omega)
theorem cl_L_8 : Cond.classLink RL 8 RX11 ∈ me_gw := (me_gm 105 (by decide +kernel) (by decide +kernel))
theorem cl_L_145 : Cond.classLink RL 145 RX12 ∈ me_gw := (me_gm 1535 (by decide +kernel) (by decide +kernel))
theorem ml_L_144 : Cond.methodLink RL 144 yX11_init ∈ me_gw := (me_gm 107 (by decide +kernel) (by decide +kernel))
theorem ml_L_147 : Cond.methodLink RL 147 yX12_init ∈ me_gw := (me_gm 1537 (by decide +kernel) (by decide +kernel))
theorem ac_long : Cond.arrayClass .long ∈ me_gw := (me_gm 2038 (by decide +kernel) (by decide +kernel))
theorem ac_double : Cond.arrayClass .double ∈ me_gw := (me_gm 2039 (by decide +kernel) (by decide +kernel))
section MeNewLD
variable {X : me_X} {own : String} {cc : ByteArray} {nL : Nat} {ret : Option FieldType} {a : Nat → Nat → Nat} {n : me_Nt} {r : me_Rt} {nc ns : Nat} {μ : me_M} {pc : Nat} {L : List (Nat × me_V)} {st S : List me_V} {sz fr lo mc ms : Nat}
theorem me_newL (C : me_C X (a, n, r, (0, 0)) own cc nL ret) (hroom : me_Rm X fr lo mc ms) (hdg : decode cc pc = .ok (.newarray .long, 2)) (hc : nc + 1 ≤ mc ∧ ns + 1 ≤ ms) (kk : ∀ a' : Nat → Nat → Nat, me_agr a n a' (me_np n 93) → me_C X (a', me_np n 93, me_rn r 93 (n 93), (0, 0)) own cc nL ret → me_Z X (a', me_np n 93, me_rn r 93 (n 93), (0, 0)) (nc + 1) (ns + 1) (me_zc μ 93 (n 93)) (pc + 2) L (me_r 93 (n 93) :: st)) : me_Z X (a, n, r, (0, 0)) nc ns μ pc L (me_i 1 :: st) := by
  have C0 := C
  obtain ⟨p, l, e, R, s, m, args, below, meth, c, Q, E, A0, nL'⟩ := X
  obtain ⟨hx, hb, hml, rfl, hown, hts, hK, hlocks, hret, hnt, hF, hNS, hfresh⟩ := C
  obtain ⟨hRc, hRs, hRf, hRl⟩ := hroom
  intro H locs ls hW hS hl hL hst hJ hA
  refine va_newaK hx hb (atype := .long) (hts _ ac_long) (g := F0 m pc ls (.int 1 :: st.map (me_cv (a, n, r, (0, 0))))) rfl hdg (n := 1) (N := 1) rfl (by decide) (by decide) (by decide) (by omega) (by omega) rfl fun H1 cA e1 z1 o1 hAr hNm => ?_
  refine me_grZ (st := st) C0 (k := 93) (by decide) hW hS hl hL (me_okt hst) hJ hA z1 o1 ?_ kk
  rw [me_ct2 me_k93]
  have hcA := me_RA (hK.2 3 (E.2 3, .long) rfl).2 hNm
  show H1[H.size]? = some (vp_cell (E.2 3) (1, _))
  have hcA : E.2 3 = cA := hcA
  rw [e1, hcA, vp_cell_l]
  exact congrArg some (me_arrX (fun j hj => rfl))
theorem me_newD (C : me_C X (a, n, r, (0, 0)) own cc nL ret) (hroom : me_Rm X fr lo mc ms) (hdg : decode cc pc = .ok (.newarray .double, 2)) (hc : nc + 1 ≤ mc ∧ ns + 1 ≤ ms) (kk : ∀ a' : Nat → Nat → Nat, me_agr a n a' (me_np n 94) → me_C X (a', me_np n 94, me_rn r 94 (n 94), (0, 0)) own cc nL ret → me_Z X (a', me_np n 94, me_rn r 94 (n 94), (0, 0)) (nc + 1) (ns + 1) (me_zc μ 94 (n 94)) (pc + 2) L (me_r 94 (n 94) :: st)) : me_Z X (a, n, r, (0, 0)) nc ns μ pc L (me_i 1 :: st) := by
  have C0 := C
  obtain ⟨p, l, e, R, s, m, args, below, meth, c, Q, E, A0, nL'⟩ := X
  obtain ⟨hx, hb, hml, rfl, hown, hts, hK, hlocks, hret, hnt, hF, hNS, hfresh⟩ := C
  obtain ⟨hRc, hRs, hRf, hRl⟩ := hroom
  intro H locs ls hW hS hl hL hst hJ hA
  refine va_newaK hx hb (atype := .double) (hts _ ac_double) (g := F0 m pc ls (.int 1 :: st.map (me_cv (a, n, r, (0, 0))))) rfl hdg (n := 1) (N := 1) rfl (by decide) (by decide) (by decide) (by omega) (by omega) rfl fun H1 cA e1 z1 o1 hAr hNm => ?_
  refine me_grZ (st := st) C0 (k := 94) (by decide) hW hS hl hL (me_okt hst) hJ hA z1 o1 ?_ kk
  rw [me_ct3 me_k94]
  have hcA := me_RA (hK.2 4 (E.2 4, .double) rfl).2 hNm
  show H1[H.size]? = some (vp_cell (E.2 4) (1, _))
  have hcA : E.2 4 = cA := hcA
  rw [e1, hcA, vp_cell_d]
  exact congrArg some (me_arrX (fun j hj => rfl))
end MeNewLD
/-- what is left: the functions of the two constructors and of the law's run -/
def me_Pure : Prop := ∃ (n1 : me_Nt) (r1 : me_Rt) (μ1 : me_M) (n2 : me_Nt) (r2 : me_Rt) (μ2 : me_M), f_Y_init 0 (me_np (fun _ => 0) 0) (me_rn (fun _ _ _ => none) 0 0) (me_zc (fun _ _ _ => 0) 0 0) = some (n1, r1, μ1) ∧ n1 36 = 0 ∧ f_M_init 0 (me_np n1 36) (me_rn r1 36 0) (me_zc μ1 36 0) = some (n2, r2, μ2) ∧ n2 93 = 0 ∧ n2 94 = 0 ∧ n2 95 = 0 ∧ me_Sn n2 r2 ∧ ∀ (xs : Nat → Int32) (n : Nat), n ≤ 3072 → f_run xs n 513 0 (me_zc (me_zc μ2 93 0) 94 0) (0, 0) = some ()
theorem me_np_at {n : me_Nt} {k : Nat} : me_np n k k = n k + 1 := if_pos rfl
theorem me_np_ne {n : me_Nt} {k k' : Nat} (h : ¬ k' = k) : me_np n k k' = n k' := if_neg h
theorem me_StEnd {a : Nat → Nat → Nat} {n2 : me_Nt} {r2 : me_Rt} {w : me_w} (h3 : n2 93 = 0) (h4 : n2 94 = 0) (hS : me_Sn n2 r2) : me_St (a, me_np (me_np n2 93) 94, me_rn (me_rn r2 93 0) 94 0, w) := by
  intro k i j hk hi hj
  have hi : i < me_np (me_np n2 93) 94 k := hi
  show me_rn (me_rn r2 93 0) 94 0 k i j = me_r0 k i j
  by_cases e4 : k = 94
  · subst e4
    rw [me_np_at, me_np_ne (by decide), h4] at hi
    obtain rfl : i = 0 := by omega
    exact if_pos ⟨rfl, rfl⟩
  · by_cases e3 : k = 93
    · subst e3
      rw [me_np_ne (by decide), me_np_at, h3] at hi
      obtain rfl : i = 0 := by omega
      exact (if_neg (fun h => e4 h.1)).trans (if_pos ⟨rfl, rfl⟩)
    · rw [me_np_ne e4, me_np_ne e3] at hi
      exact (if_neg (fun h => e4 h.1)).trans ((if_neg (fun h => e3 h.1)).trans (hS k i j hk hi hj))
set_option maxHeartbeats 4000000 in
set_option maxRecDepth 100000 in
theorem z_start (hP : me_Pure) {p : Program} {e : Env} {s : State} {m : MethodId} {below : List Frame} {meth : Method} {c : Code} (l : Launch) (hflags : l.flags = flags0) {b L : Nat} {xs : Nat → Int32} (hL : L ≤ 3072) (C0 : lw_At p s m meth c b L xs) : W p l e room_1 s m #[Value.ref b] below meth c s.heap [] 0 0 (lw_Z below #[Value.ref b] s) (entryFrame m ([Value.ref b] : List Value).toArray 9) := by
  obtain ⟨n1, r1, μ1, n2, r2, μ2, hY, h36, hM, h93, h94, h95, hSn, hrun⟩ := hP
  obtain ⟨hx, hb, hret, hml, hown, hts, hX, hbl, hlocks, hgv⟩ := C0
  obtain ⟨E, hK⟩ := me_startK hts
  obtain ⟨a0, ha0⟩ := me_startS hts hgv (A := fun q => s.heap.size ≤ q) (fun q h1 h2 => absurd h1 (Nat.not_lt.mpr h2))
  have hao := me_startAO hts
  have hnt : l.stackTraces = false := by
    unfold Launch.stackTraces
    rw [hflags]
    decide +kernel
  rw [lg_entry_eq]
  have hl0 := lv_entry [Value.ref b] (n := 9) (Nat.le_of_ble_eq_true rfl)
  generalize (lg_sl [Value.ref b] ++ List.replicate (9 - (lg_sl [Value.ref b]).length) Slot.unset).toArray = ls at hl0 ⊢
  let X : me_X := (p, l, e, room_1, s, m, #[Value.ref b], below, meth, c, lw_Z below #[Value.ref b] s, E, (fun q => s.heap.size ≤ q), 9)
  have hroom : me_Rm X 12 464 601024 7293034 := ⟨by decide, by decide, by decide, by decide⟩
  have hSX : me_SX X b L xs := ⟨hX, hbl, Nat.not_le.mpr hbl⟩
  have hAO : me_AOX X := hao
  have C : me_C X (a0, (fun _ => 0), (fun _ _ _ => none), (0, 0)) RL cL_law 9 ret := ⟨hx, hb, hml, rfl, hown, me_gw_tbl hts, hK, hlocks, hret, hnt, (ha0 _ _ _).1, (ha0 _ _ _).2, fun q h => h⟩
  refine (?_ : me_Z X (a0, (fun _ => 0), (fun _ _ _ => none), (0, 0)) 0 0 (fun _ _ _ => 0) 0 [(0, .inl (.ref b))] []) s.heap [] ls (fun k hk i hi => absurd hi (Nat.not_lt_zero _)) va_S.rf hl0 (fun q hq => by
    rcases List.mem_cons.mp hq with rfl | hq
    · trivial
    · cases hq) (fun v hv => by cases hv) ⟨fun k i k' i' _ _ h => absurd h (Nat.not_lt_zero _), fun k i j q _ h => absurd h (Nat.not_lt_zero _)⟩ (fun q hq => by
    obtain ⟨k, i, _, h, _⟩ := hq
    exact absurd h (Nat.not_lt_zero _))
  refine me_newO C hroom (k := 0) (by decide) kc_0 dv_0 cl_L_8 (me_gm 106 (by decide +kernel) (by decide +kernel)) (me_gm 76 (by decide +kernel) (by decide +kernel)) dL_law_0 ⟨by decide, by decide⟩ (fun a1 g1 C => ?_)
  refine me_dup C rfl dL_law_3 ?_
  refine me_callK C hroom hAO (As := []) (st := [me_r 0 0]) 1124 8663 (k_Y_init (i0 := 0) hY) mi_Y_init ml_L_144 dL_law_4 rfl rfl ⟨by decide, by decide⟩ ⟨by decide, by decide, by decide, by decide⟩ (Nat.le_of_ble_eq_true rfl) (fun a2 g2 C => ?_)
  refine me_astore_n C 1 (Or.inr (Or.inl ⟨_, rfl⟩)) dL_law_7 rfl (by decide) (L' := [(1, me_r 0 0), (0, .inl (.ref b))]) rfl ?_
  refine me_newO C hroom (k := 36) (by decide) kc_36 dv_36 cl_L_145 (me_gm 1536 (by decide +kernel) (by decide +kernel)) (me_gm 88 (by decide +kernel) (by decide +kernel)) dL_law_8 ⟨by decide, by decide⟩ (fun a3 g3 C => ?_)
  rw [h36] at C
  rw [h36]
  refine me_dup C rfl dL_law_11 ?_
  refine me_callK C hroom hAO (As := []) (st := [me_r 36 0]) 1903 15002 (k_M_init (i0 := 0) hM) mi_M_init ml_L_147 dL_law_12 rfl rfl ⟨by decide, by decide⟩ ⟨by decide, by decide, by decide, by decide⟩ (Nat.le_of_ble_eq_true rfl) (fun a4 g4 C => ?_)
  refine me_astore_n C 2 (Or.inr (Or.inl ⟨_, rfl⟩)) dL_law_15 rfl (by decide) (L' := [(2, me_r 36 0), (1, me_r 0 0), (0, .inl (.ref b))]) rfl ?_
  refine me_iconst C (v := 1) dL_law_16 (by decide) ?_
  refine me_newL C hroom dL_law_17 ⟨by decide, by decide⟩ (fun a5 g5 C => ?_)
  rw [h93] at C
  rw [h93]
  refine me_astore_n C 3 (Or.inr (Or.inl ⟨_, rfl⟩)) dL_law_19 rfl (by decide) (L' := [(3, me_r 93 0), (2, me_r 36 0), (1, me_r 0 0), (0, .inl (.ref b))]) rfl ?_
  refine me_iconst C (v := 1) dL_law_20 (by decide) ?_
  refine me_newD C hroom dL_law_21 ⟨by decide, by decide⟩ (fun a6 g6 C => ?_)
  have h94' : me_np n2 93 94 = 0 := (me_np_ne (by decide)).trans h94
  rw [h94'] at C
  rw [h94']
  refine me_astore C (Or.inr (Or.inl ⟨_, rfl⟩)) dL_law_23 (by decide) (L' := [(4, me_r 94 0), (3, me_r 93 0), (2, me_r 36 0), (1, me_r 0 0), (0, .inl (.ref b))]) rfl ?_
  refine me_iconst C (v := 0) dL_law_25 (by decide) ?_
  refine me_istore C dL_law_26 (by decide) (L' := [(5, me_i 0), (4, me_r 94 0), (3, me_r 93 0), (2, me_r 36 0), (1, me_r 0 0), (0, .inl (.ref b))]) rfl ?_
  refine me_dropI [(0, .inl (.ref b)), (1, me_r 0 0), (2, me_r 36 0), (3, me_r 93 0), (4, me_r 94 0), (5, me_i 0)] [5, 4, 3, 2, 1, 0] rfl ?_
  refine z_loop (B := (a6, me_np (me_np n2 93) 94, me_rn (me_rn r2 93 0) 94 0, (0, 0))) C hSX hroom (me_StEnd h93 h94 hSn) ?_ ?_ ?_ hL ?_ 513 0 _ (0, 0) 1905 15004 (by decide) (by decide) (by decide) (hrun xs L hL)
  · intro i hi
    have hi : i < me_np (me_np n2 93) 94 93 := hi
    rw [me_np_ne (by decide), me_np_at, h93] at hi
    omega
  · intro i hi
    have hi : i < me_np (me_np n2 93) 94 94 := hi
    rw [me_np_at, me_np_ne (by decide), h94] at hi
    omega
  · show me_np (me_np n2 93) 94 95 = 0
    rw [me_np_ne (by decide), me_np_ne (by decide), h95]
  · intro o μ nc ns i hc hs
    have C := C.ob o
    refine me_iconst C (v := 1) dL_law_2795 (by decide) ?_
    intro H locs ls hW hS hl hL hst hJ hA
    refine va_forget (fun q hq => hS.2.2 q hq) ?_
    refine W.widen hc hs ?_
    exact W.base (lw_ret (Drawn.sameBut.refl s.drawn lw_cs) hx hb hret hlocks dL_law_2796)
