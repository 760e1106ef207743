/-! THE LAW FROM ITS ENTRY, out of what its functions do (its head is the skeleton's) -/
/-! THE CLAIM OUT OF ONE WALK OF THE LAW'S BODY. Your part is whole_start (and what it stands on); all else here is the same for every law, but numbers. -/
def R_law : String := "MeshyardLaw"
def lw_P (b : Addr) (xs : List Int32) (args : Array Value) (s : State) : Prop := args = #[.ref b] ∧ s.IntsAt b xs ∧ xs.length ≤ 260 ∧ (Jvm.Cond.and given_1 narrow_1).before args s = true
/-- what a walk over the start with the record d0 says of its end, said of the start itself -/
theorem lw_closed {s t : State} {o : Outcome} {d0 : Drawn} {L : List Loc} {k n : Nat} (hd0 : s.drawn.sameBut d0 lw_cs) (hv : ∃ v, o = .returned v) (hW : (s.setDrawn d0).WarmedH t.vm) (hs : (s.setDrawn d0).sameButNew ({ t with vm := s.vm } : State) L k n) : State.butDraws s t lw_cs (fun t1 => Framed s o t1 L k n) := by
  have h2 : t.drawn = d0 := congrArg State.drawn hs.1
  refine ⟨⟨hv, hW, State.sameButNew.setDrawn hs s.drawn⟩, ?_, by decide⟩
  rw [h2]
  exact hd0
def lw_Q (_ : Array Value) (s : State) (o : Outcome) (t : State) : Prop := o = .returned (some (.int 1)) ∧ State.butDraws s t lw_cs (fun t1 => Framed s o t1 [] 618549 7246051)
def lw_Z (below : List Frame) (a : Array Value) (s : State) : State → Prop := fun t => ∃ o, t.status = .running ∧ Ended t below o ∧ lw_Q a s o t
/-- the law's own end, with 1 on the stack, nothing written that was there before, its room as the claim has it; d0: the record of draws at this point (at the entry s.drawn: begin with 'refine W.base ?_' and 'have hd0 := Drawn.sameBut.refl s.drawn lw_cs') -/
theorem lw_ret {p : Program} {l : Launch} {e : Env} {s : State} {m : MethodId} {below : List Frame} {meth : Method} {c : Code} {b : Nat} {d0 : Drawn} (hd0 : s.drawn.sameBut d0 lw_cs) (hx : p.tables.exec = Jvm.exec) (hb : c.code = code) (hr : meth.sig.returnType = ret) (hlocks : meth.locks = false) {pc : Nat} {H : Heap} {ls : Array Slot} (hdg : decode code pc = .ok (.ireturn, 1)) : W p l e room_1 (s.setDrawn d0) m #[Value.ref b] below meth c H [] 618549 7246051 (lw_Z below #[Value.ref b] s) (F0 m pc ls [.int 1]) := by
  intro T hT X
  obtain ⟨fs, hret, hrun, hended, hW, hframe⟩ := X.leave (v := some (.int 1)) (hlocks := hlocks) (fun h => by rw [hr] at h; cases h)
  have hmeth' : T.vm.method? m = some meth := X.method'
  refine ⟨T.setFrames fs, ?_, .returned (some (.int 1)), hrun, hended, rfl, lw_closed hd0 ⟨_, rfl⟩ hW hframe⟩
  jvm_step X.here [X.here.top, hx, hb, hdg, hmeth', hr, ret, narrow_b1]
  (try refine ⟨rfl, ?_⟩); (try refine ⟨rfl, ?_⟩)
  first | (intro acts; rw [hret _ acts rfl rfl rfl]) | rw [hret _ _ rfl rfl rfl]
  exact Steps.refl _
/-- what holds at the law's entry: the machine, the code, the tables' words (any of lw_tbl by 'hts w (by decide +kernel)'), the script of L ints xs at the cell b, what the Statement gives of the start (any of its parts by flat_of_before) -/
def lw_At (p : Program) (s : State) (m : MethodId) (meth : Method) (c : Code) (b L : Nat) (xs : Nat → Int32) : Prop :=
  p.tables.exec = Jvm.exec ∧ c.code = code ∧ meth.sig.returnType = ret ∧ c.maxLocals = 23 ∧ s.vm.findClass R_law = some m.cls ∧ (∀ w ∈ lw_tbl, w.before #[Value.ref b] s = true) ∧ va_X b L xs s s.heap ∧ b < s.heap.size ∧ meth.locks = false ∧ (Jvm.Cond.and given_1 narrow_1).before #[Value.ref b] s = true
theorem dv_0 : ∀ j, j < 10 → defaultValue (tyX11 j) = if me_kr 0 j = true then .null else .int 0 := fun j hj => match j, hj with
  | 0, _ => rfl
  | 1, _ => rfl
  | 2, _ => rfl
  | 3, _ => rfl
  | 4, _ => rfl
  | 5, _ => rfl
  | 6, _ => rfl
  | 7, _ => rfl
  | 8, _ => rfl
  | 9, _ => rfl
  | j + 10, h => absurd h (by omega)
theorem dL_law_0 : decode cL_law 0 = .ok (.new 10, 3) := by decide +kernel
theorem dL_law_3 : decode cL_law 3 = .ok (.dup, 1) := by decide +kernel
theorem dL_law_4 : decode cL_law 4 = .ok (.invokespecial 94, 3) := by decide +kernel
theorem dL_law_7 : decode cL_law 7 = .ok (.astore_n 1, 1) := by decide +kernel
theorem dL_law_1316 : decode cL_law 1316 = .ok (.ireturn, 1) := by decide +kernel
theorem cl_L_10 : Cond.classLink RL 10 RX11 ∈ me_gw := (me_gm 56 (by decide +kernel) (by decide +kernel))
theorem ml_L_94 : Cond.methodLink RL 94 yX11_init ∈ me_gw := (me_gm 58 (by decide +kernel) (by decide +kernel))
theorem me_np_at {n : me_Nt} {k : Nat} : me_np n k k = n k + 1 := if_pos rfl
theorem me_np_ne {n : me_Nt} {k k' : Nat} (h : ¬ k' = k) : me_np n k k' = n k' := if_neg h
/-- what is left: the functions of the constructor and of the law -/
def me_Pure : Prop := ∃ (n1 : me_Nt) (r1 : me_Rt) (μ1 : me_M), f_Y_init 0 (me_np (fun _ => 0) 0) (me_rn (fun _ _ _ => none) 0 0) (me_zc (fun _ _ _ => 0) 0 0) = some (n1, r1, μ1) ∧ (∀ k, 36 ≤ k → n1 k = 0) ∧ me_Sn n1 r1 ∧ ∀ (xs : Nat → Int32) (L : Nat), L ≤ 260 → ∃ μ', f_L_law L xs μ1 = some (μ', 1)
set_option maxHeartbeats 4000000 in
set_option maxRecDepth 100000 in
theorem z_start (hP : me_Pure) {p : Program} {e : Env} {s : State} {m : MethodId} {below : List Frame} {meth : Method} {c : Code} (l : Launch) (hflags : l.flags = flags0) {b L : Nat} {xs : Nat → Int32} (hL : L ≤ 260) (C0 : lw_At p s m meth c b L xs) : W p l e room_1 s m #[Value.ref b] below meth c s.heap [] 0 0 (lw_Z below #[Value.ref b] s) (entryFrame m ([Value.ref b] : List Value).toArray 23) := by
  obtain ⟨n1, r1, μ1, hY, h36, hSn, hrun⟩ := hP
  obtain ⟨μ9, hrun⟩ := hrun xs L hL
  obtain ⟨hx, hb, hret, hml, hown, hts, hX, hbl, hlocks, hgv⟩ := C0
  obtain ⟨E, hK⟩ := me_startK hts
  obtain ⟨a0, hab, ha0⟩ := me_startS hts hgv hX (A := fun q => s.heap.size ≤ q) (fun q h1 h2 => absurd h1 (Nat.not_lt.mpr h2))
  have hao := me_startAO hts
  have hnt : l.stackTraces = false := by
    unfold Launch.stackTraces
    rw [hflags]
    decide +kernel
  rw [lg_entry_eq]
  have hl0 := lv_entry [Value.ref b] (n := 23) (Nat.le_of_ble_eq_true rfl)
  generalize (lg_sl [Value.ref b] ++ List.replicate (23 - (lg_sl [Value.ref b]).length) Slot.unset).toArray = ls at hl0 ⊢
  let X : me_X := (p, l, e, room_1, s, m, #[Value.ref b], below, meth, c, lw_Z below #[Value.ref b] s, E, (fun q => s.heap.size ≤ q), 23)
  have hroom : me_Rm X 12 462 618549 7246051 := ⟨by decide, by decide, by decide, by decide⟩
  have hAO : me_AOX X := hao
  have C : me_C X (a0, (fun _ => 0), (fun _ _ _ => none), (L, xs)) RL cL_law 23 ret := ⟨hx, hb, hml, rfl, hown, me_gw_tbl hts, hK, hlocks, hret, hnt, (ha0 _ _).1, (ha0 _ _).2, fun q h => h⟩
  have h0 : me_Z X (a0, (fun _ => 0), (fun _ _ _ => none), (L, xs)) 0 0 (fun _ _ _ => 0) 0 [(0, .inl (.ref b))] [] := by
    refine me_newO C hroom (k := 0) (by decide) kc_0 dv_0 cl_L_10 (me_gm 57 (by decide +kernel) (by decide +kernel)) (me_gm 30 (by decide +kernel) (by decide +kernel)) dL_law_0 ⟨by decide, by decide⟩ (fun a1 g1 C => ?_)
    refine me_dup C rfl dL_law_3 ?_
    refine me_callK C hroom hAO (As := []) (st := [me_r 0 0]) 1124 8663 (k_Y_init (i0 := 0) hY) mi_Y_init ml_L_94 dL_law_4 rfl rfl ⟨by decide, by decide⟩ ⟨by decide, by decide, by decide, by decide⟩ (Nat.le_of_ble_eq_true rfl) (fun a2 g2 C => ?_)
    refine me_astore_n C 1 (Or.inr (Or.inl ⟨_, rfl⟩)) dL_law_7 rfl (by decide) (L' := [(1, me_r 0 0), (0, .inl (.ref b))]) rfl ?_
    have ea1 : a1 202 0 = b := (g1.2 202 0 (by decide)).trans hab
    have ea2 : a2 202 0 = b := (g2.2 202 0 (by decide)).trans ea1
    refine me_dropI [(0, .inl (.ref b)), (1, me_r 0 0)] [1, 0] rfl ?_
    rw [← ea2]
    refine z_L_law (B := (a2, n1, r1, (L, xs))) (NR := 618549) (SR := 7246051) C hroom hSn h36 ?_ ⟨Nat.le_refl _, Nat.le_refl _⟩ ⟨by decide, by decide⟩ hrun
    intro nc ns hc hs H locs ls hW hS hl hL hst hJ hA
    refine va_forget (fun q hq => hS.2.2 q hq) ?_
    refine W.widen hc hs ?_
    exact W.base (lw_ret (Drawn.sameBut.refl s.drawn lw_cs) hx hb hret hlocks dL_law_1316)
  refine h0 s.heap [] ls (fun k hk i hi => absurd hi (Nat.not_lt_zero _)) va_S.rf hl0 (fun q hq => by
    rcases List.mem_cons.mp hq with rfl | hq
    · trivial
    · cases hq) (fun v hv => by cases hv) ⟨fun k i k' i' _ _ h => absurd h (Nat.not_lt_zero _), fun k i j q _ h => absurd h (Nat.not_lt_zero _)⟩ (fun q hq => by
    obtain ⟨k, i, _, h, _⟩ := hq
    exact absurd h (Nat.not_lt_zero _))
