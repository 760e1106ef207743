/-! THE CLAIM OUT OF ONE WALK OF THE LAW'S BODY. Your part is whole_start (and what it stands on); all else here is the same for every law, but numbers. -/
def R_law : String := "MeshyardLaw"
def lw_P (b : Addr) (xs : List Int32) (args : Array Value) (s : State) : Prop := args = #[.ref b] ∧ s.IntsAt b xs ∧ xs.length ≤ 3072 ∧ (Jvm.Cond.and given_1 narrow_1).before args s = true
/-- what a walk over the start with the record d0 says of its end, said of the start itself -/
theorem lw_closed {s t : State} {o : Outcome} {d0 : Drawn} {L : List Loc} {k n : Nat} (hd0 : s.drawn.sameBut d0 lw_cs) (hv : ∃ v, o = .returned v) (hW : (s.setDrawn d0).WarmedH t.vm) (hs : (s.setDrawn d0).sameButNew ({ t with vm := s.vm } : State) L k n) : State.butDraws s t lw_cs (fun t1 => Framed s o t1 L k n) := by
  have h2 : t.drawn = d0 := congrArg State.drawn hs.1
  refine ⟨⟨hv, hW, State.sameButNew.setDrawn hs s.drawn⟩, ?_, by decide⟩
  rw [h2]
  exact hd0
def lw_Q (_ : Array Value) (s : State) (o : Outcome) (t : State) : Prop := o = .returned (some (.int 1)) ∧ State.butDraws s t lw_cs (fun t1 => Framed s o t1 [] 601024 7293034)
def lw_Z (below : List Frame) (a : Array Value) (s : State) : State → Prop := fun t => ∃ o, t.status = .running ∧ Ended t below o ∧ lw_Q a s o t
/-- the law's own end, with 1 on the stack, nothing written that was there before, its room as the claim has it; d0: the record of draws at this point (at the entry s.drawn: begin with 'refine W.base ?_' and 'have hd0 := Drawn.sameBut.refl s.drawn lw_cs') -/
theorem lw_ret {p : Program} {l : Launch} {e : Env} {s : State} {m : MethodId} {below : List Frame} {meth : Method} {c : Code} {b : Nat} {d0 : Drawn} (hd0 : s.drawn.sameBut d0 lw_cs) (hx : p.tables.exec = Jvm.exec) (hb : c.code = code) (hr : meth.sig.returnType = ret) (hlocks : meth.locks = false) {pc : Nat} {H : Heap} {ls : Array Slot} (hdg : decode code pc = .ok (.ireturn, 1)) : W p l e room_1 (s.setDrawn d0) m #[Value.ref b] below meth c H [] 601024 7293034 (lw_Z below #[Value.ref b] s) (F0 m pc ls [.int 1]) := by
  intro T hT X
  obtain ⟨fs, hret, hrun, hended, hW, hframe⟩ := X.leave (v := some (.int 1)) (hlocks := hlocks) (fun h => by rw [hr] at h; cases h)
  have hmeth' : T.vm.method? m = some meth := X.method'
  refine ⟨T.setFrames fs, ?_, .returned (some (.int 1)), hrun, hended, rfl, lw_closed hd0 ⟨_, rfl⟩ hW hframe⟩
  jvm_step X.here [X.here.top, hx, hb, hdg, hmeth', hr, ret, narrow_b1]
  (try refine ⟨rfl, ?_⟩); (try refine ⟨rfl, ?_⟩)
  first | (intro acts; rw [hret _ acts rfl rfl rfl]) | rw [hret _ _ rfl rfl rfl]
  exact Steps.refl _
/-- what holds at the law's entry: the machine, the code, the tables' words (any of lw_tbl by 'hts w (by decide +kernel)'), the script of L ints xs at the cell b, what the Statement gives of the start (any of its parts by flat_of_before) -/
def lw_At (p : Program) (s : State) (m : MethodId) (meth : Method) (c : Code) (b L : Nat) (xs : Nat → Int32) : Prop :=
  p.tables.exec = Jvm.exec ∧ c.code = code ∧ meth.sig.returnType = ret ∧ c.maxLocals = 9 ∧ s.vm.findClass R_law = some m.cls ∧ (∀ w ∈ lw_tbl, w.before #[Value.ref b] s = true) ∧ va_X b L xs s s.heap ∧ b < s.heap.size ∧ meth.locks = false ∧ (Jvm.Cond.and given_1 narrow_1).before #[Value.ref b] s = true
/-! THE LAW's LOOP -/
theorem dL_law_28 : decode cL_law 28 = .ok (.iload 5, 2) := by decide +kernel
theorem dL_law_30 : decode cL_law 30 = .ok (.aload_n 0, 1) := by decide +kernel
theorem dL_law_31 : decode cL_law 31 = .ok (.arraylength, 1) := by decide +kernel
theorem dL_law_32 : decode cL_law 32 = .ok (.bipush 6, 2) := by decide +kernel
theorem dL_law_34 : decode cL_law 34 = .ok (.isub, 1) := by decide +kernel
theorem dL_law_35 : decode cL_law 35 = .ok (.if_icmp .gt 2760, 3) := by decide +kernel
theorem dL_law_38 : decode cL_law 38 = .ok (.aload_n 0, 1) := by decide +kernel
theorem dL_law_39 : decode cL_law 39 = .ok (.iload 5, 2) := by decide +kernel
theorem dL_law_41 : decode cL_law 41 = .ok (.iaload, 1) := by decide +kernel
theorem dL_law_42 : decode cL_law 42 = .ok (.bipush 63, 2) := by decide +kernel
theorem dL_law_44 : decode cL_law 44 = .ok (.iand, 1) := by decide +kernel
theorem dL_law_45 : decode cL_law 45 = .ok (.tableswitch 2744 0 43 #[191, 283, 363, 483, 539, 595, 651, 707, 763, 819, 875, 888, 956, 1024, 1092, 1155, 1168, 1226, 1282, 1364, 1446, 1551, 1614, 1677, 1690, 1703, 1771, 1853, 1909, 1965, 2021, 2077, 2145, 2225, 2281, 2337, 2393, 2473, 2486, 2530, 2586, 2600, 2666, 2731], 191) := by decide +kernel
theorem dL_law_2789 : decode cL_law 2789 = .ok (.iinc 5 6, 3) := by decide +kernel
theorem dL_law_2792 : decode cL_law 2792 = .ok (.goto (-2764), 3) := by decide +kernel
theorem dL_law_2795 : decode cL_law 2795 = .ok (.iconst 1, 1) := by decide +kernel
theorem dL_law_2796 : decode cL_law 2796 = .ok (.ireturn, 1) := by decide +kernel
theorem dL_law_0 : decode cL_law 0 = .ok (.new 8, 3) := by decide +kernel
theorem dL_law_3 : decode cL_law 3 = .ok (.dup, 1) := by decide +kernel
theorem dL_law_4 : decode cL_law 4 = .ok (.invokespecial 144, 3) := by decide +kernel
theorem dL_law_7 : decode cL_law 7 = .ok (.astore_n 1, 1) := by decide +kernel
theorem dL_law_8 : decode cL_law 8 = .ok (.new 145, 3) := by decide +kernel
theorem dL_law_11 : decode cL_law 11 = .ok (.dup, 1) := by decide +kernel
theorem dL_law_12 : decode cL_law 12 = .ok (.invokespecial 147, 3) := by decide +kernel
theorem dL_law_15 : decode cL_law 15 = .ok (.astore_n 2, 1) := by decide +kernel
theorem dL_law_16 : decode cL_law 16 = .ok (.iconst 1, 1) := by decide +kernel
theorem dL_law_17 : decode cL_law 17 = .ok (.newarray .long, 2) := by decide +kernel
theorem dL_law_19 : decode cL_law 19 = .ok (.astore_n 3, 1) := by decide +kernel
theorem dL_law_20 : decode cL_law 20 = .ok (.iconst 1, 1) := by decide +kernel
theorem dL_law_21 : decode cL_law 21 = .ok (.newarray .double, 2) := by decide +kernel
theorem dL_law_23 : decode cL_law 23 = .ok (.astore 4, 2) := by decide +kernel
theorem dL_law_25 : decode cL_law 25 = .ok (.iconst 0, 1) := by decide +kernel
theorem dL_law_26 : decode cL_law 26 = .ok (.istore 5, 2) := by decide +kernel
def f_turn (μ : me_M) (o : Int64 × UInt64) (s0 s1 s2 s3 s4 s5 : Int32) : Option (me_M × (Int64 × UInt64)) :=
  if s0 &&& 63 = 0 then f_case_0 μ o s1 s2 s3 s4 s5 else
  if s0 &&& 63 = 1 then f_case_1 μ o s1 s2 s3 s4 s5 else
  if s0 &&& 63 = 2 then f_case_2 μ o s1 s2 s3 s4 s5 else
  if s0 &&& 63 = 3 then f_case_3 μ o s1 s2 s3 s4 s5 else
  if s0 &&& 63 = 4 then f_case_4 μ o s1 s2 s3 s4 s5 else
  if s0 &&& 63 = 5 then f_case_5 μ o s1 s2 s3 s4 s5 else
  if s0 &&& 63 = 6 then f_case_6 μ o s1 s2 s3 s4 s5 else
  if s0 &&& 63 = 7 then f_case_7 μ o s1 s2 s3 s4 s5 else
  if s0 &&& 63 = 8 then f_case_8 μ o s1 s2 s3 s4 s5 else
  if s0 &&& 63 = 9 then f_case_9 μ o s1 s2 s3 s4 s5 else
  if s0 &&& 63 = 10 then f_case_10 μ o s1 s2 s3 s4 s5 else
  if s0 &&& 63 = 11 then f_case_11 μ o s1 s2 s3 s4 s5 else
  if s0 &&& 63 = 12 then f_case_12 μ o s1 s2 s3 s4 s5 else
  if s0 &&& 63 = 13 then f_case_13 μ o s1 s2 s3 s4 s5 else
  if s0 &&& 63 = 14 then f_case_14 μ o s1 s2 s3 s4 s5 else
  if s0 &&& 63 = 15 then f_case_15 μ o s1 s2 s3 s4 s5 else
  if s0 &&& 63 = 16 then f_case_16 μ o s1 s2 s3 s4 s5 else
  if s0 &&& 63 = 17 then f_case_17 μ o s1 s2 s3 s4 s5 else
  if s0 &&& 63 = 18 then f_case_18 μ o s1 s2 s3 s4 s5 else
  if s0 &&& 63 = 19 then f_case_19 μ o s1 s2 s3 s4 s5 else
  if s0 &&& 63 = 20 then f_case_20 μ o s1 s2 s3 s4 s5 else
  if s0 &&& 63 = 21 then f_case_21 μ o s1 s2 s3 s4 s5 else
  if s0 &&& 63 = 22 then f_case_22 μ o s1 s2 s3 s4 s5 else
  if s0 &&& 63 = 23 then f_case_23 μ o s1 s2 s3 s4 s5 else
  if s0 &&& 63 = 24 then f_case_24 μ o s1 s2 s3 s4 s5 else
  if s0 &&& 63 = 25 then f_case_25 μ o s1 s2 s3 s4 s5 else
  if s0 &&& 63 = 26 then f_case_26 μ o s1 s2 s3 s4 s5 else
  if s0 &&& 63 = 27 then f_case_27 μ o s1 s2 s3 s4 s5 else
  if s0 &&& 63 = 28 then f_case_28 μ o s1 s2 s3 s4 s5 else
  if s0 &&& 63 = 29 then f_case_29 μ o s1 s2 s3 s4 s5 else
  if s0 &&& 63 = 30 then f_case_30 μ o s1 s2 s3 s4 s5 else
  if s0 &&& 63 = 31 then f_case_31 μ o s1 s2 s3 s4 s5 else
  if s0 &&& 63 = 32 then f_case_32 μ o s1 s2 s3 s4 s5 else
  if s0 &&& 63 = 33 then f_case_33 μ o s1 s2 s3 s4 s5 else
  if s0 &&& 63 = 34 then f_case_34 μ o s1 s2 s3 s4 s5 else
  if s0 &&& 63 = 35 then f_case_35 μ o s1 s2 s3 s4 s5 else
  if s0 &&& 63 = 36 then f_case_36 μ o s1 s2 s3 s4 s5 else
  if s0 &&& 63 = 37 then f_case_37 μ o s1 s2 s3 s4 s5 else
  if s0 &&& 63 = 38 then f_case_38 μ o s1 s2 s3 s4 s5 else
  if s0 &&& 63 = 39 then f_case_39 μ o s1 s2 s3 s4 s5 else
  if s0 &&& 63 = 40 then f_case_40 μ o s1 s2 s3 s4 s5 else
  if s0 &&& 63 = 41 then f_case_41 μ o s1 s2 s3 s4 s5 else
  if s0 &&& 63 = 42 then f_case_42 μ o s1 s2 s3 s4 s5 else
  if s0 &&& 63 = 43 then f_case_43 μ o s1 s2 s3 s4 s5 else
  some (μ, o)
set_option maxHeartbeats 4000000 in
set_option maxRecDepth 100000 in
theorem z_turn {X : me_X} {B : me_B} {μ : me_M} {b n : Nat} {xs : Nat → Int32} {i s0 s1 s2 s3 s4 s5 : Int32} {nc ns : Nat} {ret0 : Option FieldType} (C : me_C X B RL cL_law 9 ret0) (hX : me_SX X b n xs) (hroom : me_Rm X 12 464 601024 7293034) (hB : me_St B) (h93 : ∀ i, i < B.2.1 93 → i = 0) (h94 : ∀ i, i < B.2.1 94 → i = 0) (h95 : B.2.1 95 = 0) (hn : nc + 16 ≤ 601024 ∧ ns + 128 ≤ 7293034) (h1 : me_inb (i + 1) n = true) (e1 : xs (me_ix (i + 1)) = s1) (h2 : me_inb (i + 2) n = true) (e2 : xs (me_ix (i + 2)) = s2) (h3 : me_inb (i + 3) n = true) (e3 : xs (me_ix (i + 3)) = s3) (h4 : me_inb (i + 4) n = true) (e4 : xs (me_ix (i + 4)) = s4) (h5 : me_inb (i + 5) n = true) (e5 : xs (me_ix (i + 5)) = s5) {μ' : me_M} {o' : Int64 × UInt64} (hf : f_turn μ B.2.2.2 s0 s1 s2 s3 s4 s5 = some (μ', o')) (hK : me_Z X (me_ob B o') (nc + 16) (ns + 128) μ' 2789 [(0, .inl (.ref b)), (1, me_r 0 0), (2, me_r 36 0), (3, me_r 93 0), (4, me_r 94 0), (5, me_i i)] []) : me_Z X B nc ns μ 45 [(0, .inl (.ref b)), (1, me_r 0 0), (2, me_r 36 0), (3, me_r 93 0), (4, me_r 94 0), (5, me_i i)] [me_i (s0 &&& 63)] := by
  unfold f_turn at hf
  by_cases c0 : s0 &&& 63 = 0
  · refine me_tab C (191) (tgt := 236) dL_law_45 (by rw [c0]; decide +kernel) (by decide) ?_
    exact z_case_0 C hX hroom hB h93 h94 h95 hn h1 e1 h2 e2 h3 e3 h4 e4 h5 e5 (me_ip c0 hf) hK
  replace hf := me_in c0 hf
  by_cases c1 : s0 &&& 63 = 1
  · refine me_tab C (283) (tgt := 328) dL_law_45 (by rw [c1]; decide +kernel) (by decide) ?_
    exact z_case_1 C hX hroom hB h93 h94 h95 hn h1 e1 h2 e2 h3 e3 h4 e4 h5 e5 (me_ip c1 hf) hK
  replace hf := me_in c1 hf
  by_cases c2 : s0 &&& 63 = 2
  · refine me_tab C (363) (tgt := 408) dL_law_45 (by rw [c2]; decide +kernel) (by decide) ?_
    exact z_case_2 C hX hroom hB h93 h94 h95 hn h1 e1 h2 e2 h3 e3 h4 e4 h5 e5 (me_ip c2 hf) hK
  replace hf := me_in c2 hf
  by_cases c3 : s0 &&& 63 = 3
  · refine me_tab C (483) (tgt := 528) dL_law_45 (by rw [c3]; decide +kernel) (by decide) ?_
    exact z_case_3 C hX hroom hB h93 h94 h95 hn h1 e1 h2 e2 h3 e3 h4 e4 h5 e5 (me_ip c3 hf) hK
  replace hf := me_in c3 hf
  by_cases c4 : s0 &&& 63 = 4
  · refine me_tab C (539) (tgt := 584) dL_law_45 (by rw [c4]; decide +kernel) (by decide) ?_
    exact z_case_4 C hX hroom hB h93 h94 h95 hn h1 e1 h2 e2 h3 e3 h4 e4 h5 e5 (me_ip c4 hf) hK
  replace hf := me_in c4 hf
  by_cases c5 : s0 &&& 63 = 5
  · refine me_tab C (595) (tgt := 640) dL_law_45 (by rw [c5]; decide +kernel) (by decide) ?_
    exact z_case_5 C hX hroom hB h93 h94 h95 hn h1 e1 h2 e2 h3 e3 h4 e4 h5 e5 (me_ip c5 hf) hK
  replace hf := me_in c5 hf
  by_cases c6 : s0 &&& 63 = 6
  · refine me_tab C (651) (tgt := 696) dL_law_45 (by rw [c6]; decide +kernel) (by decide) ?_
    exact z_case_6 C hX hroom hB h93 h94 h95 hn h1 e1 h2 e2 h3 e3 h4 e4 h5 e5 (me_ip c6 hf) hK
  replace hf := me_in c6 hf
  by_cases c7 : s0 &&& 63 = 7
  · refine me_tab C (707) (tgt := 752) dL_law_45 (by rw [c7]; decide +kernel) (by decide) ?_
    exact z_case_7 C hX hroom hB h93 h94 h95 hn h1 e1 h2 e2 h3 e3 h4 e4 h5 e5 (me_ip c7 hf) hK
  replace hf := me_in c7 hf
  by_cases c8 : s0 &&& 63 = 8
  · refine me_tab C (763) (tgt := 808) dL_law_45 (by rw [c8]; decide +kernel) (by decide) ?_
    exact z_case_8 C hX hroom hB h93 h94 h95 hn h1 e1 h2 e2 h3 e3 h4 e4 h5 e5 (me_ip c8 hf) hK
  replace hf := me_in c8 hf
  by_cases c9 : s0 &&& 63 = 9
  · refine me_tab C (819) (tgt := 864) dL_law_45 (by rw [c9]; decide +kernel) (by decide) ?_
    exact z_case_9 C hX hroom hB h93 h94 h95 hn h1 e1 h2 e2 h3 e3 h4 e4 h5 e5 (me_ip c9 hf) hK
  replace hf := me_in c9 hf
  by_cases c10 : s0 &&& 63 = 10
  · refine me_tab C (875) (tgt := 920) dL_law_45 (by rw [c10]; decide +kernel) (by decide) ?_
    exact z_case_10 C hX hroom hB h93 h94 h95 hn h1 e1 h2 e2 h3 e3 h4 e4 h5 e5 (me_ip c10 hf) hK
  replace hf := me_in c10 hf
  by_cases c11 : s0 &&& 63 = 11
  · refine me_tab C (888) (tgt := 933) dL_law_45 (by rw [c11]; decide +kernel) (by decide) ?_
    exact z_case_11 C hX hroom hB h93 h94 h95 hn h1 e1 h2 e2 h3 e3 h4 e4 h5 e5 (me_ip c11 hf) hK
  replace hf := me_in c11 hf
  by_cases c12 : s0 &&& 63 = 12
  · refine me_tab C (956) (tgt := 1001) dL_law_45 (by rw [c12]; decide +kernel) (by decide) ?_
    exact z_case_12 C hX hroom hB h93 h94 h95 hn h1 e1 h2 e2 h3 e3 h4 e4 h5 e5 (me_ip c12 hf) hK
  replace hf := me_in c12 hf
  by_cases c13 : s0 &&& 63 = 13
  · refine me_tab C (1024) (tgt := 1069) dL_law_45 (by rw [c13]; decide +kernel) (by decide) ?_
    exact z_case_13 C hX hroom hB h93 h94 h95 hn h1 e1 h2 e2 h3 e3 h4 e4 h5 e5 (me_ip c13 hf) hK
  replace hf := me_in c13 hf
  by_cases c14 : s0 &&& 63 = 14
  · refine me_tab C (1092) (tgt := 1137) dL_law_45 (by rw [c14]; decide +kernel) (by decide) ?_
    exact z_case_14 C hX hroom hB h93 h94 h95 hn h1 e1 h2 e2 h3 e3 h4 e4 h5 e5 (me_ip c14 hf) hK
  replace hf := me_in c14 hf
  by_cases c15 : s0 &&& 63 = 15
  · refine me_tab C (1155) (tgt := 1200) dL_law_45 (by rw [c15]; decide +kernel) (by decide) ?_
    exact z_case_15 C hX hroom hB h93 h94 h95 hn h1 e1 h2 e2 h3 e3 h4 e4 h5 e5 (me_ip c15 hf) hK
  replace hf := me_in c15 hf
  by_cases c16 : s0 &&& 63 = 16
  · refine me_tab C (1168) (tgt := 1213) dL_law_45 (by rw [c16]; decide +kernel) (by decide) ?_
    exact z_case_16 C hX hroom hB h93 h94 h95 hn h1 e1 h2 e2 h3 e3 h4 e4 h5 e5 (me_ip c16 hf) hK
  replace hf := me_in c16 hf
  by_cases c17 : s0 &&& 63 = 17
  · refine me_tab C (1226) (tgt := 1271) dL_law_45 (by rw [c17]; decide +kernel) (by decide) ?_
    exact z_case_17 C hX hroom hB h93 h94 h95 hn h1 e1 h2 e2 h3 e3 h4 e4 h5 e5 (me_ip c17 hf) hK
  replace hf := me_in c17 hf
  by_cases c18 : s0 &&& 63 = 18
  · refine me_tab C (1282) (tgt := 1327) dL_law_45 (by rw [c18]; decide +kernel) (by decide) ?_
    exact z_case_18 C hX hroom hB h93 h94 h95 hn h1 e1 h2 e2 h3 e3 h4 e4 h5 e5 (me_ip c18 hf) hK
  replace hf := me_in c18 hf
  by_cases c19 : s0 &&& 63 = 19
  · refine me_tab C (1364) (tgt := 1409) dL_law_45 (by rw [c19]; decide +kernel) (by decide) ?_
    exact z_case_19 C hX hroom hB h93 h94 h95 hn h1 e1 h2 e2 h3 e3 h4 e4 h5 e5 (me_ip c19 hf) hK
  replace hf := me_in c19 hf
  by_cases c20 : s0 &&& 63 = 20
  · refine me_tab C (1446) (tgt := 1491) dL_law_45 (by rw [c20]; decide +kernel) (by decide) ?_
    exact z_case_20 C hX hroom hB h93 h94 h95 hn h1 e1 h2 e2 h3 e3 h4 e4 h5 e5 (me_ip c20 hf) hK
  replace hf := me_in c20 hf
  by_cases c21 : s0 &&& 63 = 21
  · refine me_tab C (1551) (tgt := 1596) dL_law_45 (by rw [c21]; decide +kernel) (by decide) ?_
    exact z_case_21 C hX hroom hB h93 h94 h95 hn h1 e1 h2 e2 h3 e3 h4 e4 h5 e5 (me_ip c21 hf) hK
  replace hf := me_in c21 hf
  by_cases c22 : s0 &&& 63 = 22
  · refine me_tab C (1614) (tgt := 1659) dL_law_45 (by rw [c22]; decide +kernel) (by decide) ?_
    exact z_case_22 C hX hroom hB h93 h94 h95 hn h1 e1 h2 e2 h3 e3 h4 e4 h5 e5 (me_ip c22 hf) hK
  replace hf := me_in c22 hf
  by_cases c23 : s0 &&& 63 = 23
  · refine me_tab C (1677) (tgt := 1722) dL_law_45 (by rw [c23]; decide +kernel) (by decide) ?_
    exact z_case_23 C hX hroom hB h93 h94 h95 hn h1 e1 h2 e2 h3 e3 h4 e4 h5 e5 (me_ip c23 hf) hK
  replace hf := me_in c23 hf
  by_cases c24 : s0 &&& 63 = 24
  · refine me_tab C (1690) (tgt := 1735) dL_law_45 (by rw [c24]; decide +kernel) (by decide) ?_
    exact z_case_24 C hX hroom hB h93 h94 h95 hn h1 e1 h2 e2 h3 e3 h4 e4 h5 e5 (me_ip c24 hf) hK
  replace hf := me_in c24 hf
  by_cases c25 : s0 &&& 63 = 25
  · refine me_tab C (1703) (tgt := 1748) dL_law_45 (by rw [c25]; decide +kernel) (by decide) ?_
    exact z_case_25 C hX hroom hB h93 h94 h95 hn h1 e1 h2 e2 h3 e3 h4 e4 h5 e5 (me_ip c25 hf) hK
  replace hf := me_in c25 hf
  by_cases c26 : s0 &&& 63 = 26
  · refine me_tab C (1771) (tgt := 1816) dL_law_45 (by rw [c26]; decide +kernel) (by decide) ?_
    exact z_case_26 C hX hroom hB h93 h94 h95 hn h1 e1 h2 e2 h3 e3 h4 e4 h5 e5 (me_ip c26 hf) hK
  replace hf := me_in c26 hf
  by_cases c27 : s0 &&& 63 = 27
  · refine me_tab C (1853) (tgt := 1898) dL_law_45 (by rw [c27]; decide +kernel) (by decide) ?_
    exact z_case_27 C hX hroom hB h93 h94 h95 hn h1 e1 h2 e2 h3 e3 h4 e4 h5 e5 (me_ip c27 hf) hK
  replace hf := me_in c27 hf
  by_cases c28 : s0 &&& 63 = 28
  · refine me_tab C (1909) (tgt := 1954) dL_law_45 (by rw [c28]; decide +kernel) (by decide) ?_
    exact z_case_28 C hX hroom hB h93 h94 h95 hn h1 e1 h2 e2 h3 e3 h4 e4 h5 e5 (me_ip c28 hf) hK
  replace hf := me_in c28 hf
  by_cases c29 : s0 &&& 63 = 29
  · refine me_tab C (1965) (tgt := 2010) dL_law_45 (by rw [c29]; decide +kernel) (by decide) ?_
    exact z_case_29 C hX hroom hB h93 h94 h95 hn h1 e1 h2 e2 h3 e3 h4 e4 h5 e5 (me_ip c29 hf) hK
  replace hf := me_in c29 hf
  by_cases c30 : s0 &&& 63 = 30
  · refine me_tab C (2021) (tgt := 2066) dL_law_45 (by rw [c30]; decide +kernel) (by decide) ?_
    exact z_case_30 C hX hroom hB h93 h94 h95 hn h1 e1 h2 e2 h3 e3 h4 e4 h5 e5 (me_ip c30 hf) hK
  replace hf := me_in c30 hf
  by_cases c31 : s0 &&& 63 = 31
  · refine me_tab C (2077) (tgt := 2122) dL_law_45 (by rw [c31]; decide +kernel) (by decide) ?_
    exact z_case_31 C hX hroom hB h93 h94 h95 hn h1 e1 h2 e2 h3 e3 h4 e4 h5 e5 (me_ip c31 hf) hK
  replace hf := me_in c31 hf
  by_cases c32 : s0 &&& 63 = 32
  · refine me_tab C (2145) (tgt := 2190) dL_law_45 (by rw [c32]; decide +kernel) (by decide) ?_
    exact z_case_32 C hX hroom hB h93 h94 h95 hn h1 e1 h2 e2 h3 e3 h4 e4 h5 e5 (me_ip c32 hf) hK
  replace hf := me_in c32 hf
  by_cases c33 : s0 &&& 63 = 33
  · refine me_tab C (2225) (tgt := 2270) dL_law_45 (by rw [c33]; decide +kernel) (by decide) ?_
    exact z_case_33 C hX hroom hB h93 h94 h95 hn h1 e1 h2 e2 h3 e3 h4 e4 h5 e5 (me_ip c33 hf) hK
  replace hf := me_in c33 hf
  by_cases c34 : s0 &&& 63 = 34
  · refine me_tab C (2281) (tgt := 2326) dL_law_45 (by rw [c34]; decide +kernel) (by decide) ?_
    exact z_case_34 C hX hroom hB h93 h94 h95 hn h1 e1 h2 e2 h3 e3 h4 e4 h5 e5 (me_ip c34 hf) hK
  replace hf := me_in c34 hf
  by_cases c35 : s0 &&& 63 = 35
  · refine me_tab C (2337) (tgt := 2382) dL_law_45 (by rw [c35]; decide +kernel) (by decide) ?_
    exact z_case_35 C hX hroom hB h93 h94 h95 hn h1 e1 h2 e2 h3 e3 h4 e4 h5 e5 (me_ip c35 hf) hK
  replace hf := me_in c35 hf
  by_cases c36 : s0 &&& 63 = 36
  · refine me_tab C (2393) (tgt := 2438) dL_law_45 (by rw [c36]; decide +kernel) (by decide) ?_
    exact z_case_36 C hX hroom hB h93 h94 h95 hn h1 e1 h2 e2 h3 e3 h4 e4 h5 e5 (me_ip c36 hf) hK
  replace hf := me_in c36 hf
  by_cases c37 : s0 &&& 63 = 37
  · refine me_tab C (2473) (tgt := 2518) dL_law_45 (by rw [c37]; decide +kernel) (by decide) ?_
    exact z_case_37 C hX hroom hB h93 h94 h95 hn h1 e1 h2 e2 h3 e3 h4 e4 h5 e5 (me_ip c37 hf) hK
  replace hf := me_in c37 hf
  by_cases c38 : s0 &&& 63 = 38
  · refine me_tab C (2486) (tgt := 2531) dL_law_45 (by rw [c38]; decide +kernel) (by decide) ?_
    exact z_case_38 C hX hroom hB h93 h94 h95 hn h1 e1 h2 e2 h3 e3 h4 e4 h5 e5 (me_ip c38 hf) hK
  replace hf := me_in c38 hf
  by_cases c39 : s0 &&& 63 = 39
  · refine me_tab C (2530) (tgt := 2575) dL_law_45 (by rw [c39]; decide +kernel) (by decide) ?_
    exact z_case_39 C hX hroom hB h93 h94 h95 hn h1 e1 h2 e2 h3 e3 h4 e4 h5 e5 (me_ip c39 hf) hK
  replace hf := me_in c39 hf
  by_cases c40 : s0 &&& 63 = 40
  · refine me_tab C (2586) (tgt := 2631) dL_law_45 (by rw [c40]; decide +kernel) (by decide) ?_
    exact z_case_40 C hX hroom hB h93 h94 h95 hn h1 e1 h2 e2 h3 e3 h4 e4 h5 e5 (me_ip c40 hf) hK
  replace hf := me_in c40 hf
  by_cases c41 : s0 &&& 63 = 41
  · refine me_tab C (2600) (tgt := 2645) dL_law_45 (by rw [c41]; decide +kernel) (by decide) ?_
    exact z_case_41 C hX hroom hB h93 h94 h95 hn h1 e1 h2 e2 h3 e3 h4 e4 h5 e5 (me_ip c41 hf) hK
  replace hf := me_in c41 hf
  by_cases c42 : s0 &&& 63 = 42
  · refine me_tab C (2666) (tgt := 2711) dL_law_45 (by rw [c42]; decide +kernel) (by decide) ?_
    exact z_case_42 C hX hroom hB h93 h94 h95 hn h1 e1 h2 e2 h3 e3 h4 e4 h5 e5 (me_ip c42 hf) hK
  replace hf := me_in c42 hf
  by_cases c43 : s0 &&& 63 = 43
  · refine me_tab C (2731) (tgt := 2776) dL_law_45 (by rw [c43]; decide +kernel) (by decide) ?_
    exact z_case_43 C hX hroom hB h93 h94 h95 hn h1 e1 h2 e2 h3 e3 h4 e4 h5 e5 (me_ip c43 hf) hK
  replace hf := me_in c43 hf
  refine me_tabD C [0, 1, 2, 3, 4, 5, 6, 7, 8, 9, 10, 11, 12, 13, 14, 15, 16, 17, 18, 19, 20, 21, 22, 23, 24, 25, 26, 27, 28, 29, 30, 31, 32, 33, 34, 35, 36, 37, 38, 39, 40, 41, 42, 43] (tgt := 2789) dL_law_45 (by decide +kernel) ⟨c0, c1, c2, c3, c4, c5, c6, c7, c8, c9, c10, c11, c12, c13, c14, c15, c16, c17, c18, c19, c20, c21, c22, c23, c24, c25, c26, c27, c28, c29, c30, c31, c32, c33, c34, c35, c36, c37, c38, c39, c40, c41, c42, c43, trivial⟩ (by decide) ?_
  cases hf
  exact me_wid (nc + 16) (ns + 128) (by omega) (by omega) hK
def f_run (xs : Nat → Int32) (n : Nat) : Nat → Nat → me_M → (Int64 × UInt64) → Option Unit
  | 0, _, _, _ => none
  | f + 1, t, μ, o => if n < t + 6 then some () else me_b2 (f_turn μ o (xs t) (xs (t + 1)) (xs (t + 2)) (xs (t + 3)) (xs (t + 4)) (xs (t + 5))) (fun μ' o' => f_run xs n f (t + 6) μ' o')
theorem me_oix {t : Nat} (h : t < 4096) : me_ix (Int32.ofNat t) = t := by
  show (Int32.ofNat t).toInt.toNat = t
  rw [Int32.toInt_ofNat_small (by omega)]
  simp
theorem me_oin {t n : Nat} (h : t < n) (hn : n ≤ 3072) : me_inb (Int32.ofNat t) n = true := by
  unfold me_inb
  rw [Bool.and_eq_true, decide_eq_true_eq, decide_eq_true_eq]
  refine ⟨?_, ?_⟩
  · rw [Int32.le_iff_toInt_le, Int32.toInt_ofNat_small (by omega)]
    show (0 : Int) ≤ (t : Int)
    omega
  · show me_ix (Int32.ofNat t) < n
    rw [me_oix (by omega)]
    exact h
theorem me_oadd (t j : Nat) : Int32.ofNat t + Int32.ofNat j = Int32.ofNat (t + j) := (Int32.ofNat_add t j).symm
theorem me_olt {t n : Nat} (ht : t < 4096) (hn : n ≤ 3072) : (Int32.ofNat n - 6 < Int32.ofNat t) ↔ n < t + 6 := by
  rw [Int32.lt_iff_toInt_lt, Int32.toInt_sub, Int32.toInt_ofNat_small (by omega), Int32.toInt_ofNat_small (by omega), show (6 : Int32).toInt = 6 from rfl]
  rw [Int.bmod_eq_of_le (by omega) (by omega)]
  omega
theorem z_loop {X : me_X} {B : me_B} {b n : Nat} {xs : Nat → Int32} {ret0 : Option FieldType} (C0 : me_C X B RL cL_law 9 ret0) (hX : me_SX X b n xs) (hroom : me_Rm X 12 464 601024 7293034) (hB0 : me_St B) (h93 : ∀ i, i < B.2.1 93 → i = 0) (h94 : ∀ i, i < B.2.1 94 → i = 0) (h95 : B.2.1 95 = 0) (hn : n ≤ 3072)
    (hE : ∀ (o : Int64 × UInt64) (μ : me_M) (nc ns : Nat) (i : Int32), nc ≤ 601024 → ns ≤ 7293034 → me_Z X (me_ob B o) nc ns μ 2795 [(0, .inl (.ref b)), (1, me_r 0 0), (2, me_r 36 0), (3, me_r 93 0), (4, me_r 94 0), (5, me_i i)] []) :
    ∀ (f t : Nat) (μ : me_M) (o : Int64 × UInt64) (nc ns : Nat), t < 4090 → nc + 16 * f ≤ 601024 → ns + 128 * f ≤ 7293034 → f_run xs n f t μ o = some () → me_Z X (me_ob B o) nc ns μ 28 [(0, .inl (.ref b)), (1, me_r 0 0), (2, me_r 36 0), (3, me_r 93 0), (4, me_r 94 0), (5, me_i (Int32.ofNat t))] [] := by
  intro f
  induction f with
  | zero => intro t μ o nc ns _ _ _ h; cases h
  | succ f ih =>
    intro t μ o nc ns ht hnc hns hf
    unfold f_run at hf
    have C := C0.ob o
    have hB := hB0.ob o
    refine me_iload C dL_law_28 rfl ?_
    refine me_aload_n C 0 (Or.inr (Or.inr ⟨_, rfl⟩)) dL_law_30 rfl rfl ?_
    refine me_sle C hX dL_law_31 ?_
    refine me_bipush C (v := 6) dL_law_32 (by decide) ?_
    refine me_isub C dL_law_34 ?_
    refine me_icmp_gt C (tgt := 2795) dL_law_35 (by decide) (fun c1 => ?_) (fun c1 => ?_)
    · exact hE o μ nc ns _ (by omega) (by omega)
    · have hlt : ¬ n < t + 6 := fun q => c1 ((me_olt (by omega) hn).mpr q)
      rw [if_neg hlt] at hf
      obtain ⟨μ1, o1, hturn, hf⟩ := me_bs2 hf
      refine me_aload_n C 0 (Or.inr (Or.inr ⟨_, rfl⟩)) dL_law_38 rfl rfl ?_
      refine me_iload C dL_law_39 rfl ?_
      refine me_sld C hX (me_oin (by omega) hn) (by rw [me_oix (by omega)]) dL_law_41 ?_
      refine me_bipush C (v := 63) dL_law_42 (by decide) ?_
      refine me_iand C dL_law_44 ?_
      have hi : ∀ j : Nat, j < 6 → Int32.ofNat t + Int32.ofNat j = Int32.ofNat (t + j) := fun j _ => me_oadd t j
      have hh : ∀ j : Nat, j < 6 → me_inb (Int32.ofNat t + Int32.ofNat j) n = true ∧ xs (me_ix (Int32.ofNat t + Int32.ofNat j)) = xs (t + j) := fun j hj => by
        rw [hi j hj, me_oix (by omega)]
        exact ⟨me_oin (by omega) hn, rfl⟩
      refine z_turn C hX hroom hB h93 h94 h95 ⟨by omega, by omega⟩ (hh 1 (by decide)).1 (hh 1 (by decide)).2 (hh 2 (by decide)).1 (hh 2 (by decide)).2 (hh 3 (by decide)).1 (hh 3 (by decide)).2 (hh 4 (by decide)).1 (hh 4 (by decide)).2 (hh 5 (by decide)).1 (hh 5 (by decide)).2 hturn ?_
      have C1 := C0.ob o1
      refine me_iinc C1 (v := Int32.ofNat (t + 6)) (L' := [(5, me_i (Int32.ofNat (t + 6))), (0, .inl (.ref b)), (1, me_r 0 0), (2, me_r 36 0), (3, me_r 93 0), (4, me_r 94 0)]) dL_law_2789 rfl (me_oadd t 6) (by decide) rfl ?_
      refine me_goto C1 (tgt := 28) dL_law_2792 (by decide) ?_
      refine me_dropI [(0, .inl (.ref b)), (1, me_r 0 0), (2, me_r 36 0), (3, me_r 93 0), (4, me_r 94 0), (5, me_i (Int32.ofNat (t + 6)))] [1, 2, 3, 4, 5, 0] rfl ?_
      exact ih (t + 6) μ1 o1 (nc + 16) (ns + 128) (by omega) (by omega) (by omega) hf
