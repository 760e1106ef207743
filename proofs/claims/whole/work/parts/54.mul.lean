/-! MULTIDIMENSIONAL ARRAYS -/
abbrev me_T3 : Type := me_Nt × me_Rt × me_M
/-- what the world becomes: one array of kind k; an array of kind k0 of d things that f makes, of kind k1 -/
def me_p1 (k : Nat) (t : me_T3) : me_T3 := (me_np t.1 k, me_rn t.2.1 k (t.1 k), me_zc t.2.2 k (t.1 k))
def me_pF (k0 k1 i0 : Nat) (f : me_T3 → me_T3) : Nat → me_T3 → me_T3
  | 0, t => t
  | j + 1, t => ((f (me_pF k0 k1 i0 f j t)).1, me_ru (f (me_pF k0 k1 i0 f j t)).2.1 k0 i0 j (k1, (me_pF k0 k1 i0 f j t).1 k1), (f (me_pF k0 k1 i0 f j t)).2.2)
def me_pG (k0 k1 : Nat) (f : me_T3 → me_T3) (d : Nat) (t : me_T3) : me_T3 := me_pF k0 k1 (t.1 k0) f d (me_p1 k0 t)
/-- what the state becomes -/
def me_mk1 (c : ClassId) (m : Nat) (dv : Value) (s : State) : State := s.pushCell { cls := c, slots := Array.replicate m dv, vm := .none }
def me_oc (c : ClassId) (N h0 K : Nat) : Nat → Cell
  | 0 => { cls := c, slots := Array.replicate N .null, vm := .none }
  | i + 1 => (me_oc c N h0 K i).setSlot i (.ref (h0 + 1 + i * K))
def me_mkF (c : ClassId) (N K : Nat) (g : State → State) (s : State) : Nat → State
  | 0 => s.pushCell (me_oc c N s.heap.size K 0)
  | i + 1 => (g (me_mkF c N K g s i)).setCell s.heap.size (me_oc c N s.heap.size K (i + 1))
theorem me_oc_facts (c : ClassId) (N h0 K : Nat) : ∀ i, (me_oc c N h0 K i).cls = c ∧ (me_oc c N h0 K i).vm = .none ∧ (me_oc c N h0 K i).slots.size = N
  | 0 => ⟨rfl, rfl, by simp [me_oc]⟩
  | i + 1 => by
    obtain ⟨a, b, d⟩ := me_oc_facts c N h0 K i
    exact ⟨by simp [me_oc, Cell.setSlot, a], by simp [me_oc, Cell.setSlot, b], by simp [me_oc, Cell.setSlot, d]⟩
/-- a maker: what it does to any state -/
def me_Gr (g : State → State) (K KS : Nat) : Prop :=
  (∀ s : State, (g s).vm = s.vm ∧ (g s).heap.size = s.heap.size + K ∧ (g s).slotsUsed = s.slotsUsed + KS ∧ ∀ a : Nat, a < s.heap.size → (g s).heap[a]? = s.heap[a]?) ∧ (∀ (s : State) (f : JFrame), g (s.setTop f) = (g s).setTop f)
  ∧ ∀ {p : Program} {l : Launch} {e : Env} {R : Room} {s : State} {m : MethodId} {args : Array Value} {below : List Frame} {meth : Method} {c : Code} {T : State} {locs : List Loc} {cells slots : Nat}, Stand p l e R s m args below meth c T locs cells slots → Stand p l e R s m args below meth c (g T) locs (cells + K) (slots + KS)
theorem me_Gr1 (c : ClassId) (m : Nat) (dv : Value) : me_Gr (me_mk1 c m dv) 1 m := by
  refine ⟨fun s => ⟨rfl, by simp [me_mk1], by simp [me_mk1], fun a ha => State.heap_pushCell_of_lt _ _ ha⟩, fun s f => rfl, fun X => ?_⟩
  have h := X.pushed { cls := c, slots := Array.replicate m dv, vm := .none }
  rw [show (Array.replicate m dv).size = m by simp] at h
  exact h
theorem me_mkF_facts {c : ClassId} {N K KS : Nat} {g : State → State} (hg : me_Gr g K KS) (s : State) : ∀ i, (me_mkF c N K g s i).vm = s.vm ∧ (me_mkF c N K g s i).heap.size = s.heap.size + 1 + i * K ∧ (me_mkF c N K g s i).slotsUsed = s.slotsUsed + N + i * KS ∧ (∀ a : Nat, a < s.heap.size → (me_mkF c N K g s i).heap[a]? = s.heap[a]?) ∧ (me_mkF c N K g s i).heap[s.heap.size]? = some (me_oc c N s.heap.size K i)
  | 0 => ⟨rfl, by simp [me_mkF], by simp [me_mkF, me_oc], fun a ha => State.heap_pushCell_of_lt _ _ ha, by simp [me_mkF]⟩
  | i + 1 => by
    obtain ⟨a1, a2, a3, a4, a5⟩ := me_mkF_facts (c := c) (N := N) hg s i
    obtain ⟨b1, b2, b3, b4⟩ := hg.1 (me_mkF c N K g s i)
    have hlt : s.heap.size < (me_mkF c N K g s i).heap.size := by omega
    have b5 := (b4 s.heap.size hlt).trans a5
    refine ⟨b1.trans a1, ?_, ?_, fun a ha => ?_, State.heap_setCell_self b5⟩
    · show ((g (me_mkF c N K g s i)).setCell _ _).heap.size = _
      simp only [State.setCell, Array.size_setIfInBounds]
      rw [b2, a2, Nat.succ_mul]
      omega
    · show (g (me_mkF c N K g s i)).slotsUsed = _
      rw [b3, a3, Nat.succ_mul]
      omega
    · show ((g (me_mkF c N K g s i)).setCell _ _).heap[a]? = _
      rw [State.heap_setCell_other (Nat.ne_of_gt ha), b4 a (by omega)]
      exact a4 a ha
theorem me_GrF {c : ClassId} {N K KS : Nat} {g : State → State} (hg : me_Gr g K KS) : me_Gr (fun s => me_mkF c N K g s N) (1 + N * K) (N + N * KS) := by
  refine ⟨fun s => ?_, fun s f => ?_, fun X => ?_⟩
  · obtain ⟨a1, a2, a3, a4, -⟩ := me_mkF_facts (c := c) (N := N) hg s N
    exact ⟨a1, by rw [a2]; omega, by rw [a3]; omega, a4⟩
  · have h : ∀ i, me_mkF c N K g (s.setTop f) i = (me_mkF c N K g s i).setTop f := by
      intro i
      induction i with
      | zero => rfl
      | succ i ih =>
        show (g (me_mkF c N K g (s.setTop f) i)).setCell _ _ = ((g (me_mkF c N K g s i)).setCell _ _).setTop f
        rw [ih, hg.2.1]
        rfl
    exact h N
  · rename_i p l e R s m args below meth c0 T locs cells slots
    have h : ∀ i, Stand p l e R s m args below meth c0 (me_mkF c N K g T i) (locs ++ (List.range i).map fun j => ⟨T.heap.size, j⟩) (cells + 1 + i * K) (slots + N + i * KS) := by
      intro i
      induction i with
      | zero =>
        have h := X.pushed (me_oc c N T.heap.size K 0)
        rw [(me_oc_facts c N T.heap.size K 0).2.2] at h
        simpa [me_mkF] using h
      | succ i ih =>
        obtain ⟨a1, a2, a3, a4, a5⟩ := me_mkF_facts (c := c) (N := N) hg T i
        obtain ⟨b1, b2, b3, b4⟩ := hg.1 (me_mkF c N K g T i)
        have hlt : T.heap.size < (me_mkF c N K g T i).heap.size := by omega
        have b5 := (b4 T.heap.size hlt).trans a5
        have h := (hg.2.2 ih).stored b5 i (.ref (T.heap.size + 1 + i * K))
        have e2 : (locs ++ (List.range (i + 1)).map fun j => (⟨T.heap.size, j⟩ : Loc)) = (locs ++ (List.range i).map fun j => (⟨T.heap.size, j⟩ : Loc)) ++ [⟨T.heap.size, i⟩] := by simp [List.range_succ, List.append_assoc]
        have e3 : slots + N + (i + 1) * KS = slots + N + i * KS + KS := by rw [Nat.succ_mul]; omega
        have e4 : cells + 1 + (i + 1) * K = cells + 1 + i * K + K := by rw [Nat.succ_mul]; omega
        rw [e2, e3, e4]
        exact h
    have h2 := (h N).dropFresh (fun x hx => by
      obtain ⟨j, -, rfl⟩ := List.mem_map.mp hx
      exact X.heapGrown)
    have e1 : cells + (1 + N * K) = cells + 1 + N * K := by omega
    have e2 : slots + (N + N * KS) = slots + N + N * KS := by omega
    rw [e1, e2]
    exact h2
section MeWp
variable {E : CtlPost} {e : Env}
/-- the machine's own 'make' of these counts is the maker g -/
def me_Wp (e : Env) (vm : Vm) (c : ClassId) (cs : List Int32) (g : State → State) (K KS : Nat) : Prop :=
  ∀ (E : CtlPost) (d : Bool) (acts : List Action) (s : State) (Q : Addr → Pre), s.vm = vm → s.heap.size + K ≤ e.platform.maxCells → s.slotsUsed + KS ≤ e.platform.maxSlots → (∀ d' acts', Q s.heap.size d' acts' (g s)) → wp (multianewarray.make c cs) Q E e d acts s
theorem me_wpNew {d : Bool} {acts : List Action} {s : State} {c comp : ClassId} {k : Class} {type : FieldType} {len : Nat} {init : Value} (hk : s.vm.classes[c]? = some k) (hkind : k.kind = .array comp type)
    (hlimit : ¬ len > e.platform.arrayLengthLimit) (hheap : ¬ len * componentBytes type > e.platform.maxHeapBytes) (hfit : fits type init = true) (hdef : init.isDefault = true) {Q : Addr → Pre}
    (h1 : s.heap.size < e.platform.maxCells) (h2 : s.slotsUsed + len ≤ e.platform.maxSlots)
    (hq : Q s.heap.size d acts (s.pushCell { cls := c, slots := Array.replicate len init, vm := .none })) :
    wp (Jvm.newArray c len init) Q E e d acts s := by
  have hfits : ∀ i v, (Array.replicate len init)[i]? = some v → s.fitsSlot c .none i v = true := by
    intro i v hv
    simp only [Array.getElem?_replicate] at hv
    split at hv
    · cases hv; simp [State.fitsSlot, State.slotType?, hk, hkind, hfit]
    · cases hv
  have hda : allocActs (Array.replicate len init) s.heap.size acts = acts := by
    have hall : ((Array.replicate len init).all (·.isDefault)) = true := by
      rw [Array.all_replicate]; split <;> simp [hdef]
    unfold allocActs; rw [if_pos hall]
  simp only [Jvm.newArray, Jvm.arrayFits, wp_bind', W.ask, W.ite, hlimit, if_false, wp_pure', W.theClass, hk, hkind, hheap, W.alloc, W.stop, Option.some.injEq, exists_eq_left', Array.size_replicate, hda]
  rw [if_neg (by omega)]
  exact ⟨h1, h2, hfits, hq⟩
theorem me_Wp1 {vm : Vm} {c comp : ClassId} {k : Class} {type : FieldType} {m : Int32} {m0 : Nat} (hk : vm.classes[c]? = some k) (hkind : k.kind = .array comp type) (hm : ¬ m < 0) (hm0 : m.toNatClampNeg = m0)
    (hl : ¬ m0 > e.platform.arrayLengthLimit) (hh : ¬ m0 * componentBytes type > e.platform.maxHeapBytes) (hdf : fits type (defaultValue type) = true) (hdd : (defaultValue type).isDefault = true) : me_Wp e vm c [m] (me_mk1 c m0 (defaultValue type)) 1 m0 := by
  intro E d acts s Q hvm h1 h2 hq
  subst hm0
  subst hvm
  rw [multianewarray.make]
  simp only [wp_bind', W.ite, hm, if_false, wp_pure', W.theClass, hk, hkind, Option.some.injEq, exists_eq_left']
  exact me_wpNew hk hkind hl hh hdf hdd (by omega) h2 (hq _ _)
theorem me_WpF {vm : Vm} {c comp : ClassId} {k : Class} {t0 : FieldType} {m x : Int32} {m0 K KS : Nat} {cs : List Int32} {g : State → State} (hg : me_Gr g K KS) (hw : me_Wp e vm comp (x :: cs) g K KS) (hk : vm.classes[c]? = some k) (hkind : k.kind = .array comp t0) (href : t0.isReference = true) (hm : ¬ m < 0) (hm0 : m.toNatClampNeg = m0) (hpos : ¬ m = 0)
    (hl : ¬ m0 > e.platform.arrayLengthLimit) (hh : ¬ m0 * componentBytes t0 > e.platform.maxHeapBytes) : me_Wp e vm c (m :: x :: cs) (fun s => me_mkF c m0 K g s m0) (1 + m0 * K) (m0 + m0 * KS) := by
  intro E d acts s Q hvm h1 h2 hq
  subst hm0
  subst hvm
  have hfit : ∀ v, (v = .null ∨ ∃ a, v = .ref a) → fits t0 v = true := fun v hv => by
    rcases hv with rfl | ⟨a, rfl⟩ <;> cases t0 <;> simp [FieldType.isReference] at href <;> rfl
  have hm2 : (m == 0) = false := by simpa using hpos
  rw [multianewarray.make]
  simp only [wp_bind', W.ite, hm, if_false, wp_pure', W.theClass, hk, hkind, Option.some.injEq, exists_eq_left']
  refine me_wpNew hk hkind hl hh (hfit _ (Or.inl rfl)) rfl (by omega) (by have := Nat.zero_le (m.toNatClampNeg * KS); omega) ?_
  simp only [hm2, Bool.false_eq_true, if_false]
  rw [wp_bind', Std.Legacy.Range.forIn_eq_forIn_range']
  have hsz : ([:m.toNatClampNeg] : Std.Legacy.Range).size = m.toNatClampNeg := by simp [Std.Legacy.Range.size]
  rw [hsz]
  show wp (forIn (List.range' 0 m.toNatClampNeg 1) PUnit.unit _) _ E e d acts _
  refine wp_forIn_inv (fun rest s' => ∃ i, i ≤ m.toNatClampNeg ∧ rest = List.range' i (m.toNatClampNeg - i) ∧ s' = me_mkF c m.toNatClampNeg K g s i) _ _ ⟨0, Nat.zero_le _, rfl, rfl⟩ ?_ ?_
  · rintro y rest s' d' acts' Q' ⟨i, hi, hl', rfl⟩ hnext
    have hlt : i < m.toNatClampNeg := by
      rcases Nat.lt_or_ge i m.toNatClampNeg with h | h
      · exact h
      · rw [show m.toNatClampNeg - i = 0 from by omega] at hl'; simp at hl'
    obtain ⟨rfl, hrest⟩ : y = i ∧ rest = List.range' (i + 1) (m.toNatClampNeg - (i + 1)) := by
      rw [show m.toNatClampNeg - i = (m.toNatClampNeg - (i + 1)) + 1 from by omega, List.range'_succ] at hl'
      exact ⟨(List.cons.inj hl').1, (List.cons.inj hl').2⟩
    obtain ⟨a1, a2, a3, a4, a5⟩ := me_mkF_facts (c := c) (N := m.toNatClampNeg) hg s y
    obtain ⟨b1, b2, b3, b4⟩ := hg.1 (me_mkF c m.toNatClampNeg K g s y)
    obtain ⟨o1, o2, o3⟩ := me_oc_facts c m.toNatClampNeg s.heap.size K y
    have m1 : y * K + K ≤ m.toNatClampNeg * K := by
      have := Nat.mul_le_mul_right K (show y + 1 ≤ m.toNatClampNeg from hlt)
      rw [Nat.succ_mul] at this; exact this
    have m2 : y * KS + KS ≤ m.toNatClampNeg * KS := by
      have := Nat.mul_le_mul_right KS (show y + 1 ≤ m.toNatClampNeg from hlt)
      rw [Nat.succ_mul] at this; exact this
    simp only [wp_bind']
    refine hw _ _ _ _ _ a1 (by rw [a2]; omega) (by rw [a3]; omega) (fun d2 acts2 => ?_)
    have hlt0 : s.heap.size < (me_mkF c m.toNatClampNeg K g s y).heap.size := by rw [a2]; omega
    simp only [wp_bind', W.writeLoc, wp_pure']
    refine ⟨me_oc c m.toNatClampNeg s.heap.size K y, (b4 _ hlt0).trans a5, by rw [o2]; simp, by rw [o3]; exact hlt, ?_, hnext _ _ _ ⟨y + 1, hlt, hrest, ?_⟩⟩
    · rw [o1, o2]
      simp [State.fitsSlot, State.slotType?, b1, a1, hk, hkind, hfit _ (Or.inr ⟨_, rfl⟩)]
    · rw [a2]; rfl
  · rintro s' d' acts' ⟨i, hi, hl', rfl⟩
    have hiN : i = m.toNatClampNeg := by
      rcases Nat.lt_or_ge i m.toNatClampNeg with h | h
      · rw [show m.toNatClampNeg - i = (m.toNatClampNeg - (i + 1)) + 1 from by omega, List.range'_succ] at hl'; cases hl'
      · omega
    subst hiN
    simp only [wp_pure']
    exact hq _ _
end MeWp
/-- what the world becomes by a maker -/
def me_MkW (E : me_G) (g : State → State) (k : Nat) (f : me_T3 → me_T3) : Prop := ∀ (a : Nat → Nat → Nat) (n : me_Nt) (r : me_Rt) (w : me_w) (μ : me_M) (T : State), me_W E (a, n, r, w) μ T.heap → me_J (a, n, r, w) →
  ∃ a', me_agr a n a' (f (n, r, μ)).1 ∧ me_W E (a', (f (n, r, μ)).1, (f (n, r, μ)).2.1, w) (f (n, r, μ)).2.2 (g T).heap ∧ me_J (a', (f (n, r, μ)).1, (f (n, r, μ)).2.1, w) ∧ a' k (n k) = T.heap.size ∧ n k < (f (n, r, μ)).1 k ∧ ∀ q, me_A (a', (f (n, r, μ)).1, (f (n, r, μ)).2.1, w) q → me_A (a, n, r, w) q ∨ T.heap.size ≤ q
theorem me_np_in {n : me_Nt} {k k' i' : Nat} (hi' : i' < me_np n k k') (h : ¬ (k' = k ∧ i' = n k)) : i' < n k' := by
  unfold me_np at hi'
  by_cases e : k' = k
  · rw [if_pos e] at hi'
    subst e
    have : ¬ i' = n k' := fun q => h ⟨rfl, q⟩
    omega
  · rwa [if_neg e] at hi'
theorem me_A_an {a : Nat → Nat → Nat} {n : me_Nt} {r : me_Rt} {w : me_w} {k Hs : Nat} {r' : me_Rt} : ∀ q, me_A (me_an a k (n k) Hs, me_np n k, r', w) q → me_A (a, n, r, w) q ∨ Hs ≤ q := by
  rintro q ⟨k', i', hk', hi', rfl⟩
  show me_A (a, n, r, w) (me_an a k (n k) Hs k' i') ∨ Hs ≤ me_an a k (n k) Hs k' i'
  by_cases e : k' = k ∧ i' = n k
  · rw [show me_an a k (n k) Hs k' i' = Hs from if_pos e]
    exact Or.inr (Nat.le_refl _)
  · rw [show me_an a k (n k) Hs k' i' = a k' i' from if_neg e]
    exact Or.inl ⟨k', i', hk', me_np_in hi' e, rfl⟩
theorem me_MkW1 {E : me_G} {k ai N : Nat} (hk : k < me_NK) (h1 : me_kt k = (1, ai, N)) : me_MkW E (me_mk1 (E.2 ai) N (.int 0)) k (me_p1 k) := by
  intro a n r w μ T hW hJ
  have hs : (me_mk1 (E.2 ai) N (.int 0) T).heap.size = T.heap.size + 1 := by simp [me_mk1]
  obtain ⟨g1, g2, g3⟩ := me_grow (H1 := (me_mk1 (E.2 ai) N (.int 0) T).heap) hk hW hJ hs (fun q hq => State.heap_pushCell_of_lt _ _ hq) (by
    rw [me_ct1 h1]
    show (me_mk1 (E.2 ai) N (.int 0) T).heap[T.heap.size]? = some (vp_cell (E.2 ai) (N, .inl (me_zc μ k (n k) k (n k))))
    rw [show (me_mk1 (E.2 ai) N (.int 0) T).heap[T.heap.size]? = some ({ cls := E.2 ai, slots := Array.replicate N (.int 0), vm := .none } : Cell) from State.heap_pushCell_size _ _, arrV_new, vp_cell_i]
    refine congrArg some (me_arrX (fun j hj => ?_))
    rw [show me_zc μ k (n k) k (n k) j = 0 from if_pos ⟨rfl, rfl⟩])
  exact ⟨_, g3, g1, g2, if_pos ⟨rfl, rfl⟩, by show n k < me_np n k k; unfold me_np; rw [if_pos rfl]; omega, me_A_an⟩
theorem me_refH {E : me_G} {a : Nat → Nat → Nat} {n : me_Nt} {r : me_Rt} {w : me_w} {μ : me_M} {H H1 : Heap} {k0 i0 j k1 i1 ai N : Nat} (hW : me_W E (a, n, r, w) μ H) (hJ : me_J (a, n, r, w)) (hk0 : k0 < me_NK) (hi0 : i0 < n k0) (h1 : me_kt k0 = (4, ai, N)) (ho : ∀ b, ¬ b = a k0 i0 → H1[b]? = H[b]?) (hc : ∀ c0, H[a k0 i0]? = some c0 → H1[a k0 i0]? = some (c0.setSlot j (.ref (a k1 i1)))) : me_W E (a, n, me_ru r k0 i0 j (k1, i1), w) μ H1 := by
  intro k' hk' i' hi'
  by_cases e : k' = k0 ∧ i' = i0
  · obtain ⟨rfl, rfl⟩ := e
    have h := hW k' hk' i' hi'
    rw [me_ct4 h1] at h
    rw [me_ct4 h1]
    have h : H[a k' i']? = some (vp_cell (E.2 ai) (N, .inr (.inr (.inr (.inr (fun j => (r k' i' j).map (fun q => a q.1 q.2))))))) := h
    show H1[a k' i']? = some (vp_cell (E.2 ai) (N, .inr (.inr (.inr (.inr (fun j' => (me_ru r k' i' j (k1, i1) k' i' j').map (fun q => a q.1 q.2)))))))
    rw [hc _ h, vp_cell_q, vp_cell_q, arrV_store]
    refine congrArg some (me_arrX (fun j' _ => ?_))
    unfold updV me_ru
    by_cases e : j' = j
    · rw [if_pos e, if_pos ⟨rfl, rfl, e⟩]
      rfl
    · rw [if_neg e, if_neg (fun h => e h.2.2)]
  · have hne : ¬ a k' i' = a k0 i0 := fun q => e (hJ.1 k' i' k0 i0 hk' hk0 hi' hi0 q)
    have ec : me_ct E (a, n, me_ru r k0 i0 j (k1, i1), w) μ k' i' = me_ct E (a, n, r, w) μ k' i' := me_ct_cg (B := (a, n, r, w)) (B' := (a, n, me_ru r k0 i0 j (k1, i1), w)) rfl rfl (fun j' => if_neg (fun h => e ⟨h.1, h.2.1⟩)) (fun _ _ _ => rfl)
    rw [ec]
    exact (hW k' hk' i' hi').kept (ho _ hne)
theorem me_MkWF {E : me_G} {k0 k1 ai N K KS : Nat} {g : State → State} {f : me_T3 → me_T3} (hk0 : k0 < me_NK) (hk1 : k1 < me_NK) (h1 : me_kt k0 = (4, ai, N)) (hg : me_Gr g K KS) (hw : me_MkW E g k1 f) : me_MkW E (fun s => me_mkF (E.2 ai) N K g s N) k0 (me_pG k0 k1 f N) := by
  intro a n r w μ T hW hJ
  have hi : ∀ i, ∃ a', me_agr a n a' (me_pF k0 k1 (n k0) f i (me_p1 k0 (n, r, μ))).1 ∧ me_W E (a', (me_pF k0 k1 (n k0) f i (me_p1 k0 (n, r, μ))).1, (me_pF k0 k1 (n k0) f i (me_p1 k0 (n, r, μ))).2.1, w) (me_pF k0 k1 (n k0) f i (me_p1 k0 (n, r, μ))).2.2 (me_mkF (E.2 ai) N K g T i).heap ∧ me_J (a', (me_pF k0 k1 (n k0) f i (me_p1 k0 (n, r, μ))).1, (me_pF k0 k1 (n k0) f i (me_p1 k0 (n, r, μ))).2.1, w) ∧ a' k0 (n k0) = T.heap.size ∧ n k0 < (me_pF k0 k1 (n k0) f i (me_p1 k0 (n, r, μ))).1 k0 ∧ ∀ q, me_A (a', (me_pF k0 k1 (n k0) f i (me_p1 k0 (n, r, μ))).1, (me_pF k0 k1 (n k0) f i (me_p1 k0 (n, r, μ))).2.1, w) q → me_A (a, n, r, w) q ∨ T.heap.size ≤ q := by
    intro i
    induction i with
    | zero =>
      have hs : (me_mkF (E.2 ai) N K g T 0).heap.size = T.heap.size + 1 := by simp [me_mkF]
      obtain ⟨g1, g2, g3⟩ := me_grow (H1 := (me_mkF (E.2 ai) N K g T 0).heap) hk0 hW hJ hs (fun q hq => State.heap_pushCell_of_lt _ _ hq) (by
        rw [me_ct4 h1]
        show (me_mkF (E.2 ai) N K g T 0).heap[T.heap.size]? = some (vp_cell (E.2 ai) (N, _))
        rw [show (me_mkF (E.2 ai) N K g T 0).heap[T.heap.size]? = some ({ cls := E.2 ai, slots := Array.replicate N .null, vm := .none } : Cell) from State.heap_pushCell_size _ _, arrV_new, vp_cell_q]
        refine congrArg some (me_arrX (fun j hj => ?_))
        show Value.null = va_rf ((me_rn r k0 (n k0) k0 (n k0) j).map _)
        rw [show me_rn r k0 (n k0) k0 (n k0) j = none from if_pos ⟨rfl, rfl⟩]
        rfl)
      exact ⟨_, g3, g1, g2, if_pos ⟨rfl, rfl⟩, by show n k0 < me_np n k0 k0; unfold me_np; rw [if_pos rfl]; omega, me_A_an⟩
    | succ i ih =>
      obtain ⟨a1, c1, c2, c3, c4, c5, c6⟩ := ih
      obtain ⟨b1, b2, b3, b4, b5⟩ := me_mkF_facts (c := E.2 ai) (N := N) hg T i
      obtain ⟨d1, d2, d3, d4⟩ := hg.1 (me_mkF (E.2 ai) N K g T i)
      obtain ⟨a2, e1, e2, e3, e4, e5, e6⟩ := hw a1 _ _ w _ (me_mkF (E.2 ai) N K g T i) c2 c3
      have hk0' := e1.1 k0 (n k0) hk0 c5
      have ha : a2 k0 (n k0) = T.heap.size := hk0'.2.trans c4
      have hlt : T.heap.size < (me_mkF (E.2 ai) N K g T i).heap.size := by omega
      have hcell : (g (me_mkF (E.2 ai) N K g T i)).heap[T.heap.size]? = some (me_oc (E.2 ai) N T.heap.size K i) := (d4 _ hlt).trans b5
      refine ⟨a2, c1.tr e1, me_refH (H := (g (me_mkF (E.2 ai) N K g T i)).heap) e2 e3 hk0 hk0'.1 h1 (fun b hb => ?_) (fun c0 h0 => ?_), me_refJ e3 ⟨hk1, e5⟩, ha, hk0'.1, fun q hq => ?_⟩
      · rw [ha] at hb
        exact State.heap_setCell_other (fun h => hb h.symm)
      · rw [ha] at h0 ⊢
        rw [hcell] at h0
        cases h0
        rw [e4, b2]
        exact State.heap_setCell_self hcell
      · rcases e6 q hq with h | h
        · exact c6 q h
        · exact Or.inr (by omega)
  exact hi N

section MeMulti2
variable {p : Program} {l : Launch} {e : Env} {R : Room} {s : State} {m : MethodId} {args : Array Value} {below : List Frame} {meth : Method} {c : Code} {T : State} {locs : List Loc} {cells slots : Nat}
theorem me_multiS2 (X : Stand p l e R s m args below meth c T locs cells slots) (hexec : p.tables.exec = Jvm.exec) {own name : String} {index : Nat} {cA : ClassId} (hown : s.vm.findClass own = some m.cls) (hclink : (Cond.classLink own index name).before args s = true) (hcA : s.vm.findClass name = some cA)
    {g : JFrame} (hg : g.method = m) (hdg : decode c.code g.pc = .ok (.multianewarray index 2, 4)) {x1 x2 : Int32} {rest : List Value} (hstack : g.stack = .int x2 :: .int x1 :: rest) {gf : State → State} {K KS : Nat} (hG : me_Gr gf K KS) (hWp : ∀ vm, s.vm.Alike vm → me_Wp e vm cA [x1, x2] gf K KS) (hcells : cells + K ≤ R.cells) (hslots : slots + KS ≤ R.slots) :
    ∃ vm₁ : Vm, s.WarmedH vm₁ ∧ Stand p l e R s m args below meth c (gf (T.setVm vm₁)) locs (cells + K) (slots + KS) ∧ ∀ target, Steps p.tables e below ((gf (T.setVm vm₁)).setTop { g with pc := g.pc + 4, stack := .ref T.heap.size :: rest }) target → Steps p.tables e below (T.setTop g) target := by
  subst hg
  have hpl : e.platform.magicAccessors = ({} : Platform).magicAccessors := by rw [X.admits.platform]
  obtain ⟨c0, hfc0, hcl⟩ := Cond.classLink_spec hown hclink e.platform hpl
  cases hcA.symm.trans hfc0
  obtain ⟨hg₁, hwarm₁, hready₁⟩ := State.classEntry (e := e) X.warmed hcl
  generalize T.vm.noted g.method.cls index (.cls cA) = vm₁ at hg₁ hwarm₁ hready₁
  have X₁ := X.noted hwarm₁
  obtain ⟨hr1, hr2⟩ := X.roomAbove hcells hslots
  have XF := hG.2.2 X₁
  refine ⟨vm₁, hwarm₁, XF, fun target hrest => ?_⟩
  jvm_step X.here [hexec, hdg]
  simp only [multianewarray.sem, wp_bind', W.resolveClassAt_links (State.method?_setTop g X.here.top) hg₁]
  rw [W.popN, if_neg (by decide)]
  refine ⟨g, State.topJava?_setTop' (s := T.setVm vm₁) g X.here.top, [.int x1, .int x2], rest, rfl, hstack, ?_⟩
  simp only [List.mapM_cons, List.mapM_nil, wp_bind', wp_pure']
  have eS : ((T.setTop g).setVm vm₁).setTop { g with stack := rest } = (T.setVm vm₁).setTop { g with stack := rest } := by
    show ((T.setVm vm₁).setTop g).setTop _ = _
    rw [State.setTop_setTop]
  refine hWp vm₁ hwarm₁.alike _ _ _ _ _ (by rfl) (by show T.heap.size + K ≤ _; omega) (by show T.slotsUsed + KS ≤ _; omega) (fun d' acts' => ?_)
  rw [eS, hG.2.1]
  simp only [wp_bind', W.mark, W.pushRef, State.topJava?_setTop' _ XF.here.top, Option.some.injEq, exists_eq_left', State.setTop_setTop, State.heap_setTop]
  intro acts
  simp [jvm, XF.here.top]
  exact hrest
end MeMulti2

section MeMulti3
variable {p : Program} {l : Launch} {e : Env} {R : Room} {s : State} {m : MethodId} {args : Array Value} {below : List Frame} {meth : Method} {c : Code} {T : State} {locs : List Loc} {cells slots : Nat}
theorem me_multiS3 (X : Stand p l e R s m args below meth c T locs cells slots) (hexec : p.tables.exec = Jvm.exec) {own name : String} {index : Nat} {cA : ClassId} (hown : s.vm.findClass own = some m.cls) (hclink : (Cond.classLink own index name).before args s = true) (hcA : s.vm.findClass name = some cA)
    {g : JFrame} (hg : g.method = m) (hdg : decode c.code g.pc = .ok (.multianewarray index 3, 4)) {x1 x2 x3 : Int32} {rest : List Value} (hstack : g.stack = .int x3 :: .int x2 :: .int x1 :: rest) {gf : State → State} {K KS : Nat} (hG : me_Gr gf K KS) (hWp : ∀ vm, s.vm.Alike vm → me_Wp e vm cA [x1, x2, x3] gf K KS) (hcells : cells + K ≤ R.cells) (hslots : slots + KS ≤ R.slots) :
    ∃ vm₁ : Vm, s.WarmedH vm₁ ∧ Stand p l e R s m args below meth c (gf (T.setVm vm₁)) locs (cells + K) (slots + KS) ∧ ∀ target, Steps p.tables e below ((gf (T.setVm vm₁)).setTop { g with pc := g.pc + 4, stack := .ref T.heap.size :: rest }) target → Steps p.tables e below (T.setTop g) target := by
  subst hg
  have hpl : e.platform.magicAccessors = ({} : Platform).magicAccessors := by rw [X.admits.platform]
  obtain ⟨c0, hfc0, hcl⟩ := Cond.classLink_spec hown hclink e.platform hpl
  cases hcA.symm.trans hfc0
  obtain ⟨hg₁, hwarm₁, hready₁⟩ := State.classEntry (e := e) X.warmed hcl
  generalize T.vm.noted g.method.cls index (.cls cA) = vm₁ at hg₁ hwarm₁ hready₁
  have X₁ := X.noted hwarm₁
  obtain ⟨hr1, hr2⟩ := X.roomAbove hcells hslots
  have XF := hG.2.2 X₁
  refine ⟨vm₁, hwarm₁, XF, fun target hrest => ?_⟩
  jvm_step X.here [hexec, hdg]
  simp only [multianewarray.sem, wp_bind', W.resolveClassAt_links (State.method?_setTop g X.here.top) hg₁]
  rw [W.popN, if_neg (by decide)]
  refine ⟨g, State.topJava?_setTop' (s := T.setVm vm₁) g X.here.top, [.int x1, .int x2, .int x3], rest, rfl, hstack, ?_⟩
  simp only [List.mapM_cons, List.mapM_nil, wp_bind', wp_pure']
  have eS : ((T.setTop g).setVm vm₁).setTop { g with stack := rest } = (T.setVm vm₁).setTop { g with stack := rest } := by
    show ((T.setVm vm₁).setTop g).setTop _ = _
    rw [State.setTop_setTop]
  refine hWp vm₁ hwarm₁.alike _ _ _ _ _ (by rfl) (by show T.heap.size + K ≤ _; omega) (by show T.slotsUsed + KS ≤ _; omega) (fun d' acts' => ?_)
  rw [eS, hG.2.1]
  simp only [wp_bind', W.mark, W.pushRef, State.topJava?_setTop' _ XF.here.top, Option.some.injEq, exists_eq_left', State.setTop_setTop, State.heap_setTop]
  intro acts
  simp [jvm, XF.here.top]
  exact hrest
end MeMulti3

section MeMulti4
variable {p : Program} {l : Launch} {e : Env} {R : Room} {s : State} {m : MethodId} {args : Array Value} {below : List Frame} {meth : Method} {c : Code} {T : State} {locs : List Loc} {cells slots : Nat}
theorem me_multiS4 (X : Stand p l e R s m args below meth c T locs cells slots) (hexec : p.tables.exec = Jvm.exec) {own name : String} {index : Nat} {cA : ClassId} (hown : s.vm.findClass own = some m.cls) (hclink : (Cond.classLink own index name).before args s = true) (hcA : s.vm.findClass name = some cA)
    {g : JFrame} (hg : g.method = m) (hdg : decode c.code g.pc = .ok (.multianewarray index 4, 4)) {x1 x2 x3 x4 : Int32} {rest : List Value} (hstack : g.stack = .int x4 :: .int x3 :: .int x2 :: .int x1 :: rest) {gf : State → State} {K KS : Nat} (hG : me_Gr gf K KS) (hWp : ∀ vm, s.vm.Alike vm → me_Wp e vm cA [x1, x2, x3, x4] gf K KS) (hcells : cells + K ≤ R.cells) (hslots : slots + KS ≤ R.slots) :
    ∃ vm₁ : Vm, s.WarmedH vm₁ ∧ Stand p l e R s m args below meth c (gf (T.setVm vm₁)) locs (cells + K) (slots + KS) ∧ ∀ target, Steps p.tables e below ((gf (T.setVm vm₁)).setTop { g with pc := g.pc + 4, stack := .ref T.heap.size :: rest }) target → Steps p.tables e below (T.setTop g) target := by
  subst hg
  have hpl : e.platform.magicAccessors = ({} : Platform).magicAccessors := by rw [X.admits.platform]
  obtain ⟨c0, hfc0, hcl⟩ := Cond.classLink_spec hown hclink e.platform hpl
  cases hcA.symm.trans hfc0
  obtain ⟨hg₁, hwarm₁, hready₁⟩ := State.classEntry (e := e) X.warmed hcl
  generalize T.vm.noted g.method.cls index (.cls cA) = vm₁ at hg₁ hwarm₁ hready₁
  have X₁ := X.noted hwarm₁
  obtain ⟨hr1, hr2⟩ := X.roomAbove hcells hslots
  have XF := hG.2.2 X₁
  refine ⟨vm₁, hwarm₁, XF, fun target hrest => ?_⟩
  jvm_step X.here [hexec, hdg]
  simp only [multianewarray.sem, wp_bind', W.resolveClassAt_links (State.method?_setTop g X.here.top) hg₁]
  rw [W.popN, if_neg (by decide)]
  refine ⟨g, State.topJava?_setTop' (s := T.setVm vm₁) g X.here.top, [.int x1, .int x2, .int x3, .int x4], rest, rfl, hstack, ?_⟩
  simp only [List.mapM_cons, List.mapM_nil, wp_bind', wp_pure']
  have eS : ((T.setTop g).setVm vm₁).setTop { g with stack := rest } = (T.setVm vm₁).setTop { g with stack := rest } := by
    show ((T.setVm vm₁).setTop g).setTop _ = _
    rw [State.setTop_setTop]
  refine hWp vm₁ hwarm₁.alike _ _ _ _ _ (by rfl) (by show T.heap.size + K ≤ _; omega) (by show T.slotsUsed + KS ≤ _; omega) (fun d' acts' => ?_)
  rw [eS, hG.2.1]
  simp only [wp_bind', W.mark, W.pushRef, State.topJava?_setTop' _ XF.here.top, Option.some.injEq, exists_eq_left', State.setTop_setTop, State.heap_setTop]
  intro acts
  simp [jvm, XF.here.top]
  exact hrest
end MeMulti4
