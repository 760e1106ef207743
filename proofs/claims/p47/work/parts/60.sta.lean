/-! THE START: what the Statement gives -/
theorem me_gw_tbl {args : Array Value} {s : State} (hts : ∀ w ∈ lw_tbl, w.before args s = true) : ∀ w ∈ me_gw, w.before args s = true := fun w hw => hts w (List.mem_filter.mp hw).1
theorem me_startK {args : Array Value} {s : State} (hts : ∀ w ∈ lw_tbl, w.before args s = true) : ∃ E : me_G, va_K E.1 vwCl (me_ty E.2) s := by
  have hg := me_gw_tbl hts
  have h0 : ∀ c : Nat, ∃ q : ClassId × (Nat → Nat), ∀ x, vwCl[c]? = some x → u_Kn s x.1 x.2.1 x.2.2 q.1 q.2 := by
    intro c
    match c with
    | 0 =>
      obtain ⟨-, h2, h3, -, -⟩ := kc_32
      obtain ⟨c1, i1, h⟩ := u_known (n := 5) hg h3 (hg _ (me_gm 303 (by decide +kernel) (by decide +kernel)))
      exact ⟨(c1, i1), fun x hx => by cases h2.symm.trans hx; exact h⟩
    | 1 =>
      obtain ⟨-, h2, h3, -, -⟩ := kc_22
      obtain ⟨c1, i1, h⟩ := u_known (n := 9) hg h3 (hg _ (me_gm 400 (by decide +kernel) (by decide +kernel)))
      exact ⟨(c1, i1), fun x hx => by cases h2.symm.trans hx; exact h⟩
    | 2 =>
      obtain ⟨-, h2, h3, -, -⟩ := kc_30
      obtain ⟨c1, i1, h⟩ := u_known (n := 8) hg h3 (hg _ (me_gm 254 (by decide +kernel) (by decide +kernel)))
      exact ⟨(c1, i1), fun x hx => by cases h2.symm.trans hx; exact h⟩
    | 3 =>
      obtain ⟨-, h2, h3, -, -⟩ := kc_1
      obtain ⟨c1, i1, h⟩ := u_known (n := 5) hg h3 (hg _ (me_gm 65 (by decide +kernel) (by decide +kernel)))
      exact ⟨(c1, i1), fun x hx => by cases h2.symm.trans hx; exact h⟩
    | 4 =>
      obtain ⟨-, h2, h3, -, -⟩ := kc_8
      obtain ⟨c1, i1, h⟩ := u_known (n := 15) hg h3 (hg _ (me_gm 104 (by decide +kernel) (by decide +kernel)))
      exact ⟨(c1, i1), fun x hx => by cases h2.symm.trans hx; exact h⟩
    | 5 =>
      obtain ⟨-, h2, h3, -, -⟩ := kc_9
      obtain ⟨c1, i1, h⟩ := u_known (n := 4) hg h3 (hg _ (me_gm 206 (by decide +kernel) (by decide +kernel)))
      exact ⟨(c1, i1), fun x hx => by cases h2.symm.trans hx; exact h⟩
    | 6 =>
      obtain ⟨-, h2, h3, -, -⟩ := kc_6
      obtain ⟨c1, i1, h⟩ := u_known (n := 3) hg h3 (hg _ (me_gm 97 (by decide +kernel) (by decide +kernel)))
      exact ⟨(c1, i1), fun x hx => by cases h2.symm.trans hx; exact h⟩
    | 7 =>
      obtain ⟨-, h2, h3, -, -⟩ := kc_13
      obtain ⟨c1, i1, h⟩ := u_known (n := 5) hg h3 (hg _ (me_gm 324 (by decide +kernel) (by decide +kernel)))
      exact ⟨(c1, i1), fun x hx => by cases h2.symm.trans hx; exact h⟩
    | 8 =>
      obtain ⟨-, h2, h3, -, -⟩ := kc_17
      obtain ⟨c1, i1, h⟩ := u_known (n := 8) hg h3 (hg _ (me_gm 331 (by decide +kernel) (by decide +kernel)))
      exact ⟨(c1, i1), fun x hx => by cases h2.symm.trans hx; exact h⟩
    | 9 =>
      obtain ⟨-, h2, h3, -, -⟩ := kc_27
      obtain ⟨c1, i1, h⟩ := u_known (n := 5) hg h3 (hg _ (me_gm 229 (by decide +kernel) (by decide +kernel)))
      exact ⟨(c1, i1), fun x hx => by cases h2.symm.trans hx; exact h⟩
    | 10 =>
      obtain ⟨-, h2, h3, -, -⟩ := kc_31
      obtain ⟨c1, i1, h⟩ := u_known (n := 3) hg h3 (hg _ (me_gm 287 (by decide +kernel) (by decide +kernel)))
      exact ⟨(c1, i1), fun x hx => by cases h2.symm.trans hx; exact h⟩
    | 11 =>
      obtain ⟨-, h2, h3, -, -⟩ := kc_0
      obtain ⟨c1, i1, h⟩ := u_known (n := 10) hg h3 (hg _ (me_gm 57 (by decide +kernel) (by decide +kernel)))
      exact ⟨(c1, i1), fun x hx => by cases h2.symm.trans hx; exact h⟩
    | c + 12 => exact ⟨(0, fun _ => 0), fun x hx => by simp [vwCl] at hx⟩
  obtain ⟨D, hD⟩ := Classical.axiomOfChoice h0
  have h1 : ∀ k : Nat, ∃ c : ClassId, ∀ ty, me_at[k]? = some ty → ArrOfT s c ty ∧ va_RA s c ty := by
    intro k
    match k with
    | 0 =>
      obtain ⟨c, kA, comp, g1, g2, g3⟩ := Cond.arrayClass_spec (hts (Cond.arrayClass .int) (List.mem_of_getElem? (i := 94) (by decide +kernel)))
      exact ⟨c, fun ty h => by cases h; exact ⟨fun n z => ⟨fun k h => (by cases h), kA, g2, comp, g3⟩, g1⟩⟩
    | 1 =>
      obtain ⟨c, kA, comp, g1, g2, g3⟩ := Cond.arrayClass_spec (hts (Cond.arrayClass .boolean) (List.mem_of_getElem? (i := 95) (by decide +kernel)))
      exact ⟨c, fun ty h => by cases h; exact ⟨fun n z => ⟨fun k h => (by cases h), kA, g2, comp, g3⟩, g1⟩⟩
    | 2 =>
      obtain ⟨c, kA, comp, g1, g2, g3⟩ := Cond.arrayClass_spec (hts (Cond.arrayClass .char) (List.mem_of_getElem? (i := 441) (by decide +kernel)))
      exact ⟨c, fun ty h => by cases h; exact ⟨fun n z => ⟨fun k h => (by cases h), kA, g2, comp, g3⟩, g1⟩⟩
    | 3 =>
      obtain ⟨comp, c, kA, g1, -, g3, g4, g5⟩ := Cond.arrayOver_spec (hts (Cond.arrayOver (.object "Meshyard$Row")) (List.mem_of_getElem? (i := 330) (by decide +kernel)))
      exact ⟨c, fun ty h => by cases h; exact ⟨fun n z => ⟨fun k h => (by cases h), kA, g3, comp, g4⟩, ⟨kA, comp, g3, g4, g1, g5⟩⟩⟩
    | 4 =>
      obtain ⟨comp, c, kA, g1, -, g3, g4, g5⟩ := Cond.arrayOver_spec (hts (Cond.arrayOver (.object "Meshyard$Router")) (List.mem_of_getElem? (i := 225) (by decide +kernel)))
      exact ⟨c, fun ty h => by cases h; exact ⟨fun n z => ⟨fun k h => (by cases h), kA, g3, comp, g4⟩, ⟨kA, comp, g3, g4, g1, g5⟩⟩⟩
    | 5 =>
      obtain ⟨comp, c, kA, g1, -, g3, g4, g5⟩ := Cond.arrayOver_spec (hts (Cond.arrayOver (.object "Meshyard$Core")) (List.mem_of_getElem? (i := 227) (by decide +kernel)))
      exact ⟨c, fun ty h => by cases h; exact ⟨fun n z => ⟨fun k h => (by cases h), kA, g3, comp, g4⟩, ⟨kA, comp, g3, g4, g1, g5⟩⟩⟩
    | 6 =>
      obtain ⟨comp, c, kA, g1, -, g3, g4, g5⟩ := Cond.arrayOver_spec (hts (Cond.arrayOver (.object "Meshyard$Packet")) (List.mem_of_getElem? (i := 103) (by decide +kernel)))
      exact ⟨c, fun ty h => by cases h; exact ⟨fun n z => ⟨fun k h => (by cases h), kA, g3, comp, g4⟩, ⟨kA, comp, g3, g4, g1, g5⟩⟩⟩
    | k + 7 => exact ⟨0, fun ty h => by simp [me_at] at h⟩
  obtain ⟨cA, hcA⟩ := Classical.axiomOfChoice h1
  refine ⟨((fun c => (D c).1, fun c => (D c).2), cA), fun c q hq => hD c q hq, fun k q hq => ?_⟩
  have e : me_ty cA = (List.range 7).zipWith (fun i ty => (cA i, ty)) me_at := rfl
  have hk : k < 7 := by
    have := (List.getElem?_eq_some_iff.mp hq).1
    simpa [me_ty] using this
  have hq1 : q.1 = cA k ∧ me_at[k]? = some q.2 := by
    match k, hk, hq with
    | 0, _, hq => cases hq; exact ⟨rfl, rfl⟩
    | 1, _, hq => cases hq; exact ⟨rfl, rfl⟩
    | 2, _, hq => cases hq; exact ⟨rfl, rfl⟩
    | 3, _, hq => cases hq; exact ⟨rfl, rfl⟩
    | 4, _, hq => cases hq; exact ⟨rfl, rfl⟩
    | 5, _, hq => cases hq; exact ⟨rfl, rfl⟩
    | 6, _, hq => cases hq; exact ⟨rfl, rfl⟩
    | k + 7, hk, _ => omega
  rw [hq1.1]
  exact hcA k _ hq1.2
theorem me_startAO {args : Array Value} {s : State} (hts : ∀ w ∈ lw_tbl, w.before args s = true) : me_AO s :=
  ⟨va_AO.of (hts (Cond.arrayOver (.object "Meshyard$Packet")) (List.mem_of_getElem? (i := 103) (by decide +kernel))), va_AO.of (hts (Cond.arrayOver (.object "Meshyard$Router")) (List.mem_of_getElem? (i := 225) (by decide +kernel))), va_AO.of (hts (Cond.arrayOver (.object "Meshyard$Core")) (List.mem_of_getElem? (i := 227) (by decide +kernel))), va_AO.of (hts (Cond.arrayOver (.object "Meshyard$Row")) (List.mem_of_getElem? (i := 330) (by decide +kernel)))⟩
theorem me_allB {α : Type} {P : α → Prop} {L : List α} {f : α → Bool} (h : L.all f = true) (hf : ∀ q, f q = true → P q) : ∀ q ∈ L, P q := fun q hq => hf q (List.all_eq_true.mp h q hq)
def me_flat : List Cond := flatC (Jvm.Cond.and given_1 narrow_1)
theorem me_startS {args : Array Value} {s : State} (hts : ∀ w ∈ lw_tbl, w.before args s = true) (hgv : (Jvm.Cond.and given_1 narrow_1).before args s = true) {b L : Nat} {xs : Nat → Int32} (hX : va_X b L xs s s.heap) {A : Nat → Prop} (hA : ∀ a : Nat, a < s.heap.size → ¬ A a) : ∃ a : Nat → Nat → Nat, a 202 0 = b ∧ ∀ (n : Nat → Nat) (r : Nat → Nat → Nat → Option (Nat × Nat)), me_SF (a, n, r, (L, xs)) A s s.heap ∧ me_NS (a, n, r, (L, xs)) s := by
  have hs : ∀ c ∈ me_flat, c.before args s = true := flat_of_before _ hgv
  have h0 : ∀ i : Nat, ∃ q : Nat × Nat, i < 2 → (Term.string "Meshyard" ([213, 243].getD i 0)).eval args s none [] s = some (.ref q.1) ∧ va_O "java/lang/String" q.1 A s s.heap ∧ va_OF "java/lang/String" "coder" "B" (.int 0) q.1 A s s.heap ∧ va_OF "java/lang/String" "value" "[B" (.ref q.2) q.1 A s s.heap ∧ va_T .byte q.2 (me_sb i).length (fun j => .int ((me_sb i).getD j 0)) A s s.heap := by
    intro i
    by_cases hi : i < 2
    · have hex : (Cond.exactly (.string "Meshyard" ([213, 243].getD i 0)) "java/lang/String").before args s = true := by
        match i, hi with
        | 0, _ => exact hs _ (by decide +kernel)
        | 1, _ => exact hs _ (by decide +kernel)
      have hco : (Cond.eq (.field (.string "Meshyard" ([213, 243].getD i 0)) "java/lang/String" "coder" "B") (.int 0)).before args s = true := by
        match i, hi with
        | 0, _ => exact hs _ (by decide +kernel)
        | 1, _ => exact hs _ (by decide +kernel)
      have har : (Cond.arrayOf (.field (.string "Meshyard" ([213, 243].getD i 0)) "java/lang/String" "value" "[B") .byte).before args s = true := by
        match i, hi with
        | 0, _ => exact hs _ (by decide +kernel)
        | 1, _ => exact hs _ (by decide +kernel)
      have hle : (Cond.eq (.length (.field (.string "Meshyard" ([213, 243].getD i 0)) "java/lang/String" "value" "[B")) (.int (Int32.ofNat (me_sb i).length))).before args s = true := by
        match i, hi with
        | 0, _ => exact hs _ (by decide +kernel)
        | 1, _ => exact hs _ (by decide +kernel)
      have hel : ∀ j : Nat, j < (me_sb i).length → (Cond.eq (.elem (.field (.string "Meshyard" ([213, 243].getD i 0)) "java/lang/String" "value" "[B") (.int (Int32.ofNat j))) (.int ((me_sb i).getD j 0))).before args s = true := by
        match i, hi with
        | 0, _ => exact fun j hj => hs _ (by
            have h : ∀ j, j < 3 → Cond.eq (.elem (.field (.string "Meshyard" ([213, 243].getD 0 0)) "java/lang/String" "value" "[B") (.int (Int32.ofNat j))) (.int ((me_sb 0).getD j 0)) ∈ me_flat := by decide +kernel
            exact h j hj)
        | 1, _ => exact fun j hj => hs _ (by
            have h : ∀ j, j < 5 → Cond.eq (.elem (.field (.string "Meshyard" ([213, 243].getD 1 0)) "java/lang/String" "value" "[B") (.int (Int32.ofNat j))) (.int ((me_sb 1).getD j 0)) ∈ me_flat := by decide +kernel
            exact h j hj)
      have hlt : (me_sb i).length < 2 ^ 31 := by
        match i, hi with
        | 0, _ => decide
        | 1, _ => decide
      obtain ⟨a, c, cA, kA, q1, q2, q3, q4, q5, q6, -⟩ := Cond.exactly_spec (args := args) (first := s) (o := none) (s := s) (idx := []) (cls := "java/lang/String") hex
      obtain ⟨t, ht, hT⟩ := va_Tof (f := fun j => .int ((me_sb i).getD j 0)) (A := A) hlt har (va_eqt hle) (fun j hj => va_eqt (hel j hj)) hA
      exact ⟨(a, t), fun _ => ⟨q1, ⟨cA, q3, q5, by rw [q6]; exact q2, hA a (Array.getElem?_eq_some_iff.mp q3).1⟩, vk_OFof q1 (va_eqt hco) hA, vk_OFof q1 ht hA, hT⟩⟩
    · exact ⟨(0, 0), fun h => absurd h hi⟩
  obtain ⟨ad, had⟩ := Classical.axiomOfChoice h0
  have hsz : b < s.heap.size := by
    obtain ⟨scr, h1, -⟩ := hX
    exact (Array.getElem?_eq_some_iff.mp h1).1
  have hopT : va_T .int b L (fun j => .int (xs j)) A s s.heap := by
    obtain ⟨scr, h1, h2, h3, h4, h5⟩ := hX
    exact ⟨scr, h1, h2, h3, by omega, by rw [h4], h5, hA b hsz⟩
  refine ⟨fun k i => if k = 200 then (ad i).1 else if k = 201 then (ad i).2 else b, rfl, fun n r => ⟨⟨vx_Zqof (hts (Cond.laysStatic "java/lang/Throwable" "UNASSIGNED_STACK" "[Ljava/lang/StackTraceElement;") (List.mem_of_getElem? (i := 552) (by decide +kernel))) (hts (Cond.initialized "java/lang/Throwable") (List.mem_of_getElem? (i := 42) (by decide +kernel))) (hs _ (by decide +kernel)) hA, vx_Zqof (hts (Cond.laysStatic "java/lang/Throwable" "SUPPRESSED_SENTINEL" "Ljava/util/List;") (List.mem_of_getElem? (i := 554) (by decide +kernel))) (hts (Cond.initialized "java/lang/Throwable") (List.mem_of_getElem? (i := 42) (by decide +kernel))) (hs _ (by decide +kernel)) hA, fun i hi => (had i hi).2, va_Zof (hts (Cond.laysStatic "java/lang/String" "COMPACT_STRINGS" "Z") (List.mem_of_getElem? (i := 866) (by decide +kernel))) (hts (Cond.initialized "java/lang/String") (List.mem_of_getElem? (i := 46) (by decide +kernel))) (va_eqi (hs _ (by decide +kernel))) hA, va_Zqof (hts (Cond.laysStatic "jdk/internal/util/Preconditions" "SIOOBE_FORMATTER" "Ljava/util/function/BiFunction;") (List.mem_of_getElem? (i := 907) (by decide +kernel))) (hts (Cond.initialized "jdk/internal/util/Preconditions") (List.mem_of_getElem? (i := 50) (by decide +kernel))) (hs _ (by decide +kernel)) hA, hopT⟩, fun w hw => va_Nw.of (me_bad_onT (List.mem_filter.mp hw).2) (hts w (List.mem_filter.mp hw).1), ?_, ?_, ?_⟩⟩
  · intro q hq
    have h1 : ∀ q ∈ me_strs, Cond.stringRef q.1 q.2.1 q.2.2 ∈ lw_tbl := me_allB (f := fun q => decide (Cond.stringRef q.1 q.2.1 q.2.2 ∈ lw_tbl)) (by decide +kernel) (fun q h => of_decide_eq_true h)
    have h2 : ∀ q ∈ me_strs, Cond.exactly (.string q.1 q.2.1) "java/lang/String" ∈ me_flat := me_allB (f := fun q => decide (Cond.exactly (.string q.1 q.2.1) "java/lang/String" ∈ me_flat)) (by decide +kernel) (fun q h => of_decide_eq_true h)
    obtain ⟨a, c, cA, kA, q1, -⟩ := Cond.exactly_spec (args := args) (first := s) (o := none) (s := s) (idx := []) (cls := "java/lang/String") (hs _ (h2 q hq))
    exact ⟨a, vk_R.of (hts _ (h1 q hq)) q1⟩
  · intro q hq
    have e0 := (had 0 (by decide)).1
    have e1 := (had 1 (by decide)).1
    have h1 : ∀ q ∈ me_S3, Cond.stringRef q.1 q.2.1 q.2.2.1 ∈ lw_tbl := me_allB (f := fun q => decide (Cond.stringRef q.1 q.2.1 q.2.2.1 ∈ lw_tbl)) (by decide +kernel) (fun q h => of_decide_eq_true h)
    refine vk_R.of (hts _ (h1 q hq)) ?_
    simp only [me_S3, List.mem_cons, List.not_mem_nil, or_false] at hq
    rcases hq with rfl | rfl
    · exact e0
    · exact e1
  · have h1 : ∀ q ∈ me_ncs, Cond.not (.castable q.1 q.2) ∈ me_flat := me_allB (f := fun q => decide (Cond.not (.castable q.1 q.2) ∈ me_flat)) (by decide +kernel) (fun q h => of_decide_eq_true h)
    exact fun q hq => va_Nc.of (hs _ (h1 q hq))
