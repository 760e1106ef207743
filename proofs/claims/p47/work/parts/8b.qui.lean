/-! a new packet: the ghost's fields -/
section GmMk
variable {a : me_S} {k : Int32} {s g b : Nat} {w : Int32}
theorem gm_w : (gh_mk a k s g w b).w = a.w := rfl
theorem gm_h : (gh_mk a k s g w b).h = a.h := rfl
theorem gm_rp : (gh_mk a k s g w b).rp = a.rp := rfl
theorem gm_wy : (gh_mk a k s g w b).wy = a.wy := rfl
theorem gm_bt : (gh_mk a k s g w b).bt = a.bt := rfl
theorem gm_np : (gh_mk a k s g w b).np = a.np + 1 := rfl
theorem gm_ow : (gh_mk a k s g w b).ow = a.ow := rfl
theorem gm_kd : (gh_mk a k s g w b).kd = me_fu a.kd a.np k := rfl
theorem gm_st : (gh_mk a k s g w b).st = me_fu a.st a.np 115 := rfl
theorem gm_sr : (gh_mk a k s g w b).sr = me_fu a.sr a.np s := rfl
theorem gm_gl : (gh_mk a k s g w b).gl = me_fu a.gl a.np g := rfl
theorem gm_wd : (gh_mk a k s g w b).wd = me_fu a.wd a.np w := rfl
theorem gm_bo : (gh_mk a k s g w b).bo = me_fu a.bo a.np b := rfl
theorem gm_pt : (gh_mk a k s g w b).pt = me_fu a.pt a.np 0 := rfl
theorem gm_tk : (gh_mk a k s g w b).tk = me_fu a.tk a.np 0 := rfl
theorem gm_hd : (gh_mk a k s g w b).hd = me_fu a.hd a.np none := rfl
theorem gm_ma : (gh_mk a k s g w b).ma = me_fu a.ma a.np a.bt := rfl
theorem gm_dn : (gh_mk a k s g w b).dn = me_fu a.dn a.np none := rfl
theorem gm_pl : (gh_mk a k s g w b).pl = me_fu a.pl a.np 0 := rfl
theorem gm_ad : (gh_mk a k s g w b).ad = me_fu a.ad a.np 0 := rfl
theorem gm_an : (gh_mk a k s g w b).an = me_fu a.an a.np none := rfl
theorem gm_q : (gh_mk a k s g w b).q = a.q := rfl
theorem gm_ro : (gh_mk a k s g w b).ro = a.ro := rfl
theorem gm_rh : (gh_mk a k s g w b).rh = a.rh := rfl
theorem gm_rg : (gh_mk a k s g w b).rg = a.rg := rfl
theorem gm_fl : (gh_mk a k s g w b).fl = a.fl := rfl
theorem gm_aw : (gh_mk a k s g w b).aw = a.aw := rfl
theorem gm_mm : (gh_mk a k s g w b).mm = a.mm := rfl
theorem gm_co : (gh_mk a k s g w b).co = a.co := rfl
end GmMk
/-! QUIET: nothing on the way -/
def gw_Q (a : me_S) : Prop :=
  (gb_co a) ∧
  (∀ r, a.q r = []) ∧
  (∀ r, a.ro r = none) ∧
  (∀ i, i < a.np → a.pt i = a.bo i + 1) ∧
  (∀ i, i < a.np → a.st i = 100 ∨ a.st i = 114) ∧
  (∀ n d, a.fl n d = 0) ∧
  (2 ≤ a.rp) ∧
  (∀ r, a.rg r ≤ a.bt)
theorem gw_Q.qco {a : me_S} (hyp : gw_Q a) : gb_co a := hyp.1
theorem gw_Q.qq {a : me_S} (hyp : gw_Q a) : ∀ r, a.q r = [] := hyp.2.1
theorem gw_Q.qro {a : me_S} (hyp : gw_Q a) : ∀ r, a.ro r = none := hyp.2.2.1
theorem gw_Q.qpt {a : me_S} (hyp : gw_Q a) : ∀ i, i < a.np → a.pt i = a.bo i + 1 := hyp.2.2.2.1
theorem gw_Q.qst {a : me_S} (hyp : gw_Q a) : ∀ i, i < a.np → a.st i = 100 ∨ a.st i = 114 := hyp.2.2.2.2.1
theorem gw_Q.qfl {a : me_S} (hyp : gw_Q a) : ∀ n d, a.fl n d = 0 := hyp.2.2.2.2.2.1
theorem gw_Q.qrp {a : me_S} (hyp : gw_Q a) : 2 ≤ a.rp := hyp.2.2.2.2.2.2.1
theorem gw_Q.qrg {a : me_S} (hyp : gw_Q a) : ∀ r, a.rg r ≤ a.bt := hyp.2.2.2.2.2.2.2
theorem gw_Q.mk {a : me_S} (qco : gb_co a) (qq : ∀ r, a.q r = []) (qro : ∀ r, a.ro r = none) (qpt : ∀ i, i < a.np → a.pt i = a.bo i + 1) (qst : ∀ i, i < a.np → a.st i = 100 ∨ a.st i = 114) (qfl : ∀ n d, a.fl n d = 0) (qrp : 2 ≤ a.rp) (qrg : ∀ r, a.rg r ≤ a.bt) : gw_Q a := ⟨qco, qq, qro, qpt, qst, qfl, qrp, qrg⟩
section GwQ
variable {a : me_S} {x : Bool} {p s g b D : Nat} {wn wd u : Nat → Nat} {k w : Int32}
theorem gw_new (hQ : gw_Q a) (hW : gw_W x a.w a.h s g D wn wd) (hwy : a.wy = if x = true then 120 else 121) (hb : 1 ≤ b ∧ b ≤ 4) : gw_M (gh_mk a k s g w b) (fun _ => 0) (fun _ => 0) x a.np (me_ch k) s g b D wn wd := by
  refine gw_M.mk ?_ ?_ ?_ ?_ hb (me_ch_lt k) hQ.qrp ?_ hW hwy hQ.qfl (fun _ _ => Nat.le_refl _) (Nat.zero_le _) ?_ ?_ (fun j hj => ?_) (fun r _ => hQ.qq r) (fun j e _ he => ?_) (fun j e _ he => ?_) (fun j _ => ?_) (fun j _ => ?_) (fun j _ q => ?_) (fun _ => ?_) (fun q => ?_) (fun j _ q => ?_) (fun j _ q => ?_) (fun _ => ?_) (fun q => ?_) (fun q => ?_)
  · rw [gm_kd, me_fu_at]
  · rw [gm_sr, me_fu_at]
  · rw [gm_gl, me_fu_at]
  · rw [gm_bo, me_fu_at]
  · rw [gm_np]; exact Nat.lt_succ_self _
  · rw [gm_pt, me_fu_at]
  · rw [gm_tk, me_fu_at]
  · rw [gm_q, hQ.qq]; exact gp_R.nil (Nat.le_refl _)
  · rw [gm_q, hQ.qq] at he; cases he
  · rw [gm_q, hQ.qq] at he; cases he
  · rw [gm_rg, gm_bt]
    have := hQ.qrg (gw_x (me_ch k) wn wd j)
    exact ⟨fun h => by omega, fun h => absurd h (Nat.lt_irrefl _)⟩
  · rw [gm_ro, hQ.qro, if_neg (fun q => absurd q.2.1 (by decide))]
  · exact absurd q (by decide)
  · rw [gm_hd, me_fu_at]
  · exact absurd q (by decide)
  · exact absurd q (by decide)
  · exact absurd q (by decide)
  · rw [gm_st, me_fu_at]
  · exact absurd q (by decide)
  · exact absurd q (by omega)
theorem gw_newO (hQ : gw_Q a) : gw_O a.np (gh_mk a k s g w b) := by
  intro i hi hne
  rw [gm_np] at hi
  rw [gm_pt, gm_bo, me_fu_ne hne, me_fu_ne hne]
  exact hQ.qpt i (by omega)
theorem gw_newN : gw_N b D (fun _ => 0) := fun _ _ h => absurd (show 1 ≤ 0 from h) (by decide)
theorem gw_all {c : Nat} (hM : gw_M a u u x p c s g b D wn wd) (hu : u (D + 1) = b + 1) {j : Nat} (hj : j ≤ D + 1) : u j = b + 1 := by
  have h1 := hM.anti (D + 1) j hj (Nat.le_refl _)
  have h2 := hM.anti j 0 (Nat.zero_le _) hj
  have h3 := hM.mu0
  omega
theorem gw_done {c : Nat} (hI : me_Iv a) (hM : gw_M a u u x p c s g b D wn wd) (hu : u (D + 1) = b + 1) (hO : gw_O p a) (hst : ∀ i, i < a.np → ¬ i = p → a.st i = 100 ∨ a.st i = 114) (hco : gb_co a) (hrg : ∀ r, a.rg r ≤ a.bt) : gw_Q a := by
  have hs : ∀ i, i < a.np → a.st i = 100 ∨ a.st i = 114 := fun i hi => by
    by_cases e : i = p
    · rw [e]
      exact Or.inl (hM.ms2 hu)
    · exact hst i hi e
  have hall := fun j hj => gw_all hM hu (j := j) hj
  refine gw_Q.mk hco (fun r => ?_) (fun r => ?_) (fun i hi => ?_) hs hM.mfl hM.mrp hrg
  · by_cases e : ∃ j, j ≤ D ∧ r = gw_x c wn wd j
    · obtain ⟨j, h1, h2⟩ := e
      rw [h2]
      exact (hM.mq j h1).eq_nil (by rw [hall j (by omega), hall (j + 1) (by omega)]; exact Nat.le_refl _)
    · exact hM.mqn r (fun j hj q => e ⟨j, hj, q⟩)
  · cases h : a.ro r with
    | none => rfl
    | some i =>
      obtain ⟨-, h1, h2, -⟩ := hI.2.2.2.2.1.iow r i h
      rcases hs i h1 with q | q
      · rw [q] at h2; exact absurd h2 (by decide)
      · rw [q] at h2; exact absurd h2 (by decide)
  · by_cases e : i = p
    · rw [e, hM.mpt, hM.mbo, hall 0 (by omega)]
    · exact hO i hi e
theorem gw_Q.aw (hQ : gw_Q a) (f : Nat → Bool) : gw_Q (me_S.s_aw a f) := gw_Q.mk hQ.qco hQ.qq hQ.qro hQ.qpt hQ.qst hQ.qfl hQ.qrp hQ.qrg
theorem gw_Q.rcv (hQ : gw_Q a) (p : Nat) : gw_Q (me_S.s_st a (me_fu a.st p 114)) := gw_Q.mk hQ.qco hQ.qq hQ.qro hQ.qpt (fun i hi => by
  show me_fu a.st p 114 i = 100 ∨ me_fu a.st p 114 i = 114
  by_cases e : i = p
  · rw [e, me_fu_at]
    exact Or.inr rfl
  · rw [me_fu_ne e]
    exact hQ.qst i hi) hQ.qfl hQ.qrp hQ.qrg
theorem gw_L.tr {a' a'' : me_S} (h : gw_L p a a') (h' : gw_L p a' a'') : gw_L p a a'' := by
  obtain ⟨z1, z2, z3, z4, z5, z6, z7, z8, z9, z10, z11, z12, z13, z14⟩ := h.l1
  obtain ⟨y1, y2, y3, y4, y5, y6, y7, y8, y9, y10, y11, y12, y13, y14⟩ := h'.l1
  exact gw_L.mk ⟨y1.trans z1, y2.trans z2, y3.trans z3, y4.trans z4, y5.trans z5, y6.trans z6, y7.trans z7, y8.trans z8, y9.trans z9, y10.trans z10, y11.trans z11, y12.trans z12, y13.trans z13, y14.trans z14⟩ (fun i hi => ⟨(h'.l2 i hi).1.trans (h.l2 i hi).1, (h'.l2 i hi).2.1.trans (h.l2 i hi).2.1, (h'.l2 i hi).2.2.trans (h.l2 i hi).2.2⟩) h'.l3 h'.l4
end GwQ
