/-! what always holds, after each step of a row -/
theorem gh_iv_co {a b : me_S} (hI : me_Iv a) {p i r c : Nat} {t : List (Nat × Nat × Nat)} (hq : a.q r = (p, i, c) :: t) (hg : r / 10 = a.gl p) (hv : i = 0 ∨ a.rh r = some 4) (e0 : b.w = a.w ∧ b.h = a.h ∧ b.rp = a.rp ∧ b.wy = a.wy ∧ b.fl = a.fl) (e1 : b.np = a.np ∧ b.bt = a.bt ∧ b.kd = a.kd ∧ b.sr = a.sr ∧ b.gl = a.gl ∧ b.bo = a.bo ∧ b.pt = a.pt ∧ b.ma = a.ma ∧ b.pl = a.pl ∧ b.an = a.an) (e2 : b.dp = a.dp ∧ b.ln = a.ln ∧ b.ca = a.ca ∧ b.co = a.co ∧ b.fa = a.fa ∧ b.nm = a.nm ∧ b.nu = a.nu ∧ b.nt = a.nt ∧ b.tn = a.tn ∧ b.tr = a.tr) (e3 : b.aw = a.aw ∧ b.fp = a.fp ∧ b.lr = a.lr) (hq' : b.q = me_fu a.q r t) (hrg : ∀ x, b.rg x ≤ a.bt + 1) (hst' : ∀ p', b.st p' = if p' = p ∧ i = a.bo p then 100 else a.st p') (htk' : ∀ p', b.tk p' = if p' = p then a.tk p + 1 else a.tk p') (hhd' : ∀ p', b.hd p' = if p' = p ∧ i = 0 then none else a.hd p') (hro' : ∀ x, b.ro x = if x = r ∧ i = a.bo p then none else a.ro x) (hrh' : ∀ x, b.rh x = if x = r ∧ i = 0 then some 4 else a.rh x) (hdn' : ∀ p', b.dn p' = if p' = p ∧ i = a.bo p then some (a.bt + 1) else a.dn p') (how : b.ow + (if i = a.bo p ∧ a.kd p = 113 then 1 else 0) = a.ow) : me_Iv b := by
  have hwh := hI.wh
  obtain ⟨h0, hP, hC, hT, hW, hF, hlr, hrg0, hfp⟩ := hI
  have hmem : (p, i, c) ∈ a.q r := by rw [hq]; exact List.mem_cons_self
  obtain ⟨c1, c2, c3, c4, c5, c6, c7⟩ := hW.iel r (p, i, c) hmem
  have hpt := (hP.ipt p c2).2
  obtain ⟨ktk, kW⟩ := hW.coL hwh.1 hq hpt hg hv hst' htk' hhd' hro' hrh'
  obtain ⟨w1, w2, w3, w4, w5⟩ := e0
  obtain ⟨x1, x2, x3, x4, x5, x6, x7, x8, x9, x10⟩ := e1
  obtain ⟨y1, y2, y3, y4, y5, y6, y7, y8, y9, y10⟩ := e2
  obtain ⟨z1, z2, z3⟩ := e3
  have kP : me_IP a.w a.h a.np b.ow a.bt a.kd b.st a.sr a.gl a.bo a.pt b.tk a.ma b.dn a.pl a.an := by
    by_cases g : i = a.bo p
    · refine hP.dlv (p := p) (ow' := b.ow) c2 c3 (by rw [ktk]; exact c6) (by rw [ktk]; exact g) (fun x => ?_) htk' (fun x => ?_) ?_
      · rw [hst']
        by_cases e : x = p
        · rw [if_pos ⟨e, g⟩, if_pos e]
        · rw [if_neg (fun q => e q.1), if_neg e]
      · rw [hdn']
        by_cases e : x = p
        · rw [if_pos ⟨e, g⟩, if_pos e]
        · rw [if_neg (fun q => e q.1), if_neg e]
      · rw [← how]
        by_cases e : a.kd p = 113
        · rw [if_pos e, if_pos ⟨g, e⟩]
        · rw [if_neg e, if_neg (fun q => e q.2)]
    · have s1 : b.st = a.st := funext fun x => by rw [hst', if_neg (fun q => g q.2)]
      have s2 : b.dn = a.dn := funext fun x => by rw [hdn', if_neg (fun q => g q.2)]
      have s3 : b.ow = a.ow := by rw [← how, if_neg (fun q => g q.1)]; rfl
      rw [s1, s2, s3]
      exact hP.tk1 c3 (by rw [ktk]; exact c6) htk'
  unfold me_Iv
  simp only [w1, w2, w3, w4, w5, x1, x2, x3, x4, x5, x6, x7, x8, x9, x10, y1, y2, y3, y4, y5, y6, y7, y8, y9, y10, z1, z2, z3, hq']
  refine ⟨h0, kP, hC, hT, kW, fun n c' j g1 g2 g3 g4 => ?_, hlr, hrg, hfp⟩
  rcases hF n c' j g1 g2 g3 g4 with q | q
  · exact Or.inl q
  · right
    rw [hst', if_neg (fun k => by rw [k.1, c3] at q; exact absurd q (by decide))]
    exact q
theorem gh_iv_lz {a : me_S} (hI : me_Iv a) {p : Nat} (hp : p < a.np) (hs : a.st p = 119) : me_Iv (gh_lz (gh_l0 a p) p) ∧ (a.kd p = 113 → 1 ≤ a.ow) := by
  obtain ⟨h0, hP, hC, hT, hW, hF, hlr, hrg0, hfp⟩ := hI
  have ho : a.kd p = 113 → 1 ≤ a.ow := fun hk => by
    rw [hP.iow]
    refine List.countP_pos_iff.mpr ⟨p, List.mem_range.mpr hp, ?_⟩
    unfold me_qs
    rw [decide_eq_true hk, hs]
    decide
  refine ⟨⟨h0, ?_, hC, hT, ?_, fun n c j g1 g2 g3 g4 => ?_, hlr, hrg0, hfp⟩, ho⟩
  · refine hP.lost (p := p) hp hs (fun x => rfl) ?_
    show (if a.kd p = 113 then a.ow - 1 else a.ow) + _ = a.ow
    by_cases hk : a.kd p = 113
    · have := ho hk
      rw [if_pos hk, if_pos hk]
      omega
    · rw [if_neg hk, if_neg hk]
      rfl
  · exact hW.lose (p := p) (fun x => rfl) (fun x => rfl) (fun x => rfl)
  · rcases hF n c j g1 g2 g3 g4 with q | q
    · exact Or.inl q
    · right
      show me_fu a.st p 108 j = 108
      rw [me_fu_ap]
      split
      · rfl
      · exact q
theorem gh_iv_ah {a : me_S} (hI : me_Iv a) {p i r c d n' r' : Nat} {t : List (Nat × Nat × Nat)} (hq : a.q r = (p, i, c) :: t) (hd4 : d < 4) (hnb : me_nb a.w a.h (r / 10) d = some n') (hr : r' = me_rw n' (me_ch (a.kd p)) (me_op d)) (haw : a.aw n' = true) (hl : (a.q r').length < 4) (hs : (i = 0 ∧ gh_side a (r / 10) (a.gl p) (me_ch (a.kd p)) = d ∧ a.ro r' = none) ∨ (0 < i ∧ a.rh r = some d)) : me_Iv (gh_ay0 (gh_ha a p i r r' d n') p i r r' t) := by
  have hwh := hI.wh
  have hW := hI.2.2.2.2.1
  have hP := hI.2.1
  have hmem : (p, i, c) ∈ a.q r := by rw [hq]; exact List.mem_cons_self
  obtain ⟨c1, c2, c3, c4, c5, c6, c7⟩ := hW.iel r (p, i, c) hmem
  have hn' := (me_Op_lt hI c1 hd4 hnb).1
  rcases hs with ⟨hi, hsd, hro⟩ | ⟨hi, hrh⟩
  · rw [hi] at hq ⊢
    obtain ⟨D, S⟩ := gh_geo hI c1 (hP.igl p c2) (hP.isr p c2) c7 (gh_side_ax (by omega) hsd) hnb
    have k := hW.ahH hwh.1 (fun p hp => (hP.ibo p hp).1) hq hd4 hnb hn' D S hr hro haw hl (c' := a.bt + 1)
    refine (gh_iv_mv hI k (gh_rg hI (Nat.le_refl _)) (RG := me_fu a.rg r (a.bt + 1))).eq ?_
    have hb := (hP.ibo p c2).1
    unfold gh_ha
    rw [if_pos rfl]
    have e1 : me_fu a.ro r' (some p) = if 0 = a.bo p then me_fu (me_fu a.ro r' (some p)) r none else me_fu a.ro r' (some p) := (if_neg (by omega)).symm
    exact ⟨rfl, rfl, rfl, rfl, rfl, rfl, rfl, rfl, rfl, rfl, rfl, rfl, rfl, rfl, rfl, rfl, rfl, rfl, rfl, rfl, rfl, rfl, e1, rfl, rfl, rfl, rfl, rfl, rfl, rfl, rfl, rfl, rfl, rfl, rfl, rfl, rfl, rfl, rfl, rfl, rfl⟩
  · have hv := hW.way hi hq
    rcases hv with ⟨v1, v2⟩ | ⟨d1, n1, v1, v2, v3, v4, v5⟩
    · rw [hrh] at v1
      have := Option.some.inj v1
      omega
    · rw [hrh] at v2
      have ed : d = d1 := Option.some.inj v2
      rw [← ed] at v3 v4
      rw [hnb] at v3
      have en : n' = n1 := Option.some.inj v3
      rw [← en] at v4 v5
      have k := hW.ahB hwh.1 hi hq (hP.ipt p c2).2 v5 hr (by rw [hr]; exact v4) (ro' := if i = a.bo p then me_fu a.ro r none else a.ro) (fun x => by
        by_cases g : i = a.bo p
        · rw [if_pos g, me_fu_ap]
          by_cases e : x = r
          · rw [if_pos e, if_pos ⟨e, g⟩]
          · rw [if_neg e, if_neg (fun q => e q.1)]
        · rw [if_neg g, if_neg (fun q => g q.2)]) hl (c' := a.bt + 1)
      refine (gh_iv_mv hI k (gh_rg hI (Nat.le_refl _)) (RG := me_fu a.rg r (a.bt + 1))).eq ?_
      have hi0 : ¬ i = 0 := by omega
      unfold gh_ha
      rw [if_neg hi0]
      exact ⟨rfl, rfl, rfl, rfl, rfl, rfl, rfl, rfl, rfl, rfl, rfl, rfl, rfl, rfl, rfl, rfl, rfl, rfl, rfl, rfl, rfl, rfl, rfl, rfl, rfl, rfl, rfl, rfl, rfl, rfl, rfl, rfl, rfl, rfl, rfl, rfl, rfl, rfl, rfl, rfl, rfl⟩
