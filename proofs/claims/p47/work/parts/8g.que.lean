/-! A QUESTION: its ghost; a packet that has not begun -/
theorem gw_zeroM {A : me_S} {x : Bool} {p c s g b D : Nat} {wn wd : Nat → Nat} (mch : me_ch (A.kd p) = c) (msr : A.sr p = s) (mgl : A.gl p = g) (mbo : A.bo p = b) (mb : 1 ≤ b ∧ b ≤ 4) (mrp : 2 ≤ A.rp) (mnp : p < A.np) (mW : gw_W x A.w A.h s g D wn wd) (mwy : A.wy = if x = true then 120 else 121) (mfl : ∀ n d, A.fl n d = 0) (mpt : A.pt p = 0) (mtk : A.tk p = 0) (hq : ∀ r, A.q r = []) (hro : ∀ r, A.ro r = none) (hrg : ∀ j, j ≤ D → ¬ A.rg (gw_x c wn wd j) = A.bt + 1) (hhd : A.hd p = none) (hst : A.st p = 115) : gw_M A (fun _ => 0) (fun _ => 0) x p c s g b D wn wd := by
  refine gw_M.mk mch msr mgl mbo mb (by rw [← mch]; exact me_ch_lt _) mrp mnp mW mwy mfl (fun _ _ => Nat.le_refl _) (Nat.zero_le _) mpt mtk (fun j hj => ?_) (fun r _ => hq r) (fun j e _ he => ?_) (fun j e _ he => ?_) (fun j hj => ?_) (fun j _ => ?_) (fun j _ q => ?_) (fun _ => hhd) (fun q => ?_) (fun j _ q => ?_) (fun j _ q => ?_) (fun _ => hst) (fun q => ?_) (fun q => ?_)
  · rw [hq]; exact gp_R.nil (Nat.le_refl _)
  · rw [hq] at he; cases he
  · rw [hq] at he; cases he
  · exact ⟨fun h => absurd h (hrg j hj), fun h => absurd h (Nat.lt_irrefl _)⟩
  · rw [hro, if_neg (fun q => absurd q.2.1 (by decide))]
  · exact absurd q (by decide)
  · exact absurd q (by decide)
  · exact absurd q (by decide)
  · exact absurd q (by decide)
  · exact absurd q (by decide)
  · exact absurd q (by omega)
section GmQ
variable {a : me_S} {s g b pp : Nat} {ad : Int32}
theorem gq_w : (gh_mkQ a s g b pp ad).w = a.w := rfl
theorem gq_h : (gh_mkQ a s g b pp ad).h = a.h := rfl
theorem gq_rp : (gh_mkQ a s g b pp ad).rp = a.rp := rfl
theorem gq_wy : (gh_mkQ a s g b pp ad).wy = a.wy := rfl
theorem gq_bt : (gh_mkQ a s g b pp ad).bt = a.bt := rfl
theorem gq_np : (gh_mkQ a s g b pp ad).np = a.np + 1 := rfl
theorem gq_ow : (gh_mkQ a s g b pp ad).ow = a.ow + 1 := rfl
theorem gq_kd : (gh_mkQ a s g b pp ad).kd = me_fu a.kd a.np 113 := rfl
theorem gq_st : (gh_mkQ a s g b pp ad).st = me_fu a.st a.np 115 := rfl
theorem gq_sr : (gh_mkQ a s g b pp ad).sr = me_fu a.sr a.np s := rfl
theorem gq_gl : (gh_mkQ a s g b pp ad).gl = me_fu a.gl a.np g := rfl
theorem gq_bo : (gh_mkQ a s g b pp ad).bo = me_fu a.bo a.np b := rfl
theorem gq_pt : (gh_mkQ a s g b pp ad).pt = me_fu a.pt a.np 0 := rfl
theorem gq_tk : (gh_mkQ a s g b pp ad).tk = me_fu a.tk a.np 0 := rfl
theorem gq_hd : (gh_mkQ a s g b pp ad).hd = me_fu a.hd a.np none := rfl
theorem gq_pl : (gh_mkQ a s g b pp ad).pl = me_fu (me_fu a.pl a.np 0) a.np pp := rfl
theorem gq_ad : (gh_mkQ a s g b pp ad).ad = me_fu (me_fu a.ad a.np 0) a.np ad := rfl
theorem gq_an : (gh_mkQ a s g b pp ad).an = me_fu a.an a.np none := rfl
theorem gq_q : (gh_mkQ a s g b pp ad).q = a.q := rfl
theorem gq_ro : (gh_mkQ a s g b pp ad).ro = a.ro := rfl
theorem gq_rg : (gh_mkQ a s g b pp ad).rg = a.rg := rfl
theorem gq_fl : (gh_mkQ a s g b pp ad).fl = a.fl := rfl
theorem gq_aw : (gh_mkQ a s g b pp ad).aw = a.aw := rfl
theorem gq_mm : (gh_mkQ a s g b pp ad).mm = a.mm := rfl
theorem gq_co : (gh_mkQ a s g b pp ad).co = a.co := rfl
end GmQ
section GmA
variable {a : me_S} {p i r : Nat} {t : List (Nat × Nat × Nat)}
theorem ga_w : (gh_aq a p).w = a.w := rfl
theorem ga_h : (gh_aq a p).h = a.h := rfl
theorem ga_rp : (gh_aq a p).rp = a.rp := rfl
theorem ga_wy : (gh_aq a p).wy = a.wy := rfl
theorem ga_bt : (gh_aq a p).bt = a.bt := rfl
theorem ga_np : (gh_aq a p).np = a.np + 1 := rfl
theorem ga_ow : (gh_aq a p).ow = a.ow - 1 := rfl
theorem ga_kd : (gh_aq a p).kd = me_fu a.kd a.np 97 := rfl
theorem ga_st : (gh_aq a p).st = me_fu a.st a.np 115 := rfl
theorem ga_sr : (gh_aq a p).sr = me_fu a.sr a.np (a.gl p) := rfl
theorem ga_gl : (gh_aq a p).gl = me_fu a.gl a.np (a.sr p) := rfl
theorem ga_wd : (gh_aq a p).wd = me_fu a.wd a.np (a.mm (a.gl p) (a.pl p)) := rfl
theorem ga_bo : (gh_aq a p).bo = me_fu a.bo a.np 1 := rfl
theorem ga_pt : (gh_aq a p).pt = me_fu a.pt a.np 0 := rfl
theorem ga_tk : (gh_aq a p).tk = me_fu a.tk a.np 0 := rfl
theorem ga_hd : (gh_aq a p).hd = me_fu a.hd a.np none := rfl
theorem ga_an : (gh_aq a p).an = me_fu (me_fu a.an a.np none) p (some a.np) := rfl
theorem ga_mm : (gh_aq a p).mm = me_fu2 a.mm (a.gl p) (a.pl p) (a.mm (a.gl p) (a.pl p) + a.ad p) := rfl
theorem ga_q : (gh_aq a p).q = a.q := rfl
theorem ga_rg : (gh_aq a p).rg = a.rg := rfl
theorem ga_fl : (gh_aq a p).fl = a.fl := rfl
theorem ga_aw : (gh_aq a p).aw = a.aw := rfl
theorem ga_co : (gh_aq a p).co = a.co := rfl
theorem gd_w : (gh_dl (gh_g0 a p i r t) p).w = a.w := rfl
theorem gd_h : (gh_dl (gh_g0 a p i r t) p).h = a.h := rfl
theorem gd_rp : (gh_dl (gh_g0 a p i r t) p).rp = a.rp := rfl
theorem gd_wy : (gh_dl (gh_g0 a p i r t) p).wy = a.wy := rfl
theorem gd_bt : (gh_dl (gh_g0 a p i r t) p).bt = a.bt := rfl
theorem gd_np : (gh_dl (gh_g0 a p i r t) p).np = a.np := rfl
theorem gd_ow : (gh_dl (gh_g0 a p i r t) p).ow = a.ow := rfl
theorem gd_kd : (gh_dl (gh_g0 a p i r t) p).kd = a.kd := rfl
theorem gd_st : (gh_dl (gh_g0 a p i r t) p).st = me_fu a.st p 100 := rfl
theorem gd_sr : (gh_dl (gh_g0 a p i r t) p).sr = a.sr := rfl
theorem gd_gl : (gh_dl (gh_g0 a p i r t) p).gl = a.gl := rfl
theorem gd_wd : (gh_dl (gh_g0 a p i r t) p).wd = a.wd := rfl
theorem gd_bo : (gh_dl (gh_g0 a p i r t) p).bo = a.bo := rfl
theorem gd_pt : (gh_dl (gh_g0 a p i r t) p).pt = a.pt := rfl
theorem gd_tk : (gh_dl (gh_g0 a p i r t) p).tk = me_fu a.tk p (a.tk p + 1) := rfl
theorem gd_hd : (gh_dl (gh_g0 a p i r t) p).hd = a.hd := rfl
theorem gd_pl : (gh_dl (gh_g0 a p i r t) p).pl = a.pl := rfl
theorem gd_ad : (gh_dl (gh_g0 a p i r t) p).ad = a.ad := rfl
theorem gd_an : (gh_dl (gh_g0 a p i r t) p).an = a.an := rfl
theorem gd_mm : (gh_dl (gh_g0 a p i r t) p).mm = a.mm := rfl
theorem gd_q : (gh_dl (gh_g0 a p i r t) p).q = me_fu a.q r t := rfl
theorem gd_rg : (gh_dl (gh_g0 a p i r t) p).rg = me_fu a.rg r (a.bt + 1) := rfl
theorem gd_fl : (gh_dl (gh_g0 a p i r t) p).fl = a.fl := rfl
theorem gd_aw : (gh_dl (gh_g0 a p i r t) p).aw = a.aw := rfl
theorem gd_co : (gh_dl (gh_g0 a p i r t) p).co = a.co := rfl
end GmA
/-- routers, none of whose rows gives -/
theorem gb_skips {a : me_S} {W : Nat → Bool} {v : Int32} {μ : me_M} (hX : gb_X a W v μ) : ∀ (d f n : Nat), n + d ≤ a.w * a.h → (∀ n' c k, n ≤ n' → n' < n + d → c < 2 → k < 5 → gh_bk a (5 * (2 * n' + c) + k)) → f_Mover_moveAll_h2 (f + d) μ (me_N n) = f_Mover_moveAll_h2 f μ (me_N (n + d)) := by
  intro d
  induction d with
  | zero => intro f n _ _; rfl
  | succ d ih =>
    intro f n h1 h2
    rw [show f + (d + 1) = (f + d) + 1 by omega, gb_skip hX (by omega) (fun c k hc hk => h2 n c k (Nat.le_refl _) (by omega) hc hk), ih f (n + 1) (by omega) (fun n' c k h3 h4 hc hk => h2 n' c k (by omega) (by omega) hc hk), show n + 1 + d = n + (d + 1) by omega]
