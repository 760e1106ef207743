/-! the same ghost, by its fields; a row of the net written anew -/
def me_Eq (a b : me_S) : Prop := a.w = b.w ∧ a.h = b.h ∧ a.rp = b.rp ∧ a.wy = b.wy ∧ a.bt = b.bt ∧ a.np = b.np ∧ a.ow = b.ow ∧ a.kd = b.kd ∧ a.st = b.st ∧ a.sr = b.sr ∧ a.gl = b.gl ∧ a.wd = b.wd ∧ a.bo = b.bo ∧ a.pt = b.pt ∧ a.tk = b.tk ∧ a.hd = b.hd ∧ a.ma = b.ma ∧ a.dn = b.dn ∧ a.pl = b.pl ∧ a.ad = b.ad ∧ a.an = b.an ∧ a.q = b.q ∧ a.ro = b.ro ∧ a.rh = b.rh ∧ a.rg = b.rg ∧ a.lr = b.lr ∧ a.fp = b.fp ∧ a.fl = b.fl ∧ a.aw = b.aw ∧ a.mm = b.mm ∧ a.sk = b.sk ∧ a.dp = b.dp ∧ a.nm = b.nm ∧ a.nu = b.nu ∧ a.ln = b.ln ∧ a.ca = b.ca ∧ a.co = b.co ∧ a.fa = b.fa ∧ a.nt = b.nt ∧ a.tn = b.tn ∧ a.tr = b.tr
theorem me_RC.eq {a b : me_S} {μ : me_M} (h : me_RC a μ) (e : me_Eq a b) : me_RC b μ := by
  obtain ⟨ew, eh, erp, ewy, ebt, enp, eow, ekd, est, esr, egl, ewd, ebo, ept, etk, ehd, ema, edn, epl, ead, ean, eq, ero, erh, erg, elr, efp, efl, eaw, emm, esk, edp, enm, enu, eln, eca, eco, efa, ent, etn, etr⟩ := e
  unfold me_RC at h ⊢
  simp only [ew, eh, erp, ewy, ebt, enp, eow, ekd, est, esr, egl, ewd, ebo, ept, etk, ehd, ema, edn, epl, ead, ean, eq, ero, erh, erg, elr, efp, efl, eaw, emm, esk, edp, enm, enu, eln, eca, eco, efa, ent, etn, etr] at h
  exact h
def me_EqM (a b : me_S) : Prop := a.w = b.w ∧ a.h = b.h ∧ a.rp = b.rp ∧ a.wy = b.wy ∧ a.bt = b.bt ∧ a.np = b.np ∧ a.kd = b.kd ∧ a.st = b.st ∧ a.sr = b.sr ∧ a.gl = b.gl ∧ a.wd = b.wd ∧ a.bo = b.bo ∧ a.pt = b.pt ∧ a.ma = b.ma ∧ a.dn = b.dn ∧ a.pl = b.pl ∧ a.ad = b.ad ∧ a.an = b.an ∧ a.q = b.q ∧ a.ro = b.ro ∧ a.rh = b.rh ∧ a.rg = b.rg ∧ a.lr = b.lr ∧ a.fl = b.fl ∧ a.aw = b.aw ∧ a.mm = b.mm ∧ a.sk = b.sk ∧ a.dp = b.dp ∧ a.nm = b.nm ∧ a.nu = b.nu ∧ a.ln = b.ln ∧ a.ca = b.ca ∧ a.co = b.co ∧ a.fa = b.fa ∧ a.nt = b.nt ∧ a.tn = b.tn ∧ a.tr = b.tr
theorem me_RM.eq {a b : me_S} {μ : me_M} (h : me_RM a μ) (e : me_EqM a b) : me_RM b μ := by
  obtain ⟨ew, eh, erp, ewy, ebt, enp, ekd, est, esr, egl, ewd, ebo, ept, ema, edn, epl, ead, ean, eq, ero, erh, erg, elr, efl, eaw, emm, esk, edp, enm, enu, eln, eca, eco, efa, ent, etn, etr⟩ := e
  unfold me_RM at h ⊢
  simp only [ew, eh, erp, ewy, ebt, enp, ekd, est, esr, egl, ewd, ebo, ept, ema, edn, epl, ead, ean, eq, ero, erh, erg, elr, efl, eaw, emm, esk, edp, enm, enu, eln, eca, eco, efa, ent, etn, etr] at h
  exact h
theorem me_Iv.eq {a b : me_S} (h : me_Iv a) (e : me_Eq a b) : me_Iv b := by
  obtain ⟨ew, eh, erp, ewy, ebt, enp, eow, ekd, est, esr, egl, ewd, ebo, ept, etk, ehd, ema, edn, epl, ead, ean, eq, ero, erh, erg, elr, efp, efl, eaw, emm, esk, edp, enm, enu, eln, eca, eco, efa, ent, etn, etr⟩ := e
  unfold me_Iv at h ⊢
  simp only [ew, eh, erp, ewy, ebt, enp, eow, ekd, est, esr, egl, ebo, ept, etk, ehd, ema, edn, epl, ean, eq, ero, erh, erg, elr, efp, efl, eaw, edp, enm, enu, eln, eca, eco, efa, ent, etn, etr] at h
  exact h
theorem me_Eq.m {a b : me_S} (e : me_Eq a b) : me_EqM a b := by
  obtain ⟨ew, eh, erp, ewy, ebt, enp, eow, ekd, est, esr, egl, ewd, ebo, ept, etk, ehd, ema, edn, epl, ead, ean, eq, ero, erh, erg, elr, efp, efl, eaw, emm, esk, edp, enm, enu, eln, eca, eco, efa, ent, etn, etr⟩ := e
  exact ⟨ew, eh, erp, ewy, ebt, enp, ekd, est, esr, egl, ewd, ebo, ept, ema, edn, epl, ead, ean, eq, ero, erh, erg, elr, efl, eaw, emm, esk, edp, enm, enu, eln, eca, eco, efa, ent, etn, etr⟩
theorem me_RC.w_q {a : me_S} {μ μ' : me_M} (h : me_RC a μ) {x : Nat} {l : List (Nat × Nat × Nat)} (hF : ∀ k i j, ¬ ((k = 17 ∧ i = x ∧ j = 3) ∨ ((k = 18 ∨ k = 19 ∨ k = 20) ∧ i = x)) → μ' k i j = μ k i j) (hn : μ' 17 x 3 = me_N l.length) (h1 : ∀ j e, l[j]? = some e → μ' 18 x j = me_N e.1 ∧ μ' 19 x j = me_N e.2.1 ∧ μ' 20 x j = me_N e.2.2) : me_RC (me_S.s_q a (me_fu a.q x l)) μ' :=
  me_RC.mk ((hF _ _ _ (by omega)).trans (h.rp))
    ((hF _ _ _ (by omega)).trans (h.nn))
    (fun n d g0 g1 => (hF _ _ _ (by omega)).trans (h.ah n d g0 g1))
    (fun n d g0 g1 => (hF _ _ _ (by omega)).trans (h.fl n d g0 g1))
    (fun n g0 => (hF _ _ _ (by omega)).trans (h.cl n g0))
    (fun n g0 => (hF _ _ _ (by omega)).trans (h.li n g0))
    ((hF _ _ _ (by omega)).trans (h.np))
    ((hF _ _ _ (by omega)).trans (h.ow))
    (fun i g0 => (hF _ _ _ (by omega)).trans (h.p0 i g0))
    (fun i => (hF _ _ _ (by omega)).trans (h.kd i))
    (fun i => (hF _ _ _ (by omega)).trans (h.st i))
    (fun i => (hF _ _ _ (by omega)).trans (h.sr i))
    (fun i => (hF _ _ _ (by omega)).trans (h.gl i))
    (fun i => (hF _ _ _ (by omega)).trans (h.wd i))
    (fun i g0 => (hF _ _ _ (by omega)).trans (h.bo i g0))
    (fun i => (hF _ _ _ (by omega)).trans (h.pt i))
    (fun i => (hF _ _ _ (by omega)).trans (h.tk i))
    (fun i g0 => (hF _ _ _ (by omega)).trans (h.hd i g0))
    (fun i => (hF _ _ _ (by omega)).trans (h.ma i))
    (fun i g0 => (hF _ _ _ (by omega)).trans (h.dn i g0))
    (fun i => (hF _ _ _ (by omega)).trans (h.pl i))
    (fun i => (hF _ _ _ (by omega)).trans (h.ad i))
    (fun i g0 => (hF _ _ _ (by omega)).trans (h.an i g0))
    ((hF _ _ _ (by omega)).trans (h.nt))
    (fun i g0 => (hF _ _ _ (by omega)).trans (h.tn i g0))
    (fun i j g0 g1 => (hF _ _ _ (by omega)).trans (h.tr i j g0 g1))
    (fun n g0 => (hF _ _ _ (by omega)).trans (h.aw n g0))
    (fun n k g0 g1 => (hF _ _ _ (by omega)).trans (h.lr n k g0 g1))
    (fun n c g0 g1 => (hF _ _ _ (by omega)).trans (h.fp n c g0 g1))
    (fun r g0 => by show μ' 17 r 3 = me_N (me_fu a.q x l r).length; rw [me_fu_ap]; by_cases e : r = x; (rw [if_pos e, e]; exact hn); (rw [if_neg e, hF 17 r 3 (by omega)]; exact h.qn r g0))
    (fun r g0 => (hF _ _ _ (by omega)).trans (h.qp r g0))
    (fun r g0 => (hF _ _ _ (by omega)).trans (h.ro r g0))
    (fun r g0 => (hF _ _ _ (by omega)).trans (h.rh r g0))
    (fun r g0 => (hF _ _ _ (by omega)).trans (h.rg r g0))
    (fun r j e g0 g1 => by have g1 : (me_fu a.q x l r)[j]? = some e := g1; rw [me_fu_ap] at g1; by_cases q : r = x; (rw [if_pos q] at g1; rw [q]; exact (h1 j e g1).1); (rw [if_neg q] at g1; rw [hF 18 r j (by omega)]; exact h.q1 r j e g0 g1))
    (fun r j e g0 g1 => by have g1 : (me_fu a.q x l r)[j]? = some e := g1; rw [me_fu_ap] at g1; by_cases q : r = x; (rw [if_pos q] at g1; rw [q]; exact (h1 j e g1).2.1); (rw [if_neg q] at g1; rw [hF 19 r j (by omega)]; exact h.q2 r j e g0 g1))
    (fun r j e g0 g1 => by have g1 : (me_fu a.q x l r)[j]? = some e := g1; rw [me_fu_ap] at g1; by_cases q : r = x; (rw [if_pos q] at g1; rw [q]; exact (h1 j e g1).2.2); (rw [if_neg q] at g1; rw [hF 20 r j (by omega)]; exact h.q3 r j e g0 g1))
    (fun n g0 => (hF _ _ _ (by omega)).trans (h.dp n g0))
    (fun n g0 => (hF _ _ _ (by omega)).trans (h.ln n g0))
    (fun n g0 => (hF _ _ _ (by omega)).trans (h.ca n g0))
    (fun n g0 => (hF _ _ _ (by omega)).trans (h.co n g0))
    (fun n g0 => (hF _ _ _ (by omega)).trans (h.fa n g0))
    (fun n j g0 g1 => (hF _ _ _ (by omega)).trans (h.mm n j g0 g1))
    (fun n j g0 g1 => (hF _ _ _ (by omega)).trans (h.sk n j g0 g1))
    (fun n j g0 g1 => (hF _ _ _ (by omega)).trans (h.nm n j g0 g1))
    (fun n j g0 g1 => (hF _ _ _ (by omega)).trans (h.nu n j g0 g1))
    ((hF _ _ _ (by omega)).trans (h.wy))
    ((hF _ _ _ (by omega)).trans (h.bt))
theorem me_RM.w_q {a : me_S} {μ μ' : me_M} (h : me_RM a μ) {x y : Nat} {l : List (Nat × Nat × Nat)} (hy : y < 5) (hF : ∀ k i j, ¬ ((k = 60 ∧ i = x ∧ j = y) ∨ ((k = 53 ∨ k = 57) ∧ i = 5 * x + y)) → μ' k i j = μ k i j) (hn : μ' 60 x y = me_N l.length) (h1 : ∀ j e, l[j]? = some e → μ' 53 (5 * x + y) j = me_N (8 * e.1 + e.2.1) ∧ μ' 57 (5 * x + y) j = me_N e.2.2) : me_RM (me_S.s_q a (me_fu a.q (5 * x + y) l)) μ' :=
  me_RM.mk ((hF _ _ _ (by omega)).trans (h.w))
    ((hF _ _ _ (by omega)).trans (h.h))
    ((hF _ _ _ (by omega)).trans (h.rp))
    ((hF _ _ _ (by omega)).trans (h.wy))
    ((hF _ _ _ (by omega)).trans (h.bt))
    ((hF _ _ _ (by omega)).trans (h.np))
    ((hF _ _ _ (by omega)).trans (h.nt))
    (fun i g0 => (hF _ _ _ (by omega)).trans (h.kd i g0))
    (fun i g0 => (hF _ _ _ (by omega)).trans (h.st i g0))
    (fun i g0 => (hF _ _ _ (by omega)).trans (h.sr i g0))
    (fun i g0 => (hF _ _ _ (by omega)).trans (h.gl i g0))
    (fun i g0 => (hF _ _ _ (by omega)).trans (h.wd i g0))
    (fun i g0 => (hF _ _ _ (by omega)).trans (h.bo i g0))
    (fun i g0 => (hF _ _ _ (by omega)).trans (h.pt i g0))
    (fun i g0 => (hF _ _ _ (by omega)).trans (h.ma i g0))
    (fun i g0 g1 => (hF _ _ _ (by omega)).trans (h.dn i g0 g1))
    (fun i g0 g1 => (hF _ _ _ (by omega)).trans (h.pl i g0 g1))
    (fun i g0 g1 => by rw [hF 47 _ _ (by omega), hF 48 _ _ (by omega)]; exact h.ad i g0 g1)
    (fun i g0 => (hF _ _ _ (by omega)).trans (h.an i g0))
    (fun b k j e g0 g1 g2 => by have g2 : (me_fu a.q (5 * x + y) l (5 * b + k))[j]? = some e := g2; rw [me_fu_ap] at g2; by_cases q : 5 * b + k = 5 * x + y; (rw [if_pos q] at g2; rw [q]; exact (h1 j e g2).1); (rw [if_neg q] at g2; rw [hF 53 (5 * b + k) j (by omega)]; exact h.q1 b k j e g0 g1 g2))
    (fun b k j e g0 g1 g2 => by have g2 : (me_fu a.q (5 * x + y) l (5 * b + k))[j]? = some e := g2; rw [me_fu_ap] at g2; by_cases q : 5 * b + k = 5 * x + y; (rw [if_pos q] at g2; rw [q]; exact (h1 j e g2).2); (rw [if_neg q] at g2; rw [hF 57 (5 * b + k) j (by omega)]; exact h.q3 b k j e g0 g1 g2))
    (fun b k g0 g1 => by show μ' 60 b k = me_N (me_fu a.q (5 * x + y) l (5 * b + k)).length; rw [me_fu_ap]; by_cases e : 5 * b + k = 5 * x + y; (rw [if_pos e, show b = x by omega, show k = y by omega]; exact hn); (rw [if_neg e, hF 60 b k (by omega)]; exact h.qn b k g0 g1))
    (fun b k g0 g1 => (hF _ _ _ (by omega)).trans (h.ro b k g0 g1))
    (fun b k g0 g1 => by rw [hF 66 _ _ (by omega)]; exact h.rh b k g0 g1)
    (fun b k g0 g1 => (hF _ _ _ (by omega)).trans (h.rg b k g0 g1))
    (fun b k g0 g1 => (hF _ _ _ (by omega)).trans (h.lr b k g0 g1))
    (fun n d g0 g1 => (hF _ _ _ (by omega)).trans (h.fl n d g0 g1))
    (fun n j g0 g1 => (hF _ _ _ (by omega)).trans (h.mm n j g0 g1))
    (fun n j g0 g1 => (hF _ _ _ (by omega)).trans (h.sk n j g0 g1))
    (fun n j g0 g1 => (hF _ _ _ (by omega)).trans (h.nm n j g0 g1))
    (fun n j g0 g1 => (hF _ _ _ (by omega)).trans (h.nu n j g0 g1))
    (fun i j g0 g1 => (hF _ _ _ (by omega)).trans (h.tr i j g0 g1))
    (fun n g0 => (hF _ _ _ (by omega)).trans (h.aw n g0))
    (fun n g0 => (hF _ _ _ (by omega)).trans (h.dp n g0))
    (fun n g0 => (hF _ _ _ (by omega)).trans (h.ln n g0))
    (fun n g0 => (hF _ _ _ (by omega)).trans (h.co n g0))
    (fun n g0 g1 => (hF _ _ _ (by omega)).trans (h.fa n g0 g1))
    (fun n g0 => (hF _ _ _ (by omega)).trans (h.ca n g0))
    (fun i g0 => (hF _ _ _ (by omega)).trans (h.tn i g0))
