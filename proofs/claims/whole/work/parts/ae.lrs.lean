/-! delivery and the row that gave last -/
theorem me_Eq.sy {a b : me_S} (e : me_Eq a b) : me_Eq b a := by
  obtain ⟨ew, eh, erp, ewy, ebt, enp, eow, ekd, est, esr, egl, ewd, ebo, ept, etk, ehd, ema, edn, epl, ead, ean, eq, ero, erh, erg, elr, efp, efl, eaw, emm, esk, edp, enm, enu, eln, eca, eco, efa, ent, etn, etr⟩ := e
  exact ⟨ew.symm, eh.symm, erp.symm, ewy.symm, ebt.symm, enp.symm, eow.symm, ekd.symm, est.symm, esr.symm, egl.symm, ewd.symm, ebo.symm, ept.symm, etk.symm, ehd.symm, ema.symm, edn.symm, epl.symm, ead.symm, ean.symm, eq.symm, ero.symm, erh.symm, erg.symm, elr.symm, efp.symm, efl.symm, eaw.symm, emm.symm, esk.symm, edp.symm, enm.symm, enu.symm, eln.symm, eca.symm, eco.symm, efa.symm, ent.symm, etn.symm, etr.symm⟩
theorem me_Eq.tr_ {a b c : me_S} (e : me_Eq a b) (d : me_Eq b c) : me_Eq a c := by
  obtain ⟨ew, eh, erp, ewy, ebt, enp, eow, ekd, est, esr, egl, ewd, ebo, ept, etk, ehd, ema, edn, epl, ead, ean, eq, ero, erh, erg, elr, efp, efl, eaw, emm, esk, edp, enm, enu, eln, eca, eco, efa, ent, etn, etr⟩ := e
  obtain ⟨dw, dh, drp, dwy, dbt, dnp, dow, dkd, dst, dsr, dgl, dwd, dbo, dpt, dtk, dhd, dma, ddn, dpl, dad, dan, dq, dro, drh, drg, dlr, dfp, dfl, daw, dmm, dsk, ddp, dnm, dnu, dln, dca, dco, dfa, dnt, dtn, dtr⟩ := d
  exact ⟨ew.trans dw, eh.trans dh, erp.trans drp, ewy.trans dwy, ebt.trans dbt, enp.trans dnp, eow.trans dow, ekd.trans dkd, est.trans dst, esr.trans dsr, egl.trans dgl, ewd.trans dwd, ebo.trans dbo, ept.trans dpt, etk.trans dtk, ehd.trans dhd, ema.trans dma, edn.trans ddn, epl.trans dpl, ead.trans dad, ean.trans dan, eq.trans dq, ero.trans dro, erh.trans drh, erg.trans drg, elr.trans dlr, efp.trans dfp, efl.trans dfl, eaw.trans daw, emm.trans dmm, esk.trans dsk, edp.trans ddp, enm.trans dnm, enu.trans dnu, eln.trans dln, eca.trans dca, eco.trans dco, efa.trans dfa, ent.trans dnt, etn.trans dtn, etr.trans dtr⟩
theorem me_Eq.mk_ {a b : me_S} (e : me_Eq a b) {k : Int32} {s g : Nat} {w : Int32} {b0 : Nat} : me_Eq (gh_mk a k s g w b0) (gh_mk b k s g w b0) := by
  obtain ⟨ew, eh, erp, ewy, ebt, enp, eow, ekd, est, esr, egl, ewd, ebo, ept, etk, ehd, ema, edn, epl, ead, ean, eq, ero, erh, erg, elr, efp, efl, eaw, emm, esk, edp, enm, enu, eln, eca, eco, efa, ent, etn, etr⟩ := e
  exact ⟨ew, eh, erp, ewy, ebt, by show a.np + 1 = b.np + 1; rw [enp], eow, by show me_fu a.kd a.np k = me_fu b.kd b.np k; rw [ekd, enp], by show me_fu a.st a.np 115 = me_fu b.st b.np 115; rw [est, enp], by show me_fu a.sr a.np s = me_fu b.sr b.np s; rw [esr, enp], by show me_fu a.gl a.np g = me_fu b.gl b.np g; rw [egl, enp], by show me_fu a.wd a.np w = me_fu b.wd b.np w; rw [ewd, enp], by show me_fu a.bo a.np b0 = me_fu b.bo b.np b0; rw [ebo, enp], by show me_fu a.pt a.np 0 = me_fu b.pt b.np 0; rw [ept, enp], by show me_fu a.tk a.np 0 = me_fu b.tk b.np 0; rw [etk, enp], by show me_fu a.hd a.np none = me_fu b.hd b.np none; rw [ehd, enp], by show me_fu a.ma a.np a.bt = me_fu b.ma b.np b.bt; rw [ema, enp, ebt], by show me_fu a.dn a.np none = me_fu b.dn b.np none; rw [edn, enp], by show me_fu a.pl a.np 0 = me_fu b.pl b.np 0; rw [epl, enp], by show me_fu a.ad a.np 0 = me_fu b.ad b.np 0; rw [ead, enp], by show me_fu a.an a.np none = me_fu b.an b.np none; rw [ean, enp], eq, ero, erh, erg, elr, efp, efl, eaw, emm, esk, edp, enm, enu, eln, eca, eco, efa, ent, etn, etr⟩
theorem me_Eq.s_an {a b : me_S} (e : me_Eq a b) {v v' : Nat → Option Nat} (hv : v = v') : me_Eq (me_S.s_an a v) (me_S.s_an b v') := by
  obtain ⟨ew, eh, erp, ewy, ebt, enp, eow, ekd, est, esr, egl, ewd, ebo, ept, etk, ehd, ema, edn, epl, ead, ean, eq, ero, erh, erg, elr, efp, efl, eaw, emm, esk, edp, enm, enu, eln, eca, eco, efa, ent, etn, etr⟩ := e
  exact ⟨ew, eh, erp, ewy, ebt, enp, eow, ekd, est, esr, egl, ewd, ebo, ept, etk, ehd, ema, edn, epl, ead, hv, eq, ero, erh, erg, elr, efp, efl, eaw, emm, esk, edp, enm, enu, eln, eca, eco, efa, ent, etn, etr⟩
theorem me_Eq.s_lr {a b : me_S} (e : me_Eq a b) {v v' : Nat → Nat} (hv : v = v') : me_Eq (me_S.s_lr a v) (me_S.s_lr b v') := by
  obtain ⟨ew, eh, erp, ewy, ebt, enp, eow, ekd, est, esr, egl, ewd, ebo, ept, etk, ehd, ema, edn, epl, ead, ean, eq, ero, erh, erg, elr, efp, efl, eaw, emm, esk, edp, enm, enu, eln, eca, eco, efa, ent, etn, etr⟩ := e
  exact ⟨ew, eh, erp, ewy, ebt, enp, eow, ekd, est, esr, egl, ewd, ebo, ept, etk, ehd, ema, edn, epl, ead, ean, eq, ero, erh, erg, hv, efp, efl, eaw, emm, esk, edp, enm, enu, eln, eca, eco, efa, ent, etn, etr⟩
theorem me_Eq.s_dn {a b : me_S} (e : me_Eq a b) {v v' : Nat → Option Nat} (hv : v = v') : me_Eq (me_S.s_dn a v) (me_S.s_dn b v') := by
  obtain ⟨ew, eh, erp, ewy, ebt, enp, eow, ekd, est, esr, egl, ewd, ebo, ept, etk, ehd, ema, edn, epl, ead, ean, eq, ero, erh, erg, elr, efp, efl, eaw, emm, esk, edp, enm, enu, eln, eca, eco, efa, ent, etn, etr⟩ := e
  exact ⟨ew, eh, erp, ewy, ebt, enp, eow, ekd, est, esr, egl, ewd, ebo, ept, etk, ehd, ema, hv, epl, ead, ean, eq, ero, erh, erg, elr, efp, efl, eaw, emm, esk, edp, enm, enu, eln, eca, eco, efa, ent, etn, etr⟩
theorem me_Eq.s_st {a b : me_S} (e : me_Eq a b) {v v' : Nat → Int32} (hv : v = v') : me_Eq (me_S.s_st a v) (me_S.s_st b v') := by
  obtain ⟨ew, eh, erp, ewy, ebt, enp, eow, ekd, est, esr, egl, ewd, ebo, ept, etk, ehd, ema, edn, epl, ead, ean, eq, ero, erh, erg, elr, efp, efl, eaw, emm, esk, edp, enm, enu, eln, eca, eco, efa, ent, etn, etr⟩ := e
  exact ⟨ew, eh, erp, ewy, ebt, enp, eow, ekd, hv, esr, egl, ewd, ebo, ept, etk, ehd, ema, edn, epl, ead, ean, eq, ero, erh, erg, elr, efp, efl, eaw, emm, esk, edp, enm, enu, eln, eca, eco, efa, ent, etn, etr⟩
theorem me_Eq.s_mm {a b : me_S} (e : me_Eq a b) {v v' : Nat → Nat → Int32} (hv : v = v') : me_Eq (me_S.s_mm a v) (me_S.s_mm b v') := by
  obtain ⟨ew, eh, erp, ewy, ebt, enp, eow, ekd, est, esr, egl, ewd, ebo, ept, etk, ehd, ema, edn, epl, ead, ean, eq, ero, erh, erg, elr, efp, efl, eaw, emm, esk, edp, enm, enu, eln, eca, eco, efa, ent, etn, etr⟩ := e
  exact ⟨ew, eh, erp, ewy, ebt, enp, eow, ekd, est, esr, egl, ewd, ebo, ept, etk, ehd, ema, edn, epl, ead, ean, eq, ero, erh, erg, elr, efp, efl, eaw, hv, esk, edp, enm, enu, eln, eca, eco, efa, ent, etn, etr⟩
theorem me_Eq.s_ow {a b : me_S} (e : me_Eq a b) {v v' : Nat} (hv : v = v') : me_Eq (me_S.s_ow a v) (me_S.s_ow b v') := by
  obtain ⟨ew, eh, erp, ewy, ebt, enp, eow, ekd, est, esr, egl, ewd, ebo, ept, etk, ehd, ema, edn, epl, ead, ean, eq, ero, erh, erg, elr, efp, efl, eaw, emm, esk, edp, enm, enu, eln, eca, eco, efa, ent, etn, etr⟩ := e
  exact ⟨ew, eh, erp, ewy, ebt, enp, hv, ekd, est, esr, egl, ewd, ebo, ept, etk, ehd, ema, edn, epl, ead, ean, eq, ero, erh, erg, elr, efp, efl, eaw, emm, esk, edp, enm, enu, eln, eca, eco, efa, ent, etn, etr⟩
theorem me_Eq.s_rh {a b : me_S} (e : me_Eq a b) {v v' : Nat → Option Nat} (hv : v = v') : me_Eq (me_S.s_rh a v) (me_S.s_rh b v') := by
  obtain ⟨ew, eh, erp, ewy, ebt, enp, eow, ekd, est, esr, egl, ewd, ebo, ept, etk, ehd, ema, edn, epl, ead, ean, eq, ero, erh, erg, elr, efp, efl, eaw, emm, esk, edp, enm, enu, eln, eca, eco, efa, ent, etn, etr⟩ := e
  exact ⟨ew, eh, erp, ewy, ebt, enp, eow, ekd, est, esr, egl, ewd, ebo, ept, etk, ehd, ema, edn, epl, ead, ean, eq, ero, hv, erg, elr, efp, efl, eaw, emm, esk, edp, enm, enu, eln, eca, eco, efa, ent, etn, etr⟩
theorem gh_dl_lr {a : me_S} {p : Nat} {v : Nat → Nat} : me_Eq (gh_dl (me_S.s_lr a v) p) (me_S.s_lr (gh_dl a p) v) := ⟨rfl, rfl, rfl, rfl, rfl, rfl, rfl, rfl, rfl, rfl, rfl, rfl, rfl, rfl, rfl, rfl, rfl, rfl, rfl, rfl, rfl, rfl, rfl, rfl, rfl, rfl, rfl, rfl, rfl, rfl, rfl, rfl, rfl, rfl, rfl, rfl, rfl, rfl, rfl, rfl, rfl⟩
theorem gh_aw_lr {a : me_S} {p : Nat} {v : Nat → Nat} : me_Eq (gh_aw (me_S.s_lr a v) p) (me_S.s_lr (gh_aw a p) v) := ⟨rfl, rfl, rfl, rfl, rfl, rfl, rfl, rfl, rfl, rfl, rfl, rfl, rfl, rfl, rfl, rfl, rfl, rfl, rfl, rfl, rfl, rfl, rfl, rfl, rfl, rfl, rfl, rfl, rfl, rfl, rfl, rfl, rfl, rfl, rfl, rfl, rfl, rfl, rfl, rfl, rfl⟩
theorem gh_mk_lr {a : me_S} {k : Int32} {s g : Nat} {w : Int32} {b : Nat} {v : Nat → Nat} : me_Eq (gh_mk (me_S.s_lr a v) k s g w b) (me_S.s_lr (gh_mk a k s g w b) v) := ⟨rfl, rfl, rfl, rfl, rfl, rfl, rfl, rfl, rfl, rfl, rfl, rfl, rfl, rfl, rfl, rfl, rfl, rfl, rfl, rfl, rfl, rfl, rfl, rfl, rfl, rfl, rfl, rfl, rfl, rfl, rfl, rfl, rfl, rfl, rfl, rfl, rfl, rfl, rfl, rfl, rfl⟩
theorem gh_an_lr {a : me_S} {u : Nat → Option Nat} {v : Nat → Nat} : me_Eq (me_S.s_an (me_S.s_lr a v) u) (me_S.s_lr (me_S.s_an a u) v) := ⟨rfl, rfl, rfl, rfl, rfl, rfl, rfl, rfl, rfl, rfl, rfl, rfl, rfl, rfl, rfl, rfl, rfl, rfl, rfl, rfl, rfl, rfl, rfl, rfl, rfl, rfl, rfl, rfl, rfl, rfl, rfl, rfl, rfl, rfl, rfl, rfl, rfl, rfl, rfl, rfl, rfl⟩
theorem me_Eq.an {a b : me_S} (e : me_Eq a b) : a.an = b.an := by
  obtain ⟨ew, eh, erp, ewy, ebt, enp, eow, ekd, est, esr, egl, ewd, ebo, ept, etk, ehd, ema, edn, epl, ead, ean, eq, ero, erh, erg, elr, efp, efl, eaw, emm, esk, edp, enm, enu, eln, eca, eco, efa, ent, etn, etr⟩ := e
  exact ean
theorem gh_aq_lr {a : me_S} {p : Nat} {v : Nat → Nat} : me_Eq (gh_aq (me_S.s_lr a v) p) (me_S.s_lr (gh_aq a p) v) := by
  have E := (gh_aw_lr (a := a) (p := p) (v := v)).mk_ (k := 97) (s := a.gl p) (g := a.sr p) (w := a.mm (a.gl p) (a.pl p)) (b0 := 1)
  have E2 := E.tr_ gh_mk_lr
  have E3 := E2.s_an (v := me_fu (gh_mk (gh_aw (me_S.s_lr a v) p) 97 (a.gl p) (a.sr p) (a.mm (a.gl p) (a.pl p)) 1).an p (some a.np)) (v' := me_fu (gh_mk (gh_aw a p) 97 (a.gl p) (a.sr p) (a.mm (a.gl p) (a.pl p)) 1).an p (some a.np)) (by
    have h : (gh_mk (gh_aw (me_S.s_lr a v) p) 97 (a.gl p) (a.sr p) (a.mm (a.gl p) (a.pl p)) 1).an = (gh_mk (gh_aw a p) 97 (a.gl p) (a.sr p) (a.mm (a.gl p) (a.pl p)) 1).an := E2.an
    rw [h])
  exact E3.tr_ gh_an_lr
theorem me_Eq.dl {a b : me_S} (e : me_Eq a b) (p : Nat) : me_Eq (gh_dl a p) (gh_dl b p) := by
  have e0 := e
  obtain ⟨ew, eh, erp, ewy, ebt, enp, eow, ekd, est, esr, egl, ewd, ebo, ept, etk, ehd, ema, edn, epl, ead, ean, eq, ero, erh, erg, elr, efp, efl, eaw, emm, esk, edp, enm, enu, eln, eca, eco, efa, ent, etn, etr⟩ := e
  exact (e0.s_st (by rw [est])).s_dn (by rw [edn, ebt])
theorem me_Eq.aw_ {a b : me_S} (e : me_Eq a b) (p : Nat) : me_Eq (gh_aw a p) (gh_aw b p) := by
  have e0 := e
  obtain ⟨ew, eh, erp, ewy, ebt, enp, eow, ekd, est, esr, egl, ewd, ebo, ept, etk, ehd, ema, edn, epl, ead, ean, eq, ero, erh, erg, elr, efp, efl, eaw, emm, esk, edp, enm, enu, eln, eca, eco, efa, ent, etn, etr⟩ := e
  exact (e0.s_mm (by rw [emm, egl, epl, ead])).s_ow (by rw [eow])
theorem me_Eq.aq {a b : me_S} (e : me_Eq a b) (p : Nat) : me_Eq (gh_aq a p) (gh_aq b p) := by
  have e0 := e
  obtain ⟨ew, eh, erp, ewy, ebt, enp, eow, ekd, est, esr, egl, ewd, ebo, ept, etk, ehd, ema, edn, epl, ead, ean, eq, ero, erh, erg, elr, efp, efl, eaw, emm, esk, edp, enm, enu, eln, eca, eco, efa, ent, etn, etr⟩ := e
  have E := (e0.aw_ p).mk_ (k := 97) (s := a.gl p) (g := a.sr p) (w := a.mm (a.gl p) (a.pl p)) (b0 := 1)
  unfold gh_aq
  rw [← egl, ← esr, ← emm, ← epl, ← enp]
  exact E.s_an (by rw [E.an])
