/-! WHAT ALWAYS HOLDS of the ghost state -/
/-- steps between two nodes of a net of width w -/
def me_ds (w x y : Nat) : Nat := ((x % w - y % w) + (y % w - x % w)) + ((x / w - y / w) + (y / w - x / w))
/-- the channel of a kind -/
def me_ch (k : Int32) : Nat := if k = 97 then 1 else 0
def me_op (d : Nat) : Nat := match d with
  | 0 => 1
  | 1 => 0
  | 2 => 3
  | 3 => 2
  | _ => 0
/-- the row at a node, by channel and side -/
def me_rw (n c k : Nat) : Nat := 10 * n + 5 * c + k
/-- the core row of a packet -/
def me_cr (kd : Nat → Int32) (sr : Nat → Nat) (p : Nat) : Nat := 10 * sr p + 5 * me_ch (kd p) + 4
def me_I0 (w h rp : Nat) (wy : Int32) (fl : Nat → Nat → Int32) : Prop :=
  (1 ≤ w ∧ w ≤ 4) ∧
  (1 ≤ h ∧ h ≤ 4) ∧
  (1 ≤ rp ∧ rp ≤ 4) ∧
  (wy = 120 ∨ wy = 121 ∨ wy = 116) ∧
  (∀ n d, fl n d = 0 ∨ fl n d = 1) ∧
  (∀ n d n', d < 4 → n < w * h → me_nb w h n d = some n' → fl n' (me_op d) = fl n d)
theorem me_I0.iw {w h rp : Nat} {wy : Int32} {fl : Nat → Nat → Int32} (hyp : me_I0 w h rp wy fl) : 1 ≤ w ∧ w ≤ 4 := hyp.1
theorem me_I0.ih {w h rp : Nat} {wy : Int32} {fl : Nat → Nat → Int32} (hyp : me_I0 w h rp wy fl) : 1 ≤ h ∧ h ≤ 4 := hyp.2.1
theorem me_I0.irp {w h rp : Nat} {wy : Int32} {fl : Nat → Nat → Int32} (hyp : me_I0 w h rp wy fl) : 1 ≤ rp ∧ rp ≤ 4 := hyp.2.2.1
theorem me_I0.iwy {w h rp : Nat} {wy : Int32} {fl : Nat → Nat → Int32} (hyp : me_I0 w h rp wy fl) : wy = 120 ∨ wy = 121 ∨ wy = 116 := hyp.2.2.2.1
theorem me_I0.ifl {w h rp : Nat} {wy : Int32} {fl : Nat → Nat → Int32} (hyp : me_I0 w h rp wy fl) : ∀ n d, fl n d = 0 ∨ fl n d = 1 := hyp.2.2.2.2.1
theorem me_I0.ifs {w h rp : Nat} {wy : Int32} {fl : Nat → Nat → Int32} (hyp : me_I0 w h rp wy fl) : ∀ n d n', d < 4 → n < w * h → me_nb w h n d = some n' → fl n' (me_op d) = fl n d := hyp.2.2.2.2.2
theorem me_I0.mk {w h rp : Nat} {wy : Int32} {fl : Nat → Nat → Int32} (iw : 1 ≤ w ∧ w ≤ 4) (ih : 1 ≤ h ∧ h ≤ 4) (irp : 1 ≤ rp ∧ rp ≤ 4) (iwy : wy = 120 ∨ wy = 121 ∨ wy = 116) (ifl : ∀ n d, fl n d = 0 ∨ fl n d = 1) (ifs : ∀ n d n', d < 4 → n < w * h → me_nb w h n d = some n' → fl n' (me_op d) = fl n d) : me_I0 w h rp wy fl := ⟨iw, ih, irp, iwy, ifl, ifs⟩
def me_qs (kd st : Nat → Int32) (i : Nat) : Bool := decide (kd i = 113) && (decide (st i = 115) || decide (st i = 119))
def me_IP (w h np ow bt : Nat) (kd st : Nat → Int32) (sr gl bo pt tk ma : Nat → Nat) (dn : Nat → Option Nat) (pl : Nat → Nat) (an : Nat → Option Nat) : Prop :=
  (np + ow ≤ 200) ∧
  (ow = (List.range np).countP (me_qs kd st)) ∧
  (∀ i, i < np → kd i = 109 ∨ kd i = 113 ∨ kd i = 97) ∧
  (∀ i, i < np → st i = 115 ∨ st i = 119 ∨ st i = 100 ∨ st i = 114 ∨ st i = 108) ∧
  (∀ i, i < np → sr i < w * h) ∧
  (∀ i, i < np → gl i < w * h) ∧
  (∀ i, i < np → 1 ≤ bo i ∧ bo i ≤ 4) ∧
  (∀ i, i < np → tk i ≤ pt i ∧ pt i ≤ bo i + 1) ∧
  (∀ i, i < np → ma i ≤ bt) ∧
  (∀ i, i < np → st i = 100 ∨ st i = 114 → ∃ t, dn i = some t ∧ ma i ≤ t ∧ t ≤ bt + 1) ∧
  (∀ i t, i < np → dn i = some t → t ≤ bt + 1) ∧
  (∀ i, i < np → pl i < 8) ∧
  (∀ i j, i < np → an i = some j → j < np) ∧
  (∀ i, i < np → st i = 115 → pt i = 0) ∧
  (∀ i, i < np → st i = 119 → 0 < pt i) ∧
  (∀ i, i < np → st i = 100 ∨ st i = 114 → tk i = bo i + 1)
theorem me_IP.ile {w h np ow bt : Nat} {kd st : Nat → Int32} {sr gl bo pt tk ma : Nat → Nat} {dn : Nat → Option Nat} {pl : Nat → Nat} {an : Nat → Option Nat} (hyp : me_IP w h np ow bt kd st sr gl bo pt tk ma dn pl an) : np + ow ≤ 200 := hyp.1
theorem me_IP.iow {w h np ow bt : Nat} {kd st : Nat → Int32} {sr gl bo pt tk ma : Nat → Nat} {dn : Nat → Option Nat} {pl : Nat → Nat} {an : Nat → Option Nat} (hyp : me_IP w h np ow bt kd st sr gl bo pt tk ma dn pl an) : ow = (List.range np).countP (me_qs kd st) := hyp.2.1
theorem me_IP.ikd {w h np ow bt : Nat} {kd st : Nat → Int32} {sr gl bo pt tk ma : Nat → Nat} {dn : Nat → Option Nat} {pl : Nat → Nat} {an : Nat → Option Nat} (hyp : me_IP w h np ow bt kd st sr gl bo pt tk ma dn pl an) : ∀ i, i < np → kd i = 109 ∨ kd i = 113 ∨ kd i = 97 := hyp.2.2.1
theorem me_IP.ist {w h np ow bt : Nat} {kd st : Nat → Int32} {sr gl bo pt tk ma : Nat → Nat} {dn : Nat → Option Nat} {pl : Nat → Nat} {an : Nat → Option Nat} (hyp : me_IP w h np ow bt kd st sr gl bo pt tk ma dn pl an) : ∀ i, i < np → st i = 115 ∨ st i = 119 ∨ st i = 100 ∨ st i = 114 ∨ st i = 108 := hyp.2.2.2.1
theorem me_IP.isr {w h np ow bt : Nat} {kd st : Nat → Int32} {sr gl bo pt tk ma : Nat → Nat} {dn : Nat → Option Nat} {pl : Nat → Nat} {an : Nat → Option Nat} (hyp : me_IP w h np ow bt kd st sr gl bo pt tk ma dn pl an) : ∀ i, i < np → sr i < w * h := hyp.2.2.2.2.1
theorem me_IP.igl {w h np ow bt : Nat} {kd st : Nat → Int32} {sr gl bo pt tk ma : Nat → Nat} {dn : Nat → Option Nat} {pl : Nat → Nat} {an : Nat → Option Nat} (hyp : me_IP w h np ow bt kd st sr gl bo pt tk ma dn pl an) : ∀ i, i < np → gl i < w * h := hyp.2.2.2.2.2.1
theorem me_IP.ibo {w h np ow bt : Nat} {kd st : Nat → Int32} {sr gl bo pt tk ma : Nat → Nat} {dn : Nat → Option Nat} {pl : Nat → Nat} {an : Nat → Option Nat} (hyp : me_IP w h np ow bt kd st sr gl bo pt tk ma dn pl an) : ∀ i, i < np → 1 ≤ bo i ∧ bo i ≤ 4 := hyp.2.2.2.2.2.2.1
theorem me_IP.ipt {w h np ow bt : Nat} {kd st : Nat → Int32} {sr gl bo pt tk ma : Nat → Nat} {dn : Nat → Option Nat} {pl : Nat → Nat} {an : Nat → Option Nat} (hyp : me_IP w h np ow bt kd st sr gl bo pt tk ma dn pl an) : ∀ i, i < np → tk i ≤ pt i ∧ pt i ≤ bo i + 1 := hyp.2.2.2.2.2.2.2.1
theorem me_IP.ima {w h np ow bt : Nat} {kd st : Nat → Int32} {sr gl bo pt tk ma : Nat → Nat} {dn : Nat → Option Nat} {pl : Nat → Nat} {an : Nat → Option Nat} (hyp : me_IP w h np ow bt kd st sr gl bo pt tk ma dn pl an) : ∀ i, i < np → ma i ≤ bt := hyp.2.2.2.2.2.2.2.2.1
theorem me_IP.idn {w h np ow bt : Nat} {kd st : Nat → Int32} {sr gl bo pt tk ma : Nat → Nat} {dn : Nat → Option Nat} {pl : Nat → Nat} {an : Nat → Option Nat} (hyp : me_IP w h np ow bt kd st sr gl bo pt tk ma dn pl an) : ∀ i, i < np → st i = 100 ∨ st i = 114 → ∃ t, dn i = some t ∧ ma i ≤ t ∧ t ≤ bt + 1 := hyp.2.2.2.2.2.2.2.2.2.1
theorem me_IP.idm {w h np ow bt : Nat} {kd st : Nat → Int32} {sr gl bo pt tk ma : Nat → Nat} {dn : Nat → Option Nat} {pl : Nat → Nat} {an : Nat → Option Nat} (hyp : me_IP w h np ow bt kd st sr gl bo pt tk ma dn pl an) : ∀ i t, i < np → dn i = some t → t ≤ bt + 1 := hyp.2.2.2.2.2.2.2.2.2.2.1
theorem me_IP.ipl {w h np ow bt : Nat} {kd st : Nat → Int32} {sr gl bo pt tk ma : Nat → Nat} {dn : Nat → Option Nat} {pl : Nat → Nat} {an : Nat → Option Nat} (hyp : me_IP w h np ow bt kd st sr gl bo pt tk ma dn pl an) : ∀ i, i < np → pl i < 8 := hyp.2.2.2.2.2.2.2.2.2.2.2.1
theorem me_IP.ian {w h np ow bt : Nat} {kd st : Nat → Int32} {sr gl bo pt tk ma : Nat → Nat} {dn : Nat → Option Nat} {pl : Nat → Nat} {an : Nat → Option Nat} (hyp : me_IP w h np ow bt kd st sr gl bo pt tk ma dn pl an) : ∀ i j, i < np → an i = some j → j < np := hyp.2.2.2.2.2.2.2.2.2.2.2.2.1
theorem me_IP.is0 {w h np ow bt : Nat} {kd st : Nat → Int32} {sr gl bo pt tk ma : Nat → Nat} {dn : Nat → Option Nat} {pl : Nat → Nat} {an : Nat → Option Nat} (hyp : me_IP w h np ow bt kd st sr gl bo pt tk ma dn pl an) : ∀ i, i < np → st i = 115 → pt i = 0 := hyp.2.2.2.2.2.2.2.2.2.2.2.2.2.1
theorem me_IP.is1 {w h np ow bt : Nat} {kd st : Nat → Int32} {sr gl bo pt tk ma : Nat → Nat} {dn : Nat → Option Nat} {pl : Nat → Nat} {an : Nat → Option Nat} (hyp : me_IP w h np ow bt kd st sr gl bo pt tk ma dn pl an) : ∀ i, i < np → st i = 119 → 0 < pt i := hyp.2.2.2.2.2.2.2.2.2.2.2.2.2.2.1
theorem me_IP.is2 {w h np ow bt : Nat} {kd st : Nat → Int32} {sr gl bo pt tk ma : Nat → Nat} {dn : Nat → Option Nat} {pl : Nat → Nat} {an : Nat → Option Nat} (hyp : me_IP w h np ow bt kd st sr gl bo pt tk ma dn pl an) : ∀ i, i < np → st i = 100 ∨ st i = 114 → tk i = bo i + 1 := hyp.2.2.2.2.2.2.2.2.2.2.2.2.2.2.2
theorem me_IP.mk {w h np ow bt : Nat} {kd st : Nat → Int32} {sr gl bo pt tk ma : Nat → Nat} {dn : Nat → Option Nat} {pl : Nat → Nat} {an : Nat → Option Nat} (ile : np + ow ≤ 200) (iow : ow = (List.range np).countP (me_qs kd st)) (ikd : ∀ i, i < np → kd i = 109 ∨ kd i = 113 ∨ kd i = 97) (ist : ∀ i, i < np → st i = 115 ∨ st i = 119 ∨ st i = 100 ∨ st i = 114 ∨ st i = 108) (isr : ∀ i, i < np → sr i < w * h) (igl : ∀ i, i < np → gl i < w * h) (ibo : ∀ i, i < np → 1 ≤ bo i ∧ bo i ≤ 4) (ipt : ∀ i, i < np → tk i ≤ pt i ∧ pt i ≤ bo i + 1) (ima : ∀ i, i < np → ma i ≤ bt) (idn : ∀ i, i < np → st i = 100 ∨ st i = 114 → ∃ t, dn i = some t ∧ ma i ≤ t ∧ t ≤ bt + 1) (idm : ∀ i t, i < np → dn i = some t → t ≤ bt + 1) (ipl : ∀ i, i < np → pl i < 8) (ian : ∀ i j, i < np → an i = some j → j < np) (is0 : ∀ i, i < np → st i = 115 → pt i = 0) (is1 : ∀ i, i < np → st i = 119 → 0 < pt i) (is2 : ∀ i, i < np → st i = 100 ∨ st i = 114 → tk i = bo i + 1) : me_IP w h np ow bt kd st sr gl bo pt tk ma dn pl an := ⟨ile, iow, ikd, ist, isr, igl, ibo, ipt, ima, idn, idm, ipl, ian, is0, is1, is2⟩
/-- names of instructions, and what their numbers may be -/
def me_iok (w h : Nat) (nm nu : Int32) : Prop :=
  (nm = 112 ∨ nm = 43 ∨ nm = 45 ∨ nm = 42 ∨ nm = 98 ∨ nm = 104) ∨ ((nm = 108 ∨ nm = 115) ∧ ∃ x, x < 8 ∧ nu = me_N x) ∨ ((nm = 100 ∨ nm = 114) ∧ ∃ x, x < w * h ∧ nu = me_N x) ∨ (nm = 106 ∧ ∃ x, x < 12 ∧ nu = me_N x)
def me_IC (w h : Nat) (dp ln ca : Nat → Nat) (co fa : Nat → Int32) (nm nu : Nat → Nat → Int32) : Prop :=
  (∀ n, dp n ≤ 6) ∧
  (∀ n, ln n ≤ 12) ∧
  (∀ n, ca n ≤ 12) ∧
  (∀ n, co n = 45 ∨ co n = 114 ∨ co n = 119 ∨ co n = 98 ∨ co n = 104 ∨ co n = 120) ∧
  (∀ n, fa n = 45 ∨ fa n = 106 ∨ fa n = 117 ∨ fa n = 111 ∨ fa n = 112) ∧
  (∀ n j, j < ln n → me_iok w h (nm n j) (nu n j)) ∧
  (∀ n, co n = 119 → ca n < ln n ∧ nm n (ca n) = 114) ∧
  (∀ n, co n = 98 → ca n < ln n)
theorem me_IC.idp {w h : Nat} {dp ln ca : Nat → Nat} {co fa : Nat → Int32} {nm nu : Nat → Nat → Int32} (hyp : me_IC w h dp ln ca co fa nm nu) : ∀ n, dp n ≤ 6 := hyp.1
theorem me_IC.iln {w h : Nat} {dp ln ca : Nat → Nat} {co fa : Nat → Int32} {nm nu : Nat → Nat → Int32} (hyp : me_IC w h dp ln ca co fa nm nu) : ∀ n, ln n ≤ 12 := hyp.2.1
theorem me_IC.ica {w h : Nat} {dp ln ca : Nat → Nat} {co fa : Nat → Int32} {nm nu : Nat → Nat → Int32} (hyp : me_IC w h dp ln ca co fa nm nu) : ∀ n, ca n ≤ 12 := hyp.2.2.1
theorem me_IC.ico {w h : Nat} {dp ln ca : Nat → Nat} {co fa : Nat → Int32} {nm nu : Nat → Nat → Int32} (hyp : me_IC w h dp ln ca co fa nm nu) : ∀ n, co n = 45 ∨ co n = 114 ∨ co n = 119 ∨ co n = 98 ∨ co n = 104 ∨ co n = 120 := hyp.2.2.2.1
theorem me_IC.ifa {w h : Nat} {dp ln ca : Nat → Nat} {co fa : Nat → Int32} {nm nu : Nat → Nat → Int32} (hyp : me_IC w h dp ln ca co fa nm nu) : ∀ n, fa n = 45 ∨ fa n = 106 ∨ fa n = 117 ∨ fa n = 111 ∨ fa n = 112 := hyp.2.2.2.2.1
theorem me_IC.iok {w h : Nat} {dp ln ca : Nat → Nat} {co fa : Nat → Int32} {nm nu : Nat → Nat → Int32} (hyp : me_IC w h dp ln ca co fa nm nu) : ∀ n j, j < ln n → me_iok w h (nm n j) (nu n j) := hyp.2.2.2.2.2.1
theorem me_IC.iwt {w h : Nat} {dp ln ca : Nat → Nat} {co fa : Nat → Int32} {nm nu : Nat → Nat → Int32} (hyp : me_IC w h dp ln ca co fa nm nu) : ∀ n, co n = 119 → ca n < ln n ∧ nm n (ca n) = 114 := hyp.2.2.2.2.2.2.1
theorem me_IC.ibt {w h : Nat} {dp ln ca : Nat → Nat} {co fa : Nat → Int32} {nm nu : Nat → Nat → Int32} (hyp : me_IC w h dp ln ca co fa nm nu) : ∀ n, co n = 98 → ca n < ln n := hyp.2.2.2.2.2.2.2
theorem me_IC.mk {w h : Nat} {dp ln ca : Nat → Nat} {co fa : Nat → Int32} {nm nu : Nat → Nat → Int32} (idp : ∀ n, dp n ≤ 6) (iln : ∀ n, ln n ≤ 12) (ica : ∀ n, ca n ≤ 12) (ico : ∀ n, co n = 45 ∨ co n = 114 ∨ co n = 119 ∨ co n = 98 ∨ co n = 104 ∨ co n = 120) (ifa : ∀ n, fa n = 45 ∨ fa n = 106 ∨ fa n = 117 ∨ fa n = 111 ∨ fa n = 112) (iok : ∀ n j, j < ln n → me_iok w h (nm n j) (nu n j)) (iwt : ∀ n, co n = 119 → ca n < ln n ∧ nm n (ca n) = 114) (ibt : ∀ n, co n = 98 → ca n < ln n) : me_IC w h dp ln ca co fa nm nu := ⟨idp, iln, ica, ico, ifa, iok, iwt, ibt⟩
def me_IT (w h nt : Nat) (tn : Nat → Nat) (tr : Nat → Nat → Nat) : Prop :=
  (nt ≤ 8) ∧
  (∀ i, i < nt → tn i < w * h) ∧
  (∀ i j, tr i j = tr j i) ∧
  (∀ i j, tr i j ≤ 99)
theorem me_IT.int {w h nt : Nat} {tn : Nat → Nat} {tr : Nat → Nat → Nat} (hyp : me_IT w h nt tn tr) : nt ≤ 8 := hyp.1
theorem me_IT.itn {w h nt : Nat} {tn : Nat → Nat} {tr : Nat → Nat → Nat} (hyp : me_IT w h nt tn tr) : ∀ i, i < nt → tn i < w * h := hyp.2.1
theorem me_IT.isy {w h nt : Nat} {tn : Nat → Nat} {tr : Nat → Nat → Nat} (hyp : me_IT w h nt tn tr) : ∀ i j, tr i j = tr j i := hyp.2.2.1
theorem me_IT.ile {w h nt : Nat} {tn : Nat → Nat} {tr : Nat → Nat → Nat} (hyp : me_IT w h nt tn tr) : ∀ i j, tr i j ≤ 99 := hyp.2.2.2
theorem me_IT.mk {w h nt : Nat} {tn : Nat → Nat} {tr : Nat → Nat → Nat} (int : nt ≤ 8) (itn : ∀ i, i < nt → tn i < w * h) (isy : ∀ i j, tr i j = tr j i) (ile : ∀ i j, tr i j ≤ 99) : me_IT w h nt tn tr := ⟨int, itn, isy, ile⟩
/-- the way of row r for the packet p is known and leads on -/
def me_Vd (w h : Nat) (kd : Nat → Int32) (sr gl : Nat → Nat) (ro rh : Nat → Option Nat) (r p : Nat) : Prop :=
  (rh r = some 4 ∧ r / 10 = gl p) ∨ ∃ d n', d < 4 ∧ rh r = some d ∧ me_nb w h (r / 10) d = some n' ∧ ro (me_rw n' (me_ch (kd p)) (me_op d)) = some p ∧ me_ds w (sr p) n' = me_ds w (sr p) (r / 10) + 1
def me_Ac (kd st : Nat → Int32) (sr bo pt : Nat → Nat) (q : Nat → List (Nat × Nat × Nat)) (ro : Nat → Option Nat) (np r p : Nat) : Prop :=
  (∃ e ∈ q r, e.1 = p) ∨ (r = me_cr kd sr p ∧ p < np ∧ st p = 119 ∧ pt p ≤ bo p) ∨ ro r = some p
/-- packets as worms -/
def me_Wm (w h np : Nat) (kd st : Nat → Int32) (sr gl bo pt tk : Nat → Nat) (hd : Nat → Option Nat) (q : Nat → List (Nat × Nat × Nat)) (ro rh : Nat → Option Nat) (aw : Nat → Bool) : Prop :=
  (∀ r, (q r).length ≤ 4) ∧
  (∀ r e, e ∈ q r → r / 10 < w * h ∧ e.1 < np ∧ st e.1 = 119 ∧ me_ch (kd e.1) = r % 10 / 5 ∧ tk e.1 ≤ e.2.1 ∧ e.2.1 < pt e.1 ∧ me_ds w (sr e.1) (r / 10) + me_ds w (r / 10) (gl e.1) = me_ds w (sr e.1) (gl e.1)) ∧
  (∀ r e, e ∈ q r → ¬ r % 5 = 4 → ro r = some e.1) ∧
  (∀ r, r % 5 = 4 → ro r = none) ∧
  (∀ r e, e ∈ q r → r % 5 = 4 → sr e.1 = r / 10) ∧
  (∀ r p, ro r = some p → r / 10 < w * h ∧ p < np ∧ st p = 119 ∧ me_ch (kd p) = r % 10 / 5 ∧ me_ds w (sr p) (r / 10) + me_ds w (r / 10) (gl p) = me_ds w (sr p) (gl p) ∧ 1 ≤ me_ds w (sr p) (r / 10)) ∧
  (∀ r r' p, ro r = some p → ro r' = some p → me_ds w (sr p) (r / 10) = me_ds w (sr p) (r' / 10) → r = r') ∧
  (∀ r, (q r).Pairwise (fun e e' => e.1 < e'.1 ∨ (e.1 = e'.1 ∧ e.2.1 < e'.2.1))) ∧
  (∀ r r' e e', e ∈ q r → e' ∈ q r' → e.1 = e'.1 → e.2.1 < e'.2.1 → r = r' ∨ me_ds w (sr e.1) (r' / 10) < me_ds w (sr e.1) (r / 10)) ∧
  (∀ r r' e e', e ∈ q r → e' ∈ q r' → e.1 = e'.1 → e.2.1 = e'.2.1 → r = r') ∧
  (∀ r p, me_Ac kd st sr bo pt q ro np r p → (∀ c, (p, 0, c) ∉ q r) → me_Vd w h kd sr gl ro rh r p) ∧
  (∀ r r' p c, (p, bo p, c) ∈ q r → ro r' = some p → me_ds w (sr p) (r / 10) ≤ me_ds w (sr p) (r' / 10)) ∧
  (∀ r r' p c, (p, 0, c) ∈ q r → ro r' = some p → me_ds w (sr p) (r' / 10) ≤ me_ds w (sr p) (r / 10)) ∧
  (∀ r e p, e ∈ q r → r % 5 = 4 → e.1 < p → p < np → st p = 119 → me_cr kd sr p = r → ∃ c, (p, 0, c) ∈ q r) ∧
  (∀ p, p < np → (∀ n, hd p = some n → ∃ r c, (p, 0, c) ∈ q r ∧ r / 10 = n) ∧ (hd p = none → ∀ r c, (p, 0, c) ∉ q r)) ∧
  (∀ p i, p < np → st p = 119 → tk p ≤ i → i < pt p → ∃ r c, (p, i, c) ∈ q r) ∧
  (∀ p, p < np → ¬ st p = 108 → ((List.range 160).map (fun r => (q r).countP (fun e => decide (e.1 = p)))).sum = pt p - tk p) ∧
  (∀ p j, p < np → 0 < pt p → j < p → sr j = sr p → me_ch (kd j) = me_ch (kd p) → pt j = bo j + 1 ∨ st j = 108) ∧
  (∀ r, aw (r / 10) = false → q r = [] ∧ ro r = none)
theorem me_Wm.in4 {w h np : Nat} {kd st : Nat → Int32} {sr gl bo pt tk : Nat → Nat} {hd : Nat → Option Nat} {q : Nat → List (Nat × Nat × Nat)} {ro rh : Nat → Option Nat} {aw : Nat → Bool} (hyp : me_Wm w h np kd st sr gl bo pt tk hd q ro rh aw) : ∀ r, (q r).length ≤ 4 := hyp.1
theorem me_Wm.iel {w h np : Nat} {kd st : Nat → Int32} {sr gl bo pt tk : Nat → Nat} {hd : Nat → Option Nat} {q : Nat → List (Nat × Nat × Nat)} {ro rh : Nat → Option Nat} {aw : Nat → Bool} (hyp : me_Wm w h np kd st sr gl bo pt tk hd q ro rh aw) : ∀ r e, e ∈ q r → r / 10 < w * h ∧ e.1 < np ∧ st e.1 = 119 ∧ me_ch (kd e.1) = r % 10 / 5 ∧ tk e.1 ≤ e.2.1 ∧ e.2.1 < pt e.1 ∧ me_ds w (sr e.1) (r / 10) + me_ds w (r / 10) (gl e.1) = me_ds w (sr e.1) (gl e.1) := hyp.2.1
theorem me_Wm.idi {w h np : Nat} {kd st : Nat → Int32} {sr gl bo pt tk : Nat → Nat} {hd : Nat → Option Nat} {q : Nat → List (Nat × Nat × Nat)} {ro rh : Nat → Option Nat} {aw : Nat → Bool} (hyp : me_Wm w h np kd st sr gl bo pt tk hd q ro rh aw) : ∀ r e, e ∈ q r → ¬ r % 5 = 4 → ro r = some e.1 := hyp.2.2.1
theorem me_Wm.icr {w h np : Nat} {kd st : Nat → Int32} {sr gl bo pt tk : Nat → Nat} {hd : Nat → Option Nat} {q : Nat → List (Nat × Nat × Nat)} {ro rh : Nat → Option Nat} {aw : Nat → Bool} (hyp : me_Wm w h np kd st sr gl bo pt tk hd q ro rh aw) : ∀ r, r % 5 = 4 → ro r = none := hyp.2.2.2.1
theorem me_Wm.ice {w h np : Nat} {kd st : Nat → Int32} {sr gl bo pt tk : Nat → Nat} {hd : Nat → Option Nat} {q : Nat → List (Nat × Nat × Nat)} {ro rh : Nat → Option Nat} {aw : Nat → Bool} (hyp : me_Wm w h np kd st sr gl bo pt tk hd q ro rh aw) : ∀ r e, e ∈ q r → r % 5 = 4 → sr e.1 = r / 10 := hyp.2.2.2.2.1
theorem me_Wm.iow {w h np : Nat} {kd st : Nat → Int32} {sr gl bo pt tk : Nat → Nat} {hd : Nat → Option Nat} {q : Nat → List (Nat × Nat × Nat)} {ro rh : Nat → Option Nat} {aw : Nat → Bool} (hyp : me_Wm w h np kd st sr gl bo pt tk hd q ro rh aw) : ∀ r p, ro r = some p → r / 10 < w * h ∧ p < np ∧ st p = 119 ∧ me_ch (kd p) = r % 10 / 5 ∧ me_ds w (sr p) (r / 10) + me_ds w (r / 10) (gl p) = me_ds w (sr p) (gl p) ∧ 1 ≤ me_ds w (sr p) (r / 10) := hyp.2.2.2.2.2.1
theorem me_Wm.iun {w h np : Nat} {kd st : Nat → Int32} {sr gl bo pt tk : Nat → Nat} {hd : Nat → Option Nat} {q : Nat → List (Nat × Nat × Nat)} {ro rh : Nat → Option Nat} {aw : Nat → Bool} (hyp : me_Wm w h np kd st sr gl bo pt tk hd q ro rh aw) : ∀ r r' p, ro r = some p → ro r' = some p → me_ds w (sr p) (r / 10) = me_ds w (sr p) (r' / 10) → r = r' := hyp.2.2.2.2.2.2.1
theorem me_Wm.iso {w h np : Nat} {kd st : Nat → Int32} {sr gl bo pt tk : Nat → Nat} {hd : Nat → Option Nat} {q : Nat → List (Nat × Nat × Nat)} {ro rh : Nat → Option Nat} {aw : Nat → Bool} (hyp : me_Wm w h np kd st sr gl bo pt tk hd q ro rh aw) : ∀ r, (q r).Pairwise (fun e e' => e.1 < e'.1 ∨ (e.1 = e'.1 ∧ e.2.1 < e'.2.1)) := hyp.2.2.2.2.2.2.2.1
theorem me_Wm.ifo {w h np : Nat} {kd st : Nat → Int32} {sr gl bo pt tk : Nat → Nat} {hd : Nat → Option Nat} {q : Nat → List (Nat × Nat × Nat)} {ro rh : Nat → Option Nat} {aw : Nat → Bool} (hyp : me_Wm w h np kd st sr gl bo pt tk hd q ro rh aw) : ∀ r r' e e', e ∈ q r → e' ∈ q r' → e.1 = e'.1 → e.2.1 < e'.2.1 → r = r' ∨ me_ds w (sr e.1) (r' / 10) < me_ds w (sr e.1) (r / 10) := hyp.2.2.2.2.2.2.2.2.1
theorem me_Wm.ion {w h np : Nat} {kd st : Nat → Int32} {sr gl bo pt tk : Nat → Nat} {hd : Nat → Option Nat} {q : Nat → List (Nat × Nat × Nat)} {ro rh : Nat → Option Nat} {aw : Nat → Bool} (hyp : me_Wm w h np kd st sr gl bo pt tk hd q ro rh aw) : ∀ r r' e e', e ∈ q r → e' ∈ q r' → e.1 = e'.1 → e.2.1 = e'.2.1 → r = r' := hyp.2.2.2.2.2.2.2.2.2.1
theorem me_Wm.ivd {w h np : Nat} {kd st : Nat → Int32} {sr gl bo pt tk : Nat → Nat} {hd : Nat → Option Nat} {q : Nat → List (Nat × Nat × Nat)} {ro rh : Nat → Option Nat} {aw : Nat → Bool} (hyp : me_Wm w h np kd st sr gl bo pt tk hd q ro rh aw) : ∀ r p, me_Ac kd st sr bo pt q ro np r p → (∀ c, (p, 0, c) ∉ q r) → me_Vd w h kd sr gl ro rh r p := hyp.2.2.2.2.2.2.2.2.2.2.1
theorem me_Wm.itl {w h np : Nat} {kd st : Nat → Int32} {sr gl bo pt tk : Nat → Nat} {hd : Nat → Option Nat} {q : Nat → List (Nat × Nat × Nat)} {ro rh : Nat → Option Nat} {aw : Nat → Bool} (hyp : me_Wm w h np kd st sr gl bo pt tk hd q ro rh aw) : ∀ r r' p c, (p, bo p, c) ∈ q r → ro r' = some p → me_ds w (sr p) (r / 10) ≤ me_ds w (sr p) (r' / 10) := hyp.2.2.2.2.2.2.2.2.2.2.2.1
theorem me_Wm.ihm {w h np : Nat} {kd st : Nat → Int32} {sr gl bo pt tk : Nat → Nat} {hd : Nat → Option Nat} {q : Nat → List (Nat × Nat × Nat)} {ro rh : Nat → Option Nat} {aw : Nat → Bool} (hyp : me_Wm w h np kd st sr gl bo pt tk hd q ro rh aw) : ∀ r r' p c, (p, 0, c) ∈ q r → ro r' = some p → me_ds w (sr p) (r' / 10) ≤ me_ds w (sr p) (r / 10) := hyp.2.2.2.2.2.2.2.2.2.2.2.2.1
theorem me_Wm.ifi {w h np : Nat} {kd st : Nat → Int32} {sr gl bo pt tk : Nat → Nat} {hd : Nat → Option Nat} {q : Nat → List (Nat × Nat × Nat)} {ro rh : Nat → Option Nat} {aw : Nat → Bool} (hyp : me_Wm w h np kd st sr gl bo pt tk hd q ro rh aw) : ∀ r e p, e ∈ q r → r % 5 = 4 → e.1 < p → p < np → st p = 119 → me_cr kd sr p = r → ∃ c, (p, 0, c) ∈ q r := hyp.2.2.2.2.2.2.2.2.2.2.2.2.2.1
theorem me_Wm.ihd {w h np : Nat} {kd st : Nat → Int32} {sr gl bo pt tk : Nat → Nat} {hd : Nat → Option Nat} {q : Nat → List (Nat × Nat × Nat)} {ro rh : Nat → Option Nat} {aw : Nat → Bool} (hyp : me_Wm w h np kd st sr gl bo pt tk hd q ro rh aw) : ∀ p, p < np → (∀ n, hd p = some n → ∃ r c, (p, 0, c) ∈ q r ∧ r / 10 = n) ∧ (hd p = none → ∀ r c, (p, 0, c) ∉ q r) := hyp.2.2.2.2.2.2.2.2.2.2.2.2.2.2.1
theorem me_Wm.iex {w h np : Nat} {kd st : Nat → Int32} {sr gl bo pt tk : Nat → Nat} {hd : Nat → Option Nat} {q : Nat → List (Nat × Nat × Nat)} {ro rh : Nat → Option Nat} {aw : Nat → Bool} (hyp : me_Wm w h np kd st sr gl bo pt tk hd q ro rh aw) : ∀ p i, p < np → st p = 119 → tk p ≤ i → i < pt p → ∃ r c, (p, i, c) ∈ q r := hyp.2.2.2.2.2.2.2.2.2.2.2.2.2.2.2.1
theorem me_Wm.ict {w h np : Nat} {kd st : Nat → Int32} {sr gl bo pt tk : Nat → Nat} {hd : Nat → Option Nat} {q : Nat → List (Nat × Nat × Nat)} {ro rh : Nat → Option Nat} {aw : Nat → Bool} (hyp : me_Wm w h np kd st sr gl bo pt tk hd q ro rh aw) : ∀ p, p < np → ¬ st p = 108 → ((List.range 160).map (fun r => (q r).countP (fun e => decide (e.1 = p)))).sum = pt p - tk p := hyp.2.2.2.2.2.2.2.2.2.2.2.2.2.2.2.2.1
theorem me_Wm.ifp {w h np : Nat} {kd st : Nat → Int32} {sr gl bo pt tk : Nat → Nat} {hd : Nat → Option Nat} {q : Nat → List (Nat × Nat × Nat)} {ro rh : Nat → Option Nat} {aw : Nat → Bool} (hyp : me_Wm w h np kd st sr gl bo pt tk hd q ro rh aw) : ∀ p j, p < np → 0 < pt p → j < p → sr j = sr p → me_ch (kd j) = me_ch (kd p) → pt j = bo j + 1 ∨ st j = 108 := hyp.2.2.2.2.2.2.2.2.2.2.2.2.2.2.2.2.2.1
theorem me_Wm.isl {w h np : Nat} {kd st : Nat → Int32} {sr gl bo pt tk : Nat → Nat} {hd : Nat → Option Nat} {q : Nat → List (Nat × Nat × Nat)} {ro rh : Nat → Option Nat} {aw : Nat → Bool} (hyp : me_Wm w h np kd st sr gl bo pt tk hd q ro rh aw) : ∀ r, aw (r / 10) = false → q r = [] ∧ ro r = none := hyp.2.2.2.2.2.2.2.2.2.2.2.2.2.2.2.2.2.2
theorem me_Wm.mk {w h np : Nat} {kd st : Nat → Int32} {sr gl bo pt tk : Nat → Nat} {hd : Nat → Option Nat} {q : Nat → List (Nat × Nat × Nat)} {ro rh : Nat → Option Nat} {aw : Nat → Bool} (in4 : ∀ r, (q r).length ≤ 4) (iel : ∀ r e, e ∈ q r → r / 10 < w * h ∧ e.1 < np ∧ st e.1 = 119 ∧ me_ch (kd e.1) = r % 10 / 5 ∧ tk e.1 ≤ e.2.1 ∧ e.2.1 < pt e.1 ∧ me_ds w (sr e.1) (r / 10) + me_ds w (r / 10) (gl e.1) = me_ds w (sr e.1) (gl e.1)) (idi : ∀ r e, e ∈ q r → ¬ r % 5 = 4 → ro r = some e.1) (icr : ∀ r, r % 5 = 4 → ro r = none) (ice : ∀ r e, e ∈ q r → r % 5 = 4 → sr e.1 = r / 10) (iow : ∀ r p, ro r = some p → r / 10 < w * h ∧ p < np ∧ st p = 119 ∧ me_ch (kd p) = r % 10 / 5 ∧ me_ds w (sr p) (r / 10) + me_ds w (r / 10) (gl p) = me_ds w (sr p) (gl p) ∧ 1 ≤ me_ds w (sr p) (r / 10)) (iun : ∀ r r' p, ro r = some p → ro r' = some p → me_ds w (sr p) (r / 10) = me_ds w (sr p) (r' / 10) → r = r') (iso : ∀ r, (q r).Pairwise (fun e e' => e.1 < e'.1 ∨ (e.1 = e'.1 ∧ e.2.1 < e'.2.1))) (ifo : ∀ r r' e e', e ∈ q r → e' ∈ q r' → e.1 = e'.1 → e.2.1 < e'.2.1 → r = r' ∨ me_ds w (sr e.1) (r' / 10) < me_ds w (sr e.1) (r / 10)) (ion : ∀ r r' e e', e ∈ q r → e' ∈ q r' → e.1 = e'.1 → e.2.1 = e'.2.1 → r = r') (ivd : ∀ r p, me_Ac kd st sr bo pt q ro np r p → (∀ c, (p, 0, c) ∉ q r) → me_Vd w h kd sr gl ro rh r p) (itl : ∀ r r' p c, (p, bo p, c) ∈ q r → ro r' = some p → me_ds w (sr p) (r / 10) ≤ me_ds w (sr p) (r' / 10)) (ihm : ∀ r r' p c, (p, 0, c) ∈ q r → ro r' = some p → me_ds w (sr p) (r' / 10) ≤ me_ds w (sr p) (r / 10)) (ifi : ∀ r e p, e ∈ q r → r % 5 = 4 → e.1 < p → p < np → st p = 119 → me_cr kd sr p = r → ∃ c, (p, 0, c) ∈ q r) (ihd : ∀ p, p < np → (∀ n, hd p = some n → ∃ r c, (p, 0, c) ∈ q r ∧ r / 10 = n) ∧ (hd p = none → ∀ r c, (p, 0, c) ∉ q r)) (iex : ∀ p i, p < np → st p = 119 → tk p ≤ i → i < pt p → ∃ r c, (p, i, c) ∈ q r) (ict : ∀ p, p < np → ¬ st p = 108 → ((List.range 160).map (fun r => (q r).countP (fun e => decide (e.1 = p)))).sum = pt p - tk p) (ifp : ∀ p j, p < np → 0 < pt p → j < p → sr j = sr p → me_ch (kd j) = me_ch (kd p) → pt j = bo j + 1 ∨ st j = 108) (isl : ∀ r, aw (r / 10) = false → q r = [] ∧ ro r = none) : me_Wm w h np kd st sr gl bo pt tk hd q ro rh aw := ⟨in4, iel, idi, icr, ice, iow, iun, iso, ifo, ion, ivd, itl, ihm, ifi, ihd, iex, ict, ifp, isl⟩
def me_IF (np : Nat) (kd st : Nat → Int32) (sr bo pt fp : Nat → Nat) : Prop := ∀ n c j, j < fp (2 * n + c) → j < np → sr j = n → me_ch (kd j) = c → pt j = bo j + 1 ∨ st j = 108
/-- all that always holds -/
def me_Iv (a : me_S) : Prop :=
  me_I0 a.w a.h a.rp a.wy a.fl ∧ me_IP a.w a.h a.np a.ow a.bt a.kd a.st a.sr a.gl a.bo a.pt a.tk a.ma a.dn a.pl a.an ∧ me_IC a.w a.h a.dp a.ln a.ca a.co a.fa a.nm a.nu ∧ me_IT a.w a.h a.nt a.tn a.tr ∧ me_Wm a.w a.h a.np a.kd a.st a.sr a.gl a.bo a.pt a.tk a.hd a.q a.ro a.rh a.aw ∧ me_IF a.np a.kd a.st a.sr a.bo a.pt a.fp ∧ (∀ b k, b < 32 → k < 5 → a.lr (5 * b + k) < 5) ∧ (∀ r, a.rg r ≤ a.bt + 1) ∧ (∀ b, a.fp b ≤ a.np)
/-- class, reference and ghost together, after T turns -/
def me_R (T : Nat) (a : me_S) (μ : me_M) : Prop := me_RC a μ ∧ me_RM a μ ∧ me_Iv a ∧ a.bt ≤ 100 * T ∧ T ≤ 600 ∧ ∀ n, n < 16 → μ 13 n 4 = 0
theorem me_R.th {T : Nat} {a : me_S} {μ : me_M} (h : me_R T a μ) (x : Int32) : me_R T a (me_up μ 36 0 42 x) := by
  obtain ⟨h1, h2, h3, h4, h5, h6⟩ := h
  refine ⟨h1.co_ (fun k hk => ?_), h2.co_ (fun k hk => ⟨fun i j e => ?_, fun e1 _ _ => ?_⟩), h3, h4, h5, fun n hn => (me_up_kn (by decide)).trans (h6 n hn)⟩
  · funext i j
    exact me_up_kn (by omega)
  · by_cases hj : j = 42
    · exact Or.inl hj
    · exact Or.inr (me_up_jn hj)
  · funext i j
    exact me_up_kn e1
theorem me_R.mono {T : Nat} {a : me_S} {μ : me_M} (h : me_R T a μ) (hT : T + 1 ≤ 600) : me_R (T + 1) a μ := by
  obtain ⟨h1, h2, h3, h4, h5, h6⟩ := h
  exact ⟨h1, h2, h3, by omega, hT, h6⟩
