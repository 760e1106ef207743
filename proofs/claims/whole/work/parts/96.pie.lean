/-! pieces, head -/
def gh_is (p : Nat) (hb : Bool) (e : Nat × Nat × Nat) : Bool := decide (e.1 = p) && (!hb || decide (e.2.1 = 0))
def gh_pc (a : me_S) (p : Nat) (hb : Bool) (r : Nat) : Nat := (a.q r).countP (gh_is p hb)
theorem gh_el {a : me_S} (hI : me_Iv a) {r : Nat} {e : Nat × Nat × Nat} (he : e ∈ a.q r) : e.1 < a.np ∧ e.2.1 < 5 := by
  have h := hI.2.2.2.2.1.iel r e he
  have h1 := hI.2.1.ibo e.1 h.2.1
  have h2 := hI.2.1.ipt e.1 h.2.1
  exact ⟨h.2.1, by omega⟩
theorem m_pa24 {a : me_S} {μ : me_M} (hM : me_RM a μ) (hI : me_Iv a) {K6 : Int32 → Int32 → Int32 → Int32 → Int32 → Option Int32} {K15 : Int32 → Int32 → Int32 → Int32 → Int32 → Int32 → Option Int32} {n c0 k p : Nat} {hb : Bool} (hn : n < 16) (hc : c0 < 2) (hk : k < 5) (hp : p < a.np) : ∀ (t : List (Nat × Nat × Nat)) (j f c : Nat), (a.q (5 * (2 * n + c0) + k)).drop j = t → t.length < f → j ≤ (a.q (5 * (2 * n + c0) + k)).length → f_M_piecesAt_h24 μ K6 K15 f (me_N n) (me_N p) (me_bi hb) (me_N c) (me_N c0) (me_N k) (me_N j) = K15 (me_N n) (me_N p) (me_bi hb) (me_N (c + t.countP (gh_is p hb))) (me_N c0) (me_N (k + 1)) := by
  have hnp := hI.n200
  have hl := me_ql a hI (5 * (2 * n + c0) + k)
  intro t
  induction t with
  | nil =>
    intro j f c h1 h2 h3
    obtain ⟨f, rfl⟩ : ∃ g, f = g + 1 := ⟨f - 1, by omega⟩
    have h4 := List.drop_eq_nil_iff.mp h1
    show f_M_piecesAt_b24 _ _ _ _ _ _ _ _ _ _ _ = _
    unfold f_M_piecesAt_b24
    rw [me_gd_n (by omega) hn, me_gd_n (by omega) hc, me_gd_n (by omega) hk, me_N_ix (by omega), me_N_ix (by omega), me_N_ix (by omega), hM.qn _ _ (by omega) hk, if_pos (by rw [me_N_le (by omega) (by omega)]; omega), me_lt_s, me_N_inc]
    rfl
  | cons e t ih =>
    intro j f c h1 h2 h3
    obtain ⟨f, rfl⟩ : ∃ g, f = g + 1 := ⟨f - 1, by omega⟩
    have hlt : j < (a.q (5 * (2 * n + c0) + k)).length := by
      rcases Nat.lt_or_ge j (a.q (5 * (2 * n + c0) + k)).length with q | q
      · exact q
      · rw [List.drop_eq_nil_iff.mpr q] at h1
        cases h1
    have h5 := List.drop_eq_getElem_cons hlt
    rw [h1] at h5
    injection h5 with h6 h7
    have hge : (a.q (5 * (2 * n + c0) + k))[j]? = some e := by rw [List.getElem?_eq_getElem hlt, ← h6]
    obtain ⟨he1, he2⟩ := gh_el hI (List.mem_of_getElem? hge)
    have hq := hM.q1 (2 * n + c0) k j e (by omega) hk hge
    have ih1 := ih (j + 1) f c h7.symm (by simp at h2; omega) (by omega)
    have ih2 := ih (j + 1) f (c + 1) h7.symm (by simp at h2; omega) (by omega)
    show f_M_piecesAt_b24 _ _ _ _ _ _ _ _ _ _ _ = _
    unfold f_M_piecesAt_b24 f_M_piecesAt_b81 f_M_piecesAt_b85
    simp only [me_gd_n (show n < 2147483648 by omega) hn, me_gd_n (show c0 < 2147483648 by omega) hc, me_gd_n (show k < 2147483648 by omega) hk, me_gd_n (show j < 2147483648 by omega) (show j < 4 by omega), me_N_ix (show n < 2147483648 by omega), me_N_ix (show c0 < 2147483648 by omega), me_N_ix (show k < 2147483648 by omega), me_N_ix (show j < 2147483648 by omega), me_lt_s, me_N_inc, Int32.add_zero]
    rw [hM.qn _ _ (by omega) hk, if_neg (by rw [me_N_le (by omega) (by omega)]; omega), hq, show me_N c + 1 = me_N (c + 1) by rw [me_N_1, me_N_add], ih1, ih2, me_N_8, me_N_div (by omega) (by omega) (by omega), me_N_rem (by omega) (by omega) (by omega), show (8 * e.1 + e.2.1) / 8 = e.1 by omega, show (8 * e.1 + e.2.1) % 8 = e.2.1 by omega, List.countP_cons]
    have c1 : (me_N e.1 = me_N p) ↔ e.1 = p := me_N_inj (by omega) (by omega)
    have c2 : (me_N e.2.1 = 0) ↔ e.2.1 = 0 := by rw [me_N_0, me_N_inj (by omega) (by omega)]
    by_cases d1 : e.1 = p
    · rw [if_pos (c1.mpr d1)]
      cases hb with
      | false =>
        have hi : gh_is p false e = true := by unfold gh_is; rw [decide_eq_true d1]; rfl
        rw [if_pos (show me_bi false = 0 from rfl), if_pos hi, Nat.add_assoc, Nat.add_comm 1]
      | true =>
        rw [if_neg (show ¬ me_bi true = 0 by decide)]
        by_cases d2 : e.2.1 = 0
        · have hi : gh_is p true e = true := by unfold gh_is; rw [decide_eq_true d1, decide_eq_true d2]; rfl
          rw [if_pos (c2.mpr d2), if_pos hi, Nat.add_assoc, Nat.add_comm 1]
        · have hi : ¬ gh_is p true e = true := by unfold gh_is; rw [decide_eq_true d1, decide_eq_false d2]; decide
          rw [if_neg (fun q => d2 (c2.mp q)), if_neg hi]
          rfl
    · have hi : ¬ gh_is p hb e = true := by unfold gh_is; rw [decide_eq_false d1]; simp
      rw [if_neg (fun q => d1 (c1.mp q)), if_neg hi]
      rfl
theorem m_pa15 {a : me_S} {μ : me_M} (hM : me_RM a μ) (hI : me_Iv a) {K6 : Int32 → Int32 → Int32 → Int32 → Int32 → Option Int32} {n c0 p : Nat} {hb : Bool} (hn : n < 16) (hc : c0 < 2) (hp : p < a.np) : ∀ (d f k c : Nat), k + d = 5 → d < f → f_M_piecesAt_h15 μ K6 f (me_N n) (me_N p) (me_bi hb) (me_N c) (me_N c0) (me_N k) = K6 (me_N n) (me_N p) (me_bi hb) (me_N (c + me_sm (fun k => gh_pc a p hb (5 * (2 * n + c0) + k)) k d)) (me_N (c0 + 1)) := by
  intro d
  induction d with
  | zero =>
    intro f k c h1 h2
    obtain ⟨f, rfl⟩ : ∃ g, f = g + 1 := ⟨f - 1, by omega⟩
    show f_M_piecesAt_b15 _ _ _ _ _ _ _ _ _ = _
    unfold f_M_piecesAt_b15
    rw [if_pos (by rw [me_N_5, me_N_le (by omega) (by omega)]; omega), me_lt_s, me_N_inc]
    rfl
  | succ d ih =>
    intro f k c h1 h2
    obtain ⟨f, rfl⟩ : ∃ g, f = g + 1 := ⟨f - 1, by omega⟩
    have hl := me_ql a hI (5 * (2 * n + c0) + k)
    show f_M_piecesAt_b15 _ _ _ _ _ _ _ _ _ = K6 _ _ _ (me_N (c + (gh_pc a p hb (5 * (2 * n + c0) + k) + me_sm (fun k => gh_pc a p hb (5 * (2 * n + c0) + k)) (k + 1) d))) _
    unfold f_M_piecesAt_b15
    rw [if_neg (by rw [me_N_5, me_N_le (by omega) (by omega)]; omega), me_N_0, m_pa24 hM hI hn hc (by omega) hp _ 0 me_FU c rfl (show (List.drop 0 (a.q (5 * (2 * n + c0) + k))).length < 1000 by simp; omega) (Nat.zero_le _), ih f (k + 1) _ (by omega) (by omega), Nat.add_assoc]
    rfl
theorem m_pa {a : me_S} {μ : me_M} (hM : me_RM a μ) (hI : me_Iv a) {n p : Nat} {hb : Bool} (hn : n < 16) (hp : p < a.np) : f_M_piecesAt μ (me_N n) (me_N p) (me_bi hb) = some (me_N (me_sm (fun k => gh_pc a p hb (10 * n + k)) 0 10)) := by
  show f_M_piecesAt_h6 μ (998 + 1 + 1) (me_N n) (me_N p) (me_bi hb) (me_N 0) (me_N 0) = _
  show f_M_piecesAt_b6 _ _ _ _ _ _ _ = _
  unfold f_M_piecesAt_b6
  rw [if_neg (by decide), show (0 : Int32) = me_N 0 from rfl, m_pa15 hM hI hn (by decide) hp 5 me_FU 0 0 rfl (by decide)]
  show f_M_piecesAt_b6 _ _ _ _ _ _ _ = _
  unfold f_M_piecesAt_b6
  rw [if_neg (by decide), show (0 : Int32) = me_N 0 from rfl, m_pa15 hM hI hn (by decide) hp 5 me_FU 0 _ rfl (by decide)]
  show f_M_piecesAt_b6 μ (f_M_piecesAt_h6 μ 997) _ _ _ _ _ = _
  unfold f_M_piecesAt_b6
  rw [if_pos (by decide), Nat.zero_add, me_sm_10]
theorem me_sm_spl {g : Nat → Nat} : ∀ (e d i : Nat), me_sm g i (d + e) = me_sm g i d + me_sm g (i + d) e := by
  intro e
  induction e with
  | zero => intro d i; rfl
  | succ e ih =>
    intro d i
    rw [← Nat.add_assoc, me_sm_snoc, ih, me_sm_snoc, Nat.add_assoc i d e]
    omega
theorem me_sm_sh {g : Nat → Nat} {m : Nat} : ∀ (d i : Nat), me_sm (fun k => g (m + k)) i d = me_sm g (m + i) d := by
  intro d
  induction d with
  | zero => intro i; rfl
  | succ d ih =>
    intro i
    show g (m + i) + me_sm (fun k => g (m + k)) (i + 1) d = g (m + i) + me_sm g (m + i + 1) d
    rw [ih, Nat.add_assoc]
theorem me_sm_bl {g : Nat → Nat} : ∀ n, me_sm (fun n => me_sm (fun k => g (10 * n + k)) 0 10) 0 n = me_sm g 0 (10 * n) := by
  intro n
  induction n with
  | zero => rfl
  | succ n ih =>
    rw [me_sm_snoc, ih, show 10 * (n + 1) = 10 * n + 10 by omega, me_sm_spl, Nat.zero_add, Nat.zero_add, me_sm_sh, Nat.add_zero]
theorem me_sm_z {g : Nat → Nat} : ∀ (d i : Nat), (∀ j, i ≤ j → j < i + d → g j = 0) → me_sm g i d = 0 := by
  intro d
  induction d with
  | zero => intro i _; rfl
  | succ d ih =>
    intro i h
    show g i + me_sm g (i + 1) d = 0
    rw [h i (Nat.le_refl _) (by omega), ih (i + 1) (fun j h1 h2 => h j (by omega) (by omega))]
theorem me_sm_rg {g : Nat → Nat} : ∀ n, ((List.range n).map g).sum = me_sm g 0 n := by
  intro n
  induction n with
  | zero => rfl
  | succ n ih =>
    rw [List.range_succ, List.map_append, List.sum_append, ih, me_sm_snoc, Nat.zero_add]
    simp
theorem gh_pc_z {a : me_S} (hI : me_Iv a) {p : Nat} {hb : Bool} {r : Nat} (h : ¬ a.st p = 119 ∨ a.w * a.h ≤ r / 10) : gh_pc a p hb r = 0 := by
  refine List.countP_eq_zero.mpr (fun e he => ?_)
  have h1 := hI.2.2.2.2.1.iel r e he
  unfold gh_is
  rcases h with h | h
  · have : ¬ e.1 = p := fun q => h (by rw [← q]; exact h1.2.2.1)
    rw [decide_eq_false this]
    simp
  · have := h1.1
    omega
theorem gh_all {a : me_S} (hI : me_Iv a) {p : Nat} (hp : p < a.np) : me_sm (fun n => me_sm (fun k => gh_pc a p false (10 * n + k)) 0 10) 0 (a.w * a.h) = if a.st p = 108 then 0 else a.pt p - a.tk p := by
  have hwh := hI.wh
  rw [me_sm_bl]
  by_cases h : a.st p = 108
  · rw [if_pos h]
    exact me_sm_z _ _ (fun j _ _ => gh_pc_z hI (Or.inl (by rw [h]; decide)))
  · rw [if_neg h, ← hI.2.2.2.2.1.ict p hp h, me_sm_rg]
    have e : me_sm (gh_pc a p false) 0 160 = me_sm (gh_pc a p false) 0 (10 * (a.w * a.h)) := by
      rw [show 160 = 10 * (a.w * a.h) + (160 - 10 * (a.w * a.h)) by omega, me_sm_spl, Nat.zero_add, me_sm_z (160 - 10 * (a.w * a.h)) (10 * (a.w * a.h)) (fun j h1 h2 => gh_pc_z hI (Or.inr (by omega)))]
      rfl
    rw [← e]
    refine me_sm_cg _ _ (fun j _ _ => ?_)
    unfold gh_pc
    refine List.countP_congr (fun x _ => ?_)
    unfold gh_is
    simp
theorem m_pcs {a : me_S} {μ : me_M} (hM : me_RM a μ) (hI : me_Iv a) {p : Nat} (hp : p < a.np) : ∀ (d f i c : Nat), i + d = a.w * a.h → d < f → f_M_pieces_h14 f μ (me_N p) (me_N c) (me_N i) = some (μ, me_N (c + me_sm (fun n => me_sm (fun k => gh_pc a p false (10 * n + k)) 0 10) i d)) := by
  have hwh := hI.wh
  intro d
  induction d with
  | zero =>
    intro f i c h1 h2
    obtain ⟨f, rfl⟩ : ∃ g, f = g + 1 := ⟨f - 1, by omega⟩
    show f_M_pieces_b14 _ _ _ _ _ = _
    unfold f_M_pieces_b14 f_M_nodes
    rw [me_bd_s, hM.w, hM.h, me_N_mul, if_pos (by rw [me_N_le (by omega) (by omega)]; omega)]
    rfl
  | succ d ih =>
    intro f i c h1 h2
    obtain ⟨f, rfl⟩ : ∃ g, f = g + 1 := ⟨f - 1, by omega⟩
    show f_M_pieces_b14 _ _ _ _ _ = some (μ, me_N (c + (me_sm (fun k => gh_pc a p false (10 * i + k)) 0 10 + me_sm (fun n => me_sm (fun k => gh_pc a p false (10 * n + k)) 0 10) (i + 1) d)))
    unfold f_M_pieces_b14 f_M_nodes
    rw [me_bd_s, hM.w, hM.h, me_N_mul, if_neg (by rw [me_N_le (by omega) (by omega)]; omega), show (0 : Int32) = me_bi false from rfl, m_pa hM hI (by omega) hp, me_bd_s, me_N_add, me_lt_s, me_N_inc, me_lt_s, ih f (i + 1) _ (by omega) (by omega), Nat.add_assoc]
theorem t_8 {T : Nat} {a : me_S} {μ : me_M} {o : Int64 × UInt64} {s1 s2 s3 s4 s5 : Int32} (hR : me_R T a μ) : ∃ μ' o' a', f_case_8 μ o s1 s2 s3 s4 s5 = some (μ', o') ∧ me_R T a' μ' := by
  obtain ⟨hC, hM, hI, hbt, hT, hwk⟩ := id hR
  have hwh := hI.wh
  have hnp := hI.n200
  have hD : me_Dd a a μ := ⟨hC, hM, hwk⟩
  by_cases hb : me_isB s1 a.np
  · obtain ⟨n, hn, rfl⟩ := hb
    have e1 := y_packet_o hC hI hn
    have e2 := m_packet_o hM hI hn
    have hpt := hI.2.1.ipt n hn
    have hbo := hI.2.1.ibo n hn
    have c1 : f_Packet_piecesInRows μ n = some (me_N (if a.st n = 108 then 0 else a.pt n - a.tk n)) := by
      unfold f_Packet_piecesInRows
      rw [hC.st, hC.pt, hC.tk]
      split
      · rfl
      · rw [me_N_sub hpt.1]
    have c2 : f_M_pieces_h14 me_FU (me_up μ 36 0 42 0) (me_N n) 0 0 = _ := m_pcs (hR.th 0).2.1 hI hn (a.w * a.h) me_FU 0 0 (Nat.zero_add _) (show _ < 1000 by omega)
    rw [gh_all hI hn, Nat.zero_add] at c2
    refine ⟨_, (Int32.toInt64 (me_N (if a.st n = 108 then 0 else a.pt n - a.tk n)), o.2), a, ?_, hR.th 0⟩
    generalize (if a.st n = 108 then 0 else a.pt n - a.tk n) = z at c1 c2
    simp [f_case_8, f_L_pieces, f_Y_pieces, f_M_pieces, me_bd_s, me_b2_s, me_lt_s, me_oq_n, me_oq_s, me_xb_o, me_xb_e, me_xb2_o, me_xb2_e, me_xm_o, me_xm_e, f_M_thrown, m_th0, m_th1, me_cmp_self, me_up_at, if_true, if_false, me_nr_z, me_nr_o, me_gd_t, me_up_kn, me_up_jn, e1, e2, c1, c2]
  · have e1 := y_packet_n hC hI hb
    have e2 := m_packet_n hM hI hb
    refine ⟨_, o, a, ?_, hR.th 1⟩
    simp [f_case_8, f_L_pieces, f_Y_pieces, f_M_pieces, me_bd_s, me_b2_s, me_lt_s, me_oq_n, me_oq_s, me_xb_o, me_xb_e, me_xb2_o, me_xb2_e, me_xm_o, me_xm_e, f_M_thrown, m_th0, m_th1, me_cmp_self, me_up_at, if_true, if_false, me_nr_z, me_nr_o, me_gd_t, me_up_kn, me_up_jn, e1, e2]
theorem gh_hdz {a : me_S} {p n : Nat} : 0 < me_sm (fun k => gh_pc a p true (10 * n + k)) 0 10 ↔ ∃ r c, (p, 0, c) ∈ a.q r ∧ r / 10 = n := by
  constructor
  · intro h
    rcases Classical.em (∃ k, k < 10 ∧ ¬ gh_pc a p true (10 * n + k) = 0) with ⟨k, hk, hz⟩ | hz
    · have hz : 0 < (a.q (10 * n + k)).countP (gh_is p true) := Nat.pos_of_ne_zero hz
      obtain ⟨e, he, hp⟩ := List.countP_pos_iff.mp hz
      unfold gh_is at hp
      simp at hp
      refine ⟨10 * n + k, e.2.2, ?_, by omega⟩
      have : e = (p, 0, e.2.2) := by
        obtain ⟨e1, e2, e3⟩ := e
        simp at hp
        rw [hp.1, hp.2]
      rw [← this]
      exact he
    · rw [me_sm_z 10 0 (fun j _ h2 => Classical.byContradiction fun q => hz ⟨j, by omega, q⟩)] at h
      omega
  · rintro ⟨r, c, he, hr⟩
    have h1 : 0 < gh_pc a p true (10 * n + r % 10) := by
      refine List.countP_pos_iff.mpr ⟨(p, 0, c), ?_, by unfold gh_is; simp⟩
      rw [show 10 * n + r % 10 = r by omega]
      exact he
    have h2 := me_sm_spl (g := fun k => gh_pc a p true (10 * n + k)) (10 - r % 10) (r % 10) 0
    have h3 : me_sm (fun k => gh_pc a p true (10 * n + k)) (0 + r % 10) (10 - r % 10) = gh_pc a p true (10 * n + (0 + r % 10)) + me_sm (fun k => gh_pc a p true (10 * n + k)) (0 + r % 10 + 1) (9 - r % 10) := by
      rw [show 10 - r % 10 = (9 - r % 10) + 1 by omega]
      rfl
    rw [show r % 10 + (10 - r % 10) = 10 by omega, h3, Nat.zero_add] at h2
    omega
theorem m_hd {a : me_S} {μ : me_M} (hM : me_RM a μ) (hI : me_Iv a) {p : Nat} (hp : p < a.np) : ∀ (d f i : Nat) (v : Option Nat), i + d = a.w * a.h → d < f → (∀ m, a.hd p = some m → i ≤ m → v = none) → (∀ m, a.hd p = some m → m < i → v = some m) → (a.hd p = none → v = none) → f_M_head_h14 f μ (me_N p) (me_Op v) (me_N i) = if me_Op (a.hd p) = -1 then f_M_head_b55 μ (me_Op (a.hd p)) 1 else f_M_head_b55 μ (me_Op (a.hd p)) 0 := by
  have hwh := hI.wh
  have hh := hI.2.2.2.2.1.ihd p hp
  have hlt : ∀ m, a.hd p = some m → m < a.w * a.h := fun m hm => by
    obtain ⟨r, c, he, hr⟩ := hh.1 m hm
    have := (hI.2.2.2.2.1.iel r _ he).1
    omega
  intro d
  induction d with
  | zero =>
    intro f i v h1 h2 k1 k2 k3
    obtain ⟨f, rfl⟩ : ∃ g, f = g + 1 := ⟨f - 1, by omega⟩
    have ev : v = a.hd p := by
      cases e : a.hd p with
      | none => exact k3 e
      | some m => exact k2 m e (by have := hlt m e; omega)
    show f_M_head_b14 _ _ _ _ _ = _
    unfold f_M_head_b14 f_M_nodes
    rw [me_bd_s, hM.w, hM.h, me_N_mul, if_pos (by rw [me_N_le (by omega) (by omega)]; omega), ev]
  | succ d ih =>
    intro f i v h1 h2 k1 k2 k3
    obtain ⟨f, rfl⟩ : ∃ g, f = g + 1 := ⟨f - 1, by omega⟩
    show f_M_head_b14 _ _ _ _ _ = _
    unfold f_M_head_b14 f_M_nodes
    have hb : me_sm (fun k => gh_pc a p true (10 * i + k)) 0 10 ≤ 1000 := by
      have := me_sm_le (g := fun k => gh_pc a p true (10 * i + k)) (c := 4) (fun k => by
        have h4 := me_ql a hI (10 * i + k)
        have := List.countP_le_length (p := gh_is p true) (l := a.q (10 * i + k))
        show (a.q (10 * i + k)).countP _ ≤ 4
        omega) 10 0
      omega
    rw [me_bd_s, hM.w, hM.h, me_N_mul, if_neg (by rw [me_N_le (by omega) (by omega)]; omega), show (1 : Int32) = me_bi true from rfl, m_pa hM hI (by omega) hp, me_bd_s]
    by_cases e : a.hd p = some i
    · have hz : 0 < me_sm (fun k => gh_pc a p true (10 * i + k)) 0 10 := gh_hdz.mpr (hh.1 i e)
      rw [if_neg (by rw [me_N_0, me_N_le (by omega) (by omega)]; omega), me_lt_s, me_N_inc]
      exact ih f (i + 1) (some i) (by omega) (by omega) (fun m hm hle => by rw [e] at hm; cases hm; omega) (fun m hm _ => by rw [e] at hm; exact hm) (fun q => by rw [e] at q; cases q)
    · have hz : ¬ 0 < me_sm (fun k => gh_pc a p true (10 * i + k)) 0 10 := fun q => by
        obtain ⟨r, c, he, hr⟩ := gh_hdz.mp q
        cases ee : a.hd p with
        | none => exact hh.2 ee r c he
        | some m =>
          obtain ⟨r', c', he', hr'⟩ := hh.1 m ee
          have := hI.2.2.2.2.1.ion r r' _ _ he he' rfl rfl
          exact e (by rw [ee, ← hr', ← this, hr])
      rw [if_pos (by rw [me_N_0, me_N_le (by omega) (by omega)]; omega), me_lt_s, me_N_inc]
      refine ih f (i + 1) v (by omega) (by omega) (fun m hm hle => k1 m hm (by omega)) (fun m hm hl => ?_) k3
      by_cases q : m = i
      · rw [q] at hm; exact absurd hm e
      · exact k2 m hm (by omega)
theorem t_7 {T : Nat} {a : me_S} {μ : me_M} {o : Int64 × UInt64} {s1 s2 s3 s4 s5 : Int32} (hR : me_R T a μ) : ∃ μ' o' a', f_case_7 μ o s1 s2 s3 s4 s5 = some (μ', o') ∧ me_R T a' μ' := by
  obtain ⟨hC, hM, hI, hbt, hT, hwk⟩ := id hR
  have hwh := hI.wh
  have hnp := hI.n200
  have hD : me_Dd a a μ := ⟨hC, hM, hwk⟩
  by_cases hb : me_isB s1 a.np
  · obtain ⟨n, hn, rfl⟩ := hb
    have e1 := y_packet_o hC hI hn
    have e2 := m_packet_o hM hI hn
    have hh := hI.2.2.2.2.1.ihd n hn
    have c2 : f_M_head_h14 me_FU (me_up μ 36 0 42 0) (me_N n) (-1) 0 = _ := m_hd (hR.th 0).2.1 hI hn (a.w * a.h) me_FU 0 none (Nat.zero_add _) (show _ < 1000 by omega) (fun m _ _ => rfl) (fun m _ h => by omega) (fun _ => rfl)
    have c1 := hC.hd n hn
    cases ee : a.hd n with
    | none =>
      rw [ee] at c1 c2
      have z : me_Op none = (-1 : Int32) := rfl
      rw [z] at c1 c2
      rw [if_pos rfl] at c2
      refine ⟨_, o, a, ?_, (hR.th 0).th 2⟩
      simp [f_case_7, f_L_head, f_Y_head, f_M_head, f_M_head_b55, me_bd_s, me_b2_s, me_lt_s, me_oq_n, me_oq_s, me_xb_o, me_xb_e, me_xb2_o, me_xb2_e, me_xm_o, me_xm_e, f_M_thrown, m_th0, m_th1, me_cmp_self, me_up_at, if_true, if_false, me_nr_z, me_nr_o, me_gd_t, me_up_kn, me_up_jn, e1, e2, c1, c2]
    | some m =>
      obtain ⟨r, c, he, hr⟩ := hh.1 m ee
      have hm := (hI.2.2.2.2.1.iel r _ he).1
      rw [ee] at c1 c2
      have z : me_Op (some m) = me_N m := rfl
      have z1 : ¬ me_N m = -1 := me_N_nm1 (by omega)
      rw [z] at c1 c2
      rw [if_neg z1] at c2
      refine ⟨_, (Int32.toInt64 (me_N m), o.2), a, ?_, (hR.th 0).th 0⟩
      simp [f_case_7, f_L_head, f_Y_head, f_M_head, f_M_head_b55, me_bd_s, me_b2_s, me_lt_s, me_oq_n, me_oq_s, me_xb_o, me_xb_e, me_xb2_o, me_xb2_e, me_xm_o, me_xm_e, f_M_thrown, m_th0, m_th1, me_cmp_self, me_up_at, if_true, if_false, me_nr_z, me_nr_o, me_gd_t, me_up_kn, me_up_jn, e1, e2, c1, c2, z1]
  · have e1 := y_packet_n hC hI hb
    have e2 := m_packet_n hM hI hb
    refine ⟨_, o, a, ?_, hR.th 1⟩
    simp [f_case_7, f_L_head, f_Y_head, f_M_head, me_bd_s, me_b2_s, me_lt_s, me_oq_n, me_oq_s, me_xb_o, me_xb_e, me_xb2_o, me_xb2_e, me_xm_o, me_xm_e, f_M_thrown, m_th0, m_th1, me_cmp_self, me_up_at, if_true, if_false, me_nr_z, me_nr_o, me_gd_t, me_up_kn, me_up_jn, e1, e2]
