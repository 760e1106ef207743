/-! checksum, lostShare, meanTime -/
def gh_fd {α : Type} (g : Nat → α → α) : Nat → Nat → α → α
  | _, 0, x => x
  | i, d + 1, x => gh_fd g (i + 1) d (g i x)
def gh_ln (a : me_S) (r : Nat) : Nat := (a.q r).length
theorem y_cntP {a : me_S} {μ : me_M} (hC : me_RC a μ) {n : Nat} (hn : n < 16) : ∀ (d f i c : Nat), i + d = 10 → d < f → f_Router_countPieces_h4 μ f n (me_N c) (me_N i) = some (me_N (c + me_sm (fun k => gh_ln a (10 * n + k)) i d)) := by
  intro d
  induction d with
  | zero =>
    intro f i c h1 h2
    obtain ⟨f, rfl⟩ : ∃ g, f = g + 1 := ⟨f - 1, by omega⟩
    show f_Router_countPieces_b4 _ _ _ _ _ = _
    unfold f_Router_countPieces_b4
    rw [if_pos (by rw [me_N_10, me_N_le (by omega) (by omega)]; omega)]
    rfl
  | succ d ih =>
    intro f i c h1 h2
    obtain ⟨f, rfl⟩ : ∃ g, f = g + 1 := ⟨f - 1, by omega⟩
    show f_Router_countPieces_b4 _ _ _ _ _ = some (me_N (c + (gh_ln a (10 * n + i) + me_sm (fun k => gh_ln a (10 * n + k)) (i + 1) d)))
    unfold f_Router_countPieces_b4
    rw [if_neg (by rw [me_N_10, me_N_le (by omega) (by omega)]; omega), me_gd_n (by omega) (by omega), me_N_ix (by omega), hC.qn _ (by omega), me_N_add, me_lt_s, me_N_inc, me_lt_s, ih f (i + 1) _ (by omega) (by omega), Nat.add_assoc]
    rfl
theorem y_pieces {a : me_S} {μ : me_M} (hC : me_RC a μ) {n : Nat} (hn : n < 16) : f_Router_countPieces μ n = some (me_N (me_sm (fun k => gh_ln a (10 * n + k)) 0 10)) := by
  have h := y_cntP hC hn 10 me_FU 0 0 rfl (by decide)
  rw [Nat.zero_add] at h
  exact h
def gh_g8 (a : me_S) (n : Nat) : Nat → Int64 → Int64 := fun j x => 31 * x + Int32.toInt64 (a.mm n j)
def gh_gn (a : me_S) : Nat → Int64 → Int64 := fun n x => 31 * gh_fd (gh_g8 a n) 0 8 x + Int32.toInt64 (me_N (me_sm (fun k => gh_ln a (10 * n + k)) 0 10))
def gh_gp (a : me_S) : Nat → Int64 → Int64 := fun i x => 31 * x + Int32.toInt64 (a.st i)
theorem y_ck20 {a : me_S} {μ : me_M} (hC : me_RC a μ) {n : Nat} (hn : n < 16) {K6 : Int64 → Int32 → Option Int64} : ∀ (d f j : Nat) (x : Int64), j + d = 8 → d < f → f_Y_checksum_h20 μ K6 f x (me_N n) (me_N j) = K6 (31 * gh_fd (gh_g8 a n) j d x + Int32.toInt64 (me_N (me_sm (fun k => gh_ln a (10 * n + k)) 0 10))) (me_N (n + 1)) := by
  intro d
  induction d with
  | zero =>
    intro f i c h1 h2
    obtain ⟨f, rfl⟩ : ∃ g, f = g + 1 := ⟨f - 1, by omega⟩
    show f_Y_checksum_b20 _ _ _ _ _ _ = _
    unfold f_Y_checksum_b20
    rw [if_pos (by rw [me_N_8, me_N_le (by omega) (by omega)]; omega), me_gd_n (by omega) hn, me_N_ix (by omega), y_pieces hC hn, me_bd_s, me_lt_s, me_N_inc]
    rfl
  | succ d ih =>
    intro f i c h1 h2
    obtain ⟨f, rfl⟩ : ∃ g, f = g + 1 := ⟨f - 1, by omega⟩
    show f_Y_checksum_b20 _ _ _ _ _ _ = K6 (31 * gh_fd (gh_g8 a n) (i + 1) d (gh_g8 a n i c) + _) _
    unfold f_Y_checksum_b20
    rw [if_neg (by rw [me_N_8, me_N_le (by omega) (by omega)]; omega), me_gd_n (by omega) hn, me_gd_n (by omega) (by omega), me_N_ix (by omega), me_N_ix (by omega), hC.mm n i hn (by omega), me_lt_s, me_N_inc, ih f (i + 1) _ (by omega) (by omega)]
    rfl
theorem y_ck78 {a : me_S} {μ : me_M} (hC : me_RC a μ) (hI : me_Iv a) : ∀ (d f i : Nat) (x : Int64), i + d = a.np → d < f → f_Y_checksum_h78 μ f x (me_N i) = some (gh_fd (gh_gp a) i d x) := by
  have hnp := hI.n200
  intro d
  induction d with
  | zero =>
    intro f i c h1 h2
    obtain ⟨f, rfl⟩ : ∃ g, f = g + 1 := ⟨f - 1, by omega⟩
    show f_Y_checksum_b78 _ _ _ _ = _
    unfold f_Y_checksum_b78
    rw [hC.np, if_pos (by rw [me_N_le (by omega) (by omega)]; omega)]
    rfl
  | succ d ih =>
    intro f i c h1 h2
    obtain ⟨f, rfl⟩ : ∃ g, f = g + 1 := ⟨f - 1, by omega⟩
    show f_Y_checksum_b78 _ _ _ _ = some (gh_fd (gh_gp a) (i + 1) d (gh_gp a i c))
    unfold f_Y_checksum_b78
    rw [hC.np, if_neg (by rw [me_N_le (by omega) (by omega)]; omega), me_gd_n (by omega) (by omega), me_N_ix (by omega), hC.st, me_lt_s, me_N_inc, ih f (i + 1) _ (by omega) (by omega)]
    rfl
theorem y_ck6 {a : me_S} {μ : me_M} (hC : me_RC a μ) (hI : me_Iv a) : ∀ (d f i : Nat) (x : Int64), i + d = a.w * a.h → d < f → f_Y_checksum_h6 μ f x (me_N i) = some (gh_fd (gh_gp a) 0 a.np (gh_fd (gh_gn a) i d x)) := by
  have hwh := hI.wh
  have hnp := hI.n200
  intro d
  induction d with
  | zero =>
    intro f i c h1 h2
    obtain ⟨f, rfl⟩ : ∃ g, f = g + 1 := ⟨f - 1, by omega⟩
    show f_Y_checksum_b6 _ _ _ _ = _
    unfold f_Y_checksum_b6
    rw [hC.nn, if_pos (by rw [me_N_le (by omega) (by omega)]; omega), me_N_0, y_ck78 hC hI a.np me_FU 0 _ (Nat.zero_add _) (show _ < 1000 by omega)]
    rfl
  | succ d ih =>
    intro f i c h1 h2
    obtain ⟨f, rfl⟩ : ∃ g, f = g + 1 := ⟨f - 1, by omega⟩
    show f_Y_checksum_b6 _ _ _ _ = some (gh_fd (gh_gp a) 0 a.np (gh_fd (gh_gn a) (i + 1) d (gh_gn a i c)))
    unfold f_Y_checksum_b6
    rw [hC.nn, if_neg (by rw [me_N_le (by omega) (by omega)]; omega), show (0 : Int32) = me_N 0 from rfl, y_ck20 hC (by omega) 8 me_FU 0 _ rfl (by decide), ih f (i + 1) _ (by omega) (by omega)]
    rfl
theorem m_ck96 {a : me_S} {μ : me_M} (hM : me_RM a μ) {b : Nat} (hb : b < 32) {K11 : me_M → Int64 → Int32 → Option (me_M × Int64)} {K71 : me_M → Int64 → Int32 → Int32 → Int32 → Option (me_M × Int64)} {x : Int64} {v3 : Int32} {c0 : Nat} : ∀ (d f i c : Nat), i + d = 5 → d < f → f_M_checksum_h96 K11 K71 f μ x v3 (me_N c) (me_N c0) b 5 (me_N i) = K71 μ x v3 (me_N (c + me_sm (fun k => gh_ln a (5 * b + k)) i d)) (me_N (c0 + 1)) := by
  intro d
  induction d with
  | zero =>
    intro f i c h1 h2
    obtain ⟨f, rfl⟩ : ∃ g, f = g + 1 := ⟨f - 1, by omega⟩
    show f_M_checksum_b96 _ _ _ _ _ _ _ _ _ _ _ = _
    unfold f_M_checksum_b96
    rw [if_pos (by rw [me_N_5, me_N_le (by omega) (by omega)]; omega), me_lt_s, me_N_inc]
    rfl
  | succ d ih =>
    intro f i c h1 h2
    obtain ⟨f, rfl⟩ : ∃ g, f = g + 1 := ⟨f - 1, by omega⟩
    show f_M_checksum_b96 _ _ _ _ _ _ _ _ _ _ _ = K71 μ x v3 (me_N (c + (gh_ln a (5 * b + i) + me_sm (fun k => gh_ln a (5 * b + k)) (i + 1) d))) (me_N (c0 + 1))
    unfold f_M_checksum_b96
    rw [if_neg (by rw [me_N_5, me_N_le (by omega) (by omega)]; omega), me_gd_n (by omega) (by omega), me_N_ix (by omega), hM.qn b i hb (by omega), me_lt_s, me_N_add, me_lt_s, me_N_inc, me_lt_s, ih f (i + 1) _ (by omega) (by omega), Nat.add_assoc]
    rfl
theorem me_sm_10 {P : Nat → Nat} {n : Nat} : me_sm (fun k => P (5 * (2 * n + 0) + k)) 0 5 + me_sm (fun k => P (5 * (2 * n + 1) + k)) 0 5 = me_sm (fun k => P (10 * n + k)) 0 10 := by
  have e0 : (fun k => P (5 * (2 * n + 0) + k)) = fun k => P (10 * n + k) := funext fun k => congrArg P (by omega)
  have e1 : (fun k => P (5 * (2 * n + 1) + k)) = fun k => P (10 * n + (5 + k)) := funext fun k => congrArg P (by omega)
  rw [e0, e1]
  simp only [me_sm, Nat.add_assoc, Nat.add_zero]
theorem m_ck71 {a : me_S} {μ : me_M} (hM : me_RM a μ) {n : Nat} (hn : n < 16) {K11 : me_M → Int64 → Int32 → Option (me_M × Int64)} {x : Int64} : f_M_checksum_h71 K11 me_FU μ x (me_N n) 0 0 = K11 μ (31 * x + Int32.toInt64 (me_N (me_sm (fun k => gh_ln a (10 * n + k)) 0 10))) (me_N (n + 1)) := by
  show f_M_checksum_b71 _ _ _ _ _ _ _ = _
  unfold f_M_checksum_b71
  rw [if_neg (by decide), me_gd_n (by omega) hn, show (0 : Int32) = me_N 0 from rfl, me_gd_n (by omega) (by omega), me_N_ix (by omega), me_N_ix (by omega), m_ck96 hM (by omega) 5 me_FU 0 0 rfl (by decide)]
  show f_M_checksum_b71 _ _ _ _ _ _ _ = _
  unfold f_M_checksum_b71
  rw [if_neg (by decide), me_gd_n (by omega) hn, me_gd_n (by omega) (by omega), me_N_ix (by omega), me_N_ix (by omega), show (0 : Int32) = me_N 0 from rfl, m_ck96 hM (by omega) 5 me_FU 0 _ rfl (by decide)]
  show f_M_checksum_b71 K11 (f_M_checksum_h71 K11 997) _ _ _ _ _ = _
  unfold f_M_checksum_b71
  rw [if_pos (by decide), me_lt_s, me_N_inc, Nat.zero_add, Nat.zero_add, me_sm_10]
theorem m_ck35 {a : me_S} {μ : me_M} (hM : me_RM a μ) {n : Nat} (hn : n < 16) {K11 : me_M → Int64 → Int32 → Option (me_M × Int64)} : ∀ (d f j : Nat) (x : Int64), j + d = 8 → d < f → f_M_checksum_h35 K11 f μ x (me_N n) n 8 (me_N j) = K11 μ (31 * gh_fd (gh_g8 a n) j d x + Int32.toInt64 (me_N (me_sm (fun k => gh_ln a (10 * n + k)) 0 10))) (me_N (n + 1)) := by
  intro d
  induction d with
  | zero =>
    intro f i c h1 h2
    obtain ⟨f, rfl⟩ : ∃ g, f = g + 1 := ⟨f - 1, by omega⟩
    show f_M_checksum_b35 _ _ _ _ _ _ _ _ = _
    unfold f_M_checksum_b35
    rw [if_pos (by rw [me_N_8, me_N_le (by omega) (by omega)]; omega), m_ck71 hM hn]
    rfl
  | succ d ih =>
    intro f i c h1 h2
    obtain ⟨f, rfl⟩ : ∃ g, f = g + 1 := ⟨f - 1, by omega⟩
    show f_M_checksum_b35 _ _ _ _ _ _ _ _ = K11 μ (31 * gh_fd (gh_g8 a n) (i + 1) d (gh_g8 a n i c) + _) _
    unfold f_M_checksum_b35
    rw [if_neg (by rw [me_N_8, me_N_le (by omega) (by omega)]; omega), me_gd_n (by omega) (by omega), me_N_ix (by omega), hM.mm n i hn (by omega), me_lt_s, me_lt_s, me_N_inc, ih f (i + 1) _ (by omega) (by omega)]
    rfl
theorem m_ck147 {a : me_S} {μ : me_M} (hM : me_RM a μ) (hI : me_Iv a) : ∀ (d f i : Nat) (x : Int64), i + d = a.np → d < f → f_M_checksum_h147 f μ x (me_N i) = some (μ, gh_fd (gh_gp a) i d x) := by
  have hnp := hI.n200
  intro d
  induction d with
  | zero =>
    intro f i c h1 h2
    obtain ⟨f, rfl⟩ : ∃ g, f = g + 1 := ⟨f - 1, by omega⟩
    show f_M_checksum_b147 _ _ _ _ = _
    unfold f_M_checksum_b147
    rw [hM.np, if_pos (by rw [me_N_le (by omega) (by omega)]; omega)]
    rfl
  | succ d ih =>
    intro f i c h1 h2
    obtain ⟨f, rfl⟩ : ∃ g, f = g + 1 := ⟨f - 1, by omega⟩
    show f_M_checksum_b147 _ _ _ _ = some (μ, gh_fd (gh_gp a) (i + 1) d (gh_gp a i c))
    unfold f_M_checksum_b147
    rw [hM.np, if_neg (by rw [me_N_le (by omega) (by omega)]; omega), me_gd_n (by omega) (by omega), me_N_ix (by omega), hM.st i (by omega), me_lt_s, me_N_inc, ih f (i + 1) _ (by omega) (by omega)]
    rfl
theorem m_ck11 {a : me_S} {μ : me_M} (hM : me_RM a μ) (hI : me_Iv a) : ∀ (d f i : Nat) (x : Int64), i + d = a.w * a.h → d < f → f_M_checksum_h11 f μ x (me_N i) = some (μ, gh_fd (gh_gp a) 0 a.np (gh_fd (gh_gn a) i d x)) := by
  have hwh := hI.wh
  have hnp := hI.n200
  intro d
  induction d with
  | zero =>
    intro f i c h1 h2
    obtain ⟨f, rfl⟩ : ∃ g, f = g + 1 := ⟨f - 1, by omega⟩
    show f_M_checksum_b11 _ _ _ _ = _
    unfold f_M_checksum_b11 f_M_nodes
    rw [me_bd_s, hM.w, hM.h, me_N_mul, if_pos (by rw [me_N_le (by omega) (by omega)]; omega), me_N_0, m_ck147 hM hI a.np me_FU 0 _ (Nat.zero_add _) (show _ < 1000 by omega)]
    rfl
  | succ d ih =>
    intro f i c h1 h2
    obtain ⟨f, rfl⟩ : ∃ g, f = g + 1 := ⟨f - 1, by omega⟩
    show f_M_checksum_b11 _ _ _ _ = some (μ, gh_fd (gh_gp a) 0 a.np (gh_fd (gh_gn a) (i + 1) d (gh_gn a i c)))
    unfold f_M_checksum_b11 f_M_nodes
    rw [me_bd_s, hM.w, hM.h, me_N_mul, if_neg (by rw [me_N_le (by omega) (by omega)]; omega), me_gd_n (by omega) (by omega), me_N_ix (by omega), show (0 : Int32) = me_N 0 from rfl, m_ck35 hM (by omega) 8 me_FU 0 _ rfl (by decide), ih f (i + 1) _ (by omega) (by omega)]
    rfl
theorem t_40 {T : Nat} {a : me_S} {μ : me_M} {o : Int64 × UInt64} {s1 s2 s3 s4 s5 : Int32} (hR : me_R T a μ) : ∃ μ' o' a', f_case_40 μ o s1 s2 s3 s4 s5 = some (μ', o') ∧ me_R T a' μ' := by
  obtain ⟨hC, hM, hI, hbt, hT, hwk⟩ := id hR
  have hwh := hI.wh
  have hnp := hI.n200
  have hD : me_Dd a a μ := ⟨hC, hM, hwk⟩
  have c1 : f_Y_checksum_h6 μ me_FU 7 0 = _ := y_ck6 hC hI (a.w * a.h) me_FU 0 7 (Nat.zero_add _) (show _ < 1000 by omega)
  have c2 : f_M_checksum_h11 me_FU (me_up μ 36 0 42 0) 7 0 = _ := m_ck11 (hR.th 0).2.1 hI (a.w * a.h) me_FU 0 7 (Nat.zero_add _) (show _ < 1000 by omega)
  refine ⟨_, o, a, ?_, hR.th 0⟩
  simp [f_case_40, f_Y_checksum, f_M_checksum, me_bd_s, me_b2_s, me_lt_s, me_oq_n, me_oq_s, me_xb_o, me_xb_e, me_xb2_o, me_xb2_e, me_xm_o, me_xm_e, f_M_thrown, m_th0, m_th1, me_cmp_self, me_up_at, if_true, if_false, me_nr_z, me_nr_o, me_gd_t, me_up_kn, me_up_jn, c1, c2]
