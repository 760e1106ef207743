/-! CONSTRUCTORS WITH LOOPS (printed by gen/ctor2.py) -/
theorem ml_Router_3 : Cond.methodLink RX7 3 Lib.objectInit ∈ me_gw := (me_gm 382 (by decide +kernel) (by decide +kernel))
theorem cl_Router_9 : Cond.classLink RX7 9 "Meshyard$Row" ∈ me_gw := (me_gm 383 (by decide +kernel) (by decide +kernel))
theorem dv_17 : ∀ j, j < 8 → defaultValue (tyX8 j) = if me_kr 17 j = true then .null else .int 0 := fun j hj => match j, hj with
  | 0, _ => rfl
  | 1, _ => rfl
  | 2, _ => rfl
  | 3, _ => rfl
  | 4, _ => rfl
  | 5, _ => rfl
  | 6, _ => rfl
  | 7, _ => rfl
  | j + 8, h => absurd h (by omega)
theorem nl_Router_24 : Cond.methodLinkNest RX7 24 yX8_init "Meshyard" ∈ me_bw := me_bm 386 (by decide +kernel) (by decide +kernel)
theorem ml_Post_3 : Cond.methodLink RX6 3 Lib.objectInit ∈ me_gw := (me_gm 153 (by decide +kernel) (by decide +kernel))
theorem cl_Post_9 : Cond.classLink RX6 9 "Meshyard$Packet" ∈ me_gw := (me_gm 154 (by decide +kernel) (by decide +kernel))
theorem dv_8 : ∀ j, j < 15 → defaultValue (tyX4 j) = if me_kr 8 j = true then .null else .int 0 := fun j hj => match j, hj with
  | 0, _ => rfl
  | 1, _ => rfl
  | 2, _ => rfl
  | 3, _ => rfl
  | 4, _ => rfl
  | 5, _ => rfl
  | 6, _ => rfl
  | 7, _ => rfl
  | 8, _ => rfl
  | 9, _ => rfl
  | 10, _ => rfl
  | 11, _ => rfl
  | 12, _ => rfl
  | 13, _ => rfl
  | 14, _ => rfl
  | j + 15, h => absurd h (by omega)
theorem ml_Post_17 : Cond.methodLink RX6 17 yX4_init ∈ me_gw := (me_gm 157 (by decide +kernel) (by decide +kernel))
theorem dX7_init_0 : decode cX7_init 0 = .ok (.aload_n 0, 1) := by decide +kernel
theorem dX7_init_1 : decode cX7_init 1 = .ok (.invokespecial 3, 3) := by decide +kernel
theorem dX7_init_4 : decode cX7_init 4 = .ok (.aload_n 0, 1) := by decide +kernel
theorem dX7_init_5 : decode cX7_init 5 = .ok (.bipush 10, 2) := by decide +kernel
theorem dX7_init_7 : decode cX7_init 7 = .ok (.anewarray 9, 3) := by decide +kernel
theorem dX7_init_10 : decode cX7_init 10 = .ok (.putfield 11, 3) := by decide +kernel
theorem dX7_init_13 : decode cX7_init 13 = .ok (.aload_n 0, 1) := by decide +kernel
theorem dX7_init_14 : decode cX7_init 14 = .ok (.bipush 10, 2) := by decide +kernel
theorem dX7_init_16 : decode cX7_init 16 = .ok (.newarray .int, 2) := by decide +kernel
theorem dX7_init_18 : decode cX7_init 18 = .ok (.putfield 17, 3) := by decide +kernel
theorem dX7_init_21 : decode cX7_init 21 = .ok (.aload_n 0, 1) := by decide +kernel
theorem dX7_init_22 : decode cX7_init 22 = .ok (.iconst 2, 1) := by decide +kernel
theorem dX7_init_23 : decode cX7_init 23 = .ok (.newarray .int, 2) := by decide +kernel
theorem dX7_init_25 : decode cX7_init 25 = .ok (.putfield 21, 3) := by decide +kernel
theorem dX7_init_28 : decode cX7_init 28 = .ok (.iconst 0, 1) := by decide +kernel
theorem dX7_init_29 : decode cX7_init 29 = .ok (.istore_n 1, 1) := by decide +kernel
theorem dX7_init_30 : decode cX7_init 30 = .ok (.iload_n 1, 1) := by decide +kernel
theorem dX7_init_31 : decode cX7_init 31 = .ok (.aload_n 0, 1) := by decide +kernel
theorem dX7_init_32 : decode cX7_init 32 = .ok (.getfield 11, 3) := by decide +kernel
theorem dX7_init_35 : decode cX7_init 35 = .ok (.arraylength, 1) := by decide +kernel
theorem dX7_init_36 : decode cX7_init 36 = .ok (.if_icmp .ge 22, 3) := by decide +kernel
theorem dX7_init_39 : decode cX7_init 39 = .ok (.aload_n 0, 1) := by decide +kernel
theorem dX7_init_40 : decode cX7_init 40 = .ok (.getfield 11, 3) := by decide +kernel
theorem dX7_init_43 : decode cX7_init 43 = .ok (.iload_n 1, 1) := by decide +kernel
theorem dX7_init_44 : decode cX7_init 44 = .ok (.new 9, 3) := by decide +kernel
theorem dX7_init_47 : decode cX7_init 47 = .ok (.dup, 1) := by decide +kernel
theorem dX7_init_48 : decode cX7_init 48 = .ok (.invokespecial 24, 3) := by decide +kernel
theorem dX7_init_51 : decode cX7_init 51 = .ok (.aastore, 1) := by decide +kernel
theorem dX7_init_52 : decode cX7_init 52 = .ok (.iinc 1 1, 3) := by decide +kernel
theorem dX7_init_55 : decode cX7_init 55 = .ok (.goto (-25), 3) := by decide +kernel
theorem dX7_init_58 : decode cX7_init 58 = .ok (.return_, 1) := by decide +kernel
theorem dX6_init_0 : decode cX6_init 0 = .ok (.aload_n 0, 1) := by decide +kernel
theorem dX6_init_1 : decode cX6_init 1 = .ok (.invokespecial 3, 3) := by decide +kernel
theorem dX6_init_4 : decode cX6_init 4 = .ok (.aload_n 0, 1) := by decide +kernel
theorem dX6_init_5 : decode cX6_init 5 = .ok (.sipush 200, 3) := by decide +kernel
theorem dX6_init_8 : decode cX6_init 8 = .ok (.anewarray 9, 3) := by decide +kernel
theorem dX6_init_11 : decode cX6_init 11 = .ok (.putfield 11, 3) := by decide +kernel
theorem dX6_init_14 : decode cX6_init 14 = .ok (.iconst 0, 1) := by decide +kernel
theorem dX6_init_15 : decode cX6_init 15 = .ok (.istore_n 1, 1) := by decide +kernel
theorem dX6_init_16 : decode cX6_init 16 = .ok (.iload_n 1, 1) := by decide +kernel
theorem dX6_init_17 : decode cX6_init 17 = .ok (.sipush 200, 3) := by decide +kernel
theorem dX6_init_20 : decode cX6_init 20 = .ok (.if_icmp .ge 23, 3) := by decide +kernel
theorem dX6_init_23 : decode cX6_init 23 = .ok (.aload_n 0, 1) := by decide +kernel
theorem dX6_init_24 : decode cX6_init 24 = .ok (.getfield 11, 3) := by decide +kernel
theorem dX6_init_27 : decode cX6_init 27 = .ok (.iload_n 1, 1) := by decide +kernel
theorem dX6_init_28 : decode cX6_init 28 = .ok (.new 9, 3) := by decide +kernel
theorem dX6_init_31 : decode cX6_init 31 = .ok (.dup, 1) := by decide +kernel
theorem dX6_init_32 : decode cX6_init 32 = .ok (.iload_n 1, 1) := by decide +kernel
theorem dX6_init_33 : decode cX6_init 33 = .ok (.invokespecial 17, 3) := by decide +kernel
theorem dX6_init_36 : decode cX6_init 36 = .ok (.aastore, 1) := by decide +kernel
theorem dX6_init_37 : decode cX6_init 37 = .ok (.iinc 1 1, 3) := by decide +kernel
theorem dX6_init_40 : decode cX6_init 40 = .ok (.goto (-24), 3) := by decide +kernel
theorem dX6_init_43 : decode cX6_init 43 = .ok (.return_, 1) := by decide +kernel
def f_Router_lp (i0 rw : Nat) : Nat → me_Nt → me_Rt → me_M → Int32 → Option (me_Nt × me_Rt × me_M)
  | 0, _, _, _, _ => none
  | f + 1, n, r, μ, x => if r 13 i0 0 = some (14, rw) then (if 10 ≤ x then some (n, r, μ) else if me_inb x 10 = true then f_Router_lp i0 rw f (n_Row (me_np n 17)) (me_ru (r_Row (me_np n 17) (me_rn r 17 (n 17)) (n 17)) 14 rw (me_ix x) (17, (n 17))) (m_Row (me_np n 17) (me_zc μ 17 (n 17)) (n 17)) (me_inc x (1)) else none) else none
set_option maxHeartbeats 4000000 in
set_option maxRecDepth 100000 in
theorem z_Router_lp {X : me_X} {w : me_w} {i0 rw mc ms fr lo : Nat} {n' : me_Nt} {r' : me_Rt} {μ' : me_M} {a0 : Nat → Nat → Nat} {n0 : me_Nt} (hroom : me_Rm X fr lo mc ms) (hci : me_CI X) (hfl : 2 ≤ fr ∧ 60 ≤ lo)
    (kk : ∀ (a1 : Nat → Nat → Nat) (nc ns : Nat) (x : Int32), nc ≤ mc → ns ≤ ms → me_C X (a1, n', r', w) RX7 cX7_init 2 none → me_agr a0 n0 a1 n' → me_Z X (a1, n', r', w) nc ns μ' 58 [(0, me_r 13 i0), (1, me_i x)] []) :
    ∀ (f : Nat) (a : Nat → Nat → Nat) (n : me_Nt) (r : me_Rt) (μ : me_M) (x : Int32) (nc ns : Nat), nc + 4 * f ≤ mc → ns + 20 * f ≤ ms → me_C X (a, n, r, w) RX7 cX7_init 2 none → me_agr a0 n0 a n → f_Router_lp i0 rw f n r μ x = some (n', r', μ') → me_Z X (a, n, r, w) nc ns μ 30 [(0, me_r 13 i0), (1, me_i x)] [] := by
  intro f
  induction f with
  | zero => intro a n r μ x nc ns _ _ _ _ h; cases h
  | succ f ih =>
    intro a n r μ x nc ns hnc hns C ag hf
    unfold f_Router_lp at hf
    by_cases h0 : r 13 i0 0 = some (14, rw)
    case neg => rw [if_neg h0] at hf; cases hf
    rw [if_pos h0] at hf
    have hnc1 : 4 * (f + 1) = 4 * f + 4 := Nat.mul_succ _ _
    have hns1 : 20 * (f + 1) = 20 * f + 20 := Nat.mul_succ _ _
    refine me_iload_n C 1 dX7_init_30 rfl rfl ?_
    refine me_aload_n C 0 (Or.inr (Or.inl ⟨_, rfl⟩)) dX7_init_31 rfl rfl ?_
    refine me_getq C 0 fg_Router_11 dX7_init_32 rfl h0 ?_
    refine me_alen C (v := 10) rfl (Or.inr rfl) (fun _ => rfl) dX7_init_35 (by decide) ?_
    refine me_icmp_ge C (tgt := 58) dX7_init_36 (by decide) (fun c1 => ?_) (fun c1 => ?_)
    · rw [if_pos c1] at hf
      cases hf
      exact kk a nc ns x (by omega) (by omega) C ag
    · rw [if_neg c1] at hf
      by_cases hin : me_inb x 10 = true
      case neg => rw [if_neg hin] at hf; cases hf
      rw [if_pos hin] at hf
      refine me_aload_n C 0 (Or.inr (Or.inl ⟨_, rfl⟩)) dX7_init_39 rfl rfl ?_
      refine me_getq C 0 fg_Router_11 dX7_init_40 rfl h0 ?_
      refine me_iload_n C 1 dX7_init_43 rfl rfl ?_
      refine me_newO C hroom (k := 17) (by decide) kc_17 dv_17 cl_Router_9 (me_gm 385 (by decide +kernel) (by decide +kernel)) (me_gm 86 (by decide +kernel) (by decide +kernel)) dX7_init_44 ⟨by omega, by omega⟩ (fun a1 g1 C => ?_)
      replace ag := ag.tr g1
      refine me_dup C rfl dX7_init_47 ?_
      refine me_callKN C hroom hci.ao (As := []) (st := [me_r 17 (n 17), me_i x, me_r 14 rw]) (nc + 4) (ns + 20) (k_Row_init (i0 := (n 17))) mi_Row_init nl_Router_24 dX7_init_48 rfl rfl ⟨by decide, by decide⟩ ⟨by omega, by omega, by omega, by omega⟩ (Nat.le_of_ble_eq_true rfl) (fun a2 g2 C => ?_)
      replace ag := ag.tr g2
      refine me_aastR C (rc := vwCl.getD 8 default) rfl rfl rfl (fun _ => rfl) hin dX7_init_51 (fun C => ?_)
      refine me_iinc C (v := (me_inc x (1))) (L' := [(1, me_i (me_inc x (1))), (0, me_r 13 i0)]) dX7_init_52 rfl rfl (by decide) rfl ?_
      refine me_goto C (tgt := 30) dX7_init_55 (by decide) ?_
      refine me_dropI [(0, me_r 13 i0), (1, me_i (me_inc x 1))] [1, 0] rfl ?_
      exact ih _ _ _ _ _ (nc + 4) (ns + 20) (by omega) (by omega) C ag hf
def f_Router_init (i0 : Nat) (n : me_Nt) (r : me_Rt) (μ : me_M) : Option (me_Nt × me_Rt × me_M) := f_Router_lp i0 (n 14) 11 (me_np (me_np (me_np n 14) 15) 16) (me_ru (me_rn (me_ru (me_rn (me_ru (me_rn r 14 (n 14)) 13 i0 0 (14, (n 14))) 15 ((me_np n 14) 15)) 13 i0 1 (15, ((me_np n 14) 15))) 16 ((me_np (me_np n 14) 15) 16)) 13 i0 2 (16, ((me_np (me_np n 14) 15) 16))) (me_zc (me_zc (me_zc μ 14 (n 14)) 15 ((me_np n 14) 15)) 16 ((me_np (me_np n 14) 15) 16)) 0
set_option maxHeartbeats 4000000 in
set_option maxRecDepth 100000 in
theorem k_Router_init {a : Nat → Nat → Nat} {n : me_Nt} {r : me_Rt} {w : me_w} {μ : me_M} {i0 : Nat} {n' : me_Nt} {r' : me_Rt} {μ' : me_M} (hf : f_Router_init i0 n r μ = some (n', r', μ')) : ∀ l E z, l.stackTraces = false → me_MetK l yX7_init cX7_init 2 2 60 47 242 E a n r w μ z [me_r 13 i0] n' r' μ' := by
  intro l E z hl
  refine me_ofK hl (by decide +kernel) rfl (Nat.le_of_ble_eq_true rfl) (fun X C hroom hci K => ?_)
  have ag := me_agr.rf (a := a) (n := n)
  refine me_aload_n C 0 (Or.inr (Or.inl ⟨_, rfl⟩)) dX7_init_0 rfl rfl ?_
  refine me_objI C hroom ml_Router_3 oi_i oi_c dX7_init_1 ⟨by decide, by decide⟩ (Nat.le_of_ble_eq_true rfl) ?_
  refine me_aload_n C 0 (Or.inr (Or.inl ⟨_, rfl⟩)) dX7_init_4 rfl rfl ?_
  refine me_bipush C (v := 10) dX7_init_5 (by decide) ?_
  refine me_newQ C hroom (k := 14) (ai := 5) (N := 10) (Cn := "Meshyard$Row") (by decide) rfl (fun _ h => h.2.2.2) hci cl_Router_9 (fun _ => rfl) (by decide) (by decide) (by decide) dX7_init_7 ⟨by omega, by omega⟩ (fun a1 g1 C => ?_)
  replace ag := ag.tr g1
  refine me_putR C hci (j := 0) kc_13 (by decide) (me_gm 428 (by decide +kernel) (by decide +kernel)) rfl rfl rfl rfl dX7_init_10 (fun C => ?_)
  refine me_aload_n C 0 (Or.inr (Or.inl ⟨_, rfl⟩)) dX7_init_13 rfl rfl ?_
  refine me_bipush C (v := 10) dX7_init_14 (by decide) ?_
  refine me_newI C hroom (k := 15) (ai := 0) (N := 10) (by decide) rfl ac_int (fun _ => rfl) rfl (by decide) (by decide) (by decide) dX7_init_16 ⟨by omega, by omega⟩ (fun a2 g2 C => ?_)
  replace ag := ag.tr g2
  refine me_putR C hci (j := 1) kc_13 (by decide) (me_gm 433 (by decide +kernel) (by decide +kernel)) rfl rfl rfl rfl dX7_init_18 (fun C => ?_)
  refine me_aload_n C 0 (Or.inr (Or.inl ⟨_, rfl⟩)) dX7_init_21 rfl rfl ?_
  refine me_iconst C (v := 2) dX7_init_22 (by decide) ?_
  refine me_newI C hroom (k := 16) (ai := 0) (N := 2) (by decide) rfl ac_int (fun _ => rfl) rfl (by decide) (by decide) (by decide) dX7_init_23 ⟨by omega, by omega⟩ (fun a3 g3 C => ?_)
  replace ag := ag.tr g3
  refine me_putR C hci (j := 2) kc_13 (by decide) (me_gm 435 (by decide +kernel) (by decide +kernel)) rfl rfl rfl rfl dX7_init_25 (fun C => ?_)
  refine me_iconst C (v := 0) dX7_init_28 (by decide) ?_
  refine me_istore_n C 1 dX7_init_29 rfl (by decide) (L' := [(1, me_i 0), (0, me_r 13 i0)]) rfl ?_
  refine me_dropI [(0, me_r 13 i0), (1, me_i 0)] [1, 0] rfl ?_
  exact z_Router_lp hroom hci ⟨by decide, by decide⟩ (fun a1 nc ns x hnc hns C ag => me_vretK C K ag dX7_init_58 hnc hns) 11 _ _ _ _ 0 3 22 (by decide) (by decide) C ag hf
def f_Post_lp (i0 al : Nat) : Nat → me_Nt → me_Rt → me_M → Int32 → Option (me_Nt × me_Rt × me_M)
  | 0, _, _, _, _ => none
  | f + 1, n, r, μ, x => if 200 ≤ x then some (n, r, μ) else if r 6 i0 0 = some (7, al) then (if me_inb x 200 = true then f_Post_lp i0 al f (n_Packet (me_np n 8)) (me_ru (r_Packet (me_np n 8) (me_rn r 8 (n 8)) (n 8)) 7 al (me_ix x) (8, (n 8))) (m_Packet (me_np n 8) (me_zc μ 8 (n 8)) (n 8) x) (me_inc x (1)) else none) else none
set_option maxHeartbeats 4000000 in
set_option maxRecDepth 100000 in
theorem z_Post_lp {X : me_X} {w : me_w} {i0 al mc ms fr lo : Nat} {n' : me_Nt} {r' : me_Rt} {μ' : me_M} {a0 : Nat → Nat → Nat} {n0 : me_Nt} (hroom : me_Rm X fr lo mc ms) (hci : me_CI X) (hfl : 2 ≤ fr ∧ 60 ≤ lo)
    (kk : ∀ (a1 : Nat → Nat → Nat) (nc ns : Nat) (x : Int32), nc ≤ mc → ns ≤ ms → me_C X (a1, n', r', w) RX6 cX6_init 2 none → me_agr a0 n0 a1 n' → me_Z X (a1, n', r', w) nc ns μ' 43 [(0, me_r 6 i0), (1, me_i x)] []) :
    ∀ (f : Nat) (a : Nat → Nat → Nat) (n : me_Nt) (r : me_Rt) (μ : me_M) (x : Int32) (nc ns : Nat), nc + 1 * f ≤ mc → ns + 15 * f ≤ ms → me_C X (a, n, r, w) RX6 cX6_init 2 none → me_agr a0 n0 a n → f_Post_lp i0 al f n r μ x = some (n', r', μ') → me_Z X (a, n, r, w) nc ns μ 16 [(0, me_r 6 i0), (1, me_i x)] [] := by
  intro f
  induction f with
  | zero => intro a n r μ x nc ns _ _ _ _ h; cases h
  | succ f ih =>
    intro a n r μ x nc ns hnc hns C ag hf
    unfold f_Post_lp at hf
    have hnc1 : 1 * (f + 1) = 1 * f + 1 := Nat.mul_succ _ _
    have hns1 : 15 * (f + 1) = 15 * f + 15 := Nat.mul_succ _ _
    refine me_iload_n C 1 dX6_init_16 rfl rfl ?_
    refine me_sipush C (v := 200) dX6_init_17 (by decide) ?_
    refine me_icmp_ge C (tgt := 43) dX6_init_20 (by decide) (fun c1 => ?_) (fun c1 => ?_)
    · rw [if_pos c1] at hf
      cases hf
      exact kk a nc ns x (by omega) (by omega) C ag
    · rw [if_neg c1] at hf
      by_cases h0 : r 6 i0 0 = some (7, al)
      case neg => rw [if_neg h0] at hf; cases hf
      rw [if_pos h0] at hf
      by_cases hin : me_inb x 200 = true
      case neg => rw [if_neg hin] at hf; cases hf
      rw [if_pos hin] at hf
      refine me_aload_n C 0 (Or.inr (Or.inl ⟨_, rfl⟩)) dX6_init_23 rfl rfl ?_
      refine me_getq C 0 fg_Post_11 dX6_init_24 rfl h0 ?_
      refine me_iload_n C 1 dX6_init_27 rfl rfl ?_
      refine me_newO C hroom (k := 8) (by decide) kc_8 dv_8 cl_Post_9 (me_gm 156 (by decide +kernel) (by decide +kernel)) (me_gm 79 (by decide +kernel) (by decide +kernel)) dX6_init_28 ⟨by omega, by omega⟩ (fun a1 g1 C => ?_)
      replace ag := ag.tr g1
      refine me_dup C rfl dX6_init_31 ?_
      refine me_iload_n C 1 dX6_init_32 rfl rfl ?_
      refine me_callK C hroom hci.ao (As := [me_i x]) (st := [me_r 8 (n 8), me_i x, me_r 7 al]) (nc + 1) (ns + 15) (k_Packet_init (i0 := (n 8))) mi_Packet_init ml_Post_17 dX6_init_33 rfl rfl ⟨by decide, by decide⟩ ⟨by omega, by omega, by omega, by omega⟩ (Nat.le_of_ble_eq_true rfl) (fun a2 g2 C => ?_)
      replace ag := ag.tr g2
      refine me_aastR C (rc := vwCl.getD 4 default) rfl rfl rfl (fun _ => rfl) hin dX6_init_36 (fun C => ?_)
      refine me_iinc C (v := (me_inc x (1))) (L' := [(1, me_i (me_inc x (1))), (0, me_r 6 i0)]) dX6_init_37 rfl rfl (by decide) rfl ?_
      refine me_goto C (tgt := 16) dX6_init_40 (by decide) ?_
      refine me_dropI [(0, me_r 6 i0), (1, me_i (me_inc x 1))] [1, 0] rfl ?_
      exact ih _ _ _ _ _ (nc + 1) (ns + 15) (by omega) (by omega) C ag hf
def f_Post_init (i0 : Nat) (n : me_Nt) (r : me_Rt) (μ : me_M) : Option (me_Nt × me_Rt × me_M) := f_Post_lp i0 (n 7) 201 (me_np n 7) (me_ru (me_rn r 7 (n 7)) 6 i0 0 (7, (n 7))) (me_zc μ 7 (n 7)) 0
set_option maxHeartbeats 4000000 in
set_option maxRecDepth 100000 in
theorem k_Post_init {a : Nat → Nat → Nat} {n : me_Nt} {r : me_Rt} {w : me_w} {μ : me_M} {i0 : Nat} {n' : me_Nt} {r' : me_Rt} {μ' : me_M} (hf : f_Post_init i0 n r μ = some (n', r', μ')) : ∀ l E z, l.stackTraces = false → me_MetK l yX6_init cX6_init 2 2 60 202 3215 E a n r w μ z [me_r 6 i0] n' r' μ' := by
  intro l E z hl
  refine me_ofK hl (by decide +kernel) rfl (Nat.le_of_ble_eq_true rfl) (fun X C hroom hci K => ?_)
  have ag := me_agr.rf (a := a) (n := n)
  refine me_aload_n C 0 (Or.inr (Or.inl ⟨_, rfl⟩)) dX6_init_0 rfl rfl ?_
  refine me_objI C hroom ml_Post_3 oi_i oi_c dX6_init_1 ⟨by decide, by decide⟩ (Nat.le_of_ble_eq_true rfl) ?_
  refine me_aload_n C 0 (Or.inr (Or.inl ⟨_, rfl⟩)) dX6_init_4 rfl rfl ?_
  refine me_sipush C (v := 200) dX6_init_5 (by decide) ?_
  refine me_newQ C hroom (k := 7) (ai := 8) (N := 200) (Cn := "Meshyard$Packet") (by decide) rfl (fun _ h => h.1) hci cl_Post_9 (fun _ => rfl) (by decide) (by decide) (by decide) dX6_init_8 ⟨by omega, by omega⟩ (fun a1 g1 C => ?_)
  replace ag := ag.tr g1
  refine me_putR C hci (j := 0) kc_6 (by decide) (me_gm 242 (by decide +kernel) (by decide +kernel)) rfl rfl rfl rfl dX6_init_11 (fun C => ?_)
  refine me_iconst C (v := 0) dX6_init_14 (by decide) ?_
  refine me_istore_n C 1 dX6_init_15 rfl (by decide) (L' := [(1, me_i 0), (0, me_r 6 i0)]) rfl ?_
  refine me_dropI [(0, me_r 6 i0), (1, me_i 0)] [1, 0] rfl ?_
  exact z_Post_lp hroom hci ⟨by decide, by decide⟩ (fun a1 nc ns x hnc hns C ag => me_vretK C K ag dX6_init_43 hnc hns) 201 _ _ _ _ 0 1 200 (by decide) (by decide) C ag hf
