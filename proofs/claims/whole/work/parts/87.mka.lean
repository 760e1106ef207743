/-! A NEW PACKET -/
def gh_mk (a : me_S) (k : Int32) (s g : Nat) (w : Int32) (b : Nat) : me_S := (me_S.s_np (me_S.s_an (me_S.s_ad (me_S.s_pl (me_S.s_dn (me_S.s_ma (me_S.s_hd (me_S.s_tk (me_S.s_pt (me_S.s_bo (me_S.s_wd (me_S.s_gl (me_S.s_sr (me_S.s_st (me_S.s_kd a (me_fu a.kd a.np k)) (me_fu a.st a.np 115)) (me_fu a.sr a.np s)) (me_fu a.gl a.np g)) (me_fu a.wd a.np w)) (me_fu a.bo a.np b)) (me_fu a.pt a.np 0)) (me_fu a.tk a.np 0)) (me_fu a.hd a.np none)) (me_fu a.ma a.np a.bt)) (me_fu a.dn a.np none)) (me_fu a.pl a.np 0)) (me_fu a.ad a.np 0)) (me_fu a.an a.np none)) (a.np + 1))
theorem me_RC.w_make0 {a : me_S} {μ : me_M} (h : me_RC a μ) (k : Int32) (s g : Nat) (w : Int32) (b : Nat) : me_RC (me_S.s_np (me_S.s_an (me_S.s_ad (me_S.s_pl (me_S.s_dn (me_S.s_ma (me_S.s_hd (me_S.s_tk (me_S.s_pt (me_S.s_bo (me_S.s_wd (me_S.s_gl (me_S.s_sr (me_S.s_st (me_S.s_kd a (me_fu a.kd a.np k)) (me_fu a.st a.np 115)) (me_fu a.sr a.np s)) (me_fu a.gl a.np g)) (me_fu a.wd a.np w)) (me_fu a.bo a.np b)) (me_fu a.pt a.np 0)) (me_fu a.tk a.np 0)) (me_fu a.hd a.np none)) (me_fu a.ma a.np a.bt)) (me_fu a.dn a.np none)) (me_fu a.pl a.np 0)) (me_fu a.ad a.np 0)) (me_fu a.an a.np none)) (a.np + 1)) (me_up (me_up (me_up (me_up (me_up (me_up (me_up (me_up (me_up (me_up (me_up (me_up (me_up (me_up (me_up μ 8 a.np 1 (k)) 8 a.np 2 (115)) 8 a.np 3 (me_N s)) 8 a.np 4 (me_N g)) 8 a.np 5 (w)) 8 a.np 6 (me_N (b + 1))) 8 a.np 7 (0)) 8 a.np 8 (0)) 8 a.np 9 (-1)) 8 a.np 10 (me_N a.bt)) 8 a.np 11 (-1)) 8 a.np 12 (0)) 8 a.np 13 (0)) 8 a.np 14 (-1)) 6 0 1 (me_N (a.np + 1))) :=
  me_RC.mk ((me_up_kn (by decide)).trans ((me_up_kn (by decide)).trans ((me_up_kn (by decide)).trans ((me_up_kn (by decide)).trans ((me_up_kn (by decide)).trans ((me_up_kn (by decide)).trans ((me_up_kn (by decide)).trans ((me_up_kn (by decide)).trans ((me_up_kn (by decide)).trans ((me_up_kn (by decide)).trans ((me_up_kn (by decide)).trans ((me_up_kn (by decide)).trans ((me_up_kn (by decide)).trans ((me_up_kn (by decide)).trans ((me_up_kn (by decide)).trans (h.rp))))))))))))))))
    ((me_up_kn (by decide)).trans ((me_up_kn (by decide)).trans ((me_up_kn (by decide)).trans ((me_up_kn (by decide)).trans ((me_up_kn (by decide)).trans ((me_up_kn (by decide)).trans ((me_up_kn (by decide)).trans ((me_up_kn (by decide)).trans ((me_up_kn (by decide)).trans ((me_up_kn (by decide)).trans ((me_up_kn (by decide)).trans ((me_up_kn (by decide)).trans ((me_up_kn (by decide)).trans ((me_up_kn (by decide)).trans ((me_up_kn (by decide)).trans (h.nn))))))))))))))))
    (fun n d g0 g1 => (me_up_kn (by decide)).trans ((me_up_kn (by decide)).trans ((me_up_kn (by decide)).trans ((me_up_kn (by decide)).trans ((me_up_kn (by decide)).trans ((me_up_kn (by decide)).trans ((me_up_kn (by decide)).trans ((me_up_kn (by decide)).trans ((me_up_kn (by decide)).trans ((me_up_kn (by decide)).trans ((me_up_kn (by decide)).trans ((me_up_kn (by decide)).trans ((me_up_kn (by decide)).trans ((me_up_kn (by decide)).trans ((me_up_kn (by decide)).trans (h.ah n d g0 g1))))))))))))))))
    (fun n d g0 g1 => (me_up_kn (by decide)).trans ((me_up_kn (by decide)).trans ((me_up_kn (by decide)).trans ((me_up_kn (by decide)).trans ((me_up_kn (by decide)).trans ((me_up_kn (by decide)).trans ((me_up_kn (by decide)).trans ((me_up_kn (by decide)).trans ((me_up_kn (by decide)).trans ((me_up_kn (by decide)).trans ((me_up_kn (by decide)).trans ((me_up_kn (by decide)).trans ((me_up_kn (by decide)).trans ((me_up_kn (by decide)).trans ((me_up_kn (by decide)).trans (h.fl n d g0 g1))))))))))))))))
    (fun n g0 => (me_up_kn (by decide)).trans ((me_up_kn (by decide)).trans ((me_up_kn (by decide)).trans ((me_up_kn (by decide)).trans ((me_up_kn (by decide)).trans ((me_up_kn (by decide)).trans ((me_up_kn (by decide)).trans ((me_up_kn (by decide)).trans ((me_up_kn (by decide)).trans ((me_up_kn (by decide)).trans ((me_up_kn (by decide)).trans ((me_up_kn (by decide)).trans ((me_up_kn (by decide)).trans ((me_up_kn (by decide)).trans ((me_up_kn (by decide)).trans (h.cl n g0))))))))))))))))
    (fun n g0 => (me_up_kn (by decide)).trans ((me_up_kn (by decide)).trans ((me_up_kn (by decide)).trans ((me_up_kn (by decide)).trans ((me_up_kn (by decide)).trans ((me_up_kn (by decide)).trans ((me_up_kn (by decide)).trans ((me_up_kn (by decide)).trans ((me_up_kn (by decide)).trans ((me_up_kn (by decide)).trans ((me_up_kn (by decide)).trans ((me_up_kn (by decide)).trans ((me_up_kn (by decide)).trans ((me_up_kn (by decide)).trans ((me_up_kn (by decide)).trans (h.li n g0))))))))))))))))
    (by
      show (me_up (me_up (me_up (me_up (me_up (me_up (me_up (me_up (me_up (me_up (me_up (me_up (me_up (me_up (me_up μ 8 a.np 1 (k)) 8 a.np 2 (115)) 8 a.np 3 (me_N s)) 8 a.np 4 (me_N g)) 8 a.np 5 (w)) 8 a.np 6 (me_N (b + 1))) 8 a.np 7 (0)) 8 a.np 8 (0)) 8 a.np 9 (-1)) 8 a.np 10 (me_N a.bt)) 8 a.np 11 (-1)) 8 a.np 12 (0)) 8 a.np 13 (0)) 8 a.np 14 (-1)) 6 0 1 (me_N (a.np + 1))) 6 0 1 = me_N (a.np + 1)
      exact me_up_at)
    ((me_up_jn (by decide)).trans ((me_up_kn (by decide)).trans ((me_up_kn (by decide)).trans ((me_up_kn (by decide)).trans ((me_up_kn (by decide)).trans ((me_up_kn (by decide)).trans ((me_up_kn (by decide)).trans ((me_up_kn (by decide)).trans ((me_up_kn (by decide)).trans ((me_up_kn (by decide)).trans ((me_up_kn (by decide)).trans ((me_up_kn (by decide)).trans ((me_up_kn (by decide)).trans ((me_up_kn (by decide)).trans ((me_up_kn (by decide)).trans (h.ow))))))))))))))))
    (fun i g0 => (me_up_kn (by decide)).trans ((me_up_jn (by decide)).trans ((me_up_jn (by decide)).trans ((me_up_jn (by decide)).trans ((me_up_jn (by decide)).trans ((me_up_jn (by decide)).trans ((me_up_jn (by decide)).trans ((me_up_jn (by decide)).trans ((me_up_jn (by decide)).trans ((me_up_jn (by decide)).trans ((me_up_jn (by decide)).trans ((me_up_jn (by decide)).trans ((me_up_jn (by decide)).trans ((me_up_jn (by decide)).trans ((me_up_jn (by decide)).trans (h.p0 i g0))))))))))))))))
    (fun i => by
      show (me_up (me_up (me_up (me_up (me_up (me_up (me_up (me_up (me_up (me_up (me_up (me_up (me_up (me_up (me_up μ 8 a.np 1 (k)) 8 a.np 2 (115)) 8 a.np 3 (me_N s)) 8 a.np 4 (me_N g)) 8 a.np 5 (w)) 8 a.np 6 (me_N (b + 1))) 8 a.np 7 (0)) 8 a.np 8 (0)) 8 a.np 9 (-1)) 8 a.np 10 (me_N a.bt)) 8 a.np 11 (-1)) 8 a.np 12 (0)) 8 a.np 13 (0)) 8 a.np 14 (-1)) 6 0 1 (me_N (a.np + 1))) 8 i 1 = (me_fu a.kd a.np k) i
      by_cases e : i = a.np
      · subst e
        simp only [me_up_ap, me_fu_ap]
        simp [me_Op]
      · simp only [me_up_ap, me_fu_ap]
        simp [e]
        exact h.kd i)
    (fun i => by
      show (me_up (me_up (me_up (me_up (me_up (me_up (me_up (me_up (me_up (me_up (me_up (me_up (me_up (me_up (me_up μ 8 a.np 1 (k)) 8 a.np 2 (115)) 8 a.np 3 (me_N s)) 8 a.np 4 (me_N g)) 8 a.np 5 (w)) 8 a.np 6 (me_N (b + 1))) 8 a.np 7 (0)) 8 a.np 8 (0)) 8 a.np 9 (-1)) 8 a.np 10 (me_N a.bt)) 8 a.np 11 (-1)) 8 a.np 12 (0)) 8 a.np 13 (0)) 8 a.np 14 (-1)) 6 0 1 (me_N (a.np + 1))) 8 i 2 = (me_fu a.st a.np 115) i
      by_cases e : i = a.np
      · subst e
        simp only [me_up_ap, me_fu_ap]
        simp [me_Op]
      · simp only [me_up_ap, me_fu_ap]
        simp [e]
        exact h.st i)
    (fun i => by
      show (me_up (me_up (me_up (me_up (me_up (me_up (me_up (me_up (me_up (me_up (me_up (me_up (me_up (me_up (me_up μ 8 a.np 1 (k)) 8 a.np 2 (115)) 8 a.np 3 (me_N s)) 8 a.np 4 (me_N g)) 8 a.np 5 (w)) 8 a.np 6 (me_N (b + 1))) 8 a.np 7 (0)) 8 a.np 8 (0)) 8 a.np 9 (-1)) 8 a.np 10 (me_N a.bt)) 8 a.np 11 (-1)) 8 a.np 12 (0)) 8 a.np 13 (0)) 8 a.np 14 (-1)) 6 0 1 (me_N (a.np + 1))) 8 i 3 = me_N ((me_fu a.sr a.np s) i)
      by_cases e : i = a.np
      · subst e
        simp only [me_up_ap, me_fu_ap]
        simp [me_Op]
      · simp only [me_up_ap, me_fu_ap]
        simp [e]
        exact h.sr i)
    (fun i => by
      show (me_up (me_up (me_up (me_up (me_up (me_up (me_up (me_up (me_up (me_up (me_up (me_up (me_up (me_up (me_up μ 8 a.np 1 (k)) 8 a.np 2 (115)) 8 a.np 3 (me_N s)) 8 a.np 4 (me_N g)) 8 a.np 5 (w)) 8 a.np 6 (me_N (b + 1))) 8 a.np 7 (0)) 8 a.np 8 (0)) 8 a.np 9 (-1)) 8 a.np 10 (me_N a.bt)) 8 a.np 11 (-1)) 8 a.np 12 (0)) 8 a.np 13 (0)) 8 a.np 14 (-1)) 6 0 1 (me_N (a.np + 1))) 8 i 4 = me_N ((me_fu a.gl a.np g) i)
      by_cases e : i = a.np
      · subst e
        simp only [me_up_ap, me_fu_ap]
        simp [me_Op]
      · simp only [me_up_ap, me_fu_ap]
        simp [e]
        exact h.gl i)
    (fun i => by
      show (me_up (me_up (me_up (me_up (me_up (me_up (me_up (me_up (me_up (me_up (me_up (me_up (me_up (me_up (me_up μ 8 a.np 1 (k)) 8 a.np 2 (115)) 8 a.np 3 (me_N s)) 8 a.np 4 (me_N g)) 8 a.np 5 (w)) 8 a.np 6 (me_N (b + 1))) 8 a.np 7 (0)) 8 a.np 8 (0)) 8 a.np 9 (-1)) 8 a.np 10 (me_N a.bt)) 8 a.np 11 (-1)) 8 a.np 12 (0)) 8 a.np 13 (0)) 8 a.np 14 (-1)) 6 0 1 (me_N (a.np + 1))) 8 i 5 = (me_fu a.wd a.np w) i
      by_cases e : i = a.np
      · subst e
        simp only [me_up_ap, me_fu_ap]
        simp [me_Op]
      · simp only [me_up_ap, me_fu_ap]
        simp [e]
        exact h.wd i)
    (fun i g0 => by
      show (me_up (me_up (me_up (me_up (me_up (me_up (me_up (me_up (me_up (me_up (me_up (me_up (me_up (me_up (me_up μ 8 a.np 1 (k)) 8 a.np 2 (115)) 8 a.np 3 (me_N s)) 8 a.np 4 (me_N g)) 8 a.np 5 (w)) 8 a.np 6 (me_N (b + 1))) 8 a.np 7 (0)) 8 a.np 8 (0)) 8 a.np 9 (-1)) 8 a.np 10 (me_N a.bt)) 8 a.np 11 (-1)) 8 a.np 12 (0)) 8 a.np 13 (0)) 8 a.np 14 (-1)) 6 0 1 (me_N (a.np + 1))) 8 i 6 = me_N ((me_fu a.bo a.np b) i + 1)
      replace g0 : i < a.np + 1 := g0
      by_cases e : i = a.np
      · subst e
        simp only [me_up_ap, me_fu_ap]
        simp [me_Op]
      · simp only [me_up_ap, me_fu_ap]
        simp [e]
        exact h.bo i (by omega))
    (fun i => by
      show (me_up (me_up (me_up (me_up (me_up (me_up (me_up (me_up (me_up (me_up (me_up (me_up (me_up (me_up (me_up μ 8 a.np 1 (k)) 8 a.np 2 (115)) 8 a.np 3 (me_N s)) 8 a.np 4 (me_N g)) 8 a.np 5 (w)) 8 a.np 6 (me_N (b + 1))) 8 a.np 7 (0)) 8 a.np 8 (0)) 8 a.np 9 (-1)) 8 a.np 10 (me_N a.bt)) 8 a.np 11 (-1)) 8 a.np 12 (0)) 8 a.np 13 (0)) 8 a.np 14 (-1)) 6 0 1 (me_N (a.np + 1))) 8 i 7 = me_N ((me_fu a.pt a.np 0) i)
      by_cases e : i = a.np
      · subst e
        simp only [me_up_ap, me_fu_ap]
        simp [me_Op]
        rfl
      · simp only [me_up_ap, me_fu_ap]
        simp [e]
        exact h.pt i)
    (fun i => by
      show (me_up (me_up (me_up (me_up (me_up (me_up (me_up (me_up (me_up (me_up (me_up (me_up (me_up (me_up (me_up μ 8 a.np 1 (k)) 8 a.np 2 (115)) 8 a.np 3 (me_N s)) 8 a.np 4 (me_N g)) 8 a.np 5 (w)) 8 a.np 6 (me_N (b + 1))) 8 a.np 7 (0)) 8 a.np 8 (0)) 8 a.np 9 (-1)) 8 a.np 10 (me_N a.bt)) 8 a.np 11 (-1)) 8 a.np 12 (0)) 8 a.np 13 (0)) 8 a.np 14 (-1)) 6 0 1 (me_N (a.np + 1))) 8 i 8 = me_N ((me_fu a.tk a.np 0) i)
      by_cases e : i = a.np
      · subst e
        simp only [me_up_ap, me_fu_ap]
        simp [me_Op]
        rfl
      · simp only [me_up_ap, me_fu_ap]
        simp [e]
        exact h.tk i)
    (fun i g0 => by
      show (me_up (me_up (me_up (me_up (me_up (me_up (me_up (me_up (me_up (me_up (me_up (me_up (me_up (me_up (me_up μ 8 a.np 1 (k)) 8 a.np 2 (115)) 8 a.np 3 (me_N s)) 8 a.np 4 (me_N g)) 8 a.np 5 (w)) 8 a.np 6 (me_N (b + 1))) 8 a.np 7 (0)) 8 a.np 8 (0)) 8 a.np 9 (-1)) 8 a.np 10 (me_N a.bt)) 8 a.np 11 (-1)) 8 a.np 12 (0)) 8 a.np 13 (0)) 8 a.np 14 (-1)) 6 0 1 (me_N (a.np + 1))) 8 i 9 = me_Op ((me_fu a.hd a.np none) i)
      replace g0 : i < a.np + 1 := g0
      by_cases e : i = a.np
      · subst e
        simp only [me_up_ap, me_fu_ap]
        simp [me_Op]
      · simp only [me_up_ap, me_fu_ap]
        simp [e]
        exact h.hd i (by omega))
    (fun i => by
      show (me_up (me_up (me_up (me_up (me_up (me_up (me_up (me_up (me_up (me_up (me_up (me_up (me_up (me_up (me_up μ 8 a.np 1 (k)) 8 a.np 2 (115)) 8 a.np 3 (me_N s)) 8 a.np 4 (me_N g)) 8 a.np 5 (w)) 8 a.np 6 (me_N (b + 1))) 8 a.np 7 (0)) 8 a.np 8 (0)) 8 a.np 9 (-1)) 8 a.np 10 (me_N a.bt)) 8 a.np 11 (-1)) 8 a.np 12 (0)) 8 a.np 13 (0)) 8 a.np 14 (-1)) 6 0 1 (me_N (a.np + 1))) 8 i 10 = me_N ((me_fu a.ma a.np a.bt) i)
      by_cases e : i = a.np
      · subst e
        simp only [me_up_ap, me_fu_ap]
        simp [me_Op]
      · simp only [me_up_ap, me_fu_ap]
        simp [e]
        exact h.ma i)
    (fun i g0 => by
      show (me_up (me_up (me_up (me_up (me_up (me_up (me_up (me_up (me_up (me_up (me_up (me_up (me_up (me_up (me_up μ 8 a.np 1 (k)) 8 a.np 2 (115)) 8 a.np 3 (me_N s)) 8 a.np 4 (me_N g)) 8 a.np 5 (w)) 8 a.np 6 (me_N (b + 1))) 8 a.np 7 (0)) 8 a.np 8 (0)) 8 a.np 9 (-1)) 8 a.np 10 (me_N a.bt)) 8 a.np 11 (-1)) 8 a.np 12 (0)) 8 a.np 13 (0)) 8 a.np 14 (-1)) 6 0 1 (me_N (a.np + 1))) 8 i 11 = me_Op ((me_fu a.dn a.np none) i)
      replace g0 : i < a.np + 1 := g0
      by_cases e : i = a.np
      · subst e
        simp only [me_up_ap, me_fu_ap]
        simp [me_Op]
      · simp only [me_up_ap, me_fu_ap]
        simp [e]
        exact h.dn i (by omega))
    (fun i => by
      show (me_up (me_up (me_up (me_up (me_up (me_up (me_up (me_up (me_up (me_up (me_up (me_up (me_up (me_up (me_up μ 8 a.np 1 (k)) 8 a.np 2 (115)) 8 a.np 3 (me_N s)) 8 a.np 4 (me_N g)) 8 a.np 5 (w)) 8 a.np 6 (me_N (b + 1))) 8 a.np 7 (0)) 8 a.np 8 (0)) 8 a.np 9 (-1)) 8 a.np 10 (me_N a.bt)) 8 a.np 11 (-1)) 8 a.np 12 (0)) 8 a.np 13 (0)) 8 a.np 14 (-1)) 6 0 1 (me_N (a.np + 1))) 8 i 12 = me_N ((me_fu a.pl a.np 0) i)
      by_cases e : i = a.np
      · subst e
        simp only [me_up_ap, me_fu_ap]
        simp [me_Op]
        rfl
      · simp only [me_up_ap, me_fu_ap]
        simp [e]
        exact h.pl i)
    (fun i => by
      show (me_up (me_up (me_up (me_up (me_up (me_up (me_up (me_up (me_up (me_up (me_up (me_up (me_up (me_up (me_up μ 8 a.np 1 (k)) 8 a.np 2 (115)) 8 a.np 3 (me_N s)) 8 a.np 4 (me_N g)) 8 a.np 5 (w)) 8 a.np 6 (me_N (b + 1))) 8 a.np 7 (0)) 8 a.np 8 (0)) 8 a.np 9 (-1)) 8 a.np 10 (me_N a.bt)) 8 a.np 11 (-1)) 8 a.np 12 (0)) 8 a.np 13 (0)) 8 a.np 14 (-1)) 6 0 1 (me_N (a.np + 1))) 8 i 13 = (me_fu a.ad a.np 0) i
      by_cases e : i = a.np
      · subst e
        simp only [me_up_ap, me_fu_ap]
        simp [me_Op]
      · simp only [me_up_ap, me_fu_ap]
        simp [e]
        exact h.ad i)
    (fun i g0 => by
      show (me_up (me_up (me_up (me_up (me_up (me_up (me_up (me_up (me_up (me_up (me_up (me_up (me_up (me_up (me_up μ 8 a.np 1 (k)) 8 a.np 2 (115)) 8 a.np 3 (me_N s)) 8 a.np 4 (me_N g)) 8 a.np 5 (w)) 8 a.np 6 (me_N (b + 1))) 8 a.np 7 (0)) 8 a.np 8 (0)) 8 a.np 9 (-1)) 8 a.np 10 (me_N a.bt)) 8 a.np 11 (-1)) 8 a.np 12 (0)) 8 a.np 13 (0)) 8 a.np 14 (-1)) 6 0 1 (me_N (a.np + 1))) 8 i 14 = me_Op ((me_fu a.an a.np none) i)
      replace g0 : i < a.np + 1 := g0
      by_cases e : i = a.np
      · subst e
        simp only [me_up_ap, me_fu_ap]
        simp [me_Op]
      · simp only [me_up_ap, me_fu_ap]
        simp [e]
        exact h.an i (by omega))
    ((me_up_kn (by decide)).trans ((me_up_kn (by decide)).trans ((me_up_kn (by decide)).trans ((me_up_kn (by decide)).trans ((me_up_kn (by decide)).trans ((me_up_kn (by decide)).trans ((me_up_kn (by decide)).trans ((me_up_kn (by decide)).trans ((me_up_kn (by decide)).trans ((me_up_kn (by decide)).trans ((me_up_kn (by decide)).trans ((me_up_kn (by decide)).trans ((me_up_kn (by decide)).trans ((me_up_kn (by decide)).trans ((me_up_kn (by decide)).trans (h.nt))))))))))))))))
    (fun i g0 => (me_up_kn (by decide)).trans ((me_up_kn (by decide)).trans ((me_up_kn (by decide)).trans ((me_up_kn (by decide)).trans ((me_up_kn (by decide)).trans ((me_up_kn (by decide)).trans ((me_up_kn (by decide)).trans ((me_up_kn (by decide)).trans ((me_up_kn (by decide)).trans ((me_up_kn (by decide)).trans ((me_up_kn (by decide)).trans ((me_up_kn (by decide)).trans ((me_up_kn (by decide)).trans ((me_up_kn (by decide)).trans ((me_up_kn (by decide)).trans (h.tn i g0))))))))))))))))
    (fun i j g0 g1 => (me_up_kn (by decide)).trans ((me_up_kn (by decide)).trans ((me_up_kn (by decide)).trans ((me_up_kn (by decide)).trans ((me_up_kn (by decide)).trans ((me_up_kn (by decide)).trans ((me_up_kn (by decide)).trans ((me_up_kn (by decide)).trans ((me_up_kn (by decide)).trans ((me_up_kn (by decide)).trans ((me_up_kn (by decide)).trans ((me_up_kn (by decide)).trans ((me_up_kn (by decide)).trans ((me_up_kn (by decide)).trans ((me_up_kn (by decide)).trans (h.tr i j g0 g1))))))))))))))))
    (fun n g0 => (me_up_kn (by decide)).trans ((me_up_kn (by decide)).trans ((me_up_kn (by decide)).trans ((me_up_kn (by decide)).trans ((me_up_kn (by decide)).trans ((me_up_kn (by decide)).trans ((me_up_kn (by decide)).trans ((me_up_kn (by decide)).trans ((me_up_kn (by decide)).trans ((me_up_kn (by decide)).trans ((me_up_kn (by decide)).trans ((me_up_kn (by decide)).trans ((me_up_kn (by decide)).trans ((me_up_kn (by decide)).trans ((me_up_kn (by decide)).trans (h.aw n g0))))))))))))))))
    (fun n k g0 g1 => (me_up_kn (by decide)).trans ((me_up_kn (by decide)).trans ((me_up_kn (by decide)).trans ((me_up_kn (by decide)).trans ((me_up_kn (by decide)).trans ((me_up_kn (by decide)).trans ((me_up_kn (by decide)).trans ((me_up_kn (by decide)).trans ((me_up_kn (by decide)).trans ((me_up_kn (by decide)).trans ((me_up_kn (by decide)).trans ((me_up_kn (by decide)).trans ((me_up_kn (by decide)).trans ((me_up_kn (by decide)).trans ((me_up_kn (by decide)).trans (h.lr n k g0 g1))))))))))))))))
    (fun n c g0 g1 => (me_up_kn (by decide)).trans ((me_up_kn (by decide)).trans ((me_up_kn (by decide)).trans ((me_up_kn (by decide)).trans ((me_up_kn (by decide)).trans ((me_up_kn (by decide)).trans ((me_up_kn (by decide)).trans ((me_up_kn (by decide)).trans ((me_up_kn (by decide)).trans ((me_up_kn (by decide)).trans ((me_up_kn (by decide)).trans ((me_up_kn (by decide)).trans ((me_up_kn (by decide)).trans ((me_up_kn (by decide)).trans ((me_up_kn (by decide)).trans (h.fp n c g0 g1))))))))))))))))
    (fun r g0 => (me_up_kn (by decide)).trans ((me_up_kn (by decide)).trans ((me_up_kn (by decide)).trans ((me_up_kn (by decide)).trans ((me_up_kn (by decide)).trans ((me_up_kn (by decide)).trans ((me_up_kn (by decide)).trans ((me_up_kn (by decide)).trans ((me_up_kn (by decide)).trans ((me_up_kn (by decide)).trans ((me_up_kn (by decide)).trans ((me_up_kn (by decide)).trans ((me_up_kn (by decide)).trans ((me_up_kn (by decide)).trans ((me_up_kn (by decide)).trans (h.qn r g0))))))))))))))))
    (fun r g0 => (me_up_kn (by decide)).trans ((me_up_kn (by decide)).trans ((me_up_kn (by decide)).trans ((me_up_kn (by decide)).trans ((me_up_kn (by decide)).trans ((me_up_kn (by decide)).trans ((me_up_kn (by decide)).trans ((me_up_kn (by decide)).trans ((me_up_kn (by decide)).trans ((me_up_kn (by decide)).trans ((me_up_kn (by decide)).trans ((me_up_kn (by decide)).trans ((me_up_kn (by decide)).trans ((me_up_kn (by decide)).trans ((me_up_kn (by decide)).trans (h.qp r g0))))))))))))))))
    (fun r g0 => (me_up_kn (by decide)).trans ((me_up_kn (by decide)).trans ((me_up_kn (by decide)).trans ((me_up_kn (by decide)).trans ((me_up_kn (by decide)).trans ((me_up_kn (by decide)).trans ((me_up_kn (by decide)).trans ((me_up_kn (by decide)).trans ((me_up_kn (by decide)).trans ((me_up_kn (by decide)).trans ((me_up_kn (by decide)).trans ((me_up_kn (by decide)).trans ((me_up_kn (by decide)).trans ((me_up_kn (by decide)).trans ((me_up_kn (by decide)).trans (h.ro r g0))))))))))))))))
    (fun r g0 => (me_up_kn (by decide)).trans ((me_up_kn (by decide)).trans ((me_up_kn (by decide)).trans ((me_up_kn (by decide)).trans ((me_up_kn (by decide)).trans ((me_up_kn (by decide)).trans ((me_up_kn (by decide)).trans ((me_up_kn (by decide)).trans ((me_up_kn (by decide)).trans ((me_up_kn (by decide)).trans ((me_up_kn (by decide)).trans ((me_up_kn (by decide)).trans ((me_up_kn (by decide)).trans ((me_up_kn (by decide)).trans ((me_up_kn (by decide)).trans (h.rh r g0))))))))))))))))
    (fun r g0 => (me_up_kn (by decide)).trans ((me_up_kn (by decide)).trans ((me_up_kn (by decide)).trans ((me_up_kn (by decide)).trans ((me_up_kn (by decide)).trans ((me_up_kn (by decide)).trans ((me_up_kn (by decide)).trans ((me_up_kn (by decide)).trans ((me_up_kn (by decide)).trans ((me_up_kn (by decide)).trans ((me_up_kn (by decide)).trans ((me_up_kn (by decide)).trans ((me_up_kn (by decide)).trans ((me_up_kn (by decide)).trans ((me_up_kn (by decide)).trans (h.rg r g0))))))))))))))))
    (fun r j e g0 g1 => (me_up_kn (by decide)).trans ((me_up_kn (by decide)).trans ((me_up_kn (by decide)).trans ((me_up_kn (by decide)).trans ((me_up_kn (by decide)).trans ((me_up_kn (by decide)).trans ((me_up_kn (by decide)).trans ((me_up_kn (by decide)).trans ((me_up_kn (by decide)).trans ((me_up_kn (by decide)).trans ((me_up_kn (by decide)).trans ((me_up_kn (by decide)).trans ((me_up_kn (by decide)).trans ((me_up_kn (by decide)).trans ((me_up_kn (by decide)).trans (h.q1 r j e g0 g1))))))))))))))))
    (fun r j e g0 g1 => (me_up_kn (by decide)).trans ((me_up_kn (by decide)).trans ((me_up_kn (by decide)).trans ((me_up_kn (by decide)).trans ((me_up_kn (by decide)).trans ((me_up_kn (by decide)).trans ((me_up_kn (by decide)).trans ((me_up_kn (by decide)).trans ((me_up_kn (by decide)).trans ((me_up_kn (by decide)).trans ((me_up_kn (by decide)).trans ((me_up_kn (by decide)).trans ((me_up_kn (by decide)).trans ((me_up_kn (by decide)).trans ((me_up_kn (by decide)).trans (h.q2 r j e g0 g1))))))))))))))))
    (fun r j e g0 g1 => (me_up_kn (by decide)).trans ((me_up_kn (by decide)).trans ((me_up_kn (by decide)).trans ((me_up_kn (by decide)).trans ((me_up_kn (by decide)).trans ((me_up_kn (by decide)).trans ((me_up_kn (by decide)).trans ((me_up_kn (by decide)).trans ((me_up_kn (by decide)).trans ((me_up_kn (by decide)).trans ((me_up_kn (by decide)).trans ((me_up_kn (by decide)).trans ((me_up_kn (by decide)).trans ((me_up_kn (by decide)).trans ((me_up_kn (by decide)).trans (h.q3 r j e g0 g1))))))))))))))))
    (fun n g0 => (me_up_kn (by decide)).trans ((me_up_kn (by decide)).trans ((me_up_kn (by decide)).trans ((me_up_kn (by decide)).trans ((me_up_kn (by decide)).trans ((me_up_kn (by decide)).trans ((me_up_kn (by decide)).trans ((me_up_kn (by decide)).trans ((me_up_kn (by decide)).trans ((me_up_kn (by decide)).trans ((me_up_kn (by decide)).trans ((me_up_kn (by decide)).trans ((me_up_kn (by decide)).trans ((me_up_kn (by decide)).trans ((me_up_kn (by decide)).trans (h.dp n g0))))))))))))))))
    (fun n g0 => (me_up_kn (by decide)).trans ((me_up_kn (by decide)).trans ((me_up_kn (by decide)).trans ((me_up_kn (by decide)).trans ((me_up_kn (by decide)).trans ((me_up_kn (by decide)).trans ((me_up_kn (by decide)).trans ((me_up_kn (by decide)).trans ((me_up_kn (by decide)).trans ((me_up_kn (by decide)).trans ((me_up_kn (by decide)).trans ((me_up_kn (by decide)).trans ((me_up_kn (by decide)).trans ((me_up_kn (by decide)).trans ((me_up_kn (by decide)).trans (h.ln n g0))))))))))))))))
    (fun n g0 => (me_up_kn (by decide)).trans ((me_up_kn (by decide)).trans ((me_up_kn (by decide)).trans ((me_up_kn (by decide)).trans ((me_up_kn (by decide)).trans ((me_up_kn (by decide)).trans ((me_up_kn (by decide)).trans ((me_up_kn (by decide)).trans ((me_up_kn (by decide)).trans ((me_up_kn (by decide)).trans ((me_up_kn (by decide)).trans ((me_up_kn (by decide)).trans ((me_up_kn (by decide)).trans ((me_up_kn (by decide)).trans ((me_up_kn (by decide)).trans (h.ca n g0))))))))))))))))
    (fun n g0 => (me_up_kn (by decide)).trans ((me_up_kn (by decide)).trans ((me_up_kn (by decide)).trans ((me_up_kn (by decide)).trans ((me_up_kn (by decide)).trans ((me_up_kn (by decide)).trans ((me_up_kn (by decide)).trans ((me_up_kn (by decide)).trans ((me_up_kn (by decide)).trans ((me_up_kn (by decide)).trans ((me_up_kn (by decide)).trans ((me_up_kn (by decide)).trans ((me_up_kn (by decide)).trans ((me_up_kn (by decide)).trans ((me_up_kn (by decide)).trans (h.co n g0))))))))))))))))
    (fun n g0 => (me_up_kn (by decide)).trans ((me_up_kn (by decide)).trans ((me_up_kn (by decide)).trans ((me_up_kn (by decide)).trans ((me_up_kn (by decide)).trans ((me_up_kn (by decide)).trans ((me_up_kn (by decide)).trans ((me_up_kn (by decide)).trans ((me_up_kn (by decide)).trans ((me_up_kn (by decide)).trans ((me_up_kn (by decide)).trans ((me_up_kn (by decide)).trans ((me_up_kn (by decide)).trans ((me_up_kn (by decide)).trans ((me_up_kn (by decide)).trans (h.fa n g0))))))))))))))))
    (fun n j g0 g1 => (me_up_kn (by decide)).trans ((me_up_kn (by decide)).trans ((me_up_kn (by decide)).trans ((me_up_kn (by decide)).trans ((me_up_kn (by decide)).trans ((me_up_kn (by decide)).trans ((me_up_kn (by decide)).trans ((me_up_kn (by decide)).trans ((me_up_kn (by decide)).trans ((me_up_kn (by decide)).trans ((me_up_kn (by decide)).trans ((me_up_kn (by decide)).trans ((me_up_kn (by decide)).trans ((me_up_kn (by decide)).trans ((me_up_kn (by decide)).trans (h.mm n j g0 g1))))))))))))))))
    (fun n j g0 g1 => (me_up_kn (by decide)).trans ((me_up_kn (by decide)).trans ((me_up_kn (by decide)).trans ((me_up_kn (by decide)).trans ((me_up_kn (by decide)).trans ((me_up_kn (by decide)).trans ((me_up_kn (by decide)).trans ((me_up_kn (by decide)).trans ((me_up_kn (by decide)).trans ((me_up_kn (by decide)).trans ((me_up_kn (by decide)).trans ((me_up_kn (by decide)).trans ((me_up_kn (by decide)).trans ((me_up_kn (by decide)).trans ((me_up_kn (by decide)).trans (h.sk n j g0 g1))))))))))))))))
    (fun n j g0 g1 => (me_up_kn (by decide)).trans ((me_up_kn (by decide)).trans ((me_up_kn (by decide)).trans ((me_up_kn (by decide)).trans ((me_up_kn (by decide)).trans ((me_up_kn (by decide)).trans ((me_up_kn (by decide)).trans ((me_up_kn (by decide)).trans ((me_up_kn (by decide)).trans ((me_up_kn (by decide)).trans ((me_up_kn (by decide)).trans ((me_up_kn (by decide)).trans ((me_up_kn (by decide)).trans ((me_up_kn (by decide)).trans ((me_up_kn (by decide)).trans (h.nm n j g0 g1))))))))))))))))
    (fun n j g0 g1 => (me_up_kn (by decide)).trans ((me_up_kn (by decide)).trans ((me_up_kn (by decide)).trans ((me_up_kn (by decide)).trans ((me_up_kn (by decide)).trans ((me_up_kn (by decide)).trans ((me_up_kn (by decide)).trans ((me_up_kn (by decide)).trans ((me_up_kn (by decide)).trans ((me_up_kn (by decide)).trans ((me_up_kn (by decide)).trans ((me_up_kn (by decide)).trans ((me_up_kn (by decide)).trans ((me_up_kn (by decide)).trans ((me_up_kn (by decide)).trans (h.nu n j g0 g1))))))))))))))))
    ((me_up_kn (by decide)).trans ((me_up_kn (by decide)).trans ((me_up_kn (by decide)).trans ((me_up_kn (by decide)).trans ((me_up_kn (by decide)).trans ((me_up_kn (by decide)).trans ((me_up_kn (by decide)).trans ((me_up_kn (by decide)).trans ((me_up_kn (by decide)).trans ((me_up_kn (by decide)).trans ((me_up_kn (by decide)).trans ((me_up_kn (by decide)).trans ((me_up_kn (by decide)).trans ((me_up_kn (by decide)).trans ((me_up_kn (by decide)).trans (h.wy))))))))))))))))
    ((me_up_kn (by decide)).trans ((me_up_kn (by decide)).trans ((me_up_kn (by decide)).trans ((me_up_kn (by decide)).trans ((me_up_kn (by decide)).trans ((me_up_kn (by decide)).trans ((me_up_kn (by decide)).trans ((me_up_kn (by decide)).trans ((me_up_kn (by decide)).trans ((me_up_kn (by decide)).trans ((me_up_kn (by decide)).trans ((me_up_kn (by decide)).trans ((me_up_kn (by decide)).trans ((me_up_kn (by decide)).trans ((me_up_kn (by decide)).trans (h.bt))))))))))))))))
theorem me_RC.w_makeQ {a : me_S} {μ : me_M} (h : me_RC a μ) (k : Int32) (s g : Nat) (w : Int32) (b : Nat) : me_RC (me_S.s_ow (me_S.s_np (me_S.s_an (me_S.s_ad (me_S.s_pl (me_S.s_dn (me_S.s_ma (me_S.s_hd (me_S.s_tk (me_S.s_pt (me_S.s_bo (me_S.s_wd (me_S.s_gl (me_S.s_sr (me_S.s_st (me_S.s_kd a (me_fu a.kd a.np k)) (me_fu a.st a.np 115)) (me_fu a.sr a.np s)) (me_fu a.gl a.np g)) (me_fu a.wd a.np w)) (me_fu a.bo a.np b)) (me_fu a.pt a.np 0)) (me_fu a.tk a.np 0)) (me_fu a.hd a.np none)) (me_fu a.ma a.np a.bt)) (me_fu a.dn a.np none)) (me_fu a.pl a.np 0)) (me_fu a.ad a.np 0)) (me_fu a.an a.np none)) (a.np + 1)) (a.ow + 1)) (me_up (me_up (me_up (me_up (me_up (me_up (me_up (me_up (me_up (me_up (me_up (me_up (me_up (me_up (me_up (me_up μ 8 a.np 1 (k)) 8 a.np 2 (115)) 8 a.np 3 (me_N s)) 8 a.np 4 (me_N g)) 8 a.np 5 (w)) 8 a.np 6 (me_N (b + 1))) 8 a.np 7 (0)) 8 a.np 8 (0)) 8 a.np 9 (-1)) 8 a.np 10 (me_N a.bt)) 8 a.np 11 (-1)) 8 a.np 12 (0)) 8 a.np 13 (0)) 8 a.np 14 (-1)) 6 0 2 (me_N (a.ow + 1))) 6 0 1 (me_N (a.np + 1))) :=
  me_RC.mk ((me_up_kn (by decide)).trans ((me_up_kn (by decide)).trans ((me_up_kn (by decide)).trans ((me_up_kn (by decide)).trans ((me_up_kn (by decide)).trans ((me_up_kn (by decide)).trans ((me_up_kn (by decide)).trans ((me_up_kn (by decide)).trans ((me_up_kn (by decide)).trans ((me_up_kn (by decide)).trans ((me_up_kn (by decide)).trans ((me_up_kn (by decide)).trans ((me_up_kn (by decide)).trans ((me_up_kn (by decide)).trans ((me_up_kn (by decide)).trans ((me_up_kn (by decide)).trans (h.rp)))))))))))))))))
    ((me_up_kn (by decide)).trans ((me_up_kn (by decide)).trans ((me_up_kn (by decide)).trans ((me_up_kn (by decide)).trans ((me_up_kn (by decide)).trans ((me_up_kn (by decide)).trans ((me_up_kn (by decide)).trans ((me_up_kn (by decide)).trans ((me_up_kn (by decide)).trans ((me_up_kn (by decide)).trans ((me_up_kn (by decide)).trans ((me_up_kn (by decide)).trans ((me_up_kn (by decide)).trans ((me_up_kn (by decide)).trans ((me_up_kn (by decide)).trans ((me_up_kn (by decide)).trans (h.nn)))))))))))))))))
    (fun n d g0 g1 => (me_up_kn (by decide)).trans ((me_up_kn (by decide)).trans ((me_up_kn (by decide)).trans ((me_up_kn (by decide)).trans ((me_up_kn (by decide)).trans ((me_up_kn (by decide)).trans ((me_up_kn (by decide)).trans ((me_up_kn (by decide)).trans ((me_up_kn (by decide)).trans ((me_up_kn (by decide)).trans ((me_up_kn (by decide)).trans ((me_up_kn (by decide)).trans ((me_up_kn (by decide)).trans ((me_up_kn (by decide)).trans ((me_up_kn (by decide)).trans ((me_up_kn (by decide)).trans (h.ah n d g0 g1)))))))))))))))))
    (fun n d g0 g1 => (me_up_kn (by decide)).trans ((me_up_kn (by decide)).trans ((me_up_kn (by decide)).trans ((me_up_kn (by decide)).trans ((me_up_kn (by decide)).trans ((me_up_kn (by decide)).trans ((me_up_kn (by decide)).trans ((me_up_kn (by decide)).trans ((me_up_kn (by decide)).trans ((me_up_kn (by decide)).trans ((me_up_kn (by decide)).trans ((me_up_kn (by decide)).trans ((me_up_kn (by decide)).trans ((me_up_kn (by decide)).trans ((me_up_kn (by decide)).trans ((me_up_kn (by decide)).trans (h.fl n d g0 g1)))))))))))))))))
    (fun n g0 => (me_up_kn (by decide)).trans ((me_up_kn (by decide)).trans ((me_up_kn (by decide)).trans ((me_up_kn (by decide)).trans ((me_up_kn (by decide)).trans ((me_up_kn (by decide)).trans ((me_up_kn (by decide)).trans ((me_up_kn (by decide)).trans ((me_up_kn (by decide)).trans ((me_up_kn (by decide)).trans ((me_up_kn (by decide)).trans ((me_up_kn (by decide)).trans ((me_up_kn (by decide)).trans ((me_up_kn (by decide)).trans ((me_up_kn (by decide)).trans ((me_up_kn (by decide)).trans (h.cl n g0)))))))))))))))))
    (fun n g0 => (me_up_kn (by decide)).trans ((me_up_kn (by decide)).trans ((me_up_kn (by decide)).trans ((me_up_kn (by decide)).trans ((me_up_kn (by decide)).trans ((me_up_kn (by decide)).trans ((me_up_kn (by decide)).trans ((me_up_kn (by decide)).trans ((me_up_kn (by decide)).trans ((me_up_kn (by decide)).trans ((me_up_kn (by decide)).trans ((me_up_kn (by decide)).trans ((me_up_kn (by decide)).trans ((me_up_kn (by decide)).trans ((me_up_kn (by decide)).trans ((me_up_kn (by decide)).trans (h.li n g0)))))))))))))))))
    (by
      show (me_up (me_up (me_up (me_up (me_up (me_up (me_up (me_up (me_up (me_up (me_up (me_up (me_up (me_up (me_up (me_up μ 8 a.np 1 (k)) 8 a.np 2 (115)) 8 a.np 3 (me_N s)) 8 a.np 4 (me_N g)) 8 a.np 5 (w)) 8 a.np 6 (me_N (b + 1))) 8 a.np 7 (0)) 8 a.np 8 (0)) 8 a.np 9 (-1)) 8 a.np 10 (me_N a.bt)) 8 a.np 11 (-1)) 8 a.np 12 (0)) 8 a.np 13 (0)) 8 a.np 14 (-1)) 6 0 2 (me_N (a.ow + 1))) 6 0 1 (me_N (a.np + 1))) 6 0 1 = me_N (a.np + 1)
      exact me_up_at)
    (by
      show (me_up (me_up (me_up (me_up (me_up (me_up (me_up (me_up (me_up (me_up (me_up (me_up (me_up (me_up (me_up (me_up μ 8 a.np 1 (k)) 8 a.np 2 (115)) 8 a.np 3 (me_N s)) 8 a.np 4 (me_N g)) 8 a.np 5 (w)) 8 a.np 6 (me_N (b + 1))) 8 a.np 7 (0)) 8 a.np 8 (0)) 8 a.np 9 (-1)) 8 a.np 10 (me_N a.bt)) 8 a.np 11 (-1)) 8 a.np 12 (0)) 8 a.np 13 (0)) 8 a.np 14 (-1)) 6 0 2 (me_N (a.ow + 1))) 6 0 1 (me_N (a.np + 1))) 6 0 2 = me_N (a.ow + 1)
      rw [me_up_jn (by decide)]
      exact me_up_at)
    (fun i g0 => (me_up_kn (by decide)).trans ((me_up_kn (by decide)).trans ((me_up_jn (by decide)).trans ((me_up_jn (by decide)).trans ((me_up_jn (by decide)).trans ((me_up_jn (by decide)).trans ((me_up_jn (by decide)).trans ((me_up_jn (by decide)).trans ((me_up_jn (by decide)).trans ((me_up_jn (by decide)).trans ((me_up_jn (by decide)).trans ((me_up_jn (by decide)).trans ((me_up_jn (by decide)).trans ((me_up_jn (by decide)).trans ((me_up_jn (by decide)).trans ((me_up_jn (by decide)).trans (h.p0 i g0)))))))))))))))))
    (fun i => by
      show (me_up (me_up (me_up (me_up (me_up (me_up (me_up (me_up (me_up (me_up (me_up (me_up (me_up (me_up (me_up (me_up μ 8 a.np 1 (k)) 8 a.np 2 (115)) 8 a.np 3 (me_N s)) 8 a.np 4 (me_N g)) 8 a.np 5 (w)) 8 a.np 6 (me_N (b + 1))) 8 a.np 7 (0)) 8 a.np 8 (0)) 8 a.np 9 (-1)) 8 a.np 10 (me_N a.bt)) 8 a.np 11 (-1)) 8 a.np 12 (0)) 8 a.np 13 (0)) 8 a.np 14 (-1)) 6 0 2 (me_N (a.ow + 1))) 6 0 1 (me_N (a.np + 1))) 8 i 1 = (me_fu a.kd a.np k) i
      by_cases e : i = a.np
      · subst e
        simp only [me_up_ap, me_fu_ap]
        simp [me_Op]
      · simp only [me_up_ap, me_fu_ap]
        simp [e]
        exact h.kd i)
    (fun i => by
      show (me_up (me_up (me_up (me_up (me_up (me_up (me_up (me_up (me_up (me_up (me_up (me_up (me_up (me_up (me_up (me_up μ 8 a.np 1 (k)) 8 a.np 2 (115)) 8 a.np 3 (me_N s)) 8 a.np 4 (me_N g)) 8 a.np 5 (w)) 8 a.np 6 (me_N (b + 1))) 8 a.np 7 (0)) 8 a.np 8 (0)) 8 a.np 9 (-1)) 8 a.np 10 (me_N a.bt)) 8 a.np 11 (-1)) 8 a.np 12 (0)) 8 a.np 13 (0)) 8 a.np 14 (-1)) 6 0 2 (me_N (a.ow + 1))) 6 0 1 (me_N (a.np + 1))) 8 i 2 = (me_fu a.st a.np 115) i
      by_cases e : i = a.np
      · subst e
        simp only [me_up_ap, me_fu_ap]
        simp [me_Op]
      · simp only [me_up_ap, me_fu_ap]
        simp [e]
        exact h.st i)
    (fun i => by
      show (me_up (me_up (me_up (me_up (me_up (me_up (me_up (me_up (me_up (me_up (me_up (me_up (me_up (me_up (me_up (me_up μ 8 a.np 1 (k)) 8 a.np 2 (115)) 8 a.np 3 (me_N s)) 8 a.np 4 (me_N g)) 8 a.np 5 (w)) 8 a.np 6 (me_N (b + 1))) 8 a.np 7 (0)) 8 a.np 8 (0)) 8 a.np 9 (-1)) 8 a.np 10 (me_N a.bt)) 8 a.np 11 (-1)) 8 a.np 12 (0)) 8 a.np 13 (0)) 8 a.np 14 (-1)) 6 0 2 (me_N (a.ow + 1))) 6 0 1 (me_N (a.np + 1))) 8 i 3 = me_N ((me_fu a.sr a.np s) i)
      by_cases e : i = a.np
      · subst e
        simp only [me_up_ap, me_fu_ap]
        simp [me_Op]
      · simp only [me_up_ap, me_fu_ap]
        simp [e]
        exact h.sr i)
    (fun i => by
      show (me_up (me_up (me_up (me_up (me_up (me_up (me_up (me_up (me_up (me_up (me_up (me_up (me_up (me_up (me_up (me_up μ 8 a.np 1 (k)) 8 a.np 2 (115)) 8 a.np 3 (me_N s)) 8 a.np 4 (me_N g)) 8 a.np 5 (w)) 8 a.np 6 (me_N (b + 1))) 8 a.np 7 (0)) 8 a.np 8 (0)) 8 a.np 9 (-1)) 8 a.np 10 (me_N a.bt)) 8 a.np 11 (-1)) 8 a.np 12 (0)) 8 a.np 13 (0)) 8 a.np 14 (-1)) 6 0 2 (me_N (a.ow + 1))) 6 0 1 (me_N (a.np + 1))) 8 i 4 = me_N ((me_fu a.gl a.np g) i)
      by_cases e : i = a.np
      · subst e
        simp only [me_up_ap, me_fu_ap]
        simp [me_Op]
      · simp only [me_up_ap, me_fu_ap]
        simp [e]
        exact h.gl i)
    (fun i => by
      show (me_up (me_up (me_up (me_up (me_up (me_up (me_up (me_up (me_up (me_up (me_up (me_up (me_up (me_up (me_up (me_up μ 8 a.np 1 (k)) 8 a.np 2 (115)) 8 a.np 3 (me_N s)) 8 a.np 4 (me_N g)) 8 a.np 5 (w)) 8 a.np 6 (me_N (b + 1))) 8 a.np 7 (0)) 8 a.np 8 (0)) 8 a.np 9 (-1)) 8 a.np 10 (me_N a.bt)) 8 a.np 11 (-1)) 8 a.np 12 (0)) 8 a.np 13 (0)) 8 a.np 14 (-1)) 6 0 2 (me_N (a.ow + 1))) 6 0 1 (me_N (a.np + 1))) 8 i 5 = (me_fu a.wd a.np w) i
      by_cases e : i = a.np
      · subst e
        simp only [me_up_ap, me_fu_ap]
        simp [me_Op]
      · simp only [me_up_ap, me_fu_ap]
        simp [e]
        exact h.wd i)
    (fun i g0 => by
      show (me_up (me_up (me_up (me_up (me_up (me_up (me_up (me_up (me_up (me_up (me_up (me_up (me_up (me_up (me_up (me_up μ 8 a.np 1 (k)) 8 a.np 2 (115)) 8 a.np 3 (me_N s)) 8 a.np 4 (me_N g)) 8 a.np 5 (w)) 8 a.np 6 (me_N (b + 1))) 8 a.np 7 (0)) 8 a.np 8 (0)) 8 a.np 9 (-1)) 8 a.np 10 (me_N a.bt)) 8 a.np 11 (-1)) 8 a.np 12 (0)) 8 a.np 13 (0)) 8 a.np 14 (-1)) 6 0 2 (me_N (a.ow + 1))) 6 0 1 (me_N (a.np + 1))) 8 i 6 = me_N ((me_fu a.bo a.np b) i + 1)
      replace g0 : i < a.np + 1 := g0
      by_cases e : i = a.np
      · subst e
        simp only [me_up_ap, me_fu_ap]
        simp [me_Op]
      · simp only [me_up_ap, me_fu_ap]
        simp [e]
        exact h.bo i (by omega))
    (fun i => by
      show (me_up (me_up (me_up (me_up (me_up (me_up (me_up (me_up (me_up (me_up (me_up (me_up (me_up (me_up (me_up (me_up μ 8 a.np 1 (k)) 8 a.np 2 (115)) 8 a.np 3 (me_N s)) 8 a.np 4 (me_N g)) 8 a.np 5 (w)) 8 a.np 6 (me_N (b + 1))) 8 a.np 7 (0)) 8 a.np 8 (0)) 8 a.np 9 (-1)) 8 a.np 10 (me_N a.bt)) 8 a.np 11 (-1)) 8 a.np 12 (0)) 8 a.np 13 (0)) 8 a.np 14 (-1)) 6 0 2 (me_N (a.ow + 1))) 6 0 1 (me_N (a.np + 1))) 8 i 7 = me_N ((me_fu a.pt a.np 0) i)
      by_cases e : i = a.np
      · subst e
        simp only [me_up_ap, me_fu_ap]
        simp [me_Op]
        rfl
      · simp only [me_up_ap, me_fu_ap]
        simp [e]
        exact h.pt i)
    (fun i => by
      show (me_up (me_up (me_up (me_up (me_up (me_up (me_up (me_up (me_up (me_up (me_up (me_up (me_up (me_up (me_up (me_up μ 8 a.np 1 (k)) 8 a.np 2 (115)) 8 a.np 3 (me_N s)) 8 a.np 4 (me_N g)) 8 a.np 5 (w)) 8 a.np 6 (me_N (b + 1))) 8 a.np 7 (0)) 8 a.np 8 (0)) 8 a.np 9 (-1)) 8 a.np 10 (me_N a.bt)) 8 a.np 11 (-1)) 8 a.np 12 (0)) 8 a.np 13 (0)) 8 a.np 14 (-1)) 6 0 2 (me_N (a.ow + 1))) 6 0 1 (me_N (a.np + 1))) 8 i 8 = me_N ((me_fu a.tk a.np 0) i)
      by_cases e : i = a.np
      · subst e
        simp only [me_up_ap, me_fu_ap]
        simp [me_Op]
        rfl
      · simp only [me_up_ap, me_fu_ap]
        simp [e]
        exact h.tk i)
    (fun i g0 => by
      show (me_up (me_up (me_up (me_up (me_up (me_up (me_up (me_up (me_up (me_up (me_up (me_up (me_up (me_up (me_up (me_up μ 8 a.np 1 (k)) 8 a.np 2 (115)) 8 a.np 3 (me_N s)) 8 a.np 4 (me_N g)) 8 a.np 5 (w)) 8 a.np 6 (me_N (b + 1))) 8 a.np 7 (0)) 8 a.np 8 (0)) 8 a.np 9 (-1)) 8 a.np 10 (me_N a.bt)) 8 a.np 11 (-1)) 8 a.np 12 (0)) 8 a.np 13 (0)) 8 a.np 14 (-1)) 6 0 2 (me_N (a.ow + 1))) 6 0 1 (me_N (a.np + 1))) 8 i 9 = me_Op ((me_fu a.hd a.np none) i)
      replace g0 : i < a.np + 1 := g0
      by_cases e : i = a.np
      · subst e
        simp only [me_up_ap, me_fu_ap]
        simp [me_Op]
      · simp only [me_up_ap, me_fu_ap]
        simp [e]
        exact h.hd i (by omega))
    (fun i => by
      show (me_up (me_up (me_up (me_up (me_up (me_up (me_up (me_up (me_up (me_up (me_up (me_up (me_up (me_up (me_up (me_up μ 8 a.np 1 (k)) 8 a.np 2 (115)) 8 a.np 3 (me_N s)) 8 a.np 4 (me_N g)) 8 a.np 5 (w)) 8 a.np 6 (me_N (b + 1))) 8 a.np 7 (0)) 8 a.np 8 (0)) 8 a.np 9 (-1)) 8 a.np 10 (me_N a.bt)) 8 a.np 11 (-1)) 8 a.np 12 (0)) 8 a.np 13 (0)) 8 a.np 14 (-1)) 6 0 2 (me_N (a.ow + 1))) 6 0 1 (me_N (a.np + 1))) 8 i 10 = me_N ((me_fu a.ma a.np a.bt) i)
      by_cases e : i = a.np
      · subst e
        simp only [me_up_ap, me_fu_ap]
        simp [me_Op]
      · simp only [me_up_ap, me_fu_ap]
        simp [e]
        exact h.ma i)
    (fun i g0 => by
      show (me_up (me_up (me_up (me_up (me_up (me_up (me_up (me_up (me_up (me_up (me_up (me_up (me_up (me_up (me_up (me_up μ 8 a.np 1 (k)) 8 a.np 2 (115)) 8 a.np 3 (me_N s)) 8 a.np 4 (me_N g)) 8 a.np 5 (w)) 8 a.np 6 (me_N (b + 1))) 8 a.np 7 (0)) 8 a.np 8 (0)) 8 a.np 9 (-1)) 8 a.np 10 (me_N a.bt)) 8 a.np 11 (-1)) 8 a.np 12 (0)) 8 a.np 13 (0)) 8 a.np 14 (-1)) 6 0 2 (me_N (a.ow + 1))) 6 0 1 (me_N (a.np + 1))) 8 i 11 = me_Op ((me_fu a.dn a.np none) i)
      replace g0 : i < a.np + 1 := g0
      by_cases e : i = a.np
      · subst e
        simp only [me_up_ap, me_fu_ap]
        simp [me_Op]
      · simp only [me_up_ap, me_fu_ap]
        simp [e]
        exact h.dn i (by omega))
    (fun i => by
      show (me_up (me_up (me_up (me_up (me_up (me_up (me_up (me_up (me_up (me_up (me_up (me_up (me_up (me_up (me_up (me_up μ 8 a.np 1 (k)) 8 a.np 2 (115)) 8 a.np 3 (me_N s)) 8 a.np 4 (me_N g)) 8 a.np 5 (w)) 8 a.np 6 (me_N (b + 1))) 8 a.np 7 (0)) 8 a.np 8 (0)) 8 a.np 9 (-1)) 8 a.np 10 (me_N a.bt)) 8 a.np 11 (-1)) 8 a.np 12 (0)) 8 a.np 13 (0)) 8 a.np 14 (-1)) 6 0 2 (me_N (a.ow + 1))) 6 0 1 (me_N (a.np + 1))) 8 i 12 = me_N ((me_fu a.pl a.np 0) i)
      by_cases e : i = a.np
      · subst e
        simp only [me_up_ap, me_fu_ap]
        simp [me_Op]
        rfl
      · simp only [me_up_ap, me_fu_ap]
        simp [e]
        exact h.pl i)
    (fun i => by
      show (me_up (me_up (me_up (me_up (me_up (me_up (me_up (me_up (me_up (me_up (me_up (me_up (me_up (me_up (me_up (me_up μ 8 a.np 1 (k)) 8 a.np 2 (115)) 8 a.np 3 (me_N s)) 8 a.np 4 (me_N g)) 8 a.np 5 (w)) 8 a.np 6 (me_N (b + 1))) 8 a.np 7 (0)) 8 a.np 8 (0)) 8 a.np 9 (-1)) 8 a.np 10 (me_N a.bt)) 8 a.np 11 (-1)) 8 a.np 12 (0)) 8 a.np 13 (0)) 8 a.np 14 (-1)) 6 0 2 (me_N (a.ow + 1))) 6 0 1 (me_N (a.np + 1))) 8 i 13 = (me_fu a.ad a.np 0) i
      by_cases e : i = a.np
      · subst e
        simp only [me_up_ap, me_fu_ap]
        simp [me_Op]
      · simp only [me_up_ap, me_fu_ap]
        simp [e]
        exact h.ad i)
    (fun i g0 => by
      show (me_up (me_up (me_up (me_up (me_up (me_up (me_up (me_up (me_up (me_up (me_up (me_up (me_up (me_up (me_up (me_up μ 8 a.np 1 (k)) 8 a.np 2 (115)) 8 a.np 3 (me_N s)) 8 a.np 4 (me_N g)) 8 a.np 5 (w)) 8 a.np 6 (me_N (b + 1))) 8 a.np 7 (0)) 8 a.np 8 (0)) 8 a.np 9 (-1)) 8 a.np 10 (me_N a.bt)) 8 a.np 11 (-1)) 8 a.np 12 (0)) 8 a.np 13 (0)) 8 a.np 14 (-1)) 6 0 2 (me_N (a.ow + 1))) 6 0 1 (me_N (a.np + 1))) 8 i 14 = me_Op ((me_fu a.an a.np none) i)
      replace g0 : i < a.np + 1 := g0
      by_cases e : i = a.np
      · subst e
        simp only [me_up_ap, me_fu_ap]
        simp [me_Op]
      · simp only [me_up_ap, me_fu_ap]
        simp [e]
        exact h.an i (by omega))
    ((me_up_kn (by decide)).trans ((me_up_kn (by decide)).trans ((me_up_kn (by decide)).trans ((me_up_kn (by decide)).trans ((me_up_kn (by decide)).trans ((me_up_kn (by decide)).trans ((me_up_kn (by decide)).trans ((me_up_kn (by decide)).trans ((me_up_kn (by decide)).trans ((me_up_kn (by decide)).trans ((me_up_kn (by decide)).trans ((me_up_kn (by decide)).trans ((me_up_kn (by decide)).trans ((me_up_kn (by decide)).trans ((me_up_kn (by decide)).trans ((me_up_kn (by decide)).trans (h.nt)))))))))))))))))
    (fun i g0 => (me_up_kn (by decide)).trans ((me_up_kn (by decide)).trans ((me_up_kn (by decide)).trans ((me_up_kn (by decide)).trans ((me_up_kn (by decide)).trans ((me_up_kn (by decide)).trans ((me_up_kn (by decide)).trans ((me_up_kn (by decide)).trans ((me_up_kn (by decide)).trans ((me_up_kn (by decide)).trans ((me_up_kn (by decide)).trans ((me_up_kn (by decide)).trans ((me_up_kn (by decide)).trans ((me_up_kn (by decide)).trans ((me_up_kn (by decide)).trans ((me_up_kn (by decide)).trans (h.tn i g0)))))))))))))))))
    (fun i j g0 g1 => (me_up_kn (by decide)).trans ((me_up_kn (by decide)).trans ((me_up_kn (by decide)).trans ((me_up_kn (by decide)).trans ((me_up_kn (by decide)).trans ((me_up_kn (by decide)).trans ((me_up_kn (by decide)).trans ((me_up_kn (by decide)).trans ((me_up_kn (by decide)).trans ((me_up_kn (by decide)).trans ((me_up_kn (by decide)).trans ((me_up_kn (by decide)).trans ((me_up_kn (by decide)).trans ((me_up_kn (by decide)).trans ((me_up_kn (by decide)).trans ((me_up_kn (by decide)).trans (h.tr i j g0 g1)))))))))))))))))
    (fun n g0 => (me_up_kn (by decide)).trans ((me_up_kn (by decide)).trans ((me_up_kn (by decide)).trans ((me_up_kn (by decide)).trans ((me_up_kn (by decide)).trans ((me_up_kn (by decide)).trans ((me_up_kn (by decide)).trans ((me_up_kn (by decide)).trans ((me_up_kn (by decide)).trans ((me_up_kn (by decide)).trans ((me_up_kn (by decide)).trans ((me_up_kn (by decide)).trans ((me_up_kn (by decide)).trans ((me_up_kn (by decide)).trans ((me_up_kn (by decide)).trans ((me_up_kn (by decide)).trans (h.aw n g0)))))))))))))))))
    (fun n k g0 g1 => (me_up_kn (by decide)).trans ((me_up_kn (by decide)).trans ((me_up_kn (by decide)).trans ((me_up_kn (by decide)).trans ((me_up_kn (by decide)).trans ((me_up_kn (by decide)).trans ((me_up_kn (by decide)).trans ((me_up_kn (by decide)).trans ((me_up_kn (by decide)).trans ((me_up_kn (by decide)).trans ((me_up_kn (by decide)).trans ((me_up_kn (by decide)).trans ((me_up_kn (by decide)).trans ((me_up_kn (by decide)).trans ((me_up_kn (by decide)).trans ((me_up_kn (by decide)).trans (h.lr n k g0 g1)))))))))))))))))
    (fun n c g0 g1 => (me_up_kn (by decide)).trans ((me_up_kn (by decide)).trans ((me_up_kn (by decide)).trans ((me_up_kn (by decide)).trans ((me_up_kn (by decide)).trans ((me_up_kn (by decide)).trans ((me_up_kn (by decide)).trans ((me_up_kn (by decide)).trans ((me_up_kn (by decide)).trans ((me_up_kn (by decide)).trans ((me_up_kn (by decide)).trans ((me_up_kn (by decide)).trans ((me_up_kn (by decide)).trans ((me_up_kn (by decide)).trans ((me_up_kn (by decide)).trans ((me_up_kn (by decide)).trans (h.fp n c g0 g1)))))))))))))))))
    (fun r g0 => (me_up_kn (by decide)).trans ((me_up_kn (by decide)).trans ((me_up_kn (by decide)).trans ((me_up_kn (by decide)).trans ((me_up_kn (by decide)).trans ((me_up_kn (by decide)).trans ((me_up_kn (by decide)).trans ((me_up_kn (by decide)).trans ((me_up_kn (by decide)).trans ((me_up_kn (by decide)).trans ((me_up_kn (by decide)).trans ((me_up_kn (by decide)).trans ((me_up_kn (by decide)).trans ((me_up_kn (by decide)).trans ((me_up_kn (by decide)).trans ((me_up_kn (by decide)).trans (h.qn r g0)))))))))))))))))
    (fun r g0 => (me_up_kn (by decide)).trans ((me_up_kn (by decide)).trans ((me_up_kn (by decide)).trans ((me_up_kn (by decide)).trans ((me_up_kn (by decide)).trans ((me_up_kn (by decide)).trans ((me_up_kn (by decide)).trans ((me_up_kn (by decide)).trans ((me_up_kn (by decide)).trans ((me_up_kn (by decide)).trans ((me_up_kn (by decide)).trans ((me_up_kn (by decide)).trans ((me_up_kn (by decide)).trans ((me_up_kn (by decide)).trans ((me_up_kn (by decide)).trans ((me_up_kn (by decide)).trans (h.qp r g0)))))))))))))))))
    (fun r g0 => (me_up_kn (by decide)).trans ((me_up_kn (by decide)).trans ((me_up_kn (by decide)).trans ((me_up_kn (by decide)).trans ((me_up_kn (by decide)).trans ((me_up_kn (by decide)).trans ((me_up_kn (by decide)).trans ((me_up_kn (by decide)).trans ((me_up_kn (by decide)).trans ((me_up_kn (by decide)).trans ((me_up_kn (by decide)).trans ((me_up_kn (by decide)).trans ((me_up_kn (by decide)).trans ((me_up_kn (by decide)).trans ((me_up_kn (by decide)).trans ((me_up_kn (by decide)).trans (h.ro r g0)))))))))))))))))
    (fun r g0 => (me_up_kn (by decide)).trans ((me_up_kn (by decide)).trans ((me_up_kn (by decide)).trans ((me_up_kn (by decide)).trans ((me_up_kn (by decide)).trans ((me_up_kn (by decide)).trans ((me_up_kn (by decide)).trans ((me_up_kn (by decide)).trans ((me_up_kn (by decide)).trans ((me_up_kn (by decide)).trans ((me_up_kn (by decide)).trans ((me_up_kn (by decide)).trans ((me_up_kn (by decide)).trans ((me_up_kn (by decide)).trans ((me_up_kn (by decide)).trans ((me_up_kn (by decide)).trans (h.rh r g0)))))))))))))))))
    (fun r g0 => (me_up_kn (by decide)).trans ((me_up_kn (by decide)).trans ((me_up_kn (by decide)).trans ((me_up_kn (by decide)).trans ((me_up_kn (by decide)).trans ((me_up_kn (by decide)).trans ((me_up_kn (by decide)).trans ((me_up_kn (by decide)).trans ((me_up_kn (by decide)).trans ((me_up_kn (by decide)).trans ((me_up_kn (by decide)).trans ((me_up_kn (by decide)).trans ((me_up_kn (by decide)).trans ((me_up_kn (by decide)).trans ((me_up_kn (by decide)).trans ((me_up_kn (by decide)).trans (h.rg r g0)))))))))))))))))
    (fun r j e g0 g1 => (me_up_kn (by decide)).trans ((me_up_kn (by decide)).trans ((me_up_kn (by decide)).trans ((me_up_kn (by decide)).trans ((me_up_kn (by decide)).trans ((me_up_kn (by decide)).trans ((me_up_kn (by decide)).trans ((me_up_kn (by decide)).trans ((me_up_kn (by decide)).trans ((me_up_kn (by decide)).trans ((me_up_kn (by decide)).trans ((me_up_kn (by decide)).trans ((me_up_kn (by decide)).trans ((me_up_kn (by decide)).trans ((me_up_kn (by decide)).trans ((me_up_kn (by decide)).trans (h.q1 r j e g0 g1)))))))))))))))))
    (fun r j e g0 g1 => (me_up_kn (by decide)).trans ((me_up_kn (by decide)).trans ((me_up_kn (by decide)).trans ((me_up_kn (by decide)).trans ((me_up_kn (by decide)).trans ((me_up_kn (by decide)).trans ((me_up_kn (by decide)).trans ((me_up_kn (by decide)).trans ((me_up_kn (by decide)).trans ((me_up_kn (by decide)).trans ((me_up_kn (by decide)).trans ((me_up_kn (by decide)).trans ((me_up_kn (by decide)).trans ((me_up_kn (by decide)).trans ((me_up_kn (by decide)).trans ((me_up_kn (by decide)).trans (h.q2 r j e g0 g1)))))))))))))))))
    (fun r j e g0 g1 => (me_up_kn (by decide)).trans ((me_up_kn (by decide)).trans ((me_up_kn (by decide)).trans ((me_up_kn (by decide)).trans ((me_up_kn (by decide)).trans ((me_up_kn (by decide)).trans ((me_up_kn (by decide)).trans ((me_up_kn (by decide)).trans ((me_up_kn (by decide)).trans ((me_up_kn (by decide)).trans ((me_up_kn (by decide)).trans ((me_up_kn (by decide)).trans ((me_up_kn (by decide)).trans ((me_up_kn (by decide)).trans ((me_up_kn (by decide)).trans ((me_up_kn (by decide)).trans (h.q3 r j e g0 g1)))))))))))))))))
    (fun n g0 => (me_up_kn (by decide)).trans ((me_up_kn (by decide)).trans ((me_up_kn (by decide)).trans ((me_up_kn (by decide)).trans ((me_up_kn (by decide)).trans ((me_up_kn (by decide)).trans ((me_up_kn (by decide)).trans ((me_up_kn (by decide)).trans ((me_up_kn (by decide)).trans ((me_up_kn (by decide)).trans ((me_up_kn (by decide)).trans ((me_up_kn (by decide)).trans ((me_up_kn (by decide)).trans ((me_up_kn (by decide)).trans ((me_up_kn (by decide)).trans ((me_up_kn (by decide)).trans (h.dp n g0)))))))))))))))))
    (fun n g0 => (me_up_kn (by decide)).trans ((me_up_kn (by decide)).trans ((me_up_kn (by decide)).trans ((me_up_kn (by decide)).trans ((me_up_kn (by decide)).trans ((me_up_kn (by decide)).trans ((me_up_kn (by decide)).trans ((me_up_kn (by decide)).trans ((me_up_kn (by decide)).trans ((me_up_kn (by decide)).trans ((me_up_kn (by decide)).trans ((me_up_kn (by decide)).trans ((me_up_kn (by decide)).trans ((me_up_kn (by decide)).trans ((me_up_kn (by decide)).trans ((me_up_kn (by decide)).trans (h.ln n g0)))))))))))))))))
    (fun n g0 => (me_up_kn (by decide)).trans ((me_up_kn (by decide)).trans ((me_up_kn (by decide)).trans ((me_up_kn (by decide)).trans ((me_up_kn (by decide)).trans ((me_up_kn (by decide)).trans ((me_up_kn (by decide)).trans ((me_up_kn (by decide)).trans ((me_up_kn (by decide)).trans ((me_up_kn (by decide)).trans ((me_up_kn (by decide)).trans ((me_up_kn (by decide)).trans ((me_up_kn (by decide)).trans ((me_up_kn (by decide)).trans ((me_up_kn (by decide)).trans ((me_up_kn (by decide)).trans (h.ca n g0)))))))))))))))))
    (fun n g0 => (me_up_kn (by decide)).trans ((me_up_kn (by decide)).trans ((me_up_kn (by decide)).trans ((me_up_kn (by decide)).trans ((me_up_kn (by decide)).trans ((me_up_kn (by decide)).trans ((me_up_kn (by decide)).trans ((me_up_kn (by decide)).trans ((me_up_kn (by decide)).trans ((me_up_kn (by decide)).trans ((me_up_kn (by decide)).trans ((me_up_kn (by decide)).trans ((me_up_kn (by decide)).trans ((me_up_kn (by decide)).trans ((me_up_kn (by decide)).trans ((me_up_kn (by decide)).trans (h.co n g0)))))))))))))))))
    (fun n g0 => (me_up_kn (by decide)).trans ((me_up_kn (by decide)).trans ((me_up_kn (by decide)).trans ((me_up_kn (by decide)).trans ((me_up_kn (by decide)).trans ((me_up_kn (by decide)).trans ((me_up_kn (by decide)).trans ((me_up_kn (by decide)).trans ((me_up_kn (by decide)).trans ((me_up_kn (by decide)).trans ((me_up_kn (by decide)).trans ((me_up_kn (by decide)).trans ((me_up_kn (by decide)).trans ((me_up_kn (by decide)).trans ((me_up_kn (by decide)).trans ((me_up_kn (by decide)).trans (h.fa n g0)))))))))))))))))
    (fun n j g0 g1 => (me_up_kn (by decide)).trans ((me_up_kn (by decide)).trans ((me_up_kn (by decide)).trans ((me_up_kn (by decide)).trans ((me_up_kn (by decide)).trans ((me_up_kn (by decide)).trans ((me_up_kn (by decide)).trans ((me_up_kn (by decide)).trans ((me_up_kn (by decide)).trans ((me_up_kn (by decide)).trans ((me_up_kn (by decide)).trans ((me_up_kn (by decide)).trans ((me_up_kn (by decide)).trans ((me_up_kn (by decide)).trans ((me_up_kn (by decide)).trans ((me_up_kn (by decide)).trans (h.mm n j g0 g1)))))))))))))))))
    (fun n j g0 g1 => (me_up_kn (by decide)).trans ((me_up_kn (by decide)).trans ((me_up_kn (by decide)).trans ((me_up_kn (by decide)).trans ((me_up_kn (by decide)).trans ((me_up_kn (by decide)).trans ((me_up_kn (by decide)).trans ((me_up_kn (by decide)).trans ((me_up_kn (by decide)).trans ((me_up_kn (by decide)).trans ((me_up_kn (by decide)).trans ((me_up_kn (by decide)).trans ((me_up_kn (by decide)).trans ((me_up_kn (by decide)).trans ((me_up_kn (by decide)).trans ((me_up_kn (by decide)).trans (h.sk n j g0 g1)))))))))))))))))
    (fun n j g0 g1 => (me_up_kn (by decide)).trans ((me_up_kn (by decide)).trans ((me_up_kn (by decide)).trans ((me_up_kn (by decide)).trans ((me_up_kn (by decide)).trans ((me_up_kn (by decide)).trans ((me_up_kn (by decide)).trans ((me_up_kn (by decide)).trans ((me_up_kn (by decide)).trans ((me_up_kn (by decide)).trans ((me_up_kn (by decide)).trans ((me_up_kn (by decide)).trans ((me_up_kn (by decide)).trans ((me_up_kn (by decide)).trans ((me_up_kn (by decide)).trans ((me_up_kn (by decide)).trans (h.nm n j g0 g1)))))))))))))))))
    (fun n j g0 g1 => (me_up_kn (by decide)).trans ((me_up_kn (by decide)).trans ((me_up_kn (by decide)).trans ((me_up_kn (by decide)).trans ((me_up_kn (by decide)).trans ((me_up_kn (by decide)).trans ((me_up_kn (by decide)).trans ((me_up_kn (by decide)).trans ((me_up_kn (by decide)).trans ((me_up_kn (by decide)).trans ((me_up_kn (by decide)).trans ((me_up_kn (by decide)).trans ((me_up_kn (by decide)).trans ((me_up_kn (by decide)).trans ((me_up_kn (by decide)).trans ((me_up_kn (by decide)).trans (h.nu n j g0 g1)))))))))))))))))
    ((me_up_kn (by decide)).trans ((me_up_kn (by decide)).trans ((me_up_kn (by decide)).trans ((me_up_kn (by decide)).trans ((me_up_kn (by decide)).trans ((me_up_kn (by decide)).trans ((me_up_kn (by decide)).trans ((me_up_kn (by decide)).trans ((me_up_kn (by decide)).trans ((me_up_kn (by decide)).trans ((me_up_kn (by decide)).trans ((me_up_kn (by decide)).trans ((me_up_kn (by decide)).trans ((me_up_kn (by decide)).trans ((me_up_kn (by decide)).trans ((me_up_kn (by decide)).trans (h.wy)))))))))))))))))
    ((me_up_kn (by decide)).trans ((me_up_kn (by decide)).trans ((me_up_kn (by decide)).trans ((me_up_kn (by decide)).trans ((me_up_kn (by decide)).trans ((me_up_kn (by decide)).trans ((me_up_kn (by decide)).trans ((me_up_kn (by decide)).trans ((me_up_kn (by decide)).trans ((me_up_kn (by decide)).trans ((me_up_kn (by decide)).trans ((me_up_kn (by decide)).trans ((me_up_kn (by decide)).trans ((me_up_kn (by decide)).trans ((me_up_kn (by decide)).trans ((me_up_kn (by decide)).trans (h.bt)))))))))))))))))
theorem me_RM.w_made0 {a : me_S} {μ : me_M} (h : me_RM a μ) (k : Int32) (s g : Nat) (w : Int32) (b : Nat) (hk : ¬ k = 113) : me_RM (me_S.s_np (me_S.s_an (me_S.s_ad (me_S.s_pl (me_S.s_dn (me_S.s_ma (me_S.s_hd (me_S.s_tk (me_S.s_pt (me_S.s_bo (me_S.s_wd (me_S.s_gl (me_S.s_sr (me_S.s_st (me_S.s_kd a (me_fu a.kd a.np k)) (me_fu a.st a.np 115)) (me_fu a.sr a.np s)) (me_fu a.gl a.np g)) (me_fu a.wd a.np w)) (me_fu a.bo a.np b)) (me_fu a.pt a.np 0)) (me_fu a.tk a.np 0)) (me_fu a.hd a.np none)) (me_fu a.ma a.np a.bt)) (me_fu a.dn a.np none)) (me_fu a.pl a.np 0)) (me_fu a.ad a.np 0)) (me_fu a.an a.np none)) (a.np + 1)) (me_up (me_up (me_up (me_up (me_up (me_up (me_up (me_up (me_up (me_up μ 37 0 a.np (k)) 38 0 a.np (115)) 39 0 a.np (me_N s)) 40 0 a.np (me_N g)) 41 0 a.np (w)) 42 0 a.np (me_N b)) 43 0 a.np (0)) 44 0 a.np (me_N a.bt)) 49 0 a.np (-1)) 36 0 19 (me_N (a.np + 1))) :=
  me_RM.mk ((me_up_jn (by decide)).trans ((me_up_kn (by decide)).trans ((me_up_kn (by decide)).trans ((me_up_kn (by decide)).trans ((me_up_kn (by decide)).trans ((me_up_kn (by decide)).trans ((me_up_kn (by decide)).trans ((me_up_kn (by decide)).trans ((me_up_kn (by decide)).trans ((me_up_kn (by decide)).trans (h.w)))))))))))
    ((me_up_jn (by decide)).trans ((me_up_kn (by decide)).trans ((me_up_kn (by decide)).trans ((me_up_kn (by decide)).trans ((me_up_kn (by decide)).trans ((me_up_kn (by decide)).trans ((me_up_kn (by decide)).trans ((me_up_kn (by decide)).trans ((me_up_kn (by decide)).trans ((me_up_kn (by decide)).trans (h.h)))))))))))
    ((me_up_jn (by decide)).trans ((me_up_kn (by decide)).trans ((me_up_kn (by decide)).trans ((me_up_kn (by decide)).trans ((me_up_kn (by decide)).trans ((me_up_kn (by decide)).trans ((me_up_kn (by decide)).trans ((me_up_kn (by decide)).trans ((me_up_kn (by decide)).trans ((me_up_kn (by decide)).trans (h.rp)))))))))))
    ((me_up_jn (by decide)).trans ((me_up_kn (by decide)).trans ((me_up_kn (by decide)).trans ((me_up_kn (by decide)).trans ((me_up_kn (by decide)).trans ((me_up_kn (by decide)).trans ((me_up_kn (by decide)).trans ((me_up_kn (by decide)).trans ((me_up_kn (by decide)).trans ((me_up_kn (by decide)).trans (h.wy)))))))))))
    ((me_up_jn (by decide)).trans ((me_up_kn (by decide)).trans ((me_up_kn (by decide)).trans ((me_up_kn (by decide)).trans ((me_up_kn (by decide)).trans ((me_up_kn (by decide)).trans ((me_up_kn (by decide)).trans ((me_up_kn (by decide)).trans ((me_up_kn (by decide)).trans ((me_up_kn (by decide)).trans (h.bt)))))))))))
    (by
      show (me_up (me_up (me_up (me_up (me_up (me_up (me_up (me_up (me_up (me_up μ 37 0 a.np (k)) 38 0 a.np (115)) 39 0 a.np (me_N s)) 40 0 a.np (me_N g)) 41 0 a.np (w)) 42 0 a.np (me_N b)) 43 0 a.np (0)) 44 0 a.np (me_N a.bt)) 49 0 a.np (-1)) 36 0 19 (me_N (a.np + 1))) 36 0 19 = me_N (a.np + 1)
      exact me_up_at)
    ((me_up_jn (by decide)).trans ((me_up_kn (by decide)).trans ((me_up_kn (by decide)).trans ((me_up_kn (by decide)).trans ((me_up_kn (by decide)).trans ((me_up_kn (by decide)).trans ((me_up_kn (by decide)).trans ((me_up_kn (by decide)).trans ((me_up_kn (by decide)).trans ((me_up_kn (by decide)).trans (h.nt)))))))))))
    (fun i g0 => by
      show (me_up (me_up (me_up (me_up (me_up (me_up (me_up (me_up (me_up (me_up μ 37 0 a.np (k)) 38 0 a.np (115)) 39 0 a.np (me_N s)) 40 0 a.np (me_N g)) 41 0 a.np (w)) 42 0 a.np (me_N b)) 43 0 a.np (0)) 44 0 a.np (me_N a.bt)) 49 0 a.np (-1)) 36 0 19 (me_N (a.np + 1))) 37 0 i = (me_fu a.kd a.np k) i
      replace g0 : i < a.np + 1 := g0
      by_cases e : i = a.np
      · subst e
        simp only [me_up_ap, me_fu_ap]
        simp [me_Op]
      · simp only [me_up_ap, me_fu_ap]
        simp [e]
        exact h.kd i (by omega))
    (fun i g0 => by
      show (me_up (me_up (me_up (me_up (me_up (me_up (me_up (me_up (me_up (me_up μ 37 0 a.np (k)) 38 0 a.np (115)) 39 0 a.np (me_N s)) 40 0 a.np (me_N g)) 41 0 a.np (w)) 42 0 a.np (me_N b)) 43 0 a.np (0)) 44 0 a.np (me_N a.bt)) 49 0 a.np (-1)) 36 0 19 (me_N (a.np + 1))) 38 0 i = (me_fu a.st a.np 115) i
      replace g0 : i < a.np + 1 := g0
      by_cases e : i = a.np
      · subst e
        simp only [me_up_ap, me_fu_ap]
        simp [me_Op]
      · simp only [me_up_ap, me_fu_ap]
        simp [e]
        exact h.st i (by omega))
    (fun i g0 => by
      show (me_up (me_up (me_up (me_up (me_up (me_up (me_up (me_up (me_up (me_up μ 37 0 a.np (k)) 38 0 a.np (115)) 39 0 a.np (me_N s)) 40 0 a.np (me_N g)) 41 0 a.np (w)) 42 0 a.np (me_N b)) 43 0 a.np (0)) 44 0 a.np (me_N a.bt)) 49 0 a.np (-1)) 36 0 19 (me_N (a.np + 1))) 39 0 i = me_N ((me_fu a.sr a.np s) i)
      replace g0 : i < a.np + 1 := g0
      by_cases e : i = a.np
      · subst e
        simp only [me_up_ap, me_fu_ap]
        simp [me_Op]
      · simp only [me_up_ap, me_fu_ap]
        simp [e]
        exact h.sr i (by omega))
    (fun i g0 => by
      show (me_up (me_up (me_up (me_up (me_up (me_up (me_up (me_up (me_up (me_up μ 37 0 a.np (k)) 38 0 a.np (115)) 39 0 a.np (me_N s)) 40 0 a.np (me_N g)) 41 0 a.np (w)) 42 0 a.np (me_N b)) 43 0 a.np (0)) 44 0 a.np (me_N a.bt)) 49 0 a.np (-1)) 36 0 19 (me_N (a.np + 1))) 40 0 i = me_N ((me_fu a.gl a.np g) i)
      replace g0 : i < a.np + 1 := g0
      by_cases e : i = a.np
      · subst e
        simp only [me_up_ap, me_fu_ap]
        simp [me_Op]
      · simp only [me_up_ap, me_fu_ap]
        simp [e]
        exact h.gl i (by omega))
    (fun i g0 => by
      show (me_up (me_up (me_up (me_up (me_up (me_up (me_up (me_up (me_up (me_up μ 37 0 a.np (k)) 38 0 a.np (115)) 39 0 a.np (me_N s)) 40 0 a.np (me_N g)) 41 0 a.np (w)) 42 0 a.np (me_N b)) 43 0 a.np (0)) 44 0 a.np (me_N a.bt)) 49 0 a.np (-1)) 36 0 19 (me_N (a.np + 1))) 41 0 i = (me_fu a.wd a.np w) i
      replace g0 : i < a.np + 1 := g0
      by_cases e : i = a.np
      · subst e
        simp only [me_up_ap, me_fu_ap]
        simp [me_Op]
      · simp only [me_up_ap, me_fu_ap]
        simp [e]
        exact h.wd i (by omega))
    (fun i g0 => by
      show (me_up (me_up (me_up (me_up (me_up (me_up (me_up (me_up (me_up (me_up μ 37 0 a.np (k)) 38 0 a.np (115)) 39 0 a.np (me_N s)) 40 0 a.np (me_N g)) 41 0 a.np (w)) 42 0 a.np (me_N b)) 43 0 a.np (0)) 44 0 a.np (me_N a.bt)) 49 0 a.np (-1)) 36 0 19 (me_N (a.np + 1))) 42 0 i = me_N ((me_fu a.bo a.np b) i)
      replace g0 : i < a.np + 1 := g0
      by_cases e : i = a.np
      · subst e
        simp only [me_up_ap, me_fu_ap]
        simp [me_Op]
      · simp only [me_up_ap, me_fu_ap]
        simp [e]
        exact h.bo i (by omega))
    (fun i g0 => by
      show (me_up (me_up (me_up (me_up (me_up (me_up (me_up (me_up (me_up (me_up μ 37 0 a.np (k)) 38 0 a.np (115)) 39 0 a.np (me_N s)) 40 0 a.np (me_N g)) 41 0 a.np (w)) 42 0 a.np (me_N b)) 43 0 a.np (0)) 44 0 a.np (me_N a.bt)) 49 0 a.np (-1)) 36 0 19 (me_N (a.np + 1))) 43 0 i = me_N ((me_fu a.pt a.np 0) i)
      replace g0 : i < a.np + 1 := g0
      by_cases e : i = a.np
      · subst e
        simp only [me_up_ap, me_fu_ap]
        simp [me_Op]
        rfl
      · simp only [me_up_ap, me_fu_ap]
        simp [e]
        exact h.pt i (by omega))
    (fun i g0 => by
      show (me_up (me_up (me_up (me_up (me_up (me_up (me_up (me_up (me_up (me_up μ 37 0 a.np (k)) 38 0 a.np (115)) 39 0 a.np (me_N s)) 40 0 a.np (me_N g)) 41 0 a.np (w)) 42 0 a.np (me_N b)) 43 0 a.np (0)) 44 0 a.np (me_N a.bt)) 49 0 a.np (-1)) 36 0 19 (me_N (a.np + 1))) 44 0 i = me_N ((me_fu a.ma a.np a.bt) i)
      replace g0 : i < a.np + 1 := g0
      by_cases e : i = a.np
      · subst e
        simp only [me_up_ap, me_fu_ap]
        simp [me_Op]
      · simp only [me_up_ap, me_fu_ap]
        simp [e]
        exact h.ma i (by omega))
    (fun i g0 g1 => by
      show (me_up (me_up (me_up (me_up (me_up (me_up (me_up (me_up (me_up (me_up μ 37 0 a.np (k)) 38 0 a.np (115)) 39 0 a.np (me_N s)) 40 0 a.np (me_N g)) 41 0 a.np (w)) 42 0 a.np (me_N b)) 43 0 a.np (0)) 44 0 a.np (me_N a.bt)) 49 0 a.np (-1)) 36 0 19 (me_N (a.np + 1))) 45 0 i = me_Op ((me_fu a.dn a.np none) i)
      replace g0 : i < a.np + 1 := g0
      replace g1 : me_fu a.st a.np 115 i = 100 ∨ me_fu a.st a.np 115 i = 114 := g1
      by_cases e : i = a.np
      · rw [e, me_fu_at] at g1
        exact absurd g1 (by decide)
      · rw [me_fu_ne e] at g1 ⊢
        simp only [me_up_ap]
        simp [e]
        exact h.dn i (by omega) g1)
    (fun i g0 g1 => by
      show (me_up (me_up (me_up (me_up (me_up (me_up (me_up (me_up (me_up (me_up μ 37 0 a.np (k)) 38 0 a.np (115)) 39 0 a.np (me_N s)) 40 0 a.np (me_N g)) 41 0 a.np (w)) 42 0 a.np (me_N b)) 43 0 a.np (0)) 44 0 a.np (me_N a.bt)) 49 0 a.np (-1)) 36 0 19 (me_N (a.np + 1))) 46 0 i = me_N ((me_fu a.pl a.np 0) i)
      replace g0 : i < a.np + 1 := g0
      replace g1 : me_fu a.kd a.np k i = 113 := g1
      by_cases e : i = a.np
      · rw [e, me_fu_at] at g1
        exact absurd g1 hk
      · rw [me_fu_ne e] at g1
        simp only [me_up_ap, me_fu_ap]
        simp [e]
        exact h.pl i (by omega) g1)
    (fun i g0 g1 => by
      show (if (me_up (me_up (me_up (me_up (me_up (me_up (me_up (me_up (me_up (me_up μ 37 0 a.np (k)) 38 0 a.np (115)) 39 0 a.np (me_N s)) 40 0 a.np (me_N g)) 41 0 a.np (w)) 42 0 a.np (me_N b)) 43 0 a.np (0)) 44 0 a.np (me_N a.bt)) 49 0 a.np (-1)) 36 0 19 (me_N (a.np + 1))) 47 0 i = 0 then 0 else (me_up (me_up (me_up (me_up (me_up (me_up (me_up (me_up (me_up (me_up μ 37 0 a.np (k)) 38 0 a.np (115)) 39 0 a.np (me_N s)) 40 0 a.np (me_N g)) 41 0 a.np (w)) 42 0 a.np (me_N b)) 43 0 a.np (0)) 44 0 a.np (me_N a.bt)) 49 0 a.np (-1)) 36 0 19 (me_N (a.np + 1))) 48 0 i) = (me_fu a.ad a.np 0) i
      replace g0 : i < a.np + 1 := g0
      replace g1 : me_fu a.kd a.np k i = 113 := g1
      by_cases e : i = a.np
      · rw [e, me_fu_at] at g1
        exact absurd g1 hk
      · rw [me_fu_ne e] at g1
        simp only [me_up_ap, me_fu_ap]
        simp [e]
        exact h.ad i (by omega) g1)
    (fun i g0 => by
      show (me_up (me_up (me_up (me_up (me_up (me_up (me_up (me_up (me_up (me_up μ 37 0 a.np (k)) 38 0 a.np (115)) 39 0 a.np (me_N s)) 40 0 a.np (me_N g)) 41 0 a.np (w)) 42 0 a.np (me_N b)) 43 0 a.np (0)) 44 0 a.np (me_N a.bt)) 49 0 a.np (-1)) 36 0 19 (me_N (a.np + 1))) 49 0 i = me_Op ((me_fu a.an a.np none) i)
      replace g0 : i < a.np + 1 := g0
      by_cases e : i = a.np
      · subst e
        simp only [me_up_ap, me_fu_ap]
        simp [me_Op]
      · simp only [me_up_ap, me_fu_ap]
        simp [e]
        exact h.an i (by omega))
    (fun b k j e g0 g1 g2 => (me_up_kn (by decide)).trans ((me_up_kn (by decide)).trans ((me_up_kn (by decide)).trans ((me_up_kn (by decide)).trans ((me_up_kn (by decide)).trans ((me_up_kn (by decide)).trans ((me_up_kn (by decide)).trans ((me_up_kn (by decide)).trans ((me_up_kn (by decide)).trans ((me_up_kn (by decide)).trans (h.q1 b k j e g0 g1 g2)))))))))))
    (fun b k j e g0 g1 g2 => (me_up_kn (by decide)).trans ((me_up_kn (by decide)).trans ((me_up_kn (by decide)).trans ((me_up_kn (by decide)).trans ((me_up_kn (by decide)).trans ((me_up_kn (by decide)).trans ((me_up_kn (by decide)).trans ((me_up_kn (by decide)).trans ((me_up_kn (by decide)).trans ((me_up_kn (by decide)).trans (h.q3 b k j e g0 g1 g2)))))))))))
    (fun b k g0 g1 => (me_up_kn (by decide)).trans ((me_up_kn (by decide)).trans ((me_up_kn (by decide)).trans ((me_up_kn (by decide)).trans ((me_up_kn (by decide)).trans ((me_up_kn (by decide)).trans ((me_up_kn (by decide)).trans ((me_up_kn (by decide)).trans ((me_up_kn (by decide)).trans ((me_up_kn (by decide)).trans (h.qn b k g0 g1)))))))))))
    (fun b k g0 g1 => (me_up_kn (by decide)).trans ((me_up_kn (by decide)).trans ((me_up_kn (by decide)).trans ((me_up_kn (by decide)).trans ((me_up_kn (by decide)).trans ((me_up_kn (by decide)).trans ((me_up_kn (by decide)).trans ((me_up_kn (by decide)).trans ((me_up_kn (by decide)).trans ((me_up_kn (by decide)).trans (h.ro b k g0 g1)))))))))))
    (fun b k g0 g1 => by rw [me_up_kn (by decide), me_up_kn (by decide), me_up_kn (by decide), me_up_kn (by decide), me_up_kn (by decide), me_up_kn (by decide), me_up_kn (by decide), me_up_kn (by decide), me_up_kn (by decide), me_up_kn (by decide)]; exact h.rh b k g0 g1)
    (fun b k g0 g1 => (me_up_kn (by decide)).trans ((me_up_kn (by decide)).trans ((me_up_kn (by decide)).trans ((me_up_kn (by decide)).trans ((me_up_kn (by decide)).trans ((me_up_kn (by decide)).trans ((me_up_kn (by decide)).trans ((me_up_kn (by decide)).trans ((me_up_kn (by decide)).trans ((me_up_kn (by decide)).trans (h.rg b k g0 g1)))))))))))
    (fun b k g0 g1 => (me_up_kn (by decide)).trans ((me_up_kn (by decide)).trans ((me_up_kn (by decide)).trans ((me_up_kn (by decide)).trans ((me_up_kn (by decide)).trans ((me_up_kn (by decide)).trans ((me_up_kn (by decide)).trans ((me_up_kn (by decide)).trans ((me_up_kn (by decide)).trans ((me_up_kn (by decide)).trans (h.lr b k g0 g1)))))))))))
    (fun n d g0 g1 => (me_up_kn (by decide)).trans ((me_up_kn (by decide)).trans ((me_up_kn (by decide)).trans ((me_up_kn (by decide)).trans ((me_up_kn (by decide)).trans ((me_up_kn (by decide)).trans ((me_up_kn (by decide)).trans ((me_up_kn (by decide)).trans ((me_up_kn (by decide)).trans ((me_up_kn (by decide)).trans (h.fl n d g0 g1)))))))))))
    (fun n j g0 g1 => (me_up_kn (by decide)).trans ((me_up_kn (by decide)).trans ((me_up_kn (by decide)).trans ((me_up_kn (by decide)).trans ((me_up_kn (by decide)).trans ((me_up_kn (by decide)).trans ((me_up_kn (by decide)).trans ((me_up_kn (by decide)).trans ((me_up_kn (by decide)).trans ((me_up_kn (by decide)).trans (h.mm n j g0 g1)))))))))))
    (fun n j g0 g1 => (me_up_kn (by decide)).trans ((me_up_kn (by decide)).trans ((me_up_kn (by decide)).trans ((me_up_kn (by decide)).trans ((me_up_kn (by decide)).trans ((me_up_kn (by decide)).trans ((me_up_kn (by decide)).trans ((me_up_kn (by decide)).trans ((me_up_kn (by decide)).trans ((me_up_kn (by decide)).trans (h.sk n j g0 g1)))))))))))
    (fun n j g0 g1 => (me_up_kn (by decide)).trans ((me_up_kn (by decide)).trans ((me_up_kn (by decide)).trans ((me_up_kn (by decide)).trans ((me_up_kn (by decide)).trans ((me_up_kn (by decide)).trans ((me_up_kn (by decide)).trans ((me_up_kn (by decide)).trans ((me_up_kn (by decide)).trans ((me_up_kn (by decide)).trans (h.nm n j g0 g1)))))))))))
    (fun n j g0 g1 => (me_up_kn (by decide)).trans ((me_up_kn (by decide)).trans ((me_up_kn (by decide)).trans ((me_up_kn (by decide)).trans ((me_up_kn (by decide)).trans ((me_up_kn (by decide)).trans ((me_up_kn (by decide)).trans ((me_up_kn (by decide)).trans ((me_up_kn (by decide)).trans ((me_up_kn (by decide)).trans (h.nu n j g0 g1)))))))))))
    (fun i j g0 g1 => (me_up_kn (by decide)).trans ((me_up_kn (by decide)).trans ((me_up_kn (by decide)).trans ((me_up_kn (by decide)).trans ((me_up_kn (by decide)).trans ((me_up_kn (by decide)).trans ((me_up_kn (by decide)).trans ((me_up_kn (by decide)).trans ((me_up_kn (by decide)).trans ((me_up_kn (by decide)).trans (h.tr i j g0 g1)))))))))))
    (fun n g0 => (me_up_kn (by decide)).trans ((me_up_kn (by decide)).trans ((me_up_kn (by decide)).trans ((me_up_kn (by decide)).trans ((me_up_kn (by decide)).trans ((me_up_kn (by decide)).trans ((me_up_kn (by decide)).trans ((me_up_kn (by decide)).trans ((me_up_kn (by decide)).trans ((me_up_kn (by decide)).trans (h.aw n g0)))))))))))
    (fun n g0 => (me_up_kn (by decide)).trans ((me_up_kn (by decide)).trans ((me_up_kn (by decide)).trans ((me_up_kn (by decide)).trans ((me_up_kn (by decide)).trans ((me_up_kn (by decide)).trans ((me_up_kn (by decide)).trans ((me_up_kn (by decide)).trans ((me_up_kn (by decide)).trans ((me_up_kn (by decide)).trans (h.dp n g0)))))))))))
    (fun n g0 => (me_up_kn (by decide)).trans ((me_up_kn (by decide)).trans ((me_up_kn (by decide)).trans ((me_up_kn (by decide)).trans ((me_up_kn (by decide)).trans ((me_up_kn (by decide)).trans ((me_up_kn (by decide)).trans ((me_up_kn (by decide)).trans ((me_up_kn (by decide)).trans ((me_up_kn (by decide)).trans (h.ln n g0)))))))))))
    (fun n g0 => (me_up_kn (by decide)).trans ((me_up_kn (by decide)).trans ((me_up_kn (by decide)).trans ((me_up_kn (by decide)).trans ((me_up_kn (by decide)).trans ((me_up_kn (by decide)).trans ((me_up_kn (by decide)).trans ((me_up_kn (by decide)).trans ((me_up_kn (by decide)).trans ((me_up_kn (by decide)).trans (h.co n g0)))))))))))
    (fun n g0 g1 => (me_up_kn (by decide)).trans ((me_up_kn (by decide)).trans ((me_up_kn (by decide)).trans ((me_up_kn (by decide)).trans ((me_up_kn (by decide)).trans ((me_up_kn (by decide)).trans ((me_up_kn (by decide)).trans ((me_up_kn (by decide)).trans ((me_up_kn (by decide)).trans ((me_up_kn (by decide)).trans (h.fa n g0 g1)))))))))))
    (fun n g0 => (me_up_kn (by decide)).trans ((me_up_kn (by decide)).trans ((me_up_kn (by decide)).trans ((me_up_kn (by decide)).trans ((me_up_kn (by decide)).trans ((me_up_kn (by decide)).trans ((me_up_kn (by decide)).trans ((me_up_kn (by decide)).trans ((me_up_kn (by decide)).trans ((me_up_kn (by decide)).trans (h.ca n g0)))))))))))
    (fun i g0 => (me_up_kn (by decide)).trans ((me_up_kn (by decide)).trans ((me_up_kn (by decide)).trans ((me_up_kn (by decide)).trans ((me_up_kn (by decide)).trans ((me_up_kn (by decide)).trans ((me_up_kn (by decide)).trans ((me_up_kn (by decide)).trans ((me_up_kn (by decide)).trans ((me_up_kn (by decide)).trans (h.tn i g0)))))))))))
theorem me_RM.w_madeQ {a : me_S} {μ : me_M} (h : me_RM a μ) (k : Int32) (s g : Nat) (w : Int32) (b : Nat) (pp : Nat) (fl mo : Int32) : me_RM (me_S.s_ad (me_S.s_pl (me_S.s_ow (me_S.s_np (me_S.s_an (me_S.s_ad (me_S.s_pl (me_S.s_dn (me_S.s_ma (me_S.s_hd (me_S.s_tk (me_S.s_pt (me_S.s_bo (me_S.s_wd (me_S.s_gl (me_S.s_sr (me_S.s_st (me_S.s_kd a (me_fu a.kd a.np k)) (me_fu a.st a.np 115)) (me_fu a.sr a.np s)) (me_fu a.gl a.np g)) (me_fu a.wd a.np w)) (me_fu a.bo a.np b)) (me_fu a.pt a.np 0)) (me_fu a.tk a.np 0)) (me_fu a.hd a.np none)) (me_fu a.ma a.np a.bt)) (me_fu a.dn a.np none)) (me_fu a.pl a.np 0)) (me_fu a.ad a.np 0)) (me_fu a.an a.np none)) (a.np + 1)) (a.ow + 1)) (me_fu (me_fu a.pl a.np 0) a.np pp)) (me_fu (me_fu a.ad a.np 0) a.np (if fl = 0 then 0 else mo))) (me_up (me_up (me_up (me_up (me_up (me_up (me_up (me_up (me_up (me_up (me_up (me_up (me_up μ 37 0 a.np (k)) 38 0 a.np (115)) 39 0 a.np (me_N s)) 40 0 a.np (me_N g)) 41 0 a.np (w)) 42 0 a.np (me_N b)) 43 0 a.np (0)) 44 0 a.np (me_N a.bt)) 49 0 a.np (-1)) 36 0 19 (me_N (a.np + 1))) 46 0 a.np (me_N pp)) 47 0 a.np (fl)) 48 0 a.np (mo)) :=
  me_RM.mk ((me_up_kn (by decide)).trans ((me_up_kn (by decide)).trans ((me_up_kn (by decide)).trans ((me_up_jn (by decide)).trans ((me_up_kn (by decide)).trans ((me_up_kn (by decide)).trans ((me_up_kn (by decide)).trans ((me_up_kn (by decide)).trans ((me_up_kn (by decide)).trans ((me_up_kn (by decide)).trans ((me_up_kn (by decide)).trans ((me_up_kn (by decide)).trans ((me_up_kn (by decide)).trans (h.w))))))))))))))
    ((me_up_kn (by decide)).trans ((me_up_kn (by decide)).trans ((me_up_kn (by decide)).trans ((me_up_jn (by decide)).trans ((me_up_kn (by decide)).trans ((me_up_kn (by decide)).trans ((me_up_kn (by decide)).trans ((me_up_kn (by decide)).trans ((me_up_kn (by decide)).trans ((me_up_kn (by decide)).trans ((me_up_kn (by decide)).trans ((me_up_kn (by decide)).trans ((me_up_kn (by decide)).trans (h.h))))))))))))))
    ((me_up_kn (by decide)).trans ((me_up_kn (by decide)).trans ((me_up_kn (by decide)).trans ((me_up_jn (by decide)).trans ((me_up_kn (by decide)).trans ((me_up_kn (by decide)).trans ((me_up_kn (by decide)).trans ((me_up_kn (by decide)).trans ((me_up_kn (by decide)).trans ((me_up_kn (by decide)).trans ((me_up_kn (by decide)).trans ((me_up_kn (by decide)).trans ((me_up_kn (by decide)).trans (h.rp))))))))))))))
    ((me_up_kn (by decide)).trans ((me_up_kn (by decide)).trans ((me_up_kn (by decide)).trans ((me_up_jn (by decide)).trans ((me_up_kn (by decide)).trans ((me_up_kn (by decide)).trans ((me_up_kn (by decide)).trans ((me_up_kn (by decide)).trans ((me_up_kn (by decide)).trans ((me_up_kn (by decide)).trans ((me_up_kn (by decide)).trans ((me_up_kn (by decide)).trans ((me_up_kn (by decide)).trans (h.wy))))))))))))))
    ((me_up_kn (by decide)).trans ((me_up_kn (by decide)).trans ((me_up_kn (by decide)).trans ((me_up_jn (by decide)).trans ((me_up_kn (by decide)).trans ((me_up_kn (by decide)).trans ((me_up_kn (by decide)).trans ((me_up_kn (by decide)).trans ((me_up_kn (by decide)).trans ((me_up_kn (by decide)).trans ((me_up_kn (by decide)).trans ((me_up_kn (by decide)).trans ((me_up_kn (by decide)).trans (h.bt))))))))))))))
    (by
      show (me_up (me_up (me_up (me_up (me_up (me_up (me_up (me_up (me_up (me_up (me_up (me_up (me_up μ 37 0 a.np (k)) 38 0 a.np (115)) 39 0 a.np (me_N s)) 40 0 a.np (me_N g)) 41 0 a.np (w)) 42 0 a.np (me_N b)) 43 0 a.np (0)) 44 0 a.np (me_N a.bt)) 49 0 a.np (-1)) 36 0 19 (me_N (a.np + 1))) 46 0 a.np (me_N pp)) 47 0 a.np (fl)) 48 0 a.np (mo)) 36 0 19 = me_N (a.np + 1)
      rw [me_up_kn (by decide), me_up_kn (by decide), me_up_kn (by decide)]
      exact me_up_at)
    ((me_up_kn (by decide)).trans ((me_up_kn (by decide)).trans ((me_up_kn (by decide)).trans ((me_up_jn (by decide)).trans ((me_up_kn (by decide)).trans ((me_up_kn (by decide)).trans ((me_up_kn (by decide)).trans ((me_up_kn (by decide)).trans ((me_up_kn (by decide)).trans ((me_up_kn (by decide)).trans ((me_up_kn (by decide)).trans ((me_up_kn (by decide)).trans ((me_up_kn (by decide)).trans (h.nt))))))))))))))
    (fun i g0 => by
      show (me_up (me_up (me_up (me_up (me_up (me_up (me_up (me_up (me_up (me_up (me_up (me_up (me_up μ 37 0 a.np (k)) 38 0 a.np (115)) 39 0 a.np (me_N s)) 40 0 a.np (me_N g)) 41 0 a.np (w)) 42 0 a.np (me_N b)) 43 0 a.np (0)) 44 0 a.np (me_N a.bt)) 49 0 a.np (-1)) 36 0 19 (me_N (a.np + 1))) 46 0 a.np (me_N pp)) 47 0 a.np (fl)) 48 0 a.np (mo)) 37 0 i = (me_fu a.kd a.np k) i
      replace g0 : i < a.np + 1 := g0
      by_cases e : i = a.np
      · subst e
        simp only [me_up_ap, me_fu_ap]
        simp [me_Op]
      · simp only [me_up_ap, me_fu_ap]
        simp [e]
        exact h.kd i (by omega))
    (fun i g0 => by
      show (me_up (me_up (me_up (me_up (me_up (me_up (me_up (me_up (me_up (me_up (me_up (me_up (me_up μ 37 0 a.np (k)) 38 0 a.np (115)) 39 0 a.np (me_N s)) 40 0 a.np (me_N g)) 41 0 a.np (w)) 42 0 a.np (me_N b)) 43 0 a.np (0)) 44 0 a.np (me_N a.bt)) 49 0 a.np (-1)) 36 0 19 (me_N (a.np + 1))) 46 0 a.np (me_N pp)) 47 0 a.np (fl)) 48 0 a.np (mo)) 38 0 i = (me_fu a.st a.np 115) i
      replace g0 : i < a.np + 1 := g0
      by_cases e : i = a.np
      · subst e
        simp only [me_up_ap, me_fu_ap]
        simp [me_Op]
      · simp only [me_up_ap, me_fu_ap]
        simp [e]
        exact h.st i (by omega))
    (fun i g0 => by
      show (me_up (me_up (me_up (me_up (me_up (me_up (me_up (me_up (me_up (me_up (me_up (me_up (me_up μ 37 0 a.np (k)) 38 0 a.np (115)) 39 0 a.np (me_N s)) 40 0 a.np (me_N g)) 41 0 a.np (w)) 42 0 a.np (me_N b)) 43 0 a.np (0)) 44 0 a.np (me_N a.bt)) 49 0 a.np (-1)) 36 0 19 (me_N (a.np + 1))) 46 0 a.np (me_N pp)) 47 0 a.np (fl)) 48 0 a.np (mo)) 39 0 i = me_N ((me_fu a.sr a.np s) i)
      replace g0 : i < a.np + 1 := g0
      by_cases e : i = a.np
      · subst e
        simp only [me_up_ap, me_fu_ap]
        simp [me_Op]
      · simp only [me_up_ap, me_fu_ap]
        simp [e]
        exact h.sr i (by omega))
    (fun i g0 => by
      show (me_up (me_up (me_up (me_up (me_up (me_up (me_up (me_up (me_up (me_up (me_up (me_up (me_up μ 37 0 a.np (k)) 38 0 a.np (115)) 39 0 a.np (me_N s)) 40 0 a.np (me_N g)) 41 0 a.np (w)) 42 0 a.np (me_N b)) 43 0 a.np (0)) 44 0 a.np (me_N a.bt)) 49 0 a.np (-1)) 36 0 19 (me_N (a.np + 1))) 46 0 a.np (me_N pp)) 47 0 a.np (fl)) 48 0 a.np (mo)) 40 0 i = me_N ((me_fu a.gl a.np g) i)
      replace g0 : i < a.np + 1 := g0
      by_cases e : i = a.np
      · subst e
        simp only [me_up_ap, me_fu_ap]
        simp [me_Op]
      · simp only [me_up_ap, me_fu_ap]
        simp [e]
        exact h.gl i (by omega))
    (fun i g0 => by
      show (me_up (me_up (me_up (me_up (me_up (me_up (me_up (me_up (me_up (me_up (me_up (me_up (me_up μ 37 0 a.np (k)) 38 0 a.np (115)) 39 0 a.np (me_N s)) 40 0 a.np (me_N g)) 41 0 a.np (w)) 42 0 a.np (me_N b)) 43 0 a.np (0)) 44 0 a.np (me_N a.bt)) 49 0 a.np (-1)) 36 0 19 (me_N (a.np + 1))) 46 0 a.np (me_N pp)) 47 0 a.np (fl)) 48 0 a.np (mo)) 41 0 i = (me_fu a.wd a.np w) i
      replace g0 : i < a.np + 1 := g0
      by_cases e : i = a.np
      · subst e
        simp only [me_up_ap, me_fu_ap]
        simp [me_Op]
      · simp only [me_up_ap, me_fu_ap]
        simp [e]
        exact h.wd i (by omega))
    (fun i g0 => by
      show (me_up (me_up (me_up (me_up (me_up (me_up (me_up (me_up (me_up (me_up (me_up (me_up (me_up μ 37 0 a.np (k)) 38 0 a.np (115)) 39 0 a.np (me_N s)) 40 0 a.np (me_N g)) 41 0 a.np (w)) 42 0 a.np (me_N b)) 43 0 a.np (0)) 44 0 a.np (me_N a.bt)) 49 0 a.np (-1)) 36 0 19 (me_N (a.np + 1))) 46 0 a.np (me_N pp)) 47 0 a.np (fl)) 48 0 a.np (mo)) 42 0 i = me_N ((me_fu a.bo a.np b) i)
      replace g0 : i < a.np + 1 := g0
      by_cases e : i = a.np
      · subst e
        simp only [me_up_ap, me_fu_ap]
        simp [me_Op]
      · simp only [me_up_ap, me_fu_ap]
        simp [e]
        exact h.bo i (by omega))
    (fun i g0 => by
      show (me_up (me_up (me_up (me_up (me_up (me_up (me_up (me_up (me_up (me_up (me_up (me_up (me_up μ 37 0 a.np (k)) 38 0 a.np (115)) 39 0 a.np (me_N s)) 40 0 a.np (me_N g)) 41 0 a.np (w)) 42 0 a.np (me_N b)) 43 0 a.np (0)) 44 0 a.np (me_N a.bt)) 49 0 a.np (-1)) 36 0 19 (me_N (a.np + 1))) 46 0 a.np (me_N pp)) 47 0 a.np (fl)) 48 0 a.np (mo)) 43 0 i = me_N ((me_fu a.pt a.np 0) i)
      replace g0 : i < a.np + 1 := g0
      by_cases e : i = a.np
      · subst e
        simp only [me_up_ap, me_fu_ap]
        simp [me_Op]
        rfl
      · simp only [me_up_ap, me_fu_ap]
        simp [e]
        exact h.pt i (by omega))
    (fun i g0 => by
      show (me_up (me_up (me_up (me_up (me_up (me_up (me_up (me_up (me_up (me_up (me_up (me_up (me_up μ 37 0 a.np (k)) 38 0 a.np (115)) 39 0 a.np (me_N s)) 40 0 a.np (me_N g)) 41 0 a.np (w)) 42 0 a.np (me_N b)) 43 0 a.np (0)) 44 0 a.np (me_N a.bt)) 49 0 a.np (-1)) 36 0 19 (me_N (a.np + 1))) 46 0 a.np (me_N pp)) 47 0 a.np (fl)) 48 0 a.np (mo)) 44 0 i = me_N ((me_fu a.ma a.np a.bt) i)
      replace g0 : i < a.np + 1 := g0
      by_cases e : i = a.np
      · subst e
        simp only [me_up_ap, me_fu_ap]
        simp [me_Op]
      · simp only [me_up_ap, me_fu_ap]
        simp [e]
        exact h.ma i (by omega))
    (fun i g0 g1 => by
      show (me_up (me_up (me_up (me_up (me_up (me_up (me_up (me_up (me_up (me_up (me_up (me_up (me_up μ 37 0 a.np (k)) 38 0 a.np (115)) 39 0 a.np (me_N s)) 40 0 a.np (me_N g)) 41 0 a.np (w)) 42 0 a.np (me_N b)) 43 0 a.np (0)) 44 0 a.np (me_N a.bt)) 49 0 a.np (-1)) 36 0 19 (me_N (a.np + 1))) 46 0 a.np (me_N pp)) 47 0 a.np (fl)) 48 0 a.np (mo)) 45 0 i = me_Op ((me_fu a.dn a.np none) i)
      replace g0 : i < a.np + 1 := g0
      replace g1 : me_fu a.st a.np 115 i = 100 ∨ me_fu a.st a.np 115 i = 114 := g1
      by_cases e : i = a.np
      · rw [e, me_fu_at] at g1
        exact absurd g1 (by decide)
      · rw [me_fu_ne e] at g1 ⊢
        simp only [me_up_ap]
        simp [e]
        exact h.dn i (by omega) g1)
    (fun i g0 g1 => by
      show (me_up (me_up (me_up (me_up (me_up (me_up (me_up (me_up (me_up (me_up (me_up (me_up (me_up μ 37 0 a.np (k)) 38 0 a.np (115)) 39 0 a.np (me_N s)) 40 0 a.np (me_N g)) 41 0 a.np (w)) 42 0 a.np (me_N b)) 43 0 a.np (0)) 44 0 a.np (me_N a.bt)) 49 0 a.np (-1)) 36 0 19 (me_N (a.np + 1))) 46 0 a.np (me_N pp)) 47 0 a.np (fl)) 48 0 a.np (mo)) 46 0 i = me_N ((me_fu (me_fu a.pl a.np 0) a.np pp) i)
      replace g0 : i < a.np + 1 := g0
      replace g1 : me_fu a.kd a.np k i = 113 := g1
      by_cases e : i = a.np
      · subst e
        simp only [me_up_ap, me_fu_ap]
        simp
      · rw [me_fu_ne e] at g1
        simp only [me_up_ap, me_fu_ap]
        simp [e]
        exact h.pl i (by omega) g1)
    (fun i g0 g1 => by
      show (if (me_up (me_up (me_up (me_up (me_up (me_up (me_up (me_up (me_up (me_up (me_up (me_up (me_up μ 37 0 a.np (k)) 38 0 a.np (115)) 39 0 a.np (me_N s)) 40 0 a.np (me_N g)) 41 0 a.np (w)) 42 0 a.np (me_N b)) 43 0 a.np (0)) 44 0 a.np (me_N a.bt)) 49 0 a.np (-1)) 36 0 19 (me_N (a.np + 1))) 46 0 a.np (me_N pp)) 47 0 a.np (fl)) 48 0 a.np (mo)) 47 0 i = 0 then 0 else (me_up (me_up (me_up (me_up (me_up (me_up (me_up (me_up (me_up (me_up (me_up (me_up (me_up μ 37 0 a.np (k)) 38 0 a.np (115)) 39 0 a.np (me_N s)) 40 0 a.np (me_N g)) 41 0 a.np (w)) 42 0 a.np (me_N b)) 43 0 a.np (0)) 44 0 a.np (me_N a.bt)) 49 0 a.np (-1)) 36 0 19 (me_N (a.np + 1))) 46 0 a.np (me_N pp)) 47 0 a.np (fl)) 48 0 a.np (mo)) 48 0 i) = (me_fu (me_fu a.ad a.np 0) a.np (if fl = 0 then 0 else mo)) i
      replace g0 : i < a.np + 1 := g0
      replace g1 : me_fu a.kd a.np k i = 113 := g1
      by_cases e : i = a.np
      · subst e
        simp only [me_up_ap, me_fu_ap]
        simp
      · rw [me_fu_ne e] at g1
        simp only [me_up_ap, me_fu_ap]
        simp [e]
        exact h.ad i (by omega) g1)
    (fun i g0 => by
      show (me_up (me_up (me_up (me_up (me_up (me_up (me_up (me_up (me_up (me_up (me_up (me_up (me_up μ 37 0 a.np (k)) 38 0 a.np (115)) 39 0 a.np (me_N s)) 40 0 a.np (me_N g)) 41 0 a.np (w)) 42 0 a.np (me_N b)) 43 0 a.np (0)) 44 0 a.np (me_N a.bt)) 49 0 a.np (-1)) 36 0 19 (me_N (a.np + 1))) 46 0 a.np (me_N pp)) 47 0 a.np (fl)) 48 0 a.np (mo)) 49 0 i = me_Op ((me_fu a.an a.np none) i)
      replace g0 : i < a.np + 1 := g0
      by_cases e : i = a.np
      · subst e
        simp only [me_up_ap, me_fu_ap]
        simp [me_Op]
      · simp only [me_up_ap, me_fu_ap]
        simp [e]
        exact h.an i (by omega))
    (fun b k j e g0 g1 g2 => (me_up_kn (by decide)).trans ((me_up_kn (by decide)).trans ((me_up_kn (by decide)).trans ((me_up_kn (by decide)).trans ((me_up_kn (by decide)).trans ((me_up_kn (by decide)).trans ((me_up_kn (by decide)).trans ((me_up_kn (by decide)).trans ((me_up_kn (by decide)).trans ((me_up_kn (by decide)).trans ((me_up_kn (by decide)).trans ((me_up_kn (by decide)).trans ((me_up_kn (by decide)).trans (h.q1 b k j e g0 g1 g2))))))))))))))
    (fun b k j e g0 g1 g2 => (me_up_kn (by decide)).trans ((me_up_kn (by decide)).trans ((me_up_kn (by decide)).trans ((me_up_kn (by decide)).trans ((me_up_kn (by decide)).trans ((me_up_kn (by decide)).trans ((me_up_kn (by decide)).trans ((me_up_kn (by decide)).trans ((me_up_kn (by decide)).trans ((me_up_kn (by decide)).trans ((me_up_kn (by decide)).trans ((me_up_kn (by decide)).trans ((me_up_kn (by decide)).trans (h.q3 b k j e g0 g1 g2))))))))))))))
    (fun b k g0 g1 => (me_up_kn (by decide)).trans ((me_up_kn (by decide)).trans ((me_up_kn (by decide)).trans ((me_up_kn (by decide)).trans ((me_up_kn (by decide)).trans ((me_up_kn (by decide)).trans ((me_up_kn (by decide)).trans ((me_up_kn (by decide)).trans ((me_up_kn (by decide)).trans ((me_up_kn (by decide)).trans ((me_up_kn (by decide)).trans ((me_up_kn (by decide)).trans ((me_up_kn (by decide)).trans (h.qn b k g0 g1))))))))))))))
    (fun b k g0 g1 => (me_up_kn (by decide)).trans ((me_up_kn (by decide)).trans ((me_up_kn (by decide)).trans ((me_up_kn (by decide)).trans ((me_up_kn (by decide)).trans ((me_up_kn (by decide)).trans ((me_up_kn (by decide)).trans ((me_up_kn (by decide)).trans ((me_up_kn (by decide)).trans ((me_up_kn (by decide)).trans ((me_up_kn (by decide)).trans ((me_up_kn (by decide)).trans ((me_up_kn (by decide)).trans (h.ro b k g0 g1))))))))))))))
    (fun b k g0 g1 => by rw [me_up_kn (by decide), me_up_kn (by decide), me_up_kn (by decide), me_up_kn (by decide), me_up_kn (by decide), me_up_kn (by decide), me_up_kn (by decide), me_up_kn (by decide), me_up_kn (by decide), me_up_kn (by decide), me_up_kn (by decide), me_up_kn (by decide), me_up_kn (by decide)]; exact h.rh b k g0 g1)
    (fun b k g0 g1 => (me_up_kn (by decide)).trans ((me_up_kn (by decide)).trans ((me_up_kn (by decide)).trans ((me_up_kn (by decide)).trans ((me_up_kn (by decide)).trans ((me_up_kn (by decide)).trans ((me_up_kn (by decide)).trans ((me_up_kn (by decide)).trans ((me_up_kn (by decide)).trans ((me_up_kn (by decide)).trans ((me_up_kn (by decide)).trans ((me_up_kn (by decide)).trans ((me_up_kn (by decide)).trans (h.rg b k g0 g1))))))))))))))
    (fun b k g0 g1 => (me_up_kn (by decide)).trans ((me_up_kn (by decide)).trans ((me_up_kn (by decide)).trans ((me_up_kn (by decide)).trans ((me_up_kn (by decide)).trans ((me_up_kn (by decide)).trans ((me_up_kn (by decide)).trans ((me_up_kn (by decide)).trans ((me_up_kn (by decide)).trans ((me_up_kn (by decide)).trans ((me_up_kn (by decide)).trans ((me_up_kn (by decide)).trans ((me_up_kn (by decide)).trans (h.lr b k g0 g1))))))))))))))
    (fun n d g0 g1 => (me_up_kn (by decide)).trans ((me_up_kn (by decide)).trans ((me_up_kn (by decide)).trans ((me_up_kn (by decide)).trans ((me_up_kn (by decide)).trans ((me_up_kn (by decide)).trans ((me_up_kn (by decide)).trans ((me_up_kn (by decide)).trans ((me_up_kn (by decide)).trans ((me_up_kn (by decide)).trans ((me_up_kn (by decide)).trans ((me_up_kn (by decide)).trans ((me_up_kn (by decide)).trans (h.fl n d g0 g1))))))))))))))
    (fun n j g0 g1 => (me_up_kn (by decide)).trans ((me_up_kn (by decide)).trans ((me_up_kn (by decide)).trans ((me_up_kn (by decide)).trans ((me_up_kn (by decide)).trans ((me_up_kn (by decide)).trans ((me_up_kn (by decide)).trans ((me_up_kn (by decide)).trans ((me_up_kn (by decide)).trans ((me_up_kn (by decide)).trans ((me_up_kn (by decide)).trans ((me_up_kn (by decide)).trans ((me_up_kn (by decide)).trans (h.mm n j g0 g1))))))))))))))
    (fun n j g0 g1 => (me_up_kn (by decide)).trans ((me_up_kn (by decide)).trans ((me_up_kn (by decide)).trans ((me_up_kn (by decide)).trans ((me_up_kn (by decide)).trans ((me_up_kn (by decide)).trans ((me_up_kn (by decide)).trans ((me_up_kn (by decide)).trans ((me_up_kn (by decide)).trans ((me_up_kn (by decide)).trans ((me_up_kn (by decide)).trans ((me_up_kn (by decide)).trans ((me_up_kn (by decide)).trans (h.sk n j g0 g1))))))))))))))
    (fun n j g0 g1 => (me_up_kn (by decide)).trans ((me_up_kn (by decide)).trans ((me_up_kn (by decide)).trans ((me_up_kn (by decide)).trans ((me_up_kn (by decide)).trans ((me_up_kn (by decide)).trans ((me_up_kn (by decide)).trans ((me_up_kn (by decide)).trans ((me_up_kn (by decide)).trans ((me_up_kn (by decide)).trans ((me_up_kn (by decide)).trans ((me_up_kn (by decide)).trans ((me_up_kn (by decide)).trans (h.nm n j g0 g1))))))))))))))
    (fun n j g0 g1 => (me_up_kn (by decide)).trans ((me_up_kn (by decide)).trans ((me_up_kn (by decide)).trans ((me_up_kn (by decide)).trans ((me_up_kn (by decide)).trans ((me_up_kn (by decide)).trans ((me_up_kn (by decide)).trans ((me_up_kn (by decide)).trans ((me_up_kn (by decide)).trans ((me_up_kn (by decide)).trans ((me_up_kn (by decide)).trans ((me_up_kn (by decide)).trans ((me_up_kn (by decide)).trans (h.nu n j g0 g1))))))))))))))
    (fun i j g0 g1 => (me_up_kn (by decide)).trans ((me_up_kn (by decide)).trans ((me_up_kn (by decide)).trans ((me_up_kn (by decide)).trans ((me_up_kn (by decide)).trans ((me_up_kn (by decide)).trans ((me_up_kn (by decide)).trans ((me_up_kn (by decide)).trans ((me_up_kn (by decide)).trans ((me_up_kn (by decide)).trans ((me_up_kn (by decide)).trans ((me_up_kn (by decide)).trans ((me_up_kn (by decide)).trans (h.tr i j g0 g1))))))))))))))
    (fun n g0 => (me_up_kn (by decide)).trans ((me_up_kn (by decide)).trans ((me_up_kn (by decide)).trans ((me_up_kn (by decide)).trans ((me_up_kn (by decide)).trans ((me_up_kn (by decide)).trans ((me_up_kn (by decide)).trans ((me_up_kn (by decide)).trans ((me_up_kn (by decide)).trans ((me_up_kn (by decide)).trans ((me_up_kn (by decide)).trans ((me_up_kn (by decide)).trans ((me_up_kn (by decide)).trans (h.aw n g0))))))))))))))
    (fun n g0 => (me_up_kn (by decide)).trans ((me_up_kn (by decide)).trans ((me_up_kn (by decide)).trans ((me_up_kn (by decide)).trans ((me_up_kn (by decide)).trans ((me_up_kn (by decide)).trans ((me_up_kn (by decide)).trans ((me_up_kn (by decide)).trans ((me_up_kn (by decide)).trans ((me_up_kn (by decide)).trans ((me_up_kn (by decide)).trans ((me_up_kn (by decide)).trans ((me_up_kn (by decide)).trans (h.dp n g0))))))))))))))
    (fun n g0 => (me_up_kn (by decide)).trans ((me_up_kn (by decide)).trans ((me_up_kn (by decide)).trans ((me_up_kn (by decide)).trans ((me_up_kn (by decide)).trans ((me_up_kn (by decide)).trans ((me_up_kn (by decide)).trans ((me_up_kn (by decide)).trans ((me_up_kn (by decide)).trans ((me_up_kn (by decide)).trans ((me_up_kn (by decide)).trans ((me_up_kn (by decide)).trans ((me_up_kn (by decide)).trans (h.ln n g0))))))))))))))
    (fun n g0 => (me_up_kn (by decide)).trans ((me_up_kn (by decide)).trans ((me_up_kn (by decide)).trans ((me_up_kn (by decide)).trans ((me_up_kn (by decide)).trans ((me_up_kn (by decide)).trans ((me_up_kn (by decide)).trans ((me_up_kn (by decide)).trans ((me_up_kn (by decide)).trans ((me_up_kn (by decide)).trans ((me_up_kn (by decide)).trans ((me_up_kn (by decide)).trans ((me_up_kn (by decide)).trans (h.co n g0))))))))))))))
    (fun n g0 g1 => (me_up_kn (by decide)).trans ((me_up_kn (by decide)).trans ((me_up_kn (by decide)).trans ((me_up_kn (by decide)).trans ((me_up_kn (by decide)).trans ((me_up_kn (by decide)).trans ((me_up_kn (by decide)).trans ((me_up_kn (by decide)).trans ((me_up_kn (by decide)).trans ((me_up_kn (by decide)).trans ((me_up_kn (by decide)).trans ((me_up_kn (by decide)).trans ((me_up_kn (by decide)).trans (h.fa n g0 g1))))))))))))))
    (fun n g0 => (me_up_kn (by decide)).trans ((me_up_kn (by decide)).trans ((me_up_kn (by decide)).trans ((me_up_kn (by decide)).trans ((me_up_kn (by decide)).trans ((me_up_kn (by decide)).trans ((me_up_kn (by decide)).trans ((me_up_kn (by decide)).trans ((me_up_kn (by decide)).trans ((me_up_kn (by decide)).trans ((me_up_kn (by decide)).trans ((me_up_kn (by decide)).trans ((me_up_kn (by decide)).trans (h.ca n g0))))))))))))))
    (fun i g0 => (me_up_kn (by decide)).trans ((me_up_kn (by decide)).trans ((me_up_kn (by decide)).trans ((me_up_kn (by decide)).trans ((me_up_kn (by decide)).trans ((me_up_kn (by decide)).trans ((me_up_kn (by decide)).trans ((me_up_kn (by decide)).trans ((me_up_kn (by decide)).trans ((me_up_kn (by decide)).trans ((me_up_kn (by decide)).trans ((me_up_kn (by decide)).trans ((me_up_kn (by decide)).trans (h.tn i g0))))))))))))))
