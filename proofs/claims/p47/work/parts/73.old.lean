/-! FROM THE ROWS OF whole that speak of the class alone (taken out by gen/extract.py) -/
theorem me_RC.w_makeQ {a : me_S} {μ : me_M} (h : me_RC a μ) (k : Int32) (s g : Nat) (w : Int32) (b : Nat) : me_RC (me_S.s_ow (me_S.s_np (me_S.s_an (me_S.s_ad (me_S.s_pl (me_S.s_dn (me_S.s_ma (me_S.s_hd (me_S.s_tk (me_S.s_pt (me_S.s_bo (me_S.s_wd (me_S.s_gl (me_S.s_sr (me_S.s_st (me_S.s_kd a (me_fu a.kd a.np k)) (me_fu a.st a.np 115)) (me_fu a.sr a.np s)) (me_fu a.gl a.np g)) (me_fu a.wd a.np w)) (me_fu a.bo a.np b)) (me_fu a.pt a.np 0)) (me_fu a.tk a.np 0)) (me_fu a.hd a.np none)) (me_fu a.ma a.np a.bt)) (me_fu a.dn a.np none)) (me_fu a.pl a.np 0)) (me_fu a.ad a.np 0)) (me_fu a.an a.np none)) (a.np + 1)) (a.ow + 1)) (me_up (me_up (me_up (me_up (me_up (me_up (me_up (me_up (me_up (me_up (me_up (me_up (me_up (me_up (me_up (me_up μ 8 a.np 1 (k)) 8 a.np 2 (115)) 8 a.np 3 (me_N s)) 8 a.np 4 (me_N g)) 8 a.np 5 (w)) 8 a.np 6 (me_N (b + 1))) 8 a.np 7 (0)) 8 a.np 8 (0)) 8 a.np 9 (-1)) 8 a.np 10 (me_N a.bt)) 8 a.np 11 (-1)) 8 a.np 12 (0)) 8 a.np 13 (0)) 8 a.np 14 (-1)) 6 0 2 (me_N (a.ow + 1))) 6 0 1 (me_N (a.np + 1))) :=
  me_RC.mk ((me_up_kn (by decide)).trans ((me_up_kn (by decide)).trans ((me_up_kn (by decide)).trans ((me_up_kn (by decide)).trans ((me_up_kn (by decide)).trans ((me_up_kn (by decide)).trans ((me_up_kn (by decide)).trans ((me_up_kn (by decide)).trans ((me_up_kn (by decide)).trans ((me_up_kn (by decide)).trans ((me_up_kn (by decide)).trans ((me_up_kn (by decide)).trans ((me_up_kn (by decide)).trans ((me_up_kn (by decide)).trans ((me_up_kn (by decide)).trans ((me_up_kn (by decide)).trans (h.rp)))))))))))))))))
    ((me_up_kn (by decide)).trans ((me_up_kn (by decide)).trans ((me_up_kn (by decide)).trans ((me_up_kn (by decide)).trans ((me_up_kn (by decide)).trans ((me_up_kn (by decide)).trans ((me_up_kn (by decide)).trans ((me_up_kn (by decide)).trans ((me_up_kn (by decide)).trans ((me_up_kn (by decide)).trans ((me_up_kn (by decide)).trans ((me_up_kn (by decide)).trans ((me_up_kn (by decide)).trans ((me_up_kn (by decide)).trans ((me_up_kn (by decide)).trans ((me_up_kn (by decide)).trans (h.nn)))))))))))))))))
    (fun n d g0 g1 => (me_up_kn (by decide)).trans ((me_up_kn (by decide)).trans ((me_up_kn (by decide)).trans ((me_up_kn (by decide)).trans ((me_up_kn (by decide)).trans ((me_up_kn (by decide)).trans ((me_up_kn (by decide)).trans ((me_up_kn (by decide)).trans ((me_up_kn (by decide)).trans ((me_up_kn (by decide)).trans ((me_up_kn (by decide)).trans ((me_up_kn (by decide)).trans ((me_up_kn (by decide)).trans ((me_up_kn (by decide)).trans ((me_up_kn (by decide)).trans ((me_up_kn (by decide)).trans (h.ah n d g0 g1)))))))))))))))))
    (fun n d g0 g1 => (me_up_kn (by decide)).trans ((me_up_kn (by decide)).trans ((me_up_kn (by decide)).trans ((me_up_kn (by decide)).trans ((me_up_kn (by decide)).trans ((me_up_kn (by decide)).trans ((me_up_kn (by decide)).trans ((me_up_kn (by decide)).trans ((me_up_kn (by decide)).trans ((me_up_kn (by decide)).trans ((me_up_kn (by decide)).trans ((me_up_kn (by decide)).trans ((me_up_kn (by decide)).trans ((me_up_kn (by decide)).trans ((me_up_kn (by decide)).trans ((me_up_kn (by decide)).trans (h.fl n d g0 g1)))))))))))))))))
    (fun n g0 => (me_up_kn (by decide)).trans ((me_up_kn (by decide)).trans ((me_up_kn (by decide)).trans ((me_up_kn (by decide)).trans ((me_up_kn (by decide)).trans ((me_up_kn (by decide)).trans ((me_up_kn (by decide)).trans ((me_up_kn (by decide)).trans ((me_up_kn (by decide)).trans ((me_up_kn (by decide)).trans ((me_up_kn (by decide)).trans ((me_up_kn (by decide)).trans ((me_up_kn (by decide)).trans ((me_up_kn (by decide)).trans ((me_up_kn (by decide)).trans ((me_up_kn (by decide)).trans (h.cl n g0)))))))))))))))))
    (fun n g0 => (me_up_kn (by decide)).trans ((me_up_kn (by decide)).trans ((me_up_kn (by decide)).trans ((me_up_kn (by decide)).trans ((me_up_kn (by decide)).trans ((me_up_kn (by decide)).trans ((me_up_kn (by decide)).trans ((me_up_kn (by decide)).trans ((me_up_kn (by decide)).trans ((me_up_kn (by decide)).trans ((me_up_kn (by decide)).trans ((me_up_kn (by decide)).trans ((me_up_kn (by decide)).trans ((me_up_kn (by decide)).trans ((me_up_kn (by decide)).trans ((me_up_kn (by decide)).trans (h.li n g0)))))))))))))))))
    (by
      show (me_up (me_up (me_up (me_up (me_up (me_up (me_up (me_up (me_up (me_up (me_up (me_up (me_up (me_up (me_up (me_up μ 8 a.np 1 (k)) 8 a.np 2 (115)) 8 a.np 3 (me_N s)) 8 a.np 4 (me_N g)) 8 a.np 5 (w)) 8 a.np 6 (me_N (b + 1))) 8 a.np 7 (0)) 8 a.np 8 (0)) 8 a.np 9 (-1)) 8 a.np 10 (me_N a.bt)) 8 a.np 11 (-1)) 8 a.np 12 (0)) 8 a.np 13 (0)) 8 a.np 14 (-1)) 6 0 2 (me_N (a.ow + 1))) 6 0 1 (me_N (a.np + 1))) 6 0 1 = me_N (a.np + 1)
      exact me_up_at)
    (by
      show (me_up (me_up (me_up (me_up (me_up (me_up (me_up (me_up (me_up (me_up (me_up (me_up (me_up (me_up (me_up (me_up μ 8 a.np 1 (k)) 8 a.np 2 (115)) 8 a.np 3 (me_N s)) 8 a.np 4 (me_N g)) 8 a.np 5 (w)) 8 a.np 6 (me_N (b + 1))) 8 a.np 7 (0)) 8 a.np 8 (0)) 8 a.np 9 (-1)) 8 a.np 10 (me_N a.bt)) 8 a.np 11 (-1)) 8 a.np 12 (0)) 8 a.np 13 (0)) 8 a.np 14 (-1)) 6 0 2 (me_N (a.ow + 1))) 6 0 1 (me_N (a.np + 1))) 6 0 2 = me_N (a.ow + 1)
      rw [me_up_jn (by decide)]
      exact me_up_at)
    (fun i g0 => (me_up_kn (by decide)).trans ((me_up_kn (by decide)).trans ((me_up_jn (by decide)).trans ((me_up_jn (by decide)).trans ((me_up_jn (by decide)).trans ((me_up_jn (by decide)).trans ((me_up_jn (by decide)).trans ((me_up_jn (by decide)).trans ((me_up_jn (by decide)).trans ((me_up_jn (by decide)).trans ((me_up_jn (by decide)).trans ((me_up_jn (by decide)).trans ((me_up_jn (by decide)).trans ((me_up_jn (by decide)).trans ((me_up_jn (by decide)).trans ((me_up_jn (by decide)).trans (h.p0 i g0)))))))))))))))))
    (fun i => by
      show (me_up (me_up (me_up (me_up (me_up (me_up (me_up (me_up (me_up (me_up (me_up (me_up (me_up (me_up (me_up (me_up μ 8 a.np 1 (k)) 8 a.np 2 (115)) 8 a.np 3 (me_N s)) 8 a.np 4 (me_N g)) 8 a.np 5 (w)) 8 a.np 6 (me_N (b + 1))) 8 a.np 7 (0)) 8 a.np 8 (0)) 8 a.np 9 (-1)) 8 a.np 10 (me_N a.bt)) 8 a.np 11 (-1)) 8 a.np 12 (0)) 8 a.np 13 (0)) 8 a.np 14 (-1)) 6 0 2 (me_N (a.ow + 1))) 6 0 1 (me_N (a.np + 1))) 8 i 1 = (me_fu a.kd a.np k) i
      by_cases e : i = a.np
      · subst e
        simp only [me_up_ap, me_fu_ap]
        simp [me_Op]
      · simp only [me_up_ap, me_fu_ap]
        simp [e]
        exact h.kd i)
    (fun i => by
      show (me_up (me_up (me_up (me_up (me_up (me_up (me_up (me_up (me_up (me_up (me_up (me_up (me_up (me_up (me_up (me_up μ 8 a.np 1 (k)) 8 a.np 2 (115)) 8 a.np 3 (me_N s)) 8 a.np 4 (me_N g)) 8 a.np 5 (w)) 8 a.np 6 (me_N (b + 1))) 8 a.np 7 (0)) 8 a.np 8 (0)) 8 a.np 9 (-1)) 8 a.np 10 (me_N a.bt)) 8 a.np 11 (-1)) 8 a.np 12 (0)) 8 a.np 13 (0)) 8 a.np 14 (-1)) 6 0 2 (me_N (a.ow + 1))) 6 0 1 (me_N (a.np + 1))) 8 i 2 = (me_fu a.st a.np 115) i
      by_cases e : i = a.np
      · subst e
        simp only [me_up_ap, me_fu_ap]
        simp [me_Op]
      · simp only [me_up_ap, me_fu_ap]
        simp [e]
        exact h.st i)
    (fun i => by
      show (me_up (me_up (me_up (me_up (me_up (me_up (me_up (me_up (me_up (me_up (me_up (me_up (me_up (me_up (me_up (me_up μ 8 a.np 1 (k)) 8 a.np 2 (115)) 8 a.np 3 (me_N s)) 8 a.np 4 (me_N g)) 8 a.np 5 (w)) 8 a.np 6 (me_N (b + 1))) 8 a.np 7 (0)) 8 a.np 8 (0)) 8 a.np 9 (-1)) 8 a.np 10 (me_N a.bt)) 8 a.np 11 (-1)) 8 a.np 12 (0)) 8 a.np 13 (0)) 8 a.np 14 (-1)) 6 0 2 (me_N (a.ow + 1))) 6 0 1 (me_N (a.np + 1))) 8 i 3 = me_N ((me_fu a.sr a.np s) i)
      by_cases e : i = a.np
      · subst e
        simp only [me_up_ap, me_fu_ap]
        simp [me_Op]
      · simp only [me_up_ap, me_fu_ap]
        simp [e]
        exact h.sr i)
    (fun i => by
      show (me_up (me_up (me_up (me_up (me_up (me_up (me_up (me_up (me_up (me_up (me_up (me_up (me_up (me_up (me_up (me_up μ 8 a.np 1 (k)) 8 a.np 2 (115)) 8 a.np 3 (me_N s)) 8 a.np 4 (me_N g)) 8 a.np 5 (w)) 8 a.np 6 (me_N (b + 1))) 8 a.np 7 (0)) 8 a.np 8 (0)) 8 a.np 9 (-1)) 8 a.np 10 (me_N a.bt)) 8 a.np 11 (-1)) 8 a.np 12 (0)) 8 a.np 13 (0)) 8 a.np 14 (-1)) 6 0 2 (me_N (a.ow + 1))) 6 0 1 (me_N (a.np + 1))) 8 i 4 = me_N ((me_fu a.gl a.np g) i)
      by_cases e : i = a.np
      · subst e
        simp only [me_up_ap, me_fu_ap]
        simp [me_Op]
      · simp only [me_up_ap, me_fu_ap]
        simp [e]
        exact h.gl i)
    (fun i => by
      show (me_up (me_up (me_up (me_up (me_up (me_up (me_up (me_up (me_up (me_up (me_up (me_up (me_up (me_up (me_up (me_up μ 8 a.np 1 (k)) 8 a.np 2 (115)) 8 a.np 3 (me_N s)) 8 a.np 4 (me_N g)) 8 a.np 5 (w)) 8 a.np 6 (me_N (b + 1))) 8 a.np 7 (0)) 8 a.np 8 (0)) 8 a.np 9 (-1)) 8 a.np 10 (me_N a.bt)) 8 a.np 11 (-1)) 8 a.np 12 (0)) 8 a.np 13 (0)) 8 a.np 14 (-1)) 6 0 2 (me_N (a.ow + 1))) 6 0 1 (me_N (a.np + 1))) 8 i 5 = (me_fu a.wd a.np w) i
      by_cases e : i = a.np
      · subst e
        simp only [me_up_ap, me_fu_ap]
        simp [me_Op]
      · simp only [me_up_ap, me_fu_ap]
        simp [e]
        exact h.wd i)
    (fun i g0 => by
      show (me_up (me_up (me_up (me_up (me_up (me_up (me_up (me_up (me_up (me_up (me_up (me_up (me_up (me_up (me_up (me_up μ 8 a.np 1 (k)) 8 a.np 2 (115)) 8 a.np 3 (me_N s)) 8 a.np 4 (me_N g)) 8 a.np 5 (w)) 8 a.np 6 (me_N (b + 1))) 8 a.np 7 (0)) 8 a.np 8 (0)) 8 a.np 9 (-1)) 8 a.np 10 (me_N a.bt)) 8 a.np 11 (-1)) 8 a.np 12 (0)) 8 a.np 13 (0)) 8 a.np 14 (-1)) 6 0 2 (me_N (a.ow + 1))) 6 0 1 (me_N (a.np + 1))) 8 i 6 = me_N ((me_fu a.bo a.np b) i + 1)
      replace g0 : i < a.np + 1 := g0
      by_cases e : i = a.np
      · subst e
        simp only [me_up_ap, me_fu_ap]
        simp [me_Op]
      · simp only [me_up_ap, me_fu_ap]
        simp [e]
        exact h.bo i (by omega))
    (fun i => by
      show (me_up (me_up (me_up (me_up (me_up (me_up (me_up (me_up (me_up (me_up (me_up (me_up (me_up (me_up (me_up (me_up μ 8 a.np 1 (k)) 8 a.np 2 (115)) 8 a.np 3 (me_N s)) 8 a.np 4 (me_N g)) 8 a.np 5 (w)) 8 a.np 6 (me_N (b + 1))) 8 a.np 7 (0)) 8 a.np 8 (0)) 8 a.np 9 (-1)) 8 a.np 10 (me_N a.bt)) 8 a.np 11 (-1)) 8 a.np 12 (0)) 8 a.np 13 (0)) 8 a.np 14 (-1)) 6 0 2 (me_N (a.ow + 1))) 6 0 1 (me_N (a.np + 1))) 8 i 7 = me_N ((me_fu a.pt a.np 0) i)
      by_cases e : i = a.np
      · subst e
        simp only [me_up_ap, me_fu_ap]
        simp [me_Op]
        rfl
      · simp only [me_up_ap, me_fu_ap]
        simp [e]
        exact h.pt i)
    (fun i => by
      show (me_up (me_up (me_up (me_up (me_up (me_up (me_up (me_up (me_up (me_up (me_up (me_up (me_up (me_up (me_up (me_up μ 8 a.np 1 (k)) 8 a.np 2 (115)) 8 a.np 3 (me_N s)) 8 a.np 4 (me_N g)) 8 a.np 5 (w)) 8 a.np 6 (me_N (b + 1))) 8 a.np 7 (0)) 8 a.np 8 (0)) 8 a.np 9 (-1)) 8 a.np 10 (me_N a.bt)) 8 a.np 11 (-1)) 8 a.np 12 (0)) 8 a.np 13 (0)) 8 a.np 14 (-1)) 6 0 2 (me_N (a.ow + 1))) 6 0 1 (me_N (a.np + 1))) 8 i 8 = me_N ((me_fu a.tk a.np 0) i)
      by_cases e : i = a.np
      · subst e
        simp only [me_up_ap, me_fu_ap]
        simp [me_Op]
        rfl
      · simp only [me_up_ap, me_fu_ap]
        simp [e]
        exact h.tk i)
    (fun i g0 => by
      show (me_up (me_up (me_up (me_up (me_up (me_up (me_up (me_up (me_up (me_up (me_up (me_up (me_up (me_up (me_up (me_up μ 8 a.np 1 (k)) 8 a.np 2 (115)) 8 a.np 3 (me_N s)) 8 a.np 4 (me_N g)) 8 a.np 5 (w)) 8 a.np 6 (me_N (b + 1))) 8 a.np 7 (0)) 8 a.np 8 (0)) 8 a.np 9 (-1)) 8 a.np 10 (me_N a.bt)) 8 a.np 11 (-1)) 8 a.np 12 (0)) 8 a.np 13 (0)) 8 a.np 14 (-1)) 6 0 2 (me_N (a.ow + 1))) 6 0 1 (me_N (a.np + 1))) 8 i 9 = me_Op ((me_fu a.hd a.np none) i)
      replace g0 : i < a.np + 1 := g0
      by_cases e : i = a.np
      · subst e
        simp only [me_up_ap, me_fu_ap]
        simp [me_Op]
      · simp only [me_up_ap, me_fu_ap]
        simp [e]
        exact h.hd i (by omega))
    (fun i => by
      show (me_up (me_up (me_up (me_up (me_up (me_up (me_up (me_up (me_up (me_up (me_up (me_up (me_up (me_up (me_up (me_up μ 8 a.np 1 (k)) 8 a.np 2 (115)) 8 a.np 3 (me_N s)) 8 a.np 4 (me_N g)) 8 a.np 5 (w)) 8 a.np 6 (me_N (b + 1))) 8 a.np 7 (0)) 8 a.np 8 (0)) 8 a.np 9 (-1)) 8 a.np 10 (me_N a.bt)) 8 a.np 11 (-1)) 8 a.np 12 (0)) 8 a.np 13 (0)) 8 a.np 14 (-1)) 6 0 2 (me_N (a.ow + 1))) 6 0 1 (me_N (a.np + 1))) 8 i 10 = me_N ((me_fu a.ma a.np a.bt) i)
      by_cases e : i = a.np
      · subst e
        simp only [me_up_ap, me_fu_ap]
        simp [me_Op]
      · simp only [me_up_ap, me_fu_ap]
        simp [e]
        exact h.ma i)
    (fun i g0 => by
      show (me_up (me_up (me_up (me_up (me_up (me_up (me_up (me_up (me_up (me_up (me_up (me_up (me_up (me_up (me_up (me_up μ 8 a.np 1 (k)) 8 a.np 2 (115)) 8 a.np 3 (me_N s)) 8 a.np 4 (me_N g)) 8 a.np 5 (w)) 8 a.np 6 (me_N (b + 1))) 8 a.np 7 (0)) 8 a.np 8 (0)) 8 a.np 9 (-1)) 8 a.np 10 (me_N a.bt)) 8 a.np 11 (-1)) 8 a.np 12 (0)) 8 a.np 13 (0)) 8 a.np 14 (-1)) 6 0 2 (me_N (a.ow + 1))) 6 0 1 (me_N (a.np + 1))) 8 i 11 = me_Op ((me_fu a.dn a.np none) i)
      replace g0 : i < a.np + 1 := g0
      by_cases e : i = a.np
      · subst e
        simp only [me_up_ap, me_fu_ap]
        simp [me_Op]
      · simp only [me_up_ap, me_fu_ap]
        simp [e]
        exact h.dn i (by omega))
    (fun i => by
      show (me_up (me_up (me_up (me_up (me_up (me_up (me_up (me_up (me_up (me_up (me_up (me_up (me_up (me_up (me_up (me_up μ 8 a.np 1 (k)) 8 a.np 2 (115)) 8 a.np 3 (me_N s)) 8 a.np 4 (me_N g)) 8 a.np 5 (w)) 8 a.np 6 (me_N (b + 1))) 8 a.np 7 (0)) 8 a.np 8 (0)) 8 a.np 9 (-1)) 8 a.np 10 (me_N a.bt)) 8 a.np 11 (-1)) 8 a.np 12 (0)) 8 a.np 13 (0)) 8 a.np 14 (-1)) 6 0 2 (me_N (a.ow + 1))) 6 0 1 (me_N (a.np + 1))) 8 i 12 = me_N ((me_fu a.pl a.np 0) i)
      by_cases e : i = a.np
      · subst e
        simp only [me_up_ap, me_fu_ap]
        simp [me_Op]
        rfl
      · simp only [me_up_ap, me_fu_ap]
        simp [e]
        exact h.pl i)
    (fun i => by
      show (me_up (me_up (me_up (me_up (me_up (me_up (me_up (me_up (me_up (me_up (me_up (me_up (me_up (me_up (me_up (me_up μ 8 a.np 1 (k)) 8 a.np 2 (115)) 8 a.np 3 (me_N s)) 8 a.np 4 (me_N g)) 8 a.np 5 (w)) 8 a.np 6 (me_N (b + 1))) 8 a.np 7 (0)) 8 a.np 8 (0)) 8 a.np 9 (-1)) 8 a.np 10 (me_N a.bt)) 8 a.np 11 (-1)) 8 a.np 12 (0)) 8 a.np 13 (0)) 8 a.np 14 (-1)) 6 0 2 (me_N (a.ow + 1))) 6 0 1 (me_N (a.np + 1))) 8 i 13 = (me_fu a.ad a.np 0) i
      by_cases e : i = a.np
      · subst e
        simp only [me_up_ap, me_fu_ap]
        simp [me_Op]
      · simp only [me_up_ap, me_fu_ap]
        simp [e]
        exact h.ad i)
    (fun i g0 => by
      show (me_up (me_up (me_up (me_up (me_up (me_up (me_up (me_up (me_up (me_up (me_up (me_up (me_up (me_up (me_up (me_up μ 8 a.np 1 (k)) 8 a.np 2 (115)) 8 a.np 3 (me_N s)) 8 a.np 4 (me_N g)) 8 a.np 5 (w)) 8 a.np 6 (me_N (b + 1))) 8 a.np 7 (0)) 8 a.np 8 (0)) 8 a.np 9 (-1)) 8 a.np 10 (me_N a.bt)) 8 a.np 11 (-1)) 8 a.np 12 (0)) 8 a.np 13 (0)) 8 a.np 14 (-1)) 6 0 2 (me_N (a.ow + 1))) 6 0 1 (me_N (a.np + 1))) 8 i 14 = me_Op ((me_fu a.an a.np none) i)
      replace g0 : i < a.np + 1 := g0
      by_cases e : i = a.np
      · subst e
        simp only [me_up_ap, me_fu_ap]
        simp [me_Op]
      · simp only [me_up_ap, me_fu_ap]
        simp [e]
        exact h.an i (by omega))
    ((me_up_kn (by decide)).trans ((me_up_kn (by decide)).trans ((me_up_kn (by decide)).trans ((me_up_kn (by decide)).trans ((me_up_kn (by decide)).trans ((me_up_kn (by decide)).trans ((me_up_kn (by decide)).trans ((me_up_kn (by decide)).trans ((me_up_kn (by decide)).trans ((me_up_kn (by decide)).trans ((me_up_kn (by decide)).trans ((me_up_kn (by decide)).trans ((me_up_kn (by decide)).trans ((me_up_kn (by decide)).trans ((me_up_kn (by decide)).trans ((me_up_kn (by decide)).trans (h.nt)))))))))))))))))
    (fun i g0 => (me_up_kn (by decide)).trans ((me_up_kn (by decide)).trans ((me_up_kn (by decide)).trans ((me_up_kn (by decide)).trans ((me_up_kn (by decide)).trans ((me_up_kn (by decide)).trans ((me_up_kn (by decide)).trans ((me_up_kn (by decide)).trans ((me_up_kn (by decide)).trans ((me_up_kn (by decide)).trans ((me_up_kn (by decide)).trans ((me_up_kn (by decide)).trans ((me_up_kn (by decide)).trans ((me_up_kn (by decide)).trans ((me_up_kn (by decide)).trans ((me_up_kn (by decide)).trans (h.tn i g0)))))))))))))))))
    (fun i j g0 g1 => (me_up_kn (by decide)).trans ((me_up_kn (by decide)).trans ((me_up_kn (by decide)).trans ((me_up_kn (by decide)).trans ((me_up_kn (by decide)).trans ((me_up_kn (by decide)).trans ((me_up_kn (by decide)).trans ((me_up_kn (by decide)).trans ((me_up_kn (by decide)).trans ((me_up_kn (by decide)).trans ((me_up_kn (by decide)).trans ((me_up_kn (by decide)).trans ((me_up_kn (by decide)).trans ((me_up_kn (by decide)).trans ((me_up_kn (by decide)).trans ((me_up_kn (by decide)).trans (h.tr i j g0 g1)))))))))))))))))
    (fun n g0 => (me_up_kn (by decide)).trans ((me_up_kn (by decide)).trans ((me_up_kn (by decide)).trans ((me_up_kn (by decide)).trans ((me_up_kn (by decide)).trans ((me_up_kn (by decide)).trans ((me_up_kn (by decide)).trans ((me_up_kn (by decide)).trans ((me_up_kn (by decide)).trans ((me_up_kn (by decide)).trans ((me_up_kn (by decide)).trans ((me_up_kn (by decide)).trans ((me_up_kn (by decide)).trans ((me_up_kn (by decide)).trans ((me_up_kn (by decide)).trans ((me_up_kn (by decide)).trans (h.aw n g0)))))))))))))))))
    (fun n k g0 g1 => (me_up_kn (by decide)).trans ((me_up_kn (by decide)).trans ((me_up_kn (by decide)).trans ((me_up_kn (by decide)).trans ((me_up_kn (by decide)).trans ((me_up_kn (by decide)).trans ((me_up_kn (by decide)).trans ((me_up_kn (by decide)).trans ((me_up_kn (by decide)).trans ((me_up_kn (by decide)).trans ((me_up_kn (by decide)).trans ((me_up_kn (by decide)).trans ((me_up_kn (by decide)).trans ((me_up_kn (by decide)).trans ((me_up_kn (by decide)).trans ((me_up_kn (by decide)).trans (h.lr n k g0 g1)))))))))))))))))
    (fun n c g0 g1 => (me_up_kn (by decide)).trans ((me_up_kn (by decide)).trans ((me_up_kn (by decide)).trans ((me_up_kn (by decide)).trans ((me_up_kn (by decide)).trans ((me_up_kn (by decide)).trans ((me_up_kn (by decide)).trans ((me_up_kn (by decide)).trans ((me_up_kn (by decide)).trans ((me_up_kn (by decide)).trans ((me_up_kn (by decide)).trans ((me_up_kn (by decide)).trans ((me_up_kn (by decide)).trans ((me_up_kn (by decide)).trans ((me_up_kn (by decide)).trans ((me_up_kn (by decide)).trans (h.fp n c g0 g1)))))))))))))))))
    (fun r g0 => (me_up_kn (by decide)).trans ((me_up_kn (by decide)).trans ((me_up_kn (by decide)).trans ((me_up_kn (by decide)).trans ((me_up_kn (by decide)).trans ((me_up_kn (by decide)).trans ((me_up_kn (by decide)).trans ((me_up_kn (by decide)).trans ((me_up_kn (by decide)).trans ((me_up_kn (by decide)).trans ((me_up_kn (by decide)).trans ((me_up_kn (by decide)).trans ((me_up_kn (by decide)).trans ((me_up_kn (by decide)).trans ((me_up_kn (by decide)).trans ((me_up_kn (by decide)).trans (h.qn r g0)))))))))))))))))
    (fun r g0 => (me_up_kn (by decide)).trans ((me_up_kn (by decide)).trans ((me_up_kn (by decide)).trans ((me_up_kn (by decide)).trans ((me_up_kn (by decide)).trans ((me_up_kn (by decide)).trans ((me_up_kn (by decide)).trans ((me_up_kn (by decide)).trans ((me_up_kn (by decide)).trans ((me_up_kn (by decide)).trans ((me_up_kn (by decide)).trans ((me_up_kn (by decide)).trans ((me_up_kn (by decide)).trans ((me_up_kn (by decide)).trans ((me_up_kn (by decide)).trans ((me_up_kn (by decide)).trans (h.qp r g0)))))))))))))))))
    (fun r g0 => (me_up_kn (by decide)).trans ((me_up_kn (by decide)).trans ((me_up_kn (by decide)).trans ((me_up_kn (by decide)).trans ((me_up_kn (by decide)).trans ((me_up_kn (by decide)).trans ((me_up_kn (by decide)).trans ((me_up_kn (by decide)).trans ((me_up_kn (by decide)).trans ((me_up_kn (by decide)).trans ((me_up_kn (by decide)).trans ((me_up_kn (by decide)).trans ((me_up_kn (by decide)).trans ((me_up_kn (by decide)).trans ((me_up_kn (by decide)).trans ((me_up_kn (by decide)).trans (h.ro r g0)))))))))))))))))
    (fun r g0 => (me_up_kn (by decide)).trans ((me_up_kn (by decide)).trans ((me_up_kn (by decide)).trans ((me_up_kn (by decide)).trans ((me_up_kn (by decide)).trans ((me_up_kn (by decide)).trans ((me_up_kn (by decide)).trans ((me_up_kn (by decide)).trans ((me_up_kn (by decide)).trans ((me_up_kn (by decide)).trans ((me_up_kn (by decide)).trans ((me_up_kn (by decide)).trans ((me_up_kn (by decide)).trans ((me_up_kn (by decide)).trans ((me_up_kn (by decide)).trans ((me_up_kn (by decide)).trans (h.rh r g0)))))))))))))))))
    (fun r g0 => (me_up_kn (by decide)).trans ((me_up_kn (by decide)).trans ((me_up_kn (by decide)).trans ((me_up_kn (by decide)).trans ((me_up_kn (by decide)).trans ((me_up_kn (by decide)).trans ((me_up_kn (by decide)).trans ((me_up_kn (by decide)).trans ((me_up_kn (by decide)).trans ((me_up_kn (by decide)).trans ((me_up_kn (by decide)).trans ((me_up_kn (by decide)).trans ((me_up_kn (by decide)).trans ((me_up_kn (by decide)).trans ((me_up_kn (by decide)).trans ((me_up_kn (by decide)).trans (h.rg r g0)))))))))))))))))
    (fun r j e g0 g1 => (me_up_kn (by decide)).trans ((me_up_kn (by decide)).trans ((me_up_kn (by decide)).trans ((me_up_kn (by decide)).trans ((me_up_kn (by decide)).trans ((me_up_kn (by decide)).trans ((me_up_kn (by decide)).trans ((me_up_kn (by decide)).trans ((me_up_kn (by decide)).trans ((me_up_kn (by decide)).trans ((me_up_kn (by decide)).trans ((me_up_kn (by decide)).trans ((me_up_kn (by decide)).trans ((me_up_kn (by decide)).trans ((me_up_kn (by decide)).trans ((me_up_kn (by decide)).trans (h.q1 r j e g0 g1)))))))))))))))))
    (fun r j e g0 g1 => (me_up_kn (by decide)).trans ((me_up_kn (by decide)).trans ((me_up_kn (by decide)).trans ((me_up_kn (by decide)).trans ((me_up_kn (by decide)).trans ((me_up_kn (by decide)).trans ((me_up_kn (by decide)).trans ((me_up_kn (by decide)).trans ((me_up_kn (by decide)).trans ((me_up_kn (by decide)).trans ((me_up_kn (by decide)).trans ((me_up_kn (by decide)).trans ((me_up_kn (by decide)).trans ((me_up_kn (by decide)).trans ((me_up_kn (by decide)).trans ((me_up_kn (by decide)).trans (h.q2 r j e g0 g1)))))))))))))))))
    (fun r j e g0 g1 => (me_up_kn (by decide)).trans ((me_up_kn (by decide)).trans ((me_up_kn (by decide)).trans ((me_up_kn (by decide)).trans ((me_up_kn (by decide)).trans ((me_up_kn (by decide)).trans ((me_up_kn (by decide)).trans ((me_up_kn (by decide)).trans ((me_up_kn (by decide)).trans ((me_up_kn (by decide)).trans ((me_up_kn (by decide)).trans ((me_up_kn (by decide)).trans ((me_up_kn (by decide)).trans ((me_up_kn (by decide)).trans ((me_up_kn (by decide)).trans ((me_up_kn (by decide)).trans (h.q3 r j e g0 g1)))))))))))))))))
    (fun n g0 => (me_up_kn (by decide)).trans ((me_up_kn (by decide)).trans ((me_up_kn (by decide)).trans ((me_up_kn (by decide)).trans ((me_up_kn (by decide)).trans ((me_up_kn (by decide)).trans ((me_up_kn (by decide)).trans ((me_up_kn (by decide)).trans ((me_up_kn (by decide)).trans ((me_up_kn (by decide)).trans ((me_up_kn (by decide)).trans ((me_up_kn (by decide)).trans ((me_up_kn (by decide)).trans ((me_up_kn (by decide)).trans ((me_up_kn (by decide)).trans ((me_up_kn (by decide)).trans (h.dp n g0)))))))))))))))))
    (fun n g0 => (me_up_kn (by decide)).trans ((me_up_kn (by decide)).trans ((me_up_kn (by decide)).trans ((me_up_kn (by decide)).trans ((me_up_kn (by decide)).trans ((me_up_kn (by decide)).trans ((me_up_kn (by decide)).trans ((me_up_kn (by decide)).trans ((me_up_kn (by decide)).trans ((me_up_kn (by decide)).trans ((me_up_kn (by decide)).trans ((me_up_kn (by decide)).trans ((me_up_kn (by decide)).trans ((me_up_kn (by decide)).trans ((me_up_kn (by decide)).trans ((me_up_kn (by decide)).trans (h.ln n g0)))))))))))))))))
    (fun n g0 => (me_up_kn (by decide)).trans ((me_up_kn (by decide)).trans ((me_up_kn (by decide)).trans ((me_up_kn (by decide)).trans ((me_up_kn (by decide)).trans ((me_up_kn (by decide)).trans ((me_up_kn (by decide)).trans ((me_up_kn (by decide)).trans ((me_up_kn (by decide)).trans ((me_up_kn (by decide)).trans ((me_up_kn (by decide)).trans ((me_up_kn (by decide)).trans ((me_up_kn (by decide)).trans ((me_up_kn (by decide)).trans ((me_up_kn (by decide)).trans ((me_up_kn (by decide)).trans (h.ca n g0)))))))))))))))))
    (fun n g0 => (me_up_kn (by decide)).trans ((me_up_kn (by decide)).trans ((me_up_kn (by decide)).trans ((me_up_kn (by decide)).trans ((me_up_kn (by decide)).trans ((me_up_kn (by decide)).trans ((me_up_kn (by decide)).trans ((me_up_kn (by decide)).trans ((me_up_kn (by decide)).trans ((me_up_kn (by decide)).trans ((me_up_kn (by decide)).trans ((me_up_kn (by decide)).trans ((me_up_kn (by decide)).trans ((me_up_kn (by decide)).trans ((me_up_kn (by decide)).trans ((me_up_kn (by decide)).trans (h.co n g0)))))))))))))))))
    (fun n g0 => (me_up_kn (by decide)).trans ((me_up_kn (by decide)).trans ((me_up_kn (by decide)).trans ((me_up_kn (by decide)).trans ((me_up_kn (by decide)).trans ((me_up_kn (by decide)).trans ((me_up_kn (by decide)).trans ((me_up_kn (by decide)).trans ((me_up_kn (by decide)).trans ((me_up_kn (by decide)).trans ((me_up_kn (by decide)).trans ((me_up_kn (by decide)).trans ((me_up_kn (by decide)).trans ((me_up_kn (by decide)).trans ((me_up_kn (by decide)).trans ((me_up_kn (by decide)).trans (h.fa n g0)))))))))))))))))
    (fun n j g0 g1 => (me_up_kn (by decide)).trans ((me_up_kn (by decide)).trans ((me_up_kn (by decide)).trans ((me_up_kn (by decide)).trans ((me_up_kn (by decide)).trans ((me_up_kn (by decide)).trans ((me_up_kn (by decide)).trans ((me_up_kn (by decide)).trans ((me_up_kn (by decide)).trans ((me_up_kn (by decide)).trans ((me_up_kn (by decide)).trans ((me_up_kn (by decide)).trans ((me_up_kn (by decide)).trans ((me_up_kn (by decide)).trans ((me_up_kn (by decide)).trans ((me_up_kn (by decide)).trans (h.mm n j g0 g1)))))))))))))))))
    (fun n j g0 g1 => (me_up_kn (by decide)).trans ((me_up_kn (by decide)).trans ((me_up_kn (by decide)).trans ((me_up_kn (by decide)).trans ((me_up_kn (by decide)).trans ((me_up_kn (by decide)).trans ((me_up_kn (by decide)).trans ((me_up_kn (by decide)).trans ((me_up_kn (by decide)).trans ((me_up_kn (by decide)).trans ((me_up_kn (by decide)).trans ((me_up_kn (by decide)).trans ((me_up_kn (by decide)).trans ((me_up_kn (by decide)).trans ((me_up_kn (by decide)).trans ((me_up_kn (by decide)).trans (h.sk n j g0 g1)))))))))))))))))
    (fun n j g0 g1 => (me_up_kn (by decide)).trans ((me_up_kn (by decide)).trans ((me_up_kn (by decide)).trans ((me_up_kn (by decide)).trans ((me_up_kn (by decide)).trans ((me_up_kn (by decide)).trans ((me_up_kn (by decide)).trans ((me_up_kn (by decide)).trans ((me_up_kn (by decide)).trans ((me_up_kn (by decide)).trans ((me_up_kn (by decide)).trans ((me_up_kn (by decide)).trans ((me_up_kn (by decide)).trans ((me_up_kn (by decide)).trans ((me_up_kn (by decide)).trans ((me_up_kn (by decide)).trans (h.nm n j g0 g1)))))))))))))))))
    (fun n j g0 g1 => (me_up_kn (by decide)).trans ((me_up_kn (by decide)).trans ((me_up_kn (by decide)).trans ((me_up_kn (by decide)).trans ((me_up_kn (by decide)).trans ((me_up_kn (by decide)).trans ((me_up_kn (by decide)).trans ((me_up_kn (by decide)).trans ((me_up_kn (by decide)).trans ((me_up_kn (by decide)).trans ((me_up_kn (by decide)).trans ((me_up_kn (by decide)).trans ((me_up_kn (by decide)).trans ((me_up_kn (by decide)).trans ((me_up_kn (by decide)).trans ((me_up_kn (by decide)).trans (h.nu n j g0 g1)))))))))))))))))
    ((me_up_kn (by decide)).trans ((me_up_kn (by decide)).trans ((me_up_kn (by decide)).trans ((me_up_kn (by decide)).trans ((me_up_kn (by decide)).trans ((me_up_kn (by decide)).trans ((me_up_kn (by decide)).trans ((me_up_kn (by decide)).trans ((me_up_kn (by decide)).trans ((me_up_kn (by decide)).trans ((me_up_kn (by decide)).trans ((me_up_kn (by decide)).trans ((me_up_kn (by decide)).trans ((me_up_kn (by decide)).trans ((me_up_kn (by decide)).trans ((me_up_kn (by decide)).trans (h.wy)))))))))))))))))
    ((me_up_kn (by decide)).trans ((me_up_kn (by decide)).trans ((me_up_kn (by decide)).trans ((me_up_kn (by decide)).trans ((me_up_kn (by decide)).trans ((me_up_kn (by decide)).trans ((me_up_kn (by decide)).trans ((me_up_kn (by decide)).trans ((me_up_kn (by decide)).trans ((me_up_kn (by decide)).trans ((me_up_kn (by decide)).trans ((me_up_kn (by decide)).trans ((me_up_kn (by decide)).trans ((me_up_kn (by decide)).trans ((me_up_kn (by decide)).trans ((me_up_kn (by decide)).trans (h.bt)))))))))))))))))
theorem gh_sum0 {α : Type} {f : α → Nat} : ∀ (l : List α), (∀ x ∈ l, f x = 0) → (l.map f).sum = 0 := by
  intro l
  induction l with
  | nil => intro _; rfl
  | cons x l ih =>
    intro h
    rw [List.map_cons, List.sum_cons, h x List.mem_cons_self, ih (fun y hy => h y (List.mem_cons_of_mem _ hy))]
theorem me_IP.mk_new {w h np ow bt : Nat} {kd st : Nat → Int32} {sr gl bo pt tk ma : Nat → Nat} {dn : Nat → Option Nat} {pl : Nat → Nat} {an : Nat → Option Nat} (hI : me_IP w h np ow bt kd st sr gl bo pt tk ma dn pl an) {k : Int32} {s g b ow' : Nat} {pl' : Nat → Nat} (hk : k = 109 ∨ k = 113 ∨ k = 97) (how : ow' = ow + if k = 113 then 1 else 0) (hr : np + 1 + ow' ≤ 200) (hs : s < w * h) (hg : g < w * h) (hb : 1 ≤ b ∧ b ≤ 4) (hp : ∀ i, i < np + 1 → pl' i < 8) :
    me_IP w h (np + 1) ow' bt (me_fu kd np k) (me_fu st np 115) (me_fu sr np s) (me_fu gl np g) (me_fu bo np b) (me_fu pt np 0) (me_fu tk np 0) (me_fu ma np bt) (me_fu dn np none) pl' (me_fu an np none) := by
  have key : ∀ {P : Nat → Prop}, P np → (∀ i, i < np → P i) → ∀ i, i < np + 1 → P i := fun h1 h2 i hi => by
    by_cases e : i = np
    · rw [e]; exact h1
    · exact h2 i (by omega)
  refine me_IP.mk hr ?_ (key ?_ ?_) (key ?_ ?_) (key ?_ ?_) (key ?_ ?_) (key ?_ ?_) (key ?_ ?_) (key ?_ ?_) (key ?_ ?_) (fun i t hi ht => ?_) hp (fun i j hi hj => ?_) (key ?_ ?_) (key ?_ ?_) (key ?_ ?_)
  · rw [List.range_succ, List.countP_append, how, hI.iow]
    congr 1
    · refine List.countP_congr (fun i hi => ?_)
      have hi := List.mem_range.mp hi
      unfold me_qs
      rw [me_fu_ne (show ¬ i = np by omega), me_fu_ne (show ¬ i = np by omega)]
    · rw [List.countP_singleton]
      unfold me_qs
      rw [me_fu_at, me_fu_at]
      by_cases e : k = 113
      · rw [if_pos e, e]; rfl
      · rw [if_neg e, decide_eq_false e]; rfl
  · rw [me_fu_at]; exact hk
  · intro i hi; rw [me_fu_ne (by omega)]; exact hI.ikd i hi
  · rw [me_fu_at]; exact Or.inl rfl
  · intro i hi; rw [me_fu_ne (by omega)]; exact hI.ist i hi
  · rw [me_fu_at]; exact hs
  · intro i hi; rw [me_fu_ne (by omega)]; exact hI.isr i hi
  · rw [me_fu_at]; exact hg
  · intro i hi; rw [me_fu_ne (by omega)]; exact hI.igl i hi
  · rw [me_fu_at]; exact hb
  · intro i hi; rw [me_fu_ne (by omega)]; exact hI.ibo i hi
  · rw [me_fu_at, me_fu_at]; exact ⟨Nat.le_refl _, Nat.zero_le _⟩
  · intro i hi; rw [me_fu_ne (by omega), me_fu_ne (by omega), me_fu_ne (by omega)]; exact hI.ipt i hi
  · rw [me_fu_at]; exact Nat.le_refl _
  · intro i hi; rw [me_fu_ne (by omega)]; exact hI.ima i hi
  · intro q
    rw [me_fu_at] at q
    exact absurd q (by decide)
  · intro i hi
    rw [me_fu_ne (show ¬ i = np by omega), me_fu_ne (show ¬ i = np by omega), me_fu_ne (show ¬ i = np by omega)]
    exact hI.idn i hi
  · rw [me_fu_ap] at ht
    by_cases e : i = np
    · rw [if_pos e] at ht; cases ht
    · rw [if_neg e] at ht; exact hI.idm i t (by omega) ht
  · rw [me_fu_ap] at hj
    by_cases e : i = np
    · rw [if_pos e] at hj; cases hj
    · rw [if_neg e] at hj; have := hI.ian i j (by omega) hj; omega
  · intro _; rw [me_fu_at]
  · intro i hi; rw [me_fu_ne (by omega), me_fu_ne (by omega)]; exact hI.is0 i hi
  · intro q; rw [me_fu_at] at q; exact absurd q (by decide)
  · intro i hi; rw [me_fu_ne (by omega), me_fu_ne (by omega)]; exact hI.is1 i hi
  · intro q; rw [me_fu_at] at q; exact absurd q (by decide)
  · intro i hi; rw [me_fu_ne (by omega), me_fu_ne (by omega), me_fu_ne (by omega)]; exact hI.is2 i hi
theorem me_Vd.cg {w h : Nat} {kd kd' : Nat → Int32} {sr sr' gl gl' : Nat → Nat} {ro rh : Nat → Option Nat} {r p : Nat} (e1 : kd' p = kd p) (e2 : sr' p = sr p) (e3 : gl' p = gl p) (hv : me_Vd w h kd sr gl ro rh r p) : me_Vd w h kd' sr' gl' ro rh r p := by
  unfold me_Vd at hv ⊢
  rw [e1, e2, e3]
  exact hv
theorem me_Wm.mk_new {w h np : Nat} {kd st : Nat → Int32} {sr gl bo pt tk : Nat → Nat} {hd : Nat → Option Nat} {q : Nat → List (Nat × Nat × Nat)} {ro rh : Nat → Option Nat} {aw : Nat → Bool} (h0 : me_Wm w h np kd st sr gl bo pt tk hd q ro rh aw) (k : Int32) (s g b : Nat) : me_Wm w h (np + 1) (me_fu kd np k) (me_fu st np 115) (me_fu sr np s) (me_fu gl np g) (me_fu bo np b) (me_fu pt np 0) (me_fu tk np 0) (me_fu hd np none) q ro rh aw := by
  have hq : ∀ r e, e ∈ q r → ¬ e.1 = np := fun r e he => by have := (h0.iel r e he).2.1; omega
  have hr : ∀ r p, ro r = some p → ¬ p = np := fun r p hp => by have := (h0.iow r p hp).2.1; omega
  have hs : ∀ p, me_fu st np 115 p = 119 → ¬ p = np := fun p hp e => by rw [e, me_fu_at] at hp; exact absurd hp (by decide)
  refine me_Wm.mk h0.in4 (fun r e he => ?_) h0.idi h0.icr (fun r e he h5 => ?_) (fun r p hp => ?_) (fun r r' p h1 h2 h3 => ?_) h0.iso (fun r r' e e' he he' h1 h2 => ?_) h0.ion (fun r p hp hh => ?_) (fun r r' p c h1 h2 => ?_) (fun r r' p c h1 h2 => ?_) (fun r e p he h5 hl hn h9 hc => ?_) (fun p hp => ?_) (fun p i hp h9 h1 h2 => ?_) (fun p hp h8 => ?_) (fun p j hp h1 h2 h3 h4 => ?_) h0.isl
  · have e1 := hq r e he
    rw [me_fu_ne e1, me_fu_ne e1, me_fu_ne e1, me_fu_ne e1, me_fu_ne e1, me_fu_ne e1]
    have := h0.iel r e he
    exact ⟨this.1, by omega, this.2.2⟩
  · rw [me_fu_ne (hq r e he)]
    exact h0.ice r e he h5
  · have e1 := hr r p hp
    rw [me_fu_ne e1, me_fu_ne e1, me_fu_ne e1, me_fu_ne e1]
    have := h0.iow r p hp
    exact ⟨this.1, by omega, this.2.2⟩
  · rw [me_fu_ne (hr r p h1)] at h3
    exact h0.iun r r' p h1 h2 h3
  · rw [me_fu_ne (hq r e he)]
    exact h0.ifo r r' e e' he he' h1 h2
  · have hpn : ¬ p = np := by
      rcases hp with ⟨e, he, rfl⟩ | ⟨_, _, h9, _⟩ | hp
      · exact hq r e he
      · exact hs p h9
      · exact hr r p hp
    refine me_Vd.cg (me_fu_ne hpn) (me_fu_ne hpn) (me_fu_ne hpn) (h0.ivd r p ?_ hh)
    rcases hp with hp | ⟨h1, h2, h3, h4⟩ | hp
    · exact Or.inl hp
    · unfold me_cr at h1
      rw [me_fu_ne hpn, me_fu_ne hpn] at h1
      rw [me_fu_ne hpn] at h3
      rw [me_fu_ne hpn, me_fu_ne hpn] at h4
      exact Or.inr (Or.inl ⟨h1, by omega, h3, h4⟩)
    · exact Or.inr (Or.inr hp)
  · have e1 := hr r' p h2
    rw [me_fu_ne e1] at h1 ⊢
    exact h0.itl r r' p c h1 h2
  · rw [me_fu_ne (hr r' p h2)]
    exact h0.ihm r r' p c h1 h2
  · have e1 := hs p h9
    unfold me_cr at hc
    rw [me_fu_ne e1, me_fu_ne e1] at hc
    rw [me_fu_ne e1] at h9
    exact h0.ifi r e p he h5 hl (by omega) h9 hc
  · by_cases e1 : p = np
    · subst e1
      rw [me_fu_at]
      exact ⟨fun n hn => by (cases hn), fun _ r c hm => hq r _ hm rfl⟩
    · rw [me_fu_ne e1]
      exact h0.ihd p (by omega)
  · have e1 := hs p h9
    rw [me_fu_ne e1] at h9 h1 h2
    exact h0.iex p i (by omega) h9 h1 h2
  · by_cases e1 : p = np
    · subst e1
      rw [me_fu_at, me_fu_at]
      refine gh_sum0 _ (fun r _ => ?_)
      exact List.countP_eq_zero.mpr (fun e he => by
        have := hq r e he
        simpa using this)
    · rw [me_fu_ne e1] at h8 ⊢
      rw [me_fu_ne e1]
      exact h0.ict p (by omega) h8
  · by_cases e1 : p = np
    · rw [e1, me_fu_at] at h1
      omega
    · have e2 : ¬ j = np := by omega
      rw [me_fu_ne e1] at h1
      rw [me_fu_ne e1, me_fu_ne e2] at h3
      rw [me_fu_ne e1, me_fu_ne e2] at h4
      rw [me_fu_ne e2, me_fu_ne e2, me_fu_ne e2]
      exact h0.ifp p j (by omega) h1 h2 h3 h4
theorem me_IF.mk_new {np : Nat} {kd st : Nat → Int32} {sr bo pt fp : Nat → Nat} (h0 : me_IF np kd st sr bo pt fp) (hf : ∀ b, fp b ≤ np) (k : Int32) (s b : Nat) : me_IF (np + 1) (me_fu kd np k) (me_fu st np 115) (me_fu sr np s) (me_fu bo np b) (me_fu pt np 0) fp := by
  intro n c j h1 h2 h3 h4
  have e : ¬ j = np := by have := hf (2 * n + c); omega
  rw [me_fu_ne e] at h3 h4
  rw [me_fu_ne e, me_fu_ne e, me_fu_ne e]
  exact h0 n c j h1 (by omega) h3 h4
theorem gh_iv0 {a : me_S} (hI : me_Iv a) {k : Int32} {s g : Nat} {w : Int32} {b : Nat} (hk : k = 109 ∨ k = 97) (hr : a.np + 1 + a.ow ≤ 200) (hs : s < a.w * a.h) (hg : g < a.w * a.h) (hb : 1 ≤ b ∧ b ≤ 4) : me_Iv (gh_mk a k s g w b) := by
  have hk3 : ¬ k = 113 := by rcases hk with e | e <;> rw [e] <;> decide
  exact ⟨hI.1, hI.2.1.mk_new (ow' := a.ow) (pl' := me_fu a.pl a.np 0) (by rcases hk with e | e; exact Or.inl e; exact Or.inr (Or.inr e)) (by rw [if_neg hk3]; rfl) hr hs hg hb (fun i hi => by
    rw [me_fu_ap]
    split
    · decide
    · exact hI.2.1.ipl i (by omega)), hI.2.2.1, hI.2.2.2.1, hI.2.2.2.2.1.mk_new k s g b, hI.2.2.2.2.2.1.mk_new hI.2.2.2.2.2.2.2.2 k s b, hI.2.2.2.2.2.2.1, hI.2.2.2.2.2.2.2.1, fun b => Nat.le_succ_of_le (hI.2.2.2.2.2.2.2.2 b)⟩
def gh_mkQ (a : me_S) (s g : Nat) (b pp : Nat) (ad : Int32) : me_S := me_S.s_ad (me_S.s_pl (me_S.s_ow (gh_mk a 113 s g 0 b) (a.ow + 1)) (me_fu (me_fu a.pl a.np 0) a.np pp)) (me_fu (me_fu a.ad a.np 0) a.np ad)
theorem gh_ivQ {a : me_S} (hI : me_Iv a) {s g : Nat} {b pp : Nat} {ad : Int32} (hr : a.np + 2 + a.ow ≤ 200) (hs : s < a.w * a.h) (hg : g < a.w * a.h) (hb : 1 ≤ b ∧ b ≤ 4) (hp : pp < 8) : me_Iv (gh_mkQ a s g b pp ad) := by
  exact ⟨hI.1, hI.2.1.mk_new (ow' := a.ow + 1) (pl' := me_fu (me_fu a.pl a.np 0) a.np pp) (Or.inr (Or.inl rfl)) (by rw [if_pos rfl]) (by omega) hs hg hb (fun i hi => by
    rw [me_fu_ap]
    split
    · exact hp
    · rw [me_fu_ap]
      split
      · decide
      · exact hI.2.1.ipl i (by omega)), hI.2.2.1, hI.2.2.2.1, hI.2.2.2.2.1.mk_new 113 s g b, hI.2.2.2.2.2.1.mk_new hI.2.2.2.2.2.2.2.2 113 s b, hI.2.2.2.2.2.2.1, hI.2.2.2.2.2.2.2.1, fun b => Nat.le_succ_of_le (hI.2.2.2.2.2.2.2.2 b)⟩
theorem y_make0 {a : me_S} {μ : me_M} (hC : me_RC a μ) {k : Int32} {s g : Nat} {w : Int32} {b : Nat} (hk : ¬ k = 113) (hc : me_nr .char k = true) (hn : a.np < 200) : ∃ μ', f_Post_make μ k (me_N s) (me_N g) w (me_N b) (me_N a.bt) = some (μ', me_N a.np) ∧ me_RC (gh_mk a k s g w b) μ' ∧ ∀ k', ¬ k' = 8 → ¬ k' = 6 → μ' k' = μ k' := by
  have h1 := hC.w_make0 k s g w b
  refine ⟨_, ?_, h1, fun k' h8 h6 => ?_⟩
  · unfold f_Post_make f_Post_make_b129
    simp only [me_lt_s]
    rw [hC.np, if_pos (by rw [me_N_200, me_N_lt (by omega) (by omega)]; omega), me_gd_n (by omega) hn, me_gd_t hc, if_neg hk, me_N_ix (by omega), me_N_1, me_N_add]
    simp only [me_up_kn (show ¬ 6 = 8 by decide)]
    rw [hC.np, me_N_add, me_up_kn (show ¬ 8 = 6 by decide)]
    simp only [me_up_jn (show ¬ 0 = 1 by decide), me_up_jn (show ¬ 0 = 2 by decide), me_up_jn (show ¬ 0 = 3 by decide), me_up_jn (show ¬ 0 = 4 by decide), me_up_jn (show ¬ 0 = 5 by decide), me_up_jn (show ¬ 0 = 6 by decide), me_up_jn (show ¬ 0 = 7 by decide), me_up_jn (show ¬ 0 = 8 by decide), me_up_jn (show ¬ 0 = 9 by decide), me_up_jn (show ¬ 0 = 10 by decide), me_up_jn (show ¬ 0 = 11 by decide), me_up_jn (show ¬ 0 = 12 by decide), me_up_jn (show ¬ 0 = 13 by decide), me_up_jn (show ¬ 0 = 14 by decide)]
    rw [hC.p0 a.np hn]
  · funext i j
    simp only [me_up_kn h8, me_up_kn h6]
theorem y_makeQ {a : me_S} {μ : me_M} (hC : me_RC a μ) {s g : Nat} {w : Int32} {b : Nat} (hn : a.np < 200) : ∃ μ', f_Post_make μ 113 (me_N s) (me_N g) w (me_N b) (me_N a.bt) = some (μ', me_N a.np) ∧ me_RC (me_S.s_ow (gh_mk a 113 s g w b) (a.ow + 1)) μ' ∧ ∀ k', ¬ k' = 8 → ¬ k' = 6 → μ' k' = μ k' := by
  have h1 := hC.w_makeQ 113 s g w b
  refine ⟨_, ?_, h1, fun k' h8 h6 => ?_⟩
  · unfold f_Post_make f_Post_make_b129
    simp only [me_lt_s]
    rw [hC.np, if_pos (by rw [me_N_200, me_N_lt (by omega) (by omega)]; omega), me_gd_n (by omega) hn, me_gd_t (by decide +kernel), if_pos trivial, me_N_ix (by omega), me_N_1, me_N_add]
    simp only [me_up_kn (show ¬ 6 = 8 by decide), me_up_jn (show ¬ 1 = 2 by decide)]
    rw [hC.np, hC.ow, me_N_add, me_N_add, me_up_kn (show ¬ 8 = 6 by decide), me_up_kn (show ¬ 8 = 6 by decide)]
    simp only [me_up_jn (show ¬ 0 = 1 by decide), me_up_jn (show ¬ 0 = 2 by decide), me_up_jn (show ¬ 0 = 3 by decide), me_up_jn (show ¬ 0 = 4 by decide), me_up_jn (show ¬ 0 = 5 by decide), me_up_jn (show ¬ 0 = 6 by decide), me_up_jn (show ¬ 0 = 7 by decide), me_up_jn (show ¬ 0 = 8 by decide), me_up_jn (show ¬ 0 = 9 by decide), me_up_jn (show ¬ 0 = 10 by decide), me_up_jn (show ¬ 0 = 11 by decide), me_up_jn (show ¬ 0 = 12 by decide), me_up_jn (show ¬ 0 = 13 by decide), me_up_jn (show ¬ 0 = 14 by decide)]
    rw [hC.p0 a.np hn]
  · funext i j
    simp only [me_up_kn h8, me_up_kn h6]
theorem y_room {a : me_S} {μ : me_M} (hC : me_RC a μ) (hI : me_Iv a) {m : Nat} (hm : m ≤ 1000) : (a.np + a.ow + m ≤ 200 ∧ f_Y_needRoom μ (me_N m) = some (.ok ())) ∨ (¬ a.np + a.ow + m ≤ 200 ∧ f_Y_needRoom μ (me_N m) = some (.error 3)) := by
  have h2 := hI.2.1.ile
  unfold f_Y_needRoom f_Post_hasRoom
  rw [hC.np, hC.ow, me_N_add, me_N_add, me_N_200]
  by_cases h : a.np + a.ow + m ≤ 200
  · exact Or.inl ⟨h, by rw [if_neg (by rw [me_N_lt (by omega) (by omega)]; omega), me_bd_s, if_neg (by decide)]⟩
  · exact Or.inr ⟨h, by rw [if_pos (by rw [me_N_lt (by omega) (by omega)]; omega), me_bd_s, if_pos rfl]⟩
def gh_ax (w n g : Nat) : Option Nat := if g % w = n % w then none else if g % w ≤ n % w then some 1 else some 0
def gh_ay (w n g : Nat) : Option Nat := if g / w = n / w then none else if g / w ≤ n / w then some 3 else some 2
def gh_oq (o : Option Nat) (P : Nat → Bool) : Bool := match o with
  | none => true
  | some d => P d
theorem gh_way1 : ∀ w, w < 5 → ∀ h, h < 5 → ∀ n, n < w * h → ∀ g, g < w * h → ((gh_ax w n g).isSome || ((gh_ay w n g).isSome || Nat.beq n g)) = true ∧ gh_oq (gh_ax w n g) (fun d => (me_nb w h n d).isSome && !(Nat.beq n g)) = true ∧ gh_oq (gh_ay w n g) (fun d => (me_nb w h n d).isSome && !(Nat.beq n g)) = true := by decide +kernel
theorem gh_way {a : me_S} (hI : me_Iv a) {n g : Nat} (hn : n < a.w * a.h) (hg : g < a.w * a.h) : (gh_ax a.w n g = none → gh_ay a.w n g = none → n = g) ∧ (∀ d, gh_ax a.w n g = some d → d < 2 ∧ ¬ n = g ∧ ∃ n', me_nb a.w a.h n d = some n' ∧ n' < a.w * a.h) ∧ (∀ d, gh_ay a.w n g = some d → d < 4 ∧ 2 ≤ d ∧ ¬ n = g ∧ ∃ n', me_nb a.w a.h n d = some n' ∧ n' < a.w * a.h) := by
  have hw := hI.1.iw
  have hh := hI.1.ih
  obtain ⟨h1, h2, h3⟩ := gh_way1 a.w (by omega) a.h (by omega) n hn g hg
  refine ⟨fun e1 e2 => ?_, fun d e => ?_, fun d e => ?_⟩
  · rw [e1, e2] at h1
    exact Nat.eq_of_beq_eq_true h1
  · rw [e] at h2
    have h2 : ((me_nb a.w a.h n d).isSome && !(Nat.beq n g)) = true := h2
    rw [Bool.and_eq_true] at h2
    have hd : d < 2 := by
      unfold gh_ax at e
      split at e
      · cases e
      · split at e <;> · cases e; decide
    obtain ⟨n', e'⟩ := Option.isSome_iff_exists.mp h2.1
    refine ⟨hd, fun q => ?_, n', e', (me_Op_lt hI hn (by omega) e').1⟩
    rw [q] at h2
    simp at h2
  · rw [e] at h3
    have h3 : ((me_nb a.w a.h n d).isSome && !(Nat.beq n g)) = true := h3
    rw [Bool.and_eq_true] at h3
    have hd : d < 4 ∧ 2 ≤ d := by
      unfold gh_ay at e
      split at e
      · cases e
      · split at e <;> · cases e; decide
    obtain ⟨n', e'⟩ := Option.isSome_iff_exists.mp h3.1
    refine ⟨hd.1, hd.2, fun q => ?_, n', e', (me_Op_lt hI hn hd.1 e').1⟩
    rw [q] at h3
    simp at h3
def gh_opn (a : me_S) (n' c d : Nat) : Bool := decide (a.ro (10 * n' + 5 * c + me_op d) = none) && decide ((a.q (10 * n' + 5 * c + me_op d)).length < a.rp)
def gh_fr (a : me_S) (n c d : Nat) : Bool := match me_nb a.w a.h n d with
  | none => false
  | some n' => decide (a.fl n d = 0) && gh_opn a n' c d
/-- the side to which a head at n goes -/
def gh_side (a : me_S) (n g c : Nat) : Nat :=
  match gh_ax a.w n g, gh_ay a.w n g with
  | none, none => 4
  | some x, none => x
  | none, some y => y
  | some x, some y => if a.wy = 116 then (if x = 1 then 1 else if gh_fr a n c x = true then x else if gh_fr a n c y = true then y else if a.fl n x = 0 then x else if a.fl n y = 0 then y else x) else if a.wy = 120 then x else y
theorem gh_side_self {a : me_S} {n c : Nat} : gh_side a n n c = 4 := by
  unfold gh_side gh_ax gh_ay
  rw [if_pos rfl, if_pos rfl]
theorem gh_side_lt {a : me_S} (hI : me_Iv a) {n g c : Nat} (hn : n < a.w * a.h) (hg : g < a.w * a.h) : gh_side a n g c < 5 := by
  obtain ⟨-, h2, h3⟩ := gh_way hI hn hg
  unfold gh_side
  cases ex : gh_ax a.w n g with
  | none =>
    cases ey : gh_ay a.w n g with
    | none => exact (by decide : 4 < 5)
    | some y => have := h3 y ey; dsimp only; omega
  | some x =>
    have hx := h2 x ex
    cases ey : gh_ay a.w n g with
    | none => dsimp only; omega
    | some y =>
      have hy := h3 y ey
      dsimp only
      repeat' split
      all_goals omega
theorem y_alX {a : me_S} {μ : me_M} (hC : me_RC a μ) (hI : me_Iv a) {n g : Nat} (hn : n < a.w * a.h) (hg : g < a.w * a.h) : f_Net_alongX μ (me_N n) (me_N g) = some (me_Op (gh_ax a.w n g)) := by
  have hwh := hI.wh
  have hw := hI.1.iw
  have h1 : n % a.w < a.w := Nat.mod_lt _ (by omega)
  have h2 : g % a.w < a.w := Nat.mod_lt _ (by omega)
  unfold f_Net_alongX gh_ax
  simp only [me_gd_n (show n < 2147483648 by omega) (show n < 16 by omega), me_gd_n (show g < 2147483648 by omega) (show g < 16 by omega), me_N_ix (show n < 2147483648 by omega), me_N_ix (show g < 2147483648 by omega), hC.cl n hn, hC.cl g hg, me_N_inj (show g % a.w < 2147483648 by omega) (show n % a.w < 2147483648 by omega), me_N_le (show g % a.w < 2147483648 by omega) (show n % a.w < 2147483648 by omega)]
  split
  · rfl
  · split <;> rfl
theorem y_alY {a : me_S} {μ : me_M} (hC : me_RC a μ) (hI : me_Iv a) {n g : Nat} (hn : n < a.w * a.h) (hg : g < a.w * a.h) : f_Net_alongY μ (me_N n) (me_N g) = some (me_Op (gh_ay a.w n g)) := by
  have hwh := hI.wh
  have h1 : n / a.w ≤ n := Nat.div_le_self _ _
  have h2 : g / a.w ≤ g := Nat.div_le_self _ _
  unfold f_Net_alongY gh_ay
  simp only [me_gd_n (show n < 2147483648 by omega) (show n < 16 by omega), me_gd_n (show g < 2147483648 by omega) (show g < 16 by omega), me_N_ix (show n < 2147483648 by omega), me_N_ix (show g < 2147483648 by omega), hC.li n hn, hC.li g hg, me_N_inj (show g / a.w < 2147483648 by omega) (show n / a.w < 2147483648 by omega), me_N_le (show g / a.w < 2147483648 by omega) (show n / a.w < 2147483648 by omega)]
  split
  · rfl
  · split <;> rfl
theorem me_N_dif {a b : Nat} (ha : a < 1000) (hb : b < 1000) : ((me_N a - me_N b ≤ 0) ↔ a ≤ b) ∧ ((0 ≤ me_N a - me_N b) ↔ b ≤ a) := by
  have e : (me_N a - me_N b).toInt = (a : Int) - (b : Int) := by
    rw [← me_N_ofInt, ← me_N_ofInt, ← Int32.ofInt_sub, Int32.toInt_ofInt_of_le (by omega) (by omega)]
  have z : (0 : Int32).toInt = 0 := rfl
  constructor
  · rw [Int32.le_iff_toInt_le, e, z]; omega
  · rw [Int32.le_iff_toInt_le, e, z]; omega
theorem y_place {a : me_S} {μ : me_M} (hC : me_RC a μ) (hI : me_Iv a) {r : Nat} (hr : r < 160) : f_Row_hasPlace μ r = some (me_bi (decide ((a.q r).length < a.rp))) := by
  have h4 := me_ql a hI r
  have hrp := hI.1.irp
  unfold f_Row_hasPlace
  rw [hC.qp r hr, hC.qn r hr]
  by_cases e : (a.q r).length < a.rp
  · rw [if_neg (by rw [me_N_le (by omega) (by omega)]; omega), if_neg (by rw [me_N_4, me_N_le (by omega) (by omega)]; omega), decide_eq_true e]
    rfl
  · rw [if_pos (by rw [me_N_le (by omega) (by omega)]; omega), decide_eq_false e]
    rfl
theorem y_free {a : me_S} {μ : me_M} (hC : me_RC a μ) (hI : me_Iv a) {n d c n' : Nat} (hn : n < a.w * a.h) (hd : d < 4) (hc : c < 2) (e : me_nb a.w a.h n d = some n') : f_Ways_isFreeAhead μ (me_N n) (me_N d) (me_N c) = some (me_bi (gh_fr a n c d)) := by
  have hwh := hI.wh
  obtain ⟨hn', -⟩ := me_Op_lt hI hn hd e
  have ho := me_op_lt d
  have hq : μ 2 0 (n * 4 + d) = me_N n' := by
    have := hC.ah n d hn hd
    rw [e] at this
    exact this
  unfold f_Ways_isFreeAhead f_Net_opposite gh_fr gh_opn
  rw [e]
  dsimp only
  rw [me_N_4, me_N_mul, me_N_add, me_lt_s, me_gd_n (by omega) (by omega), me_N_ix (by omega), hq, if_neg (me_N_nm1 (by omega)), me_gd_n (by omega) (by omega), hC.fl n d (by omega) hd]
  by_cases e1 : a.fl n d = 0
  · rw [if_pos e1, decide_eq_true e1, me_gd_n (by omega) (by omega), me_gd_n (by omega) (by omega), me_bd_s, me_op_xor hd, me_N_5, me_N_mul, me_N_add, me_gd_n (by omega) (by omega), me_N_ix (by omega), me_N_ix (by omega), show 10 * n' + (c * 5 + me_op d) = 10 * n' + 5 * c + me_op d by omega, hC.ro _ (by omega), y_place hC hI (by omega), me_bd_s]
    by_cases e2 : a.ro (10 * n' + 5 * c + me_op d) = none
    · rw [if_pos ((me_ro_m1 hI _).mpr e2), decide_eq_true e2]
      cases decide ((a.q (10 * n' + 5 * c + me_op d)).length < a.rp) <;> rfl
    · rw [if_neg (fun q => e2 ((me_ro_m1 hI _).mp q)), decide_eq_false e2]
      rfl
  · rw [if_neg e1, decide_eq_false e1]
    rfl
theorem y_whole {a : me_S} {μ : me_M} (hC : me_RC a μ) (hI : me_Iv a) {n d n' : Nat} (hn : n < a.w * a.h) (hd : d < 4) (e : me_nb a.w a.h n d = some n') : f_Net_isWhole μ (me_N n * 4 + me_N d) = some (if a.fl n d = 0 then 1 else 0) := by
  have hwh := hI.wh
  obtain ⟨hn', -⟩ := me_Op_lt hI hn hd e
  have hq : μ 2 0 (n * 4 + d) = me_N n' := by
    have := hC.ah n d hn hd
    rw [e] at this
    exact this
  unfold f_Net_isWhole
  rw [me_N_4, me_N_mul, me_N_add, me_gd_n (by omega) (by omega), me_N_ix (by omega), hq, if_neg (me_N_nm1 (by omega)), me_gd_n (by omega) (by omega), hC.fl n d (by omega) hd]
  split <;> rfl
theorem y_side {a : me_S} {μ : me_M} (hC : me_RC a μ) (hI : me_Iv a) {n g c : Nat} (hn : n < a.w * a.h) (hg : g < a.w * a.h) (hc : c < 2) : f_Ways_heading μ (me_N n) (me_N g) (me_N c) = some (me_N (gh_side a n g c)) := by
  have hwh := hI.wh
  by_cases hng : n = g
  · subst hng
    rw [gh_side_self]
    unfold f_Ways_heading
    rw [if_pos rfl]
    rfl
  obtain ⟨k1, k2, k3⟩ := gh_way hI hn hg
  unfold f_Ways_heading f_Ways_headingByTurns f_Ways_headingByTurns_b110 f_Ways_headingByTurns_b111
  rw [if_neg (by rw [me_N_inj (by omega) (by omega)]; exact hng), y_alX hC hI hn hg, y_alY hC hI hn hg, hC.wy]
  simp only [me_bd_s]
  unfold gh_side
  cases ex : gh_ax a.w n g with
  | none =>
    cases ey : gh_ay a.w n g with
    | none => exact absurd (k1 ex ey) hng
    | some y =>
      obtain ⟨hy1, hy2, -, -⟩ := k3 y ey
      have z1 : ¬ me_Op none = 1 := by decide
      have z2 : me_Op none = -1 := rfl
      have z3 : ¬ me_Op (some y) = -1 := me_N_nm1 (by omega)
      simp only [z2, z3, show ¬ (-1 : Int32) = 1 by decide, if_true, if_false, me_bd_s]
      split
      · rfl
      · split <;> rfl
  | some x =>
    obtain ⟨hx1, -, nx, enx, -⟩ := k2 x ex
    have z4 : ¬ me_Op (some x) = -1 := me_N_nm1 (by omega)
    cases ey : gh_ay a.w n g with
    | none =>
      have z2 : me_Op none = -1 := rfl
      simp only [z2, z4, if_true, if_false, me_bd_s]
      split
      · split <;> rfl
      · split <;> rfl
    | some y =>
      obtain ⟨hy1, hy2, -, ny, eny, -⟩ := k3 y ey
      have z3 : ¬ me_Op (some y) = -1 := me_N_nm1 (by omega)
      have z5 : (me_Op (some x) = 1) ↔ x = 1 := by
        show (me_N x = 1) ↔ x = 1
        rw [me_N_1, me_N_inj (by omega) (by omega)]
      have w1 := y_free hC hI hn (show x < 4 by omega) hc enx
      have w2 := y_free hC hI hn hy1 hc eny
      have w3 := y_whole hC hI hn (show x < 4 by omega) enx
      have w4 := y_whole hC hI hn hy1 eny
      simp only [z3, z4, if_false]
      rw [show me_Op (some x) = me_N x from rfl, show me_Op (some y) = me_N y from rfl] at *
      rw [w1, w2, w3, w4]
      simp only [me_bd_s]
      by_cases c1 : a.wy = 116
      · rw [if_pos c1, if_pos c1]
        by_cases c2 : x = 1
        · rw [if_pos (z5.mpr c2), if_pos c2, me_bd_s, c2]
        · rw [if_neg (fun q => c2 (z5.mp q)), if_neg c2]
          by_cases f3 : a.fl n x = 0 <;> by_cases f4 : a.fl n y = 0 <;> cases gh_fr a n c x <;> cases gh_fr a n c y <;> simp [f3, f4, me_bi, me_bd_s]
      · rw [if_neg c1, if_neg c1]
        by_cases c2 : a.wy = 120
        · rw [if_pos c2, if_pos c2]
        · rw [if_neg c2, if_neg c2]
theorem me_N_abs {a b : Nat} (ha : a < 1000) (hb : b < 1000) : me_abs' (me_N a - me_N b) = me_N ((a - b) + (b - a)) := by
  unfold me_abs'
  have h := (me_N_dif ha hb).2
  by_cases e : b ≤ a
  · rw [if_pos (h.mpr e), me_N_sub e, show a - b + (b - a) = a - b by omega]
  · rw [if_neg (fun q => e (h.mp q)), show a - b + (b - a) = b - a by omega]
    rw [← me_N_ofInt, ← me_N_ofInt, ← me_N_ofInt, ← Int32.ofInt_sub, show (0 : Int32) = Int32.ofInt 0 from rfl, ← Int32.ofInt_sub]
    congr 1
    omega
theorem y_steps {a : me_S} {μ : me_M} (hC : me_RC a μ) (hI : me_Iv a) {x y : Nat} (hx : x < a.w * a.h) (hy : y < a.w * a.h) : f_Net_stepsBetween μ (me_N x) (me_N y) = some (me_N (me_ds a.w x y)) := by
  have hwh := hI.wh
  have h1 : x % a.w ≤ x := Nat.mod_le _ _
  have h2 : y % a.w ≤ y := Nat.mod_le _ _
  have h3 : x / a.w ≤ x := Nat.div_le_self _ _
  have h4 : y / a.w ≤ y := Nat.div_le_self _ _
  unfold f_Net_stepsBetween me_ds
  simp only [me_gd_n (show x < 2147483648 by omega) (show x < 16 by omega), me_gd_n (show y < 2147483648 by omega) (show y < 16 by omega), me_N_ix (show x < 2147483648 by omega), me_N_ix (show y < 2147483648 by omega), hC.cl x hx, hC.cl y hy, hC.li x hx, hC.li y hy]
  rw [me_N_abs (by omega) (by omega), me_N_abs (by omega) (by omega), me_N_add]
theorem me_RC.w_pls {a : me_S} {μ μ' : me_M} (h : me_RC a μ) (v : Nat) (e9 : ∀ k i j, ¬ k = 17 → ¬ k = 0 → μ' k i j = μ k i j) (e17 : ∀ i j, ¬ j = 4 → μ' 17 i j = μ 17 i j) (e4 : ∀ r, r < 160 → μ' 17 r 4 = me_N v) (e0 : μ' 0 0 9 = me_N v) : me_RC (me_S.s_rp a v) μ' :=
  me_RC.mk (e0)
    ((e9 1 _ _ (by decide) (by decide)).trans (h.nn))
    (fun n d g0 g1 => (e9 2 _ _ (by decide) (by decide)).trans (h.ah n d g0 g1))
    (fun n d g0 g1 => (e9 3 _ _ (by decide) (by decide)).trans (h.fl n d g0 g1))
    (fun n g0 => (e9 4 _ _ (by decide) (by decide)).trans (h.cl n g0))
    (fun n g0 => (e9 5 _ _ (by decide) (by decide)).trans (h.li n g0))
    ((e9 6 _ _ (by decide) (by decide)).trans (h.np))
    ((e9 6 _ _ (by decide) (by decide)).trans (h.ow))
    (fun i g0 => (e9 8 _ _ (by decide) (by decide)).trans (h.p0 i g0))
    (fun i => (e9 8 _ _ (by decide) (by decide)).trans (h.kd i))
    (fun i => (e9 8 _ _ (by decide) (by decide)).trans (h.st i))
    (fun i => (e9 8 _ _ (by decide) (by decide)).trans (h.sr i))
    (fun i => (e9 8 _ _ (by decide) (by decide)).trans (h.gl i))
    (fun i => (e9 8 _ _ (by decide) (by decide)).trans (h.wd i))
    (fun i g0 => (e9 8 _ _ (by decide) (by decide)).trans (h.bo i g0))
    (fun i => (e9 8 _ _ (by decide) (by decide)).trans (h.pt i))
    (fun i => (e9 8 _ _ (by decide) (by decide)).trans (h.tk i))
    (fun i g0 => (e9 8 _ _ (by decide) (by decide)).trans (h.hd i g0))
    (fun i => (e9 8 _ _ (by decide) (by decide)).trans (h.ma i))
    (fun i g0 => (e9 8 _ _ (by decide) (by decide)).trans (h.dn i g0))
    (fun i => (e9 8 _ _ (by decide) (by decide)).trans (h.pl i))
    (fun i => (e9 8 _ _ (by decide) (by decide)).trans (h.ad i))
    (fun i g0 => (e9 8 _ _ (by decide) (by decide)).trans (h.an i g0))
    ((e9 9 _ _ (by decide) (by decide)).trans (h.nt))
    (fun i g0 => (e9 10 _ _ (by decide) (by decide)).trans (h.tn i g0))
    (fun i j g0 g1 => (e9 11 _ _ (by decide) (by decide)).trans (h.tr i j g0 g1))
    (fun n g0 => (e9 13 _ _ (by decide) (by decide)).trans (h.aw n g0))
    (fun n k g0 g1 => (e9 15 _ _ (by decide) (by decide)).trans (h.lr n k g0 g1))
    (fun n c g0 g1 => (e9 16 _ _ (by decide) (by decide)).trans (h.fp n c g0 g1))
    (fun r g0 => (e17 _ 3 (by decide)).trans (h.qn r g0))
    (fun r g0 => e4 r g0)
    (fun r g0 => (e17 _ 5 (by decide)).trans (h.ro r g0))
    (fun r g0 => (e17 _ 6 (by decide)).trans (h.rh r g0))
    (fun r g0 => (e17 _ 7 (by decide)).trans (h.rg r g0))
    (fun r j e g0 g1 => (e9 18 _ _ (by decide) (by decide)).trans (h.q1 r j e g0 g1))
    (fun r j e g0 g1 => (e9 19 _ _ (by decide) (by decide)).trans (h.q2 r j e g0 g1))
    (fun r j e g0 g1 => (e9 20 _ _ (by decide) (by decide)).trans (h.q3 r j e g0 g1))
    (fun n g0 => (e9 22 _ _ (by decide) (by decide)).trans (h.dp n g0))
    (fun n g0 => (e9 22 _ _ (by decide) (by decide)).trans (h.ln n g0))
    (fun n g0 => (e9 22 _ _ (by decide) (by decide)).trans (h.ca n g0))
    (fun n g0 => (e9 22 _ _ (by decide) (by decide)).trans (h.co n g0))
    (fun n g0 => (e9 22 _ _ (by decide) (by decide)).trans (h.fa n g0))
    (fun n j g0 g1 => (e9 23 _ _ (by decide) (by decide)).trans (h.mm n j g0 g1))
    (fun n j g0 g1 => (e9 24 _ _ (by decide) (by decide)).trans (h.sk n j g0 g1))
    (fun n j g0 g1 => (e9 25 _ _ (by decide) (by decide)).trans (h.nm n j g0 g1))
    (fun n j g0 g1 => (e9 26 _ _ (by decide) (by decide)).trans (h.nu n j g0 g1))
    ((e9 27 _ _ (by decide) (by decide)).trans (h.wy))
    ((e9 30 _ _ (by decide) (by decide)).trans (h.bt))
/-- rows lo to hi have their places set -/
def gh_ps (μ μ' : me_M) (v : Int32) (lo hi : Nat) : Prop := ∀ k i j, μ' k i j = if k = 17 ∧ j = 4 ∧ lo ≤ i ∧ i < hi then v else μ k i j
theorem gh_ps_cat {μ μ1 μ2 : me_M} {v : Int32} {lo mid hi : Nat} (h1 : gh_ps μ μ1 v lo mid) (h2 : gh_ps μ1 μ2 v mid hi) (ha : lo ≤ mid) (hb : mid ≤ hi) : gh_ps μ μ2 v lo hi := by
  intro k i j
  rw [h2, h1]
  by_cases e : k = 17 ∧ j = 4 ∧ mid ≤ i ∧ i < hi
  · rw [if_pos e, if_pos ⟨e.1, e.2.1, by omega, e.2.2.2⟩]
  · rw [if_neg e]
    by_cases e2 : k = 17 ∧ j = 4 ∧ lo ≤ i ∧ i < mid
    · rw [if_pos e2, if_pos ⟨e2.1, e2.2.1, e2.2.2.1, by omega⟩]
    · rw [if_neg e2, if_neg]
      rintro ⟨q1, q2, q3, q4⟩
      by_cases q : i < mid
      · exact e2 ⟨q1, q2, q3, q⟩
      · exact e ⟨q1, q2, by omega, q4⟩
theorem y_sp1 {v : Int32} {n : Nat} (hn : n < 16) : ∀ (d f i : Nat) (μ : me_M), i + d = 10 → d < f → ∃ μ', f_Router_setPlaces_h2 f μ n v (me_N i) = some (μ', ()) ∧ gh_ps μ μ' v (10 * n + i) (10 * n + 10) := by
  intro d
  induction d with
  | zero =>
    intro f i μ h1 h2
    obtain ⟨f, rfl⟩ : ∃ g, f = g + 1 := ⟨f - 1, by omega⟩
    refine ⟨μ, ?_, fun k i' j => ?_⟩
    · show f_Router_setPlaces_b2 _ _ _ _ _ = _
      unfold f_Router_setPlaces_b2
      rw [if_pos (by rw [me_N_10, me_N_le (by omega) (by omega)]; omega)]
    · rw [if_neg]
      rintro ⟨-, -, q1, q2⟩
      omega
  | succ d ih =>
    intro f i μ h1 h2
    obtain ⟨f, rfl⟩ : ∃ g, f = g + 1 := ⟨f - 1, by omega⟩
    obtain ⟨μ', g1, g2⟩ := ih f (i + 1) (me_up μ 17 (10 * n + i) 4 v) (by omega) (by omega)
    refine ⟨μ', ?_, gh_ps_cat (mid := 10 * n + (i + 1)) (fun k i' j => ?_) g2 (by omega) (by omega)⟩
    · show f_Router_setPlaces_b2 _ _ _ _ _ = _
      unfold f_Router_setPlaces_b2
      rw [if_neg (by rw [me_N_10, me_N_le (by omega) (by omega)]; omega), me_gd_n (by omega) (by omega), me_N_ix (by omega), me_lt_s, me_N_inc, me_lt_s]
      exact g1
    · rw [me_up_ap]
      by_cases e : k = 17 ∧ i' = 10 * n + i ∧ j = 4
      · rw [if_pos e, if_pos ⟨e.1, e.2.2, by omega, by omega⟩]
      · rw [if_neg e, if_neg]
        rintro ⟨q1, q2, q3, q4⟩
        exact e ⟨q1, by omega, q2⟩
theorem y_sp2 {v : Int32} : ∀ (d f n : Nat) (μ : me_M), n + d = 16 → d < f → ∃ μ', f_Y_setAllPlaces_h7 f μ v (me_N n) = some (μ', ()) ∧ gh_ps μ μ' v (10 * n) 160 := by
  intro d
  induction d with
  | zero =>
    intro f n μ h1 h2
    obtain ⟨f, rfl⟩ : ∃ g, f = g + 1 := ⟨f - 1, by omega⟩
    refine ⟨μ, ?_, fun k i' j => ?_⟩
    · show f_Y_setAllPlaces_b7 _ _ _ _ = _
      unfold f_Y_setAllPlaces_b7
      rw [if_pos (by rw [me_N_16, me_N_le (by omega) (by omega)]; omega)]
    · rw [if_neg]
      rintro ⟨-, -, q1, q2⟩
      omega
  | succ d ih =>
    intro f n μ h1 h2
    obtain ⟨f, rfl⟩ : ∃ g, f = g + 1 := ⟨f - 1, by omega⟩
    obtain ⟨μ1, k1, k2⟩ := y_sp1 (v := v) (n := n) (by omega) 10 me_FU 0 μ rfl (by decide)
    obtain ⟨μ', g1, g2⟩ := ih f (n + 1) μ1 (by omega) (by omega)
    refine ⟨μ', ?_, gh_ps_cat (mid := 10 * (n + 1)) (by rw [show 10 * (n + 1) = 10 * n + 10 by omega]; exact k2) g2 (by omega) (by omega)⟩
    show f_Y_setAllPlaces_b7 _ _ _ _ = _
    unfold f_Y_setAllPlaces_b7 f_Router_setPlaces
    rw [if_neg (by rw [me_N_16, me_N_le (by omega) (by omega)]; omega), me_gd_n (by omega) (by omega), me_N_ix (by omega), me_N_0, k1, me_b2_s, me_lt_s, me_N_inc]
    exact g1
theorem y_setPl {a : me_S} {μ : me_M} (hC : me_RC a μ) (v : Nat) : ∃ μ', f_Y_setAllPlaces μ (me_N v) = some (μ', ()) ∧ me_RC (me_S.s_rp a v) μ' ∧ ∀ k, ¬ k = 17 → ¬ k = 0 → μ' k = μ k := by
  obtain ⟨μ', g1, g2⟩ := y_sp2 (v := me_N v) 16 me_FU 0 (me_up μ 0 0 9 (me_N v)) rfl (by decide)
  have e : ∀ k i j, ¬ k = 17 → ¬ k = 0 → μ' k i j = μ k i j := fun k i j h1 h2 => by
    rw [g2, if_neg (fun q => h1 q.1), me_up_kn h2]
  refine ⟨μ', ?_, hC.w_pls v e (fun i j h => ?_) (fun r hr => ?_) ?_, fun k h1 h2 => funext fun i => funext fun j => e k i j h1 h2⟩
  · unfold f_Y_setAllPlaces
    rw [me_lt_s, me_N_0]
    exact g1
  · rw [g2, if_neg (fun q => h q.2.1), me_up_kn (by decide)]
  · rw [g2, if_pos ⟨rfl, rfl, by omega, hr⟩]
  · rw [g2, if_neg (fun q => absurd q.1 (by decide)), me_up_at]
def gh_cr1 (μ μ' : me_M) (n i : Nat) : Prop := ∀ k i' j, μ' k i' j = if k = 23 ∧ i' = n ∧ i ≤ j ∧ j < 8 then 0 else if k = 22 ∧ i' = n ∧ 4 ≤ j ∧ j ≤ 6 then 0 else if k = 22 ∧ i' = n ∧ 7 ≤ j ∧ j ≤ 8 then 45 else μ k i' j
theorem y_cr1 {n : Nat} : ∀ (d f i : Nat) (μ : me_M), i + d = 8 → d < f → ∃ μ', f_Core_reset_h2 f μ n (me_N i) = some (μ', ()) ∧ gh_cr1 μ μ' n i := by
  intro d
  induction d with
  | zero =>
    intro f i μ h1 h2
    obtain ⟨f, rfl⟩ : ∃ g, f = g + 1 := ⟨f - 1, by omega⟩
    refine ⟨me_up (me_up (me_up (me_up (me_up μ 22 n 4 0) 22 n 5 0) 22 n 6 0) 22 n 7 45) 22 n 8 45, ?_, ?_⟩
    · show f_Core_reset_b2 _ _ _ _ = _
      unfold f_Core_reset_b2
      rw [if_pos (by rw [me_N_8, me_N_le (by omega) (by omega)]; omega)]
      simp only [me_lt_s]
    · intro k i' j
      have n0 : ¬ (k = 23 ∧ i' = n ∧ i ≤ j ∧ j < 8) := fun q => by omega
      simp only [me_up_ap]
      rw [if_neg n0]
      by_cases e : k = 22 ∧ i' = n
      · obtain ⟨rfl, rfl⟩ := e
        by_cases h8 : j = 8
        · subst h8; simp
        by_cases h7 : j = 7
        · subst h7; simp
        by_cases h6 : j = 6
        · subst h6; simp
        by_cases h5 : j = 5
        · subst h5; simp
        by_cases h4 : j = 4
        · subst h4; simp
        · have n1 : ¬ (4 ≤ j ∧ j ≤ 6) := by omega
          have n2 : ¬ (7 ≤ j ∧ j ≤ 8) := by omega
          simp only [h4, h5, h6, h7, h8, n1, n2, and_false, if_false]
      · have n1 : ∀ P : Prop, ¬ (k = 22 ∧ i' = n ∧ P) := fun _ q => e ⟨q.1, q.2.1⟩
        simp only [n1, if_false]
  | succ d ih =>
    intro f i μ h1 h2
    obtain ⟨f, rfl⟩ : ∃ g, f = g + 1 := ⟨f - 1, by omega⟩
    obtain ⟨μ', g1, g2⟩ := ih f (i + 1) (me_up μ 23 n i 0) (by omega) (by omega)
    refine ⟨μ', ?_, fun k i' j => ?_⟩
    · show f_Core_reset_b2 _ _ _ _ = _
      unfold f_Core_reset_b2
      rw [if_neg (by rw [me_N_8, me_N_le (by omega) (by omega)]; omega), me_gd_n (by omega) (by omega), me_N_ix (by omega), me_lt_s, me_N_inc, me_lt_s]
      exact g1
    · rw [g2, me_up_ap]
      by_cases e : k = 23 ∧ i' = n ∧ i ≤ j ∧ j < 8
      · rw [if_pos e]
        by_cases e2 : k = 23 ∧ i' = n ∧ i + 1 ≤ j ∧ j < 8
        · rw [if_pos e2]
        · rw [if_neg e2, if_neg (fun q => by omega), if_neg (fun q => by omega), if_pos ⟨e.1, e.2.1, by omega⟩]
      · rw [if_neg e, if_neg (fun q => e ⟨q.1, q.2.1, by omega, q.2.2.2⟩)]
        by_cases e3 : k = 22 ∧ i' = n ∧ 4 ≤ j ∧ j ≤ 6
        · rw [if_pos e3, if_pos e3]
        · rw [if_neg e3, if_neg e3]
          by_cases e4 : k = 22 ∧ i' = n ∧ 7 ≤ j ∧ j ≤ 8
          · rw [if_pos e4, if_pos e4]
          · rw [if_neg e4, if_neg e4, if_neg (fun q => e ⟨q.1, q.2.1, by omega, by omega⟩)]
def gh_rt1 (μ μ' : me_M) (n i : Nat) : Prop := ∀ k i' j, μ' k i' j = if k = 17 ∧ 10 * n + i ≤ i' ∧ i' < 10 * n + 10 ∧ (j = 3 ∨ j = 7) then 0 else if k = 17 ∧ 10 * n + i ≤ i' ∧ i' < 10 * n + 10 ∧ (j = 5 ∨ j = 6) then -1 else if k = 15 ∧ i' = n ∧ i ≤ j ∧ j < 10 then 0 else if k = 16 ∧ i' = n ∧ j < 2 then 0 else if k = 13 ∧ i' = n ∧ j = 3 then 1 else if k = 13 ∧ i' = n ∧ j = 4 then 0 else μ k i' j
theorem y_rt1 {n : Nat} : ∀ (d f i : Nat) (μ : me_M), i + d = 10 → d < f → ∃ μ', f_Router_reset_h2 f μ n (me_N i) = some (μ', ()) ∧ gh_rt1 μ μ' n i := by
  intro d
  induction d with
  | zero =>
    intro f i μ h1 h2
    obtain ⟨f, rfl⟩ : ∃ g, f = g + 1 := ⟨f - 1, by omega⟩
    refine ⟨me_up (me_up (me_up (me_up μ 16 n 0 0) 16 n 1 0) 13 n 3 1) 13 n 4 0, ?_, ?_⟩
    · show f_Router_reset_b2 _ _ _ _ = _
      unfold f_Router_reset_b2
      rw [if_pos (by rw [me_N_10, me_N_le (by omega) (by omega)]; omega)]
      simp only [me_lt_s]
    · intro k i' j
      simp only [me_up_ap]
      have n5 : ∀ P : Prop, ¬ (k = 17 ∧ 10 * n + i ≤ i' ∧ i' < 10 * n + 10 ∧ P) := fun _ q => by omega
      simp only [n5, if_false]
      by_cases e : k = 13 ∧ i' = n
      · obtain ⟨rfl, rfl⟩ := e
        by_cases h3 : j = 3
        · subst h3; simp
        by_cases h4 : j = 4
        · subst h4; simp
        · simp [h3, h4]
      · by_cases e2 : k = 16 ∧ i' = n
        · obtain ⟨rfl, rfl⟩ := e2
          by_cases h3 : j = 0
          · subst h3; simp
          by_cases h4 : j = 1
          · subst h4; simp
          · have : ¬ j < 2 := by omega
            simp [h3, h4, this]
        · have n1 : ¬ (k = 15 ∧ i' = n ∧ i ≤ j ∧ j < 10) := by omega
          have n2 : ¬ (k = 16 ∧ i' = n ∧ j < 2) := fun q => e2 ⟨q.1, q.2.1⟩
          have n3 : ∀ m, ¬ (k = 13 ∧ i' = n ∧ j = m) := fun m q => e ⟨q.1, q.2.1⟩
          have n4 : ∀ m, ¬ (k = 16 ∧ i' = n ∧ j = m) := fun m q => e2 ⟨q.1, q.2.1⟩
          simp only [n1, n2, n3, n4, if_false]
  | succ d ih =>
    intro f i μ h1 h2
    obtain ⟨f, rfl⟩ : ∃ g, f = g + 1 := ⟨f - 1, by omega⟩
    obtain ⟨μ', g1, g2⟩ := ih f (i + 1) (me_up (me_up (me_up (me_up (me_up μ 17 (10 * n + i) 3 0) 17 (10 * n + i) 5 (-1)) 17 (10 * n + i) 6 (-1)) 17 (10 * n + i) 7 0) 15 n i 0) (by omega) (by omega)
    refine ⟨μ', ?_, fun k i' j => ?_⟩
    · show f_Router_reset_b2 _ _ _ _ = _
      unfold f_Router_reset_b2 f_Row_reset
      rw [if_neg (by rw [me_N_10, me_N_le (by omega) (by omega)]; omega), me_gd_n (by omega) (by omega), me_N_ix (by omega)]
      simp only [me_lt_s, me_b2_s, me_gd_n (show i < 2147483648 by omega) (show i < 10 by omega), me_N_inc]
      exact g1
    · rw [g2]
      simp only [me_up_ap]
      by_cases e : k = 17
      · subst e
        have m1 : ∀ a b c : Prop, ¬ (17 = 15 ∧ a) := fun _ _ _ q => absurd q.1 (by decide)
        by_cases hi : i' = 10 * n + i
        · subst hi
          by_cases h3 : j = 3
          · subst h3; simp; omega
          by_cases h5 : j = 5
          · subst h5; simp; omega
          by_cases h6 : j = 6
          · subst h6; simp; omega
          by_cases h7 : j = 7
          · subst h7; simp; omega
          · simp [h3, h5, h6, h7]
        · have q1 : (10 * n + (i + 1) ≤ i') = (10 * n + i ≤ i') := propext ⟨fun _ => by omega, fun _ => by omega⟩
          simp [hi, q1]
      · by_cases e15 : k = 15 ∧ i' = n
        · obtain ⟨rfl, rfl⟩ := e15
          by_cases h3 : j = i
          · subst h3
            have : j < 10 := by omega
            simp [this]
          · have q1 : (i + 1 ≤ j) = (i ≤ j) := propext ⟨fun _ => by omega, fun _ => by omega⟩
            simp [h3, q1]
        · have n1 : ∀ P : Prop, ¬ (k = 17 ∧ P) := fun _ q => e q.1
          have n2 : ∀ P : Prop, ¬ (k = 15 ∧ i' = n ∧ P) := fun _ q => e15 ⟨q.1, q.2.1⟩
          simp only [n1, n2, if_false]
def gh_tr1 (μ μ' : me_M) (i : Nat) : Prop := ∀ k i' j, μ' k i' j = if k = 11 ∧ i' = 0 ∧ i ≤ j ∧ j < 64 then 0 else μ k i' j
theorem y_tr1 : ∀ (d f i : Nat) (μ : me_M), i + d = 64 → d < f → ∃ μ', f_Placing_reset_h7 f μ (me_N i) = some (μ', ()) ∧ gh_tr1 μ μ' i := by
  intro d
  induction d with
  | zero =>
    intro f i μ h1 h2
    obtain ⟨f, rfl⟩ : ∃ g, f = g + 1 := ⟨f - 1, by omega⟩
    refine ⟨μ, ?_, fun k i' j => ?_⟩
    · show f_Placing_reset_b7 _ _ _ = _
      unfold f_Placing_reset_b7
      rw [if_pos (by rw [me_N_64, me_N_le (by omega) (by omega)]; omega)]
    · rw [if_neg (fun q => by omega)]
  | succ d ih =>
    intro f i μ h1 h2
    obtain ⟨f, rfl⟩ : ∃ g, f = g + 1 := ⟨f - 1, by omega⟩
    obtain ⟨μ', g1, g2⟩ := ih f (i + 1) (me_up μ 11 0 i 0) (by omega) (by omega)
    refine ⟨μ', ?_, fun k i' j => ?_⟩
    · show f_Placing_reset_b7 _ _ _ = _
      unfold f_Placing_reset_b7
      rw [if_neg (by rw [me_N_64, me_N_le (by omega) (by omega)]; omega), me_gd_n (by omega) (by omega), me_N_ix (by omega), me_lt_s, me_N_inc, me_lt_s]
      exact g1
    · rw [g2, me_up_ap]
      by_cases e : k = 11 ∧ i' = 0 ∧ i ≤ j ∧ j < 64
      · rw [if_pos e]
        by_cases e2 : k = 11 ∧ i' = 0 ∧ i + 1 ≤ j ∧ j < 64
        · rw [if_pos e2]
        · rw [if_neg e2, if_pos ⟨e.1, e.2.1, by omega⟩]
      · rw [if_neg e, if_neg (fun q => e ⟨q.1, q.2.1, by omega, q.2.2.2⟩), if_neg (fun q => e ⟨q.1, q.2.1, by omega, by omega⟩)]
def gh_lf (w h : Nat) (μ : me_M) (m : Nat) : Prop := μ 4 0 m = me_N (m % w) ∧ μ 5 0 m = me_N (m / w) ∧ ∀ d, d < 4 → μ 2 0 (m * 4 + d) = me_Op (me_nb w h m d)
theorem gh_lf_up {w h m m' : Nat} {μ : me_M} {a b c d e g : Int32} (hm : ¬ m' = m) (h0 : gh_lf w h μ m') : gh_lf w h (me_up (me_up (me_up (me_up (me_up (me_up μ 4 0 m a) 5 0 m b) 2 0 (m * 4 + 0) c) 2 0 (m * 4 + 1) d) 2 0 (m * 4 + 2) e) 2 0 (m * 4 + 3) g) m' := by
  obtain ⟨h1, h2, h3⟩ := h0
  refine ⟨?_, ?_, fun k hk => ?_⟩
  · rw [me_up_kn (by decide), me_up_kn (by decide), me_up_kn (by decide), me_up_kn (by decide), me_up_kn (by decide), me_up_jn hm]
    exact h1
  · rw [me_up_kn (by decide), me_up_kn (by decide), me_up_kn (by decide), me_up_kn (by decide), me_up_jn hm, me_up_kn (by decide)]
    exact h2
  · rw [me_up_jn (by omega), me_up_jn (by omega), me_up_jn (by omega), me_up_jn (by omega), me_up_kn (by decide), me_up_kn (by decide)]
    exact h3 k hk
