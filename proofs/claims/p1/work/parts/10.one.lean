variable {sc : List Int32}
/-! WHICH instruction of the machine an abstract one stands for, and that the machine does what the abstract one says -/
section AMO
variable {p : Program} {l : Launch} {e : Env} {R : Room} {s : State} {m : MethodId} {args : Array Value} {below : List Frame} {meth : Method} {c : Code} {Q : State → Prop}
variable {cc : ByteArray} {nL n0 z0 pc b cn len : Nat} {yn : String} {ini : Bool} {ad : Nat → Nat} {D : va_G} {lv lv' : am_V} {st st' : List Value} {h h' : am_H} {a : Instr}
theorem am_o_iadd (C : am_C p R m c cc nL (am_own cn) s args D meth yn ad)  (hini : ini = true → yn = "<init>") (hr : am_rl cn nL ini (.iadd) a len = true) (hd : decode cc pc = .ok (.iadd, len)) (hi : am_i1 sc a lv st h = some (lv', st', h')) (hrm : am_rm R n0 z0 h') (k : am_W sc p l e R s m args below meth c D b ad nL n0 z0 Q (pc + len) lv' st' h') : am_W sc p l e R s m args below meth c D b ad nL n0 z0 Q pc lv st h := by
  simp only [am_rl, Bool.and_eq_true, decide_eq_true_eq] at hr
  obtain ⟨rfl, rfl⟩ := hr
  simp only [am_i1] at hi
  obtain ⟨e1, rfl, rfl⟩ := am_st_spec hi
  obtain ⟨x, y, r, rfl, rfl⟩ := am_pi_spec e1
  exact am_r_iadd C hd k
theorem am_o_isub (C : am_C p R m c cc nL (am_own cn) s args D meth yn ad)  (hini : ini = true → yn = "<init>") (hr : am_rl cn nL ini (.isub) a len = true) (hd : decode cc pc = .ok (.isub, len)) (hi : am_i1 sc a lv st h = some (lv', st', h')) (hrm : am_rm R n0 z0 h') (k : am_W sc p l e R s m args below meth c D b ad nL n0 z0 Q (pc + len) lv' st' h') : am_W sc p l e R s m args below meth c D b ad nL n0 z0 Q pc lv st h := by
  simp only [am_rl, Bool.and_eq_true, decide_eq_true_eq] at hr
  obtain ⟨rfl, rfl⟩ := hr
  simp only [am_i1] at hi
  obtain ⟨e1, rfl, rfl⟩ := am_st_spec hi
  obtain ⟨x, y, r, rfl, rfl⟩ := am_pi_spec e1
  exact am_r_isub C hd k
theorem am_o_imul (C : am_C p R m c cc nL (am_own cn) s args D meth yn ad)  (hini : ini = true → yn = "<init>") (hr : am_rl cn nL ini (.imul) a len = true) (hd : decode cc pc = .ok (.imul, len)) (hi : am_i1 sc a lv st h = some (lv', st', h')) (hrm : am_rm R n0 z0 h') (k : am_W sc p l e R s m args below meth c D b ad nL n0 z0 Q (pc + len) lv' st' h') : am_W sc p l e R s m args below meth c D b ad nL n0 z0 Q pc lv st h := by
  simp only [am_rl, Bool.and_eq_true, decide_eq_true_eq] at hr
  obtain ⟨rfl, rfl⟩ := hr
  simp only [am_i1] at hi
  obtain ⟨e1, rfl, rfl⟩ := am_st_spec hi
  obtain ⟨x, y, r, rfl, rfl⟩ := am_pi_spec e1
  exact am_r_imul C hd k
theorem am_o_iand (C : am_C p R m c cc nL (am_own cn) s args D meth yn ad)  (hini : ini = true → yn = "<init>") (hr : am_rl cn nL ini (.iand) a len = true) (hd : decode cc pc = .ok (.iand, len)) (hi : am_i1 sc a lv st h = some (lv', st', h')) (hrm : am_rm R n0 z0 h') (k : am_W sc p l e R s m args below meth c D b ad nL n0 z0 Q (pc + len) lv' st' h') : am_W sc p l e R s m args below meth c D b ad nL n0 z0 Q pc lv st h := by
  simp only [am_rl, Bool.and_eq_true, decide_eq_true_eq] at hr
  obtain ⟨rfl, rfl⟩ := hr
  simp only [am_i1] at hi
  obtain ⟨e1, rfl, rfl⟩ := am_st_spec hi
  obtain ⟨x, y, r, rfl, rfl⟩ := am_pi_spec e1
  exact am_r_iand C hd k
theorem am_o_ior (C : am_C p R m c cc nL (am_own cn) s args D meth yn ad)  (hini : ini = true → yn = "<init>") (hr : am_rl cn nL ini (.ior) a len = true) (hd : decode cc pc = .ok (.ior, len)) (hi : am_i1 sc a lv st h = some (lv', st', h')) (hrm : am_rm R n0 z0 h') (k : am_W sc p l e R s m args below meth c D b ad nL n0 z0 Q (pc + len) lv' st' h') : am_W sc p l e R s m args below meth c D b ad nL n0 z0 Q pc lv st h := by
  simp only [am_rl, Bool.and_eq_true, decide_eq_true_eq] at hr
  obtain ⟨rfl, rfl⟩ := hr
  simp only [am_i1] at hi
  obtain ⟨e1, rfl, rfl⟩ := am_st_spec hi
  obtain ⟨x, y, r, rfl, rfl⟩ := am_pi_spec e1
  exact am_r_ior C hd k
theorem am_o_ixor (C : am_C p R m c cc nL (am_own cn) s args D meth yn ad)  (hini : ini = true → yn = "<init>") (hr : am_rl cn nL ini (.ixor) a len = true) (hd : decode cc pc = .ok (.ixor, len)) (hi : am_i1 sc a lv st h = some (lv', st', h')) (hrm : am_rm R n0 z0 h') (k : am_W sc p l e R s m args below meth c D b ad nL n0 z0 Q (pc + len) lv' st' h') : am_W sc p l e R s m args below meth c D b ad nL n0 z0 Q pc lv st h := by
  simp only [am_rl, Bool.and_eq_true, decide_eq_true_eq] at hr
  obtain ⟨rfl, rfl⟩ := hr
  simp only [am_i1] at hi
  obtain ⟨e1, rfl, rfl⟩ := am_st_spec hi
  obtain ⟨x, y, r, rfl, rfl⟩ := am_pi_spec e1
  exact am_r_ixor C hd k
theorem am_o_ishl (C : am_C p R m c cc nL (am_own cn) s args D meth yn ad)  (hini : ini = true → yn = "<init>") (hr : am_rl cn nL ini (.ishl) a len = true) (hd : decode cc pc = .ok (.ishl, len)) (hi : am_i1 sc a lv st h = some (lv', st', h')) (hrm : am_rm R n0 z0 h') (k : am_W sc p l e R s m args below meth c D b ad nL n0 z0 Q (pc + len) lv' st' h') : am_W sc p l e R s m args below meth c D b ad nL n0 z0 Q pc lv st h := by
  simp only [am_rl, Bool.and_eq_true, decide_eq_true_eq] at hr
  obtain ⟨rfl, rfl⟩ := hr
  simp only [am_i1] at hi
  obtain ⟨e1, rfl, rfl⟩ := am_st_spec hi
  obtain ⟨x, y, r, rfl, rfl⟩ := am_pi_spec e1
  exact am_r_ishl C hd k
theorem am_o_ishr (C : am_C p R m c cc nL (am_own cn) s args D meth yn ad)  (hini : ini = true → yn = "<init>") (hr : am_rl cn nL ini (.ishr) a len = true) (hd : decode cc pc = .ok (.ishr, len)) (hi : am_i1 sc a lv st h = some (lv', st', h')) (hrm : am_rm R n0 z0 h') (k : am_W sc p l e R s m args below meth c D b ad nL n0 z0 Q (pc + len) lv' st' h') : am_W sc p l e R s m args below meth c D b ad nL n0 z0 Q pc lv st h := by
  simp only [am_rl, Bool.and_eq_true, decide_eq_true_eq] at hr
  obtain ⟨rfl, rfl⟩ := hr
  simp only [am_i1] at hi
  obtain ⟨e1, rfl, rfl⟩ := am_st_spec hi
  obtain ⟨x, y, r, rfl, rfl⟩ := am_pi_spec e1
  exact am_r_ishr C hd k
theorem am_o_iushr (C : am_C p R m c cc nL (am_own cn) s args D meth yn ad)  (hini : ini = true → yn = "<init>") (hr : am_rl cn nL ini (.iushr) a len = true) (hd : decode cc pc = .ok (.iushr, len)) (hi : am_i1 sc a lv st h = some (lv', st', h')) (hrm : am_rm R n0 z0 h') (k : am_W sc p l e R s m args below meth c D b ad nL n0 z0 Q (pc + len) lv' st' h') : am_W sc p l e R s m args below meth c D b ad nL n0 z0 Q pc lv st h := by
  simp only [am_rl, Bool.and_eq_true, decide_eq_true_eq] at hr
  obtain ⟨rfl, rfl⟩ := hr
  simp only [am_i1] at hi
  obtain ⟨e1, rfl, rfl⟩ := am_st_spec hi
  obtain ⟨x, y, r, rfl, rfl⟩ := am_pi_spec e1
  exact am_r_iushr C hd k
theorem am_o_ladd (C : am_C p R m c cc nL (am_own cn) s args D meth yn ad)  (hini : ini = true → yn = "<init>") (hr : am_rl cn nL ini (.ladd) a len = true) (hd : decode cc pc = .ok (.ladd, len)) (hi : am_i1 sc a lv st h = some (lv', st', h')) (hrm : am_rm R n0 z0 h') (k : am_W sc p l e R s m args below meth c D b ad nL n0 z0 Q (pc + len) lv' st' h') : am_W sc p l e R s m args below meth c D b ad nL n0 z0 Q pc lv st h := by
  simp only [am_rl, Bool.and_eq_true, decide_eq_true_eq] at hr
  obtain ⟨rfl, rfl⟩ := hr
  simp only [am_i1] at hi
  obtain ⟨e1, rfl, rfl⟩ := am_st_spec hi
  obtain ⟨x, y, r, rfl, rfl⟩ := am_pj_spec e1
  exact am_r_ladd C hd k
theorem am_o_lsub (C : am_C p R m c cc nL (am_own cn) s args D meth yn ad)  (hini : ini = true → yn = "<init>") (hr : am_rl cn nL ini (.lsub) a len = true) (hd : decode cc pc = .ok (.lsub, len)) (hi : am_i1 sc a lv st h = some (lv', st', h')) (hrm : am_rm R n0 z0 h') (k : am_W sc p l e R s m args below meth c D b ad nL n0 z0 Q (pc + len) lv' st' h') : am_W sc p l e R s m args below meth c D b ad nL n0 z0 Q pc lv st h := by
  simp only [am_rl, Bool.and_eq_true, decide_eq_true_eq] at hr
  obtain ⟨rfl, rfl⟩ := hr
  simp only [am_i1] at hi
  obtain ⟨e1, rfl, rfl⟩ := am_st_spec hi
  obtain ⟨x, y, r, rfl, rfl⟩ := am_pj_spec e1
  exact am_r_lsub C hd k
theorem am_o_lmul (C : am_C p R m c cc nL (am_own cn) s args D meth yn ad)  (hini : ini = true → yn = "<init>") (hr : am_rl cn nL ini (.lmul) a len = true) (hd : decode cc pc = .ok (.lmul, len)) (hi : am_i1 sc a lv st h = some (lv', st', h')) (hrm : am_rm R n0 z0 h') (k : am_W sc p l e R s m args below meth c D b ad nL n0 z0 Q (pc + len) lv' st' h') : am_W sc p l e R s m args below meth c D b ad nL n0 z0 Q pc lv st h := by
  simp only [am_rl, Bool.and_eq_true, decide_eq_true_eq] at hr
  obtain ⟨rfl, rfl⟩ := hr
  simp only [am_i1] at hi
  obtain ⟨e1, rfl, rfl⟩ := am_st_spec hi
  obtain ⟨x, y, r, rfl, rfl⟩ := am_pj_spec e1
  exact am_r_lmul C hd k
theorem am_o_land (C : am_C p R m c cc nL (am_own cn) s args D meth yn ad)  (hini : ini = true → yn = "<init>") (hr : am_rl cn nL ini (.land) a len = true) (hd : decode cc pc = .ok (.land, len)) (hi : am_i1 sc a lv st h = some (lv', st', h')) (hrm : am_rm R n0 z0 h') (k : am_W sc p l e R s m args below meth c D b ad nL n0 z0 Q (pc + len) lv' st' h') : am_W sc p l e R s m args below meth c D b ad nL n0 z0 Q pc lv st h := by
  simp only [am_rl, Bool.and_eq_true, decide_eq_true_eq] at hr
  obtain ⟨rfl, rfl⟩ := hr
  simp only [am_i1] at hi
  obtain ⟨e1, rfl, rfl⟩ := am_st_spec hi
  obtain ⟨x, y, r, rfl, rfl⟩ := am_pj_spec e1
  exact am_r_land C hd k
theorem am_o_lor (C : am_C p R m c cc nL (am_own cn) s args D meth yn ad)  (hini : ini = true → yn = "<init>") (hr : am_rl cn nL ini (.lor) a len = true) (hd : decode cc pc = .ok (.lor, len)) (hi : am_i1 sc a lv st h = some (lv', st', h')) (hrm : am_rm R n0 z0 h') (k : am_W sc p l e R s m args below meth c D b ad nL n0 z0 Q (pc + len) lv' st' h') : am_W sc p l e R s m args below meth c D b ad nL n0 z0 Q pc lv st h := by
  simp only [am_rl, Bool.and_eq_true, decide_eq_true_eq] at hr
  obtain ⟨rfl, rfl⟩ := hr
  simp only [am_i1] at hi
  obtain ⟨e1, rfl, rfl⟩ := am_st_spec hi
  obtain ⟨x, y, r, rfl, rfl⟩ := am_pj_spec e1
  exact am_r_lor C hd k
theorem am_o_lcmp (C : am_C p R m c cc nL (am_own cn) s args D meth yn ad)  (hini : ini = true → yn = "<init>") (hr : am_rl cn nL ini (.lcmp) a len = true) (hd : decode cc pc = .ok (.lcmp, len)) (hi : am_i1 sc a lv st h = some (lv', st', h')) (hrm : am_rm R n0 z0 h') (k : am_W sc p l e R s m args below meth c D b ad nL n0 z0 Q (pc + len) lv' st' h') : am_W sc p l e R s m args below meth c D b ad nL n0 z0 Q pc lv st h := by
  simp only [am_rl, Bool.and_eq_true, decide_eq_true_eq] at hr
  obtain ⟨rfl, rfl⟩ := hr
  simp only [am_i1] at hi
  obtain ⟨e1, rfl, rfl⟩ := am_st_spec hi
  obtain ⟨x, y, r, rfl, rfl⟩ := am_pj_spec e1
  exact am_r_lcmp C hd k
theorem am_o_lshl (C : am_C p R m c cc nL (am_own cn) s args D meth yn ad)  (hini : ini = true → yn = "<init>") (hr : am_rl cn nL ini (.lshl) a len = true) (hd : decode cc pc = .ok (.lshl, len)) (hi : am_i1 sc a lv st h = some (lv', st', h')) (hrm : am_rm R n0 z0 h') (k : am_W sc p l e R s m args below meth c D b ad nL n0 z0 Q (pc + len) lv' st' h') : am_W sc p l e R s m args below meth c D b ad nL n0 z0 Q pc lv st h := by
  simp only [am_rl, Bool.and_eq_true, decide_eq_true_eq] at hr
  obtain ⟨rfl, rfl⟩ := hr
  simp only [am_i1] at hi
  obtain ⟨e1, rfl, rfl⟩ := am_st_spec hi
  obtain ⟨x, y, r, rfl, rfl⟩ := am_ps_spec e1
  exact am_r_lshl C hd k
theorem am_o_lushr (C : am_C p R m c cc nL (am_own cn) s args D meth yn ad)  (hini : ini = true → yn = "<init>") (hr : am_rl cn nL ini (.lushr) a len = true) (hd : decode cc pc = .ok (.lushr, len)) (hi : am_i1 sc a lv st h = some (lv', st', h')) (hrm : am_rm R n0 z0 h') (k : am_W sc p l e R s m args below meth c D b ad nL n0 z0 Q (pc + len) lv' st' h') : am_W sc p l e R s m args below meth c D b ad nL n0 z0 Q pc lv st h := by
  simp only [am_rl, Bool.and_eq_true, decide_eq_true_eq] at hr
  obtain ⟨rfl, rfl⟩ := hr
  simp only [am_i1] at hi
  obtain ⟨e1, rfl, rfl⟩ := am_st_spec hi
  obtain ⟨x, y, r, rfl, rfl⟩ := am_ps_spec e1
  exact am_r_lushr C hd k
theorem am_o_idiv (C : am_C p R m c cc nL (am_own cn) s args D meth yn ad)  (hini : ini = true → yn = "<init>") (hr : am_rl cn nL ini (.idiv) a len = true) (hd : decode cc pc = .ok (.idiv, len)) (hi : am_i1 sc a lv st h = some (lv', st', h')) (hrm : am_rm R n0 z0 h') (k : am_W sc p l e R s m args below meth c D b ad nL n0 z0 Q (pc + len) lv' st' h') : am_W sc p l e R s m args below meth c D b ad nL n0 z0 Q pc lv st h := by
  simp only [am_rl, Bool.and_eq_true, decide_eq_true_eq] at hr
  obtain ⟨rfl, rfl⟩ := hr
  simp only [am_i1] at hi
  split at hi
  · split at hi
    · cases hi
    · rename_i hne
      cases hi
      exact am_r_idiv C hne hd k
  · cases hi
theorem am_o_irem (C : am_C p R m c cc nL (am_own cn) s args D meth yn ad)  (hini : ini = true → yn = "<init>") (hr : am_rl cn nL ini (.irem) a len = true) (hd : decode cc pc = .ok (.irem, len)) (hi : am_i1 sc a lv st h = some (lv', st', h')) (hrm : am_rm R n0 z0 h') (k : am_W sc p l e R s m args below meth c D b ad nL n0 z0 Q (pc + len) lv' st' h') : am_W sc p l e R s m args below meth c D b ad nL n0 z0 Q pc lv st h := by
  simp only [am_rl, Bool.and_eq_true, decide_eq_true_eq] at hr
  obtain ⟨rfl, rfl⟩ := hr
  simp only [am_i1] at hi
  split at hi
  · split at hi
    · cases hi
    · rename_i hne
      cases hi
      exact am_r_irem C hne hd k
  · cases hi
theorem am_o_ineg (C : am_C p R m c cc nL (am_own cn) s args D meth yn ad)  (hini : ini = true → yn = "<init>") (hr : am_rl cn nL ini (.ineg) a len = true) (hd : decode cc pc = .ok (.ineg, len)) (hi : am_i1 sc a lv st h = some (lv', st', h')) (hrm : am_rm R n0 z0 h') (k : am_W sc p l e R s m args below meth c D b ad nL n0 z0 Q (pc + len) lv' st' h') : am_W sc p l e R s m args below meth c D b ad nL n0 z0 Q pc lv st h := by
  simp only [am_rl, Bool.and_eq_true, decide_eq_true_eq] at hr
  obtain ⟨rfl, rfl⟩ := hr
  simp only [am_i1] at hi
  split at hi
  · cases hi
    exact am_r_ineg C hd k
  · cases hi
theorem am_o_i2l (C : am_C p R m c cc nL (am_own cn) s args D meth yn ad)  (hini : ini = true → yn = "<init>") (hr : am_rl cn nL ini (.i2l) a len = true) (hd : decode cc pc = .ok (.i2l, len)) (hi : am_i1 sc a lv st h = some (lv', st', h')) (hrm : am_rm R n0 z0 h') (k : am_W sc p l e R s m args below meth c D b ad nL n0 z0 Q (pc + len) lv' st' h') : am_W sc p l e R s m args below meth c D b ad nL n0 z0 Q pc lv st h := by
  simp only [am_rl, Bool.and_eq_true, decide_eq_true_eq] at hr
  obtain ⟨rfl, rfl⟩ := hr
  simp only [am_i1] at hi
  split at hi
  · cases hi
    exact am_r_i2l C hd k
  · cases hi
theorem am_o_l2i (C : am_C p R m c cc nL (am_own cn) s args D meth yn ad)  (hini : ini = true → yn = "<init>") (hr : am_rl cn nL ini (.l2i) a len = true) (hd : decode cc pc = .ok (.l2i, len)) (hi : am_i1 sc a lv st h = some (lv', st', h')) (hrm : am_rm R n0 z0 h') (k : am_W sc p l e R s m args below meth c D b ad nL n0 z0 Q (pc + len) lv' st' h') : am_W sc p l e R s m args below meth c D b ad nL n0 z0 Q pc lv st h := by
  simp only [am_rl, Bool.and_eq_true, decide_eq_true_eq] at hr
  obtain ⟨rfl, rfl⟩ := hr
  simp only [am_i1] at hi
  split at hi
  · cases hi
    exact am_r_l2i C hd k
  · cases hi
theorem am_o_dup (C : am_C p R m c cc nL (am_own cn) s args D meth yn ad)  (hini : ini = true → yn = "<init>") (hr : am_rl cn nL ini (.dup) a len = true) (hd : decode cc pc = .ok (.dup, len)) (hi : am_i1 sc a lv st h = some (lv', st', h')) (hrm : am_rm R n0 z0 h') (k : am_W sc p l e R s m args below meth c D b ad nL n0 z0 Q (pc + len) lv' st' h') : am_W sc p l e R s m args below meth c D b ad nL n0 z0 Q pc lv st h := by
  simp only [am_rl, Bool.and_eq_true, decide_eq_true_eq] at hr
  obtain ⟨rfl, rfl⟩ := hr
  simp only [am_i1] at hi
  split at hi
  · split at hi
    · rename_i hv
      cases hi
      exact am_r_dup C hv hd k
    · cases hi
  · cases hi
theorem am_o_pop (C : am_C p R m c cc nL (am_own cn) s args D meth yn ad)  (hini : ini = true → yn = "<init>") (hr : am_rl cn nL ini (.pop) a len = true) (hd : decode cc pc = .ok (.pop, len)) (hi : am_i1 sc a lv st h = some (lv', st', h')) (hrm : am_rm R n0 z0 h') (k : am_W sc p l e R s m args below meth c D b ad nL n0 z0 Q (pc + len) lv' st' h') : am_W sc p l e R s m args below meth c D b ad nL n0 z0 Q pc lv st h := by
  simp only [am_rl, Bool.and_eq_true, decide_eq_true_eq] at hr
  obtain ⟨rfl, rfl⟩ := hr
  simp only [am_i1] at hi
  split at hi
  · split at hi
    · rename_i hv
      cases hi
      exact am_r_pop C hv hd k
    · cases hi
  · cases hi
theorem am_o_dup_x1 (C : am_C p R m c cc nL (am_own cn) s args D meth yn ad)  (hini : ini = true → yn = "<init>") (hr : am_rl cn nL ini (.dup_x1) a len = true) (hd : decode cc pc = .ok (.dup_x1, len)) (hi : am_i1 sc a lv st h = some (lv', st', h')) (hrm : am_rm R n0 z0 h') (k : am_W sc p l e R s m args below meth c D b ad nL n0 z0 Q (pc + len) lv' st' h') : am_W sc p l e R s m args below meth c D b ad nL n0 z0 Q pc lv st h := by
  simp only [am_rl, Bool.and_eq_true, decide_eq_true_eq] at hr
  obtain ⟨rfl, rfl⟩ := hr
  simp only [am_i1] at hi
  split at hi
  · split at hi
    · rename_i hv
      cases hi
      exact am_r_dup_x1 C hv.1 hv.2 hd k
    · cases hi
  · cases hi
theorem am_o_dup2 (C : am_C p R m c cc nL (am_own cn) s args D meth yn ad)  (hini : ini = true → yn = "<init>") (hr : am_rl cn nL ini (.dup2) a len = true) (hd : decode cc pc = .ok (.dup2, len)) (hi : am_i1 sc a lv st h = some (lv', st', h')) (hrm : am_rm R n0 z0 h') (k : am_W sc p l e R s m args below meth c D b ad nL n0 z0 Q (pc + len) lv' st' h') : am_W sc p l e R s m args below meth c D b ad nL n0 z0 Q pc lv st h := by
  simp only [am_rl, Bool.and_eq_true, decide_eq_true_eq] at hr
  obtain ⟨rfl, rfl⟩ := hr
  simp only [am_i1] at hi
  split at hi
  · split at hi
    · rename_i hv
      cases hi
      exact am_r_dup2 C hv.1 hv.2 hd k
    · cases hi
  · cases hi
theorem am_o_null (C : am_C p R m c cc nL (am_own cn) s args D meth yn ad)  (hini : ini = true → yn = "<init>") (hr : am_rl cn nL ini (.aconst_null) a len = true) (hd : decode cc pc = .ok (.aconst_null, len)) (hi : am_i1 sc a lv st h = some (lv', st', h')) (hrm : am_rm R n0 z0 h') (k : am_W sc p l e R s m args below meth c D b ad nL n0 z0 Q (pc + len) lv' st' h') : am_W sc p l e R s m args below meth c D b ad nL n0 z0 Q pc lv st h := by
  simp only [am_rl, Bool.and_eq_true, decide_eq_true_eq] at hr
  obtain ⟨rfl, rfl⟩ := hr
  simp only [am_i1] at hi
  cases hi
  exact am_r_null C hd k
theorem am_o_iconst (C : am_C p R m c cc nL (am_own cn) s args D meth yn ad) {n : Int} (hini : ini = true → yn = "<init>") (hr : am_rl cn nL ini (.iconst n) a len = true) (hd : decode cc pc = .ok (.iconst n, len)) (hi : am_i1 sc a lv st h = some (lv', st', h')) (hrm : am_rm R n0 z0 h') (k : am_W sc p l e R s m args below meth c D b ad nL n0 z0 Q (pc + len) lv' st' h') : am_W sc p l e R s m args below meth c D b ad nL n0 z0 Q pc lv st h := by
  simp only [am_rl, Bool.and_eq_true, decide_eq_true_eq] at hr
  obtain ⟨rfl, rfl⟩ := hr
  simp only [am_i1] at hi
  cases hi
  exact am_r_iconst C hd k
theorem am_o_bipush (C : am_C p R m c cc nL (am_own cn) s args D meth yn ad) {n : Int} (hini : ini = true → yn = "<init>") (hr : am_rl cn nL ini (.bipush n) a len = true) (hd : decode cc pc = .ok (.bipush n, len)) (hi : am_i1 sc a lv st h = some (lv', st', h')) (hrm : am_rm R n0 z0 h') (k : am_W sc p l e R s m args below meth c D b ad nL n0 z0 Q (pc + len) lv' st' h') : am_W sc p l e R s m args below meth c D b ad nL n0 z0 Q pc lv st h := by
  simp only [am_rl, Bool.and_eq_true, decide_eq_true_eq] at hr
  obtain ⟨⟨rfl, rfl⟩, hv⟩ := hr
  simp only [am_i1] at hi
  cases hi
  exact am_r_bipush C hd hv k
theorem am_o_sipush (C : am_C p R m c cc nL (am_own cn) s args D meth yn ad) {n : Int} (hini : ini = true → yn = "<init>") (hr : am_rl cn nL ini (.sipush n) a len = true) (hd : decode cc pc = .ok (.sipush n, len)) (hi : am_i1 sc a lv st h = some (lv', st', h')) (hrm : am_rm R n0 z0 h') (k : am_W sc p l e R s m args below meth c D b ad nL n0 z0 Q (pc + len) lv' st' h') : am_W sc p l e R s m args below meth c D b ad nL n0 z0 Q pc lv st h := by
  simp only [am_rl, Bool.and_eq_true, decide_eq_true_eq] at hr
  obtain ⟨⟨rfl, rfl⟩, hv⟩ := hr
  simp only [am_i1] at hi
  cases hi
  exact am_r_sipush C hd hv k
theorem am_o_lconst (C : am_C p R m c cc nL (am_own cn) s args D meth yn ad) {n : Fin 2} (hini : ini = true → yn = "<init>") (hr : am_rl cn nL ini (.lconst n) a len = true) (hd : decode cc pc = .ok (.lconst n, len)) (hi : am_i1 sc a lv st h = some (lv', st', h')) (hrm : am_rm R n0 z0 h') (k : am_W sc p l e R s m args below meth c D b ad nL n0 z0 Q (pc + len) lv' st' h') : am_W sc p l e R s m args below meth c D b ad nL n0 z0 Q pc lv st h := by
  simp only [am_rl] at hr
  split at hr
  · rename_i z
    simp only [Bool.and_eq_true, decide_eq_true_eq] at hr
    obtain ⟨rfl, hv⟩ := hr
    simp only [am_i1] at hi
    cases hi
    exact am_r_lconst C hd hv k
  · cases hr
theorem am_o_ldc (C : am_C p R m c cc nL (am_own cn) s args D meth yn ad) {i : Nat} (hini : ini = true → yn = "<init>") (hr : am_rl cn nL ini (.ldc i) a len = true) (hd : decode cc pc = .ok (.ldc i, len)) (hi : am_i1 sc a lv st h = some (lv', st', h')) (hrm : am_rm R n0 z0 h') (k : am_W sc p l e R s m args below meth c D b ad nL n0 z0 Q (pc + len) lv' st' h') : am_W sc p l e R s m args below meth c D b ad nL n0 z0 Q pc lv st h := by
  simp only [am_rl] at hr
  split at hr
  · rename_i n
    simp only [am_cI, Bool.and_eq_true, decide_eq_true_eq] at hr
    obtain ⟨rfl, he, hv⟩ := hr
    have hw := am_en5 he
    rw [hv] at hw
    simp only [am_i1] at hi
    cases hi
    exact am_r_ldc C hw hd k
  · rename_i n
    simp only [Bool.and_eq_true, decide_eq_true_eq] at hr
    obtain ⟨rfl, he⟩ := hr
    obtain ⟨tx, hw⟩ := am_en13 he
    simp only [am_i1] at hi
    cases hi
    exact am_r_ldcS C hw hd k
  · cases hr
theorem am_o_ldc_w (C : am_C p R m c cc nL (am_own cn) s args D meth yn ad) {i : Nat} (hini : ini = true → yn = "<init>") (hr : am_rl cn nL ini (.ldc_w i) a len = true) (hd : decode cc pc = .ok (.ldc_w i, len)) (hi : am_i1 sc a lv st h = some (lv', st', h')) (hrm : am_rm R n0 z0 h') (k : am_W sc p l e R s m args below meth c D b ad nL n0 z0 Q (pc + len) lv' st' h') : am_W sc p l e R s m args below meth c D b ad nL n0 z0 Q pc lv st h := by
  simp only [am_rl] at hr
  split at hr
  · rename_i n
    simp only [am_cI, Bool.and_eq_true, decide_eq_true_eq] at hr
    obtain ⟨rfl, he, hv⟩ := hr
    have hw := am_en5 he
    rw [hv] at hw
    simp only [am_i1] at hi
    cases hi
    exact am_r_ldcw C hw hd k
  · rename_i n
    simp only [Bool.and_eq_true, decide_eq_true_eq] at hr
    obtain ⟨rfl, he⟩ := hr
    obtain ⟨tx, hw⟩ := am_en13 he
    simp only [am_i1] at hi
    cases hi
    exact am_r_ldcWS C hw hd k
  · cases hr
theorem am_o_ldc2_w (C : am_C p R m c cc nL (am_own cn) s args D meth yn ad) {i : Nat} (hini : ini = true → yn = "<init>") (hr : am_rl cn nL ini (.ldc2_w i) a len = true) (hd : decode cc pc = .ok (.ldc2_w i, len)) (hi : am_i1 sc a lv st h = some (lv', st', h')) (hrm : am_rm R n0 z0 h') (k : am_W sc p l e R s m args below meth c D b ad nL n0 z0 Q (pc + len) lv' st' h') : am_W sc p l e R s m args below meth c D b ad nL n0 z0 Q pc lv st h := by
  simp only [am_rl] at hr
  split at hr
  · rename_i n
    simp only [am_cJ, Bool.and_eq_true, decide_eq_true_eq] at hr
    obtain ⟨rfl, he, hv⟩ := hr
    have hw := am_en6 he
    rw [hv] at hw
    simp only [am_i1] at hi
    cases hi
    exact am_r_ldc2 C hw hd k
  · cases hr
theorem am_o_iload (C : am_C p R m c cc nL (am_own cn) s args D meth yn ad) {i : Nat} (hini : ini = true → yn = "<init>") (hr : am_rl cn nL ini (.iload i) a len = true) (hd : decode cc pc = .ok (.iload i, len)) (hi : am_i1 sc a lv st h = some (lv', st', h')) (hrm : am_rm R n0 z0 h') (k : am_W sc p l e R s m args below meth c D b ad nL n0 z0 Q (pc + len) lv' st' h') : am_W sc p l e R s m args below meth c D b ad nL n0 z0 Q pc lv st h := by
  simp only [am_rl, Bool.and_eq_true, decide_eq_true_eq] at hr
  obtain ⟨rfl, rfl⟩ := hr
  simp only [am_i1] at hi
  split at hi
  · rename_i x hl
    cases hi
    exact am_r_iload C hl hd k
  · cases hi
theorem am_o_iload_n (C : am_C p R m c cc nL (am_own cn) s args D meth yn ad) {i : Fin 4} (hini : ini = true → yn = "<init>") (hr : am_rl cn nL ini (.iload_n i) a len = true) (hd : decode cc pc = .ok (.iload_n i, len)) (hi : am_i1 sc a lv st h = some (lv', st', h')) (hrm : am_rm R n0 z0 h') (k : am_W sc p l e R s m args below meth c D b ad nL n0 z0 Q (pc + len) lv' st' h') : am_W sc p l e R s m args below meth c D b ad nL n0 z0 Q pc lv st h := by
  simp only [am_rl, Bool.and_eq_true, decide_eq_true_eq] at hr
  obtain ⟨rfl, rfl⟩ := hr
  simp only [am_i1] at hi
  split at hi
  · rename_i x hl
    cases hi
    exact am_r_iload_n C hl hd k
  · cases hi
theorem am_o_istore (C : am_C p R m c cc nL (am_own cn) s args D meth yn ad) {i : Nat} (hini : ini = true → yn = "<init>") (hr : am_rl cn nL ini (.istore i) a len = true) (hd : decode cc pc = .ok (.istore i, len)) (hi : am_i1 sc a lv st h = some (lv', st', h')) (hrm : am_rm R n0 z0 h') (k : am_W sc p l e R s m args below meth c D b ad nL n0 z0 Q (pc + len) lv' st' h') : am_W sc p l e R s m args below meth c D b ad nL n0 z0 Q pc lv st h := by
  simp only [am_rl, Bool.and_eq_true, decide_eq_true_eq] at hr
  obtain ⟨⟨rfl, rfl⟩, hn⟩ := hr
  simp only [am_i1] at hi
  split at hi
  · cases hi
    exact am_r_istore C hn hd k
  · cases hi
theorem am_o_istore_n (C : am_C p R m c cc nL (am_own cn) s args D meth yn ad) {i : Fin 4} (hini : ini = true → yn = "<init>") (hr : am_rl cn nL ini (.istore_n i) a len = true) (hd : decode cc pc = .ok (.istore_n i, len)) (hi : am_i1 sc a lv st h = some (lv', st', h')) (hrm : am_rm R n0 z0 h') (k : am_W sc p l e R s m args below meth c D b ad nL n0 z0 Q (pc + len) lv' st' h') : am_W sc p l e R s m args below meth c D b ad nL n0 z0 Q pc lv st h := by
  simp only [am_rl, Bool.and_eq_true, decide_eq_true_eq] at hr
  obtain ⟨⟨rfl, rfl⟩, hn⟩ := hr
  simp only [am_i1] at hi
  split at hi
  · cases hi
    exact am_r_istore_n C hn hd k
  · cases hi
theorem am_o_lload (C : am_C p R m c cc nL (am_own cn) s args D meth yn ad) {i : Nat} (hini : ini = true → yn = "<init>") (hr : am_rl cn nL ini (.lload i) a len = true) (hd : decode cc pc = .ok (.lload i, len)) (hi : am_i1 sc a lv st h = some (lv', st', h')) (hrm : am_rm R n0 z0 h') (k : am_W sc p l e R s m args below meth c D b ad nL n0 z0 Q (pc + len) lv' st' h') : am_W sc p l e R s m args below meth c D b ad nL n0 z0 Q pc lv st h := by
  simp only [am_rl, Bool.and_eq_true, decide_eq_true_eq] at hr
  obtain ⟨rfl, rfl⟩ := hr
  simp only [am_i1] at hi
  split at hi
  · rename_i x hl
    cases hi
    exact am_r_lload C hl hd k
  · cases hi
theorem am_o_lload_n (C : am_C p R m c cc nL (am_own cn) s args D meth yn ad) {i : Fin 4} (hini : ini = true → yn = "<init>") (hr : am_rl cn nL ini (.lload_n i) a len = true) (hd : decode cc pc = .ok (.lload_n i, len)) (hi : am_i1 sc a lv st h = some (lv', st', h')) (hrm : am_rm R n0 z0 h') (k : am_W sc p l e R s m args below meth c D b ad nL n0 z0 Q (pc + len) lv' st' h') : am_W sc p l e R s m args below meth c D b ad nL n0 z0 Q pc lv st h := by
  simp only [am_rl, Bool.and_eq_true, decide_eq_true_eq] at hr
  obtain ⟨rfl, rfl⟩ := hr
  simp only [am_i1] at hi
  split at hi
  · rename_i x hl
    cases hi
    exact am_r_lload_n C hl hd k
  · cases hi
theorem am_o_lstore (C : am_C p R m c cc nL (am_own cn) s args D meth yn ad) {i : Nat} (hini : ini = true → yn = "<init>") (hr : am_rl cn nL ini (.lstore i) a len = true) (hd : decode cc pc = .ok (.lstore i, len)) (hi : am_i1 sc a lv st h = some (lv', st', h')) (hrm : am_rm R n0 z0 h') (k : am_W sc p l e R s m args below meth c D b ad nL n0 z0 Q (pc + len) lv' st' h') : am_W sc p l e R s m args below meth c D b ad nL n0 z0 Q pc lv st h := by
  simp only [am_rl, Bool.and_eq_true, decide_eq_true_eq] at hr
  obtain ⟨⟨rfl, rfl⟩, hn⟩ := hr
  simp only [am_i1] at hi
  split at hi
  · cases hi
    exact am_r_lstore C hn hd k
  · cases hi
theorem am_o_lstore_n (C : am_C p R m c cc nL (am_own cn) s args D meth yn ad) {i : Fin 4} (hini : ini = true → yn = "<init>") (hr : am_rl cn nL ini (.lstore_n i) a len = true) (hd : decode cc pc = .ok (.lstore_n i, len)) (hi : am_i1 sc a lv st h = some (lv', st', h')) (hrm : am_rm R n0 z0 h') (k : am_W sc p l e R s m args below meth c D b ad nL n0 z0 Q (pc + len) lv' st' h') : am_W sc p l e R s m args below meth c D b ad nL n0 z0 Q pc lv st h := by
  simp only [am_rl, Bool.and_eq_true, decide_eq_true_eq] at hr
  obtain ⟨⟨rfl, rfl⟩, hn⟩ := hr
  simp only [am_i1] at hi
  split at hi
  · cases hi
    exact am_r_lstore_n C hn hd k
  · cases hi
theorem am_o_aload (C : am_C p R m c cc nL (am_own cn) s args D meth yn ad) {i : Nat} (hini : ini = true → yn = "<init>") (hr : am_rl cn nL ini (.aload i) a len = true) (hd : decode cc pc = .ok (.aload i, len)) (hi : am_i1 sc a lv st h = some (lv', st', h')) (hrm : am_rm R n0 z0 h') (k : am_W sc p l e R s m args below meth c D b ad nL n0 z0 Q (pc + len) lv' st' h') : am_W sc p l e R s m args below meth c D b ad nL n0 z0 Q pc lv st h := by
  simp only [am_rl, Bool.and_eq_true, decide_eq_true_eq] at hr
  obtain ⟨rfl, rfl⟩ := hr
  simp only [am_i1] at hi
  split at hi
  · rename_i v hl
    split at hi
    · rename_i hv
      cases hi
      exact am_r_aload C hl (am_isR_spec hv) hd k
    · cases hi
  · cases hi
theorem am_o_aload_n (C : am_C p R m c cc nL (am_own cn) s args D meth yn ad) {i : Fin 4} (hini : ini = true → yn = "<init>") (hr : am_rl cn nL ini (.aload_n i) a len = true) (hd : decode cc pc = .ok (.aload_n i, len)) (hi : am_i1 sc a lv st h = some (lv', st', h')) (hrm : am_rm R n0 z0 h') (k : am_W sc p l e R s m args below meth c D b ad nL n0 z0 Q (pc + len) lv' st' h') : am_W sc p l e R s m args below meth c D b ad nL n0 z0 Q pc lv st h := by
  simp only [am_rl, Bool.and_eq_true, decide_eq_true_eq] at hr
  obtain ⟨rfl, rfl⟩ := hr
  simp only [am_i1] at hi
  split at hi
  · rename_i v hl
    split at hi
    · rename_i hv
      cases hi
      exact am_r_aload_n C hl (am_isR_spec hv) hd k
    · cases hi
  · cases hi
theorem am_o_astore (C : am_C p R m c cc nL (am_own cn) s args D meth yn ad) {i : Nat} (hini : ini = true → yn = "<init>") (hr : am_rl cn nL ini (.astore i) a len = true) (hd : decode cc pc = .ok (.astore i, len)) (hi : am_i1 sc a lv st h = some (lv', st', h')) (hrm : am_rm R n0 z0 h') (k : am_W sc p l e R s m args below meth c D b ad nL n0 z0 Q (pc + len) lv' st' h') : am_W sc p l e R s m args below meth c D b ad nL n0 z0 Q pc lv st h := by
  simp only [am_rl, Bool.and_eq_true, decide_eq_true_eq] at hr
  obtain ⟨⟨rfl, rfl⟩, hn⟩ := hr
  simp only [am_i1] at hi
  split at hi
  · split at hi
    · rename_i hv
      cases hi
      exact am_r_astore C (am_isR_spec hv) hn hd k
    · cases hi
  · cases hi
theorem am_o_astore_n (C : am_C p R m c cc nL (am_own cn) s args D meth yn ad) {i : Fin 4} (hini : ini = true → yn = "<init>") (hr : am_rl cn nL ini (.astore_n i) a len = true) (hd : decode cc pc = .ok (.astore_n i, len)) (hi : am_i1 sc a lv st h = some (lv', st', h')) (hrm : am_rm R n0 z0 h') (k : am_W sc p l e R s m args below meth c D b ad nL n0 z0 Q (pc + len) lv' st' h') : am_W sc p l e R s m args below meth c D b ad nL n0 z0 Q pc lv st h := by
  simp only [am_rl, Bool.and_eq_true, decide_eq_true_eq] at hr
  obtain ⟨⟨rfl, rfl⟩, hn⟩ := hr
  simp only [am_i1] at hi
  split at hi
  · split at hi
    · rename_i hv
      cases hi
      exact am_r_astore_n C (am_isR_spec hv) hn hd k
    · cases hi
  · cases hi
theorem am_o_iinc (C : am_C p R m c cc nL (am_own cn) s args D meth yn ad) {i : Nat} {n : Int} (hini : ini = true → yn = "<init>") (hr : am_rl cn nL ini (.iinc i n) a len = true) (hd : decode cc pc = .ok (.iinc i n, len)) (hi : am_i1 sc a lv st h = some (lv', st', h')) (hrm : am_rm R n0 z0 h') (k : am_W sc p l e R s m args below meth c D b ad nL n0 z0 Q (pc + len) lv' st' h') : am_W sc p l e R s m args below meth c D b ad nL n0 z0 Q pc lv st h := by
  simp only [am_rl, Bool.and_eq_true, decide_eq_true_eq] at hr
  obtain ⟨⟨rfl, rfl⟩, hn⟩ := hr
  simp only [am_i1] at hi
  split at hi
  · rename_i x hl
    cases hi
    exact am_r_iinc C hl hn hd k
  · cases hi
theorem am_o_getfield (C : am_C p R m c cc nL (am_own cn) s args D meth yn ad) {i : Nat} (hini : ini = true → yn = "<init>") (hr : am_rl cn nL ini (.getfield i) a len = true) (hd : decode cc pc = .ok (.getfield i, len)) (hi : am_i1 sc a lv st h = some (lv', st', h')) (hrm : am_rm R n0 z0 h') (k : am_W sc p l e R s m args below meth c D b ad nL n0 z0 Q (pc + len) lv' st' h') : am_W sc p l e R s m args below meth c D b ad nL n0 z0 Q pc lv st h := by
  simp only [am_rl] at hr
  split at hr
  · rename_i f
    simp only [Bool.and_eq_true, Bool.or_eq_true, decide_eq_true_eq] at hr
    obtain ⟨rfl, he⟩ := hr
    simp only [am_i1] at hi
    obtain ⟨e1, rfl, rfl⟩ := am_st_spec hi
    unfold am_get at e1
    split at e1
    · rename_i x r
      split at e1
      · rename_i hk
        cases e1
        obtain ⟨hf, hx⟩ := hk
        rcases he with ((he | he) | he) | he
        · obtain ⟨C0, T, N, g1, g2, g3, g4⟩ := am_en1 he
          omega
        · obtain ⟨C0, T, N, g1, g2, g3, host, g4⟩ := am_en2 he
          omega
        · obtain ⟨rfl, he⟩ := he
          omega
        · have hw := am_en16 he.2
          have hX : ∀ H : Heap, am_R sc s D b ad h' H → _ := fun H z => z.2.2.2.2.2.2.2.2.2 x hx
          by_cases hf0 : f = 0
          · subst hf0
            exact am_r_getX (v := .retAddr (3000 + x)) C (fun H z => (hX H z).2.2.1) hw hd k
          · have hf1 : f = 1 := by omega
            subst hf1
            exact am_r_getX (v := .int 0) C (fun H z => (hX H z).2.1) hw hd k
      · cases e1
    · rename_i x r
      split at e1
      · rename_i ob ho
        split at e1
        · rename_i hk
          split at e1
          · rename_i v hv
            cases e1
            obtain ⟨o1, o2⟩ := ob
            simp only at hk hv
            obtain ⟨hk3, hk⟩ := hk
            subst hk
            rcases he with ((he | he) | he) | he
            · obtain ⟨C0, T, N, g1, g2, g3, g4⟩ := am_en1 he
              exact am_r_get C (am_cls_of g1 g2) g3 (Or.inl g4) (Or.inl rfl) ho hv hd k
            · obtain ⟨C0, T, N, g1, g2, g3, host, g4⟩ := am_en2 he
              exact am_r_get C (am_cls_of g1 g2) g3 (Or.inr ⟨host, g4⟩) (Or.inl rfl) ho hv hd k
            · obtain ⟨rfl, he⟩ := he
              exact am_r_get (kf := 0) (ref := "java/util/ArrayList") C am_cls3 (by decide) (Or.inl (am_en14 he)) (Or.inr am_same) ho hv hd k
            · omega
          · cases e1
        · cases e1
      · cases e1
    · cases e1
  · cases hr
theorem am_o_putfield (C : am_C p R m c cc nL (am_own cn) s args D meth yn ad) {i : Nat} (hini : ini = true → yn = "<init>") (hr : am_rl cn nL ini (.putfield i) a len = true) (hd : decode cc pc = .ok (.putfield i, len)) (hi : am_i1 sc a lv st h = some (lv', st', h')) (hrm : am_rm R n0 z0 h') (k : am_W sc p l e R s m args below meth c D b ad nL n0 z0 Q (pc + len) lv' st' h') : am_W sc p l e R s m args below meth c D b ad nL n0 z0 Q pc lv st h := by
  simp only [am_rl] at hr
  split at hr
  · rename_i f
    simp only [Bool.and_eq_true, Bool.or_eq_true, decide_eq_true_eq, Bool.not_eq_true'] at hr
    obtain ⟨rfl, he⟩ := hr
    simp only [am_i1] at hi
    obtain ⟨e1, rfl⟩ := am_sh_spec hi
    unfold am_put at e1
    split at e1
    · rename_i v x r
      split at e1
      · rename_i ob ho
        split at e1
        · rename_i hk
          cases e1
          obtain ⟨o1, o2⟩ := ob
          simp only at hk
          obtain ⟨rfl, hk2, hk3⟩ := hk
          rcases he with (⟨hf, he | he⟩ | he) | ⟨⟨⟨hf, hin⟩, he⟩, hdc⟩
          · obtain ⟨C0, T, N, g1, g2, g3, g4⟩ := am_en1 he
            have hf2 : (T (f % 128)).2.2.2 = false := by simpa [am_fin, g1] using hf
            exact am_r_put C (am_cls_of g1 g2) g3 (Or.inl ⟨hf2, Or.inl g4⟩) (Or.inl rfl) ho hk2 hk3 hd k
          · obtain ⟨C0, T, N, g1, g2, g3, host, g4⟩ := am_en2 he
            have hf2 : (T (f % 128)).2.2.2 = false := by simpa [am_fin, g1] using hf
            exact am_r_put C (am_cls_of g1 g2) g3 (Or.inl ⟨hf2, Or.inr ⟨host, g4⟩⟩) (Or.inl rfl) ho hk2 hk3 hd k
          · obtain ⟨rfl, he⟩ := he
            exact am_r_put (kf := 0) (ref := "java/util/ArrayList") C am_cls3 (by decide) (Or.inl ⟨rfl, Or.inl (am_en14 he)⟩) (Or.inr am_same) ho hk2 hk3 hd k
          · obtain ⟨C0, T, N, g1, g2, g3, g4⟩ := am_en1 he
            have hf2 : (T (f % 128)).2.2.2 = true := by simpa [am_fin, g1] using hf
            have hd2 : (T (f % 128)).1 = am_own cn := by simpa [am_dec, g1] using hdc
            exact am_r_put C (am_cls_of g1 g2) g3 (Or.inr ⟨hf2, hini hin, hd2, rfl, g4⟩) (Or.inl rfl) ho hk2 hk3 hd k
        · cases e1
      · cases e1
    · cases e1
  · cases hr
theorem am_o_iaload (C : am_C p R m c cc nL (am_own cn) s args D meth yn ad)  (hini : ini = true → yn = "<init>") (hr : am_rl cn nL ini (.iaload) a len = true) (hd : decode cc pc = .ok (.iaload, len)) (hi : am_i1 sc a lv st h = some (lv', st', h')) (hrm : am_rm R n0 z0 h') (k : am_W sc p l e R s m args below meth c D b ad nL n0 z0 Q (pc + len) lv' st' h') : am_W sc p l e R s m args below meth c D b ad nL n0 z0 Q pc lv st h := by
  simp only [am_rl, Bool.and_eq_true, decide_eq_true_eq] at hr
  obtain ⟨rfl, rfl⟩ := hr
  simp only [am_i1] at hi
  split at hi
  · obtain ⟨e1, rfl, rfl⟩ := am_st_spec hi
    unfold am_scr at e1
    split at e1
    · rename_i he
      split at e1
      · rename_i j hj
        cases e1
        cases he
        exact am_r_scld C hj hd k
      · cases e1
    · cases e1
  · obtain ⟨e1, rfl, rfl⟩ := am_st_spec hi
    unfold am_gld at e1
    split at e1
    · split at e1
      · rename_i ob ho
        split at e1
        · rename_i hk
          split at e1
          · rename_i j hj
            split at e1
            · rename_i v hv
              cases e1
              obtain ⟨o1, o2⟩ := ob
              simp only [beq_iff_eq] at hk
              subst hk
              exact am_r_iald C ho hj hv hd k
            · cases e1
          · cases e1
        · cases e1
      · cases e1
    · cases e1
theorem am_o_laload (C : am_C p R m c cc nL (am_own cn) s args D meth yn ad)  (hini : ini = true → yn = "<init>") (hr : am_rl cn nL ini (.laload) a len = true) (hd : decode cc pc = .ok (.laload, len)) (hi : am_i1 sc a lv st h = some (lv', st', h')) (hrm : am_rm R n0 z0 h') (k : am_W sc p l e R s m args below meth c D b ad nL n0 z0 Q (pc + len) lv' st' h') : am_W sc p l e R s m args below meth c D b ad nL n0 z0 Q pc lv st h := by
  simp only [am_rl, Bool.and_eq_true, decide_eq_true_eq] at hr
  obtain ⟨rfl, rfl⟩ := hr
  simp only [am_i1] at hi
  obtain ⟨e1, rfl, rfl⟩ := am_st_spec hi
  unfold am_gld at e1
  split at e1
  · split at e1
    · rename_i ob ho
      split at e1
      · rename_i hk
        split at e1
        · rename_i j hj
          split at e1
          · rename_i v hv
            cases e1
            obtain ⟨o1, o2⟩ := ob
            simp only [beq_iff_eq] at hk
            subst hk
            exact am_r_lald C ho hj hv hd k
          · cases e1
        · cases e1
      · cases e1
    · cases e1
  · cases e1
theorem am_o_baload (C : am_C p R m c cc nL (am_own cn) s args D meth yn ad)  (hini : ini = true → yn = "<init>") (hr : am_rl cn nL ini (.baload) a len = true) (hd : decode cc pc = .ok (.baload, len)) (hi : am_i1 sc a lv st h = some (lv', st', h')) (hrm : am_rm R n0 z0 h') (k : am_W sc p l e R s m args below meth c D b ad nL n0 z0 Q (pc + len) lv' st' h') : am_W sc p l e R s m args below meth c D b ad nL n0 z0 Q pc lv st h := by
  simp only [am_rl, Bool.and_eq_true, decide_eq_true_eq] at hr
  obtain ⟨rfl, rfl⟩ := hr
  simp only [am_i1] at hi
  split at hi
  · rename_i i t r
    obtain ⟨e1, rfl, rfl⟩ := am_st_spec hi
    simp only [am_xb] at e1
    by_cases ht : 3000 ≤ t ∧ t < 3000 + am_txt.length
    · rw [if_pos ht] at e1
      split at e1
      · rename_i j hj
        · cases e1
          have hX : ∀ H : Heap, am_R sc s D b ad h' H → _ := fun H z => (z.2.2.2.2.2.2.2.2.2 (t - 3000) (by omega)).2.2.2
          rw [show 3000 + (t - 3000) = t by omega] at hX
          exact am_r_xbld C hX hj rfl hd k
      · cases e1
    · rw [if_neg ht] at e1
      cases e1
  · obtain ⟨e1, rfl, rfl⟩ := am_st_spec hi
    unfold am_gld at e1
    split at e1
    · split at e1
      · rename_i ob ho
        split at e1
        · rename_i hk
          split at e1
          · rename_i j hj
            split at e1
            · rename_i v hv
              cases e1
              obtain ⟨o1, o2⟩ := ob
              simp only [beq_iff_eq] at hk
              subst hk
              exact am_r_zald C ho hj hv hd k
            · cases e1
          · cases e1
        · cases e1
      · cases e1
    · cases e1
theorem am_o_aaload (C : am_C p R m c cc nL (am_own cn) s args D meth yn ad)  (hini : ini = true → yn = "<init>") (hr : am_rl cn nL ini (.aaload) a len = true) (hd : decode cc pc = .ok (.aaload, len)) (hi : am_i1 sc a lv st h = some (lv', st', h')) (hrm : am_rm R n0 z0 h') (k : am_W sc p l e R s m args below meth c D b ad nL n0 z0 Q (pc + len) lv' st' h') : am_W sc p l e R s m args below meth c D b ad nL n0 z0 Q pc lv st h := by
  simp only [am_rl, Bool.and_eq_true, decide_eq_true_eq] at hr
  obtain ⟨rfl, rfl⟩ := hr
  simp only [am_i1] at hi
  obtain ⟨e1, rfl, rfl⟩ := am_st_spec hi
  unfold am_gld at e1
  split at e1
  · split at e1
    · rename_i ob ho
      split at e1
      · rename_i hk
        split at e1
        · rename_i j hj
          split at e1
          · rename_i v hv
            cases e1
            obtain ⟨o1, o2⟩ := ob
            simp only [Bool.and_eq_true, decide_eq_true_eq] at hk
            exact am_r_aald C hk ho hj hv hd k
          · cases e1
        · cases e1
      · cases e1
    · cases e1
  · cases e1
theorem am_o_arraylength (C : am_C p R m c cc nL (am_own cn) s args D meth yn ad)  (hini : ini = true → yn = "<init>") (hr : am_rl cn nL ini (.arraylength) a len = true) (hd : decode cc pc = .ok (.arraylength, len)) (hi : am_i1 sc a lv st h = some (lv', st', h')) (hrm : am_rm R n0 z0 h') (k : am_W sc p l e R s m args below meth c D b ad nL n0 z0 Q (pc + len) lv' st' h') : am_W sc p l e R s m args below meth c D b ad nL n0 z0 Q pc lv st h := by
  simp only [am_rl, Bool.and_eq_true, decide_eq_true_eq] at hr
  obtain ⟨rfl, rfl⟩ := hr
  simp only [am_i1] at hi
  obtain ⟨e1, rfl, rfl⟩ := am_st_spec hi
  unfold am_alen at e1
  split at e1
  · rename_i i r
    by_cases h1 : i = 2000
    · rw [if_pos h1] at e1
      cases e1
      subst h1
      exact am_r_sclen C hd k
    · rw [if_neg h1] at e1
      by_cases h2 : i = 1000
      · rw [if_pos h2] at e1
        cases e1
        subst h2
        exact am_r_xlen (n := 0) C (fun H z => z.2.2.2.2.2.2.1) hd k
      · rw [if_neg h2] at e1
        by_cases h3 : 3000 ≤ i ∧ i < 3000 + am_txt.length
        · rw [if_pos h3] at e1
          cases e1
          have hX : ∀ H : Heap, am_R sc s D b ad h' H → _ := fun H z => (z.2.2.2.2.2.2.2.2.2 (i - 3000) (by omega)).2.2.2
          rw [show 3000 + (i - 3000) = i by omega] at hX
          exact am_r_xlen C hX hd k
        · rw [if_neg h3] at e1
          cases e1
  · split at e1
    · rename_i ob ho
      split at e1
      · rename_i hk
        cases e1
        obtain ⟨o1, o2⟩ := ob
        exact am_r_alen C hk ho hd k
      · cases e1
    · cases e1
  · cases e1
theorem am_o_iastore (C : am_C p R m c cc nL (am_own cn) s args D meth yn ad)  (hini : ini = true → yn = "<init>") (hr : am_rl cn nL ini (.iastore) a len = true) (hd : decode cc pc = .ok (.iastore, len)) (hi : am_i1 sc a lv st h = some (lv', st', h')) (hrm : am_rm R n0 z0 h') (k : am_W sc p l e R s m args below meth c D b ad nL n0 z0 Q (pc + len) lv' st' h') : am_W sc p l e R s m args below meth c D b ad nL n0 z0 Q pc lv st h := by
  simp only [am_rl, Bool.and_eq_true, decide_eq_true_eq] at hr
  obtain ⟨rfl, rfl⟩ := hr
  simp only [am_i1] at hi
  obtain ⟨e1, rfl⟩ := am_sh_spec hi
  unfold am_gst at e1
  split at e1
  · split at e1
    · rename_i ob ho
      split at e1
      · rename_i hk
        split at e1
        · rename_i j hj
          cases e1
          obtain ⟨o1, o2⟩ := ob
          unfold am_kI at hk
          simp only at hk
          split at hk
          · simp only [beq_iff_eq] at hk
            subst hk
            exact am_r_iast C ho hj hd k
          · cases hk
        · cases e1
      · cases e1
    · cases e1
  · cases e1
theorem am_o_lastore (C : am_C p R m c cc nL (am_own cn) s args D meth yn ad)  (hini : ini = true → yn = "<init>") (hr : am_rl cn nL ini (.lastore) a len = true) (hd : decode cc pc = .ok (.lastore, len)) (hi : am_i1 sc a lv st h = some (lv', st', h')) (hrm : am_rm R n0 z0 h') (k : am_W sc p l e R s m args below meth c D b ad nL n0 z0 Q (pc + len) lv' st' h') : am_W sc p l e R s m args below meth c D b ad nL n0 z0 Q pc lv st h := by
  simp only [am_rl, Bool.and_eq_true, decide_eq_true_eq] at hr
  obtain ⟨rfl, rfl⟩ := hr
  simp only [am_i1] at hi
  obtain ⟨e1, rfl⟩ := am_sh_spec hi
  unfold am_gst at e1
  split at e1
  · split at e1
    · rename_i ob ho
      split at e1
      · rename_i hk
        split at e1
        · rename_i j hj
          cases e1
          obtain ⟨o1, o2⟩ := ob
          unfold am_kJ at hk
          simp only at hk
          split at hk
          · simp only [beq_iff_eq] at hk
            subst hk
            exact am_r_last C ho hj hd k
          · cases hk
        · cases e1
      · cases e1
    · cases e1
  · cases e1
theorem am_o_bastore (C : am_C p R m c cc nL (am_own cn) s args D meth yn ad)  (hini : ini = true → yn = "<init>") (hr : am_rl cn nL ini (.bastore) a len = true) (hd : decode cc pc = .ok (.bastore, len)) (hi : am_i1 sc a lv st h = some (lv', st', h')) (hrm : am_rm R n0 z0 h') (k : am_W sc p l e R s m args below meth c D b ad nL n0 z0 Q (pc + len) lv' st' h') : am_W sc p l e R s m args below meth c D b ad nL n0 z0 Q pc lv st h := by
  simp only [am_rl, Bool.and_eq_true, decide_eq_true_eq] at hr
  obtain ⟨rfl, rfl⟩ := hr
  simp only [am_i1] at hi
  obtain ⟨e1, rfl⟩ := am_sh_spec hi
  unfold am_gst at e1
  split at e1
  · split at e1
    · rename_i ob ho
      split at e1
      · rename_i hk
        split at e1
        · rename_i j hj
          cases e1
          obtain ⟨o1, o2⟩ := ob
          unfold am_kZ at hk
          simp only at hk
          split at hk
          · simp only [Bool.and_eq_true, Bool.or_eq_true, beq_iff_eq] at hk
            obtain ⟨rfl, hx⟩ := hk
            exact am_r_zast C hx ho hj hd k
          · cases hk
        · cases e1
      · cases e1
    · cases e1
  · cases e1
theorem am_o_aastore (C : am_C p R m c cc nL (am_own cn) s args D meth yn ad)  (hini : ini = true → yn = "<init>") (hr : am_rl cn nL ini (.aastore) a len = true) (hd : decode cc pc = .ok (.aastore, len)) (hi : am_i1 sc a lv st h = some (lv', st', h')) (hrm : am_rm R n0 z0 h') (k : am_W sc p l e R s m args below meth c D b ad nL n0 z0 Q (pc + len) lv' st' h') : am_W sc p l e R s m args below meth c D b ad nL n0 z0 Q pc lv st h := by
  simp only [am_rl, Bool.and_eq_true, decide_eq_true_eq] at hr
  obtain ⟨rfl, rfl⟩ := hr
  simp only [am_i1] at hi
  obtain ⟨e1, rfl⟩ := am_sh_spec hi
  unfold am_gst at e1
  split at e1
  · split at e1
    · rename_i ob ho
      split at e1
      · rename_i hk
        split at e1
        · rename_i j hj
          cases e1
          obtain ⟨o1, o2⟩ := ob
          unfold am_kA at hk
          simp only at hk
          split at hk
          · simp only [Bool.and_eq_true, decide_eq_true_eq] at hk
            exact am_r_aastN C hk ho hj hd k
          · split at hk
            · rename_i ox hx
              simp only [Bool.and_eq_true, Bool.or_eq_true, decide_eq_true_eq, beq_iff_eq] at hk
              obtain ⟨x1, x2⟩ := ox
              rcases hk with ⟨hk1, rfl | ⟨rfl, hk2⟩⟩
              · exact am_r_aastR C hk1 ho hx hj hd k
              · refine am_r_aastO C hk1 ?_ ho hx hj hd k
                simp only at hk2
                rcases hk2 with rfl | rfl | rfl
                · show (am_clN 4, _) ∈ am_cst; decide
                · show (am_clN 5, _) ∈ am_cst; decide
                · show (am_clN 7, _) ∈ am_cst; decide
            · cases hk
          · cases hk
        · cases e1
      · cases e1
    · cases e1
  · cases e1
theorem am_o_new (C : am_C p R m c cc nL (am_own cn) s args D meth yn ad) {i : Nat} (hini : ini = true → yn = "<init>") (hr : am_rl cn nL ini (.new i) a len = true) (hd : decode cc pc = .ok (.new i, len)) (hi : am_i1 sc a lv st h = some (lv', st', h')) (hrm : am_rm R n0 z0 h') (k : am_W sc p l e R s m args below meth c D b ad nL n0 z0 Q (pc + len) lv' st' h') : am_W sc p l e R s m args below meth c D b ad nL n0 z0 Q pc lv st h := by
  simp only [am_rl] at hr
  split at hr
  · rename_i ci
    simp only [Bool.and_eq_true, decide_eq_true_eq] at hr
    obtain ⟨rfl, he⟩ := hr
    simp only [am_i1] at hi
    cases hi
    obtain ⟨C0, T, N, g1, g2, g3⟩ := am_en3 he
    obtain ⟨d1, d2⟩ := am_df_ok g1 g2
    obtain ⟨w2, w3⟩ := am_ini g1 g2
    exact am_r_new C (am_cls_of g1 g2) g3 w2 w3 d1 d2 hrm hd k
  · cases hr
theorem am_o_newarray (C : am_C p R m c cc nL (am_own cn) s args D meth yn ad) {t : ArrayType} (hini : ini = true → yn = "<init>") (hr : am_rl cn nL ini (.newarray t) a len = true) (hd : decode cc pc = .ok (.newarray t, len)) (hi : am_i1 sc a lv st h = some (lv', st', h')) (hrm : am_rm R n0 z0 h') (k : am_W sc p l e R s m args below meth c D b ad nL n0 z0 Q (pc + len) lv' st' h') : am_W sc p l e R s m args below meth c D b ad nL n0 z0 Q pc lv st h := by
  simp only [am_rl, Bool.and_eq_true, decide_eq_true_eq] at hr
  obtain ⟨rfl, rfl⟩ := hr
  simp only [am_i1] at hi
  split at hi
  · obtain ⟨e1, rfl⟩ := am_sh_spec hi
    unfold am_mka at e1
    split at e1
    · split at e1
      · rename_i hk
        cases e1
        exact am_r_newa (at0 := .int) C ⟨by decide, by decide⟩ rfl rfl rfl (fun t ht => by cases ht) (fun _ => Iff.rfl) (by decide) am_w_int hk.1 hk.2 hrm hd k
      · cases e1
    · cases e1
  · obtain ⟨e1, rfl⟩ := am_sh_spec hi
    unfold am_mka at e1
    split at e1
    · split at e1
      · rename_i hk
        cases e1
        exact am_r_newa (at0 := .long) C ⟨by decide, by decide⟩ rfl rfl rfl (fun t ht => by cases ht) (fun _ => Iff.rfl) (by decide) am_w_long hk.1 hk.2 hrm hd k
      · cases e1
    · cases e1
  · obtain ⟨e1, rfl⟩ := am_sh_spec hi
    unfold am_mka at e1
    split at e1
    · split at e1
      · rename_i hk
        cases e1
        exact am_r_newa (at0 := .boolean) C ⟨by decide, by decide⟩ rfl rfl rfl (fun t ht => by cases ht) (fun _ => Iff.rfl) (by decide) am_w_boolean hk.1 hk.2 hrm hd k
      · cases e1
    · cases e1
  · cases hi
theorem am_o_anewarray (C : am_C p R m c cc nL (am_own cn) s args D meth yn ad) {i : Nat} (hini : ini = true → yn = "<init>") (hr : am_rl cn nL ini (.anewarray i) a len = true) (hd : decode cc pc = .ok (.anewarray i, len)) (hi : am_i1 sc a lv st h = some (lv', st', h')) (hrm : am_rm R n0 z0 h') (k : am_W sc p l e R s m args below meth c D b ad nL n0 z0 Q (pc + len) lv' st' h') : am_W sc p l e R s m args below meth c D b ad nL n0 z0 Q pc lv st h := by
  simp only [am_rl] at hr
  split at hr
  · rename_i ki
    simp only [Bool.and_eq_true, Bool.or_eq_true, decide_eq_true_eq] at hr
    obtain ⟨rfl, he⟩ := hr
    simp only [am_i1] at hi
    obtain ⟨e1, rfl⟩ := am_sh_spec hi
    unfold am_mka at e1
    split at e1
    · split at e1
      · rename_i hk
        cases e1
        rcases he with (⟨rfl, he⟩ | ⟨rfl, he⟩) | ⟨⟨h2, ha⟩, he⟩
        · rcases am_en4 he with ⟨-, w⟩ | ⟨q, -⟩
          · exact am_r_anewA C w am_w_AI hk.1 hk.2 hrm hd k
          · cases q
        · rcases am_en4 he with ⟨q, -⟩ | ⟨-, w⟩
          · cases q
          · exact am_r_anew C ⟨by decide, by decide⟩ rfl w (by decide) hk.1 hk.2 hrm hd k
        · obtain ⟨C0, T, N, g1, g2, g3⟩ := am_en3 he
          obtain ⟨a1, a2, C1, a3, a4⟩ := am_ao_ok ha
          have hC : C1 = C0 := by
            have a5 : am_kty ki = .object (am_clN (ki - 200)) := by
              unfold am_kty
              rw [if_neg (by omega), if_neg (by omega), if_neg (by omega), if_neg (by omega), if_neg (by omega)]
            rw [a5] at a3
            unfold am_clN at a3
            rw [g1] at a3
            exact (FieldType.object.inj a3).symm
          subst hC
          exact am_r_anew C ⟨by omega, a2⟩ a3 g3 a4 hk.1 hk.2 hrm hd k
      · cases e1
    · cases e1
  · cases hr
theorem am_o_checkcast (C : am_C p R m c cc nL (am_own cn) s args D meth yn ad) {i : Nat} (hini : ini = true → yn = "<init>") (hr : am_rl cn nL ini (.checkcast i) a len = true) (hd : decode cc pc = .ok (.checkcast i, len)) (hi : am_i1 sc a lv st h = some (lv', st', h')) (hrm : am_rm R n0 z0 h') (k : am_W sc p l e R s m args below meth c D b ad nL n0 z0 Q (pc + len) lv' st' h') : am_W sc p l e R s m args below meth c D b ad nL n0 z0 Q pc lv st h := by
  simp only [am_rl] at hr
  split at hr
  · rename_i ci
    simp only [Bool.and_eq_true, decide_eq_true_eq] at hr
    obtain ⟨rfl, he⟩ := hr
    simp only [am_i1] at hi
    obtain ⟨C0, T, N, g1, g2, g3⟩ := am_en3 he
    split at hi
    · cases hi
      exact am_r_castN C hd k
    · split at hi
      · rename_i ob ho
        split at hi
        · rename_i hk
          cases hi
          obtain ⟨o1, o2⟩ := ob
          simp only at hk
          subst hk
          exact am_r_cast C (am_cls_of g1 g2).1 g1 g3 ho hd k
        · cases hi
      · cases hi
    · cases hi
  · cases hr
theorem am_o_invokespecial (C : am_C p R m c cc nL (am_own cn) s args D meth yn ad) {i : Nat} (hini : ini = true → yn = "<init>") (hr : am_rl cn nL ini (.invokespecial i) a len = true) (hd : decode cc pc = .ok (.invokespecial i, len)) (hi : am_i1 sc a lv st h = some (lv', st', h')) (hrm : am_rm R n0 z0 h') (k : am_W sc p l e R s m args below meth c D b ad nL n0 z0 Q (pc + len) lv' st' h') : am_W sc p l e R s m args below meth c D b ad nL n0 z0 Q pc lv st h := by
  simp only [am_rl] at hr
  split at hr
  · simp only [Bool.and_eq_true, decide_eq_true_eq] at hr
    obtain ⟨rfl, he⟩ := hr
    simp only [am_i1] at hi
    split at hi
    · split at hi
      · rename_i hk
        cases hi
        exact am_r_objI C (am_en9 he) am_w_oi am_w_oc hk hd k
      · cases hi
    · cases hi
  · cases hr
theorem am_o_invokestatic (C : am_C p R m c cc nL (am_own cn) s args D meth yn ad) {i : Nat} (hini : ini = true → yn = "<init>") (hr : am_rl cn nL ini (.invokestatic i) a len = true) (hd : decode cc pc = .ok (.invokestatic i, len)) (hi : am_i1 sc a lv st h = some (lv', st', h')) (hrm : am_rm R n0 z0 h') (k : am_W sc p l e R s m args below meth c D b ad nL n0 z0 Q (pc + len) lv' st' h') : am_W sc p l e R s m args below meth c D b ad nL n0 z0 Q pc lv st h := by
  simp only [am_rl] at hr
  split at hr
  · simp only [Bool.and_eq_true, Bool.or_eq_true, decide_eq_true_eq] at hr
    obtain ⟨rfl, he⟩ := hr
    simp only [am_i1] at hi
    split at hi
    · split at hi
      · rename_i hk
        cases hi
        rcases he with ⟨rfl, he⟩ | ⟨rfl, he⟩
        · exact am_r_mmin C (am_en10 he) am_w_mins am_w_math am_w_minc hrm hk hd k
        · exact am_r_mmax C (am_en11 he) am_w_maxs am_w_math am_w_maxc hrm hk hd k
      · cases hi
    · cases hi
  · cases hr
theorem am_o_dconst (C : am_C p R m c cc nL (am_own cn) s args D meth yn ad) {n : Fin 2} (hini : ini = true → yn = "<init>") (hr : am_rl cn nL ini (.dconst n) a len = true) (hd : decode cc pc = .ok (.dconst n, len)) (hi : am_i1 sc a lv st h = some (lv', st', h')) (hrm : am_rm R n0 z0 h') (k : am_W sc p l e R s m args below meth c D b ad nL n0 z0 Q (pc + len) lv' st' h') : am_W sc p l e R s m args below meth c D b ad nL n0 z0 Q pc lv st h := by
  simp only [am_rl, Bool.and_eq_true, decide_eq_true_eq] at hr
  obtain ⟨⟨rfl, rfl⟩, rfl⟩ := hr
  simp only [am_i1] at hi
  split at hi
  · cases hi
    exact am_r_dconst0 C hd k
  · cases hi
theorem am_o_fconst (C : am_C p R m c cc nL (am_own cn) s args D meth yn ad) {n : Fin 3} (hini : ini = true → yn = "<init>") (hr : am_rl cn nL ini (.fconst n) a len = true) (hd : decode cc pc = .ok (.fconst n, len)) (hi : am_i1 sc a lv st h = some (lv', st', h')) (hrm : am_rm R n0 z0 h') (k : am_W sc p l e R s m args below meth c D b ad nL n0 z0 Q (pc + len) lv' st' h') : am_W sc p l e R s m args below meth c D b ad nL n0 z0 Q pc lv st h := by
  simp only [am_rl, Bool.and_eq_true, decide_eq_true_eq] at hr
  obtain ⟨⟨rfl, rfl⟩, rfl⟩ := hr
  simp only [am_i1] at hi
  split at hi
  · cases hi
    exact am_r_fconst0 C hd k
  · cases hi
theorem am_o_i2d (C : am_C p R m c cc nL (am_own cn) s args D meth yn ad)  (hini : ini = true → yn = "<init>") (hr : am_rl cn nL ini (.i2d) a len = true) (hd : decode cc pc = .ok (.i2d, len)) (hi : am_i1 sc a lv st h = some (lv', st', h')) (hrm : am_rm R n0 z0 h') (k : am_W sc p l e R s m args below meth c D b ad nL n0 z0 Q (pc + len) lv' st' h') : am_W sc p l e R s m args below meth c D b ad nL n0 z0 Q pc lv st h := by
  simp only [am_rl, Bool.and_eq_true, decide_eq_true_eq] at hr
  obtain ⟨rfl, rfl⟩ := hr
  simp only [am_i1] at hi
  split at hi
  · cases hi
    exact am_r_i2d C hd k
  · cases hi
theorem am_o_i2f (C : am_C p R m c cc nL (am_own cn) s args D meth yn ad)  (hini : ini = true → yn = "<init>") (hr : am_rl cn nL ini (.i2f) a len = true) (hd : decode cc pc = .ok (.i2f, len)) (hi : am_i1 sc a lv st h = some (lv', st', h')) (hrm : am_rm R n0 z0 h') (k : am_W sc p l e R s m args below meth c D b ad nL n0 z0 Q (pc + len) lv' st' h') : am_W sc p l e R s m args below meth c D b ad nL n0 z0 Q pc lv st h := by
  simp only [am_rl, Bool.and_eq_true, decide_eq_true_eq] at hr
  obtain ⟨rfl, rfl⟩ := hr
  simp only [am_i1] at hi
  split at hi
  · cases hi
    exact am_r_i2f C hd k
  · cases hi
theorem am_o_l2d (C : am_C p R m c cc nL (am_own cn) s args D meth yn ad)  (hini : ini = true → yn = "<init>") (hr : am_rl cn nL ini (.l2d) a len = true) (hd : decode cc pc = .ok (.l2d, len)) (hi : am_i1 sc a lv st h = some (lv', st', h')) (hrm : am_rm R n0 z0 h') (k : am_W sc p l e R s m args below meth c D b ad nL n0 z0 Q (pc + len) lv' st' h') : am_W sc p l e R s m args below meth c D b ad nL n0 z0 Q pc lv st h := by
  simp only [am_rl, Bool.and_eq_true, decide_eq_true_eq] at hr
  obtain ⟨rfl, rfl⟩ := hr
  simp only [am_i1] at hi
  split at hi
  · cases hi
    exact am_r_l2d C hd k
  · cases hi
theorem am_o_f2d (C : am_C p R m c cc nL (am_own cn) s args D meth yn ad)  (hini : ini = true → yn = "<init>") (hr : am_rl cn nL ini (.f2d) a len = true) (hd : decode cc pc = .ok (.f2d, len)) (hi : am_i1 sc a lv st h = some (lv', st', h')) (hrm : am_rm R n0 z0 h') (k : am_W sc p l e R s m args below meth c D b ad nL n0 z0 Q (pc + len) lv' st' h') : am_W sc p l e R s m args below meth c D b ad nL n0 z0 Q pc lv st h := by
  simp only [am_rl, Bool.and_eq_true, decide_eq_true_eq] at hr
  obtain ⟨rfl, rfl⟩ := hr
  simp only [am_i1] at hi
  split at hi
  · split at hi
    · rename_i hn
      cases hi
      exact am_r_f2d C hn hd k
    · cases hi
  · cases hi
theorem am_o_ddiv (C : am_C p R m c cc nL (am_own cn) s args D meth yn ad)  (hini : ini = true → yn = "<init>") (hr : am_rl cn nL ini (.ddiv) a len = true) (hd : decode cc pc = .ok (.ddiv, len)) (hi : am_i1 sc a lv st h = some (lv', st', h')) (hrm : am_rm R n0 z0 h') (k : am_W sc p l e R s m args below meth c D b ad nL n0 z0 Q (pc + len) lv' st' h') : am_W sc p l e R s m args below meth c D b ad nL n0 z0 Q pc lv st h := by
  simp only [am_rl, Bool.and_eq_true, decide_eq_true_eq] at hr
  obtain ⟨rfl, rfl⟩ := hr
  simp only [am_i1] at hi
  split at hi
  · split at hi
    · rename_i hn
      cases hi
      exact am_r_ddiv C hn hd k
    · cases hi
  · cases hi
theorem am_o_fdiv (C : am_C p R m c cc nL (am_own cn) s args D meth yn ad)  (hini : ini = true → yn = "<init>") (hr : am_rl cn nL ini (.fdiv) a len = true) (hd : decode cc pc = .ok (.fdiv, len)) (hi : am_i1 sc a lv st h = some (lv', st', h')) (hrm : am_rm R n0 z0 h') (k : am_W sc p l e R s m args below meth c D b ad nL n0 z0 Q (pc + len) lv' st' h') : am_W sc p l e R s m args below meth c D b ad nL n0 z0 Q pc lv st h := by
  simp only [am_rl, Bool.and_eq_true, decide_eq_true_eq] at hr
  obtain ⟨rfl, rfl⟩ := hr
  simp only [am_i1] at hi
  split at hi
  · split at hi
    · rename_i hn
      cases hi
      exact am_r_fdiv C hn hd k
    · cases hi
  · cases hi
theorem am_o_dcmp (C : am_C p R m c cc nL (am_own cn) s args D meth yn ad) {op : CmpOp} (hini : ini = true → yn = "<init>") (hr : am_rl cn nL ini (.dcmp op) a len = true) (hd : decode cc pc = .ok (.dcmp op, len)) (hi : am_i1 sc a lv st h = some (lv', st', h')) (hrm : am_rm R n0 z0 h') (k : am_W sc p l e R s m args below meth c D b ad nL n0 z0 Q (pc + len) lv' st' h') : am_W sc p l e R s m args below meth c D b ad nL n0 z0 Q pc lv st h := by
  simp only [am_rl, Bool.and_eq_true, decide_eq_true_eq] at hr
  obtain ⟨rfl, rfl⟩ := hr
  simp only [am_i1] at hi
  split at hi
  · cases hi
    exact am_r_dcmp C hd k
  · cases hi
theorem am_o_dload (C : am_C p R m c cc nL (am_own cn) s args D meth yn ad) {i : Nat} (hini : ini = true → yn = "<init>") (hr : am_rl cn nL ini (.dload i) a len = true) (hd : decode cc pc = .ok (.dload i, len)) (hi : am_i1 sc a lv st h = some (lv', st', h')) (hrm : am_rm R n0 z0 h') (k : am_W sc p l e R s m args below meth c D b ad nL n0 z0 Q (pc + len) lv' st' h') : am_W sc p l e R s m args below meth c D b ad nL n0 z0 Q pc lv st h := by
  simp only [am_rl, Bool.and_eq_true, decide_eq_true_eq] at hr
  obtain ⟨rfl, rfl⟩ := hr
  simp only [am_i1] at hi
  split at hi
  · rename_i x hl
    cases hi
    exact am_r_dload C hl hd k
  · cases hi
theorem am_o_dload_n (C : am_C p R m c cc nL (am_own cn) s args D meth yn ad) {i : Fin 4} (hini : ini = true → yn = "<init>") (hr : am_rl cn nL ini (.dload_n i) a len = true) (hd : decode cc pc = .ok (.dload_n i, len)) (hi : am_i1 sc a lv st h = some (lv', st', h')) (hrm : am_rm R n0 z0 h') (k : am_W sc p l e R s m args below meth c D b ad nL n0 z0 Q (pc + len) lv' st' h') : am_W sc p l e R s m args below meth c D b ad nL n0 z0 Q pc lv st h := by
  simp only [am_rl, Bool.and_eq_true, decide_eq_true_eq] at hr
  obtain ⟨rfl, rfl⟩ := hr
  simp only [am_i1] at hi
  split at hi
  · rename_i x hl
    cases hi
    exact am_r_dload_n C hl hd k
  · cases hi
theorem am_o_dstore (C : am_C p R m c cc nL (am_own cn) s args D meth yn ad) {i : Nat} (hini : ini = true → yn = "<init>") (hr : am_rl cn nL ini (.dstore i) a len = true) (hd : decode cc pc = .ok (.dstore i, len)) (hi : am_i1 sc a lv st h = some (lv', st', h')) (hrm : am_rm R n0 z0 h') (k : am_W sc p l e R s m args below meth c D b ad nL n0 z0 Q (pc + len) lv' st' h') : am_W sc p l e R s m args below meth c D b ad nL n0 z0 Q pc lv st h := by
  simp only [am_rl, Bool.and_eq_true, decide_eq_true_eq] at hr
  obtain ⟨⟨rfl, rfl⟩, hn⟩ := hr
  simp only [am_i1] at hi
  split at hi
  · cases hi
    exact am_r_dstore C hn hd k
  · cases hi
theorem am_o_dstore_n (C : am_C p R m c cc nL (am_own cn) s args D meth yn ad) {i : Fin 4} (hini : ini = true → yn = "<init>") (hr : am_rl cn nL ini (.dstore_n i) a len = true) (hd : decode cc pc = .ok (.dstore_n i, len)) (hi : am_i1 sc a lv st h = some (lv', st', h')) (hrm : am_rm R n0 z0 h') (k : am_W sc p l e R s m args below meth c D b ad nL n0 z0 Q (pc + len) lv' st' h') : am_W sc p l e R s m args below meth c D b ad nL n0 z0 Q pc lv st h := by
  simp only [am_rl, Bool.and_eq_true, decide_eq_true_eq] at hr
  obtain ⟨⟨rfl, rfl⟩, hn⟩ := hr
  simp only [am_i1] at hi
  split at hi
  · cases hi
    exact am_r_dstore_n C hn hd k
  · cases hi
theorem am_o_getstatic (C : am_C p R m c cc nL (am_own cn) s args D meth yn ad) {i : Nat} (hini : ini = true → yn = "<init>") (hr : am_rl cn nL ini (.getstatic i) a len = true) (hd : decode cc pc = .ok (.getstatic i, len)) (hi : am_i1 sc a lv st h = some (lv', st', h')) (hrm : am_rm R n0 z0 h') (k : am_W sc p l e R s m args below meth c D b ad nL n0 z0 Q (pc + len) lv' st' h') : am_W sc p l e R s m args below meth c D b ad nL n0 z0 Q pc lv st h := by
  simp only [am_rl] at hr
  split at hr
  · rename_i q
    simp only [Bool.and_eq_true, decide_eq_true_eq] at hr
    obtain ⟨⟨rfl, hq⟩, he⟩ := hr
    have hw := am_en15 he
    simp only [am_i1] at hi
    by_cases h0 : q = 0
    · rw [if_pos h0] at hi
      cases hi
      subst h0
      exact am_r_gets (v := .int 1) C (fun H z => z.2.2.2.2.1) hw hd k
    · rw [if_neg h0] at hi
      have h1 : q = 1 := by omega
      rw [if_pos h1] at hi
      cases hi
      subst h1
      exact am_r_gets (v := .retAddr 1000) C (fun H z => z.2.2.2.2.2.1) hw hd k
  · cases hr
theorem am_o_i2c (C : am_C p R m c cc nL (am_own cn) s args D meth yn ad)  (hini : ini = true → yn = "<init>") (hr : am_rl cn nL ini (.i2c) a len = true) (hd : decode cc pc = .ok (.i2c, len)) (hi : am_i1 sc a lv st h = some (lv', st', h')) (hrm : am_rm R n0 z0 h') (k : am_W sc p l e R s m args below meth c D b ad nL n0 z0 Q (pc + len) lv' st' h') : am_W sc p l e R s m args below meth c D b ad nL n0 z0 Q pc lv st h := by
  simp only [am_rl, Bool.and_eq_true, decide_eq_true_eq] at hr
  obtain ⟨rfl, rfl⟩ := hr
  simp only [am_i1] at hi
  split at hi
  · cases hi
    exact am_r_i2c C hd k
  · cases hi
theorem am_one (C : am_C p R m c cc nL (am_own cn) s args D meth yn ad) {ci : Instr} (hini : ini = true → yn = "<init>") (hr : am_rl cn nL ini ci a len = true) (hd : decode cc pc = .ok (ci, len)) (hi : am_i1 sc a lv st h = some (lv', st', h')) (hrm : am_rm R n0 z0 h') (k : am_W sc p l e R s m args below meth c D b ad nL n0 z0 Q (pc + len) lv' st' h') : am_W sc p l e R s m args below meth c D b ad nL n0 z0 Q pc lv st h := by
  cases ci with
  | iadd => exact am_o_iadd C hini hr hd hi hrm k
  | getstatic i => exact am_o_getstatic C hini hr hd hi hrm k
  | i2c => exact am_o_i2c C hini hr hd hi hrm k
  | isub => exact am_o_isub C hini hr hd hi hrm k
  | imul => exact am_o_imul C hini hr hd hi hrm k
  | iand => exact am_o_iand C hini hr hd hi hrm k
  | ior => exact am_o_ior C hini hr hd hi hrm k
  | ixor => exact am_o_ixor C hini hr hd hi hrm k
  | ishl => exact am_o_ishl C hini hr hd hi hrm k
  | ishr => exact am_o_ishr C hini hr hd hi hrm k
  | iushr => exact am_o_iushr C hini hr hd hi hrm k
  | ladd => exact am_o_ladd C hini hr hd hi hrm k
  | lsub => exact am_o_lsub C hini hr hd hi hrm k
  | lmul => exact am_o_lmul C hini hr hd hi hrm k
  | land => exact am_o_land C hini hr hd hi hrm k
  | lor => exact am_o_lor C hini hr hd hi hrm k
  | lcmp => exact am_o_lcmp C hini hr hd hi hrm k
  | lshl => exact am_o_lshl C hini hr hd hi hrm k
  | lushr => exact am_o_lushr C hini hr hd hi hrm k
  | idiv => exact am_o_idiv C hini hr hd hi hrm k
  | irem => exact am_o_irem C hini hr hd hi hrm k
  | ineg => exact am_o_ineg C hini hr hd hi hrm k
  | i2l => exact am_o_i2l C hini hr hd hi hrm k
  | l2i => exact am_o_l2i C hini hr hd hi hrm k
  | dup => exact am_o_dup C hini hr hd hi hrm k
  | pop => exact am_o_pop C hini hr hd hi hrm k
  | dup_x1 => exact am_o_dup_x1 C hini hr hd hi hrm k
  | dup2 => exact am_o_dup2 C hini hr hd hi hrm k
  | iaload => exact am_o_iaload C hini hr hd hi hrm k
  | laload => exact am_o_laload C hini hr hd hi hrm k
  | baload => exact am_o_baload C hini hr hd hi hrm k
  | aaload => exact am_o_aaload C hini hr hd hi hrm k
  | arraylength => exact am_o_arraylength C hini hr hd hi hrm k
  | iastore => exact am_o_iastore C hini hr hd hi hrm k
  | lastore => exact am_o_lastore C hini hr hd hi hrm k
  | bastore => exact am_o_bastore C hini hr hd hi hrm k
  | aastore => exact am_o_aastore C hini hr hd hi hrm k
  | aconst_null => exact am_o_null C hini hr hd hi hrm k
  | iconst _ => exact am_o_iconst C hini hr hd hi hrm k
  | bipush _ => exact am_o_bipush C hini hr hd hi hrm k
  | sipush _ => exact am_o_sipush C hini hr hd hi hrm k
  | lconst _ => exact am_o_lconst C hini hr hd hi hrm k
  | ldc _ => exact am_o_ldc C hini hr hd hi hrm k
  | ldc_w _ => exact am_o_ldc_w C hini hr hd hi hrm k
  | ldc2_w _ => exact am_o_ldc2_w C hini hr hd hi hrm k
  | iload _ => exact am_o_iload C hini hr hd hi hrm k
  | iload_n _ => exact am_o_iload_n C hini hr hd hi hrm k
  | lload _ => exact am_o_lload C hini hr hd hi hrm k
  | lload_n _ => exact am_o_lload_n C hini hr hd hi hrm k
  | istore _ => exact am_o_istore C hini hr hd hi hrm k
  | istore_n _ => exact am_o_istore_n C hini hr hd hi hrm k
  | lstore _ => exact am_o_lstore C hini hr hd hi hrm k
  | lstore_n _ => exact am_o_lstore_n C hini hr hd hi hrm k
  | aload _ => exact am_o_aload C hini hr hd hi hrm k
  | aload_n _ => exact am_o_aload_n C hini hr hd hi hrm k
  | astore _ => exact am_o_astore C hini hr hd hi hrm k
  | astore_n _ => exact am_o_astore_n C hini hr hd hi hrm k
  | getfield _ => exact am_o_getfield C hini hr hd hi hrm k
  | putfield _ => exact am_o_putfield C hini hr hd hi hrm k
  | new _ => exact am_o_new C hini hr hd hi hrm k
  | newarray _ => exact am_o_newarray C hini hr hd hi hrm k
  | anewarray _ => exact am_o_anewarray C hini hr hd hi hrm k
  | checkcast _ => exact am_o_checkcast C hini hr hd hi hrm k
  | invokespecial _ => exact am_o_invokespecial C hini hr hd hi hrm k
  | invokestatic _ => exact am_o_invokestatic C hini hr hd hi hrm k
  | iinc _ _ => exact am_o_iinc C hini hr hd hi hrm k
  | dconst _ => exact am_o_dconst C hini hr hd hi hrm k
  | fconst _ => exact am_o_fconst C hini hr hd hi hrm k
  | i2d => exact am_o_i2d C hini hr hd hi hrm k
  | i2f => exact am_o_i2f C hini hr hd hi hrm k
  | l2d => exact am_o_l2d C hini hr hd hi hrm k
  | f2d => exact am_o_f2d C hini hr hd hi hrm k
  | ddiv => exact am_o_ddiv C hini hr hd hi hrm k
  | fdiv => exact am_o_fdiv C hini hr hd hi hrm k
  | dcmp _ => exact am_o_dcmp C hini hr hd hi hrm k
  | dload _ => exact am_o_dload C hini hr hd hi hrm k
  | dload_n _ => exact am_o_dload_n C hini hr hd hi hrm k
  | dstore _ => exact am_o_dstore C hini hr hd hi hrm k
  | dstore_n _ => exact am_o_dstore_n C hini hr hd hi hrm k
  | _ => exact absurd hr Bool.false_ne_true
end AMO
