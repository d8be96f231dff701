/-! WHICH instruction of the machine an abstract one stands for, and that the machine does what the abstract one says -/
def am_fin (f : Nat) : Bool := match vwCl[f / 128]? with
  | some r => (r.2.1 (f % 128)).2.2.2
  | none => true
def am_dec (f : Nat) : String := match vwCl[f / 128]? with
  | some r => (r.2.1 (f % 128)).1
  | none => ""
def am_aok (k : Nat) : Bool := decide (104 ≤ k) && decide (k ≠ 199) && decide (am_kty k ∈ am_aot)
def am_cI (cn i : Nat) (n : Int) : Bool := am_en cn i 5 (n % 4294967296).toNat && decide (Int32.ofNat (n % 4294967296).toNat = Int32.ofInt n)
def am_cJ (cn i : Nat) (n : Int) : Bool := am_en cn i 6 (n % 18446744073709551616).toNat && decide (Int64.ofNat (n % 18446744073709551616).toNat = Int64.ofInt n)
def am_rl (cn nL : Nat) (ini : Bool) (c a : Instr) (len : Nat) : Bool :=
  match c with
  | .iadd => decide (a = .iadd) && decide (len = 1)
  | .isub => decide (a = .isub) && decide (len = 1)
  | .imul => decide (a = .imul) && decide (len = 1)
  | .iand => decide (a = .iand) && decide (len = 1)
  | .ior => decide (a = .ior) && decide (len = 1)
  | .ixor => decide (a = .ixor) && decide (len = 1)
  | .ishl => decide (a = .ishl) && decide (len = 1)
  | .ishr => decide (a = .ishr) && decide (len = 1)
  | .iushr => decide (a = .iushr) && decide (len = 1)
  | .ladd => decide (a = .ladd) && decide (len = 1)
  | .lsub => decide (a = .lsub) && decide (len = 1)
  | .lmul => decide (a = .lmul) && decide (len = 1)
  | .land => decide (a = .land) && decide (len = 1)
  | .lor => decide (a = .lor) && decide (len = 1)
  | .lcmp => decide (a = .lcmp) && decide (len = 1)
  | .lshl => decide (a = .lshl) && decide (len = 1)
  | .lushr => decide (a = .lushr) && decide (len = 1)
  | .idiv => decide (a = .idiv) && decide (len = 1)
  | .irem => decide (a = .irem) && decide (len = 1)
  | .ineg => decide (a = .ineg) && decide (len = 1)
  | .i2l => decide (a = .i2l) && decide (len = 1)
  | .l2i => decide (a = .l2i) && decide (len = 1)
  | .dup => decide (a = .dup) && decide (len = 1)
  | .pop => decide (a = .pop) && decide (len = 1)
  | .dup_x1 => decide (a = .dup_x1) && decide (len = 1)
  | .dup2 => decide (a = .dup2) && decide (len = 1)
  | .iaload => decide (a = .iaload) && decide (len = 1)
  | .laload => decide (a = .laload) && decide (len = 1)
  | .baload => decide (a = .baload) && decide (len = 1)
  | .aaload => decide (a = .aaload) && decide (len = 1)
  | .arraylength => decide (a = .arraylength) && decide (len = 1)
  | .iastore => decide (a = .iastore) && decide (len = 1)
  | .lastore => decide (a = .lastore) && decide (len = 1)
  | .bastore => decide (a = .bastore) && decide (len = 1)
  | .aastore => decide (a = .aastore) && decide (len = 1)
  | .aconst_null => decide (a = .aconst_null) && decide (len = 1)
  | .iconst n => decide (a = .iconst n) && decide (len = 1)
  | .bipush n => decide (a = .iconst n) && decide (len = 2) && decide ((Int8.ofInt n).toInt32 = Int32.ofInt n)
  | .sipush n => decide (a = .iconst n) && decide (len = 3) && decide ((Int16.ofInt n).toInt32 = Int32.ofInt n)
  | .lconst n => match a with
    | .jsr_w z => decide (len = 1) && decide (Int64.ofNat (n : Nat) = Int64.ofInt z)
    | _ => false
  | .ldc i => match a with
    | .iconst n => decide (len = 2) && am_cI cn i n
    | .ldc k => decide (len = 2) && am_en cn i 13 k
    | _ => false
  | .ldc_w i => match a with
    | .iconst n => decide (len = 3) && am_cI cn i n
    | .ldc k => decide (len = 3) && am_en cn i 13 k
    | _ => false
  | .ldc2_w i => match a with
    | .jsr_w n => decide (len = 3) && am_cJ cn i n
    | _ => false
  | .iload i => decide (a = .iload i) && decide (len = 2)
  | .iload_n i => decide (a = .iload i) && decide (len = 1)
  | .istore i => decide (a = .istore i) && decide (len = 2) && decide (i < nL)
  | .istore_n i => decide (a = .istore i) && decide (len = 1) && decide ((i : Nat) < nL)
  | .lload i => decide (a = .lload i) && decide (len = 2)
  | .lload_n i => decide (a = .lload i) && decide (len = 1)
  | .lstore i => decide (a = .lstore i) && decide (len = 2) && decide (i + 1 < nL)
  | .lstore_n i => decide (a = .lstore i) && decide (len = 1) && decide ((i : Nat) + 1 < nL)
  | .aload i => decide (a = .aload i) && decide (len = 2)
  | .aload_n i => decide (a = .aload i) && decide (len = 1)
  | .astore i => decide (a = .astore i) && decide (len = 2) && decide (i < nL)
  | .astore_n i => decide (a = .astore i) && decide (len = 1) && decide ((i : Nat) < nL)
  | .iinc i n => decide (a = .iinc i n) && decide (len = 3) && decide (i < nL)
  | .getfield i => match a with
    | .getfield f => decide (len = 3) && (am_en cn i 1 f || am_en cn i 2 f)
    | _ => false
  | .putfield i => match a with
    | .putfield f => decide (len = 3) && ((!am_fin f && (am_en cn i 1 f || am_en cn i 2 f)) || (am_fin f && ini && am_en cn i 1 f && decide (am_dec f = am_own cn)))
    | _ => false
  | .new i => match a with
    | .new ci => decide (len = 3) && am_en cn i 3 ci
    | _ => false
  | .newarray t => decide (a = .newarray t) && decide (len = 2)
  | .anewarray i => match a with
    | .anewarray k => decide (len = 3) && ((decide (k = 103) && am_en cn i 4 103) || (decide (k = 104) && am_en cn i 4 104) || (decide (200 ≤ k) && am_aok k && am_en cn i 3 (k - 200)))
    | _ => false
  | .checkcast i => match a with
    | .checkcast ci => decide (len = 3) && am_en cn i 3 ci
    | _ => false
  | .invokespecial i => match a with
    | .invokedynamic k => decide (len = 3) && am_en cn i 9 k
    | _ => false
  | .invokestatic i => match a with
    | .jsr k => decide (len = 3) && ((decide (k = 0) && am_en cn i 10 0) || (decide (k = 1) && am_en cn i 11 0))
    | _ => false
  | _ => false
section AMO
variable {p : Program} {l : Launch} {e : Env} {R : Room} {s : State} {m : MethodId} {args : Array Value} {below : List Frame} {meth : Method} {c : Code} {Q : State → Prop}
variable {cc : ByteArray} {nL n0 z0 pc b cn len : Nat} {yn : String} {ini : Bool} {ad : Nat → Nat} {D : va_G} {lv lv' : am_V} {st st' : List Value} {h h' : am_H} {a : Instr}
theorem am_o_iadd (C : am_C p R m c cc nL (am_own cn) s args D meth yn ad)  (hini : ini = true → yn = "<init>") (hr : am_rl cn nL ini (.iadd) a len = true) (hd : decode cc pc = .ok (.iadd, len)) (hi : am_i1 a lv st h = some (lv', st', h')) (hrm : am_rm R n0 z0 h') (k : am_W p l e R s m args below meth c D b ad nL n0 z0 Q (pc + len) lv' st' h') : am_W p l e R s m args below meth c D b ad nL n0 z0 Q pc lv st h := by
  simp only [am_rl, Bool.and_eq_true, decide_eq_true_eq] at hr
  obtain ⟨rfl, rfl⟩ := hr
  simp only [am_i1] at hi
  obtain ⟨e1, rfl, rfl⟩ := am_st_spec hi
  obtain ⟨x, y, r, rfl, rfl⟩ := am_pi_spec e1
  exact am_r_iadd C hd k
theorem am_o_isub (C : am_C p R m c cc nL (am_own cn) s args D meth yn ad)  (hini : ini = true → yn = "<init>") (hr : am_rl cn nL ini (.isub) a len = true) (hd : decode cc pc = .ok (.isub, len)) (hi : am_i1 a lv st h = some (lv', st', h')) (hrm : am_rm R n0 z0 h') (k : am_W p l e R s m args below meth c D b ad nL n0 z0 Q (pc + len) lv' st' h') : am_W p l e R s m args below meth c D b ad nL n0 z0 Q pc lv st h := by
  simp only [am_rl, Bool.and_eq_true, decide_eq_true_eq] at hr
  obtain ⟨rfl, rfl⟩ := hr
  simp only [am_i1] at hi
  obtain ⟨e1, rfl, rfl⟩ := am_st_spec hi
  obtain ⟨x, y, r, rfl, rfl⟩ := am_pi_spec e1
  exact am_r_isub C hd k
theorem am_o_imul (C : am_C p R m c cc nL (am_own cn) s args D meth yn ad)  (hini : ini = true → yn = "<init>") (hr : am_rl cn nL ini (.imul) a len = true) (hd : decode cc pc = .ok (.imul, len)) (hi : am_i1 a lv st h = some (lv', st', h')) (hrm : am_rm R n0 z0 h') (k : am_W p l e R s m args below meth c D b ad nL n0 z0 Q (pc + len) lv' st' h') : am_W p l e R s m args below meth c D b ad nL n0 z0 Q pc lv st h := by
  simp only [am_rl, Bool.and_eq_true, decide_eq_true_eq] at hr
  obtain ⟨rfl, rfl⟩ := hr
  simp only [am_i1] at hi
  obtain ⟨e1, rfl, rfl⟩ := am_st_spec hi
  obtain ⟨x, y, r, rfl, rfl⟩ := am_pi_spec e1
  exact am_r_imul C hd k
theorem am_o_iand (C : am_C p R m c cc nL (am_own cn) s args D meth yn ad)  (hini : ini = true → yn = "<init>") (hr : am_rl cn nL ini (.iand) a len = true) (hd : decode cc pc = .ok (.iand, len)) (hi : am_i1 a lv st h = some (lv', st', h')) (hrm : am_rm R n0 z0 h') (k : am_W p l e R s m args below meth c D b ad nL n0 z0 Q (pc + len) lv' st' h') : am_W p l e R s m args below meth c D b ad nL n0 z0 Q pc lv st h := by
  simp only [am_rl, Bool.and_eq_true, decide_eq_true_eq] at hr
  obtain ⟨rfl, rfl⟩ := hr
  simp only [am_i1] at hi
  obtain ⟨e1, rfl, rfl⟩ := am_st_spec hi
  obtain ⟨x, y, r, rfl, rfl⟩ := am_pi_spec e1
  exact am_r_iand C hd k
theorem am_o_ior (C : am_C p R m c cc nL (am_own cn) s args D meth yn ad)  (hini : ini = true → yn = "<init>") (hr : am_rl cn nL ini (.ior) a len = true) (hd : decode cc pc = .ok (.ior, len)) (hi : am_i1 a lv st h = some (lv', st', h')) (hrm : am_rm R n0 z0 h') (k : am_W p l e R s m args below meth c D b ad nL n0 z0 Q (pc + len) lv' st' h') : am_W p l e R s m args below meth c D b ad nL n0 z0 Q pc lv st h := by
  simp only [am_rl, Bool.and_eq_true, decide_eq_true_eq] at hr
  obtain ⟨rfl, rfl⟩ := hr
  simp only [am_i1] at hi
  obtain ⟨e1, rfl, rfl⟩ := am_st_spec hi
  obtain ⟨x, y, r, rfl, rfl⟩ := am_pi_spec e1
  exact am_r_ior C hd k
theorem am_o_ixor (C : am_C p R m c cc nL (am_own cn) s args D meth yn ad)  (hini : ini = true → yn = "<init>") (hr : am_rl cn nL ini (.ixor) a len = true) (hd : decode cc pc = .ok (.ixor, len)) (hi : am_i1 a lv st h = some (lv', st', h')) (hrm : am_rm R n0 z0 h') (k : am_W p l e R s m args below meth c D b ad nL n0 z0 Q (pc + len) lv' st' h') : am_W p l e R s m args below meth c D b ad nL n0 z0 Q pc lv st h := by
  simp only [am_rl, Bool.and_eq_true, decide_eq_true_eq] at hr
  obtain ⟨rfl, rfl⟩ := hr
  simp only [am_i1] at hi
  obtain ⟨e1, rfl, rfl⟩ := am_st_spec hi
  obtain ⟨x, y, r, rfl, rfl⟩ := am_pi_spec e1
  exact am_r_ixor C hd k
theorem am_o_ishl (C : am_C p R m c cc nL (am_own cn) s args D meth yn ad)  (hini : ini = true → yn = "<init>") (hr : am_rl cn nL ini (.ishl) a len = true) (hd : decode cc pc = .ok (.ishl, len)) (hi : am_i1 a lv st h = some (lv', st', h')) (hrm : am_rm R n0 z0 h') (k : am_W p l e R s m args below meth c D b ad nL n0 z0 Q (pc + len) lv' st' h') : am_W p l e R s m args below meth c D b ad nL n0 z0 Q pc lv st h := by
  simp only [am_rl, Bool.and_eq_true, decide_eq_true_eq] at hr
  obtain ⟨rfl, rfl⟩ := hr
  simp only [am_i1] at hi
  obtain ⟨e1, rfl, rfl⟩ := am_st_spec hi
  obtain ⟨x, y, r, rfl, rfl⟩ := am_pi_spec e1
  exact am_r_ishl C hd k
theorem am_o_ishr (C : am_C p R m c cc nL (am_own cn) s args D meth yn ad)  (hini : ini = true → yn = "<init>") (hr : am_rl cn nL ini (.ishr) a len = true) (hd : decode cc pc = .ok (.ishr, len)) (hi : am_i1 a lv st h = some (lv', st', h')) (hrm : am_rm R n0 z0 h') (k : am_W p l e R s m args below meth c D b ad nL n0 z0 Q (pc + len) lv' st' h') : am_W p l e R s m args below meth c D b ad nL n0 z0 Q pc lv st h := by
  simp only [am_rl, Bool.and_eq_true, decide_eq_true_eq] at hr
  obtain ⟨rfl, rfl⟩ := hr
  simp only [am_i1] at hi
  obtain ⟨e1, rfl, rfl⟩ := am_st_spec hi
  obtain ⟨x, y, r, rfl, rfl⟩ := am_pi_spec e1
  exact am_r_ishr C hd k
theorem am_o_iushr (C : am_C p R m c cc nL (am_own cn) s args D meth yn ad)  (hini : ini = true → yn = "<init>") (hr : am_rl cn nL ini (.iushr) a len = true) (hd : decode cc pc = .ok (.iushr, len)) (hi : am_i1 a lv st h = some (lv', st', h')) (hrm : am_rm R n0 z0 h') (k : am_W p l e R s m args below meth c D b ad nL n0 z0 Q (pc + len) lv' st' h') : am_W p l e R s m args below meth c D b ad nL n0 z0 Q pc lv st h := by
  simp only [am_rl, Bool.and_eq_true, decide_eq_true_eq] at hr
  obtain ⟨rfl, rfl⟩ := hr
  simp only [am_i1] at hi
  obtain ⟨e1, rfl, rfl⟩ := am_st_spec hi
  obtain ⟨x, y, r, rfl, rfl⟩ := am_pi_spec e1
  exact am_r_iushr C hd k
theorem am_o_ladd (C : am_C p R m c cc nL (am_own cn) s args D meth yn ad)  (hini : ini = true → yn = "<init>") (hr : am_rl cn nL ini (.ladd) a len = true) (hd : decode cc pc = .ok (.ladd, len)) (hi : am_i1 a lv st h = some (lv', st', h')) (hrm : am_rm R n0 z0 h') (k : am_W p l e R s m args below meth c D b ad nL n0 z0 Q (pc + len) lv' st' h') : am_W p l e R s m args below meth c D b ad nL n0 z0 Q pc lv st h := by
  simp only [am_rl, Bool.and_eq_true, decide_eq_true_eq] at hr
  obtain ⟨rfl, rfl⟩ := hr
  simp only [am_i1] at hi
  obtain ⟨e1, rfl, rfl⟩ := am_st_spec hi
  obtain ⟨x, y, r, rfl, rfl⟩ := am_pj_spec e1
  exact am_r_ladd C hd k
theorem am_o_lsub (C : am_C p R m c cc nL (am_own cn) s args D meth yn ad)  (hini : ini = true → yn = "<init>") (hr : am_rl cn nL ini (.lsub) a len = true) (hd : decode cc pc = .ok (.lsub, len)) (hi : am_i1 a lv st h = some (lv', st', h')) (hrm : am_rm R n0 z0 h') (k : am_W p l e R s m args below meth c D b ad nL n0 z0 Q (pc + len) lv' st' h') : am_W p l e R s m args below meth c D b ad nL n0 z0 Q pc lv st h := by
  simp only [am_rl, Bool.and_eq_true, decide_eq_true_eq] at hr
  obtain ⟨rfl, rfl⟩ := hr
  simp only [am_i1] at hi
  obtain ⟨e1, rfl, rfl⟩ := am_st_spec hi
  obtain ⟨x, y, r, rfl, rfl⟩ := am_pj_spec e1
  exact am_r_lsub C hd k
theorem am_o_lmul (C : am_C p R m c cc nL (am_own cn) s args D meth yn ad)  (hini : ini = true → yn = "<init>") (hr : am_rl cn nL ini (.lmul) a len = true) (hd : decode cc pc = .ok (.lmul, len)) (hi : am_i1 a lv st h = some (lv', st', h')) (hrm : am_rm R n0 z0 h') (k : am_W p l e R s m args below meth c D b ad nL n0 z0 Q (pc + len) lv' st' h') : am_W p l e R s m args below meth c D b ad nL n0 z0 Q pc lv st h := by
  simp only [am_rl, Bool.and_eq_true, decide_eq_true_eq] at hr
  obtain ⟨rfl, rfl⟩ := hr
  simp only [am_i1] at hi
  obtain ⟨e1, rfl, rfl⟩ := am_st_spec hi
  obtain ⟨x, y, r, rfl, rfl⟩ := am_pj_spec e1
  exact am_r_lmul C hd k
theorem am_o_land (C : am_C p R m c cc nL (am_own cn) s args D meth yn ad)  (hini : ini = true → yn = "<init>") (hr : am_rl cn nL ini (.land) a len = true) (hd : decode cc pc = .ok (.land, len)) (hi : am_i1 a lv st h = some (lv', st', h')) (hrm : am_rm R n0 z0 h') (k : am_W p l e R s m args below meth c D b ad nL n0 z0 Q (pc + len) lv' st' h') : am_W p l e R s m args below meth c D b ad nL n0 z0 Q pc lv st h := by
  simp only [am_rl, Bool.and_eq_true, decide_eq_true_eq] at hr
  obtain ⟨rfl, rfl⟩ := hr
  simp only [am_i1] at hi
  obtain ⟨e1, rfl, rfl⟩ := am_st_spec hi
  obtain ⟨x, y, r, rfl, rfl⟩ := am_pj_spec e1
  exact am_r_land C hd k
theorem am_o_lor (C : am_C p R m c cc nL (am_own cn) s args D meth yn ad)  (hini : ini = true → yn = "<init>") (hr : am_rl cn nL ini (.lor) a len = true) (hd : decode cc pc = .ok (.lor, len)) (hi : am_i1 a lv st h = some (lv', st', h')) (hrm : am_rm R n0 z0 h') (k : am_W p l e R s m args below meth c D b ad nL n0 z0 Q (pc + len) lv' st' h') : am_W p l e R s m args below meth c D b ad nL n0 z0 Q pc lv st h := by
  simp only [am_rl, Bool.and_eq_true, decide_eq_true_eq] at hr
  obtain ⟨rfl, rfl⟩ := hr
  simp only [am_i1] at hi
  obtain ⟨e1, rfl, rfl⟩ := am_st_spec hi
  obtain ⟨x, y, r, rfl, rfl⟩ := am_pj_spec e1
  exact am_r_lor C hd k
theorem am_o_lcmp (C : am_C p R m c cc nL (am_own cn) s args D meth yn ad)  (hini : ini = true → yn = "<init>") (hr : am_rl cn nL ini (.lcmp) a len = true) (hd : decode cc pc = .ok (.lcmp, len)) (hi : am_i1 a lv st h = some (lv', st', h')) (hrm : am_rm R n0 z0 h') (k : am_W p l e R s m args below meth c D b ad nL n0 z0 Q (pc + len) lv' st' h') : am_W p l e R s m args below meth c D b ad nL n0 z0 Q pc lv st h := by
  simp only [am_rl, Bool.and_eq_true, decide_eq_true_eq] at hr
  obtain ⟨rfl, rfl⟩ := hr
  simp only [am_i1] at hi
  obtain ⟨e1, rfl, rfl⟩ := am_st_spec hi
  obtain ⟨x, y, r, rfl, rfl⟩ := am_pj_spec e1
  exact am_r_lcmp C hd k
theorem am_o_lshl (C : am_C p R m c cc nL (am_own cn) s args D meth yn ad)  (hini : ini = true → yn = "<init>") (hr : am_rl cn nL ini (.lshl) a len = true) (hd : decode cc pc = .ok (.lshl, len)) (hi : am_i1 a lv st h = some (lv', st', h')) (hrm : am_rm R n0 z0 h') (k : am_W p l e R s m args below meth c D b ad nL n0 z0 Q (pc + len) lv' st' h') : am_W p l e R s m args below meth c D b ad nL n0 z0 Q pc lv st h := by
  simp only [am_rl, Bool.and_eq_true, decide_eq_true_eq] at hr
  obtain ⟨rfl, rfl⟩ := hr
  simp only [am_i1] at hi
  obtain ⟨e1, rfl, rfl⟩ := am_st_spec hi
  obtain ⟨x, y, r, rfl, rfl⟩ := am_ps_spec e1
  exact am_r_lshl C hd k
theorem am_o_lushr (C : am_C p R m c cc nL (am_own cn) s args D meth yn ad)  (hini : ini = true → yn = "<init>") (hr : am_rl cn nL ini (.lushr) a len = true) (hd : decode cc pc = .ok (.lushr, len)) (hi : am_i1 a lv st h = some (lv', st', h')) (hrm : am_rm R n0 z0 h') (k : am_W p l e R s m args below meth c D b ad nL n0 z0 Q (pc + len) lv' st' h') : am_W p l e R s m args below meth c D b ad nL n0 z0 Q pc lv st h := by
  simp only [am_rl, Bool.and_eq_true, decide_eq_true_eq] at hr
  obtain ⟨rfl, rfl⟩ := hr
  simp only [am_i1] at hi
  obtain ⟨e1, rfl, rfl⟩ := am_st_spec hi
  obtain ⟨x, y, r, rfl, rfl⟩ := am_ps_spec e1
  exact am_r_lushr C hd k
theorem am_o_idiv (C : am_C p R m c cc nL (am_own cn) s args D meth yn ad)  (hini : ini = true → yn = "<init>") (hr : am_rl cn nL ini (.idiv) a len = true) (hd : decode cc pc = .ok (.idiv, len)) (hi : am_i1 a lv st h = some (lv', st', h')) (hrm : am_rm R n0 z0 h') (k : am_W p l e R s m args below meth c D b ad nL n0 z0 Q (pc + len) lv' st' h') : am_W p l e R s m args below meth c D b ad nL n0 z0 Q pc lv st h := by
  simp only [am_rl, Bool.and_eq_true, decide_eq_true_eq] at hr
  obtain ⟨rfl, rfl⟩ := hr
  simp only [am_i1] at hi
  split at hi
  · split at hi
    · cases hi
    · rename_i hne
      cases hi
      exact am_r_idiv C hne hd k
  · cases hi
theorem am_o_irem (C : am_C p R m c cc nL (am_own cn) s args D meth yn ad)  (hini : ini = true → yn = "<init>") (hr : am_rl cn nL ini (.irem) a len = true) (hd : decode cc pc = .ok (.irem, len)) (hi : am_i1 a lv st h = some (lv', st', h')) (hrm : am_rm R n0 z0 h') (k : am_W p l e R s m args below meth c D b ad nL n0 z0 Q (pc + len) lv' st' h') : am_W p l e R s m args below meth c D b ad nL n0 z0 Q pc lv st h := by
  simp only [am_rl, Bool.and_eq_true, decide_eq_true_eq] at hr
  obtain ⟨rfl, rfl⟩ := hr
  simp only [am_i1] at hi
  split at hi
  · split at hi
    · cases hi
    · rename_i hne
      cases hi
      exact am_r_irem C hne hd k
  · cases hi
theorem am_o_ineg (C : am_C p R m c cc nL (am_own cn) s args D meth yn ad)  (hini : ini = true → yn = "<init>") (hr : am_rl cn nL ini (.ineg) a len = true) (hd : decode cc pc = .ok (.ineg, len)) (hi : am_i1 a lv st h = some (lv', st', h')) (hrm : am_rm R n0 z0 h') (k : am_W p l e R s m args below meth c D b ad nL n0 z0 Q (pc + len) lv' st' h') : am_W p l e R s m args below meth c D b ad nL n0 z0 Q pc lv st h := by
  simp only [am_rl, Bool.and_eq_true, decide_eq_true_eq] at hr
  obtain ⟨rfl, rfl⟩ := hr
  simp only [am_i1] at hi
  split at hi
  · cases hi
    exact am_r_ineg C hd k
  · cases hi
theorem am_o_i2l (C : am_C p R m c cc nL (am_own cn) s args D meth yn ad)  (hini : ini = true → yn = "<init>") (hr : am_rl cn nL ini (.i2l) a len = true) (hd : decode cc pc = .ok (.i2l, len)) (hi : am_i1 a lv st h = some (lv', st', h')) (hrm : am_rm R n0 z0 h') (k : am_W p l e R s m args below meth c D b ad nL n0 z0 Q (pc + len) lv' st' h') : am_W p l e R s m args below meth c D b ad nL n0 z0 Q pc lv st h := by
  simp only [am_rl, Bool.and_eq_true, decide_eq_true_eq] at hr
  obtain ⟨rfl, rfl⟩ := hr
  simp only [am_i1] at hi
  split at hi
  · cases hi
    exact am_r_i2l C hd k
  · cases hi
theorem am_o_l2i (C : am_C p R m c cc nL (am_own cn) s args D meth yn ad)  (hini : ini = true → yn = "<init>") (hr : am_rl cn nL ini (.l2i) a len = true) (hd : decode cc pc = .ok (.l2i, len)) (hi : am_i1 a lv st h = some (lv', st', h')) (hrm : am_rm R n0 z0 h') (k : am_W p l e R s m args below meth c D b ad nL n0 z0 Q (pc + len) lv' st' h') : am_W p l e R s m args below meth c D b ad nL n0 z0 Q pc lv st h := by
  simp only [am_rl, Bool.and_eq_true, decide_eq_true_eq] at hr
  obtain ⟨rfl, rfl⟩ := hr
  simp only [am_i1] at hi
  split at hi
  · cases hi
    exact am_r_l2i C hd k
  · cases hi
theorem am_o_dup (C : am_C p R m c cc nL (am_own cn) s args D meth yn ad)  (hini : ini = true → yn = "<init>") (hr : am_rl cn nL ini (.dup) a len = true) (hd : decode cc pc = .ok (.dup, len)) (hi : am_i1 a lv st h = some (lv', st', h')) (hrm : am_rm R n0 z0 h') (k : am_W p l e R s m args below meth c D b ad nL n0 z0 Q (pc + len) lv' st' h') : am_W p l e R s m args below meth c D b ad nL n0 z0 Q pc lv st h := by
  simp only [am_rl, Bool.and_eq_true, decide_eq_true_eq] at hr
  obtain ⟨rfl, rfl⟩ := hr
  simp only [am_i1] at hi
  split at hi
  · split at hi
    · rename_i hv
      cases hi
      exact am_r_dup C hv hd k
    · cases hi
  · cases hi
theorem am_o_pop (C : am_C p R m c cc nL (am_own cn) s args D meth yn ad)  (hini : ini = true → yn = "<init>") (hr : am_rl cn nL ini (.pop) a len = true) (hd : decode cc pc = .ok (.pop, len)) (hi : am_i1 a lv st h = some (lv', st', h')) (hrm : am_rm R n0 z0 h') (k : am_W p l e R s m args below meth c D b ad nL n0 z0 Q (pc + len) lv' st' h') : am_W p l e R s m args below meth c D b ad nL n0 z0 Q pc lv st h := by
  simp only [am_rl, Bool.and_eq_true, decide_eq_true_eq] at hr
  obtain ⟨rfl, rfl⟩ := hr
  simp only [am_i1] at hi
  split at hi
  · split at hi
    · rename_i hv
      cases hi
      exact am_r_pop C hv hd k
    · cases hi
  · cases hi
theorem am_o_dup_x1 (C : am_C p R m c cc nL (am_own cn) s args D meth yn ad)  (hini : ini = true → yn = "<init>") (hr : am_rl cn nL ini (.dup_x1) a len = true) (hd : decode cc pc = .ok (.dup_x1, len)) (hi : am_i1 a lv st h = some (lv', st', h')) (hrm : am_rm R n0 z0 h') (k : am_W p l e R s m args below meth c D b ad nL n0 z0 Q (pc + len) lv' st' h') : am_W p l e R s m args below meth c D b ad nL n0 z0 Q pc lv st h := by
  simp only [am_rl, Bool.and_eq_true, decide_eq_true_eq] at hr
  obtain ⟨rfl, rfl⟩ := hr
  simp only [am_i1] at hi
  split at hi
  · split at hi
    · rename_i hv
      cases hi
      exact am_r_dup_x1 C hv.1 hv.2 hd k
    · cases hi
  · cases hi
theorem am_o_dup2 (C : am_C p R m c cc nL (am_own cn) s args D meth yn ad)  (hini : ini = true → yn = "<init>") (hr : am_rl cn nL ini (.dup2) a len = true) (hd : decode cc pc = .ok (.dup2, len)) (hi : am_i1 a lv st h = some (lv', st', h')) (hrm : am_rm R n0 z0 h') (k : am_W p l e R s m args below meth c D b ad nL n0 z0 Q (pc + len) lv' st' h') : am_W p l e R s m args below meth c D b ad nL n0 z0 Q pc lv st h := by
  simp only [am_rl, Bool.and_eq_true, decide_eq_true_eq] at hr
  obtain ⟨rfl, rfl⟩ := hr
  simp only [am_i1] at hi
  split at hi
  · split at hi
    · rename_i hv
      cases hi
      exact am_r_dup2 C hv.1 hv.2 hd k
    · cases hi
  · cases hi
theorem am_o_null (C : am_C p R m c cc nL (am_own cn) s args D meth yn ad)  (hini : ini = true → yn = "<init>") (hr : am_rl cn nL ini (.aconst_null) a len = true) (hd : decode cc pc = .ok (.aconst_null, len)) (hi : am_i1 a lv st h = some (lv', st', h')) (hrm : am_rm R n0 z0 h') (k : am_W p l e R s m args below meth c D b ad nL n0 z0 Q (pc + len) lv' st' h') : am_W p l e R s m args below meth c D b ad nL n0 z0 Q pc lv st h := by
  simp only [am_rl, Bool.and_eq_true, decide_eq_true_eq] at hr
  obtain ⟨rfl, rfl⟩ := hr
  simp only [am_i1] at hi
  cases hi
  exact am_r_null C hd k
theorem am_o_iconst (C : am_C p R m c cc nL (am_own cn) s args D meth yn ad) {n : Int} (hini : ini = true → yn = "<init>") (hr : am_rl cn nL ini (.iconst n) a len = true) (hd : decode cc pc = .ok (.iconst n, len)) (hi : am_i1 a lv st h = some (lv', st', h')) (hrm : am_rm R n0 z0 h') (k : am_W p l e R s m args below meth c D b ad nL n0 z0 Q (pc + len) lv' st' h') : am_W p l e R s m args below meth c D b ad nL n0 z0 Q pc lv st h := by
  simp only [am_rl, Bool.and_eq_true, decide_eq_true_eq] at hr
  obtain ⟨rfl, rfl⟩ := hr
  simp only [am_i1] at hi
  cases hi
  exact am_r_iconst C hd k
theorem am_o_bipush (C : am_C p R m c cc nL (am_own cn) s args D meth yn ad) {n : Int} (hini : ini = true → yn = "<init>") (hr : am_rl cn nL ini (.bipush n) a len = true) (hd : decode cc pc = .ok (.bipush n, len)) (hi : am_i1 a lv st h = some (lv', st', h')) (hrm : am_rm R n0 z0 h') (k : am_W p l e R s m args below meth c D b ad nL n0 z0 Q (pc + len) lv' st' h') : am_W p l e R s m args below meth c D b ad nL n0 z0 Q pc lv st h := by
  simp only [am_rl, Bool.and_eq_true, decide_eq_true_eq] at hr
  obtain ⟨⟨rfl, rfl⟩, hv⟩ := hr
  simp only [am_i1] at hi
  cases hi
  exact am_r_bipush C hd hv k
theorem am_o_sipush (C : am_C p R m c cc nL (am_own cn) s args D meth yn ad) {n : Int} (hini : ini = true → yn = "<init>") (hr : am_rl cn nL ini (.sipush n) a len = true) (hd : decode cc pc = .ok (.sipush n, len)) (hi : am_i1 a lv st h = some (lv', st', h')) (hrm : am_rm R n0 z0 h') (k : am_W p l e R s m args below meth c D b ad nL n0 z0 Q (pc + len) lv' st' h') : am_W p l e R s m args below meth c D b ad nL n0 z0 Q pc lv st h := by
  simp only [am_rl, Bool.and_eq_true, decide_eq_true_eq] at hr
  obtain ⟨⟨rfl, rfl⟩, hv⟩ := hr
  simp only [am_i1] at hi
  cases hi
  exact am_r_sipush C hd hv k
theorem am_o_lconst (C : am_C p R m c cc nL (am_own cn) s args D meth yn ad) {n : Fin 2} (hini : ini = true → yn = "<init>") (hr : am_rl cn nL ini (.lconst n) a len = true) (hd : decode cc pc = .ok (.lconst n, len)) (hi : am_i1 a lv st h = some (lv', st', h')) (hrm : am_rm R n0 z0 h') (k : am_W p l e R s m args below meth c D b ad nL n0 z0 Q (pc + len) lv' st' h') : am_W p l e R s m args below meth c D b ad nL n0 z0 Q pc lv st h := by
  simp only [am_rl] at hr
  split at hr
  · rename_i z
    simp only [Bool.and_eq_true, decide_eq_true_eq] at hr
    obtain ⟨rfl, hv⟩ := hr
    simp only [am_i1] at hi
    cases hi
    exact am_r_lconst C hd hv k
  · cases hr
theorem am_o_ldc (C : am_C p R m c cc nL (am_own cn) s args D meth yn ad) {i : Nat} (hini : ini = true → yn = "<init>") (hr : am_rl cn nL ini (.ldc i) a len = true) (hd : decode cc pc = .ok (.ldc i, len)) (hi : am_i1 a lv st h = some (lv', st', h')) (hrm : am_rm R n0 z0 h') (k : am_W p l e R s m args below meth c D b ad nL n0 z0 Q (pc + len) lv' st' h') : am_W p l e R s m args below meth c D b ad nL n0 z0 Q pc lv st h := by
  simp only [am_rl] at hr
  split at hr
  · rename_i n
    simp only [am_cI, Bool.and_eq_true, decide_eq_true_eq] at hr
    obtain ⟨rfl, he, hv⟩ := hr
    have hw := am_en5 he
    rw [hv] at hw
    simp only [am_i1] at hi
    cases hi
    exact am_r_ldc C hw hd k
  · rename_i n
    simp only [Bool.and_eq_true, decide_eq_true_eq] at hr
    obtain ⟨rfl, he⟩ := hr
    obtain ⟨tx, hw⟩ := am_en13 he
    simp only [am_i1] at hi
    cases hi
    exact am_r_ldcS C hw hd k
  · cases hr
theorem am_o_ldc_w (C : am_C p R m c cc nL (am_own cn) s args D meth yn ad) {i : Nat} (hini : ini = true → yn = "<init>") (hr : am_rl cn nL ini (.ldc_w i) a len = true) (hd : decode cc pc = .ok (.ldc_w i, len)) (hi : am_i1 a lv st h = some (lv', st', h')) (hrm : am_rm R n0 z0 h') (k : am_W p l e R s m args below meth c D b ad nL n0 z0 Q (pc + len) lv' st' h') : am_W p l e R s m args below meth c D b ad nL n0 z0 Q pc lv st h := by
  simp only [am_rl] at hr
  split at hr
  · rename_i n
    simp only [am_cI, Bool.and_eq_true, decide_eq_true_eq] at hr
    obtain ⟨rfl, he, hv⟩ := hr
    have hw := am_en5 he
    rw [hv] at hw
    simp only [am_i1] at hi
    cases hi
    exact am_r_ldcw C hw hd k
  · rename_i n
    simp only [Bool.and_eq_true, decide_eq_true_eq] at hr
    obtain ⟨rfl, he⟩ := hr
    obtain ⟨tx, hw⟩ := am_en13 he
    simp only [am_i1] at hi
    cases hi
    exact am_r_ldcWS C hw hd k
  · cases hr
theorem am_o_ldc2_w (C : am_C p R m c cc nL (am_own cn) s args D meth yn ad) {i : Nat} (hini : ini = true → yn = "<init>") (hr : am_rl cn nL ini (.ldc2_w i) a len = true) (hd : decode cc pc = .ok (.ldc2_w i, len)) (hi : am_i1 a lv st h = some (lv', st', h')) (hrm : am_rm R n0 z0 h') (k : am_W p l e R s m args below meth c D b ad nL n0 z0 Q (pc + len) lv' st' h') : am_W p l e R s m args below meth c D b ad nL n0 z0 Q pc lv st h := by
  simp only [am_rl] at hr
  split at hr
  · rename_i n
    simp only [am_cJ, Bool.and_eq_true, decide_eq_true_eq] at hr
    obtain ⟨rfl, he, hv⟩ := hr
    have hw := am_en6 he
    rw [hv] at hw
    simp only [am_i1] at hi
    cases hi
    exact am_r_ldc2 C hw hd k
  · cases hr
theorem am_o_iload (C : am_C p R m c cc nL (am_own cn) s args D meth yn ad) {i : Nat} (hini : ini = true → yn = "<init>") (hr : am_rl cn nL ini (.iload i) a len = true) (hd : decode cc pc = .ok (.iload i, len)) (hi : am_i1 a lv st h = some (lv', st', h')) (hrm : am_rm R n0 z0 h') (k : am_W p l e R s m args below meth c D b ad nL n0 z0 Q (pc + len) lv' st' h') : am_W p l e R s m args below meth c D b ad nL n0 z0 Q pc lv st h := by
  simp only [am_rl, Bool.and_eq_true, decide_eq_true_eq] at hr
  obtain ⟨rfl, rfl⟩ := hr
  simp only [am_i1] at hi
  split at hi
  · rename_i x hl
    cases hi
    exact am_r_iload C hl hd k
  · cases hi
theorem am_o_iload_n (C : am_C p R m c cc nL (am_own cn) s args D meth yn ad) {i : Fin 4} (hini : ini = true → yn = "<init>") (hr : am_rl cn nL ini (.iload_n i) a len = true) (hd : decode cc pc = .ok (.iload_n i, len)) (hi : am_i1 a lv st h = some (lv', st', h')) (hrm : am_rm R n0 z0 h') (k : am_W p l e R s m args below meth c D b ad nL n0 z0 Q (pc + len) lv' st' h') : am_W p l e R s m args below meth c D b ad nL n0 z0 Q pc lv st h := by
  simp only [am_rl, Bool.and_eq_true, decide_eq_true_eq] at hr
  obtain ⟨rfl, rfl⟩ := hr
  simp only [am_i1] at hi
  split at hi
  · rename_i x hl
    cases hi
    exact am_r_iload_n C hl hd k
  · cases hi
theorem am_o_istore (C : am_C p R m c cc nL (am_own cn) s args D meth yn ad) {i : Nat} (hini : ini = true → yn = "<init>") (hr : am_rl cn nL ini (.istore i) a len = true) (hd : decode cc pc = .ok (.istore i, len)) (hi : am_i1 a lv st h = some (lv', st', h')) (hrm : am_rm R n0 z0 h') (k : am_W p l e R s m args below meth c D b ad nL n0 z0 Q (pc + len) lv' st' h') : am_W p l e R s m args below meth c D b ad nL n0 z0 Q pc lv st h := by
  simp only [am_rl, Bool.and_eq_true, decide_eq_true_eq] at hr
  obtain ⟨⟨rfl, rfl⟩, hn⟩ := hr
  simp only [am_i1] at hi
  split at hi
  · cases hi
    exact am_r_istore C hn hd k
  · cases hi
theorem am_o_istore_n (C : am_C p R m c cc nL (am_own cn) s args D meth yn ad) {i : Fin 4} (hini : ini = true → yn = "<init>") (hr : am_rl cn nL ini (.istore_n i) a len = true) (hd : decode cc pc = .ok (.istore_n i, len)) (hi : am_i1 a lv st h = some (lv', st', h')) (hrm : am_rm R n0 z0 h') (k : am_W p l e R s m args below meth c D b ad nL n0 z0 Q (pc + len) lv' st' h') : am_W p l e R s m args below meth c D b ad nL n0 z0 Q pc lv st h := by
  simp only [am_rl, Bool.and_eq_true, decide_eq_true_eq] at hr
  obtain ⟨⟨rfl, rfl⟩, hn⟩ := hr
  simp only [am_i1] at hi
  split at hi
  · cases hi
    exact am_r_istore_n C hn hd k
  · cases hi
theorem am_o_lload (C : am_C p R m c cc nL (am_own cn) s args D meth yn ad) {i : Nat} (hini : ini = true → yn = "<init>") (hr : am_rl cn nL ini (.lload i) a len = true) (hd : decode cc pc = .ok (.lload i, len)) (hi : am_i1 a lv st h = some (lv', st', h')) (hrm : am_rm R n0 z0 h') (k : am_W p l e R s m args below meth c D b ad nL n0 z0 Q (pc + len) lv' st' h') : am_W p l e R s m args below meth c D b ad nL n0 z0 Q pc lv st h := by
  simp only [am_rl, Bool.and_eq_true, decide_eq_true_eq] at hr
  obtain ⟨rfl, rfl⟩ := hr
  simp only [am_i1] at hi
  split at hi
  · rename_i x hl
    cases hi
    exact am_r_lload C hl hd k
  · cases hi
theorem am_o_lload_n (C : am_C p R m c cc nL (am_own cn) s args D meth yn ad) {i : Fin 4} (hini : ini = true → yn = "<init>") (hr : am_rl cn nL ini (.lload_n i) a len = true) (hd : decode cc pc = .ok (.lload_n i, len)) (hi : am_i1 a lv st h = some (lv', st', h')) (hrm : am_rm R n0 z0 h') (k : am_W p l e R s m args below meth c D b ad nL n0 z0 Q (pc + len) lv' st' h') : am_W p l e R s m args below meth c D b ad nL n0 z0 Q pc lv st h := by
  simp only [am_rl, Bool.and_eq_true, decide_eq_true_eq] at hr
  obtain ⟨rfl, rfl⟩ := hr
  simp only [am_i1] at hi
  split at hi
  · rename_i x hl
    cases hi
    exact am_r_lload_n C hl hd k
  · cases hi
theorem am_o_lstore (C : am_C p R m c cc nL (am_own cn) s args D meth yn ad) {i : Nat} (hini : ini = true → yn = "<init>") (hr : am_rl cn nL ini (.lstore i) a len = true) (hd : decode cc pc = .ok (.lstore i, len)) (hi : am_i1 a lv st h = some (lv', st', h')) (hrm : am_rm R n0 z0 h') (k : am_W p l e R s m args below meth c D b ad nL n0 z0 Q (pc + len) lv' st' h') : am_W p l e R s m args below meth c D b ad nL n0 z0 Q pc lv st h := by
  simp only [am_rl, Bool.and_eq_true, decide_eq_true_eq] at hr
  obtain ⟨⟨rfl, rfl⟩, hn⟩ := hr
  simp only [am_i1] at hi
  split at hi
  · cases hi
    exact am_r_lstore C hn hd k
  · cases hi
theorem am_o_lstore_n (C : am_C p R m c cc nL (am_own cn) s args D meth yn ad) {i : Fin 4} (hini : ini = true → yn = "<init>") (hr : am_rl cn nL ini (.lstore_n i) a len = true) (hd : decode cc pc = .ok (.lstore_n i, len)) (hi : am_i1 a lv st h = some (lv', st', h')) (hrm : am_rm R n0 z0 h') (k : am_W p l e R s m args below meth c D b ad nL n0 z0 Q (pc + len) lv' st' h') : am_W p l e R s m args below meth c D b ad nL n0 z0 Q pc lv st h := by
  simp only [am_rl, Bool.and_eq_true, decide_eq_true_eq] at hr
  obtain ⟨⟨rfl, rfl⟩, hn⟩ := hr
  simp only [am_i1] at hi
  split at hi
  · cases hi
    exact am_r_lstore_n C hn hd k
  · cases hi
theorem am_o_aload (C : am_C p R m c cc nL (am_own cn) s args D meth yn ad) {i : Nat} (hini : ini = true → yn = "<init>") (hr : am_rl cn nL ini (.aload i) a len = true) (hd : decode cc pc = .ok (.aload i, len)) (hi : am_i1 a lv st h = some (lv', st', h')) (hrm : am_rm R n0 z0 h') (k : am_W p l e R s m args below meth c D b ad nL n0 z0 Q (pc + len) lv' st' h') : am_W p l e R s m args below meth c D b ad nL n0 z0 Q pc lv st h := by
  simp only [am_rl, Bool.and_eq_true, decide_eq_true_eq] at hr
  obtain ⟨rfl, rfl⟩ := hr
  simp only [am_i1] at hi
  split at hi
  · rename_i v hl
    split at hi
    · rename_i hv
      cases hi
      exact am_r_aload C hl (am_isR_spec hv) hd k
    · cases hi
  · cases hi
theorem am_o_aload_n (C : am_C p R m c cc nL (am_own cn) s args D meth yn ad) {i : Fin 4} (hini : ini = true → yn = "<init>") (hr : am_rl cn nL ini (.aload_n i) a len = true) (hd : decode cc pc = .ok (.aload_n i, len)) (hi : am_i1 a lv st h = some (lv', st', h')) (hrm : am_rm R n0 z0 h') (k : am_W p l e R s m args below meth c D b ad nL n0 z0 Q (pc + len) lv' st' h') : am_W p l e R s m args below meth c D b ad nL n0 z0 Q pc lv st h := by
  simp only [am_rl, Bool.and_eq_true, decide_eq_true_eq] at hr
  obtain ⟨rfl, rfl⟩ := hr
  simp only [am_i1] at hi
  split at hi
  · rename_i v hl
    split at hi
    · rename_i hv
      cases hi
      exact am_r_aload_n C hl (am_isR_spec hv) hd k
    · cases hi
  · cases hi
theorem am_o_astore (C : am_C p R m c cc nL (am_own cn) s args D meth yn ad) {i : Nat} (hini : ini = true → yn = "<init>") (hr : am_rl cn nL ini (.astore i) a len = true) (hd : decode cc pc = .ok (.astore i, len)) (hi : am_i1 a lv st h = some (lv', st', h')) (hrm : am_rm R n0 z0 h') (k : am_W p l e R s m args below meth c D b ad nL n0 z0 Q (pc + len) lv' st' h') : am_W p l e R s m args below meth c D b ad nL n0 z0 Q pc lv st h := by
  simp only [am_rl, Bool.and_eq_true, decide_eq_true_eq] at hr
  obtain ⟨⟨rfl, rfl⟩, hn⟩ := hr
  simp only [am_i1] at hi
  split at hi
  · split at hi
    · rename_i hv
      cases hi
      exact am_r_astore C (am_isR_spec hv) hn hd k
    · cases hi
  · cases hi
theorem am_o_astore_n (C : am_C p R m c cc nL (am_own cn) s args D meth yn ad) {i : Fin 4} (hini : ini = true → yn = "<init>") (hr : am_rl cn nL ini (.astore_n i) a len = true) (hd : decode cc pc = .ok (.astore_n i, len)) (hi : am_i1 a lv st h = some (lv', st', h')) (hrm : am_rm R n0 z0 h') (k : am_W p l e R s m args below meth c D b ad nL n0 z0 Q (pc + len) lv' st' h') : am_W p l e R s m args below meth c D b ad nL n0 z0 Q pc lv st h := by
  simp only [am_rl, Bool.and_eq_true, decide_eq_true_eq] at hr
  obtain ⟨⟨rfl, rfl⟩, hn⟩ := hr
  simp only [am_i1] at hi
  split at hi
  · split at hi
    · rename_i hv
      cases hi
      exact am_r_astore_n C (am_isR_spec hv) hn hd k
    · cases hi
  · cases hi
theorem am_o_iinc (C : am_C p R m c cc nL (am_own cn) s args D meth yn ad) {i : Nat} {n : Int} (hini : ini = true → yn = "<init>") (hr : am_rl cn nL ini (.iinc i n) a len = true) (hd : decode cc pc = .ok (.iinc i n, len)) (hi : am_i1 a lv st h = some (lv', st', h')) (hrm : am_rm R n0 z0 h') (k : am_W p l e R s m args below meth c D b ad nL n0 z0 Q (pc + len) lv' st' h') : am_W p l e R s m args below meth c D b ad nL n0 z0 Q pc lv st h := by
  simp only [am_rl, Bool.and_eq_true, decide_eq_true_eq] at hr
  obtain ⟨⟨rfl, rfl⟩, hn⟩ := hr
  simp only [am_i1] at hi
  split at hi
  · rename_i x hl
    cases hi
    exact am_r_iinc C hl hn hd k
  · cases hi
theorem am_o_getfield (C : am_C p R m c cc nL (am_own cn) s args D meth yn ad) {i : Nat} (hini : ini = true → yn = "<init>") (hr : am_rl cn nL ini (.getfield i) a len = true) (hd : decode cc pc = .ok (.getfield i, len)) (hi : am_i1 a lv st h = some (lv', st', h')) (hrm : am_rm R n0 z0 h') (k : am_W p l e R s m args below meth c D b ad nL n0 z0 Q (pc + len) lv' st' h') : am_W p l e R s m args below meth c D b ad nL n0 z0 Q pc lv st h := by
  simp only [am_rl] at hr
  split at hr
  · rename_i f
    simp only [Bool.and_eq_true, Bool.or_eq_true, decide_eq_true_eq] at hr
    obtain ⟨rfl, he⟩ := hr
    simp only [am_i1] at hi
    obtain ⟨e1, rfl, rfl⟩ := am_st_spec hi
    unfold am_get at e1
    split at e1
    · rename_i x r
      split at e1
      · rename_i ob ho
        split at e1
        · rename_i hk
          split at e1
          · rename_i v hv
            cases e1
            obtain ⟨o1, o2⟩ := ob
            simp only at hk hv
            subst hk
            rcases he with he | he
            · obtain ⟨C0, T, N, g1, g2, g3, g4⟩ := am_en1 he
              exact am_r_get C (am_cls_of g1 g2) g3 (Or.inl g4) rfl ho hv hd k
            · obtain ⟨C0, T, N, g1, g2, g3, host, g4⟩ := am_en2 he
              exact am_r_get C (am_cls_of g1 g2) g3 (Or.inr ⟨host, g4⟩) rfl ho hv hd k
          · cases e1
        · cases e1
      · cases e1
    · cases e1
  · cases hr
theorem am_o_putfield (C : am_C p R m c cc nL (am_own cn) s args D meth yn ad) {i : Nat} (hini : ini = true → yn = "<init>") (hr : am_rl cn nL ini (.putfield i) a len = true) (hd : decode cc pc = .ok (.putfield i, len)) (hi : am_i1 a lv st h = some (lv', st', h')) (hrm : am_rm R n0 z0 h') (k : am_W p l e R s m args below meth c D b ad nL n0 z0 Q (pc + len) lv' st' h') : am_W p l e R s m args below meth c D b ad nL n0 z0 Q pc lv st h := by
  simp only [am_rl] at hr
  split at hr
  · rename_i f
    simp only [Bool.and_eq_true, Bool.or_eq_true, decide_eq_true_eq, Bool.not_eq_true'] at hr
    obtain ⟨rfl, he⟩ := hr
    simp only [am_i1] at hi
    obtain ⟨e1, rfl⟩ := am_sh_spec hi
    unfold am_put at e1
    split at e1
    · rename_i v x r
      split at e1
      · rename_i ob ho
        split at e1
        · rename_i hk
          cases e1
          obtain ⟨o1, o2⟩ := ob
          simp only at hk
          obtain ⟨rfl, hk2, hk3⟩ := hk
          rcases he with ⟨hf, he | he⟩ | ⟨⟨⟨hf, hin⟩, he⟩, hdc⟩
          · obtain ⟨C0, T, N, g1, g2, g3, g4⟩ := am_en1 he
            have hf2 : (T (f % 128)).2.2.2 = false := by simpa [am_fin, g1] using hf
            exact am_r_put C (am_cls_of g1 g2) g3 (Or.inl ⟨hf2, Or.inl g4⟩) rfl ho hk2 hk3 hd k
          · obtain ⟨C0, T, N, g1, g2, g3, host, g4⟩ := am_en2 he
            have hf2 : (T (f % 128)).2.2.2 = false := by simpa [am_fin, g1] using hf
            exact am_r_put C (am_cls_of g1 g2) g3 (Or.inl ⟨hf2, Or.inr ⟨host, g4⟩⟩) rfl ho hk2 hk3 hd k
          · obtain ⟨C0, T, N, g1, g2, g3, g4⟩ := am_en1 he
            have hf2 : (T (f % 128)).2.2.2 = true := by simpa [am_fin, g1] using hf
            have hd2 : (T (f % 128)).1 = am_own cn := by simpa [am_dec, g1] using hdc
            exact am_r_put C (am_cls_of g1 g2) g3 (Or.inr ⟨hf2, hini hin, hd2, g4⟩) rfl ho hk2 hk3 hd k
        · cases e1
      · cases e1
    · cases e1
  · cases hr
theorem am_o_iaload (C : am_C p R m c cc nL (am_own cn) s args D meth yn ad)  (hini : ini = true → yn = "<init>") (hr : am_rl cn nL ini (.iaload) a len = true) (hd : decode cc pc = .ok (.iaload, len)) (hi : am_i1 a lv st h = some (lv', st', h')) (hrm : am_rm R n0 z0 h') (k : am_W p l e R s m args below meth c D b ad nL n0 z0 Q (pc + len) lv' st' h') : am_W p l e R s m args below meth c D b ad nL n0 z0 Q pc lv st h := by
  simp only [am_rl, Bool.and_eq_true, decide_eq_true_eq] at hr
  obtain ⟨rfl, rfl⟩ := hr
  simp only [am_i1] at hi
  obtain ⟨e1, rfl, rfl⟩ := am_st_spec hi
  unfold am_gld at e1
  split at e1
  · split at e1
    · rename_i ob ho
      split at e1
      · rename_i hk
        split at e1
        · rename_i j hj
          split at e1
          · rename_i v hv
            cases e1
            obtain ⟨o1, o2⟩ := ob
            simp only [beq_iff_eq] at hk
            subst hk
            exact am_r_iald C ho hj hv hd k
          · cases e1
        · cases e1
      · cases e1
    · cases e1
  · cases e1
theorem am_o_laload (C : am_C p R m c cc nL (am_own cn) s args D meth yn ad)  (hini : ini = true → yn = "<init>") (hr : am_rl cn nL ini (.laload) a len = true) (hd : decode cc pc = .ok (.laload, len)) (hi : am_i1 a lv st h = some (lv', st', h')) (hrm : am_rm R n0 z0 h') (k : am_W p l e R s m args below meth c D b ad nL n0 z0 Q (pc + len) lv' st' h') : am_W p l e R s m args below meth c D b ad nL n0 z0 Q pc lv st h := by
  simp only [am_rl, Bool.and_eq_true, decide_eq_true_eq] at hr
  obtain ⟨rfl, rfl⟩ := hr
  simp only [am_i1] at hi
  obtain ⟨e1, rfl, rfl⟩ := am_st_spec hi
  unfold am_gld at e1
  split at e1
  · split at e1
    · rename_i ob ho
      split at e1
      · rename_i hk
        split at e1
        · rename_i j hj
          split at e1
          · rename_i v hv
            cases e1
            obtain ⟨o1, o2⟩ := ob
            simp only [beq_iff_eq] at hk
            subst hk
            exact am_r_lald C ho hj hv hd k
          · cases e1
        · cases e1
      · cases e1
    · cases e1
  · cases e1
theorem am_o_baload (C : am_C p R m c cc nL (am_own cn) s args D meth yn ad)  (hini : ini = true → yn = "<init>") (hr : am_rl cn nL ini (.baload) a len = true) (hd : decode cc pc = .ok (.baload, len)) (hi : am_i1 a lv st h = some (lv', st', h')) (hrm : am_rm R n0 z0 h') (k : am_W p l e R s m args below meth c D b ad nL n0 z0 Q (pc + len) lv' st' h') : am_W p l e R s m args below meth c D b ad nL n0 z0 Q pc lv st h := by
  simp only [am_rl, Bool.and_eq_true, decide_eq_true_eq] at hr
  obtain ⟨rfl, rfl⟩ := hr
  simp only [am_i1] at hi
  obtain ⟨e1, rfl, rfl⟩ := am_st_spec hi
  unfold am_gld at e1
  split at e1
  · split at e1
    · rename_i ob ho
      split at e1
      · rename_i hk
        split at e1
        · rename_i j hj
          split at e1
          · rename_i v hv
            cases e1
            obtain ⟨o1, o2⟩ := ob
            simp only [beq_iff_eq] at hk
            subst hk
            exact am_r_zald C ho hj hv hd k
          · cases e1
        · cases e1
      · cases e1
    · cases e1
  · cases e1
theorem am_o_aaload (C : am_C p R m c cc nL (am_own cn) s args D meth yn ad)  (hini : ini = true → yn = "<init>") (hr : am_rl cn nL ini (.aaload) a len = true) (hd : decode cc pc = .ok (.aaload, len)) (hi : am_i1 a lv st h = some (lv', st', h')) (hrm : am_rm R n0 z0 h') (k : am_W p l e R s m args below meth c D b ad nL n0 z0 Q (pc + len) lv' st' h') : am_W p l e R s m args below meth c D b ad nL n0 z0 Q pc lv st h := by
  simp only [am_rl, Bool.and_eq_true, decide_eq_true_eq] at hr
  obtain ⟨rfl, rfl⟩ := hr
  simp only [am_i1] at hi
  obtain ⟨e1, rfl, rfl⟩ := am_st_spec hi
  unfold am_gld at e1
  split at e1
  · split at e1
    · rename_i ob ho
      split at e1
      · rename_i hk
        split at e1
        · rename_i j hj
          split at e1
          · rename_i v hv
            cases e1
            obtain ⟨o1, o2⟩ := ob
            simp only [Bool.and_eq_true, decide_eq_true_eq] at hk
            exact am_r_aald C hk ho hj hv hd k
          · cases e1
        · cases e1
      · cases e1
    · cases e1
  · cases e1
theorem am_o_arraylength (C : am_C p R m c cc nL (am_own cn) s args D meth yn ad)  (hini : ini = true → yn = "<init>") (hr : am_rl cn nL ini (.arraylength) a len = true) (hd : decode cc pc = .ok (.arraylength, len)) (hi : am_i1 a lv st h = some (lv', st', h')) (hrm : am_rm R n0 z0 h') (k : am_W p l e R s m args below meth c D b ad nL n0 z0 Q (pc + len) lv' st' h') : am_W p l e R s m args below meth c D b ad nL n0 z0 Q pc lv st h := by
  simp only [am_rl, Bool.and_eq_true, decide_eq_true_eq] at hr
  obtain ⟨rfl, rfl⟩ := hr
  simp only [am_i1] at hi
  obtain ⟨e1, rfl, rfl⟩ := am_st_spec hi
  unfold am_alen at e1
  split at e1
  · split at e1
    · rename_i ob ho
      split at e1
      · rename_i hk
        cases e1
        obtain ⟨o1, o2⟩ := ob
        exact am_r_alen C hk ho hd k
      · cases e1
    · cases e1
  · cases e1
theorem am_o_iastore (C : am_C p R m c cc nL (am_own cn) s args D meth yn ad)  (hini : ini = true → yn = "<init>") (hr : am_rl cn nL ini (.iastore) a len = true) (hd : decode cc pc = .ok (.iastore, len)) (hi : am_i1 a lv st h = some (lv', st', h')) (hrm : am_rm R n0 z0 h') (k : am_W p l e R s m args below meth c D b ad nL n0 z0 Q (pc + len) lv' st' h') : am_W p l e R s m args below meth c D b ad nL n0 z0 Q pc lv st h := by
  simp only [am_rl, Bool.and_eq_true, decide_eq_true_eq] at hr
  obtain ⟨rfl, rfl⟩ := hr
  simp only [am_i1] at hi
  obtain ⟨e1, rfl⟩ := am_sh_spec hi
  unfold am_gst at e1
  split at e1
  · split at e1
    · rename_i ob ho
      split at e1
      · rename_i hk
        split at e1
        · rename_i j hj
          cases e1
          obtain ⟨o1, o2⟩ := ob
          unfold am_kI at hk
          simp only at hk
          split at hk
          · simp only [beq_iff_eq] at hk
            subst hk
            exact am_r_iast C ho hj hd k
          · cases hk
        · cases e1
      · cases e1
    · cases e1
  · cases e1
theorem am_o_lastore (C : am_C p R m c cc nL (am_own cn) s args D meth yn ad)  (hini : ini = true → yn = "<init>") (hr : am_rl cn nL ini (.lastore) a len = true) (hd : decode cc pc = .ok (.lastore, len)) (hi : am_i1 a lv st h = some (lv', st', h')) (hrm : am_rm R n0 z0 h') (k : am_W p l e R s m args below meth c D b ad nL n0 z0 Q (pc + len) lv' st' h') : am_W p l e R s m args below meth c D b ad nL n0 z0 Q pc lv st h := by
  simp only [am_rl, Bool.and_eq_true, decide_eq_true_eq] at hr
  obtain ⟨rfl, rfl⟩ := hr
  simp only [am_i1] at hi
  obtain ⟨e1, rfl⟩ := am_sh_spec hi
  unfold am_gst at e1
  split at e1
  · split at e1
    · rename_i ob ho
      split at e1
      · rename_i hk
        split at e1
        · rename_i j hj
          cases e1
          obtain ⟨o1, o2⟩ := ob
          unfold am_kJ at hk
          simp only at hk
          split at hk
          · simp only [beq_iff_eq] at hk
            subst hk
            exact am_r_last C ho hj hd k
          · cases hk
        · cases e1
      · cases e1
    · cases e1
  · cases e1
theorem am_o_bastore (C : am_C p R m c cc nL (am_own cn) s args D meth yn ad)  (hini : ini = true → yn = "<init>") (hr : am_rl cn nL ini (.bastore) a len = true) (hd : decode cc pc = .ok (.bastore, len)) (hi : am_i1 a lv st h = some (lv', st', h')) (hrm : am_rm R n0 z0 h') (k : am_W p l e R s m args below meth c D b ad nL n0 z0 Q (pc + len) lv' st' h') : am_W p l e R s m args below meth c D b ad nL n0 z0 Q pc lv st h := by
  simp only [am_rl, Bool.and_eq_true, decide_eq_true_eq] at hr
  obtain ⟨rfl, rfl⟩ := hr
  simp only [am_i1] at hi
  obtain ⟨e1, rfl⟩ := am_sh_spec hi
  unfold am_gst at e1
  split at e1
  · split at e1
    · rename_i ob ho
      split at e1
      · rename_i hk
        split at e1
        · rename_i j hj
          cases e1
          obtain ⟨o1, o2⟩ := ob
          unfold am_kZ at hk
          simp only at hk
          split at hk
          · simp only [Bool.and_eq_true, Bool.or_eq_true, beq_iff_eq] at hk
            obtain ⟨rfl, hx⟩ := hk
            exact am_r_zast C hx ho hj hd k
          · cases hk
        · cases e1
      · cases e1
    · cases e1
  · cases e1
theorem am_o_aastore (C : am_C p R m c cc nL (am_own cn) s args D meth yn ad)  (hini : ini = true → yn = "<init>") (hr : am_rl cn nL ini (.aastore) a len = true) (hd : decode cc pc = .ok (.aastore, len)) (hi : am_i1 a lv st h = some (lv', st', h')) (hrm : am_rm R n0 z0 h') (k : am_W p l e R s m args below meth c D b ad nL n0 z0 Q (pc + len) lv' st' h') : am_W p l e R s m args below meth c D b ad nL n0 z0 Q pc lv st h := by
  simp only [am_rl, Bool.and_eq_true, decide_eq_true_eq] at hr
  obtain ⟨rfl, rfl⟩ := hr
  simp only [am_i1] at hi
  obtain ⟨e1, rfl⟩ := am_sh_spec hi
  unfold am_gst at e1
  split at e1
  · split at e1
    · rename_i ob ho
      split at e1
      · rename_i hk
        split at e1
        · rename_i j hj
          cases e1
          obtain ⟨o1, o2⟩ := ob
          unfold am_kA at hk
          simp only at hk
          split at hk
          · simp only [Bool.and_eq_true, decide_eq_true_eq] at hk
            exact am_r_aastN C hk ho hj hd k
          · split at hk
            · rename_i ox hx
              simp only [Bool.and_eq_true, decide_eq_true_eq] at hk
              obtain ⟨hk1, rfl⟩ := hk
              obtain ⟨x1, x2⟩ := ox
              exact am_r_aastR C hk1 ho hx hj hd k
            · cases hk
          · cases hk
        · cases e1
      · cases e1
    · cases e1
  · cases e1
theorem am_o_new (C : am_C p R m c cc nL (am_own cn) s args D meth yn ad) {i : Nat} (hini : ini = true → yn = "<init>") (hr : am_rl cn nL ini (.new i) a len = true) (hd : decode cc pc = .ok (.new i, len)) (hi : am_i1 a lv st h = some (lv', st', h')) (hrm : am_rm R n0 z0 h') (k : am_W p l e R s m args below meth c D b ad nL n0 z0 Q (pc + len) lv' st' h') : am_W p l e R s m args below meth c D b ad nL n0 z0 Q pc lv st h := by
  simp only [am_rl] at hr
  split at hr
  · rename_i ci
    simp only [Bool.and_eq_true, decide_eq_true_eq] at hr
    obtain ⟨rfl, he⟩ := hr
    simp only [am_i1] at hi
    cases hi
    obtain ⟨C0, T, N, g1, g2, g3⟩ := am_en3 he
    obtain ⟨d1, d2⟩ := am_df_ok g1 g2
    obtain ⟨w2, w3⟩ := am_ini g1 g2
    exact am_r_new C (am_cls_of g1 g2) g3 w2 w3 d1 d2 hrm hd k
  · cases hr
theorem am_o_newarray (C : am_C p R m c cc nL (am_own cn) s args D meth yn ad) {t : ArrayType} (hini : ini = true → yn = "<init>") (hr : am_rl cn nL ini (.newarray t) a len = true) (hd : decode cc pc = .ok (.newarray t, len)) (hi : am_i1 a lv st h = some (lv', st', h')) (hrm : am_rm R n0 z0 h') (k : am_W p l e R s m args below meth c D b ad nL n0 z0 Q (pc + len) lv' st' h') : am_W p l e R s m args below meth c D b ad nL n0 z0 Q pc lv st h := by
  simp only [am_rl, Bool.and_eq_true, decide_eq_true_eq] at hr
  obtain ⟨rfl, rfl⟩ := hr
  simp only [am_i1] at hi
  split at hi
  · obtain ⟨e1, rfl⟩ := am_sh_spec hi
    unfold am_mka at e1
    split at e1
    · split at e1
      · rename_i hk
        cases e1
        exact am_r_newa (at0 := .int) C ⟨by decide, by decide⟩ rfl rfl rfl (fun t ht => by cases ht) (fun _ => Iff.rfl) (by decide) am_w_int hk.1 hk.2 hrm hd k
      · cases e1
    · cases e1
  · obtain ⟨e1, rfl⟩ := am_sh_spec hi
    unfold am_mka at e1
    split at e1
    · split at e1
      · rename_i hk
        cases e1
        exact am_r_newa (at0 := .long) C ⟨by decide, by decide⟩ rfl rfl rfl (fun t ht => by cases ht) (fun _ => Iff.rfl) (by decide) am_w_long hk.1 hk.2 hrm hd k
      · cases e1
    · cases e1
  · obtain ⟨e1, rfl⟩ := am_sh_spec hi
    unfold am_mka at e1
    split at e1
    · split at e1
      · rename_i hk
        cases e1
        exact am_r_newa (at0 := .boolean) C ⟨by decide, by decide⟩ rfl rfl rfl (fun t ht => by cases ht) (fun _ => Iff.rfl) (by decide) am_w_boolean hk.1 hk.2 hrm hd k
      · cases e1
    · cases e1
  · cases hi
theorem am_o_anewarray (C : am_C p R m c cc nL (am_own cn) s args D meth yn ad) {i : Nat} (hini : ini = true → yn = "<init>") (hr : am_rl cn nL ini (.anewarray i) a len = true) (hd : decode cc pc = .ok (.anewarray i, len)) (hi : am_i1 a lv st h = some (lv', st', h')) (hrm : am_rm R n0 z0 h') (k : am_W p l e R s m args below meth c D b ad nL n0 z0 Q (pc + len) lv' st' h') : am_W p l e R s m args below meth c D b ad nL n0 z0 Q pc lv st h := by
  simp only [am_rl] at hr
  split at hr
  · rename_i ki
    simp only [Bool.and_eq_true, Bool.or_eq_true, decide_eq_true_eq] at hr
    obtain ⟨rfl, he⟩ := hr
    simp only [am_i1] at hi
    obtain ⟨e1, rfl⟩ := am_sh_spec hi
    unfold am_mka at e1
    split at e1
    · split at e1
      · rename_i hk
        cases e1
        rcases he with (⟨rfl, he⟩ | ⟨rfl, he⟩) | ⟨⟨h2, ha⟩, he⟩
        · rcases am_en4 he with ⟨-, w⟩ | ⟨q, -⟩
          · exact am_r_anewA C w am_w_AI hk.1 hk.2 hrm hd k
          · cases q
        · rcases am_en4 he with ⟨q, -⟩ | ⟨-, w⟩
          · cases q
          · exact am_r_anew C ⟨by decide, by decide⟩ rfl w (by decide) hk.1 hk.2 hrm hd k
        · obtain ⟨C0, T, N, g1, g2, g3⟩ := am_en3 he
          obtain ⟨a1, a2, C1, a3, a4⟩ := am_ao_ok ha
          have hC : C1 = C0 := by
            have a5 : am_kty ki = .object (am_clN (ki - 200)) := by
              unfold am_kty
              rw [if_neg (by omega), if_neg (by omega), if_neg (by omega), if_neg (by omega), if_neg (by omega)]
            rw [a5] at a3
            unfold am_clN at a3
            rw [g1] at a3
            exact (FieldType.object.inj a3).symm
          subst hC
          exact am_r_anew C ⟨by omega, a2⟩ a3 g3 a4 hk.1 hk.2 hrm hd k
      · cases e1
    · cases e1
  · cases hr
theorem am_o_checkcast (C : am_C p R m c cc nL (am_own cn) s args D meth yn ad) {i : Nat} (hini : ini = true → yn = "<init>") (hr : am_rl cn nL ini (.checkcast i) a len = true) (hd : decode cc pc = .ok (.checkcast i, len)) (hi : am_i1 a lv st h = some (lv', st', h')) (hrm : am_rm R n0 z0 h') (k : am_W p l e R s m args below meth c D b ad nL n0 z0 Q (pc + len) lv' st' h') : am_W p l e R s m args below meth c D b ad nL n0 z0 Q pc lv st h := by
  simp only [am_rl] at hr
  split at hr
  · rename_i ci
    simp only [Bool.and_eq_true, decide_eq_true_eq] at hr
    obtain ⟨rfl, he⟩ := hr
    simp only [am_i1] at hi
    obtain ⟨C0, T, N, g1, g2, g3⟩ := am_en3 he
    split at hi
    · cases hi
      exact am_r_castN C hd k
    · split at hi
      · rename_i ob ho
        split at hi
        · rename_i hk
          cases hi
          obtain ⟨o1, o2⟩ := ob
          simp only at hk
          subst hk
          exact am_r_cast C (am_cls_of g1 g2).1 g1 g3 ho hd k
        · cases hi
      · cases hi
    · cases hi
  · cases hr
theorem am_o_invokespecial (C : am_C p R m c cc nL (am_own cn) s args D meth yn ad) {i : Nat} (hini : ini = true → yn = "<init>") (hr : am_rl cn nL ini (.invokespecial i) a len = true) (hd : decode cc pc = .ok (.invokespecial i, len)) (hi : am_i1 a lv st h = some (lv', st', h')) (hrm : am_rm R n0 z0 h') (k : am_W p l e R s m args below meth c D b ad nL n0 z0 Q (pc + len) lv' st' h') : am_W p l e R s m args below meth c D b ad nL n0 z0 Q pc lv st h := by
  simp only [am_rl] at hr
  split at hr
  · simp only [Bool.and_eq_true, decide_eq_true_eq] at hr
    obtain ⟨rfl, he⟩ := hr
    simp only [am_i1] at hi
    split at hi
    · split at hi
      · rename_i hk
        cases hi
        exact am_r_objI C (am_en9 he) am_w_oi am_w_oc hk hd k
      · cases hi
    · cases hi
  · cases hr
theorem am_o_invokestatic (C : am_C p R m c cc nL (am_own cn) s args D meth yn ad) {i : Nat} (hini : ini = true → yn = "<init>") (hr : am_rl cn nL ini (.invokestatic i) a len = true) (hd : decode cc pc = .ok (.invokestatic i, len)) (hi : am_i1 a lv st h = some (lv', st', h')) (hrm : am_rm R n0 z0 h') (k : am_W p l e R s m args below meth c D b ad nL n0 z0 Q (pc + len) lv' st' h') : am_W p l e R s m args below meth c D b ad nL n0 z0 Q pc lv st h := by
  simp only [am_rl] at hr
  split at hr
  · simp only [Bool.and_eq_true, Bool.or_eq_true, decide_eq_true_eq] at hr
    obtain ⟨rfl, he⟩ := hr
    simp only [am_i1] at hi
    split at hi
    · split at hi
      · rename_i hk
        cases hi
        rcases he with ⟨rfl, he⟩ | ⟨rfl, he⟩
        · exact am_r_mmin C (am_en10 he) am_w_mins am_w_math am_w_minc hrm hk hd k
        · exact am_r_mmax C (am_en11 he) am_w_maxs am_w_math am_w_maxc hrm hk hd k
      · cases hi
    · cases hi
  · cases hr
theorem am_one (C : am_C p R m c cc nL (am_own cn) s args D meth yn ad) {ci : Instr} (hini : ini = true → yn = "<init>") (hr : am_rl cn nL ini ci a len = true) (hd : decode cc pc = .ok (ci, len)) (hi : am_i1 a lv st h = some (lv', st', h')) (hrm : am_rm R n0 z0 h') (k : am_W p l e R s m args below meth c D b ad nL n0 z0 Q (pc + len) lv' st' h') : am_W p l e R s m args below meth c D b ad nL n0 z0 Q pc lv st h := by
  cases ci with
  | iadd => exact am_o_iadd C hini hr hd hi hrm k
  | isub => exact am_o_isub C hini hr hd hi hrm k
  | imul => exact am_o_imul C hini hr hd hi hrm k
  | iand => exact am_o_iand C hini hr hd hi hrm k
  | ior => exact am_o_ior C hini hr hd hi hrm k
  | ixor => exact am_o_ixor C hini hr hd hi hrm k
  | ishl => exact am_o_ishl C hini hr hd hi hrm k
  | ishr => exact am_o_ishr C hini hr hd hi hrm k
  | iushr => exact am_o_iushr C hini hr hd hi hrm k
  | ladd => exact am_o_ladd C hini hr hd hi hrm k
  | lsub => exact am_o_lsub C hini hr hd hi hrm k
  | lmul => exact am_o_lmul C hini hr hd hi hrm k
  | land => exact am_o_land C hini hr hd hi hrm k
  | lor => exact am_o_lor C hini hr hd hi hrm k
  | lcmp => exact am_o_lcmp C hini hr hd hi hrm k
  | lshl => exact am_o_lshl C hini hr hd hi hrm k
  | lushr => exact am_o_lushr C hini hr hd hi hrm k
  | idiv => exact am_o_idiv C hini hr hd hi hrm k
  | irem => exact am_o_irem C hini hr hd hi hrm k
  | ineg => exact am_o_ineg C hini hr hd hi hrm k
  | i2l => exact am_o_i2l C hini hr hd hi hrm k
  | l2i => exact am_o_l2i C hini hr hd hi hrm k
  | dup => exact am_o_dup C hini hr hd hi hrm k
  | pop => exact am_o_pop C hini hr hd hi hrm k
  | dup_x1 => exact am_o_dup_x1 C hini hr hd hi hrm k
  | dup2 => exact am_o_dup2 C hini hr hd hi hrm k
  | iaload => exact am_o_iaload C hini hr hd hi hrm k
  | laload => exact am_o_laload C hini hr hd hi hrm k
  | baload => exact am_o_baload C hini hr hd hi hrm k
  | aaload => exact am_o_aaload C hini hr hd hi hrm k
  | arraylength => exact am_o_arraylength C hini hr hd hi hrm k
  | iastore => exact am_o_iastore C hini hr hd hi hrm k
  | lastore => exact am_o_lastore C hini hr hd hi hrm k
  | bastore => exact am_o_bastore C hini hr hd hi hrm k
  | aastore => exact am_o_aastore C hini hr hd hi hrm k
  | aconst_null => exact am_o_null C hini hr hd hi hrm k
  | iconst _ => exact am_o_iconst C hini hr hd hi hrm k
  | bipush _ => exact am_o_bipush C hini hr hd hi hrm k
  | sipush _ => exact am_o_sipush C hini hr hd hi hrm k
  | lconst _ => exact am_o_lconst C hini hr hd hi hrm k
  | ldc _ => exact am_o_ldc C hini hr hd hi hrm k
  | ldc_w _ => exact am_o_ldc_w C hini hr hd hi hrm k
  | ldc2_w _ => exact am_o_ldc2_w C hini hr hd hi hrm k
  | iload _ => exact am_o_iload C hini hr hd hi hrm k
  | iload_n _ => exact am_o_iload_n C hini hr hd hi hrm k
  | lload _ => exact am_o_lload C hini hr hd hi hrm k
  | lload_n _ => exact am_o_lload_n C hini hr hd hi hrm k
  | istore _ => exact am_o_istore C hini hr hd hi hrm k
  | istore_n _ => exact am_o_istore_n C hini hr hd hi hrm k
  | lstore _ => exact am_o_lstore C hini hr hd hi hrm k
  | lstore_n _ => exact am_o_lstore_n C hini hr hd hi hrm k
  | aload _ => exact am_o_aload C hini hr hd hi hrm k
  | aload_n _ => exact am_o_aload_n C hini hr hd hi hrm k
  | astore _ => exact am_o_astore C hini hr hd hi hrm k
  | astore_n _ => exact am_o_astore_n C hini hr hd hi hrm k
  | getfield _ => exact am_o_getfield C hini hr hd hi hrm k
  | putfield _ => exact am_o_putfield C hini hr hd hi hrm k
  | new _ => exact am_o_new C hini hr hd hi hrm k
  | newarray _ => exact am_o_newarray C hini hr hd hi hrm k
  | anewarray _ => exact am_o_anewarray C hini hr hd hi hrm k
  | checkcast _ => exact am_o_checkcast C hini hr hd hi hrm k
  | invokespecial _ => exact am_o_invokespecial C hini hr hd hi hrm k
  | invokestatic _ => exact am_o_invokestatic C hini hr hd hi hrm k
  | iinc _ _ => exact am_o_iinc C hini hr hd hi hrm k
  | _ => exact absurd hr Bool.false_ne_true
end AMO
