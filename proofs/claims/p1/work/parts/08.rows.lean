variable {sc : List Int32}
/-! THE STEPS: what one instruction does, in the abstract, and that the machine does it -/
def am_ok (ty : FieldType) (v : Value) : Bool := match ty, v with
  | .object _, .ref _ => true
  | .object _, .retAddr _ => true
  | .object _, .null => true
  | .array _, .ref _ => true
  | .array _, .retAddr _ => true
  | .array _, .null => true
  | .int, .int _ => true
  | .long, .long _ => true
  | .boolean, .int x => x == 0 || x == 1
  | _, _ => false
theorem am_ok_spec {ty : FieldType} {v : Value} (b : Nat) (ad : Nat → Nat) (h : am_ok ty v = true) : narrow ty (am_mv b ad v) = am_mv b ad v ∧ fits ty (am_mv b ad v) = true := by
  cases ty <;> cases v <;> first
    | (simp [am_ok] at h; done)
    | exact ⟨rfl, rfl⟩
    | (rename_i x
       simp only [am_ok, Bool.or_eq_true, beq_iff_eq] at h
       rcases h with h | h <;> subst h <;> exact ⟨rfl, rfl⟩)
section AMR
variable {p : Program} {l : Launch} {e : Env} {R : Room} {s : State} {m : MethodId} {args : Array Value} {below : List Frame} {meth : Method} {c : Code} {Q : State → Prop}
variable {cc : ByteArray} {nL n0 z0 pc b : Nat} {own yn : String} {ad : Nat → Nat} {D : va_G} {lv : am_V} {st : List Value} {h : am_H}
def am_W (sc : List Int32) (p : Program) (l : Launch) (e : Env) (R : Room) (s : State) (m : MethodId) (args : Array Value) (below : List Frame) (meth : Method) (c : Code) (D : va_G) (b : Nat) (ad : Nat → Nat) (nL n0 z0 : Nat) (Q : State → Prop) (pc : Nat) (lv : am_V) (st : List Value) (h : am_H) : Prop :=
  ∀ (ls : Array Slot) (H : Heap) (locs : List Loc) (cells slots : Nat), lv_has ls nL (am_L b ad lv) → am_R sc s D b ad h H → va_S (fun q => b ≤ q) s.heap H locs → cells + n0 = h.length → slots + z0 = am_sz h →
    W p l e R s m args below meth c H locs cells slots Q (F0 m pc ls (st.map (am_mv b ad)))
/-- what holds all along a method: the machine, its code, its class, the words, the classes of the objects, the constants -/
def am_C (p : Program) (R : Room) (m : MethodId) (c : Code) (cc : ByteArray) (nL : Nat) (own : String) (s : State) (args : Array Value) (D : va_G) (meth : Method) (yn : String) (ad : Nat → Nat) : Prop :=
  p.tables.exec = Jvm.exec ∧ c.code = cc ∧ c.maxLocals = nL ∧ s.vm.findClass own = some m.cls ∧ (∀ w ∈ am_T, w.before args s = true) ∧ va_K D vwCl [] s ∧ meth.name = yn ∧ 1 ≤ R.frames ∧ 60 ≤ R.locals ∧ am_E ad s
theorem am_r_iconst (C : am_C p R m c cc nL own s args D meth yn ad) {n : Int} (hd : decode cc pc = .ok (.iconst n, 1)) (k : am_W sc p l e R s m args below meth c D b ad nL n0 z0 Q (pc + 1) lv (.int (Int32.ofInt n) :: st) h) : am_W sc p l e R s m args below meth c D b ad nL n0 z0 Q pc lv st h :=
  fun ls H locs cl sl h1 h2 h3 h4 h5 => lv_iconst C.1 C.2.1 hd rfl (k ls H locs cl sl h1 h2 h3 h4 h5)
theorem am_r_bipush (C : am_C p R m c cc nL own s args D meth yn ad) {n : Int} (hd : decode cc pc = .ok (.bipush n, 2)) (hv : (Int8.ofInt n).toInt32 = Int32.ofInt n) (k : am_W sc p l e R s m args below meth c D b ad nL n0 z0 Q (pc + 2) lv (.int (Int32.ofInt n) :: st) h) : am_W sc p l e R s m args below meth c D b ad nL n0 z0 Q pc lv st h :=
  fun ls H locs cl sl h1 h2 h3 h4 h5 => lv_bipush C.1 C.2.1 hd hv (k ls H locs cl sl h1 h2 h3 h4 h5)
theorem am_r_sipush (C : am_C p R m c cc nL own s args D meth yn ad) {n : Int} (hd : decode cc pc = .ok (.sipush n, 3)) (hv : (Int16.ofInt n).toInt32 = Int32.ofInt n) (k : am_W sc p l e R s m args below meth c D b ad nL n0 z0 Q (pc + 3) lv (.int (Int32.ofInt n) :: st) h) : am_W sc p l e R s m args below meth c D b ad nL n0 z0 Q pc lv st h :=
  fun ls H locs cl sl h1 h2 h3 h4 h5 => lv_sipush C.1 C.2.1 hd hv (k ls H locs cl sl h1 h2 h3 h4 h5)
theorem am_r_lconst (C : am_C p R m c cc nL own s args D meth yn ad) {n : Fin 2} (hd : decode cc pc = .ok (.lconst n, 1)) {v : Int64} (hv : Int64.ofNat (n : Nat) = v) (k : am_W sc p l e R s m args below meth c D b ad nL n0 z0 Q (pc + 1) lv (.long v :: st) h) : am_W sc p l e R s m args below meth c D b ad nL n0 z0 Q pc lv st h :=
  fun ls H locs cl sl h1 h2 h3 h4 h5 => lv_lconst C.1 C.2.1 hd hv (k ls H locs cl sl h1 h2 h3 h4 h5)
theorem am_r_null (C : am_C p R m c cc nL own s args D meth yn ad) (hd : decode cc pc = .ok (.aconst_null, 1)) (k : am_W sc p l e R s m args below meth c D b ad nL n0 z0 Q (pc + 1) lv (.null :: st) h) : am_W sc p l e R s m args below meth c D b ad nL n0 z0 Q pc lv st h :=
  fun ls H locs cl sl h1 h2 h3 h4 h5 => lv_null C.1 C.2.1 hd (k ls H locs cl sl h1 h2 h3 h4 h5)
theorem am_r_ldc (C : am_C p R m c cc nL own s args D meth yn ad) {i : Nat} {v : Int32} (hw : Jvm.Cond.constant own i v ∈ am_T) (hd : decode cc pc = .ok (.ldc i, 2)) (k : am_W sc p l e R s m args below meth c D b ad nL n0 z0 Q (pc + 2) lv (.int v :: st) h) : am_W sc p l e R s m args below meth c D b ad nL n0 z0 Q pc lv st h :=
  fun ls H locs cl sl h1 h2 h3 h4 h5 => lv_ldc C.1 C.2.1 C.2.2.2.1 (C.2.2.2.2.1 _ hw) hd (k ls H locs cl sl h1 h2 h3 h4 h5)
theorem am_r_ldcw (C : am_C p R m c cc nL own s args D meth yn ad) {i : Nat} {v : Int32} (hw : Jvm.Cond.constant own i v ∈ am_T) (hd : decode cc pc = .ok (.ldc_w i, 3)) (k : am_W sc p l e R s m args below meth c D b ad nL n0 z0 Q (pc + 3) lv (.int v :: st) h) : am_W sc p l e R s m args below meth c D b ad nL n0 z0 Q pc lv st h :=
  fun ls H locs cl sl h1 h2 h3 h4 h5 => lv_ldcw C.1 C.2.1 C.2.2.2.1 (C.2.2.2.2.1 _ hw) hd (k ls H locs cl sl h1 h2 h3 h4 h5)
theorem am_r_ldc2 (C : am_C p R m c cc nL own s args D meth yn ad) {i : Nat} {v : Int64} (hw : Jvm.Cond.constantLong own i v ∈ am_T) (hd : decode cc pc = .ok (.ldc2_w i, 3)) (k : am_W sc p l e R s m args below meth c D b ad nL n0 z0 Q (pc + 3) lv (.long v :: st) h) : am_W sc p l e R s m args below meth c D b ad nL n0 z0 Q pc lv st h :=
  fun ls H locs cl sl h1 h2 h3 h4 h5 => lv_ldc2 C.1 C.2.1 C.2.2.2.1 (C.2.2.2.2.1 _ hw) hd (k ls H locs cl sl h1 h2 h3 h4 h5)
theorem am_r_ldcS (C : am_C p R m c cc nL own s args D meth yn ad) {i k0 : Nat} {tx : String} (hw : (own, i, tx, k0) ∈ am_strs) (hd : decode cc pc = .ok (.ldc i, 2)) (k : am_W sc p l e R s m args below meth c D b ad nL n0 z0 Q (pc + 2) lv (.retAddr k0 :: st) h) : am_W sc p l e R s m args below meth c D b ad nL n0 z0 Q pc lv st h :=
  fun ls H locs cl sl h1 h2 h3 h4 h5 => va_ldcS C.1 C.2.1 C.2.2.2.1 (am_E_str C.2.2.2.2.2.2.2.2.2 hw) hd (k ls H locs cl sl h1 h2 h3 h4 h5)
theorem am_r_ldcWS (C : am_C p R m c cc nL own s args D meth yn ad) {i k0 : Nat} {tx : String} (hw : (own, i, tx, k0) ∈ am_strs) (hd : decode cc pc = .ok (.ldc_w i, 3)) (k : am_W sc p l e R s m args below meth c D b ad nL n0 z0 Q (pc + 3) lv (.retAddr k0 :: st) h) : am_W sc p l e R s m args below meth c D b ad nL n0 z0 Q pc lv st h := by
  intro ls H locs cl sl h1 h2 h3 h4 h5 T hT X
  have hZ := am_E_str C.2.2.2.2.2.2.2.2.2 hw
  obtain ⟨t, a1, b1⟩ := k ls H locs cl sl h1 h2 h3 h4 h5 T hT X
  exact ⟨t, X.ldcStringW C.1 C.2.2.2.1 (text := tx) (a := ad k0) hZ.1 hZ.2 (g := F0 m pc ls (st.map (am_mv b ad))) rfl (by rw [C.2.1]; exact hd) t a1, b1⟩
theorem am_r_iload (C : am_C p R m c cc nL own s args D meth yn ad) {i : Nat} {x : Int32} (hl : am_ld lv i = some (.int x)) (hd : decode cc pc = .ok (.iload i, 2)) (k : am_W sc p l e R s m args below meth c D b ad nL n0 z0 Q (pc + 2) lv (.int x :: st) h) : am_W sc p l e R s m args below meth c D b ad nL n0 z0 Q pc lv st h :=
  fun ls H locs cl sl h1 h2 h3 h4 h5 => lv_iload C.1 C.2.1 hd (am_ld_has h1 hl) (k ls H locs cl sl h1 h2 h3 h4 h5)
theorem am_r_iload_n (C : am_C p R m c cc nL own s args D meth yn ad) {i : Fin 4} {x : Int32} (hl : am_ld lv i = some (.int x)) (hd : decode cc pc = .ok (.iload_n i, 1)) (k : am_W sc p l e R s m args below meth c D b ad nL n0 z0 Q (pc + 1) lv (.int x :: st) h) : am_W sc p l e R s m args below meth c D b ad nL n0 z0 Q pc lv st h :=
  fun ls H locs cl sl h1 h2 h3 h4 h5 => lv_iload_n C.1 C.2.1 hd rfl (am_ld_has h1 hl) (k ls H locs cl sl h1 h2 h3 h4 h5)
theorem am_r_lload (C : am_C p R m c cc nL own s args D meth yn ad) {i : Nat} {x : Int64} (hl : am_ld lv i = some (.long x)) (hd : decode cc pc = .ok (.lload i, 2)) (k : am_W sc p l e R s m args below meth c D b ad nL n0 z0 Q (pc + 2) lv (.long x :: st) h) : am_W sc p l e R s m args below meth c D b ad nL n0 z0 Q pc lv st h :=
  fun ls H locs cl sl h1 h2 h3 h4 h5 => lv_lload C.1 C.2.1 hd (am_ld_has h1 hl) (k ls H locs cl sl h1 h2 h3 h4 h5)
theorem am_r_lload_n (C : am_C p R m c cc nL own s args D meth yn ad) {i : Fin 4} {x : Int64} (hl : am_ld lv i = some (.long x)) (hd : decode cc pc = .ok (.lload_n i, 1)) (k : am_W sc p l e R s m args below meth c D b ad nL n0 z0 Q (pc + 1) lv (.long x :: st) h) : am_W sc p l e R s m args below meth c D b ad nL n0 z0 Q pc lv st h :=
  fun ls H locs cl sl h1 h2 h3 h4 h5 => lv_lload_n C.1 C.2.1 hd rfl (am_ld_has h1 hl) (k ls H locs cl sl h1 h2 h3 h4 h5)
theorem am_r_aload (C : am_C p R m c cc nL own s args D meth yn ad) {i : Nat} {v : Value} (hl : am_ld lv i = some v) (hv : v = .null ∨ (∃ x, v = .ref x) ∨ ∃ x, v = .retAddr x) (hd : decode cc pc = .ok (.aload i, 2)) (k : am_W sc p l e R s m args below meth c D b ad nL n0 z0 Q (pc + 2) lv (v :: st) h) : am_W sc p l e R s m args below meth c D b ad nL n0 z0 Q pc lv st h := by
  intro ls H locs cl sl h1 h2 h3 h4 h5
  rcases hv with rfl | ⟨x, rfl⟩ | ⟨x, rfl⟩
  · exact lv_aloadN C.1 C.2.1 hd (am_ld_has h1 hl) (k ls H locs cl sl h1 h2 h3 h4 h5)
  · exact lv_aload C.1 C.2.1 hd (am_ld_has h1 hl) (k ls H locs cl sl h1 h2 h3 h4 h5)
  · exact lv_aload C.1 C.2.1 hd (am_ld_has h1 hl) (k ls H locs cl sl h1 h2 h3 h4 h5)
theorem am_r_aload_n (C : am_C p R m c cc nL own s args D meth yn ad) {i : Fin 4} {v : Value} (hl : am_ld lv i = some v) (hv : v = .null ∨ (∃ x, v = .ref x) ∨ ∃ x, v = .retAddr x) (hd : decode cc pc = .ok (.aload_n i, 1)) (k : am_W sc p l e R s m args below meth c D b ad nL n0 z0 Q (pc + 1) lv (v :: st) h) : am_W sc p l e R s m args below meth c D b ad nL n0 z0 Q pc lv st h := by
  intro ls H locs cl sl h1 h2 h3 h4 h5
  rcases hv with rfl | ⟨x, rfl⟩ | ⟨x, rfl⟩
  · exact lv_aload_nN C.1 C.2.1 hd rfl (am_ld_has h1 hl) (k ls H locs cl sl h1 h2 h3 h4 h5)
  · exact lv_aload_n C.1 C.2.1 hd rfl (am_ld_has h1 hl) (k ls H locs cl sl h1 h2 h3 h4 h5)
  · exact lv_aload_n C.1 C.2.1 hd rfl (am_ld_has h1 hl) (k ls H locs cl sl h1 h2 h3 h4 h5)
theorem am_r_istore (C : am_C p R m c cc nL own s args D meth yn ad) {i : Nat} {x : Int32} (hn : i < nL) (hd : decode cc pc = .ok (.istore i, 2)) (k : am_W sc p l e R s m args below meth c D b ad nL n0 z0 Q (pc + 2) (am_s1 lv i (.int x)) st h) : am_W sc p l e R s m args below meth c D b ad nL n0 z0 Q pc lv (.int x :: st) h :=
  fun ls H locs cl sl h1 h2 h3 h4 h5 => lv_istore C.1 C.2.1 hd h1 hn (am_L_s1 b ad lv i (.int x)) (fun ls' h' => k ls' H locs cl sl h' h2 h3 h4 h5)
theorem am_r_istore_n (C : am_C p R m c cc nL own s args D meth yn ad) {i : Fin 4} {x : Int32} (hn : (i : Nat) < nL) (hd : decode cc pc = .ok (.istore_n i, 1)) (k : am_W sc p l e R s m args below meth c D b ad nL n0 z0 Q (pc + 1) (am_s1 lv i (.int x)) st h) : am_W sc p l e R s m args below meth c D b ad nL n0 z0 Q pc lv (.int x :: st) h :=
  fun ls H locs cl sl h1 h2 h3 h4 h5 => lv_istore_n C.1 C.2.1 hd rfl h1 hn (am_L_s1 b ad lv i (.int x)) (fun ls' h' => k ls' H locs cl sl h' h2 h3 h4 h5)
theorem am_r_lstore (C : am_C p R m c cc nL own s args D meth yn ad) {i : Nat} {x : Int64} (hn : i + 1 < nL) (hd : decode cc pc = .ok (.lstore i, 2)) (k : am_W sc p l e R s m args below meth c D b ad nL n0 z0 Q (pc + 2) (am_s2 lv i (.long x)) st h) : am_W sc p l e R s m args below meth c D b ad nL n0 z0 Q pc lv (.long x :: st) h :=
  fun ls H locs cl sl h1 h2 h3 h4 h5 => lv_lstore C.1 C.2.1 hd h1 hn (am_L_s2 b ad lv i (.long x)) (fun ls' h' => k ls' H locs cl sl h' h2 h3 h4 h5)
theorem am_r_lstore_n (C : am_C p R m c cc nL own s args D meth yn ad) {i : Fin 4} {x : Int64} (hn : (i : Nat) + 1 < nL) (hd : decode cc pc = .ok (.lstore_n i, 1)) (k : am_W sc p l e R s m args below meth c D b ad nL n0 z0 Q (pc + 1) (am_s2 lv i (.long x)) st h) : am_W sc p l e R s m args below meth c D b ad nL n0 z0 Q pc lv (.long x :: st) h :=
  fun ls H locs cl sl h1 h2 h3 h4 h5 => lv_lstore_n C.1 C.2.1 hd rfl h1 hn (am_L_s2 b ad lv i (.long x)) (fun ls' h' => k ls' H locs cl sl h' h2 h3 h4 h5)
theorem am_r_astore (C : am_C p R m c cc nL own s args D meth yn ad) {i : Nat} {v : Value} (hv : v = .null ∨ (∃ x, v = .ref x) ∨ ∃ x, v = .retAddr x) (hn : i < nL) (hd : decode cc pc = .ok (.astore i, 2)) (k : am_W sc p l e R s m args below meth c D b ad nL n0 z0 Q (pc + 2) (am_s1 lv i v) st h) : am_W sc p l e R s m args below meth c D b ad nL n0 z0 Q pc lv (v :: st) h := by
  intro ls H locs cl sl h1 h2 h3 h4 h5
  rcases hv with rfl | ⟨x, rfl⟩ | ⟨x, rfl⟩
  · exact lv_astoreN C.1 C.2.1 hd h1 hn (am_L_s1 b ad lv i .null) (fun ls' h' => k ls' H locs cl sl h' h2 h3 h4 h5)
  · exact lv_astore C.1 C.2.1 hd h1 hn (am_L_s1 b ad lv i (.ref x)) (fun ls' h' => k ls' H locs cl sl h' h2 h3 h4 h5)
  · exact lv_astore C.1 C.2.1 hd h1 hn (am_L_s1 b ad lv i (.retAddr x)) (fun ls' h' => k ls' H locs cl sl h' h2 h3 h4 h5)
theorem am_r_astore_n (C : am_C p R m c cc nL own s args D meth yn ad) {i : Fin 4} {v : Value} (hv : v = .null ∨ (∃ x, v = .ref x) ∨ ∃ x, v = .retAddr x) (hn : (i : Nat) < nL) (hd : decode cc pc = .ok (.astore_n i, 1)) (k : am_W sc p l e R s m args below meth c D b ad nL n0 z0 Q (pc + 1) (am_s1 lv i v) st h) : am_W sc p l e R s m args below meth c D b ad nL n0 z0 Q pc lv (v :: st) h := by
  intro ls H locs cl sl h1 h2 h3 h4 h5
  rcases hv with rfl | ⟨x, rfl⟩ | ⟨x, rfl⟩
  · exact lv_astore_nN C.1 C.2.1 hd rfl h1 hn (am_L_s1 b ad lv i .null) (fun ls' h' => k ls' H locs cl sl h' h2 h3 h4 h5)
  · exact lv_astore_n C.1 C.2.1 hd rfl h1 hn (am_L_s1 b ad lv i (.ref x)) (fun ls' h' => k ls' H locs cl sl h' h2 h3 h4 h5)
  · exact lv_astore_n C.1 C.2.1 hd rfl h1 hn (am_L_s1 b ad lv i (.retAddr x)) (fun ls' h' => k ls' H locs cl sl h' h2 h3 h4 h5)
theorem am_r_iinc (C : am_C p R m c cc nL own s args D meth yn ad) {i : Nat} {n : Int} {x : Int32} (hl : am_ld lv i = some (.int x)) (hn : i < nL) (hd : decode cc pc = .ok (.iinc i n, 3)) (k : am_W sc p l e R s m args below meth c D b ad nL n0 z0 Q (pc + 3) (am_s1 lv i (.int (x + Int32.ofInt n))) st h) : am_W sc p l e R s m args below meth c D b ad nL n0 z0 Q pc lv st h := by
  intro ls H locs cl sl h1 h2 h3 h4 h5
  obtain ⟨q, hq⟩ := am_ld_at (b := b) (ad := ad) hl
  exact lv_iinc C.1 C.2.1 hd h1 hq rfl hn (am_L_s1 b ad lv i (.int (x + Int32.ofInt n))) (fun ls' h' => k ls' H locs cl sl h' h2 h3 h4 h5)
theorem am_r_iadd (C : am_C p R m c cc nL own s args D meth yn ad) {x y : Int32} (hd : decode cc pc = .ok (.iadd, 1)) (k : am_W sc p l e R s m args below meth c D b ad nL n0 z0 Q (pc + 1) lv (.int (x + y) :: st) h) : am_W sc p l e R s m args below meth c D b ad nL n0 z0 Q pc lv (.int y :: .int x :: st) h :=
  fun ls H locs cl sl h1 h2 h3 h4 h5 => lv_iadd C.1 C.2.1 hd (k ls H locs cl sl h1 h2 h3 h4 h5)
theorem am_r_isub (C : am_C p R m c cc nL own s args D meth yn ad) {x y : Int32} (hd : decode cc pc = .ok (.isub, 1)) (k : am_W sc p l e R s m args below meth c D b ad nL n0 z0 Q (pc + 1) lv (.int (x - y) :: st) h) : am_W sc p l e R s m args below meth c D b ad nL n0 z0 Q pc lv (.int y :: .int x :: st) h :=
  fun ls H locs cl sl h1 h2 h3 h4 h5 => lv_isub C.1 C.2.1 hd (k ls H locs cl sl h1 h2 h3 h4 h5)
theorem am_r_imul (C : am_C p R m c cc nL own s args D meth yn ad) {x y : Int32} (hd : decode cc pc = .ok (.imul, 1)) (k : am_W sc p l e R s m args below meth c D b ad nL n0 z0 Q (pc + 1) lv (.int (x * y) :: st) h) : am_W sc p l e R s m args below meth c D b ad nL n0 z0 Q pc lv (.int y :: .int x :: st) h :=
  fun ls H locs cl sl h1 h2 h3 h4 h5 => lv_imul C.1 C.2.1 hd (k ls H locs cl sl h1 h2 h3 h4 h5)
theorem am_r_iand (C : am_C p R m c cc nL own s args D meth yn ad) {x y : Int32} (hd : decode cc pc = .ok (.iand, 1)) (k : am_W sc p l e R s m args below meth c D b ad nL n0 z0 Q (pc + 1) lv (.int (x &&& y) :: st) h) : am_W sc p l e R s m args below meth c D b ad nL n0 z0 Q pc lv (.int y :: .int x :: st) h :=
  fun ls H locs cl sl h1 h2 h3 h4 h5 => lv_iand C.1 C.2.1 hd (k ls H locs cl sl h1 h2 h3 h4 h5)
theorem am_r_ior (C : am_C p R m c cc nL own s args D meth yn ad) {x y : Int32} (hd : decode cc pc = .ok (.ior, 1)) (k : am_W sc p l e R s m args below meth c D b ad nL n0 z0 Q (pc + 1) lv (.int (x ||| y) :: st) h) : am_W sc p l e R s m args below meth c D b ad nL n0 z0 Q pc lv (.int y :: .int x :: st) h :=
  fun ls H locs cl sl h1 h2 h3 h4 h5 => lv_ior C.1 C.2.1 hd (k ls H locs cl sl h1 h2 h3 h4 h5)
theorem am_r_ixor (C : am_C p R m c cc nL own s args D meth yn ad) {x y : Int32} (hd : decode cc pc = .ok (.ixor, 1)) (k : am_W sc p l e R s m args below meth c D b ad nL n0 z0 Q (pc + 1) lv (.int (x ^^^ y) :: st) h) : am_W sc p l e R s m args below meth c D b ad nL n0 z0 Q pc lv (.int y :: .int x :: st) h :=
  fun ls H locs cl sl h1 h2 h3 h4 h5 => lv_ixor C.1 C.2.1 hd (k ls H locs cl sl h1 h2 h3 h4 h5)
theorem am_r_ishl (C : am_C p R m c cc nL own s args D meth yn ad) {x y : Int32} (hd : decode cc pc = .ok (.ishl, 1)) (k : am_W sc p l e R s m args below meth c D b ad nL n0 z0 Q (pc + 1) lv (.int (x <<< (y &&& 31)) :: st) h) : am_W sc p l e R s m args below meth c D b ad nL n0 z0 Q pc lv (.int y :: .int x :: st) h :=
  fun ls H locs cl sl h1 h2 h3 h4 h5 => lv_ishl C.1 C.2.1 hd (k ls H locs cl sl h1 h2 h3 h4 h5)
theorem am_r_ishr (C : am_C p R m c cc nL own s args D meth yn ad) {x y : Int32} (hd : decode cc pc = .ok (.ishr, 1)) (k : am_W sc p l e R s m args below meth c D b ad nL n0 z0 Q (pc + 1) lv (.int (x >>> (y &&& 31)) :: st) h) : am_W sc p l e R s m args below meth c D b ad nL n0 z0 Q pc lv (.int y :: .int x :: st) h :=
  fun ls H locs cl sl h1 h2 h3 h4 h5 => lv_ishr C.1 C.2.1 hd (k ls H locs cl sl h1 h2 h3 h4 h5)
theorem am_r_idiv (C : am_C p R m c cc nL own s args D meth yn ad) {x y : Int32} (hne : ¬ y = 0) (hd : decode cc pc = .ok (.idiv, 1)) (k : am_W sc p l e R s m args below meth c D b ad nL n0 z0 Q (pc + 1) lv (.int (x / y) :: st) h) : am_W sc p l e R s m args below meth c D b ad nL n0 z0 Q pc lv (.int y :: .int x :: st) h :=
  fun ls H locs cl sl h1 h2 h3 h4 h5 => lv_idiv C.1 C.2.1 hd hne (k ls H locs cl sl h1 h2 h3 h4 h5)
theorem am_r_irem (C : am_C p R m c cc nL own s args D meth yn ad) {x y : Int32} (hne : ¬ y = 0) (hd : decode cc pc = .ok (.irem, 1)) (k : am_W sc p l e R s m args below meth c D b ad nL n0 z0 Q (pc + 1) lv (.int (x - x / y * y) :: st) h) : am_W sc p l e R s m args below meth c D b ad nL n0 z0 Q pc lv (.int y :: .int x :: st) h :=
  fun ls H locs cl sl h1 h2 h3 h4 h5 => lv_irem C.1 C.2.1 hd hne (k ls H locs cl sl h1 h2 h3 h4 h5)
theorem am_r_ineg (C : am_C p R m c cc nL own s args D meth yn ad) {x : Int32} (hd : decode cc pc = .ok (.ineg, 1)) (k : am_W sc p l e R s m args below meth c D b ad nL n0 z0 Q (pc + 1) lv (.int (-x) :: st) h) : am_W sc p l e R s m args below meth c D b ad nL n0 z0 Q pc lv (.int x :: st) h :=
  fun ls H locs cl sl h1 h2 h3 h4 h5 => lv_ineg C.1 C.2.1 hd (k ls H locs cl sl h1 h2 h3 h4 h5)
theorem am_r_ladd (C : am_C p R m c cc nL own s args D meth yn ad) {x y : Int64} (hd : decode cc pc = .ok (.ladd, 1)) (k : am_W sc p l e R s m args below meth c D b ad nL n0 z0 Q (pc + 1) lv (.long (x + y) :: st) h) : am_W sc p l e R s m args below meth c D b ad nL n0 z0 Q pc lv (.long y :: .long x :: st) h :=
  fun ls H locs cl sl h1 h2 h3 h4 h5 => lv_ladd C.1 C.2.1 hd (k ls H locs cl sl h1 h2 h3 h4 h5)
theorem am_r_lsub (C : am_C p R m c cc nL own s args D meth yn ad) {x y : Int64} (hd : decode cc pc = .ok (.lsub, 1)) (k : am_W sc p l e R s m args below meth c D b ad nL n0 z0 Q (pc + 1) lv (.long (x - y) :: st) h) : am_W sc p l e R s m args below meth c D b ad nL n0 z0 Q pc lv (.long y :: .long x :: st) h :=
  fun ls H locs cl sl h1 h2 h3 h4 h5 => lv_lsub C.1 C.2.1 hd (k ls H locs cl sl h1 h2 h3 h4 h5)
theorem am_r_lmul (C : am_C p R m c cc nL own s args D meth yn ad) {x y : Int64} (hd : decode cc pc = .ok (.lmul, 1)) (k : am_W sc p l e R s m args below meth c D b ad nL n0 z0 Q (pc + 1) lv (.long (x * y) :: st) h) : am_W sc p l e R s m args below meth c D b ad nL n0 z0 Q pc lv (.long y :: .long x :: st) h :=
  fun ls H locs cl sl h1 h2 h3 h4 h5 => lv_lmul C.1 C.2.1 hd (k ls H locs cl sl h1 h2 h3 h4 h5)
theorem am_r_land (C : am_C p R m c cc nL own s args D meth yn ad) {x y : Int64} (hd : decode cc pc = .ok (.land, 1)) (k : am_W sc p l e R s m args below meth c D b ad nL n0 z0 Q (pc + 1) lv (.long (x &&& y) :: st) h) : am_W sc p l e R s m args below meth c D b ad nL n0 z0 Q pc lv (.long y :: .long x :: st) h :=
  fun ls H locs cl sl h1 h2 h3 h4 h5 => lv_land C.1 C.2.1 hd (k ls H locs cl sl h1 h2 h3 h4 h5)
theorem am_r_lor (C : am_C p R m c cc nL own s args D meth yn ad) {x y : Int64} (hd : decode cc pc = .ok (.lor, 1)) (k : am_W sc p l e R s m args below meth c D b ad nL n0 z0 Q (pc + 1) lv (.long (x ||| y) :: st) h) : am_W sc p l e R s m args below meth c D b ad nL n0 z0 Q pc lv (.long y :: .long x :: st) h :=
  fun ls H locs cl sl h1 h2 h3 h4 h5 => lv_lor C.1 C.2.1 hd (k ls H locs cl sl h1 h2 h3 h4 h5)
theorem am_r_iushr (C : am_C p R m c cc nL own s args D meth yn ad) {x y : Int32} (hd : decode cc pc = .ok (.iushr, 1)) (k : am_W sc p l e R s m args below meth c D b ad nL n0 z0 Q (pc + 1) lv (.int (x.toUInt32 >>> (y.toUInt32 &&& Int32.toUInt32 31)).toInt32 :: st) h) : am_W sc p l e R s m args below meth c D b ad nL n0 z0 Q pc lv (.int y :: .int x :: st) h :=
  fun ls H locs cl sl h1 h2 h3 h4 h5 => lv_iushr C.1 C.2.1 hd rfl (k ls H locs cl sl h1 h2 h3 h4 h5)
theorem am_r_lushr (C : am_C p R m c cc nL own s args D meth yn ad) {x : Int64} {y : Int32} (hd : decode cc pc = .ok (.lushr, 1)) (k : am_W sc p l e R s m args below meth c D b ad nL n0 z0 Q (pc + 1) lv (.long (x.toUInt64 >>> (y.toInt64.toUInt64 &&& Int64.toUInt64 63)).toInt64 :: st) h) : am_W sc p l e R s m args below meth c D b ad nL n0 z0 Q pc lv (.int y :: .long x :: st) h :=
  fun ls H locs cl sl h1 h2 h3 h4 h5 => lv_lushr C.1 C.2.1 hd rfl (k ls H locs cl sl h1 h2 h3 h4 h5)
theorem am_r_lshl (C : am_C p R m c cc nL own s args D meth yn ad) {x : Int64} {y : Int32} (hd : decode cc pc = .ok (.lshl, 1)) (k : am_W sc p l e R s m args below meth c D b ad nL n0 z0 Q (pc + 1) lv (.long (x <<< (y.toInt64 &&& 63)) :: st) h) : am_W sc p l e R s m args below meth c D b ad nL n0 z0 Q pc lv (.int y :: .long x :: st) h :=
  fun ls H locs cl sl h1 h2 h3 h4 h5 => lv_lshl C.1 C.2.1 hd rfl (k ls H locs cl sl h1 h2 h3 h4 h5)
theorem am_r_i2l (C : am_C p R m c cc nL own s args D meth yn ad) {x : Int32} (hd : decode cc pc = .ok (.i2l, 1)) (k : am_W sc p l e R s m args below meth c D b ad nL n0 z0 Q (pc + 1) lv (.long x.toInt64 :: st) h) : am_W sc p l e R s m args below meth c D b ad nL n0 z0 Q pc lv (.int x :: st) h :=
  fun ls H locs cl sl h1 h2 h3 h4 h5 => lv_i2l C.1 C.2.1 hd rfl (k ls H locs cl sl h1 h2 h3 h4 h5)
theorem am_r_l2i (C : am_C p R m c cc nL own s args D meth yn ad) {x : Int64} (hd : decode cc pc = .ok (.l2i, 1)) (k : am_W sc p l e R s m args below meth c D b ad nL n0 z0 Q (pc + 1) lv (.int x.toInt32 :: st) h) : am_W sc p l e R s m args below meth c D b ad nL n0 z0 Q pc lv (.long x :: st) h :=
  fun ls H locs cl sl h1 h2 h3 h4 h5 => lv_l2i C.1 C.2.1 hd rfl (k ls H locs cl sl h1 h2 h3 h4 h5)
theorem am_r_lcmp (C : am_C p R m c cc nL own s args D meth yn ad) {x y : Int64} (hd : decode cc pc = .ok (.lcmp, 1)) (k : am_W sc p l e R s m args below meth c D b ad nL n0 z0 Q (pc + 1) lv (.int (lg_cmp x y) :: st) h) : am_W sc p l e R s m args below meth c D b ad nL n0 z0 Q pc lv (.long y :: .long x :: st) h :=
  fun ls H locs cl sl h1 h2 h3 h4 h5 => W.lcmp C.1 C.2.1 hd (k ls H locs cl sl h1 h2 h3 h4 h5)
theorem am_r_dup (C : am_C p R m c cc nL own s args D meth yn ad) {v : Value} (hv : v.category = 1) (hd : decode cc pc = .ok (.dup, 1)) (k : am_W sc p l e R s m args below meth c D b ad nL n0 z0 Q (pc + 1) lv (v :: v :: st) h) : am_W sc p l e R s m args below meth c D b ad nL n0 z0 Q pc lv (v :: st) h :=
  fun ls H locs cl sl h1 h2 h3 h4 h5 => lv_dup C.1 C.2.1 hd ((am_mv_cat b ad v).trans hv) (k ls H locs cl sl h1 h2 h3 h4 h5)
theorem am_r_pop (C : am_C p R m c cc nL own s args D meth yn ad) {v : Value} (hv : v.category = 1) (hd : decode cc pc = .ok (.pop, 1)) (k : am_W sc p l e R s m args below meth c D b ad nL n0 z0 Q (pc + 1) lv (st) h) : am_W sc p l e R s m args below meth c D b ad nL n0 z0 Q pc lv (v :: st) h :=
  fun ls H locs cl sl h1 h2 h3 h4 h5 => lv_pop C.1 C.2.1 hd ((am_mv_cat b ad v).trans hv) (k ls H locs cl sl h1 h2 h3 h4 h5)
theorem am_r_dup_x1 (C : am_C p R m c cc nL own s args D meth yn ad) {v w : Value} (hv : v.category = 1) (hw : w.category = 1) (hd : decode cc pc = .ok (.dup_x1, 1)) (k : am_W sc p l e R s m args below meth c D b ad nL n0 z0 Q (pc + 1) lv (v :: w :: v :: st) h) : am_W sc p l e R s m args below meth c D b ad nL n0 z0 Q pc lv (v :: w :: st) h :=
  fun ls H locs cl sl h1 h2 h3 h4 h5 => lv_dup_x1 C.1 C.2.1 hd ((am_mv_cat b ad v).trans hv) ((am_mv_cat b ad w).trans hw) (k ls H locs cl sl h1 h2 h3 h4 h5)
theorem am_r_dup2 (C : am_C p R m c cc nL own s args D meth yn ad) {v w : Value} (hv : v.category = 1) (hw : w.category = 1) (hd : decode cc pc = .ok (.dup2, 1)) (k : am_W sc p l e R s m args below meth c D b ad nL n0 z0 Q (pc + 1) lv (v :: w :: v :: w :: st) h) : am_W sc p l e R s m args below meth c D b ad nL n0 z0 Q pc lv (v :: w :: st) h :=
  fun ls H locs cl sl h1 h2 h3 h4 h5 => lv_dup2_11 C.1 C.2.1 hd ((am_mv_cat b ad v).trans hv) ((am_mv_cat b ad w).trans hw) (k ls H locs cl sl h1 h2 h3 h4 h5)
/-! fields -/
theorem am_at_obj {U : State} {D : va_G} {b a ci : Nat} {ad : Nat → Nat} {fs : List Value} {H : Heap} (h : am_at U D b ad (ci, fs) a H) (hc : ci < 100) : va_at D vwCl (a, .inr (ci, fs.map (am_mv b ad))) H := by
  rcases h with ⟨h1, h2⟩ | ⟨h1, h2, h3⟩ | h
  · exact h2
  · exact absurd hc (Nat.not_lt.mpr h1)
  · have h1 : ci = 199 := h
    omega
theorem am_r_get (C : am_C p R m c cc nL own s args D meth yn ad) {ci kf a idx : Nat} {C0 ref : String} {T : u_T} {N : Nat} {ty0 : Nat → FieldType} {fs : List Value} {v : Value} (K : am_cls ci C0 T N ty0) (hk : kf < N)
    (hw : Jvm.Cond.fieldLink own idx ref (T kf).2.1 (T kf).2.2.1 ∈ am_T ∨ ∃ host, (own, idx, ref, (T kf).2.1, (T kf).2.2.1, host) ∈ am_nf) (hr : (T kf).1 = ref ∨ Jvm.Cond.sameField ref (T kf).1 (T kf).2.1 (T kf).2.2.1 ∈ am_T)
    (e1 : h[a]? = some (ci, fs)) (e2 : fs[kf]? = some v) (hd : decode cc pc = .ok (.getfield idx, 3)) (k : am_W sc p l e R s m args below meth c D b ad nL n0 z0 Q (pc + 3) lv (v :: st) h) : am_W sc p l e R s m args below meth c D b ad nL n0 z0 Q pc lv (.ref a :: st) h := by
  intro ls H locs cl sl h1 h2 h3 h4 h5
  obtain ⟨K1, K2, K3, K4, K5⟩ := K
  have hp := am_at_obj (h2.2.1 a _ e1) K1
  have hP : va_P D vwCl [(b + a, .inr (ci, fs.map (am_mv b ad)))] H := by
    intro k0 q hq
    have hz : k0 < 1 := (List.getElem?_eq_some_iff.mp hq).1
    rw [show k0 = 0 by omega] at hq
    cases hq
    exact hp
  have hv : (fs.map (am_mv b ad))[kf]? = some (am_mv b ad v) := by rw [List.getElem?_map, e2]; rfl
  have hsm : ∀ x, s.fieldFound? (T kf).1 (T kf).2.1 (T kf).2.2.1 = some x → s.fieldFound? ref (T kf).2.1 (T kf).2.2.1 = some x := by
    rcases hr with rfl | hr
    · exact fun _ x => x
    · exact u_same (C.2.2.2.2.1 _ hr)
  rcases hw with hw | ⟨host, hw⟩
  · exact va_get C.1 C.2.1 C.2.2.2.2.1 K3 C.2.2.2.1 C.2.2.2.2.2.1 hP 0 rfl K2 kf hk (C.2.2.2.2.1 _ hw) hsm hv hd (k ls H locs cl sl h1 h2 h3 h4 h5)
  · exact va_getN C.1 C.2.1 C.2.2.2.2.1 K3 C.2.2.2.1 C.2.2.2.2.2.1 hP 0 rfl K2 kf hk (am_E_nf C.2.2.2.2.2.2.2.2.2 hw) hsm hv hd (k ls H locs cl sl h1 h2 h3 h4 h5)
theorem am_map_set {b : Nat} {ad : Nat → Nat} {fs : List Value} {k : Nat} {v : Value} : (fs.map (am_mv b ad)).set k (am_mv b ad v) = (fs.set k v).map (am_mv b ad) := by rw [List.map_set]
theorem am_r_put (C : am_C p R m c cc nL own s args D meth yn ad) {ci kf a idx : Nat} {C0 ref : String} {T : u_T} {N : Nat} {ty0 : Nat → FieldType} {fs : List Value} {v : Value} (K : am_cls ci C0 T N ty0) (hk : kf < N)
    (hw : ((T kf).2.2.2 = false ∧ (Jvm.Cond.fieldLink own idx ref (T kf).2.1 (T kf).2.2.1 ∈ am_T ∨ ∃ host, (own, idx, ref, (T kf).2.1, (T kf).2.2.1, host) ∈ am_nf)) ∨ ((T kf).2.2.2 = true ∧ yn = "<init>" ∧ ref = own ∧ (T kf).1 = ref ∧ Jvm.Cond.fieldLink own idx ref (T kf).2.1 (T kf).2.2.1 ∈ am_T)) (hr : (T kf).1 = ref ∨ Jvm.Cond.sameField ref (T kf).1 (T kf).2.1 (T kf).2.2.1 ∈ am_T)
    (e1 : h[a]? = some (ci, fs)) (e2 : kf < fs.length) (hv : am_ok (ty0 kf) v = true) (hd : decode cc pc = .ok (.putfield idx, 3)) (kk : am_W sc p l e R s m args below meth c D b ad nL n0 z0 Q (pc + 3) lv st (h.set a (ci, fs.set kf v))) : am_W sc p l e R s m args below meth c D b ad nL n0 z0 Q pc lv (v :: .ref a :: st) h := by
  intro ls H locs cl sl h1 h2 h3 h4 h5
  obtain ⟨K1, K2, K3, K4, K5⟩ := K
  have hts := C.2.2.2.2.1
  have hown := C.2.2.2.1
  have hK := C.2.2.2.2.2.1
  have hap := va_apart (own := own) hts K3 ty0 K4 K5 hK K2
  obtain ⟨r, g1, cell, q1, q2, q3, q4⟩ := am_at_obj (h2.2.1 a _ e1) K1
  have hr0 : r = (C0, T, N) := Option.some.inj (g1.symm.trans K2)
  subst hr0
  obtain ⟨hS, hfc, kC, hkC, hkind⟩ := hK.1 ci _ K2
  obtain ⟨cf, kf0, fi, f, hi, hsl⟩ := hS kf hk
  obtain ⟨hn, hfit⟩ := am_ok_spec b ad hv
  have hst := (u_facts hfc hkC (u_lays hts K3 hk) hi).1
  have ha : b ≤ b + a := Nat.le_add_right b a
  have hlen : kf < (fs.map (am_mv b ad)).length := by rw [List.length_map]; exact e2
  have fin : ∀ (H' : Heap), H'[b + a]? = some (cell.setSlot f.slot (am_mv b ad v)) → H'.size = H.size → (∀ q, q ≠ b + a → H'[q]? = H[q]?) → W p l e R s m args below meth c H' (locs ++ [⟨b + a, f.slot⟩]) cl sl Q (F0 m (pc + 3) ls (st.map (am_mv b ad))) := by
    intro H' w1 w2 w3
    rw [hsl] at w1 ⊢
    refine kk ls H' _ cl sl h1 (h2.set e1 w2 w3 (Or.inl ⟨K1, ?_⟩)) (h3.put w2 w3 ha) (by rw [List.length_set]; exact h4) (by rw [am_sz_set (by show (fs.set kf v).length = fs.length; rw [List.length_set]) e1]; exact h5)
    rw [← am_map_set]
    exact ⟨_, K2, t_OB.to (V := updV (vp_V (fs.map (am_mv b ad))) kf (am_mv b ad v)) ⟨_, w1, q2, q3, t_set q4 hap hk (am_mv b ad v)⟩ (fun j _ => vp_updV_set hlen (am_mv b ad v) j)⟩
  have hlt : f.slot < cell.slots.size := by rw [hsl]; exact k2_hasslot (q4 kf hk)
  have hlay := hts _ (K3 _ (u_in_lay hk))
  unfold u_lay at hlay
  have hsm : ∀ x, s.fieldFound? (T kf).1 (T kf).2.1 (T kf).2.2.1 = some x → s.fieldFound? ref (T kf).2.1 (T kf).2.2.1 = some x := by
    rcases hr with rfl | hr
    · exact fun _ x => x
    · exact u_same (hts _ hr)
  rcases hw with ⟨hfin, hw⟩ | ⟨hfin, hy, ho, hr, hw⟩
  · rw [if_neg (by rw [hfin]; decide)] at hlay
    have h6 := u_store hfc hkC hkind hlay hi (K4 kf hk) hn hfit
    rcases hw with hw | ⟨host, hw⟩
    · exact W.putK C.1 C.2.1 (f := f) ⟨hown, hts _ hw, ⟨_, _, _, hsm _ hi⟩, hst⟩ (by rw [q2]; exact h6) q1 q3 hlt rfl rfl hd fin
    · exact va_WputK C.1 C.2.1 (f := f) hown (am_E_nf C.2.2.2.2.2.2.2.2.2 hw) (hsm _ hi) hst (by rw [q2]; exact h6) q1 q3 hlt rfl rfl hd fin
  · rw [if_pos hfin] at hlay
    have hcf : m.cls = cf := by
      obtain ⟨_, _, c', _, _, _, -, -, hf', -, -, -, hown2, -⟩ := Jvm.Cond.laysFinal_spec hlay
      have e1 : c' = cf := by have := hi.symm.trans hf'; simp at this; exact this.1.symm
      rw [hr, ho] at hown2
      rw [← e1]; exact Option.some.inj (hown.symm.trans hown2)
    have h6 := u_fits hfc hkC hkind (Or.inr hlay) hi (K4 kf hk) hn hfit
    subst hr
    exact W.putFinK C.1 C.2.1 hown (hts _ hw) hi hst hcf (C.2.2.2.2.2.2.1.trans hy) (by rw [q2]; exact h6) q1 q3 hlt rfl rfl hd fin
/-! arrays -/
theorem am_at_arr {U : State} {D : va_G} {b a ki : Nat} {ad : Nat → Nat} {fs : List Value} {H : Heap} (h : am_at U D b ad (ki, fs) a H) (h1 : 100 ≤ ki) (h2 : ki ≠ 199) : ∃ cA : ClassId, ArrOfT U cA (am_kty ki) ∧ am_RA U cA (am_kty ki) ∧ H[a]? = some (arrV cA fs.length (fun j => am_mv b ad (fs.getD j .null))) := by
  rcases h with ⟨g1, g2⟩ | ⟨-, -, g3⟩ | h
  · have g1 : ki < 100 := g1
    omega
  · exact g3
  · exact absurd h h2
/-- a place of an array: neither negative nor behind its end -/
def am_ix (i : Int32) (n : Nat) : Option Nat := if i < 0 then none else if i.toNatClampNeg < n then some i.toNatClampNeg else none
theorem am_ix_spec {i : Int32} {n j : Nat} (h : am_ix i n = some j) : j = i.toNatClampNeg ∧ j < n ∧ ¬ (i < 0 ∨ n ≤ i.toNatClampNeg) := by
  unfold am_ix at h
  split at h
  · cases h
  · split at h
    · cases h
      rename_i h1 h2
      exact ⟨rfl, h2, by rintro (q | q); exact h1 q; omega⟩
    · cases h
theorem am_arr_size (cA : ClassId) (n : Nat) (f : Nat → Value) : (arrV cA n f).slots.size = n := arrV_size cA n f
theorem am_getD {fs : List Value} {j : Nat} {v : Value} (e : fs[j]? = some v) : fs.getD j .null = v := by rw [List.getD_eq_getElem?_getD, e]; rfl
theorem am_r_iald (C : am_C p R m c cc nL own s args D meth yn ad) {a j : Nat} {i : Int32} {fs : List Value} {v : Value} (e1 : h[a]? = some (100, fs)) (ei : am_ix i fs.length = some j) (e2 : fs[j]? = some v) (hd : decode cc pc = .ok (.iaload, 1)) (k : am_W sc p l e R s m args below meth c D b ad nL n0 z0 Q (pc + 1) lv (v :: st) h) : am_W sc p l e R s m args below meth c D b ad nL n0 z0 Q pc lv (.int i :: .ref a :: st) h := by
  intro ls H locs cl sl h1 h2 h3 h4 h5
  obtain ⟨cA, w1, w2, w3⟩ := am_at_arr (h2.2.1 a _ e1) (by decide) (by decide)
  obtain ⟨rfl, g2, g3⟩ := am_ix_spec ei
  exact W.iald (v := am_mv b ad v) C.1 C.2.1 w3 (w1 _ _) (fun q => by cases q) (by rw [am_arr_size]; exact g3) (by rw [arrV_read _ _ g2, am_getD e2]) rfl rfl hd (k ls H locs cl sl h1 h2 h3 h4 h5)
theorem am_r_lald (C : am_C p R m c cc nL own s args D meth yn ad) {a j : Nat} {i : Int32} {fs : List Value} {v : Value} (e1 : h[a]? = some (101, fs)) (ei : am_ix i fs.length = some j) (e2 : fs[j]? = some v) (hd : decode cc pc = .ok (.laload, 1)) (k : am_W sc p l e R s m args below meth c D b ad nL n0 z0 Q (pc + 1) lv (v :: st) h) : am_W sc p l e R s m args below meth c D b ad nL n0 z0 Q pc lv (.int i :: .ref a :: st) h := by
  intro ls H locs cl sl h1 h2 h3 h4 h5
  obtain ⟨cA, w1, w2, w3⟩ := am_at_arr (h2.2.1 a _ e1) (by decide) (by decide)
  obtain ⟨rfl, g2, g3⟩ := am_ix_spec ei
  exact W.lald (v := am_mv b ad v) C.1 C.2.1 w3 (w1 _ _) (fun q => by cases q) (by rw [am_arr_size]; exact g3) (by rw [arrV_read _ _ g2, am_getD e2]) rfl rfl hd (k ls H locs cl sl h1 h2 h3 h4 h5)
theorem am_r_zald (C : am_C p R m c cc nL own s args D meth yn ad) {a j : Nat} {i : Int32} {fs : List Value} {v : Value} (e1 : h[a]? = some (102, fs)) (ei : am_ix i fs.length = some j) (e2 : fs[j]? = some v) (hd : decode cc pc = .ok (.baload, 1)) (k : am_W sc p l e R s m args below meth c D b ad nL n0 z0 Q (pc + 1) lv (v :: st) h) : am_W sc p l e R s m args below meth c D b ad nL n0 z0 Q pc lv (.int i :: .ref a :: st) h := by
  intro ls H locs cl sl h1 h2 h3 h4 h5
  obtain ⟨cA, w1, w2, w3⟩ := am_at_arr (h2.2.1 a _ e1) (by decide) (by decide)
  obtain ⟨rfl, g2, g3⟩ := am_ix_spec ei
  exact W.zald (v := am_mv b ad v) C.1 C.2.1 w3 (w1 _ _) (fun q => by cases q) (by rw [am_arr_size]; exact g3) (by rw [arrV_read _ _ g2, am_getD e2]) rfl rfl hd (k ls H locs cl sl h1 h2 h3 h4 h5)
theorem am_r_aald (C : am_C p R m c cc nL own s args D meth yn ad) {a j ki : Nat} {i : Int32} {fs : List Value} {v : Value} (hki : 103 ≤ ki ∧ ki ≠ 199) (e1 : h[a]? = some (ki, fs)) (ei : am_ix i fs.length = some j) (e2 : fs[j]? = some v) (hd : decode cc pc = .ok (.aaload, 1)) (k : am_W sc p l e R s m args below meth c D b ad nL n0 z0 Q (pc + 1) lv (v :: st) h) : am_W sc p l e R s m args below meth c D b ad nL n0 z0 Q pc lv (.int i :: .ref a :: st) h := by
  intro ls H locs cl sl h1 h2 h3 h4 h5
  obtain ⟨cA, w1, w2, w3⟩ := am_at_arr (h2.2.1 a _ e1) (by omega) hki.2
  obtain ⟨rfl, g2, g3⟩ := am_ix_spec ei
  have hty : (am_kty ki).isReference = true := by
    unfold am_kty
    rw [if_neg (by omega), if_neg (by omega), if_neg (by omega)]
    split
    · rfl
    · split <;> rfl
  exact W.aald (v := am_mv b ad v) C.1 C.2.1 w3 (w1 _ _) hty (fun q => by cases q) (by rw [am_arr_size]; exact g3) (by rw [arrV_read _ _ g2, am_getD e2]) rfl rfl hd (k ls H locs cl sl h1 h2 h3 h4 h5)
theorem am_r_alen (C : am_C p R m c cc nL own s args D meth yn ad) {a ki : Nat} {fs : List Value} (hki : 100 ≤ ki ∧ ki ≠ 199) (e1 : h[a]? = some (ki, fs)) (hd : decode cc pc = .ok (.arraylength, 1)) (k : am_W sc p l e R s m args below meth c D b ad nL n0 z0 Q (pc + 1) lv (.int (Int32.ofNat fs.length) :: st) h) : am_W sc p l e R s m args below meth c D b ad nL n0 z0 Q pc lv (.ref a :: st) h := by
  intro ls H locs cl sl h1 h2 h3 h4 h5
  obtain ⟨cA, w1, w2, w3⟩ := am_at_arr (h2.2.1 a _ e1) hki.1 hki.2
  exact W.alen (n := Int32.ofNat fs.length) C.1 C.2.1 w3 (w1 _ _) (by rw [am_arr_size]) rfl rfl hd (k ls H locs cl sl h1 h2 h3 h4 h5)
theorem am_arr_upd {b : Nat} {ad : Nat → Nat} {fs : List Value} {j : Nat} {v : Value} (hj : j < fs.length) : updV (fun q => am_mv b ad (fs.getD q .null)) j (am_mv b ad v) = fun q => am_mv b ad ((fs.set j v).getD q .null) := by
  funext q
  unfold updV
  by_cases hq : q = j
  · subst hq
    rw [if_pos rfl, am_getD (v := v) (by rw [List.getElem?_set_self hj])]
  · rw [if_neg hq]
    show am_mv b ad (fs.getD q .null) = am_mv b ad ((fs.set j v).getD q .null)
    rw [List.getD_eq_getElem?_getD, List.getD_eq_getElem?_getD, List.getElem?_set_ne (Ne.symm hq)]
theorem am_store_arr {D : va_G} {a ki j : Nat} {fs : List Value} {v : Value} {cA : ClassId} {H H' : Heap} {locs : List Loc} {k0 : Nat} (hki : 100 ≤ ki ∧ ki ≠ 199) (e1 : h[a]? = some (ki, fs)) (hj : j < fs.length) (h2 : am_R sc s D b ad h H) (h3 : va_S (fun q => b ≤ q) s.heap H locs) (w1 : ArrOfT s cA (am_kty ki)) (w2 : am_RA s cA (am_kty ki))
    (x1 : H'[b + a]? = some ((arrV cA fs.length (fun q => am_mv b ad (fs.getD q .null))).setSlot j (am_mv b ad v))) (x2 : H'.size = H.size) (x3 : ∀ q, q ≠ b + a → H'[q]? = H[q]?) :
    am_R sc s D b ad (h.set a (ki, fs.set j v)) H' ∧ va_S (fun q => b ≤ q) s.heap H' (locs ++ [⟨b + a, k0⟩]) ∧ (h.set a (ki, fs.set j v)).length = h.length ∧ am_sz (h.set a (ki, fs.set j v)) = am_sz h := by
  refine ⟨h2.set e1 x2 x3 (Or.inr (Or.inl ⟨hki.1, hki.2, cA, w1, w2, ?_⟩)), h3.put x2 x3 (Nat.le_add_right b a), List.length_set, am_sz_set (by show (fs.set j v).length = fs.length; rw [List.length_set]) e1⟩
  rw [x1, arrV_store, am_arr_upd hj]
  show some (arrV cA fs.length _) = some (arrV cA (fs.set j v).length _)
  rw [List.length_set]
theorem am_r_iast (C : am_C p R m c cc nL own s args D meth yn ad) {a j : Nat} {i : Int32} {x : Int32} {fs : List Value} (e1 : h[a]? = some (100, fs)) (ei : am_ix i fs.length = some j) (hd : decode cc pc = .ok (.iastore, 1)) (k : am_W sc p l e R s m args below meth c D b ad nL n0 z0 Q (pc + 1) lv st (h.set a (100, fs.set j (.int x)))) : am_W sc p l e R s m args below meth c D b ad nL n0 z0 Q pc lv (.int x :: .int i :: .ref a :: st) h := by
  intro ls H locs cl sl h1 h2 h3 h4 h5
  obtain ⟨cA, w1, w2, w3⟩ := am_at_arr (h2.2.1 a _ e1) (by decide) (by decide)
  obtain ⟨rfl, g2, g3⟩ := am_ix_spec ei
  refine W.iast C.1 C.2.1 w3 (w1 _ _) (fun q => by cases q) (by rw [am_arr_size]; exact g3) rfl rfl hd fun H' x1 x2 x3 => ?_
  obtain ⟨y1, y2, y3, y4⟩ := am_store_arr (v := .int x) (k0 := i.toNatClampNeg) ⟨by decide, by decide⟩ e1 g2 h2 h3 w1 w2 x1 x2 x3
  exact k ls H' _ cl sl h1 y1 y2 (h4.trans y3.symm) (h5.trans y4.symm)
theorem am_r_last (C : am_C p R m c cc nL own s args D meth yn ad) {a j : Nat} {i : Int32} {x : Int64} {fs : List Value} (e1 : h[a]? = some (101, fs)) (ei : am_ix i fs.length = some j) (hd : decode cc pc = .ok (.lastore, 1)) (k : am_W sc p l e R s m args below meth c D b ad nL n0 z0 Q (pc + 1) lv st (h.set a (101, fs.set j (.long x)))) : am_W sc p l e R s m args below meth c D b ad nL n0 z0 Q pc lv (.long x :: .int i :: .ref a :: st) h := by
  intro ls H locs cl sl h1 h2 h3 h4 h5
  obtain ⟨cA, w1, w2, w3⟩ := am_at_arr (h2.2.1 a _ e1) (by decide) (by decide)
  obtain ⟨rfl, g2, g3⟩ := am_ix_spec ei
  refine W.last C.1 C.2.1 w3 (w1 _ _) (fun q => by cases q) (by rw [am_arr_size]; exact g3) rfl rfl hd fun H' x1 x2 x3 => ?_
  obtain ⟨y1, y2, y3, y4⟩ := am_store_arr (v := .long x) (k0 := i.toNatClampNeg) ⟨by decide, by decide⟩ e1 g2 h2 h3 w1 w2 x1 x2 x3
  exact k ls H' _ cl sl h1 y1 y2 (h4.trans y3.symm) (h5.trans y4.symm)
theorem am_r_zast (C : am_C p R m c cc nL own s args D meth yn ad) {a j : Nat} {i x : Int32} {fs : List Value} (hx : x = 0 ∨ x = 1) (e1 : h[a]? = some (102, fs)) (ei : am_ix i fs.length = some j) (hd : decode cc pc = .ok (.bastore, 1)) (k : am_W sc p l e R s m args below meth c D b ad nL n0 z0 Q (pc + 1) lv st (h.set a (102, fs.set j (.int x)))) : am_W sc p l e R s m args below meth c D b ad nL n0 z0 Q pc lv (.int x :: .int i :: .ref a :: st) h := by
  intro ls H locs cl sl h1 h2 h3 h4 h5
  obtain ⟨cA, w1, w2, w3⟩ := am_at_arr (h2.2.1 a _ e1) (by decide) (by decide)
  obtain ⟨rfl, g2, g3⟩ := am_ix_spec ei
  have hn : narrow .boolean (.int x) = am_mv b ad (.int x) := by rcases hx with rfl | rfl <;> rfl
  refine W.zast C.1 C.2.1 w3 (w1 _ _) (fun q => by cases q) (by rw [am_arr_size]; exact g3) rfl rfl hd fun H' x1 x2 x3 => ?_
  rw [hn] at x1
  obtain ⟨y1, y2, y3, y4⟩ := am_store_arr (v := .int x) (k0 := i.toNatClampNeg) ⟨by decide, by decide⟩ e1 g2 h2 h3 w1 w2 x1 x2 x3
  exact k ls H' _ cl sl h1 y1 y2 (h4.trans y3.symm) (h5.trans y4.symm)
theorem am_r_aastN (C : am_C p R m c cc nL own s args D meth yn ad) {a j ki : Nat} {i : Int32} {fs : List Value} (hki : 104 ≤ ki ∧ ki ≠ 199) (e1 : h[a]? = some (ki, fs)) (ei : am_ix i fs.length = some j) (hd : decode cc pc = .ok (.aastore, 1)) (k : am_W sc p l e R s m args below meth c D b ad nL n0 z0 Q (pc + 1) lv st (h.set a (ki, fs.set j .null))) : am_W sc p l e R s m args below meth c D b ad nL n0 z0 Q pc lv (.null :: .int i :: .ref a :: st) h := by
  intro ls H locs cl sl h1 h2 h3 h4 h5
  obtain ⟨cA, w1, w2, w3⟩ := am_at_arr (h2.2.1 a _ e1) (by omega) hki.2
  obtain ⟨rfl, g2, g3⟩ := am_ix_spec ei
  have hty : ∃ Cx, am_kty ki = .object Cx := by
    unfold am_kty
    rw [if_neg (by omega), if_neg (by omega), if_neg (by omega), if_neg (by omega)]
    split
    · exact ⟨_, rfl⟩
    · exact ⟨_, rfl⟩
  obtain ⟨Cx, hCx⟩ := hty
  refine va_WaastN (C := Cx) C.1 C.2.1 w3 (by rw [← hCx]; exact w1 _ _) (fun q => by cases q) (by rw [am_arr_size]; exact g3) rfl rfl hd fun H' x1 x2 x3 => ?_
  obtain ⟨y1, y2, y3, y4⟩ := am_store_arr (v := .null) (k0 := i.toNatClampNeg) ⟨by omega, hki.2⟩ e1 g2 h2 h3 w1 w2 x1 x2 x3
  exact k ls H' _ cl sl h1 y1 y2 (h4.trans y3.symm) (h5.trans y4.symm)
theorem am_r_aast (C : am_C p R m c cc nL own s args D meth yn ad) {a j ci v : Nat} {i : Int32} {fs vs : List Value} {C0 : String} {T : u_T} {N : Nat} (hci : ci < 100) (hcl : vwCl[ci]? = some (C0, T, N)) (e1 : h[a]? = some (200 + ci, fs)) (e3 : h[v]? = some (ci, vs)) (ei : am_ix i fs.length = some j) (hd : decode cc pc = .ok (.aastore, 1)) (k : am_W sc p l e R s m args below meth c D b ad nL n0 z0 Q (pc + 1) lv st (h.set a (200 + ci, fs.set j (.ref v)))) : am_W sc p l e R s m args below meth c D b ad nL n0 z0 Q pc lv (.ref v :: .int i :: .ref a :: st) h := by
  intro ls H locs cl sl h1 h2 h3 h4 h5
  obtain ⟨cA, w1, w2, w3⟩ := am_at_arr (h2.2.1 a _ e1) (by omega) (by omega)
  obtain ⟨rfl, g2, g3⟩ := am_ix_spec ei
  have hty : am_kty (200 + ci) = .object C0 := by
    unfold am_kty
    rw [if_neg (by omega), if_neg (by omega), if_neg (by omega), if_neg (by omega), if_neg (by omega)]
    unfold am_clN
    rw [show 200 + ci - 200 = ci by omega, hcl]
  obtain ⟨r', hr', cellV, f1, f2, f3, -⟩ := am_at_obj (h2.2.1 v _ e3) hci
  have hr0 : r' = (C0, T, N) := Option.some.inj (hr'.symm.trans hcl)
  subst hr0
  have hcls := (C.2.2.2.2.2.1.1 ci _ hcl).2
  have w2' := w2
  rw [hty] at w2'
  obtain ⟨kA, comp, k1, k2, k3, -⟩ := w2'
  have hcomp : comp = D.1 ci := Option.some.inj (k3.symm.trans hcls.1)
  subst hcomp
  obtain ⟨kC, hkC, -⟩ := hcls.2
  refine W.aast C.1 C.2.1 w3 (fun q h => by cases h) (fun h => by cases h) k1 k2 rfl hkC ⟨fun q => g3 (Or.inl q), by rw [am_arr_size]; exact g2⟩ f1 (fun q h => by rw [f3] at h; cases h) (by rw [f2]; exact hkC) (by rw [f2]; exact va_assign hcls) rfl rfl hd fun H' x1 x2 x3 => ?_
  obtain ⟨y1, y2, y3, y4⟩ := am_store_arr (v := .ref v) (k0 := i.toNatClampNeg) ⟨by omega, by omega⟩ e1 g2 h2 h3 w1 w2 x1 x2 x3
  exact k ls H' _ cl sl h1 y1 y2 (h4.trans y3.symm) (h5.trans y4.symm)
/-! things made -/
theorem am_S_push {H0 H H1 : Heap} {locs : List Loc} (h3 : va_S (fun q => b ≤ q) H0 H locs) (z : H1.size = H.size + 1) (oq : ∀ q : Nat, q < H.size → H1[q]? = H[q]?) : va_S (fun q => b ≤ q) H0 H1 locs :=
  ⟨Nat.le_trans h3.1 (by omega), fun x y1 y2 => (oq x (Nat.lt_of_lt_of_le y1 h3.1)).trans (h3.2.1 x y1 y2), h3.2.2⟩
def am_rm (R : Room) (n0 z0 : Nat) (h : am_H) : Prop := h.length ≤ n0 + R.cells ∧ am_sz h ≤ z0 + R.slots
theorem am_r_new (C : am_C p R m c cc nL own s args D meth yn ad) {ci idx : Nat} {C0 : String} {T : u_T} {N : Nat} {ty0 : Nat → FieldType} {fs : List Value} (K : am_cls ci C0 T N ty0)
    (w1 : Jvm.Cond.classLink own idx C0 ∈ am_T) (w2 : Jvm.Cond.instantiable C0 N ∈ am_T) (w3 : Jvm.Cond.initialized C0 ∈ am_T) (hl : fs.length = N) (hfs : ∀ j, j < N → fs[j]? = some (defaultValue (ty0 j)))
    (hr : am_rm R n0 z0 (h ++ [(ci, fs)])) (hd : decode cc pc = .ok (.new idx, 3)) (k : am_W sc p l e R s m args below meth c D b ad nL n0 z0 Q (pc + 3) lv (.ref h.length :: st) (h ++ [(ci, fs)])) : am_W sc p l e R s m args below meth c D b ad nL n0 z0 Q pc lv st h := by
  intro ls H locs cl sl h1 h2 h3 h4 h5
  obtain ⟨K1, K2, K3, K4, K5⟩ := K
  have hts := C.2.2.2.2.1
  have hKn := C.2.2.2.2.2.1.1 ci _ K2
  obtain ⟨r1, r2⟩ := hr
  rw [List.length_append] at r1
  rw [am_sz_push] at r2
  have hl1 : ([(ci, fs)] : am_H).length = 1 := rfl
  have hl2 : ((ci, fs) : am_O).2.length = N := hl
  refine W.newcK C.1 C.2.1 C.2.2.2.1 (hts _ w1) (hts _ w2) (hts _ w3) rfl hd (by omega) (by omega) hKn.2.1 rfl fun H1 kC hkC e1 z1 o1 => ?_
  have hat : am_at s D b ad (ci, fs) H.size H1 := by
    refine Or.inl ⟨K1, (C0, T, N), K2, (u_born ty0 hts K3 hKn hkC e1 K4).to fun j hj => ?_⟩
    show defaultValue (ty0 j) = (fs.map (am_mv b ad)).getD j .null
    rw [List.getD_eq_getElem?_getD, List.getElem?_map, hfs j hj]
    cases ty0 j <;> rfl
  have hq : H.size = b + h.length := h2.1
  have hst : (.ref H.size :: st.map (am_mv b ad) : List Value) = (Value.ref h.length :: st).map (am_mv b ad) := by rw [hq]; rfl
  show W _ _ _ _ _ _ _ _ _ _ _ _ _ _ _ (F0 m (pc + 3) ls (.ref H.size :: st.map (am_mv b ad)))
  rw [hst]
  exact k ls H1 locs (cl + 1) (sl + N) h1 (h2.push z1 o1 hat) (am_S_push h3 z1 o1) (by rw [List.length_append]; omega) (by rw [am_sz_push]; omega)
theorem am_getD_rep (n : Nat) (v : Value) (b : Nat) (ad : Nat → Nat) (hv : am_mv b ad v = v) {cA : ClassId} : arrV cA n (fun _ => v) = arrV cA (List.replicate n v).length (fun j => am_mv b ad ((List.replicate n v).getD j .null)) := by
  rw [List.length_replicate]
  unfold arrV
  congr 1
  apply Array.ext
  · simp
  · intro i g1 g2
    have hi : i < n := by simpa using g1
    simp [List.getD_eq_getElem?_getD, List.getElem?_replicate, hi, hv]
theorem am_r_newa (C : am_C p R m c cc nL own s args D meth yn ad) {at0 : ArrayType} {ki : Nat} {i : Int32} {v : Value} (hki : 100 ≤ ki ∧ ki ≠ 199) (hty : am_kty ki = newarray.typeOf at0) (hdv : defaultValue (newarray.typeOf at0) = v) (hmv : am_mv b ad v = v) (hnr : ∀ t, newarray.typeOf at0 ≠ .array t)
    (hra : ∀ cA, va_RA s cA (newarray.typeOf at0) ↔ s.vm.findClass ("[" ++ (newarray.typeOf at0).toString) = some cA) (hcb : componentBytes (newarray.typeOf at0) ≤ 8)
    (w1 : Jvm.Cond.arrayClass (newarray.typeOf at0) ∈ am_T) (hi : ¬ i < 0) (hb : i.toNatClampNeg ≤ 1000000)
    (hr : am_rm R n0 z0 (h ++ [(ki, List.replicate i.toNatClampNeg v)])) (hd : decode cc pc = .ok (.newarray at0, 2)) (k : am_W sc p l e R s m args below meth c D b ad nL n0 z0 Q (pc + 2) lv (.ref h.length :: st) (h ++ [(ki, List.replicate i.toNatClampNeg v)])) : am_W sc p l e R s m args below meth c D b ad nL n0 z0 Q pc lv (.int i :: st) h := by
  intro ls H locs cl sl h1 h2 h3 h4 h5
  have hts := C.2.2.2.2.1
  obtain ⟨r1, r2⟩ := hr
  rw [List.length_append] at r1
  rw [am_sz_push] at r2
  have hl1 : ([(ki, List.replicate i.toNatClampNeg v)] : am_H).length = 1 := rfl
  have hl2 : ((ki, List.replicate i.toNatClampNeg v) : am_O).2.length = i.toNatClampNeg := List.length_replicate
  have hbytes : i.toNatClampNeg * componentBytes (newarray.typeOf at0) ≤ 536870912 := Nat.le_trans (Nat.mul_le_mul hb hcb) (by decide)
  refine va_newaK C.1 C.2.1 (hts _ w1) rfl hd rfl hi rfl hbytes (by omega) (by omega) rfl fun H1 cA e1 z1 o1 hAr hNm => ?_
  have hat : am_at s D b ad (ki, List.replicate i.toNatClampNeg v) H.size H1 := by
    refine Or.inr (Or.inl ⟨hki.1, hki.2, cA, by rw [hty]; exact hAr, ?_, ?_⟩)
    · show am_RA s cA (am_kty ki)
      rw [hty]
      have h9 := (hra cA).mpr hNm
      revert h9 hnr
      generalize newarray.typeOf at0 = ty9
      intro hnr h9
      cases ty9 with
      | array t => exact absurd rfl (hnr t)
      | _ => exact h9
    · rw [e1, hdv, am_getD_rep _ _ b ad hmv]
  have hq : H.size = b + h.length := h2.1
  have hst : (.ref H.size :: st.map (am_mv b ad) : List Value) = (Value.ref h.length :: st).map (am_mv b ad) := by rw [hq]; rfl
  show W _ _ _ _ _ _ _ _ _ _ _ _ _ _ _ (F0 m (pc + 2) ls (.ref H.size :: st.map (am_mv b ad)))
  rw [hst]
  exact k ls H1 locs (cl + 1) (sl + i.toNatClampNeg) h1 (h2.push z1 o1 hat) (am_S_push h3 z1 o1) (by rw [List.length_append]; omega) (by rw [am_sz_push]; omega)
theorem am_push_arr {H : Heap} (cA : ClassId) (n : Nat) (v : Value) : (H.push { cls := cA, slots := Array.replicate n v, vm := .none })[H.size]? = some (arrV cA n (fun _ => v)) ∧ (H.push { cls := cA, slots := Array.replicate n v, vm := .none }).size = H.size + 1 ∧ ∀ q : Nat, q < H.size → (H.push { cls := cA, slots := Array.replicate n v, vm := .none })[q]? = H[q]? :=
  ⟨by rw [Array.getElem?_push_size, ← arrV_new], Array.size_push _, fun q hq => by rw [Array.getElem?_push, if_neg (Nat.ne_of_lt hq)]⟩
theorem am_r_anew (C : am_C p R m c cc nL own s args D meth yn ad) {ki idx : Nat} {i : Int32} {C0 : String} (hki : 100 ≤ ki ∧ ki ≠ 199) (hty : am_kty ki = .object C0)
    (w1 : Jvm.Cond.classLink own idx C0 ∈ am_T) (w2 : FieldType.object C0 ∈ am_aot) (hi : ¬ i < 0) (hb : i.toNatClampNeg ≤ 1000000)
    (hr : am_rm R n0 z0 (h ++ [(ki, List.replicate i.toNatClampNeg .null)])) (hd : decode cc pc = .ok (.anewarray idx, 3)) (k : am_W sc p l e R s m args below meth c D b ad nL n0 z0 Q (pc + 3) lv (.ref h.length :: st) (h ++ [(ki, List.replicate i.toNatClampNeg .null)])) : am_W sc p l e R s m args below meth c D b ad nL n0 z0 Q pc lv (.int i :: st) h := by
  intro ls H locs cl sl h1 h2 h3 h4 h5
  have hts := C.2.2.2.2.1
  obtain ⟨r1, r2⟩ := hr
  rw [List.length_append] at r1
  rw [am_sz_push] at r2
  have hl1 : ([(ki, List.replicate i.toNatClampNeg Value.null)] : am_H).length = 1 := rfl
  have hl2 : ((ki, List.replicate i.toNatClampNeg Value.null) : am_O).2.length = i.toNatClampNeg := List.length_replicate
  refine W.anew C.1 C.2.1 C.2.2.2.1 (hts _ w1) (am_E_ao C.2.2.2.2.2.2.2.2.2 w2) rfl hd rfl hi (by omega) (by omega) (by omega) fun cA kA comp f1 f2 f3 f4 => ?_
  obtain ⟨e1, z1, o1⟩ := am_push_arr (H := H) cA i.toNatClampNeg .null
  generalize H.push ({ cls := cA, slots := Array.replicate i.toNatClampNeg .null, vm := .none } : Cell) = H1 at e1 z1 o1
  have hat : am_at s D b ad (ki, List.replicate i.toNatClampNeg .null) H.size H1 := by
    refine Or.inr (Or.inl ⟨hki.1, hki.2, cA, ?_, ?_, ?_⟩)
    · rw [hty]
      exact fun N z => ⟨(fun k h => by cases h), kA, f2, comp, f3⟩
    · show am_RA s cA (am_kty ki)
      rw [hty]
      exact ⟨kA, comp, f2, f3, f4, f1⟩
    · rw [e1, am_getD_rep _ _ b ad rfl]
  have hq : H.size = b + h.length := h2.1
  have hst : (.ref H.size :: st.map (am_mv b ad) : List Value) = (Value.ref h.length :: st).map (am_mv b ad) := by rw [hq]; rfl
  show W _ _ _ _ _ _ _ _ _ _ _ _ _ _ _ (F0 m (pc + 3) ls (.ref H.size :: st.map (am_mv b ad)))
  rw [hst]
  exact k ls H1 locs (cl + 1) (sl + i.toNatClampNeg) h1 (h2.push z1 o1 hat) (am_S_push h3 z1 o1) (by rw [List.length_append]; omega) (by rw [am_sz_push]; omega)
theorem am_r_anewA (C : am_C p R m c cc nL own s args D meth yn ad) {idx : Nat} {i : Int32}
    (w1 : Jvm.Cond.classLink own idx "[I" ∈ am_T) (w2 : FieldType.array .int ∈ am_aot) (hi : ¬ i < 0) (hb : i.toNatClampNeg ≤ 1000000)
    (hr : am_rm R n0 z0 (h ++ [(103, List.replicate i.toNatClampNeg .null)])) (hd : decode cc pc = .ok (.anewarray idx, 3)) (k : am_W sc p l e R s m args below meth c D b ad nL n0 z0 Q (pc + 3) lv (.ref h.length :: st) (h ++ [(103, List.replicate i.toNatClampNeg .null)])) : am_W sc p l e R s m args below meth c D b ad nL n0 z0 Q pc lv (.int i :: st) h := by
  intro ls H locs cl sl h1 h2 h3 h4 h5
  have hts := C.2.2.2.2.1
  obtain ⟨r1, r2⟩ := hr
  rw [List.length_append] at r1
  rw [am_sz_push] at r2
  have hl1 : ([(103, List.replicate i.toNatClampNeg Value.null)] : am_H).length = 1 := rfl
  have hl2 : ((103, List.replicate i.toNatClampNeg Value.null) : am_O).2.length = i.toNatClampNeg := List.length_replicate
  refine W.anewA (t := .int) C.1 C.2.1 C.2.2.2.1 (hts _ w1) (am_E_ao C.2.2.2.2.2.2.2.2.2 w2) rfl hd rfl hi (by omega) (by omega) (by omega) fun cA kA comp f1 f2 f3 f4 => ?_
  obtain ⟨e1, z1, o1⟩ := am_push_arr (H := H) cA i.toNatClampNeg .null
  generalize H.push ({ cls := cA, slots := Array.replicate i.toNatClampNeg .null, vm := .none } : Cell) = H1 at e1 z1 o1
  have hat : am_at s D b ad (103, List.replicate i.toNatClampNeg .null) H.size H1 := by
    refine Or.inr (Or.inl ⟨(by decide : 100 ≤ 103), (by decide : 103 ≠ 199), cA, ?_, ?_, ?_⟩)
    · exact fun N z => ⟨(fun k h => by cases h), kA, f2, comp, f3⟩
    · exact ⟨kA, comp, f2, f3, f4⟩
    · rw [e1, am_getD_rep _ _ b ad rfl]
  have hq : H.size = b + h.length := h2.1
  have hst : (.ref H.size :: st.map (am_mv b ad) : List Value) = (Value.ref h.length :: st).map (am_mv b ad) := by rw [hq]; rfl
  show W _ _ _ _ _ _ _ _ _ _ _ _ _ _ _ (F0 m (pc + 3) ls (.ref H.size :: st.map (am_mv b ad)))
  rw [hst]
  exact k ls H1 locs (cl + 1) (sl + i.toNatClampNeg) h1 (h2.push z1 o1 hat) (am_S_push h3 z1 o1) (by rw [List.length_append]; omega) (by rw [am_sz_push]; omega)
theorem am_r_castN (C : am_C p R m c cc nL own s args D meth yn ad) {idx : Nat} (hd : decode cc pc = .ok (.checkcast idx, 3)) (k : am_W sc p l e R s m args below meth c D b ad nL n0 z0 Q (pc + 3) lv (.null :: st) h) : am_W sc p l e R s m args below meth c D b ad nL n0 z0 Q pc lv (.null :: st) h :=
  fun ls H locs cl sl h1 h2 h3 h4 h5 => lv_castN C.1 C.2.1 hd (k ls H locs cl sl h1 h2 h3 h4 h5)
theorem am_recv {ci a : Nat} {fs : List Value} {C0 : String} {T : u_T} {N : Nat} {H : Heap} (hK : va_K D vwCl [] s) (hci : ci < 100) (hcl : vwCl[ci]? = some (C0, T, N)) (h2 : am_R sc s D b ad h H) (e1 : h[a]? = some (ci, fs)) : ∃ cell : Cell, H[b + a]? = some cell ∧ cell.vm.isStatics = false ∧ s.vm.findClass C0 = some cell.cls := by
  obtain ⟨r', hr', cellV, f1, f2, f3, -⟩ := am_at_obj (h2.2.1 a _ e1) hci
  have hr0 : r' = (C0, T, N) := Option.some.inj (hr'.symm.trans hcl)
  subst hr0
  exact ⟨cellV, f1, by rw [f3]; rfl, by rw [f2]; exact (hK.1 ci _ hcl).2.1⟩
theorem am_r_cast (C : am_C p R m c cc nL own s args D meth yn ad) {ci a idx : Nat} {fs : List Value} {C0 : String} {T : u_T} {N : Nat} (hci : ci < 100) (hcl : vwCl[ci]? = some (C0, T, N)) (w1 : Jvm.Cond.classLink own idx C0 ∈ am_T) (e1 : h[a]? = some (ci, fs)) (hd : decode cc pc = .ok (.checkcast idx, 3)) (k : am_W sc p l e R s m args below meth c D b ad nL n0 z0 Q (pc + 3) lv (.ref a :: st) h) : am_W sc p l e R s m args below meth c D b ad nL n0 z0 Q pc lv (.ref a :: st) h :=
  fun ls H locs cl sl h1 h2 h3 h4 h5 => va_castE C.1 C.2.1 C.2.2.2.1 (C.2.2.2.2.1 _ w1) (am_recv C.2.2.2.2.2.1 hci hcl h2 e1) hd (k ls H locs cl sl h1 h2 h3 h4 h5)
def am_cs (st : List Value) : Nat := (st.map fun v => v.category).sum
theorem am_cs_mv (b : Nat) (ad : Nat → Nat) (st : List Value) : ((st.map (am_mv b ad)).map fun v => v.category).sum = am_cs st := by
  unfold am_cs
  rw [List.map_map]
  congr 1
  exact List.map_congr_left fun v _ => am_mv_cat b ad v
theorem am_r_objI (C : am_C p R m c cc nL own s args D meth yn ad) {a idx : Nat} (w1 : Jvm.Cond.methodLink own idx Lib.objectInit ∈ am_T) (w2 : Jvm.Cond.instanceMethod Lib.objectInit ∈ am_T) (w3 : Jvm.Cond.code Lib.objectInit ⟨#[0xb1]⟩ 1 none ∈ am_T) (hc : am_cs st ≤ 8) (hd : decode cc pc = .ok (.invokespecial idx, 3)) (k : am_W sc p l e R s m args below meth c D b ad nL n0 z0 Q (pc + 3) lv st h) : am_W sc p l e R s m args below meth c D b ad nL n0 z0 Q pc lv (.ref a :: st) h := by
  intro ls H locs cl sl h1 h2 h3 h4 h5
  have h8 := C.2.2.2.2.2.2.2.2.1
  exact W.objInit C.1 C.2.1 C.2.2.2.1 (C.2.2.2.2.1 _ w1) (C.2.2.2.2.1 _ w2) (C.2.2.2.2.1 _ w3) rfl (h1.1.trans C.2.2.1.symm) rfl hd C.2.2.2.2.2.2.2.1 (by rw [am_cs_mv]; show 2 * 0 + _ + 12 ≤ _; omega) (k ls H locs cl sl h1 h2 h3 h4 h5)
theorem am_r_mmin (C : am_C p R m c cc nL own s args D meth yn ad) {idx : Nat} {x y : Int32} (w1 : Jvm.Cond.methodLink own idx Lib.Math.min.name ∈ am_T) (w2 : Jvm.Cond.static Lib.Math.min.name ∈ am_T) (w3 : Jvm.Cond.initialized "java/lang/Math" ∈ am_T) (w4 : Jvm.Cond.code Lib.Math.min.name Lib.Math.min.code 2 (some .int) ∈ am_T) (hr : am_rm R n0 z0 h) (hc : am_cs st ≤ 8) (hd : decode cc pc = .ok (.invokestatic idx, 3)) (k : am_W sc p l e R s m args below meth c D b ad nL n0 z0 Q (pc + 3) lv (.int (if y < x then y else x) :: st) h) : am_W sc p l e R s m args below meth c D b ad nL n0 z0 Q pc lv (.int y :: .int x :: st) h := by
  intro ls H locs cl sl h1 h2 h3 h4 h5
  have h8 := C.2.2.2.2.2.2.2.2.1
  obtain ⟨r1, r2⟩ := hr
  exact va_mmin C.1 C.2.1 (C.2.2.1.trans h1.1.symm) C.2.2.2.1 (C.2.2.2.2.1 _ w1) (C.2.2.2.2.1 _ w2) (C.2.2.2.2.1 _ w3) (C.2.2.2.2.1 _ w4) C.2.2.2.2.2.2.2.1 (by rw [am_cs_mv]; omega) (by omega) (by omega) hd (k ls H locs cl sl h1 h2 h3 h4 h5)
theorem am_r_mmax (C : am_C p R m c cc nL own s args D meth yn ad) {idx : Nat} {x y : Int32} (w1 : Jvm.Cond.methodLink own idx Lib.Math.max.name ∈ am_T) (w2 : Jvm.Cond.static Lib.Math.max.name ∈ am_T) (w3 : Jvm.Cond.initialized "java/lang/Math" ∈ am_T) (w4 : Jvm.Cond.code Lib.Math.max.name Lib.Math.max.code 2 (some .int) ∈ am_T) (hr : am_rm R n0 z0 h) (hc : am_cs st ≤ 8) (hd : decode cc pc = .ok (.invokestatic idx, 3)) (k : am_W sc p l e R s m args below meth c D b ad nL n0 z0 Q (pc + 3) lv (.int (if x < y then y else x) :: st) h) : am_W sc p l e R s m args below meth c D b ad nL n0 z0 Q pc lv (.int y :: .int x :: st) h := by
  intro ls H locs cl sl h1 h2 h3 h4 h5
  have h8 := C.2.2.2.2.2.2.2.2.1
  obtain ⟨r1, r2⟩ := hr
  exact va_mmax C.1 C.2.1 (C.2.2.1.trans h1.1.symm) C.2.2.2.1 (C.2.2.2.2.1 _ w1) (C.2.2.2.2.1 _ w2) (C.2.2.2.2.1 _ w3) (C.2.2.2.2.1 _ w4) C.2.2.2.2.2.2.2.1 (by rw [am_cs_mv]; omega) (by omega) (by omega) hd (k ls H locs cl sl h1 h2 h3 h4 h5)
theorem am_r_aastR (C : am_C p R m c cc nL own s args D meth yn ad) {a j ci v : Nat} {i : Int32} {fs vs : List Value} (hci : ci < 100) (e1 : h[a]? = some (200 + ci, fs)) (e3 : h[v]? = some (ci, vs)) (ei : am_ix i fs.length = some j) (hd : decode cc pc = .ok (.aastore, 1)) (k : am_W sc p l e R s m args below meth c D b ad nL n0 z0 Q (pc + 1) lv st (h.set a (200 + ci, fs.set j (.ref v)))) : am_W sc p l e R s m args below meth c D b ad nL n0 z0 Q pc lv (.ref v :: .int i :: .ref a :: st) h := by
  intro ls H locs cl sl h1 h2 h3 h4 h5
  obtain ⟨r', hr', -⟩ := am_at_obj (h2.2.1 v _ e3) hci
  obtain ⟨r1, r2, r3⟩ := r'
  exact am_r_aast C hci hr' e1 e3 ei hd k ls H locs cl sl h1 h2 h3 h4 h5
theorem am_r_dconst0 (C : am_C p R m c cc nL own s args D meth yn ad)  (hd : decode cc pc = .ok (.dconst 0, 1)) (k : am_W sc p l e R s m args below meth c D b ad nL n0 z0 Q (pc + 1) lv (.double FP.dconst0 :: st) h) : am_W sc p l e R s m args below meth c D b ad nL n0 z0 Q pc lv (st) h :=
  fun ls H locs cl sl h1 h2 h3 h4 h5 => lv_dconst0 C.1 C.2.1 hd (k ls H locs cl sl h1 h2 h3 h4 h5)
theorem am_r_fconst0 (C : am_C p R m c cc nL own s args D meth yn ad)  (hd : decode cc pc = .ok (.fconst 0, 1)) (k : am_W sc p l e R s m args below meth c D b ad nL n0 z0 Q (pc + 1) lv (.float FP.fconst0 :: st) h) : am_W sc p l e R s m args below meth c D b ad nL n0 z0 Q pc lv (st) h :=
  fun ls H locs cl sl h1 h2 h3 h4 h5 => lv_fconst0 C.1 C.2.1 hd (k ls H locs cl sl h1 h2 h3 h4 h5)
theorem am_r_i2d (C : am_C p R m c cc nL own s args D meth yn ad) {x : Int32} (hd : decode cc pc = .ok (.i2d, 1)) (k : am_W sc p l e R s m args below meth c D b ad nL n0 z0 Q (pc + 1) lv (.double (FP.i2d x) :: st) h) : am_W sc p l e R s m args below meth c D b ad nL n0 z0 Q pc lv (.int x :: st) h :=
  fun ls H locs cl sl h1 h2 h3 h4 h5 => lv_i2d C.1 C.2.1 hd (k ls H locs cl sl h1 h2 h3 h4 h5)
theorem am_r_l2d (C : am_C p R m c cc nL own s args D meth yn ad) {x : Int64} (hd : decode cc pc = .ok (.l2d, 1)) (k : am_W sc p l e R s m args below meth c D b ad nL n0 z0 Q (pc + 1) lv (.double (FP.l2d x) :: st) h) : am_W sc p l e R s m args below meth c D b ad nL n0 z0 Q pc lv (.long x :: st) h :=
  fun ls H locs cl sl h1 h2 h3 h4 h5 => lv_l2d C.1 C.2.1 hd (k ls H locs cl sl h1 h2 h3 h4 h5)
theorem am_r_i2f (C : am_C p R m c cc nL own s args D meth yn ad) {x : Int32} (hd : decode cc pc = .ok (.i2f, 1)) (k : am_W sc p l e R s m args below meth c D b ad nL n0 z0 Q (pc + 1) lv (.float (FP.i2f x) :: st) h) : am_W sc p l e R s m args below meth c D b ad nL n0 z0 Q pc lv (.int x :: st) h :=
  fun ls H locs cl sl h1 h2 h3 h4 h5 => lv_i2f C.1 C.2.1 hd (k ls H locs cl sl h1 h2 h3 h4 h5)
theorem am_r_f2d (C : am_C p R m c cc nL own s args D meth yn ad) {x : UInt32} (hn : vf_n64 (FP.f2d x)) (hd : decode cc pc = .ok (.f2d, 1)) (k : am_W sc p l e R s m args below meth c D b ad nL n0 z0 Q (pc + 1) lv (.double (FP.f2d x) :: st) h) : am_W sc p l e R s m args below meth c D b ad nL n0 z0 Q pc lv (.float x :: st) h :=
  fun ls H locs cl sl h1 h2 h3 h4 h5 => lv_f2d C.1 C.2.1 hd hn (k ls H locs cl sl h1 h2 h3 h4 h5)
theorem am_r_ddiv (C : am_C p R m c cc nL own s args D meth yn ad) {x y : UInt64} (hn : vf_n64 (FP.ddiv x y)) (hd : decode cc pc = .ok (.ddiv, 1)) (k : am_W sc p l e R s m args below meth c D b ad nL n0 z0 Q (pc + 1) lv (.double (FP.ddiv x y) :: st) h) : am_W sc p l e R s m args below meth c D b ad nL n0 z0 Q pc lv (.double y :: .double x :: st) h :=
  fun ls H locs cl sl h1 h2 h3 h4 h5 => lv_ddiv C.1 C.2.1 hd hn (k ls H locs cl sl h1 h2 h3 h4 h5)
theorem am_r_fdiv (C : am_C p R m c cc nL own s args D meth yn ad) {x y : UInt32} (hn : vf_n32 (FP.fdiv x y)) (hd : decode cc pc = .ok (.fdiv, 1)) (k : am_W sc p l e R s m args below meth c D b ad nL n0 z0 Q (pc + 1) lv (.float (FP.fdiv x y) :: st) h) : am_W sc p l e R s m args below meth c D b ad nL n0 z0 Q pc lv (.float y :: .float x :: st) h :=
  fun ls H locs cl sl h1 h2 h3 h4 h5 => lv_fdiv C.1 C.2.1 hd hn (k ls H locs cl sl h1 h2 h3 h4 h5)
theorem am_r_dcmp (C : am_C p R m c cc nL own s args D meth yn ad) {x y : UInt64} {op : CmpOp} (hd : decode cc pc = .ok (.dcmp op, 1)) (k : am_W sc p l e R s m args below meth c D b ad nL n0 z0 Q (pc + 1) lv (.int (Op.cmpValue (FP.dcmp x y) op) :: st) h) : am_W sc p l e R s m args below meth c D b ad nL n0 z0 Q pc lv (.double y :: .double x :: st) h :=
  fun ls H locs cl sl h1 h2 h3 h4 h5 => lv_dcmp C.1 C.2.1 hd (k ls H locs cl sl h1 h2 h3 h4 h5)
theorem am_r_dload (C : am_C p R m c cc nL own s args D meth yn ad) {i : Nat} {x : UInt64} (hl : am_ld lv i = some (.double x)) (hd : decode cc pc = .ok (.dload i, 2)) (k : am_W sc p l e R s m args below meth c D b ad nL n0 z0 Q (pc + 2) lv (.double x :: st) h) : am_W sc p l e R s m args below meth c D b ad nL n0 z0 Q pc lv (st) h :=
  fun ls H locs cl sl h1 h2 h3 h4 h5 => lv_dload C.1 C.2.1 hd (am_ld_has h1 hl) (k ls H locs cl sl h1 h2 h3 h4 h5)
theorem am_r_dload_n (C : am_C p R m c cc nL own s args D meth yn ad) {i : Fin 4} {x : UInt64} (hl : am_ld lv i = some (.double x)) (hd : decode cc pc = .ok (.dload_n i, 1)) (k : am_W sc p l e R s m args below meth c D b ad nL n0 z0 Q (pc + 1) lv (.double x :: st) h) : am_W sc p l e R s m args below meth c D b ad nL n0 z0 Q pc lv (st) h :=
  fun ls H locs cl sl h1 h2 h3 h4 h5 => lv_dload_n C.1 C.2.1 hd rfl (am_ld_has h1 hl) (k ls H locs cl sl h1 h2 h3 h4 h5)
theorem am_r_dstore (C : am_C p R m c cc nL own s args D meth yn ad) {i : Nat} {x : UInt64} (hn : (i : Nat) + 1 < nL) (hd : decode cc pc = .ok (.dstore i, 2)) (k : am_W sc p l e R s m args below meth c D b ad nL n0 z0 Q (pc + 2) (am_s2 lv i (.double x)) st h) : am_W sc p l e R s m args below meth c D b ad nL n0 z0 Q pc lv (.double x :: st) h :=
  fun ls H locs cl sl h1 h2 h3 h4 h5 => lv_dstore C.1 C.2.1 hd h1 hn (am_L_s2 b ad lv i (.double x)) (fun ls' h' => k ls' H locs cl sl h' h2 h3 h4 h5)
theorem am_r_dstore_n (C : am_C p R m c cc nL own s args D meth yn ad) {i : Fin 4} {x : UInt64} (hn : (i : Nat) + 1 < nL) (hd : decode cc pc = .ok (.dstore_n i, 1)) (k : am_W sc p l e R s m args below meth c D b ad nL n0 z0 Q (pc + 1) (am_s2 lv i (.double x)) st h) : am_W sc p l e R s m args below meth c D b ad nL n0 z0 Q pc lv (.double x :: st) h :=
  fun ls H locs cl sl h1 h2 h3 h4 h5 => lv_dstore_n C.1 C.2.1 hd rfl h1 hn (am_L_s2 b ad lv i (.double x)) (fun ls' h' => k ls' H locs cl sl h' h2 h3 h4 h5)
theorem am_r_sclen (C : am_C p R m c cc nL own s args D meth yn ad) (hd : decode cc pc = .ok (.arraylength, 1)) (k : am_W sc p l e R s m args below meth c D b ad nL n0 z0 Q (pc + 1) lv (.int (Int32.ofNat sc.length) :: st) h) : am_W sc p l e R s m args below meth c D b ad nL n0 z0 Q pc lv (.retAddr 2000 :: st) h := by
  intro ls H locs cl sl h1 h2 h3 h4 h5
  obtain ⟨-, -, -, -, -, ⟨cell, w1, w2, w3, w4, w5, w6, -⟩, -⟩ := h2.2.2
  exact W.alen (n := Int32.ofNat sc.length) C.1 C.2.1 w1 w2 w5 rfl rfl hd (k ls H locs cl sl h1 h2 h3 h4 h5)
theorem am_r_scld (C : am_C p R m c cc nL own s args D meth yn ad) {j : Nat} {i : Int32} (ei : am_ix i sc.length = some j) (hd : decode cc pc = .ok (.iaload, 1)) (k : am_W sc p l e R s m args below meth c D b ad nL n0 z0 Q (pc + 1) lv (.int (sc.getD j 0) :: st) h) : am_W sc p l e R s m args below meth c D b ad nL n0 z0 Q pc lv (.int i :: .retAddr 2000 :: st) h := by
  intro ls H locs cl sl h1 h2 h3 h4 h5
  obtain ⟨-, -, -, -, -, ⟨cell, w1, w2, w3, w4, w5, w6, -⟩, -⟩ := h2.2.2
  obtain ⟨rfl, g2, g3⟩ := am_ix_spec ei
  exact W.iald (v := .int (sc.getD i.toNatClampNeg 0)) C.1 C.2.1 w1 w2 w3 (by rintro (q | q); exact g3 (Or.inl q); omega) (w6 _ g2) rfl rfl hd (k ls H locs cl sl h1 h2 h3 h4 h5)
/-- a static of the JDK's -/
theorem am_r_gets (C : am_C p R m c cc nL own s args D meth yn ad) {C0 n d : String} {idx : Nat} {v : Value} (hZ : ∀ H : Heap, am_R sc s D b ad h H → va_Z C0 n d (am_mv b ad v) (fun q => b ≤ q) s H) (hw : Jvm.Cond.fieldLink own idx C0 n d ∈ am_T) (hd : decode cc pc = .ok (.getstatic idx, 3)) (k : am_W sc p l e R s m args below meth c D b ad nL n0 z0 Q (pc + 3) lv (v :: st) h) : am_W sc p l e R s m args below meth c D b ad nL n0 z0 Q pc lv st h := by
  intro ls H locs cl sl h1 h2 h3 h4 h5
  obtain ⟨cf, kf, fi, f, a, cell, g1, g2, g3, g4, g5, g6, g7, g8⟩ := hZ H h2
  exact W.gets C.1 C.2.1 C.2.2.2.1 (C.2.2.2.2.1 _ hw) g1 g2 g3 g4 g5 (fun e => by rw [e] at g6; cases g6) g7 rfl hd (k ls H locs cl sl h1 h2 h3 h4 h5)
/-- a field of a String constant -/
theorem am_r_getX (C : am_C p R m c cc nL own s args D meth yn ad) {n d : String} {idx i : Nat} {v : Value} (hZ : ∀ H : Heap, am_R sc s D b ad h H → va_OF "java/lang/String" n d (am_mv b ad v) (ad i) (fun q => b ≤ q) s H) (hw : Jvm.Cond.fieldLink own idx "java/lang/String" n d ∈ am_T) (hd : decode cc pc = .ok (.getfield idx, 3)) (k : am_W sc p l e R s m args below meth c D b ad nL n0 z0 Q (pc + 3) lv (v :: st) h) : am_W sc p l e R s m args below meth c D b ad nL n0 z0 Q pc lv (.retAddr i :: st) h := by
  intro ls H locs cl sl h1 h2 h3 h4 h5
  obtain ⟨cf, kk, fi, f, cell, g1, g2, g3, g4, g5, g6⟩ := hZ H h2
  exact W.getf C.1 C.2.1 C.2.2.2.1 (C.2.2.2.2.1 _ hw) g1 g2 g3 g4 (v := am_mv b ad v) g5 rfl rfl hd (k ls H locs cl sl h1 h2 h3 h4 h5)
theorem am_r_xlen (C : am_C p R m c cc nL own s args D meth yn ad) {ty : FieldType} {i n : Nat} {f : Nat → Value} (hZ : ∀ H : Heap, am_R sc s D b ad h H → va_T ty (ad i) n f (fun q => b ≤ q) s H) (hd : decode cc pc = .ok (.arraylength, 1)) (k : am_W sc p l e R s m args below meth c D b ad nL n0 z0 Q (pc + 1) lv (.int (Int32.ofNat n) :: st) h) : am_W sc p l e R s m args below meth c D b ad nL n0 z0 Q pc lv (.retAddr i :: st) h := by
  intro ls H locs cl sl h1 h2 h3 h4 h5
  obtain ⟨cell, w1, w2, w3, w4, w5, w6, -⟩ := hZ H h2
  exact W.alen (n := Int32.ofNat n) C.1 C.2.1 w1 w2 w5 rfl rfl hd (k ls H locs cl sl h1 h2 h3 h4 h5)
theorem am_r_xbld (C : am_C p R m c cc nL own s args D meth yn ad) {t n j : Nat} {i x : Int32} {f : Nat → Value} (hZ : ∀ H : Heap, am_R sc s D b ad h H → va_T .byte (ad t) n f (fun q => b ≤ q) s H) (ei : am_ix i n = some j) (hx : f j = .int x) (hd : decode cc pc = .ok (.baload, 1)) (k : am_W sc p l e R s m args below meth c D b ad nL n0 z0 Q (pc + 1) lv (.int x :: st) h) : am_W sc p l e R s m args below meth c D b ad nL n0 z0 Q pc lv (.int i :: .retAddr t :: st) h := by
  intro ls H locs cl sl h1 h2 h3 h4 h5
  obtain ⟨cell, w1, w2, w3, w4, w5, w6, -⟩ := hZ H h2
  obtain ⟨rfl, g2, g3⟩ := am_ix_spec ei
  exact W.bald (v := .int x) C.1 C.2.1 w1 w2 w3 (by rintro (q | q); exact g3 (Or.inl q); omega) ((w6 _ g2).trans (by rw [hx])) rfl rfl hd (k ls H locs cl sl h1 h2 h3 h4 h5)
theorem am_r_i2c (C : am_C p R m c cc nL own s args D meth yn ad) {x : Int32} (hd : decode cc pc = .ok (.i2c, 1)) (k : am_W sc p l e R s m args below meth c D b ad nL n0 z0 Q (pc + 1) lv (.int (x.toUInt32 % 65536).toInt32 :: st) h) : am_W sc p l e R s m args below meth c D b ad nL n0 z0 Q pc lv (.int x :: st) h :=
  fun ls H locs cl sl h1 h2 h3 h4 h5 => lv_i2c C.1 C.2.1 hd rfl (k ls H locs cl sl h1 h2 h3 h4 h5)
/-- a thing goes into a row of Objects -/
theorem am_r_aastO (C : am_C p R m c cc nL own s args D meth yn ad) {a j ci v : Nat} {i : Int32} {fs vs : List Value} (hci : ci < 100) (hcs : (am_clN ci, "java/lang/Object") ∈ am_cst) (e1 : h[a]? = some (104, fs)) (e3 : h[v]? = some (ci, vs)) (ei : am_ix i fs.length = some j) (hd : decode cc pc = .ok (.aastore, 1)) (k : am_W sc p l e R s m args below meth c D b ad nL n0 z0 Q (pc + 1) lv st (h.set a (104, fs.set j (.ref v)))) : am_W sc p l e R s m args below meth c D b ad nL n0 z0 Q pc lv (.ref v :: .int i :: .ref a :: st) h := by
  intro ls H locs cl sl h1 h2 h3 h4 h5
  obtain ⟨cA, w1, w2, w3⟩ := am_at_arr (h2.2.1 a _ e1) (by omega) (by omega)
  obtain ⟨rfl, g2, g3⟩ := am_ix_spec ei
  obtain ⟨r', hr', cellV, f1, f2, f3, -⟩ := am_at_obj (h2.2.1 v _ e3) hci
  have hcn : am_clN ci = r'.1 := by unfold am_clN; rw [hr']
  have hcls := (C.2.2.2.2.2.1.1 ci _ hr').2
  have w2' : ∃ (kA : Class) (comp : ClassId), s.vm.classes[cA]? = some kA ∧ kA.kind = .array comp (.object "java/lang/Object") ∧ s.vm.findClass "java/lang/Object" = some comp := by
    obtain ⟨kA, comp, k1, k2, k3, -⟩ := (show va_RA s cA (.object "java/lang/Object") from w2)
    exact ⟨kA, comp, k1, k2, k3⟩
  obtain ⟨kA, comp, k1, k2, k3⟩ := w2'
  obtain ⟨kC, hkC, -⟩ := hcls.2
  have hca := va_Nw.use (A := args) rfl (C.2.2.2.2.2.2.2.2.2.2.2.2.2.1 _ hcs)
  obtain ⟨c3, c4, hc3, hc4, hasg⟩ := Cond.castable_spec hca
  rw [hcn] at hc3
  cases Option.some.inj (hc3.symm.trans hcls.1)
  cases Option.some.inj (hc4.symm.trans k3)
  obtain ⟨kO, hkO, -⟩ := Vm.findClass_spec k3
  refine W.aast C.1 C.2.1 w3 (fun q h => by cases h) (fun h => by cases h) k1 k2 rfl hkO ⟨fun q => g3 (Or.inl q), by rw [am_arr_size]; exact g2⟩ f1 (fun q h => by rw [f3] at h; cases h) (by rw [f2]; exact hkC) (by rw [f2]; exact hasg) rfl rfl hd fun H' x1 x2 x3 => ?_
  obtain ⟨y1, y2, y3, y4⟩ := am_store_arr (v := .ref v) (k0 := i.toNatClampNeg) ⟨by omega, by omega⟩ e1 g2 h2 h3 w1 w2 x1 x2 x3
  exact k ls H' _ cl sl h1 y1 y2 (h4.trans y3.symm) (h5.trans y4.symm)
end AMR
