variable {sc : List Int32}
/-! ONE STEP of the abstract machine, and which instruction of the machine it stands for. Constants are all .iconst (ints) and .jsr_w (longs); a String constant .ldc; locals .iload, .lload, .aload, .istore, .lstore, .astore; a field 128 * class + place; Object's constructor .invokedynamic 0; Math.min .jsr 0, Math.max .jsr 1 -/
def am_pi (f : Int32 → Int32 → Int32) : List Value → Option (List Value)
  | .int y :: .int x :: r => some (.int (f x y) :: r)
  | _ => none
theorem am_pi_spec {f : Int32 → Int32 → Int32} {st st' : List Value} (h : am_pi f st = some st') : ∃ x y r, st = .int y :: .int x :: r ∧ st' = .int (f x y) :: r := by
  unfold am_pi at h
  split at h
  · cases h
    exact ⟨_, _, _, rfl, rfl⟩
  · cases h
def am_pj (f : Int64 → Int64 → Value) : List Value → Option (List Value)
  | .long y :: .long x :: r => some (f x y :: r)
  | _ => none
theorem am_pj_spec {f : Int64 → Int64 → Value} {st st' : List Value} (h : am_pj f st = some st') : ∃ x y r, st = .long y :: .long x :: r ∧ st' = f x y :: r := by
  unfold am_pj at h
  split at h
  · cases h
    exact ⟨_, _, _, rfl, rfl⟩
  · cases h
def am_ps (f : Int64 → Int32 → Int64) : List Value → Option (List Value)
  | .int y :: .long x :: r => some (.long (f x y) :: r)
  | _ => none
theorem am_ps_spec {f : Int64 → Int32 → Int64} {st st' : List Value} (h : am_ps f st = some st') : ∃ x y r, st = .int y :: .long x :: r ∧ st' = .long (f x y) :: r := by
  unfold am_ps at h
  split at h
  · cases h
    exact ⟨_, _, _, rfl, rfl⟩
  · cases h
def am_isR : Value → Bool
  | .ref _ => true
  | .null => true
  | .retAddr _ => true
  | _ => false
theorem am_isR_spec {v : Value} (h : am_isR v = true) : v = .null ∨ (∃ x, v = .ref x) ∨ ∃ x, v = .retAddr x := by
  cases v <;> first | exact Or.inl rfl | exact Or.inr (Or.inl ⟨_, rfl⟩) | exact Or.inr (Or.inr ⟨_, rfl⟩) | (simp [am_isR] at h; done)
abbrev am_S : Type := am_V × List Value × am_H
def am_st (lv : am_V) (h : am_H) : Option (List Value) → Option am_S
  | some st => some (lv, st, h)
  | none => none
theorem am_st_spec {lv lv' : am_V} {h h' : am_H} {o : Option (List Value)} {st' : List Value} (e : am_st lv h o = some (lv', st', h')) : o = some st' ∧ lv' = lv ∧ h' = h := by
  cases o with
  | none => simp [am_st] at e
  | some x => simp [am_st] at e; exact ⟨by rw [e.2.1], e.1.symm, e.2.2.symm⟩
def am_get (f : Nat) (h : am_H) : List Value → Option (List Value)
  | .retAddr i :: r => if f < 2 ∧ i < am_txt.length then some ((if f = 0 then .retAddr (3000 + i) else .int 0) :: r) else none
  | .ref a :: r => match h[a]? with
    | some o => if 3 ≤ f / 128 ∧ o.1 = f / 128 then match o.2[f % 128]? with
      | some v => some (v :: r)
      | none => none
      else none
    | none => none
  | _ => none
def am_put (f : Nat) (h : am_H) : List Value → Option (List Value × am_H)
  | v :: .ref a :: r => match h[a]? with
    | some o => if o.1 = f / 128 ∧ f % 128 < o.2.length ∧ am_ok (am_fty (f / 128) (f % 128)) v = true then some (r, h.set a (o.1, o.2.set (f % 128) v)) else none
    | none => none
  | _ => none
def am_gld (k : Nat → Bool) (h : am_H) : List Value → Option (List Value)
  | .int i :: .ref a :: r => match h[a]? with
    | some o => if k o.1 = true then match am_ix i o.2.length with
      | some j => match o.2[j]? with
        | some v => some (v :: r)
        | none => none
      | none => none
      else none
    | none => none
  | _ => none
/-- the law's script, which lay there before -/
def am_scr (sc : List Int32) : List Value → Option (List Value)
  | .int i :: .retAddr 2000 :: r => match am_ix i sc.length with
    | some j => some (.int (sc.getD j 0) :: r)
    | none => none
  | _ => none
def am_alen (sc : List Int32) (h : am_H) : List Value → Option (List Value)
  | .retAddr i :: r => if i = 2000 then some (.int (Int32.ofNat sc.length) :: r) else if i = 1000 then some (.int 0 :: r) else if 3000 ≤ i ∧ i < 3000 + am_txt.length then some (.int (Int32.ofNat (am_txt.getD (i - 3000) []).length) :: r) else none
  | .ref a :: r => match h[a]? with
    | some o => if 100 ≤ o.1 ∧ o.1 ≠ 199 then some (.int (Int32.ofNat o.2.length) :: r) else none
    | none => none
  | _ => none
/-- a byte of a String constant -/
def am_xb : List Value → Option (List Value)
  | .int i :: .retAddr t :: r => if 3000 ≤ t ∧ t < 3000 + am_txt.length then match am_ix i (am_txt.getD (t - 3000) []).length with
    | some j => some (.int (nI ((am_txt.getD (t - 3000) []).getD j 0)) :: r)
    | none => none
    else none
  | _ => none
/-- a store into an array: k says of the array's kind and the value whether it may be -/
def am_gst (k : am_H → Nat → Value → Bool) (h : am_H) : List Value → Option (List Value × am_H)
  | v :: .int i :: .ref a :: r => match h[a]? with
    | some o => if k h o.1 v = true then match am_ix i o.2.length with
      | some j => some (r, h.set a (o.1, o.2.set j v))
      | none => none
      else none
    | none => none
  | _ => none
def am_kI : am_H → Nat → Value → Bool := fun _ k v => match v with
  | .int _ => k == 100
  | _ => false
def am_kJ : am_H → Nat → Value → Bool := fun _ k v => match v with
  | .long _ => k == 101
  | _ => false
def am_kZ : am_H → Nat → Value → Bool := fun _ k v => match v with
  | .int x => k == 102 && (x == 0 || x == 1)
  | _ => false
def am_kA : am_H → Nat → Value → Bool := fun h k v => match v with
  | .null => decide (104 ≤ k) && decide (k ≠ 199)
  | .ref x => match h[x]? with
    | some o => decide (o.1 < 100) && (decide (k = 200 + o.1) || (decide (k = 104) && (o.1 == 4 || (o.1 == 5 || o.1 == 7))))
    | none => false
  | _ => false
def am_mka (k : Nat) (v : Value) (h : am_H) : List Value → Option (List Value × am_H)
  | .int i :: r => if ¬ i < 0 ∧ i.toNatClampNeg ≤ 1000000 then some (.ref h.length :: r, h ++ [(k, List.replicate i.toNatClampNeg v)]) else none
  | _ => none
def am_sh (lv : am_V) : Option (List Value × am_H) → Option am_S
  | some x => some (lv, x.1, x.2)
  | none => none
theorem am_sh_spec {lv lv' : am_V} {h' : am_H} {o : Option (List Value × am_H)} {st' : List Value} (e : am_sh lv o = some (lv', st', h')) : o = some (st', h') ∧ lv' = lv := by
  cases o with
  | none => simp [am_sh] at e
  | some x => simp [am_sh] at e; exact ⟨by rw [← e.2.1, ← e.2.2], e.1.symm⟩
def am_i1 (sc : List Int32) (a : Instr) (lv : am_V) (st : List Value) (h : am_H) : Option am_S :=
  match a with
  | .iconst n => some (lv, .int (Int32.ofInt n) :: st, h)
  | .jsr_w n => some (lv, .long (Int64.ofInt n) :: st, h)
  | .aconst_null => some (lv, .null :: st, h)
  | .ldc k => some (lv, .retAddr k :: st, h)
  | .iload i => match am_ld lv i with
    | some (.int x) => some (lv, .int x :: st, h)
    | _ => none
  | .lload i => match am_ld lv i with
    | some (.long x) => some (lv, .long x :: st, h)
    | _ => none
  | .aload i => match am_ld lv i with
    | some v => if am_isR v = true then some (lv, v :: st, h) else none
    | none => none
  | .istore i => match st with
    | .int x :: r => some (am_s1 lv i (.int x), r, h)
    | _ => none
  | .lstore i => match st with
    | .long x :: r => some (am_s2 lv i (.long x), r, h)
    | _ => none
  | .astore i => match st with
    | v :: r => if am_isR v = true then some (am_s1 lv i v, r, h) else none
    | _ => none
  | .iinc i n => match am_ld lv i with
    | some (.int x) => some (am_s1 lv i (.int (x + Int32.ofInt n)), st, h)
    | _ => none
  | .iadd => am_st lv h (am_pi (fun x y => x + y) st)
  | .isub => am_st lv h (am_pi (fun x y => x - y) st)
  | .imul => am_st lv h (am_pi (fun x y => x * y) st)
  | .iand => am_st lv h (am_pi (fun x y => x &&& y) st)
  | .ior => am_st lv h (am_pi (fun x y => x ||| y) st)
  | .ixor => am_st lv h (am_pi (fun x y => x ^^^ y) st)
  | .ishl => am_st lv h (am_pi (fun x y => x <<< (y &&& 31)) st)
  | .ishr => am_st lv h (am_pi (fun x y => x >>> (y &&& 31)) st)
  | .iushr => am_st lv h (am_pi (fun x y => (x.toUInt32 >>> (y.toUInt32 &&& Int32.toUInt32 31)).toInt32) st)
  | .idiv => match st with
    | .int y :: .int x :: r => if y = 0 then none else some (lv, .int (x / y) :: r, h)
    | _ => none
  | .irem => match st with
    | .int y :: .int x :: r => if y = 0 then none else some (lv, .int (x - x / y * y) :: r, h)
    | _ => none
  | .ineg => match st with
    | .int x :: r => some (lv, .int (-x) :: r, h)
    | _ => none
  | .ladd => am_st lv h (am_pj (fun x y => .long (x + y)) st)
  | .lsub => am_st lv h (am_pj (fun x y => .long (x - y)) st)
  | .lmul => am_st lv h (am_pj (fun x y => .long (x * y)) st)
  | .land => am_st lv h (am_pj (fun x y => .long (x &&& y)) st)
  | .lor => am_st lv h (am_pj (fun x y => .long (x ||| y)) st)
  | .lcmp => am_st lv h (am_pj (fun x y => .int (lg_cmp x y)) st)
  | .lshl => am_st lv h (am_ps (fun x y => x <<< (y.toInt64 &&& 63)) st)
  | .lushr => am_st lv h (am_ps (fun x y => (x.toUInt64 >>> (y.toInt64.toUInt64 &&& Int64.toUInt64 63)).toInt64) st)
  | .i2l => match st with
    | .int x :: r => some (lv, .long x.toInt64 :: r, h)
    | _ => none
  | .l2i => match st with
    | .long x :: r => some (lv, .int x.toInt32 :: r, h)
    | _ => none
  | .dup => match st with
    | v :: r => if v.category = 1 then some (lv, v :: v :: r, h) else none
    | _ => none
  | .pop => match st with
    | v :: r => if v.category = 1 then some (lv, r, h) else none
    | _ => none
  | .dup_x1 => match st with
    | v :: w :: r => if v.category = 1 ∧ w.category = 1 then some (lv, v :: w :: v :: r, h) else none
    | _ => none
  | .dup2 => match st with
    | v :: w :: r => if v.category = 1 ∧ w.category = 1 then some (lv, v :: w :: v :: w :: r, h) else none
    | _ => none
  | .getfield f => am_st lv h (am_get f h st)
  | .putfield f => am_sh lv (am_put f h st)
  | .iaload => match st with
    | .int _ :: .retAddr _ :: _ => am_st lv h (am_scr sc st)
    | _ => am_st lv h (am_gld (fun k => k == 100) h st)
  | .laload => am_st lv h (am_gld (fun k => k == 101) h st)
  | .baload => match st with
    | .int _ :: .retAddr _ :: _ => am_st lv h (am_xb st)
    | _ => am_st lv h (am_gld (fun k => k == 102) h st)
  | .getstatic k => if k = 0 then some (lv, .int 1 :: st, h) else if k = 1 then some (lv, .retAddr 1000 :: st, h) else none
  | .i2c => match st with
    | .int x :: r => some (lv, .int (x.toUInt32 % 65536).toInt32 :: r, h)
    | _ => none
  | .aaload => am_st lv h (am_gld (fun k => decide (103 ≤ k) && decide (k ≠ 199)) h st)
  | .arraylength => am_st lv h (am_alen sc h st)
  | .iastore => am_sh lv (am_gst am_kI h st)
  | .lastore => am_sh lv (am_gst am_kJ h st)
  | .bastore => am_sh lv (am_gst am_kZ h st)
  | .aastore => am_sh lv (am_gst am_kA h st)
  | .new ci => some (lv, .ref h.length :: st, h ++ [(ci, am_df ci)])
  | .newarray t => match t with
    | .int => am_sh lv (am_mka 100 (.int 0) h st)
    | .long => am_sh lv (am_mka 101 (.long 0) h st)
    | .boolean => am_sh lv (am_mka 102 (.int 0) h st)
    | _ => none
  | .anewarray k => am_sh lv (am_mka k .null h st)
  | .checkcast ci => match st with
    | .null :: r => some (lv, .null :: r, h)
    | .ref a :: r => match h[a]? with
      | some o => if o.1 = ci then some (lv, .ref a :: r, h) else none
      | none => none
    | _ => none
  | .dconst n => if n = 0 then some (lv, .double FP.dconst0 :: st, h) else none
  | .fconst n => if n = 0 then some (lv, .float FP.fconst0 :: st, h) else none
  | .i2d => match st with
    | .int x :: r => some (lv, .double (FP.i2d x) :: r, h)
    | _ => none
  | .i2f => match st with
    | .int x :: r => some (lv, .float (FP.i2f x) :: r, h)
    | _ => none
  | .l2d => match st with
    | .long x :: r => some (lv, .double (FP.l2d x) :: r, h)
    | _ => none
  | .f2d => match st with
    | .float x :: r => if FP.f2d x &&& 0x7fffffffffffffff ≤ 0x7ff0000000000000 then some (lv, .double (FP.f2d x) :: r, h) else none
    | _ => none
  | .ddiv => match st with
    | .double y :: .double x :: r => if FP.ddiv x y &&& 0x7fffffffffffffff ≤ 0x7ff0000000000000 then some (lv, .double (FP.ddiv x y) :: r, h) else none
    | _ => none
  | .fdiv => match st with
    | .float y :: .float x :: r => if FP.fdiv x y &&& 0x7fffffff ≤ 0x7f800000 then some (lv, .float (FP.fdiv x y) :: r, h) else none
    | _ => none
  | .dcmp op => match st with
    | .double y :: .double x :: r => some (lv, .int (Op.cmpValue (FP.dcmp x y) op) :: r, h)
    | _ => none
  | .dload i => match am_ld lv i with
    | some (.double x) => some (lv, .double x :: st, h)
    | _ => none
  | .dstore i => match st with
    | .double x :: r => some (am_s2 lv i (.double x), r, h)
    | _ => none
  | .invokedynamic _ => match st with
    | .ref _ :: r => if am_cs r ≤ 8 then some (lv, r, h) else none
    | _ => none
  | .jsr k => match st with
    | .int y :: .int x :: r => if am_cs r ≤ 8 then some (lv, .int (if k = 0 then (if y < x then y else x) else (if x < y then y else x)) :: r, h) else none
    | _ => none
  | _ => none
theorem am_find_in {i : Nat} {q : Nat × Nat × Nat × Nat} : ∀ {tb : List (Nat × Nat × Nat × Nat)}, am_find tb i = some q → q ∈ tb ∧ q.1 = i
  | [], h => by simp [am_find] at h
  | x :: r, h => by
    unfold am_find at h
    by_cases hx : x.1 = i
    · rw [if_pos hx] at h
      cases h
      exact ⟨List.mem_cons_self, hx⟩
    · rw [if_neg hx] at h
      obtain ⟨h1, h2⟩ := am_find_in h
      exact ⟨List.mem_cons_of_mem _ h1, h2⟩
theorem am_en_spec {cn i k a : Nat} (h : am_en cn i k a = true) : ∃ pl, am_ck (am_own cn) (i, k, a, pl) = true := by
  unfold am_en at h
  split at h
  · rename_i q hq
    obtain ⟨h1, h2⟩ := am_find_in hq
    simp only [Bool.and_eq_true, beq_iff_eq] at h
    have h3 := am_ck_all cn q h1
    obtain ⟨q1, q2, q3, q4⟩ := q
    simp only at h2 h
    obtain ⟨rfl, rfl⟩ := h
    subst h2
    exact ⟨q4, h3⟩
  · cases h
theorem am_en1 {cn i f : Nat} (h : am_en cn i 1 f = true) : ∃ C0 T N, vwCl[f / 128]? = some (C0, T, N) ∧ 3 ≤ f / 128 ∧ f % 128 < N ∧ Jvm.Cond.fieldLink (am_own cn) i (T (f % 128)).1 (T (f % 128)).2.1 (T (f % 128)).2.2.1 ∈ am_T := by
  obtain ⟨pl, h⟩ := am_en_spec h
  unfold am_ck at h
  simp only at h
  split at h
  · rename_i r hr
    simp only [Bool.and_eq_true, decide_eq_true_eq] at h
    exact ⟨r.1, r.2.1, r.2.2, hr, h.1.1, h.1.2, am_inT (List.mem_of_getElem? h.2) rfl⟩
  · cases h
theorem am_en2 {cn i f : Nat} (h : am_en cn i 2 f = true) : ∃ C0 T N, vwCl[f / 128]? = some (C0, T, N) ∧ 3 ≤ f / 128 ∧ f % 128 < N ∧ ∃ host, (am_own cn, i, (T (f % 128)).1, (T (f % 128)).2.1, (T (f % 128)).2.2.1, host) ∈ am_nf := by
  obtain ⟨pl, h⟩ := am_en_spec h
  unfold am_ck at h
  simp only at h
  split at h
  · rename_i r hr
    split at h
    · rename_i z hz
      simp only [Bool.and_eq_true, decide_eq_true_eq] at h
      obtain ⟨⟨h1, h2⟩, h3⟩ := h
      refine ⟨r.1, r.2.1, r.2.2, hr, h1, h2, z.2.2.2.2.2, ?_⟩
      have h4 := List.mem_of_getElem? hz
      obtain ⟨z1, z2, z3, z4, z5, z6⟩ := z
      simp only [Prod.mk.injEq] at h3
      obtain ⟨rfl, rfl, rfl, rfl, rfl⟩ := h3
      exact h4
    · cases h
  · cases h
theorem am_en3 {cn i ci : Nat} (h : am_en cn i 3 ci = true) : ∃ C0 T N, vwCl[ci]? = some (C0, T, N) ∧ 3 ≤ ci ∧ Jvm.Cond.classLink (am_own cn) i C0 ∈ am_T := by
  obtain ⟨pl, h⟩ := am_en_spec h
  unfold am_ck at h
  simp only at h
  split at h
  · rename_i r hr
    simp only [Bool.and_eq_true, decide_eq_true_eq] at h
    exact ⟨r.1, r.2.1, r.2.2, hr, h.1, am_inT (List.mem_of_getElem? h.2) rfl⟩
  · cases h
theorem am_en4 {cn i k : Nat} (h : am_en cn i 4 k = true) : (k = 103 ∧ Jvm.Cond.classLink (am_own cn) i "[I" ∈ am_T) ∨ (k = 104 ∧ Jvm.Cond.classLink (am_own cn) i "java/lang/Object" ∈ am_T) := by
  obtain ⟨pl, h⟩ := am_en_spec h
  unfold am_ck at h
  simp only [Bool.and_eq_true, Bool.or_eq_true, decide_eq_true_eq] at h
  rcases h with h | h
  · exact Or.inl ⟨h.1, am_inT (List.mem_of_getElem? h.2) rfl⟩
  · exact Or.inr ⟨h.1, am_inT (List.mem_of_getElem? h.2) rfl⟩
theorem am_en5 {cn i k : Nat} (h : am_en cn i 5 k = true) : Jvm.Cond.constant (am_own cn) i (Int32.ofNat k) ∈ am_T := by
  obtain ⟨pl, h⟩ := am_en_spec h
  unfold am_ck at h
  simp only [decide_eq_true_eq] at h
  exact am_inT (List.mem_of_getElem? h) rfl
theorem am_en6 {cn i k : Nat} (h : am_en cn i 6 k = true) : Jvm.Cond.constantLong (am_own cn) i (Int64.ofNat k) ∈ am_T := by
  obtain ⟨pl, h⟩ := am_en_spec h
  unfold am_ck at h
  simp only [decide_eq_true_eq] at h
  exact am_inT (List.mem_of_getElem? h) rfl
theorem am_en14 {cn i : Nat} (h : am_en cn i 14 384 = true) : Jvm.Cond.fieldLink (am_own cn) i "java/util/ArrayList" "modCount" "I" ∈ am_T := by
  obtain ⟨pl, h⟩ := am_en_spec h
  simp only [am_ck, Bool.and_eq_true, decide_eq_true_eq] at h
  exact am_inT (List.mem_of_getElem? h.2) rfl
theorem am_en15 {cn i k : Nat} (h : am_en cn i 15 k = true) : Jvm.Cond.fieldLink (am_own cn) i (am_gs k).1 (am_gs k).2.1 (am_gs k).2.2 ∈ am_T := by
  obtain ⟨pl, h⟩ := am_en_spec h
  simp only [am_ck, decide_eq_true_eq] at h
  exact am_inT (List.mem_of_getElem? h) rfl
theorem am_en16 {cn i k : Nat} (h : am_en cn i 16 k = true) : Jvm.Cond.fieldLink (am_own cn) i "java/lang/String" (am_sf k).1 (am_sf k).2 ∈ am_T := by
  obtain ⟨pl, h⟩ := am_en_spec h
  simp only [am_ck, decide_eq_true_eq] at h
  exact am_inT (List.mem_of_getElem? h) rfl
theorem am_en9 {cn i k : Nat} (h : am_en cn i 9 k = true) : Jvm.Cond.methodLink (am_own cn) i Lib.objectInit ∈ am_T := by
  obtain ⟨pl, h⟩ := am_en_spec h
  unfold am_ck at h
  simp only [decide_eq_true_eq] at h
  exact am_inT (List.mem_of_getElem? h) rfl
theorem am_en10 {cn i k : Nat} (h : am_en cn i 10 k = true) : Jvm.Cond.methodLink (am_own cn) i Lib.Math.min.name ∈ am_T := by
  obtain ⟨pl, h⟩ := am_en_spec h
  unfold am_ck at h
  simp only [decide_eq_true_eq] at h
  exact am_inT (List.mem_of_getElem? h) rfl
theorem am_en11 {cn i k : Nat} (h : am_en cn i 11 k = true) : Jvm.Cond.methodLink (am_own cn) i Lib.Math.max.name ∈ am_T := by
  obtain ⟨pl, h⟩ := am_en_spec h
  unfold am_ck at h
  simp only [decide_eq_true_eq] at h
  exact am_inT (List.mem_of_getElem? h) rfl
theorem am_en13 {cn i k : Nat} (h : am_en cn i 13 k = true) : ∃ tx, (am_own cn, i, tx, k) ∈ am_strs := by
  obtain ⟨pl, h⟩ := am_en_spec h
  unfold am_ck at h
  simp only at h
  split at h
  · rename_i r hr
    simp only [Bool.and_eq_true, decide_eq_true_eq] at h
    obtain ⟨r1, r2, r3, r4⟩ := r
    simp only at h
    obtain ⟨⟨rfl, rfl⟩, rfl⟩ := h
    exact ⟨r3, List.mem_of_getElem? hr⟩
  · cases h
