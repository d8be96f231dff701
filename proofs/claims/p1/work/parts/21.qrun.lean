variable {sc : List Int32}
/-! THE QUICK MACHINE: blocks, runs of blocks, methods -/
/-- what the unknowns are: the script's ints, and which call it is -/
def fv_rh (sc : List Int32) (ρ : Nat → Int32) : Prop := (∀ j, j < 13 → ρ j = sc.getD j 0) ∧ ρ 13 = ρ 0 &&& 63 ∧ ρ 15 = Int32.ofNat sc.length ∧ fv_ts ρ
section FVR
variable {ρ : Nat → Int32}
theorem fv_sn {a : Instr} {X : fv_C → fv_C} (h : fv_snd sc ρ a X) (e : ∀ K, fv_go (fv_in a K) = X K) : fv_snd sc ρ a (fun K => fv_go (fv_in a K)) := by
  intro K e9 lvN st n t iv lv h9 hx
  have hx : fv_go (fv_in a K) e9 lvN st n t iv = true := hx
  rw [e] at hx
  exact h K e9 lvN st n t iv lv h9 hx
theorem fv_ldI {v i : Nat} {lv : am_V} {st : List Value} {h : am_H} (hp : fv_isI v = true) (e : am_ld lv i = some (fv_de ρ v)) : am_i1 sc (.iload i) lv st h = some (lv, fv_de ρ v :: st, h) := by
  obtain ⟨x, hx⟩ := fv_isI_t (ρ := ρ) hp
  rw [hx] at e ⊢
  show (match am_ld lv i with
    | some (.int x) => some (lv, Value.int x :: st, h)
    | _ => none) = _
  rw [e]
theorem fv_ldJ {v i : Nat} {lv : am_V} {st : List Value} {h : am_H} (hp : fv_isJ v = true) (e : am_ld lv i = some (fv_de ρ v)) : am_i1 sc (.lload i) lv st h = some (lv, fv_de ρ v :: st, h) := by
  obtain ⟨x, hx⟩ := fv_isJ_t (ρ := ρ) hp
  rw [hx] at e ⊢
  show (match am_ld lv i with
    | some (.long x) => some (lv, Value.long x :: st, h)
    | _ => none) = _
  rw [e]
theorem fv_ldR {v i : Nat} {lv : am_V} {st : List Value} {h : am_H} (hp : fv_isR v = true) (e : am_ld lv i = some (fv_de ρ v)) : am_i1 sc (.aload i) lv st h = some (lv, fv_de ρ v :: st, h) := by
  show (match am_ld lv i with
    | some v => if am_isR v = true then some (lv, v :: st, h) else none
    | none => none) = _
  rw [e]
  simp only
  rw [if_pos (fv_isR_t hp)]
theorem fv_ldD {v i : Nat} {lv : am_V} {st : List Value} {h : am_H} (hp : fv_isD v = true) (e : am_ld lv i = some (fv_de ρ v)) : am_i1 sc (.dload i) lv st h = some (lv, fv_de ρ v :: st, h) := by
  obtain ⟨x, hx⟩ := fv_isD_d (ρ := ρ) hp
  rw [hx] at e ⊢
  show (match am_ld lv i with
    | some (.double x) => some (lv, Value.double x :: st, h)
    | _ => none) = _
  rw [e]
theorem fv_stI {v i : Nat} {lv : am_V} {st : List Value} {h : am_H} (hp : fv_isI v = true) : am_i1 sc (.istore i) lv (fv_de ρ v :: st) h = some (am_s1 lv i (fv_de ρ v), st, h) := by
  obtain ⟨x, hx⟩ := fv_isI_t (ρ := ρ) hp
  rw [hx]
  rfl
theorem fv_stJ {v i : Nat} {lv : am_V} {st : List Value} {h : am_H} (hp : fv_isJ v = true) : am_i1 sc (.lstore i) lv (fv_de ρ v :: st) h = some (am_s2 lv i (fv_de ρ v), st, h) := by
  obtain ⟨x, hx⟩ := fv_isJ_t (ρ := ρ) hp
  rw [hx]
  rfl
theorem fv_stD {v i : Nat} {lv : am_V} {st : List Value} {h : am_H} (hp : fv_isD v = true) : am_i1 sc (.dstore i) lv (fv_de ρ v :: st) h = some (am_s2 lv i (fv_de ρ v), st, h) := by
  obtain ⟨x, hx⟩ := fv_isD_d (ρ := ρ) hp
  rw [hx]
  rfl
theorem fv_stR {v i : Nat} {lv : am_V} {st : List Value} {h : am_H} (hp : fv_isR v = true) : am_i1 sc (.astore i) lv (fv_de ρ v :: st) h = some (am_s1 lv i (fv_de ρ v), st, h) := by
  show (if am_isR (fv_de ρ v) = true then some (am_s1 lv i (fv_de ρ v), st, h) else none) = _
  rw [if_pos (fv_isR_t hp)]
theorem fv_kI (m : Int) (lv : am_V) (st : List Value) (h : am_H) : am_i1 sc (.iconst m) lv st h = some (lv, fv_de ρ (Nat.mul 8 (fv_ni m)) :: st, h) := by
  rw [fv_mul_h, fv_m0, ← fv_ni_eq]
  rfl
theorem fv_kJ (m : Int) (lv : am_V) (st : List Value) (h : am_H) : am_i1 sc (.jsr_w m) lv st h = some (lv, fv_de ρ (Nat.add (Nat.mul 8 (fv_nj m)) 5) :: st, h) := by
  rw [fv_mul_h, fv_add_h, fv_m5, ← fv_nj_eq]
  rfl
theorem fv_kX (k : Nat) (lv : am_V) (st : List Value) (h : am_H) : am_i1 sc (.ldc k) lv st h = some (lv, fv_de ρ (Nat.add (Nat.mul 8 k) 3) :: st, h) := by
  rw [fv_mul_h, fv_add_h, fv_m3]
  rfl
theorem fv_in_ok (hsc : sc.length ≤ 13) (hρ : fv_rh sc ρ) (a : Instr) : fv_snd sc ρ a (fun K => fv_go (fv_in a K)) := by
  cases a
  case iconst m => exact fv_sn (fv_p_push (fv_kI m)) (fun _ => rfl)
  case jsr_w m => exact fv_sn (fv_p_push (fv_kJ m)) (fun _ => rfl)
  case aconst_null => exact fv_sn (fv_p_push (v := 4) fun lv st h => rfl) (fun _ => rfl)
  case ldc k => exact fv_sn (fv_p_push (fv_kX k)) (fun _ => rfl)
  case iload i => exact fv_sn (fv_p_load (p := fv_isI) (i := i) rfl fun _ _ _ _ => fv_ldI) (fun _ => rfl)
  case lload i => exact fv_sn (fv_p_load (p := fv_isJ) (i := i) rfl fun _ _ _ _ => fv_ldJ) (fun _ => rfl)
  case aload i => exact fv_sn (fv_p_load (p := fv_isR) (i := i) rfl fun _ _ _ _ => fv_ldR) (fun _ => rfl)
  case dload i => exact fv_sn (fv_p_load (p := fv_isD) (i := i) rfl fun _ _ _ _ => fv_ldD) (fun _ => rfl)
  case istore i => exact fv_sn (fv_p_store (p := fv_isI) (i := i) fun _ _ _ _ => fv_stI) (fun _ => rfl)
  case astore i => exact fv_sn (fv_p_store (p := fv_isR) (i := i) fun _ _ _ _ => fv_stR) (fun _ => rfl)
  case lstore i => exact fv_sn (fv_p_store2 (p := fv_isJ) (i := i) fun _ _ _ _ => fv_stJ) (fun _ => rfl)
  case dstore i => exact fv_sn (fv_p_store2 (p := fv_isD) (i := i) fun _ _ _ _ => fv_stD) (fun _ => rfl)
  case iinc i m => exact fv_sn (fv_p_iinc hρ.2.2.2) (fun _ => rfl)
  case iadd => exact fv_sn (fv_p_iadd hρ.2.2.2) (fun _ => rfl)
  case isub => exact fv_sn fv_p_isub (fun _ => rfl)
  case iand => exact fv_sn (fv_p_iand hρ.2.1) (fun _ => rfl)
  case ior => exact fv_sn (fv_p_op (f := Nat.lor) (g := fun x y => x ||| y) fv_or32 fun _ _ _ _ _ => rfl) (fun _ => rfl)
  case ishr => exact fv_sn fv_p_ishr (fun _ => rfl)
  case idiv => exact fv_sn fv_p_idiv (fun _ => rfl)
  case ladd => exact fv_sn fv_p_ladd (fun _ => rfl)
  case lsub => exact fv_sn (fv_p_lop (g := fun x y => x - y) fv_sub64 fun _ _ _ _ _ => rfl) (fun _ => rfl)
  case land => exact fv_sn (fv_p_land hρ.2.2.2) (fun _ => rfl)
  case imul => exact fv_sn (fv_p_tbo (op := 1) hρ.2.2.2) (fun _ => rfl)
  case iushr => exact fv_sn (fv_p_tbo (op := 3) hρ.2.2.2) (fun _ => rfl)
  case irem => exact fv_sn (fv_p_tbo (op := 4) hρ.2.2.2) (fun _ => rfl)
  case lshl => exact fv_sn (fv_p_tbo (op := 5) hρ.2.2.2) (fun _ => rfl)
  case lor => exact fv_sn (fv_p_tbo (op := 7) hρ.2.2.2) (fun _ => rfl)
  case lushr => exact fv_sn fv_p_lushr (fun _ => rfl)
  case lcmp => exact fv_sn fv_p_lcmp (fun _ => rfl)
  case i2l => exact fv_sn fv_p_i2l (fun _ => rfl)
  case l2i => exact fv_sn fv_p_l2i (fun _ => rfl)
  case i2c => exact fv_sn fv_p_i2c (fun _ => rfl)
  case dup => exact fv_sn fv_p_dup (fun _ => rfl)
  case pop => exact fv_sn fv_p_pop (fun _ => rfl)
  case dup_x1 => exact fv_sn fv_p_dupx (fun _ => rfl)
  case getfield f =>
    cases h1 : Nat.ble 384 f with
    | false => exact fv_sn fv_p_getx (fun K => by
        show fv_go (@Bool.rec (fun _ => fv_C × Unit) (fv_getx f K, ()) _ (Nat.ble 384 f)) = _
        rw [h1]
        rfl)
    | true =>
      cases h2 : fv_lt f 12800 with
      | false => exact fv_sn fv_p_no (fun K => by
          show fv_go (@Bool.rec (fun _ => fv_C × Unit) (fv_getx f K, ()) (@Bool.rec (fun _ => fv_C × Unit) (fv_no K, ()) (fv_get f K, ()) (fv_lt f 12800)) (Nat.ble 384 f)) = _
          rw [h1, h2]
          rfl)
      | true => exact fv_sn (fv_p_get (fv_ble h1) (fv_ltt h2)) (fun K => by
          show fv_go (@Bool.rec (fun _ => fv_C × Unit) (fv_getx f K, ()) (@Bool.rec (fun _ => fv_C × Unit) (fv_no K, ()) (fv_get f K, ()) (fv_lt f 12800)) (Nat.ble 384 f)) = _
          rw [h1, h2]
          rfl)
  case putfield f =>
    cases h2 : fv_lt f 12800 with
    | false => exact fv_sn fv_p_no (fun K => by
        show fv_go (@Bool.rec (fun _ => fv_C × Unit) (fv_no K, ()) (fv_put f K, ()) (fv_lt f 12800)) = _
        rw [h2]
        rfl)
    | true => exact fv_sn (fv_p_put (fv_ltt h2)) (fun K => by
        show fv_go (@Bool.rec (fun _ => fv_C × Unit) (fv_no K, ()) (fv_put f K, ()) (fv_lt f 12800)) = _
        rw [h2]
        rfl)
  case iaload => exact fv_sn (fv_p_iald hsc hρ.1 hρ.2.2.1) (fun _ => rfl)
  case laload => exact fv_sn (fv_p_ald (p := Nat.beq 101) (k := fun k => k == 101) rfl (fun c h => by rw [← fv_beq h]; rfl) (fun _ _ _ _ _ => rfl)) (fun _ => rfl)
  case baload => exact fv_sn fv_p_bald (fun _ => rfl)
  case aaload => exact fv_sn (fv_p_ald (p := fv_kA) (k := fun k => decide (103 ≤ k) && decide (k ≠ 199)) rfl (fun c h => by
    obtain ⟨h1, h2⟩ := fv_iff h
    obtain ⟨h3, -⟩ := fv_ifn h2
    have h1 := fv_ble h1
    have h3 := fv_bne h3
    simp [h1, h3]) (fun _ _ _ _ _ => rfl)) (fun _ => rfl)
  case arraylength => exact fv_sn (fv_p_len hρ.2.2.1) (fun _ => rfl)
  case iastore => exact fv_sn (fv_p_ast (p := fv_pI) (k := am_kI) (fun _ _ => rfl) (fun _ _ _ _ _ => fv_pI_ok) (fun _ _ _ _ _ _ => rfl)) (fun _ => rfl)
  case lastore => exact fv_sn (fv_p_ast (p := fv_pJ) (k := am_kJ) (fun _ _ => rfl) (fun _ _ _ _ _ => fv_pJ_ok) (fun _ _ _ _ _ _ => rfl)) (fun _ => rfl)
  case bastore => exact fv_sn (fv_p_ast (p := fv_pZ) (k := am_kZ) (fun _ _ => rfl) (fun _ _ _ _ _ => fv_pZ_ok) (fun _ _ _ _ _ _ => rfl)) (fun _ => rfl)
  case aastore => exact fv_sn (fv_p_ast (p := fv_pA) (k := am_kA) (fun t v => by
    cases hc : fv_pA 199 t v with
    | false => rfl
    | true =>
      rcases fv_ift hc with ⟨-, h⟩ | ⟨-, h⟩
      · exact absurd h Bool.false_ne_true
      · obtain ⟨-, -, h3⟩ := fv_ref_ok (ρ := ρ) h
        rw [fv_o_eq] at h3
        obtain ⟨h4, h5⟩ := fv_iff h3
        have h4 := fv_ltt h4
        rcases fv_ift h5 with ⟨h6, -⟩ | ⟨-, h6⟩
        · have h6 := fv_beq h6
          rw [fv_add_h] at h6
          omega
        · exact absurd h6 Bool.false_ne_true) (fun _ _ _ _ _ => fv_pA_ok) (fun _ _ _ _ _ _ => rfl)) (fun _ => rfl)
  case getstatic k =>
    cases k with
    | zero => exact fv_sn (fv_p_push (v := 8) fun lv st h => rfl) (fun _ => rfl)
    | succ k =>
      cases k with
      | zero => exact fv_sn (fv_p_push (v := 8003) fun lv st h => rfl) (fun _ => rfl)
      | succ k => exact fv_sn fv_p_no (fun _ => rfl)
  case new ci => exact fv_sn fv_p_new (fun _ => rfl)
  case newarray t =>
    cases t
    case int => exact fv_sn (fv_p_newa (c := 100) (v := 0) (w := .int 0) rfl (fun _ _ _ => rfl)) (fun _ => rfl)
    case long => exact fv_sn (fv_p_newa (c := 101) (v := 5) (w := .long 0) rfl (fun _ _ _ => rfl)) (fun _ => rfl)
    case boolean => exact fv_sn (fv_p_newa (c := 102) (v := 0) (w := .int 0) rfl (fun _ _ _ => rfl)) (fun _ => rfl)
    all_goals exact fv_sn fv_p_no (fun _ => rfl)
  case anewarray k => exact fv_sn (fv_p_newa (c := k) (v := 4) (w := .null) rfl (fun _ _ _ => rfl)) (fun _ => rfl)
  case checkcast ci => exact fv_sn fv_p_cast (fun _ => rfl)
  case invokedynamic k => exact fv_sn fv_p_oi (fun _ => rfl)
  case jsr k => exact fv_sn fv_p_jsr (fun _ => rfl)
  case dconst k =>
    obtain ⟨k, hk⟩ := k
    cases k with
    | zero => exact fv_sn (fv_p_push (v := 15) fun lv st h => rfl) (fun _ => rfl)
    | succ k => exact fv_sn fv_p_no (fun _ => rfl)
  case fconst k =>
    obtain ⟨k, hk⟩ := k
    cases k with
    | zero => exact fv_sn (fv_p_push (v := 23) fun lv st h => rfl) (fun _ => rfl)
    | succ k => exact fv_sn fv_p_no (fun _ => rfl)
  case f2d => exact fv_sn fv_p_f2d (fun _ => rfl)
  case dcmp op => exact fv_sn fv_p_dcmp (fun _ => rfl)
  all_goals exact fv_sn fv_p_no (fun _ => rfl)
theorem fv_cmp_ok {c : ClassFile.Cond} {x y : Nat} {kT kF : fv_Iv → Bool} {iv : fv_Iv} (h : fv_cmp c x y kT kF iv = true) (io : fv_iok ρ iv) : ∃ a b : Int32, fv_de ρ x = .int a ∧ fv_de ρ y = .int b ∧ ((am_cnd c a b ∧ ∃ iv2, fv_iok ρ iv2 ∧ kT iv2 = true) ∨ (¬ am_cnd c a b ∧ ∃ iv2, fv_iok ρ iv2 ∧ kF iv2 = true)) := by
  cases c with
  | eq => exact fv_eq2_ok h io
  | ne =>
    obtain ⟨a, b, h1, h2, h3⟩ := fv_eq2_ok h io
    refine ⟨a, b, h1, h2, ?_⟩
    rcases h3 with ⟨h3, h4⟩ | ⟨h3, h4⟩
    · exact Or.inr ⟨fun z => z h3, h4⟩
    · exact Or.inl ⟨h3, h4⟩
  | lt => exact fv_lt2_ok h io
  | ge =>
    obtain ⟨a, b, h1, h2, h3⟩ := fv_lt2_ok h io
    refine ⟨a, b, h1, h2, ?_⟩
    rcases h3 with ⟨h3, h4⟩ | ⟨h3, h4⟩
    · exact Or.inr ⟨fun z => Int32.not_le.mpr h3 z, h4⟩
    · exact Or.inl ⟨Int32.not_lt.mp h3, h4⟩
  | gt =>
    obtain ⟨a, b, h1, h2, h3⟩ := fv_lt2_ok h io
    exact ⟨b, a, h2, h1, h3⟩
  | le =>
    obtain ⟨a, b, h1, h2, h3⟩ := fv_lt2_ok h io
    refine ⟨b, a, h2, h1, ?_⟩
    rcases h3 with ⟨h3, h4⟩ | ⟨h3, h4⟩
    · exact Or.inr ⟨fun z => Int32.not_le.mpr h3 z, h4⟩
    · exact Or.inl ⟨Int32.not_lt.mp h3, h4⟩
theorem fv_sw_ok {kk : Nat → fv_Iv → Bool} {x d : Nat} {a : Int32} (hx : fv_de ρ x = .int a) : ∀ {offs : List Int} {lo D : Int} {iv : fv_Iv}, fv_sw (fv_tl lo offs) d x kk iv = true → fv_iok ρ iv → -2147483648 ≤ lo → lo + offs.length ≤ 2147483648 → ∃ b iv2, kk b iv2 = true ∧ fv_iok ρ iv2 ∧ b = if a.toInt < lo ∨ lo + offs.length ≤ a.toInt then d else (offs.getD (a.toInt - lo).toNat D).toNat
  | [], lo, D, iv, h, io, h1, h2 => by
    refine ⟨d, iv, h, io, ?_⟩
    rw [if_pos (by simp only [List.length_nil]; omega)]
  | o :: r, lo, D, iv, h, io, h1, h2 => by
    have h : fv_eq2 iv x (8 * Int.toNat (lo % 4294967296)) (kk o.toNat) (fun iv => fv_sw (fv_tl (lo + 1) r) d x kk iv) = true := h
    simp only [List.length_cons] at h2 ⊢
    obtain ⟨a2, b2, g1, g2, g3⟩ := fv_eq2_ok h io
    rw [hx] at g1
    cases g1
    rw [fv_m0] at g2
    have e : Int32.ofNat (Int.toNat (lo % 4294967296)) = Int32.ofInt lo := (fv_ni_eq lo).symm
    rw [e] at g2
    cases g2
    have e2 : (Int32.ofInt lo).toInt = lo := Int32.toInt_ofInt_of_le (by omega) (by omega)
    rcases g3 with ⟨g3, iv2, io2, g4⟩ | ⟨g3, iv2, io2, g4⟩
    · refine ⟨_, iv2, g4, io2, ?_⟩
      have e3 : a.toInt = lo := by rw [g3]; exact e2
      rw [if_neg (by omega), show (a.toInt - lo).toNat = 0 by omega]
      rfl
    · have hne : ¬ a.toInt = lo := fun z => g3 (Int32.toInt_inj.mp (by rw [e2]; exact z))
      obtain ⟨b, iv3, k1, k2, k3⟩ := fv_sw_ok hx (offs := r) (lo := lo + 1) (D := D) g4 io2 (by omega) (by omega)
      refine ⟨b, iv3, k1, k2, ?_⟩
      rw [k3]
      by_cases hc : a.toInt < lo + 1 ∨ lo + 1 + r.length ≤ a.toInt
      · rw [if_pos hc, if_pos (by omega)]
      · rw [if_neg hc, if_neg (by omega), show (a.toInt - lo).toNat = (a.toInt - (lo + 1)).toNat + 1 by omega]
        rfl
/-- what the end of a block comes to -/
theorem fv_tm_ok {bi : Nat} {t : Instr} {e : fv_E} {lvN st : List Nat} {n : Nat} {T : fv_T} {iv : fv_Iv} {lv : am_V} {h : am_H} (hx : fv_go (fv_tm bi t) e lvN st n T iv = true) (io : fv_iok ρ iv) :
    (∃ b st2 iv2, e 0 b 0 lvN st2 n T iv2 = true ∧ fv_iok ρ iv2 ∧ ∀ (C : am_Rl) (CT : am_Rt) (hds : List (Nat × Nat × Nat)) (nx : Nat → am_V → List Value → am_H → Prop) (fin : Option Value → am_H → Prop) (thr : Nat → am_H → Prop), nx b lv (st2.map (fv_de ρ)) h → am_tm C CT hds nx fin thr t bi lv (st.map (fv_de ρ)) h) ∨
    (e 1 0 0 lvN st n T iv = true ∧ ∃ r : Option Value, r.toList = st.map (fv_de ρ) ∧ ∀ (C : am_Rl) (CT : am_Rt) (hds : List (Nat × Nat × Nat)) (nx : Nat → am_V → List Value → am_H → Prop) (fin : Option Value → am_H → Prop) (thr : Nat → am_H → Prop), fin r h → am_tm C CT hds nx fin thr t bi lv (st.map (fv_de ρ)) h) ∨
    (∃ x, x < 3 ∧ e 2 x 0 lvN st n T iv = true ∧ ∀ (C : am_Rl) (CT : am_Rt) (hds : List (Nat × Nat × Nat)) (nx : Nat → am_V → List Value → am_H → Prop) (fin : Option Value → am_H → Prop) (thr : Nat → am_H → Prop), thr x h → am_tm C CT hds nx fin thr t bi lv (st.map (fv_de ρ)) h) ∨
    (∃ y m, t = .invokeinterface y m ∧ e (bi + 3) y m lvN st n T iv = true) := by
  have hret : ∀ {p : Nat → Bool} {e : fv_E}, fv_ret p e lvN st n T iv = true → ∃ v, st = [v] ∧ p v = true ∧ e 1 0 0 lvN st n T iv = true := by
    intro p e hx
    obtain ⟨v, r, h1, h2⟩ := fv_u_t hx
    obtain ⟨h3, h4⟩ := fv_e_t h2
    obtain ⟨h5, h6⟩ := fv_iff h4
    subst h3
    exact ⟨v, h1, h5, h6⟩
  cases t
  case nop => exact Or.inl ⟨_, _, iv, hx, io, fun _ _ _ _ _ _ z => z⟩
  case goto o => exact Or.inl ⟨_, _, iv, hx, io, fun _ _ _ _ _ _ z => z⟩
  case ifCond c o =>
    obtain ⟨x, r, rfl, h1⟩ := fv_u_t (show fv_u st _ = true from hx)
    obtain ⟨a, b, h2, h3, h4⟩ := fv_cmp_ok h1 io
    cases h3
    rcases h4 with ⟨h4, iv2, io2, h5⟩ | ⟨h4, iv2, io2, h5⟩
    · refine Or.inl ⟨_, _, iv2, h5, io2, fun C CT hds nx fin thr z => ?_⟩
      rw [List.map_cons, h2]
      exact ⟨fun _ => z, fun y => absurd h4 y⟩
    · refine Or.inl ⟨_, _, iv2, h5, io2, fun C CT hds nx fin thr z => ?_⟩
      rw [List.map_cons, h2]
      exact ⟨fun y => absurd y h4, fun _ => z⟩
  case if_icmp c o =>
    obtain ⟨x, y, r, rfl, h1⟩ := fv_2_t (show fv_2 st _ = true from hx)
    obtain ⟨a, b, h2, h3, h4⟩ := fv_cmp_ok h1 io
    rcases h4 with ⟨h4, iv2, io2, h5⟩ | ⟨h4, iv2, io2, h5⟩
    · refine Or.inl ⟨_, _, iv2, h5, io2, fun C CT hds nx fin thr z => ?_⟩
      rw [List.map_cons, List.map_cons, h2, h3]
      exact ⟨fun _ => z, fun y => absurd h4 y⟩
    · refine Or.inl ⟨_, _, iv2, h5, io2, fun C CT hds nx fin thr z => ?_⟩
      rw [List.map_cons, List.map_cons, h2, h3]
      exact ⟨fun y => absurd y h4, fun _ => z⟩
  case if_acmp c o =>
    cases c with
    | eq =>
      obtain ⟨x, y, r, rfl, h1⟩ := fv_2_t (show fv_2 st _ = true from hx)
      obtain ⟨h2, h3⟩ := fv_iff h1
      obtain ⟨h4, h5⟩ := fv_iff h3
      have h2 := fv_beq h2
      refine Or.inl ⟨_, _, iv, h5, io, fun C CT hds nx fin thr z => ?_⟩
      rw [List.map_cons, List.map_cons, ← h2, fv_d3 (fv_beq h4)]
      exact ⟨rfl, fun _ => z, (fun y => by cases y)⟩
    | ne =>
      obtain ⟨x, y, r, rfl, h1⟩ := fv_2_t (show fv_2 st _ = true from hx)
      obtain ⟨h2, h3⟩ := fv_iff h1
      obtain ⟨h4, h5⟩ := fv_iff h3
      have h2 := fv_beq h2
      refine Or.inl ⟨_, _, iv, h5, io, fun C CT hds nx fin thr z => ?_⟩
      rw [List.map_cons, List.map_cons, ← h2, fv_d3 (fv_beq h4)]
      exact ⟨rfl, (fun y => by cases y), fun _ => z⟩
  case ifnull o =>
    obtain ⟨x, r, rfl, h1⟩ := fv_u_t (show fv_u st _ = true from hx)
    rcases fv_ift h1 with ⟨h2, h3⟩ | ⟨-, h3⟩
    · cases fv_beq h2
      exact Or.inl ⟨_, _, iv, h3, io, fun C CT hds nx fin thr z => z⟩
    · obtain ⟨h4, h5⟩ := fv_iff h3
      refine Or.inl ⟨_, _, iv, h5, io, fun C CT hds nx fin thr z => ?_⟩
      rw [List.map_cons, fv_d2 (fv_beq h4)]
      exact z
  case ifnonnull o =>
    obtain ⟨x, r, rfl, h1⟩ := fv_u_t (show fv_u st _ = true from hx)
    rcases fv_ift h1 with ⟨h2, h3⟩ | ⟨-, h3⟩
    · cases fv_beq h2
      exact Or.inl ⟨_, _, iv, h3, io, fun C CT hds nx fin thr z => z⟩
    · obtain ⟨h4, h5⟩ := fv_iff h3
      refine Or.inl ⟨_, _, iv, h5, io, fun C CT hds nx fin thr z => ?_⟩
      rw [List.map_cons, fv_d2 (fv_beq h4)]
      exact z
  case tableswitch d lo hi offs =>
    by_cases hd : offs.toList.length = (hi - lo + 1).toNat ∧ -2147483648 ≤ lo ∧ hi < 2147483648
    · have e1 : fv_tm bi (.tableswitch d lo hi offs) = (fv_ttb (fv_tl lo offs.toList) d.toNat, ()) := by
        unfold fv_tm
        simp only [hd, and_self, decide_true]
      rw [e1] at hx
      obtain ⟨x, r, rfl, h1⟩ := fv_u_t (show fv_u st _ = true from hx)
      obtain ⟨h2, h3⟩ := fv_iff h1
      obtain ⟨a, ha⟩ := fv_isI_t (ρ := ρ) h2
      obtain ⟨hd1, hd2, hd3⟩ := hd
      by_cases hneg : hi - lo + 1 < 0
      · have hnil : offs.toList = [] := List.eq_nil_of_length_eq_zero (by omega)
        rw [hnil] at h3
        refine Or.inl ⟨_, _, iv, h3, io, fun C CT hds nx fin thr z => ?_⟩
        rw [List.map_cons, ha]
        show nx (am_ts d lo hi offs a) lv (r.map (fv_de ρ)) h
        unfold am_ts
        rw [if_pos (by omega)]
        exact z
      · obtain ⟨b, iv2, k1, k2, k3⟩ := fv_sw_ok ha (D := d) h3 io hd2 (by omega)
        refine Or.inl ⟨_, _, iv2, k1, k2, fun C CT hds nx fin thr z => ?_⟩
        rw [List.map_cons, ha]
        show nx (am_ts d lo hi offs a) lv (r.map (fv_de ρ)) h
        have e2 : am_ts d lo hi offs a = b := by
          rw [k3]
          unfold am_ts
          by_cases hc : a.toInt < lo ∨ hi < a.toInt
          · rw [if_pos hc, if_pos (by omega)]
          · rw [if_neg hc, if_neg (by omega)]
            simp [Array.getD_eq_getD_getElem?, List.getD_eq_getElem?_getD]
        rw [e2]
        exact z
    · have e1 : fv_tm bi (.tableswitch d lo hi offs) = (fun _ _ _ _ _ _ => false, ()) := by
        unfold fv_tm
        simp only [hd, decide_false]
      rw [e1] at hx
      exact absurd hx Bool.false_ne_true
  case invokeinterface y m => exact Or.inr (Or.inr (Or.inr ⟨y, m, rfl, hx⟩))
  case multianewarray x i =>
    obtain ⟨h1, h2⟩ := fv_e_t (show fv_e st _ = true from hx)
    obtain ⟨h3, h4⟩ := fv_iff h2
    subst h1
    exact Or.inr (Or.inr (Or.inl ⟨x, fv_ltt h3, h4, fun C CT hds nx fin thr z => z⟩))
  case ireturn =>
    obtain ⟨v, h1, h2, h3⟩ := hret (show fv_ret fv_isI e lvN st n T iv = true from hx)
    obtain ⟨x, hv⟩ := fv_isI_t (ρ := ρ) h2
    refine Or.inr (Or.inl ⟨h3, some (.int x), ?_, fun C CT hds nx fin thr z => ?_⟩) <;> rw [h1, List.map_cons, hv]
    · rfl
    · exact z
  case lreturn =>
    obtain ⟨v, h1, h2, h3⟩ := hret (show fv_ret fv_isJ e lvN st n T iv = true from hx)
    obtain ⟨x, hv⟩ := fv_isJ_t (ρ := ρ) h2
    refine Or.inr (Or.inl ⟨h3, some (.long x), ?_, fun C CT hds nx fin thr z => ?_⟩) <;> rw [h1, List.map_cons, hv]
    · rfl
    · exact z
  case dreturn =>
    obtain ⟨v, h1, h2, h3⟩ := hret (show fv_ret fv_isD e lvN st n T iv = true from hx)
    obtain ⟨x, hv⟩ := fv_isD_d (ρ := ρ) h2
    refine Or.inr (Or.inl ⟨h3, some (.double x), ?_, fun C CT hds nx fin thr z => ?_⟩) <;> rw [h1, List.map_cons, hv]
    · rfl
    · exact z
  case freturn =>
    obtain ⟨v, h1, h2, h3⟩ := hret (show fv_ret (Nat.beq 23) e lvN st n T iv = true from hx)
    cases fv_beq h2
    refine Or.inr (Or.inl ⟨h3, some (.float FP.fconst0), ?_, fun C CT hds nx fin thr z => ?_⟩) <;> rw [h1]
    · rfl
    · exact z
  case areturn =>
    obtain ⟨v, h1, h2, h3⟩ := hret (show fv_ret fv_isR e lvN st n T iv = true from hx)
    have hv := fv_isR_t (ρ := ρ) h2
    refine Or.inr (Or.inl ⟨h3, some (fv_de ρ v), ?_, fun C CT hds nx fin thr z => ?_⟩) <;> rw [h1]
    · rfl
    · show (match (if am_isR (fv_de ρ v) = true then some (some (fv_de ρ v)) else none) with
        | some v => fin v h
        | none => False)
      rw [if_pos hv]
      exact z
  case return_ =>
    obtain ⟨h1, h2⟩ := fv_e_t (show fv_e st _ = true from hx)
    subst h1
    exact Or.inr (Or.inl ⟨h2, none, rfl, fun C CT hds nx fin thr z => z⟩)
  all_goals exact absurd hx Bool.false_ne_true
theorem fv_cb_ok (hsc : sc.length ≤ 13) (hρ : fv_rh sc ρ) {bi : Nat} {t : Instr} {e : fv_E} : ∀ {is : List Instr} {lvN st : List Nat} {n : Nat} {T : fv_T} {iv : fv_Iv} {lv : am_V} {h : am_H}, fv_go (fv_cb bi t is) e lvN st n T iv = true → fv_iok ρ iv → fv_L ρ lvN lv → fv_rel ρ n T h →
    ∃ (lvN2 st2 : List Nat) (n2 : Nat) (T2 : fv_T) (iv2 : fv_Iv) (lv2 : am_V) (h2 : am_H), fv_go (fv_tm bi t) e lvN2 st2 n2 T2 iv2 = true ∧ fv_iok ρ iv2 ∧ fv_L ρ lvN2 lv2 ∧ fv_rel ρ n2 T2 h2 ∧ am_bk sc is lv (st.map (fv_de ρ)) h = some (lv2, st2.map (fv_de ρ), h2)
  | [], lvN, st, n, T, iv, lv, h, hx, io, hl, hr => ⟨lvN, st, n, T, iv, lv, h, hx, io, hl, hr, rfl⟩
  | a :: r, lvN, st, n, T, iv, lv, h, hx, io, hl, hr => by
    have hx : fv_go (fv_in a (fv_go (fv_cb bi t r))) e lvN st n T iv = true := hx
    obtain ⟨lvN1, st1, n1, T1, iv1, lv1, h1, k1, k2, k3, k4, k5⟩ := fv_in_ok hsc hρ a _ e lvN st n T iv lv h hx io hl hr
    obtain ⟨lvN2, st2, n2, T2, iv2, lv2, h2, j1, j2, j3, j4, j5⟩ := fv_cb_ok hsc hρ k1 k2 k3 k4
    refine ⟨lvN2, st2, n2, T2, iv2, lv2, h2, j1, j2, j3, j4, ?_⟩
    unfold am_bk
    rw [k5]
    exact j5
theorem fv_bl_ok (hsc : sc.length ≤ 13) (hρ : fv_rh sc ρ) {code : List (List Instr × Instr)} {bi : Nat} {e : fv_E} {lvN st : List Nat} {n : Nat} {T : fv_T} {iv : fv_Iv} {lv : am_V} {h : am_H} (hx : fv_go (fv_bl code bi) e lvN st n T iv = true) (io : fv_iok ρ iv) (hl : fv_L ρ lvN lv) (hr : fv_rel ρ n T h) :
    ∃ q, code[bi]? = some q ∧ ∃ (lvN2 st2 : List Nat) (n2 : Nat) (T2 : fv_T) (iv2 : fv_Iv) (lv2 : am_V) (h2 : am_H), fv_go (fv_tm bi q.2) e lvN2 st2 n2 T2 iv2 = true ∧ fv_iok ρ iv2 ∧ fv_L ρ lvN2 lv2 ∧ fv_rel ρ n2 T2 h2 ∧ am_bk sc q.1 lv (st.map (fv_de ρ)) h = some (lv2, st2.map (fv_de ρ), h2) := by
  have hx : fv_go (fv_cb bi (fv_nth code bi ([], .athrow)).2 (fv_nth code bi ([], .athrow)).1) e lvN st n T iv = true := hx
  rw [fv_nth_eq] at hx
  by_cases hb : bi < code.length
  · refine ⟨code.getD bi ([], .athrow), ?_, fv_cb_ok hsc hρ hx io hl hr⟩
    rw [List.getD_eq_getElem?_getD, List.getElem?_eq_getElem hb]
    rfl
  · rw [fv_gd (by omega)] at hx
    exact absurd hx Bool.false_ne_true
theorem fv_tk_ok {k : List Nat → List Nat → Bool} : ∀ {m : Nat} {st acc : List Nat}, fv_tk m st acc k = true → m ≤ st.length ∧ k ((st.take m).reverse ++ acc) (st.drop m) = true
  | 0, st, acc, h => ⟨Nat.zero_le _, h⟩
  | m + 1, st, acc, h => by
    obtain ⟨a, r, rfl, h1⟩ := fv_u_t (show fv_u st (fun a r => fv_tk m r (a :: acc) k) = true from h)
    obtain ⟨h2, h3⟩ := fv_tk_ok h1
    refine ⟨by simp only [List.length_cons]; omega, ?_⟩
    simpa using h3
theorem fv_hd_ok {hds : List (Nat × Nat × Nat)} {bi x b : Nat} (h : fv_hd hds bi x = b + 1) : am_hdl hds bi x = some b := by
  induction hds with
  | nil => exact absurd h (by show ¬ 0 = b + 1; omega)
  | cons q r ih =>
    have h : @Bool.rec (fun _ => Nat) (fv_hd r bi x) (Nat.succ q.2.2) (fv_if (Nat.beq q.1 bi) (Nat.beq q.2.1 x) false) = b + 1 := h
    unfold am_hdl
    cases hc : fv_if (Nat.beq q.1 bi) (Nat.beq q.2.1 x) false with
    | true =>
      rw [hc] at h
      obtain ⟨h1, h2⟩ := fv_iff hc
      rw [if_pos ⟨fv_beq h1, fv_beq h2⟩]
      have h : q.2.2 + 1 = b + 1 := h
      exact congrArg some (by omega)
    | false =>
      rw [hc] at h
      rw [if_neg]
      · exact ih h
      · rintro ⟨h1, h2⟩
        subst h1 h2
        have e1 : Nat.beq q.1 q.1 = true := Nat.beq_refl _
        have e2 : Nat.beq q.2.1 q.2.1 = true := Nat.beq_refl _
        rw [e1, e2] at hc
        exact absurd hc (by decide)
/-- a callee, as the quick machine has it -/
def fv_cok (ρ : Nat → Int32) (cal : fv_Cl) (C : am_Rl) (CT : am_Rt) : Prop := ∀ (y : Nat) (as : List Nat) (ret : fv_R) (thr : fv_H) (n : Nat) (T : fv_T) (iv : fv_Iv) (h : am_H), cal y as ret thr n T iv = true → fv_iok ρ iv → fv_rel ρ n T h →
  (∃ vs n2 T2 iv2 v h2, ret vs n2 T2 iv2 = true ∧ fv_iok ρ iv2 ∧ fv_rel ρ n2 T2 h2 ∧ (v : Option Value).toList = vs.map (fv_de ρ) ∧ C y (as.map (fv_de ρ)) h v h2) ∨
  (∃ x n2 T2 iv2 h2, thr x n2 T2 iv2 = true ∧ fv_iok ρ iv2 ∧ fv_rel ρ n2 T2 h2 ∧ CT y (as.map (fv_de ρ)) h x h2)
/-- where a run comes to: stops at a block, an answer, a throw -/
def fv_out (sc : List Int32) (ρ : Nat → Int32) (C : am_Rl) (CT : am_Rt) (code : List (List Instr × Instr)) (hds : List (Nat × Nat × Nat)) (sb : Nat) (sto : fv_S) (ret : fv_R) (thr : fv_H) (bi : Nat) (lv : am_V) (st : List Value) (h : am_H) : Prop :=
  (∃ lvN st2 n2 T2 iv2 lv2 h2, sto lvN st2 n2 T2 iv2 = true ∧ fv_iok ρ iv2 ∧ fv_L ρ lvN lv2 ∧ fv_rel ρ n2 T2 h2 ∧ ∀ fin thr0, (∃ k, am_go sc C CT code hds fin thr0 k sb lv2 (st2.map (fv_de ρ)) h2) → ∃ k, am_go sc C CT code hds fin thr0 k bi lv st h) ∨
  (∃ vs n2 T2 iv2 v h2, ret vs n2 T2 iv2 = true ∧ fv_iok ρ iv2 ∧ fv_rel ρ n2 T2 h2 ∧ (v : Option Value).toList = vs.map (fv_de ρ) ∧ ∀ fin thr0, fin v h2 → ∃ k, am_go sc C CT code hds fin thr0 k bi lv st h) ∨
  (∃ x n2 T2 iv2 h2, x < 3 ∧ thr x n2 T2 iv2 = true ∧ fv_iok ρ iv2 ∧ fv_rel ρ n2 T2 h2 ∧ ∀ fin thr0, thr0 x h2 → ∃ k, am_go sc C CT code hds fin thr0 k bi lv st h)
theorem fv_rc_ok {ci n : Nat} {as : List Nat} {T : fv_T} {h : am_H} (r : fv_rel ρ n T h) (e : fv_rc ci as T = true) : am_rcv ci (as.map (fv_de ρ)) h = true := by
  obtain ⟨v, q, rfl, h1⟩ := fv_u_t (show fv_u as _ = true from e)
  rcases fv_ift h1 with ⟨h2, h3⟩ | ⟨-, h2⟩
  · obtain ⟨c, z, s, h5, h6⟩ := fv_o_ok r h3
    obtain ⟨h7, h8⟩ := fv_iff h5
    have h8 := fv_ltt h8
    rcases h6 with h6 | ⟨-, h6, -⟩
    · omega
    · rw [List.map_cons, fv_d2 (fv_beq h2)]
      show (match h[v / 8]? with
        | some o => o.1 == ci
        | none => false) = true
      rw [fv_div_h] at h6
      rw [h6]
      simp [fv_beq h7]
  · obtain ⟨h3, h4⟩ := fv_iff h2
    obtain ⟨h5, h6⟩ := fv_iff h4
    rw [List.map_cons, fv_d3 (fv_beq h3)]
    show (ci == 63 && decide (v / 8 < am_txt.length)) = true
    have h7 := fv_ltt h6
    rw [fv_div_h] at h7
    rw [fv_txt_len]
    simp [fv_beq h5, h7]
/-- one block more -/
theorem fv_step (hsc : sc.length ≤ 13) (hρ : fv_rh sc ρ) {cal : fv_Cl} {C : am_Rl} {CT0 CT : am_Rt} {code : List (List Instr × Instr)} {hds : List (Nat × Nat × Nat)} {sb : Nat} {sto : fv_S} {ret : fv_R} {thr : fv_H} {go : Nat → fv_S} (hcal : fv_cok ρ cal C CT0) (hT : ∀ y As h x h2, CT0 y As h x h2 → ¬ hds = [] → CT y As h x h2)
    (hgo : ∀ bi lvN st n T iv lv h, go bi lvN st n T iv = true → fv_iok ρ iv → fv_L ρ lvN lv → fv_rel ρ n T h → fv_out sc ρ C CT code hds sb sto ret thr bi lv (st.map (fv_de ρ)) h)
    {bi : Nat} {lvN st : List Nat} {n : Nat} {T : fv_T} {iv : fv_Iv} {lv : am_V} {h : am_H} (hx : fv_go (fv_bl code bi) (fv_ac cal hds ret thr go) lvN st n T iv = true) (io : fv_iok ρ iv) (hl : fv_L ρ lvN lv) (hr : fv_rel ρ n T h) : fv_out sc ρ C CT code hds sb sto ret thr bi lv (st.map (fv_de ρ)) h := by
  obtain ⟨q, hq, lvN1, st1, n1, T1, iv1, lv1, h1, k1, k2, k3, k4, k5⟩ := fv_bl_ok hsc hρ hx io hl hr
  have lift : ∀ {fin : Option Value → am_H → Prop} {thr0 : Nat → am_H → Prop}, (∃ k, am_tm C CT hds (am_go sc C CT code hds fin thr0 k) fin thr0 q.2 bi lv1 (st1.map (fv_de ρ)) h1) → ∃ k, am_go sc C CT code hds fin thr0 k bi lv (st.map (fv_de ρ)) h := by
    rintro fin thr0 ⟨k, hk⟩
    refine ⟨k + 1, ?_⟩
    unfold am_go
    rw [hq]
    simp only [k5]
    exact hk
  rcases fv_tm_ok (lv := lv1) (h := h1) k1 k2 with ⟨b, st2, iv2, j1, j2, j3⟩ | ⟨j1, r, j2, j3⟩ | ⟨x, j1, j2, j3⟩ | ⟨y, m, j1, j2⟩
  · have j1 : go b lvN1 st2 n1 T1 iv2 = true := j1
    rcases hgo _ _ _ _ _ _ _ _ j1 j2 k3 k4 with ⟨lvN2, st3, n2, T2, iv3, lv2, h2, g1, g2, g3, g4, g5⟩ | ⟨vs, n2, T2, iv3, v, h2, g1, g2, g3, g4, g5⟩ | ⟨x, n2, T2, iv3, h2, g1, g2, g3, g4, g5⟩
    · exact Or.inl ⟨lvN2, st3, n2, T2, iv3, lv2, h2, g1, g2, g3, g4, fun fin thr0 z => lift (by
        obtain ⟨k, hk⟩ := g5 fin thr0 z
        exact ⟨k, j3 _ _ _ _ _ _ hk⟩)⟩
    · exact Or.inr (Or.inl ⟨vs, n2, T2, iv3, v, h2, g1, g2, g3, g4, fun fin thr0 z => lift (by
        obtain ⟨k, hk⟩ := g5 fin thr0 z
        exact ⟨k, j3 _ _ _ _ _ _ hk⟩)⟩)
    · exact Or.inr (Or.inr ⟨x, n2, T2, iv3, h2, g1, g2, g3, g4, fun fin thr0 z => lift (by
        obtain ⟨k, hk⟩ := g5 fin thr0 z
        exact ⟨k, j3 _ _ _ _ _ _ hk⟩)⟩)
  · exact Or.inr (Or.inl ⟨st1, n1, T1, iv1, r, h1, j1, k2, k4, j2, fun fin thr0 z => lift ⟨0, j3 _ _ _ _ _ _ z⟩⟩)
  · exact Or.inr (Or.inr ⟨x, n1, T1, iv1, h1, j1, j2, k2, k4, fun fin thr0 z => lift ⟨0, j3 _ _ _ _ _ _ z⟩⟩)
  · have j2 : fv_call cal hds go bi y m lvN1 st1 n1 T1 iv1 = true := j2
    unfold fv_call at j2
    obtain ⟨i1, i2⟩ := fv_tk_ok j2
    rw [List.append_nil] at i2
    obtain ⟨i3, i4⟩ := fv_iff i2
    obtain ⟨i5, i6⟩ := fv_iff i4
    rw [fv_mod_h] at i1 i3 i5 i6
    rw [fv_div_h] at i5
    have hargs : ((st1.map (fv_de ρ)).take (m % 64)).reverse = ((st1.take (m % 64)).reverse).map (fv_de ρ) := by rw [List.map_reverse, List.map_take]
    have hrest : (st1.map (fv_de ρ)).drop (m % 64) = (st1.drop (m % 64)).map (fv_de ρ) := by rw [List.map_drop]
    have w1 : m % 64 ≤ (st1.map (fv_de ρ)).length := by rw [List.length_map]; exact i1
    have w2 : am_cs ((st1.map (fv_de ρ)).drop (m % 64)) ≤ 8 := by rw [hrest]; exact fv_cl_t i3
    have w3 : m / 64 = 0 ∨ am_rcv (m / 64) ((st1.map (fv_de ρ)).take (m % 64)).reverse h1 = true := by
      by_cases hz : m / 64 = 0
      · exact Or.inl hz
      · refine Or.inr ?_
        obtain ⟨c, hc⟩ : ∃ c, m / 64 = c + 1 := ⟨m / 64 - 1, by omega⟩
        rw [hc] at i5 ⊢
        rw [hargs]
        exact fv_rc_ok k4 i5
    have tmc : ∀ {fin : Option Value → am_H → Prop} {thr0 : Nat → am_H → Prop} {k : Nat}, ((∃ v h2, C y ((st1.map (fv_de ρ)).take (m % 64)).reverse h1 v h2 ∧ am_go sc C CT code hds fin thr0 k (bi + 1) lv1 (v.toList ++ (st1.map (fv_de ρ)).drop (m % 64)) h2) ∨ (∃ x h2 b2, CT y ((st1.map (fv_de ρ)).take (m % 64)).reverse h1 x h2 ∧ am_hdl hds bi x = some b2 ∧ am_go sc C CT code hds fin thr0 k (b2 / 64) (am_dl lv1 (b2 % 64)) [] (h2 ++ [am_junk]))) → am_tm C CT hds (am_go sc C CT code hds fin thr0 k) fin thr0 q.2 bi lv1 (st1.map (fv_de ρ)) h1 := by
      intro fin thr0 k z
      rw [j1]
      exact ⟨w1, w2, w3, z⟩
    rcases hcal y _ _ _ _ _ _ _ i6 k2 k4 with ⟨vs, n2, T2, iv2, v, h2, g1, g2, g3, g4, g5⟩ | ⟨x, n2, T2, iv2, h2, g1, g2, g3, g4⟩
    · have g1 : ∃ st3, go (bi + 1) lvN1 st3 n2 T2 iv2 = true ∧ st3.map (fv_de ρ) = v.toList ++ (st1.map (fv_de ρ)).drop (m % 64) := by
        rw [hrest, g4]
        cases vs with
        | nil => exact ⟨_, g1, rfl⟩
        | cons w ws =>
          cases ws with
          | nil => exact ⟨_, g1, rfl⟩
          | cons w2 ws => cases v <;> simp at g4
      obtain ⟨st3, g1, g6⟩ := g1
      rw [← hargs] at g5
      rcases hgo _ _ _ _ _ _ _ _ g1 g2 k3 g3 with ⟨lvN2, st4, n3, T3, iv3, lv2, h3, f1, f2, f3, f4, f5⟩ | ⟨vs3, n3, T3, iv3, v3, h3, f1, f2, f3, f4, f5⟩ | ⟨x, n3, T3, iv3, h3, f1, f2, f3, f4, f5⟩
      · exact Or.inl ⟨lvN2, st4, n3, T3, iv3, lv2, h3, f1, f2, f3, f4, fun fin thr0 z => lift (by
          obtain ⟨k, hk⟩ := f5 fin thr0 z
          rw [g6] at hk
          exact ⟨k, tmc (Or.inl ⟨v, h2, g5, hk⟩)⟩)⟩
      · exact Or.inr (Or.inl ⟨vs3, n3, T3, iv3, v3, h3, f1, f2, f3, f4, fun fin thr0 z => lift (by
          obtain ⟨k, hk⟩ := f5 fin thr0 z
          rw [g6] at hk
          exact ⟨k, tmc (Or.inl ⟨v, h2, g5, hk⟩)⟩)⟩)
      · exact Or.inr (Or.inr ⟨x, n3, T3, iv3, h3, f1, f2, f3, f4, fun fin thr0 z => lift (by
          obtain ⟨k, hk⟩ := f5 fin thr0 z
          rw [g6] at hk
          exact ⟨k, tmc (Or.inl ⟨v, h2, g5, hk⟩)⟩)⟩)
    · unfold fv_hk at g1
      cases hb : fv_hd hds bi x with
      | zero =>
        rw [hb] at g1
        exact absurd g1 Bool.false_ne_true
      | succ b2 =>
        rw [hb] at g1
        have hne : ¬ hds = [] := by
          rintro rfl
          exact absurd hb (by show ¬ 0 = b2 + 1; omega)
        have g1 : fv_mk 199 6 [4, 4, 4, 4, 4, 4] (fun _ n t => go (Nat.div b2 64) (fv_s1 lvN1 (Nat.mod b2 64) 7) [] n t iv2) n2 T2 = true := g1
        obtain ⟨-, u, n3, T3, g5, -, g6⟩ := fv_mk_ok g3 (s := [4, 4, 4, 4, 4, 4]) rfl g1
        have g5 : go (b2 / 64) (fv_s1 lvN1 (b2 % 64) 7) [] n3 T3 iv2 = true := g5
        have g6 : fv_rel ρ n3 T3 (h2 ++ [am_junk]) := g6
        have g7 := hT _ _ _ _ _ g4 hne
        rw [← hargs] at g7
        rcases hgo _ _ _ _ _ _ _ _ g5 g2 (fv_L_dl k3) g6 with ⟨lvN2, st4, n4, T4, iv3, lv2, h3, f1, f2, f3, f4, f5⟩ | ⟨vs3, n4, T4, iv3, v3, h3, f1, f2, f3, f4, f5⟩ | ⟨x2, n4, T4, iv3, h3, f1, f2, f3, f4, f5⟩
        · exact Or.inl ⟨lvN2, st4, n4, T4, iv3, lv2, h3, f1, f2, f3, f4, fun fin thr0 z => lift (by
            obtain ⟨k, hk⟩ := f5 fin thr0 z
            exact ⟨k, tmc (Or.inr ⟨x, h2, b2, g7, fv_hd_ok hb, hk⟩)⟩)⟩
        · exact Or.inr (Or.inl ⟨vs3, n4, T4, iv3, v3, h3, f1, f2, f3, f4, fun fin thr0 z => lift (by
            obtain ⟨k, hk⟩ := f5 fin thr0 z
            exact ⟨k, tmc (Or.inr ⟨x, h2, b2, g7, fv_hd_ok hb, hk⟩)⟩)⟩)
        · exact Or.inr (Or.inr ⟨x2, n4, T4, iv3, h3, f1, f2, f3, f4, fun fin thr0 z => lift (by
            obtain ⟨k, hk⟩ := f5 fin thr0 z
            exact ⟨k, tmc (Or.inr ⟨x, h2, b2, g7, fv_hd_ok hb, hk⟩)⟩)⟩)
theorem fv_ev_ok (hsc : sc.length ≤ 13) (hρ : fv_rh sc ρ) {cal : fv_Cl} {C : am_Rl} {CT0 CT : am_Rt} {code : List (List Instr × Instr)} {hds : List (Nat × Nat × Nat)} {sb : Nat} {ret : fv_R} {thr : fv_H} (hcal : fv_cok ρ cal C CT0) (hT : ∀ y As h x h2, CT0 y As h x h2 → ¬ hds = [] → CT y As h x h2) :
    ∀ (fuel bi : Nat) (lvN st : List Nat) (n : Nat) (T : fv_T) (iv : fv_Iv) (lv : am_V) (h : am_H), fv_ev cal code hds ret thr fuel bi lvN st n T iv = true → fv_iok ρ iv → fv_L ρ lvN lv → fv_rel ρ n T h → fv_out sc ρ C CT code hds sb (fun _ _ _ _ _ => false) ret thr bi lv (st.map (fv_de ρ)) h
  | 0, _, _, _, _, _, _, _, _, hx, _, _, _ => absurd hx Bool.false_ne_true
  | f + 1, bi, lvN, st, n, T, iv, lv, h, hx, io, hl, hr => by
    have hx : fv_go (fv_bl code bi) (fv_ac cal hds ret thr (fv_ev cal code hds ret thr f)) lvN st n T iv = true := hx
    exact fv_step hsc hρ hcal hT (fun bi lvN st n T iv lv h => fv_ev_ok hsc hρ hcal hT f bi lvN st n T iv lv h) hx io hl hr
theorem fv_evs_ok (hsc : sc.length ≤ 13) (hρ : fv_rh sc ρ) {cal : fv_Cl} {C : am_Rl} {CT0 CT : am_Rt} {code : List (List Instr × Instr)} {sb : Nat} {sto : fv_S} {ret : fv_R} (hcal : fv_cok ρ cal C CT0) :
    ∀ (fuel bi : Nat) (lvN st : List Nat) (n : Nat) (T : fv_T) (iv : fv_Iv) (lv : am_V) (h : am_H), fv_evs cal code sb sto ret fuel bi lvN st n T iv = true → fv_iok ρ iv → fv_L ρ lvN lv → fv_rel ρ n T h → fv_out sc ρ C CT code [] sb sto ret (fun _ _ _ _ => false) bi lv (st.map (fv_de ρ)) h
  | 0, _, _, _, _, _, _, _, _, hx, _, _, _ => absurd hx Bool.false_ne_true
  | f + 1, bi, lvN, st, n, T, iv, lv, h, hx, io, hl, hr => by
    have hx : fv_if (Nat.beq bi sb) (sto lvN st n T iv) (fv_go (fv_bl code bi) (fv_ac cal [] ret (fun _ _ _ _ => false) (fv_evs cal code sb sto ret f)) lvN st n T iv) = true := hx
    rcases fv_ift hx with ⟨h1, h2⟩ | ⟨-, h2⟩
    · have h1 := fv_beq h1
      subst h1
      exact Or.inl ⟨lvN, st, n, T, iv, lv, h, h2, io, hl, hr, fun _ _ z => z⟩
    · exact fv_step hsc hρ hcal (fun _ _ _ _ _ _ z => absurd rfl z) (fun bi lvN st n T iv lv h => fv_evs_ok hsc hρ hcal f bi lvN st n T iv lv h) h2 io hl hr
theorem fv_ty_ok {ty : Option FieldType} {vs : List Nat} {v : Option Value} (h : fv_ty (fv_tn ty) vs = true) (hv : v.toList = vs.map (fv_de ρ)) : am_tyok ty v = true := by
  cases vs with
  | nil =>
    have h : Nat.beq (fv_tn ty) 0 = true := h
    have h := fv_beq h
    cases v with
    | some w => simp at hv
    | none =>
      cases ty with
      | none => rfl
      | some ty => cases ty <;> (unfold fv_tn at h; simp at h)
  | cons w r =>
    obtain ⟨h1, h2⟩ := fv_e_t (show fv_e r (fv_ty1 (fv_tn ty) w) = true from h)
    subst h1
    cases v with
    | none => simp at hv
    | some u =>
      have hu : u = fv_de ρ w := by simpa using hv
      subst hu
      cases ty with
      | none => exact absurd h2 Bool.false_ne_true
      | some ty =>
        cases ty with
        | int => obtain ⟨x, hx⟩ := fv_isI_t (ρ := ρ) h2; rw [hx]; rfl
        | boolean =>
          obtain ⟨x, hx, h01⟩ := fv_b01_t (ρ := ρ) h2
          rw [hx]
          rcases h01 with rfl | rfl <;> rfl
        | long => obtain ⟨x, hx⟩ := fv_isJ_t (ρ := ρ) h2; rw [hx]; rfl
        | byte =>
          have h2 : Nat.beq w 0 = true := h2
          cases fv_beq h2
          rfl
        | char =>
          have h2 : fv_if (Nat.beq (Nat.mod w 8) 0) (fv_lt w 524288) false = true := h2
          obtain ⟨h3, h4⟩ := fv_iff h2
          have h4 := fv_ltt h4
          rw [fv_d0 (fv_beq h3)]
          show ((Int32.ofNat (w / 8)).toUInt32.toUInt16.toUInt32.toInt32 == Int32.ofNat (w / 8)) = true
          have e : (Int32.ofNat (w / 8)).toUInt32.toUInt16.toUInt32.toInt32 = Int32.ofNat (w / 8) := by
            have e2 : (UInt32.ofNat (w / 8)).toUInt16.toUInt32 = UInt32.ofNat (w / 8) := by
              apply UInt32.toNat_inj.1
              rw [UInt16.toNat_toUInt32, UInt32.toNat_toUInt16, UInt32.toNat_ofNat']
              show w / 8 % 4294967296 % 65536 = w / 8 % 4294967296
              omega
            show ((UInt32.ofNat (w / 8)).toUInt16.toUInt32).toInt32 = _
            rw [e2]
            rfl
          rw [e]
          exact beq_self_eq_true _
        | object c => exact fv_isR_t h2
        | array c => exact fv_isR_t h2
        | double => obtain ⟨x, hx⟩ := fv_isD_d (ρ := ρ) h2; rw [hx]; rfl
        | float =>
          have h2 : Nat.beq w 23 = true := h2
          cases fv_beq h2
          rfl
        | short => exact absurd h2 Bool.false_ne_true
theorem fv_fm_eq {ms : am_Ms} {y : Nat} : fv_fm ms y = am_fm ms y := by
  induction ms with
  | nil => rfl
  | cons z r ih =>
    have e : fv_fm (z :: r) y = @Bool.rec (fun _ => Option (Nat × Option FieldType × List (List Instr × Instr))) (fv_fm r y) (some z.2) (Nat.beq z.1 y) := rfl
    rw [e]
    unfold am_fm
    cases h : Nat.beq z.1 y with
    | true => rw [if_pos (fv_beq h)]
    | false => rw [if_neg (fv_bne h)]; exact ih
theorem fv_chk_ok {as : List Nat} {iv : fv_Iv} {k : Bool} (h : fv_chk as iv k = true) (io : fv_iok ρ iv) : k = true ∧ ∃ a b : Nat, as.map (fv_de ρ) = [.int (Int32.ofNat a), .int (Int32.ofNat b)] ∧ a < b ∧ b < 2147483648 := by
  obtain ⟨x, r, h1, h⟩ := fv_u_t (show fv_u as _ = true from h)
  obtain ⟨y, q, h2, h⟩ := fv_u_t h
  obtain ⟨h3, h⟩ := fv_e_t h
  obtain ⟨a, h4, h⟩ := fv_int_ok (ρ := ρ) h io
  obtain ⟨b, h5, h⟩ := fv_int_ok (ρ := ρ) h io
  obtain ⟨h6, h⟩ := fv_iff h
  obtain ⟨h7, h⟩ := fv_iff h
  refine ⟨h, a, b, ?_, fv_ltt h6, fv_ltt h7⟩
  rw [h1, h2, h3, List.map_cons, List.map_cons, h4, h5]
  rfl
def fv_ctd (sc : List Int32) (cds : List am_Cd) : Nat → am_Rt
  | 0 => am_noT
  | d + 1 => am_ct sc cds d
theorem fv_cal_ok (hsc : sc.length ≤ 13) (hρ : fv_rh sc ρ) {cds : List am_Cd} {ms : am_Ms} (hms : am_msok cds ms) (h533 : ∀ (d a b : Nat) (h : am_H), a < b → b < 2147483648 → am_ca sc cds (d + 2) 533 [.int (Int32.ofNat a), .int (Int32.ofNat b)] h none h) :
    ∀ d, fv_cok ρ (fv_cal ms d) (am_ca sc cds d) (fv_ctd sc cds d)
  | 0 => fun _ _ _ _ _ _ _ _ hx => absurd hx Bool.false_ne_true
  | d + 1 => fun y as ret thr n T iv h hx io hr => by
    have hx : fv_if (Nat.beq y 533) (@Nat.rec (fun _ => Bool) false (fun _ _ => fv_chk as iv (ret [] n T iv)) d) (fv_me (fv_fm ms y) (fun mx ty code => fv_if (fv_cl as mx) (fv_ev (fv_cal ms d) code [] (fv_rt ty ret) thr 100000 0 (fv_lvs as mx) [] n T iv) false)) = true := hx
    rcases fv_ift hx with ⟨h1, h2⟩ | ⟨-, h2⟩
    · cases fv_beq h1
      cases d with
      | zero => exact absurd h2 Bool.false_ne_true
      | succ d =>
        obtain ⟨h3, a, b, h4, h5, h6⟩ := fv_chk_ok h2 io
        exact Or.inl ⟨[], n, T, iv, none, h, h3, io, hr, rfl, by rw [h4]; exact h533 d a b h h5 h6⟩
    · rw [fv_fm_eq] at h2
      cases hz : am_fm ms y with
      | none => rw [hz] at h2; exact absurd h2 Bool.false_ne_true
      | some z =>
        rw [hz] at h2
        have h2 : fv_if (fv_cl as z.1) (fv_ev (fv_cal ms d) z.2.2 [] (fv_rt z.2.1 ret) thr 100000 0 (fv_lvs as z.1) [] n T iv) false = true := h2
        obtain ⟨h3, h4⟩ := fv_iff h2
        obtain ⟨q, starts, q1, q2, q3, q4, q5⟩ := hms _ (am_fm_in hz)
        simp only at q1 q3 q4 q5
        have hca : am_cs (as.map (fv_de ρ)) ≤ q.2.1 := by rw [q4]; exact fv_cl_t h3
        rcases fv_ev_ok hsc hρ (CT := am_noT) (sb := 0) (fv_cal_ok hsc hρ hms h533 d) (fun _ _ _ _ _ _ z => absurd rfl z) _ _ _ _ _ _ _ _ _ h4 io (fv_L_args as z.1) hr with ⟨_, _, _, _, _, _, _, g1, -⟩ | ⟨vs, n2, T2, iv2, v, h2, g1, g2, g3, g4, g5⟩ | ⟨x, n2, T2, iv2, h2, g0, g1, g2, g3, g4⟩
        · exact absurd g1 Bool.false_ne_true
        · obtain ⟨g6, g7⟩ := fv_iff (show fv_if (fv_ty (fv_tn z.2.1) vs) (ret vs n2 T2 iv2) false = true from g1)
          exact Or.inl ⟨vs, n2, T2, iv2, v, h2, g7, g2, g3, g4, q, z.2.2, starts, q1, q2, q3, by rw [q5]; exact fv_ty_ok g6 g4, hca, g5 _ _ ⟨rfl, rfl⟩⟩
        · exact Or.inr ⟨x, n2, T2, iv2, h2, g1, g2, g3, q, z.2.2, starts, q1, q2, q3, g0, hca, g4 _ _ ⟨rfl, rfl⟩⟩
/-- the wrappers are those of the code -/
def fv_wok (ws : fv_Ws) : Prop := ∀ z, z ∈ ws → ∃ (q : am_M) (starts : List Nat), am_mds[z.1]? = some q ∧ am_mk q = 3 ∧ am_ckW (am_hh q) (z.1, z.2.2.2.1, starts, z.2.2.2.2) = true ∧ q.2.1 = z.2.1 ∧ q.2.2.1 = z.2.2.1
theorem fv_fw_in {ws : fv_Ws} {y : Nat} {w : Nat × Option FieldType × List (List Instr × Instr) × List (Nat × Nat × Nat)} (h : fv_fw ws y = some w) : (y, w) ∈ ws := by
  induction ws with
  | nil => cases h
  | cons z r ih =>
    have e : fv_fw (z :: r) y = @Bool.rec (fun _ => Option (Nat × Option FieldType × List (List Instr × Instr) × List (Nat × Nat × Nat))) (fv_fw r y) (some z.2) (Nat.beq z.1 y) := rfl
    rw [e] at h
    cases hb : Nat.beq z.1 y with
    | true =>
      rw [hb] at h
      have h : some z.2 = some w := h
      cases h
      rw [← fv_beq hb]
      exact List.mem_cons_self
    | false =>
      rw [hb] at h
      exact List.mem_cons_of_mem _ (ih h)
/-- what the law calls: wrappers, and plain methods -/
def fv_CL (sc : List Int32) (cds : List am_Cd) (d : Nat) : am_Rl := fun y As h v h2 => am_cw sc cds d y As h v h2 ∨ am_ca sc cds (d + 2) y As h v h2
theorem fv_cw_ok (hsc : sc.length ≤ 13) (hρ : fv_rh sc ρ) {cds : List am_Cd} {ms : am_Ms} {ws : fv_Ws} (hms : am_msok cds ms) (hws : fv_wok ws) (h533 : ∀ (d a b : Nat) (h : am_H), a < b → b < 2147483648 → am_ca sc cds (d + 2) 533 [.int (Int32.ofNat a), .int (Int32.ofNat b)] h none h) (d : Nat) :
    fv_cok ρ (fv_cw ms ws d) (fv_CL sc cds d) (fun y As h x h2 => fv_ctd sc cds (d + 2) y As h x h2) := by
  intro y as ret thr n T iv h hx io hr
  unfold fv_cw at hx
  cases hw : fv_fw ws y with
  | none =>
    rw [hw] at hx
    have hx : fv_cal ms (d + 2) y as ret thr n T iv = true := hx
    rcases fv_cal_ok hsc hρ hms h533 (d + 2) y as ret thr n T iv h hx io hr with ⟨vs, n2, T2, iv2, v, h2, g1, g2, g3, g4, g5⟩ | g
    · exact Or.inl ⟨vs, n2, T2, iv2, v, h2, g1, g2, g3, g4, Or.inr g5⟩
    · exact Or.inr g
  | some w =>
    rw [hw] at hx
    have hx : fv_if (fv_cl as w.1) (fv_ev (fv_cal ms (d + 1)) w.2.2.1 w.2.2.2 (fv_rt w.2.1 ret) (fun _ _ _ _ => false) 100000 0 (fv_lvs as w.1) [] n T iv) false = true := hx
    obtain ⟨h3, h4⟩ := fv_iff hx
    obtain ⟨q, starts, q1, q2, q3, q4, q5⟩ := hws _ (fv_fw_in hw)
    simp only at q1 q3 q4 q5
    have hca : am_cs (as.map (fv_de ρ)) ≤ q.2.1 := by rw [q4]; exact fv_cl_t h3
    rcases fv_ev_ok hsc hρ (CT := am_ct sc cds d) (sb := 0) (fv_cal_ok hsc hρ hms h533 (d + 1)) (fun _ _ _ _ _ z _ => z) _ _ _ _ _ _ _ _ _ h4 io (fv_L_args as w.1) hr with ⟨_, _, _, _, _, _, _, g1, -⟩ | ⟨vs, n2, T2, iv2, v, h2, g1, g2, g3, g4, g5⟩ | ⟨x, n2, T2, iv2, h2, g0, g1, g2, g3, g4⟩
    · exact absurd g1 Bool.false_ne_true
    · obtain ⟨g6, g7⟩ := fv_iff (show fv_if (fv_ty (fv_tn w.2.1) vs) (ret vs n2 T2 iv2) false = true from g1)
      exact Or.inl ⟨vs, n2, T2, iv2, v, h2, g7, g2, g3, g4, Or.inl ⟨q, w.2.2.1, starts, w.2.2.2, q1, q2, q3, by rw [q5]; exact fv_ty_ok g6 g4, hca, g5 _ _ ⟨rfl, rfl⟩⟩⟩
    · exact absurd g1 Bool.false_ne_true
end FVR
