/-! BYTES, read on by a program of few cases: what it says, decode says -/
theorem am_lk_app {cn nL : Nat} {ini : Bool} {cc : ByteArray} : ∀ {a b : List Instr} {pc p1 : Nat}, am_lk cn nL ini cc pc a = some p1 → am_lk cn nL ini cc pc (a ++ b) = am_lk cn nL ini cc p1 b
  | [], b, pc, p1, h => by
    unfold am_lk at h
    cases h
    rfl
  | x :: r, b, pc, p1, h => by
    rw [List.cons_append]
    unfold am_lk at h
    split at h
    · rename_i q hq
      split at h
      · rename_i hr
        show (match decode cc pc with
          | .ok q => if am_rl cn nL ini q.1 x q.2 = true then am_lk cn nL ini cc (pc + q.2) (r ++ b) else none
          | .error _ => none) = _
        rw [hq]
        show (if am_rl cn nL ini q.1 x q.2 = true then am_lk cn nL ini cc (pc + q.2) (r ++ b) else none) = _
        rw [if_pos hr]
        exact am_lk_app h
      · cases h
    · cases h
theorem fv_bind {α β : Type} {x : Decoder α} {f : α → Decoder β} {code : ByteArray} {p p2 : Nat} {a : α} (h : x code p = .ok (a, p2)) : (x >>= f) code p = f a code p2 := by
  show (x code p >>= fun q => f q.1 code q.2) = _
  rw [h]
  rfl
theorem fv_dz {code : ByteArray} {pc : Nat} {b : UInt8} {r : List UInt8} (h : code.data.toList.drop pc = b :: r) : (Reader.u1 : Decoder Nat) code pc = .ok (b.toNat, pc + 1) := by
  have hlt : pc < code.data.toList.length := by
    by_cases z : pc < code.data.toList.length
    · exact z
    · rw [List.drop_eq_nil_of_le (by omega)] at h
      cases h
  have hget : code.data.toList[pc] = b := by
    have := List.drop_eq_getElem_cons hlt
    rw [h] at this
    exact (List.cons.inj this).1.symm
  have hlt2 : pc < code.size := hlt
  have hb : code[pc] = b := hget
  unfold Reader.u1
  rw [fv_bind (a := code) (p2 := pc) rfl, fv_bind (a := pc) (p2 := pc) rfl, dif_pos hlt2, hb]
  rfl
theorem fv_dt {code : ByteArray} {pc : Nat} {b : UInt8} {r : List UInt8} (h : code.data.toList.drop pc = b :: r) : code.data.toList.drop (pc + 1) = r := by
  rw [← List.drop_drop, h]
  rfl
theorem fv_dfin {code : ByteArray} {pc n : Nat} {i : Instr} (e : Decoder.instr pc code pc = .ok (i, pc + n)) : decode code pc = .ok (i, n) := by
  unfold decode
  show (Decoder.instr pc code pc >>= fun x => pure (x.1, x.2 - pc) : Except DecodeError (Instr × Nat)) = _
  rw [e]
  show Except.ok (i, pc + n - pc) = _
  rw [show pc + n - pc = n by omega]
theorem fv_du2 {code : ByteArray} {pc : Nat} {b c : UInt8} {r : List UInt8} (h : code.data.toList.drop pc = b :: c :: r) : (Reader.u2 : Decoder Nat) code pc = .ok (b.toNat * 256 + c.toNat, pc + 2) := by
  unfold Reader.u2
  rw [fv_bind (fv_dz h), fv_bind (fv_dz (fv_dt h))]
  rfl
theorem fv_ds1 {code : ByteArray} {pc : Nat} {b : UInt8} {r : List UInt8} (h : code.data.toList.drop pc = b :: r) : (Reader.s1 : Decoder Int) code pc = .ok (Reader.signed 8 b.toNat, pc + 1) := by
  unfold Reader.s1
  show (Reader.u1 code pc >>= fun q => pure (Reader.signed 8 q.1, q.2) : Except DecodeError (Int × Nat)) = _
  rw [fv_dz h]
  rfl
theorem fv_ds2 {code : ByteArray} {pc : Nat} {b c : UInt8} {r : List UInt8} (h : code.data.toList.drop pc = b :: c :: r) : (Reader.s2 : Decoder Int) code pc = .ok (Reader.signed 16 (b.toNat * 256 + c.toNat), pc + 2) := by
  unfold Reader.s2
  show (Reader.u2 code pc >>= fun q => pure (Reader.signed 16 q.1, q.2) : Except DecodeError (Int × Nat)) = _
  rw [fv_du2 h]
  rfl
set_option maxRecDepth 100000 in
theorem fv_do_16 {code : ByteArray} {pc : Nat} {b : UInt8} {r : List UInt8} (h : code.data.toList.drop pc = UInt8.ofNat 16 :: b :: r) : decode code pc = .ok (.bipush (Reader.signed 8 b.toNat), 2) := by
  refine fv_dfin ?_
  unfold Decoder.instr
  rw [fv_bind (fv_dz h)]
  show ((Reader.s1 : Decoder Int) >>= fun x => (pure (Instr.bipush x) : Decoder Instr)) code (pc + 1) = _
  rw [fv_bind (fv_ds1 (fv_dt h))]
  rfl
set_option maxRecDepth 100000 in
theorem fv_do_89 {code : ByteArray} {pc : Nat} {r : List UInt8} (h : code.data.toList.drop pc = UInt8.ofNat 89 :: r) : decode code pc = .ok (.dup, 1) := by
  refine fv_dfin ?_
  unfold Decoder.instr
  rw [fv_bind (fv_dz h)]
  rfl
set_option maxRecDepth 100000 in
theorem fv_do_79 {code : ByteArray} {pc : Nat} {r : List UInt8} (h : code.data.toList.drop pc = UInt8.ofNat 79 :: r) : decode code pc = .ok (.iastore, 1) := by
  refine fv_dfin ?_
  unfold Decoder.instr
  rw [fv_bind (fv_dz h)]
  rfl
set_option maxRecDepth 100000 in
theorem fv_do_17 {code : ByteArray} {pc : Nat} {b c : UInt8} {r : List UInt8} (h : code.data.toList.drop pc = UInt8.ofNat 17 :: b :: c :: r) : decode code pc = .ok (.sipush (Reader.signed 16 (b.toNat * 256 + c.toNat)), 3) := by
  refine fv_dfin ?_
  unfold Decoder.instr
  rw [fv_bind (fv_dz h)]
  show ((Reader.s2 : Decoder Int) >>= fun x => (pure (Instr.sipush x) : Decoder Instr)) code (pc + 1) = _
  rw [fv_bind (fv_ds2 (fv_dt h))]
  rfl
set_option maxRecDepth 100000 in
theorem fv_do_21 {code : ByteArray} {pc : Nat} {b : UInt8} {r : List UInt8} (h : code.data.toList.drop pc = UInt8.ofNat 21 :: b :: r) : decode code pc = .ok (.iload b.toNat, 2) := by
  refine fv_dfin ?_
  unfold Decoder.instr
  rw [fv_bind (fv_dz h)]
  show ((Reader.u1 : Decoder Nat) >>= fun x => (pure (Instr.iload x) : Decoder Instr)) code (pc + 1) = _
  rw [fv_bind (fv_dz (fv_dt h))]
  rfl
set_option maxRecDepth 100000 in
theorem fv_do_42 {code : ByteArray} {pc : Nat} {r : List UInt8} (h : code.data.toList.drop pc = UInt8.ofNat 42 :: r) : decode code pc = .ok (.aload_n 0, 1) := by
  refine fv_dfin ?_
  unfold Decoder.instr
  rw [fv_bind (fv_dz h)]
  rfl
set_option maxRecDepth 100000 in
theorem fv_do_46 {code : ByteArray} {pc : Nat} {r : List UInt8} (h : code.data.toList.drop pc = UInt8.ofNat 46 :: r) : decode code pc = .ok (.iaload, 1) := by
  refine fv_dfin ?_
  unfold Decoder.instr
  rw [fv_bind (fv_dz h)]
  rfl
set_option maxRecDepth 100000 in
theorem fv_do_96 {code : ByteArray} {pc : Nat} {r : List UInt8} (h : code.data.toList.drop pc = UInt8.ofNat 96 :: r) : decode code pc = .ok (.iadd, 1) := by
  refine fv_dfin ?_
  unfold Decoder.instr
  rw [fv_bind (fv_dz h)]
  rfl
set_option maxRecDepth 100000 in
theorem fv_do_3 {code : ByteArray} {pc : Nat} {r : List UInt8} (h : code.data.toList.drop pc = UInt8.ofNat 3 :: r) : decode code pc = .ok (.iconst 0, 1) := by
  refine fv_dfin ?_
  unfold Decoder.instr
  rw [fv_bind (fv_dz h)]
  rfl
set_option maxRecDepth 100000 in
theorem fv_do_182 {code : ByteArray} {pc : Nat} {b c : UInt8} {r : List UInt8} (h : code.data.toList.drop pc = UInt8.ofNat 182 :: b :: c :: r) : decode code pc = .ok (.invokevirtual (b.toNat * 256 + c.toNat), 3) := by
  refine fv_dfin ?_
  unfold Decoder.instr
  rw [fv_bind (fv_dz h)]
  show ((Reader.u2 : Decoder Nat) >>= fun x => (pure (Instr.invokevirtual x) : Decoder Instr)) code (pc + 1) = _
  rw [fv_bind (fv_du2 (fv_dt h))]
  rfl
set_option maxRecDepth 100000 in
theorem fv_do_4 {code : ByteArray} {pc : Nat} {r : List UInt8} (h : code.data.toList.drop pc = UInt8.ofNat 4 :: r) : decode code pc = .ok (.iconst 1, 1) := by
  refine fv_dfin ?_
  unfold Decoder.instr
  rw [fv_bind (fv_dz h)]
  rfl
set_option maxRecDepth 100000 in
theorem fv_do_44 {code : ByteArray} {pc : Nat} {r : List UInt8} (h : code.data.toList.drop pc = UInt8.ofNat 44 :: r) : decode code pc = .ok (.aload_n 2, 1) := by
  refine fv_dfin ?_
  unfold Decoder.instr
  rw [fv_bind (fv_dz h)]
  rfl
set_option maxRecDepth 100000 in
theorem fv_do_172 {code : ByteArray} {pc : Nat} {r : List UInt8} (h : code.data.toList.drop pc = UInt8.ofNat 172 :: r) : decode code pc = .ok (.ireturn, 1) := by
  refine fv_dfin ?_
  unfold Decoder.instr
  rw [fv_bind (fv_dz h)]
  rfl
set_option maxRecDepth 100000 in
theorem fv_do_54 {code : ByteArray} {pc : Nat} {b : UInt8} {r : List UInt8} (h : code.data.toList.drop pc = UInt8.ofNat 54 :: b :: r) : decode code pc = .ok (.istore b.toNat, 2) := by
  refine fv_dfin ?_
  unfold Decoder.instr
  rw [fv_bind (fv_dz h)]
  show ((Reader.u1 : Decoder Nat) >>= fun x => (pure (Instr.istore x) : Decoder Instr)) code (pc + 1) = _
  rw [fv_bind (fv_dz (fv_dt h))]
  rfl
set_option maxRecDepth 100000 in
theorem fv_do_45 {code : ByteArray} {pc : Nat} {r : List UInt8} (h : code.data.toList.drop pc = UInt8.ofNat 45 :: r) : decode code pc = .ok (.aload_n 3, 1) := by
  refine fv_dfin ?_
  unfold Decoder.instr
  rw [fv_bind (fv_dz h)]
  rfl
set_option maxRecDepth 100000 in
theorem fv_do_133 {code : ByteArray} {pc : Nat} {r : List UInt8} (h : code.data.toList.drop pc = UInt8.ofNat 133 :: r) : decode code pc = .ok (.i2l, 1) := by
  refine fv_dfin ?_
  unfold Decoder.instr
  rw [fv_bind (fv_dz h)]
  rfl
set_option maxRecDepth 100000 in
theorem fv_do_181 {code : ByteArray} {pc : Nat} {b c : UInt8} {r : List UInt8} (h : code.data.toList.drop pc = UInt8.ofNat 181 :: b :: c :: r) : decode code pc = .ok (.putfield (b.toNat * 256 + c.toNat), 3) := by
  refine fv_dfin ?_
  unfold Decoder.instr
  rw [fv_bind (fv_dz h)]
  show ((Reader.u2 : Decoder Nat) >>= fun x => (pure (Instr.putfield x) : Decoder Instr)) code (pc + 1) = _
  rw [fv_bind (fv_du2 (fv_dt h))]
  rfl
set_option maxRecDepth 100000 in
theorem fv_do_5 {code : ByteArray} {pc : Nat} {r : List UInt8} (h : code.data.toList.drop pc = UInt8.ofNat 5 :: r) : decode code pc = .ok (.iconst 2, 1) := by
  refine fv_dfin ?_
  unfold Decoder.instr
  rw [fv_bind (fv_dz h)]
  rfl
set_option maxRecDepth 100000 in
theorem fv_do_153 {code : ByteArray} {pc : Nat} {b c : UInt8} {r : List UInt8} (h : code.data.toList.drop pc = UInt8.ofNat 153 :: b :: c :: r) : decode code pc = .ok (.ifCond .eq (Reader.signed 16 (b.toNat * 256 + c.toNat)), 3) := by
  refine fv_dfin ?_
  unfold Decoder.instr
  rw [fv_bind (fv_dz h)]
  show ((Reader.s2 : Decoder Int) >>= fun x => (pure (Instr.ifCond .eq x) : Decoder Instr)) code (pc + 1) = _
  rw [fv_bind (fv_ds2 (fv_dt h))]
  rfl
set_option maxRecDepth 100000 in
theorem fv_do_167 {code : ByteArray} {pc : Nat} {b c : UInt8} {r : List UInt8} (h : code.data.toList.drop pc = UInt8.ofNat 167 :: b :: c :: r) : decode code pc = .ok (.goto (Reader.signed 16 (b.toNat * 256 + c.toNat)), 3) := by
  refine fv_dfin ?_
  unfold Decoder.instr
  rw [fv_bind (fv_dz h)]
  show ((Reader.s2 : Decoder Int) >>= fun x => (pure (Instr.goto x) : Decoder Instr)) code (pc + 1) = _
  rw [fv_bind (fv_ds2 (fv_dt h))]
  rfl
set_option maxRecDepth 100000 in
theorem fv_do_43 {code : ByteArray} {pc : Nat} {r : List UInt8} (h : code.data.toList.drop pc = UInt8.ofNat 43 :: r) : decode code pc = .ok (.aload_n 1, 1) := by
  refine fv_dfin ?_
  unfold Decoder.instr
  rw [fv_bind (fv_dz h)]
  rfl
set_option maxRecDepth 100000 in
theorem fv_do_159 {code : ByteArray} {pc : Nat} {b c : UInt8} {r : List UInt8} (h : code.data.toList.drop pc = UInt8.ofNat 159 :: b :: c :: r) : decode code pc = .ok (.if_icmp .eq (Reader.signed 16 (b.toNat * 256 + c.toNat)), 3) := by
  refine fv_dfin ?_
  unfold Decoder.instr
  rw [fv_bind (fv_dz h)]
  show ((Reader.s2 : Decoder Int) >>= fun x => (pure (Instr.if_icmp .eq x) : Decoder Instr)) code (pc + 1) = _
  rw [fv_bind (fv_ds2 (fv_dt h))]
  rfl
set_option maxRecDepth 100000 in
theorem fv_do_154 {code : ByteArray} {pc : Nat} {b c : UInt8} {r : List UInt8} (h : code.data.toList.drop pc = UInt8.ofNat 154 :: b :: c :: r) : decode code pc = .ok (.ifCond .ne (Reader.signed 16 (b.toNat * 256 + c.toNat)), 3) := by
  refine fv_dfin ?_
  unfold Decoder.instr
  rw [fv_bind (fv_dz h)]
  show ((Reader.s2 : Decoder Int) >>= fun x => (pure (Instr.ifCond .ne x) : Decoder Instr)) code (pc + 1) = _
  rw [fv_bind (fv_ds2 (fv_dt h))]
  rfl
set_option maxRecDepth 100000 in
theorem fv_do_184 {code : ByteArray} {pc : Nat} {b c : UInt8} {r : List UInt8} (h : code.data.toList.drop pc = UInt8.ofNat 184 :: b :: c :: r) : decode code pc = .ok (.invokestatic (b.toNat * 256 + c.toNat), 3) := by
  refine fv_dfin ?_
  unfold Decoder.instr
  rw [fv_bind (fv_dz h)]
  show ((Reader.u2 : Decoder Nat) >>= fun x => (pure (Instr.invokestatic x) : Decoder Instr)) code (pc + 1) = _
  rw [fv_bind (fv_du2 (fv_dt h))]
  rfl
set_option maxRecDepth 100000 in
theorem fv_do_47 {code : ByteArray} {pc : Nat} {r : List UInt8} (h : code.data.toList.drop pc = UInt8.ofNat 47 :: r) : decode code pc = .ok (.laload, 1) := by
  refine fv_dfin ?_
  unfold Decoder.instr
  rw [fv_bind (fv_dz h)]
  rfl
set_option maxRecDepth 100000 in
theorem fv_do_148 {code : ByteArray} {pc : Nat} {r : List UInt8} (h : code.data.toList.drop pc = UInt8.ofNat 148 :: r) : decode code pc = .ok (.lcmp, 1) := by
  refine fv_dfin ?_
  unfold Decoder.instr
  rw [fv_bind (fv_dz h)]
  rfl
set_option maxRecDepth 100000 in
theorem fv_do_121 {code : ByteArray} {pc : Nat} {r : List UInt8} (h : code.data.toList.drop pc = UInt8.ofNat 121 :: r) : decode code pc = .ok (.lshl, 1) := by
  refine fv_dfin ?_
  unfold Decoder.instr
  rw [fv_bind (fv_dz h)]
  rfl
set_option maxRecDepth 100000 in
theorem fv_do_20 {code : ByteArray} {pc : Nat} {b c : UInt8} {r : List UInt8} (h : code.data.toList.drop pc = UInt8.ofNat 20 :: b :: c :: r) : decode code pc = .ok (.ldc2_w (b.toNat * 256 + c.toNat), 3) := by
  refine fv_dfin ?_
  unfold Decoder.instr
  rw [fv_bind (fv_dz h)]
  show ((Reader.u2 : Decoder Nat) >>= fun x => (pure (Instr.ldc2_w x) : Decoder Instr)) code (pc + 1) = _
  rw [fv_bind (fv_du2 (fv_dt h))]
  rfl
set_option maxRecDepth 100000 in
theorem fv_do_127 {code : ByteArray} {pc : Nat} {r : List UInt8} (h : code.data.toList.drop pc = UInt8.ofNat 127 :: r) : decode code pc = .ok (.land, 1) := by
  refine fv_dfin ?_
  unfold Decoder.instr
  rw [fv_bind (fv_dz h)]
  rfl
set_option maxRecDepth 100000 in
theorem fv_do_129 {code : ByteArray} {pc : Nat} {r : List UInt8} (h : code.data.toList.drop pc = UInt8.ofNat 129 :: r) : decode code pc = .ok (.lor, 1) := by
  refine fv_dfin ?_
  unfold Decoder.instr
  rw [fv_bind (fv_dz h)]
  rfl
set_option maxRecDepth 100000 in
theorem fv_do_24 {code : ByteArray} {pc : Nat} {b : UInt8} {r : List UInt8} (h : code.data.toList.drop pc = UInt8.ofNat 24 :: b :: r) : decode code pc = .ok (.dload b.toNat, 2) := by
  refine fv_dfin ?_
  unfold Decoder.instr
  rw [fv_bind (fv_dz h)]
  show ((Reader.u1 : Decoder Nat) >>= fun x => (pure (Instr.dload x) : Decoder Instr)) code (pc + 1) = _
  rw [fv_bind (fv_dz (fv_dt h))]
  rfl
set_option maxRecDepth 100000 in
theorem fv_do_6 {code : ByteArray} {pc : Nat} {r : List UInt8} (h : code.data.toList.drop pc = UInt8.ofNat 6 :: r) : decode code pc = .ok (.iconst 3, 1) := by
  refine fv_dfin ?_
  unfold Decoder.instr
  rw [fv_bind (fv_dz h)]
  rfl
set_option maxRecDepth 100000 in
theorem fv_do_7 {code : ByteArray} {pc : Nat} {r : List UInt8} (h : code.data.toList.drop pc = UInt8.ofNat 7 :: r) : decode code pc = .ok (.iconst 4, 1) := by
  refine fv_dfin ?_
  unfold Decoder.instr
  rw [fv_bind (fv_dz h)]
  rfl
set_option maxRecDepth 100000 in
theorem fv_do_8 {code : ByteArray} {pc : Nat} {r : List UInt8} (h : code.data.toList.drop pc = UInt8.ofNat 8 :: r) : decode code pc = .ok (.iconst 5, 1) := by
  refine fv_dfin ?_
  unfold Decoder.instr
  rw [fv_bind (fv_dz h)]
  rfl
set_option maxRecDepth 100000 in
theorem fv_do_151 {code : ByteArray} {pc : Nat} {r : List UInt8} (h : code.data.toList.drop pc = UInt8.ofNat 151 :: r) : decode code pc = .ok (.dcmp .l, 1) := by
  refine fv_dfin ?_
  unfold Decoder.instr
  rw [fv_bind (fv_dz h)]
  rfl
set_option maxRecDepth 100000 in
theorem fv_do_57 {code : ByteArray} {pc : Nat} {b : UInt8} {r : List UInt8} (h : code.data.toList.drop pc = UInt8.ofNat 57 :: b :: r) : decode code pc = .ok (.dstore b.toNat, 2) := by
  refine fv_dfin ?_
  unfold Decoder.instr
  rw [fv_bind (fv_dz h)]
  show ((Reader.u1 : Decoder Nat) >>= fun x => (pure (Instr.dstore x) : Decoder Instr)) code (pc + 1) = _
  rw [fv_bind (fv_dz (fv_dt h))]
  rfl
set_option maxRecDepth 100000 in
theorem fv_do_83 {code : ByteArray} {pc : Nat} {r : List UInt8} (h : code.data.toList.drop pc = UInt8.ofNat 83 :: r) : decode code pc = .ok (.aastore, 1) := by
  refine fv_dfin ?_
  unfold Decoder.instr
  rw [fv_bind (fv_dz h)]
  rfl
set_option maxRecDepth 100000 in
theorem fv_do_189 {code : ByteArray} {pc : Nat} {b c : UInt8} {r : List UInt8} (h : code.data.toList.drop pc = UInt8.ofNat 189 :: b :: c :: r) : decode code pc = .ok (.anewarray (b.toNat * 256 + c.toNat), 3) := by
  refine fv_dfin ?_
  unfold Decoder.instr
  rw [fv_bind (fv_dz h)]
  show ((Reader.u2 : Decoder Nat) >>= fun x => (pure (Instr.anewarray x) : Decoder Instr)) code (pc + 1) = _
  rw [fv_bind (fv_du2 (fv_dt h))]
  rfl
set_option maxRecDepth 100000 in
theorem fv_do_1 {code : ByteArray} {pc : Nat} {r : List UInt8} (h : code.data.toList.drop pc = UInt8.ofNat 1 :: r) : decode code pc = .ok (.aconst_null, 1) := by
  refine fv_dfin ?_
  unfold Decoder.instr
  rw [fv_bind (fv_dz h)]
  rfl
set_option maxRecDepth 100000 in
theorem fv_do_18 {code : ByteArray} {pc : Nat} {b : UInt8} {r : List UInt8} (h : code.data.toList.drop pc = UInt8.ofNat 18 :: b :: r) : decode code pc = .ok (.ldc b.toNat, 2) := by
  refine fv_dfin ?_
  unfold Decoder.instr
  rw [fv_bind (fv_dz h)]
  show ((Reader.u1 : Decoder Nat) >>= fun x => (pure (Instr.ldc x) : Decoder Instr)) code (pc + 1) = _
  rw [fv_bind (fv_dz (fv_dt h))]
  rfl
set_option maxRecDepth 100000 in
theorem fv_do_141 {code : ByteArray} {pc : Nat} {r : List UInt8} (h : code.data.toList.drop pc = UInt8.ofNat 141 :: r) : decode code pc = .ok (.f2d, 1) := by
  refine fv_dfin ?_
  unfold Decoder.instr
  rw [fv_bind (fv_dz h)]
  rfl
set_option maxRecDepth 100000 in
theorem fv_do_9 {code : ByteArray} {pc : Nat} {r : List UInt8} (h : code.data.toList.drop pc = UInt8.ofNat 9 :: r) : decode code pc = .ok (.lconst 0, 1) := by
  refine fv_dfin ?_
  unfold Decoder.instr
  rw [fv_bind (fv_dz h)]
  rfl
set_option maxRecDepth 100000 in
theorem fv_do_10 {code : ByteArray} {pc : Nat} {r : List UInt8} (h : code.data.toList.drop pc = UInt8.ofNat 10 :: r) : decode code pc = .ok (.lconst 1, 1) := by
  refine fv_dfin ?_
  unfold Decoder.instr
  rw [fv_bind (fv_dz h)]
  rfl
set_option maxRecDepth 100000 in
theorem fv_do_132 {code : ByteArray} {pc : Nat} {b c : UInt8} {r : List UInt8} (h : code.data.toList.drop pc = UInt8.ofNat 132 :: b :: c :: r) : decode code pc = .ok (.iinc b.toNat (Reader.signed 8 c.toNat), 3) := by
  refine fv_dfin ?_
  unfold Decoder.instr
  rw [fv_bind (fv_dz h)]
  show ((Reader.u1 : Decoder Nat) >>= fun x => (Reader.s1 : Decoder Int) >>= fun y => (pure (Instr.iinc x y) : Decoder Instr)) code (pc + 1) = _
  rw [fv_bind (fv_dz (fv_dt h)), fv_bind (fv_ds1 (fv_dt (fv_dt h)))]
  rfl
set_option maxRecDepth 100000 in
theorem fv_do_163 {code : ByteArray} {pc : Nat} {b c : UInt8} {r : List UInt8} (h : code.data.toList.drop pc = UInt8.ofNat 163 :: b :: c :: r) : decode code pc = .ok (.if_icmp .gt (Reader.signed 16 (b.toNat * 256 + c.toNat)), 3) := by
  refine fv_dfin ?_
  unfold Decoder.instr
  rw [fv_bind (fv_dz h)]
  show ((Reader.s2 : Decoder Int) >>= fun x => (pure (Instr.if_icmp .gt x) : Decoder Instr)) code (pc + 1) = _
  rw [fv_bind (fv_ds2 (fv_dt h))]
  rfl
set_option maxRecDepth 100000 in
theorem fv_do_177 {code : ByteArray} {pc : Nat} {r : List UInt8} (h : code.data.toList.drop pc = UInt8.ofNat 177 :: r) : decode code pc = .ok (.return_, 1) := by
  refine fv_dfin ?_
  unfold Decoder.instr
  rw [fv_bind (fv_dz h)]
  rfl
set_option maxRecDepth 100000 in
theorem fv_do_188_10 {code : ByteArray} {pc : Nat} {r : List UInt8} (h : code.data.toList.drop pc = UInt8.ofNat 188 :: UInt8.ofNat 10 :: r) : decode code pc = .ok (.newarray .int, 2) := by
  refine fv_dfin ?_
  unfold Decoder.instr
  rw [fv_bind (fv_dz h)]
  show (Decoder.newarray pc) code (pc + 1) = _
  unfold Decoder.newarray
  rw [fv_bind (fv_dz (fv_dt h))]
  rfl
set_option maxRecDepth 100000 in
theorem fv_do_188_11 {code : ByteArray} {pc : Nat} {r : List UInt8} (h : code.data.toList.drop pc = UInt8.ofNat 188 :: UInt8.ofNat 11 :: r) : decode code pc = .ok (.newarray .long, 2) := by
  refine fv_dfin ?_
  unfold Decoder.instr
  rw [fv_bind (fv_dz h)]
  show (Decoder.newarray pc) code (pc + 1) = _
  unfold Decoder.newarray
  rw [fv_bind (fv_dz (fv_dt h))]
  rfl
set_option maxRecDepth 100000 in
theorem fv_do_188_4 {code : ByteArray} {pc : Nat} {r : List UInt8} (h : code.data.toList.drop pc = UInt8.ofNat 188 :: UInt8.ofNat 4 :: r) : decode code pc = .ok (.newarray .boolean, 2) := by
  refine fv_dfin ?_
  unfold Decoder.instr
  rw [fv_bind (fv_dz h)]
  show (Decoder.newarray pc) code (pc + 1) = _
  unfold Decoder.newarray
  rw [fv_bind (fv_dz (fv_dt h))]
  rfl
theorem fv_un {x : Nat} (h : x < 256) : (UInt8.ofNat x).toNat = x := by
  show (BitVec.ofNat 8 x).toNat = x
  rw [BitVec.toNat_ofNat]
  exact Nat.mod_eq_of_lt h
def fv_qd1 (l : List Nat) (k : Nat → Instr × Nat) : Option (Instr × Nat) := match l with
  | x :: _ => if x < 256 then some (k x) else none
  | [] => none
def fv_qd2 (l : List Nat) (k : Nat → Nat → Instr × Nat) : Option (Instr × Nat) := match l with
  | x :: y :: _ => if x < 256 ∧ y < 256 then some (k x y) else none
  | _ => none
def fv_qdn (l : List Nat) : Option (Instr × Nat) := match l with
  | x :: _ => if x = 10 then some (.newarray .int, 2) else if x = 11 then some (.newarray .long, 2) else if x = 4 then some (.newarray .boolean, 2) else none
  | [] => none
def fv_qd (l : List Nat) : Option (Instr × Nat) := match l with
  | [] => none
  | b :: r =>
    if b = 16 then fv_qd1 r (fun x => (.bipush (Reader.signed 8 x), 2))
    else if b = 89 then some (.dup, 1)
    else if b = 79 then some (.iastore, 1)
    else if b = 17 then fv_qd2 r (fun x y => (.sipush (Reader.signed 16 (x * 256 + y)), 3))
    else if b = 21 then fv_qd1 r (fun x => (.iload x, 2))
    else if b = 42 then some (.aload_n 0, 1)
    else if b = 46 then some (.iaload, 1)
    else if b = 96 then some (.iadd, 1)
    else if b = 3 then some (.iconst 0, 1)
    else if b = 182 then fv_qd2 r (fun x y => (.invokevirtual (x * 256 + y), 3))
    else if b = 4 then some (.iconst 1, 1)
    else if b = 44 then some (.aload_n 2, 1)
    else if b = 172 then some (.ireturn, 1)
    else if b = 54 then fv_qd1 r (fun x => (.istore x, 2))
    else if b = 45 then some (.aload_n 3, 1)
    else if b = 133 then some (.i2l, 1)
    else if b = 181 then fv_qd2 r (fun x y => (.putfield (x * 256 + y), 3))
    else if b = 188 then fv_qdn r
    else if b = 5 then some (.iconst 2, 1)
    else if b = 153 then fv_qd2 r (fun x y => (.ifCond .eq (Reader.signed 16 (x * 256 + y)), 3))
    else if b = 167 then fv_qd2 r (fun x y => (.goto (Reader.signed 16 (x * 256 + y)), 3))
    else if b = 43 then some (.aload_n 1, 1)
    else if b = 159 then fv_qd2 r (fun x y => (.if_icmp .eq (Reader.signed 16 (x * 256 + y)), 3))
    else if b = 154 then fv_qd2 r (fun x y => (.ifCond .ne (Reader.signed 16 (x * 256 + y)), 3))
    else if b = 184 then fv_qd2 r (fun x y => (.invokestatic (x * 256 + y), 3))
    else if b = 47 then some (.laload, 1)
    else if b = 148 then some (.lcmp, 1)
    else if b = 121 then some (.lshl, 1)
    else if b = 20 then fv_qd2 r (fun x y => (.ldc2_w (x * 256 + y), 3))
    else if b = 127 then some (.land, 1)
    else if b = 129 then some (.lor, 1)
    else if b = 24 then fv_qd1 r (fun x => (.dload x, 2))
    else if b = 6 then some (.iconst 3, 1)
    else if b = 7 then some (.iconst 4, 1)
    else if b = 8 then some (.iconst 5, 1)
    else if b = 151 then some (.dcmp .l, 1)
    else if b = 57 then fv_qd1 r (fun x => (.dstore x, 2))
    else if b = 83 then some (.aastore, 1)
    else if b = 189 then fv_qd2 r (fun x y => (.anewarray (x * 256 + y), 3))
    else if b = 1 then some (.aconst_null, 1)
    else if b = 18 then fv_qd1 r (fun x => (.ldc x, 2))
    else if b = 141 then some (.f2d, 1)
    else if b = 9 then some (.lconst 0, 1)
    else if b = 10 then some (.lconst 1, 1)
    else if b = 132 then fv_qd2 r (fun x y => (.iinc x (Reader.signed 8 y), 3))
    else if b = 163 then fv_qd2 r (fun x y => (.if_icmp .gt (Reader.signed 16 (x * 256 + y)), 3))
    else if b = 177 then some (.return_, 1)
    else none
theorem fv_qd1_t {l : List Nat} {k : Nat → Instr × Nat} {q : Instr × Nat} (h : fv_qd1 l k = some q) : ∃ x t, l = x :: t ∧ x < 256 ∧ q = k x := by
  unfold fv_qd1 at h
  split at h
  · split at h
    · cases h
      exact ⟨_, _, rfl, by assumption, rfl⟩
    · cases h
  · cases h
theorem fv_qd2_t {l : List Nat} {k : Nat → Nat → Instr × Nat} {q : Instr × Nat} (h : fv_qd2 l k = some q) : ∃ x y t, l = x :: y :: t ∧ x < 256 ∧ y < 256 ∧ q = k x y := by
  unfold fv_qd2 at h
  split at h
  · split at h
    · rename_i g
      cases h
      exact ⟨_, _, _, rfl, g.1, g.2, rfl⟩
    · cases h
  · cases h
theorem fv_qdn_ok {r rest : List Nat} {q : Instr × Nat} {code : ByteArray} {pc : Nat} (h : fv_qdn r = some q) (hd : code.data.toList.drop pc = (188 :: r ++ rest).map UInt8.ofNat) : decode code pc = .ok q ∧ q.2 ≤ (188 :: r).length := by
  unfold fv_qdn at h
  split at h
  · rename_i x t
    by_cases y1 : x = 10
    · rw [if_pos y1] at h
      subst y1
      cases h
      exact ⟨fv_do_188_10 hd, Nat.le_add_left 2 _⟩
    rw [if_neg y1] at h
    by_cases y2 : x = 11
    · rw [if_pos y2] at h
      subst y2
      cases h
      exact ⟨fv_do_188_11 hd, Nat.le_add_left 2 _⟩
    rw [if_neg y2] at h
    by_cases y3 : x = 4
    · rw [if_pos y3] at h
      subst y3
      cases h
      exact ⟨fv_do_188_4 hd, Nat.le_add_left 2 _⟩
    rw [if_neg y3] at h
    cases h
  · cases h
theorem fv_qd_ok {l rest : List Nat} {q : Instr × Nat} {code : ByteArray} {pc : Nat} (h : fv_qd l = some q) (hd : code.data.toList.drop pc = (l ++ rest).map UInt8.ofNat) : decode code pc = .ok q ∧ q.2 ≤ l.length := by
  unfold fv_qd at h
  split at h
  · cases h
  · rename_i b r
    by_cases z16 : b = 16
    · rw [if_pos z16] at h
      subst z16
      obtain ⟨x, t, rfl, h1, rfl⟩ := fv_qd1_t h
      have e := fv_do_16 hd
      rw [fv_un h1] at e
      exact ⟨e, Nat.le_add_left 2 _⟩
    rw [if_neg z16] at h
    by_cases z89 : b = 89
    · rw [if_pos z89] at h
      subst z89
      cases h
      exact ⟨fv_do_89 hd, Nat.le_add_left 1 _⟩
    rw [if_neg z89] at h
    by_cases z79 : b = 79
    · rw [if_pos z79] at h
      subst z79
      cases h
      exact ⟨fv_do_79 hd, Nat.le_add_left 1 _⟩
    rw [if_neg z79] at h
    by_cases z17 : b = 17
    · rw [if_pos z17] at h
      subst z17
      obtain ⟨x, y, t, rfl, h1, h2, rfl⟩ := fv_qd2_t h
      have e := fv_do_17 hd
      rw [fv_un h1, fv_un h2] at e
      exact ⟨e, Nat.le_add_left 3 _⟩
    rw [if_neg z17] at h
    by_cases z21 : b = 21
    · rw [if_pos z21] at h
      subst z21
      obtain ⟨x, t, rfl, h1, rfl⟩ := fv_qd1_t h
      have e := fv_do_21 hd
      rw [fv_un h1] at e
      exact ⟨e, Nat.le_add_left 2 _⟩
    rw [if_neg z21] at h
    by_cases z42 : b = 42
    · rw [if_pos z42] at h
      subst z42
      cases h
      exact ⟨fv_do_42 hd, Nat.le_add_left 1 _⟩
    rw [if_neg z42] at h
    by_cases z46 : b = 46
    · rw [if_pos z46] at h
      subst z46
      cases h
      exact ⟨fv_do_46 hd, Nat.le_add_left 1 _⟩
    rw [if_neg z46] at h
    by_cases z96 : b = 96
    · rw [if_pos z96] at h
      subst z96
      cases h
      exact ⟨fv_do_96 hd, Nat.le_add_left 1 _⟩
    rw [if_neg z96] at h
    by_cases z3 : b = 3
    · rw [if_pos z3] at h
      subst z3
      cases h
      exact ⟨fv_do_3 hd, Nat.le_add_left 1 _⟩
    rw [if_neg z3] at h
    by_cases z182 : b = 182
    · rw [if_pos z182] at h
      subst z182
      obtain ⟨x, y, t, rfl, h1, h2, rfl⟩ := fv_qd2_t h
      have e := fv_do_182 hd
      rw [fv_un h1, fv_un h2] at e
      exact ⟨e, Nat.le_add_left 3 _⟩
    rw [if_neg z182] at h
    by_cases z4 : b = 4
    · rw [if_pos z4] at h
      subst z4
      cases h
      exact ⟨fv_do_4 hd, Nat.le_add_left 1 _⟩
    rw [if_neg z4] at h
    by_cases z44 : b = 44
    · rw [if_pos z44] at h
      subst z44
      cases h
      exact ⟨fv_do_44 hd, Nat.le_add_left 1 _⟩
    rw [if_neg z44] at h
    by_cases z172 : b = 172
    · rw [if_pos z172] at h
      subst z172
      cases h
      exact ⟨fv_do_172 hd, Nat.le_add_left 1 _⟩
    rw [if_neg z172] at h
    by_cases z54 : b = 54
    · rw [if_pos z54] at h
      subst z54
      obtain ⟨x, t, rfl, h1, rfl⟩ := fv_qd1_t h
      have e := fv_do_54 hd
      rw [fv_un h1] at e
      exact ⟨e, Nat.le_add_left 2 _⟩
    rw [if_neg z54] at h
    by_cases z45 : b = 45
    · rw [if_pos z45] at h
      subst z45
      cases h
      exact ⟨fv_do_45 hd, Nat.le_add_left 1 _⟩
    rw [if_neg z45] at h
    by_cases z133 : b = 133
    · rw [if_pos z133] at h
      subst z133
      cases h
      exact ⟨fv_do_133 hd, Nat.le_add_left 1 _⟩
    rw [if_neg z133] at h
    by_cases z181 : b = 181
    · rw [if_pos z181] at h
      subst z181
      obtain ⟨x, y, t, rfl, h1, h2, rfl⟩ := fv_qd2_t h
      have e := fv_do_181 hd
      rw [fv_un h1, fv_un h2] at e
      exact ⟨e, Nat.le_add_left 3 _⟩
    rw [if_neg z181] at h
    by_cases z188 : b = 188
    · rw [if_pos z188] at h
      subst z188
      exact fv_qdn_ok h hd
    rw [if_neg z188] at h
    by_cases z5 : b = 5
    · rw [if_pos z5] at h
      subst z5
      cases h
      exact ⟨fv_do_5 hd, Nat.le_add_left 1 _⟩
    rw [if_neg z5] at h
    by_cases z153 : b = 153
    · rw [if_pos z153] at h
      subst z153
      obtain ⟨x, y, t, rfl, h1, h2, rfl⟩ := fv_qd2_t h
      have e := fv_do_153 hd
      rw [fv_un h1, fv_un h2] at e
      exact ⟨e, Nat.le_add_left 3 _⟩
    rw [if_neg z153] at h
    by_cases z167 : b = 167
    · rw [if_pos z167] at h
      subst z167
      obtain ⟨x, y, t, rfl, h1, h2, rfl⟩ := fv_qd2_t h
      have e := fv_do_167 hd
      rw [fv_un h1, fv_un h2] at e
      exact ⟨e, Nat.le_add_left 3 _⟩
    rw [if_neg z167] at h
    by_cases z43 : b = 43
    · rw [if_pos z43] at h
      subst z43
      cases h
      exact ⟨fv_do_43 hd, Nat.le_add_left 1 _⟩
    rw [if_neg z43] at h
    by_cases z159 : b = 159
    · rw [if_pos z159] at h
      subst z159
      obtain ⟨x, y, t, rfl, h1, h2, rfl⟩ := fv_qd2_t h
      have e := fv_do_159 hd
      rw [fv_un h1, fv_un h2] at e
      exact ⟨e, Nat.le_add_left 3 _⟩
    rw [if_neg z159] at h
    by_cases z154 : b = 154
    · rw [if_pos z154] at h
      subst z154
      obtain ⟨x, y, t, rfl, h1, h2, rfl⟩ := fv_qd2_t h
      have e := fv_do_154 hd
      rw [fv_un h1, fv_un h2] at e
      exact ⟨e, Nat.le_add_left 3 _⟩
    rw [if_neg z154] at h
    by_cases z184 : b = 184
    · rw [if_pos z184] at h
      subst z184
      obtain ⟨x, y, t, rfl, h1, h2, rfl⟩ := fv_qd2_t h
      have e := fv_do_184 hd
      rw [fv_un h1, fv_un h2] at e
      exact ⟨e, Nat.le_add_left 3 _⟩
    rw [if_neg z184] at h
    by_cases z47 : b = 47
    · rw [if_pos z47] at h
      subst z47
      cases h
      exact ⟨fv_do_47 hd, Nat.le_add_left 1 _⟩
    rw [if_neg z47] at h
    by_cases z148 : b = 148
    · rw [if_pos z148] at h
      subst z148
      cases h
      exact ⟨fv_do_148 hd, Nat.le_add_left 1 _⟩
    rw [if_neg z148] at h
    by_cases z121 : b = 121
    · rw [if_pos z121] at h
      subst z121
      cases h
      exact ⟨fv_do_121 hd, Nat.le_add_left 1 _⟩
    rw [if_neg z121] at h
    by_cases z20 : b = 20
    · rw [if_pos z20] at h
      subst z20
      obtain ⟨x, y, t, rfl, h1, h2, rfl⟩ := fv_qd2_t h
      have e := fv_do_20 hd
      rw [fv_un h1, fv_un h2] at e
      exact ⟨e, Nat.le_add_left 3 _⟩
    rw [if_neg z20] at h
    by_cases z127 : b = 127
    · rw [if_pos z127] at h
      subst z127
      cases h
      exact ⟨fv_do_127 hd, Nat.le_add_left 1 _⟩
    rw [if_neg z127] at h
    by_cases z129 : b = 129
    · rw [if_pos z129] at h
      subst z129
      cases h
      exact ⟨fv_do_129 hd, Nat.le_add_left 1 _⟩
    rw [if_neg z129] at h
    by_cases z24 : b = 24
    · rw [if_pos z24] at h
      subst z24
      obtain ⟨x, t, rfl, h1, rfl⟩ := fv_qd1_t h
      have e := fv_do_24 hd
      rw [fv_un h1] at e
      exact ⟨e, Nat.le_add_left 2 _⟩
    rw [if_neg z24] at h
    by_cases z6 : b = 6
    · rw [if_pos z6] at h
      subst z6
      cases h
      exact ⟨fv_do_6 hd, Nat.le_add_left 1 _⟩
    rw [if_neg z6] at h
    by_cases z7 : b = 7
    · rw [if_pos z7] at h
      subst z7
      cases h
      exact ⟨fv_do_7 hd, Nat.le_add_left 1 _⟩
    rw [if_neg z7] at h
    by_cases z8 : b = 8
    · rw [if_pos z8] at h
      subst z8
      cases h
      exact ⟨fv_do_8 hd, Nat.le_add_left 1 _⟩
    rw [if_neg z8] at h
    by_cases z151 : b = 151
    · rw [if_pos z151] at h
      subst z151
      cases h
      exact ⟨fv_do_151 hd, Nat.le_add_left 1 _⟩
    rw [if_neg z151] at h
    by_cases z57 : b = 57
    · rw [if_pos z57] at h
      subst z57
      obtain ⟨x, t, rfl, h1, rfl⟩ := fv_qd1_t h
      have e := fv_do_57 hd
      rw [fv_un h1] at e
      exact ⟨e, Nat.le_add_left 2 _⟩
    rw [if_neg z57] at h
    by_cases z83 : b = 83
    · rw [if_pos z83] at h
      subst z83
      cases h
      exact ⟨fv_do_83 hd, Nat.le_add_left 1 _⟩
    rw [if_neg z83] at h
    by_cases z189 : b = 189
    · rw [if_pos z189] at h
      subst z189
      obtain ⟨x, y, t, rfl, h1, h2, rfl⟩ := fv_qd2_t h
      have e := fv_do_189 hd
      rw [fv_un h1, fv_un h2] at e
      exact ⟨e, Nat.le_add_left 3 _⟩
    rw [if_neg z189] at h
    by_cases z1 : b = 1
    · rw [if_pos z1] at h
      subst z1
      cases h
      exact ⟨fv_do_1 hd, Nat.le_add_left 1 _⟩
    rw [if_neg z1] at h
    by_cases z18 : b = 18
    · rw [if_pos z18] at h
      subst z18
      obtain ⟨x, t, rfl, h1, rfl⟩ := fv_qd1_t h
      have e := fv_do_18 hd
      rw [fv_un h1] at e
      exact ⟨e, Nat.le_add_left 2 _⟩
    rw [if_neg z18] at h
    by_cases z141 : b = 141
    · rw [if_pos z141] at h
      subst z141
      cases h
      exact ⟨fv_do_141 hd, Nat.le_add_left 1 _⟩
    rw [if_neg z141] at h
    by_cases z9 : b = 9
    · rw [if_pos z9] at h
      subst z9
      cases h
      exact ⟨fv_do_9 hd, Nat.le_add_left 1 _⟩
    rw [if_neg z9] at h
    by_cases z10 : b = 10
    · rw [if_pos z10] at h
      subst z10
      cases h
      exact ⟨fv_do_10 hd, Nat.le_add_left 1 _⟩
    rw [if_neg z10] at h
    by_cases z132 : b = 132
    · rw [if_pos z132] at h
      subst z132
      obtain ⟨x, y, t, rfl, h1, h2, rfl⟩ := fv_qd2_t h
      have e := fv_do_132 hd
      rw [fv_un h1, fv_un h2] at e
      exact ⟨e, Nat.le_add_left 3 _⟩
    rw [if_neg z132] at h
    by_cases z163 : b = 163
    · rw [if_pos z163] at h
      subst z163
      obtain ⟨x, y, t, rfl, h1, h2, rfl⟩ := fv_qd2_t h
      have e := fv_do_163 hd
      rw [fv_un h1, fv_un h2] at e
      exact ⟨e, Nat.le_add_left 3 _⟩
    rw [if_neg z163] at h
    by_cases z177 : b = 177
    · rw [if_pos z177] at h
      subst z177
      cases h
      exact ⟨fv_do_177 hd, Nat.le_add_left 1 _⟩
    rw [if_neg z177] at h
    cases h
/-- a straight stretch, then what comes -/
def fv_qk (cn nL : Nat) (ini : Bool) : List Instr → List Nat → Nat → (List Nat → Nat → Bool) → Bool
  | [], l, pc, k => k l pc
  | a :: r, l, pc, k => match fv_qd l with
    | some q => am_rl cn nL ini q.1 a q.2 && fv_qk cn nL ini r (l.drop q.2) (pc + q.2) k
    | none => false
theorem fv_qk_ok {cn nL : Nat} {ini : Bool} {cc : ByteArray} {k : List Nat → Nat → Bool} {rest : List Nat} : ∀ {is : List Instr} {l : List Nat} {pc : Nat}, fv_qk cn nL ini is l pc k = true → cc.data.toList.drop pc = (l ++ rest).map UInt8.ofNat → ∃ pe l2, am_lk cn nL ini cc pc is = some pe ∧ k l2 pe = true ∧ cc.data.toList.drop pe = (l2 ++ rest).map UInt8.ofNat
  | [], l, pc, h, hd => ⟨pc, l, rfl, h, hd⟩
  | a :: r, l, pc, h, hd => by
    unfold fv_qk at h
    split at h
    · rename_i q hq
      rw [Bool.and_eq_true] at h
      obtain ⟨e, hl⟩ := fv_qd_ok (rest := rest) hq hd
      have hd2 : cc.data.toList.drop (pc + q.2) = (l.drop q.2 ++ rest).map UInt8.ofNat := by
        rw [← List.drop_drop, hd, ← List.map_drop, List.drop_append_of_le_length hl]
      obtain ⟨pe, l2, g1, g2, g3⟩ := fv_qk_ok h.2 hd2
      refine ⟨pe, l2, ?_, g2, g3⟩
      unfold am_lk
      rw [e]
      show (if am_rl cn nL ini q.1 a q.2 = true then am_lk cn nL ini cc (pc + q.2) r else none) = _
      rw [if_pos h.1, g1]
    · cases h
def fv_qf (l : List Nat) (f : Instr × Nat → Bool) : Bool := match fv_qd l with
  | some q => f q
  | none => false
theorem fv_qf_ok {l rest : List Nat} {f : Instr × Nat → Bool} {cc : ByteArray} {pc : Nat} (h : fv_qf l f = true) (hd : cc.data.toList.drop pc = (l ++ rest).map UInt8.ofNat) : am_wi cc pc f = true := by
  unfold fv_qf at h
  split at h
  · rename_i q hq
    unfold am_wi
    rw [(fv_qd_ok hq hd).1]
    exact h
  · cases h
def fv_qt (cn : Nat) (ok : Instr → Nat → Nat → Bool) (l : List Nat) (starts : List Nat) (t : Instr) (bi pc : Nat) : Bool :=
  match t with
  | .nop => am_nb starts bi pc
  | .multianewarray _ _ => true
  | .goto o => fv_qf l fun q => match q.1 with
    | .goto off => decide (q.2 = 3) && am_tg starts o pc off
    | _ => false
  | .ifCond c o => fv_qf l fun q => match q.1 with
    | .ifCond c2 off => decide (c = c2) && decide (q.2 = 3) && am_tg starts o pc off && am_nb starts bi (pc + 3)
    | _ => false
  | .if_icmp c o => fv_qf l fun q => match q.1 with
    | .if_icmp c2 off => decide (c = c2) && decide (q.2 = 3) && am_tg starts o pc off && am_nb starts bi (pc + 3)
    | _ => false
  | .if_acmp c o => fv_qf l fun q => match q.1 with
    | .if_acmp c2 off => decide (c = c2) && decide (q.2 = 3) && am_tg starts o pc off && am_nb starts bi (pc + 3)
    | _ => false
  | .getstatic k => fv_qf l fun q => match q.1 with
    | .getstatic i => decide (q.2 = 3) && decide (k = 2) && am_en cn i 15 2 && am_nb starts bi (pc + 3)
    | _ => false
  | .ifnull o => fv_qf l fun q => match q.1 with
    | .ifnull off => decide (q.2 = 3) && am_tg starts o pc off && am_nb starts bi (pc + 3)
    | _ => false
  | .ifnonnull o => fv_qf l fun q => match q.1 with
    | .ifnonnull off => decide (q.2 = 3) && am_tg starts o pc off && am_nb starts bi (pc + 3)
    | _ => false
  | .tableswitch d lo hi offs => fv_qf l fun q => match q.1 with
    | .tableswitch d2 lo2 hi2 offs2 => decide (lo = lo2) && decide (hi = hi2) && am_tg starts d pc d2 && am_tgs starts pc offs.toList offs2.toList && decide ((hi - lo + 1).toNat = offs.size)
    | _ => false
  | .lookupswitch d ps => fv_qf l fun q => match q.1 with
    | .lookupswitch d2 ps2 => am_tg starts d pc d2 && am_tgp starts pc ps.toList ps2.toList && (ps2.toList.zip (ps2.toList.drop 1)).all (fun (a, next) => a.1 < next.1)
    | _ => false
  | .invokeinterface y n => fv_qf l fun q => decide (q.2 = 3) && ok q.1 y n && am_nb starts bi (pc + 3)
  | t => fv_qf l fun q => decide (q.1 = t) && decide (q.2 = 1)
theorem fv_qt_ok {cn : Nat} {ok : Instr → Nat → Nat → Bool} {l rest : List Nat} {starts : List Nat} {t : Instr} {bi pc : Nat} {cc : ByteArray} (h : fv_qt cn ok l starts t bi pc = true) (hd : cc.data.toList.drop pc = (l ++ rest).map UInt8.ofNat) : am_lt cn ok cc starts t bi pc = true := by
  cases t <;> first | exact fv_qf_ok h hd | exact h
/-- blocks, one behind another -/
def fv_qb (cn nL : Nat) (ini : Bool) (ok : Instr → Nat → Nat → Bool) (starts : List Nat) : Nat → List (List Instr × Instr) → List Nat → Nat → Bool
  | _, [], _, _ => true
  | bi, q :: r, l, pc => match starts[bi]? with
    | some p => decide (pc ≤ p) && decide (p - pc ≤ l.length) && fv_qk cn nL ini q.1 (l.drop (p - pc)) p (fun l2 pe => fv_qt cn ok l2 starts q.2 bi pe && fv_qb cn nL ini ok starts (bi + 1) r l2 pe)
    | none => false
theorem fv_qb_ok {cn nL : Nat} {ini : Bool} {ok : Instr → Nat → Nat → Bool} {starts rest : List Nat} {cc : ByteArray} : ∀ {code : List (List Instr × Instr)} {bi pc : Nat} {l : List Nat}, fv_qb cn nL ini ok starts bi code l pc = true → cc.data.toList.drop pc = (l ++ rest).map UInt8.ofNat → am_lb cn nL ini ok cc starts bi code = true
  | [], bi, pc, l, h, hd => rfl
  | q :: r, bi, pc, l, h, hd => by
    unfold fv_qb at h
    split at h
    · rename_i p hp
      rw [Bool.and_eq_true, Bool.and_eq_true, decide_eq_true_eq, decide_eq_true_eq] at h
      obtain ⟨⟨h1, h2⟩, h3⟩ := h
      have hd2 : cc.data.toList.drop p = (l.drop (p - pc) ++ rest).map UInt8.ofNat := by
        have e : p = pc + (p - pc) := by omega
        rw [show cc.data.toList.drop p = cc.data.toList.drop (pc + (p - pc)) by rw [← e], ← List.drop_drop, hd, ← List.map_drop, List.drop_append_of_le_length h2]
      obtain ⟨pe, l2, g1, g2, g3⟩ := fv_qk_ok h3 hd2
      rw [Bool.and_eq_true] at g2
      unfold am_lb
      rw [hp]
      show ((match am_lk cn nL ini cc p q.1 with
        | some pe => am_lt cn ok cc starts q.2 bi pe
        | none => false) && am_lb cn nL ini ok cc starts (bi + 1) r) = true
      rw [g1, Bool.and_eq_true]
      exact ⟨fv_qt_ok g2.1 g3, fv_qb_ok g2.2 g3⟩
    · cases h
