/-! BYTES, read on: what 'decode' says, out of the bytes that are still to come -/
theorem fv_bind {α β : Type} {x : Decoder α} {f : α → Decoder β} {code : ByteArray} {p p2 : Nat} {a : α} (h : x code p = .ok (a, p2)) : (x >>= f) code p = f a code p2 := by
  show (x code p >>= fun q => f q.1 code q.2) = _
  rw [h]
  rfl
theorem fv_dz {code : ByteArray} {pc : Nat} {b : UInt8} {r : List UInt8} (h : code.data.toList.drop pc = b :: r) : (Reader.u1 : Decoder Nat) code pc = .ok (b.toNat, pc + 1) := by
  have hlt : pc < code.data.toList.length := by
    by_cases z : pc < code.data.toList.length
    · exact z
    · rw [List.drop_eq_nil_of_le (by omega)] at h
      cases h
  have hget : code.data.toList[pc] = b := by
    have := List.drop_eq_getElem_cons hlt
    rw [h] at this
    exact (List.cons.inj this).1.symm
  have hlt2 : pc < code.size := hlt
  have hb : code[pc] = b := hget
  unfold Reader.u1
  rw [fv_bind (a := code) (p2 := pc) rfl, fv_bind (a := pc) (p2 := pc) rfl, dif_pos hlt2, hb]
  rfl
theorem fv_dt {code : ByteArray} {pc : Nat} {b : UInt8} {r : List UInt8} (h : code.data.toList.drop pc = b :: r) : code.data.toList.drop (pc + 1) = r := by
  rw [← List.drop_drop, h]
  rfl
theorem fv_dfin {code : ByteArray} {pc n : Nat} {i : Instr} (e : Decoder.instr pc code pc = .ok (i, pc + n)) : decode code pc = .ok (i, n) := by
  unfold decode
  show (Decoder.instr pc code pc >>= fun x => pure (x.1, x.2 - pc) : Except DecodeError (Instr × Nat)) = _
  rw [e]
  show Except.ok (i, pc + n - pc) = _
  rw [show pc + n - pc = n by omega]
theorem fv_du2 {code : ByteArray} {pc : Nat} {b c : UInt8} {r : List UInt8} (h : code.data.toList.drop pc = b :: c :: r) : (Reader.u2 : Decoder Nat) code pc = .ok (b.toNat * 256 + c.toNat, pc + 2) := by
  unfold Reader.u2
  rw [fv_bind (fv_dz h), fv_bind (fv_dz (fv_dt h))]
  rfl
theorem fv_ds1 {code : ByteArray} {pc : Nat} {b : UInt8} {r : List UInt8} (h : code.data.toList.drop pc = b :: r) : (Reader.s1 : Decoder Int) code pc = .ok (Reader.signed 8 b.toNat, pc + 1) := by
  unfold Reader.s1
  show (Reader.u1 code pc >>= fun q => pure (Reader.signed 8 q.1, q.2) : Except DecodeError (Int × Nat)) = _
  rw [fv_dz h]
  rfl
theorem fv_ds2 {code : ByteArray} {pc : Nat} {b c : UInt8} {r : List UInt8} (h : code.data.toList.drop pc = b :: c :: r) : (Reader.s2 : Decoder Int) code pc = .ok (Reader.signed 16 (b.toNat * 256 + c.toNat), pc + 2) := by
  unfold Reader.s2
  show (Reader.u2 code pc >>= fun q => pure (Reader.signed 16 q.1, q.2) : Except DecodeError (Int × Nat)) = _
  rw [fv_du2 h]
  rfl
set_option maxRecDepth 100000 in
theorem fv_do_42 {code : ByteArray} {pc : Nat} {r : List UInt8} (h : code.data.toList.drop pc = 42 :: r) : decode code pc = .ok (.aload_n 0, 1) := by
  refine fv_dfin ?_
  unfold Decoder.instr
  rw [fv_bind (fv_dz h)]
  rfl
set_option maxRecDepth 100000 in
theorem fv_do_180 {code : ByteArray} {pc : Nat} {b c : UInt8} {r : List UInt8} (h : code.data.toList.drop pc = 180 :: b :: c :: r) : decode code pc = .ok (.getfield (b.toNat * 256 + c.toNat), 3) := by
  refine fv_dfin ?_
  unfold Decoder.instr
  rw [fv_bind (fv_dz h)]
  show ((Reader.u2 : Decoder Nat) >>= fun x => pure (.getfield x)) code (pc + 1) = _
  rw [fv_bind (fv_du2 (fv_dt h))]
  rfl
set_option maxRecDepth 100000 in
theorem fv_do_153 {code : ByteArray} {pc : Nat} {b c : UInt8} {r : List UInt8} (h : code.data.toList.drop pc = 153 :: b :: c :: r) : decode code pc = .ok (.ifCond .eq (Reader.signed 16 (b.toNat * 256 + c.toNat)), 3) := by
  refine fv_dfin ?_
  unfold Decoder.instr
  rw [fv_bind (fv_dz h)]
  show ((Reader.s2 : Decoder Int) >>= fun x => pure (.ifCond .eq x)) code (pc + 1) = _
  rw [fv_bind (fv_ds2 (fv_dt h))]
  rfl
set_option maxRecDepth 100000 in
theorem fv_do_132 {code : ByteArray} {pc : Nat} {b c : UInt8} {r : List UInt8} (h : code.data.toList.drop pc = 132 :: b :: c :: r) : decode code pc = .ok (.iinc b.toNat (Reader.signed 8 c.toNat), 3) := by
  refine fv_dfin ?_
  unfold Decoder.instr
  rw [fv_bind (fv_dz h)]
  show ((Reader.u1 : Decoder Nat) >>= fun x => Reader.s1 >>= fun y => pure (.iinc x y)) code (pc + 1) = _
  rw [fv_bind (fv_dz (fv_dt h)), fv_bind (fv_ds1 (fv_dt (fv_dt h)))]
  rfl
set_option maxRecDepth 100000 in
theorem fv_do_188 {code : ByteArray} {pc : Nat} {r : List UInt8} (h : code.data.toList.drop pc = 188 :: 10 :: r) : decode code pc = .ok (.newarray .int, 2) := by
  refine fv_dfin ?_
  unfold Decoder.instr
  rw [fv_bind (fv_dz h)]
  show (Decoder.newarray pc) code (pc + 1) = _
  unfold Decoder.newarray
  rw [fv_bind (fv_dz (fv_dt h))]
  rfl
