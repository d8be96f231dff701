variable {sc : List Int32}
/-! TYPE: the bytes of a number, high ones first; both sides count them, and put those that are not 0 -/
def fv_z (n : Int64) (s : Int32) : Int64 := (n.toUInt64 >>> (s.toInt64.toUInt64 &&& Int64.toUInt64 63)).toInt64 &&& Int64.ofInt 255
def fv_j (r : Nat) : Int32 := Int32.ofInt (8 * (r : Int) - 8)
theorem fv_jx : ∀ r, r < 8 → (¬ fv_j (r + 1) < 0 ∧ fv_j (r + 1) + Int32.ofInt (-8) = fv_j r) := by decide
theorem fv_j0 : fv_j 0 < 0 := by decide
/-- the reference's count goes up -/
def fv_q (r : Nat) : Int32 := Int32.ofInt (8 - (r : Int))
theorem fv_qx1 : ∀ r, r < 8 → (¬ Int32.ofInt 8 ≤ fv_q (r + 1) ∧ fv_q (r + 1) + Int32.ofInt 1 = fv_q r ∧ Int32.ofInt 8 * fv_q (r + 1) = fv_j (8 - r)) := by decide
theorem fv_q0 : Int32.ofInt 8 ≤ fv_q 0 := by decide
/-- and its places go down -/
def fv_i (r : Nat) : Int32 := Int32.ofInt ((r : Int) - 1)
theorem fv_ix1 : ∀ r, r < 8 → (¬ fv_i (r + 1) < 0 ∧ fv_i (r + 1) + Int32.ofInt (-1) = fv_i r ∧ Int32.ofInt 8 * fv_i (r + 1) = fv_j (r + 1)) := by decide
theorem fv_i0 : fv_i 0 < 0 := by decide
theorem fv_zc (z : Int64) : lg_cmp z (Int64.ofInt 0) = 0 ↔ z = 0 := by
  have h0 : (Int64.ofInt 0).toInt = 0 := by decide
  constructor
  · intro h
    rcases Int.lt_trichotomy z.toInt (Int64.ofInt 0).toInt with g | g | g
    · rw [fv_cmp_lt g] at h
      exact absurd h (by decide)
    · exact Int64.toInt_inj.1 (g.trans h0)
    · rw [fv_cmp_gt g] at h
      exact absurd h (by decide)
  · intro h
    exact fv_cmp_eq (by rw [h]; decide)
theorem fv_zi (w : Int64) : (w &&& Int64.ofInt 255).toInt32 = 0 ↔ (w &&& Int64.ofInt 255) = 0 := by
  have e : w &&& Int64.ofInt 255 = Int64.ofNat (w.toBitVec.toNat &&& 255) := by
    apply Int64.toBitVec_inj.1
    apply BitVec.eq_of_toNat_eq
    show (w.toBitVec &&& (255#64)).toNat = _
    rw [BitVec.toNat_and]
    show w.toBitVec.toNat &&& 255 = (w.toBitVec.toNat &&& 255) % 18446744073709551616
    rw [Nat.mod_eq_of_lt]
    exact Nat.lt_of_le_of_lt Nat.and_le_right (by decide)
  rw [e]
  have hl : w.toBitVec.toNat &&& 255 < 256 := Nat.lt_of_le_of_lt Nat.and_le_right (by decide)
  generalize w.toBitVec.toNat &&& 255 = m at hl
  rw [Int64.toInt32_ofNat']
  constructor
  · intro h
    have h2 := congrArg fv_of h
    rw [fv_of_nat, show fv_of 0 = 2147483648 from rfl] at h2
    rw [show m = 0 by omega]
    rfl
  · intro h
    have h2 := congrArg Int64.toInt h
    rw [Int64.toInt_ofNat_of_lt (by omega)] at h2
    have h3 : (m : Int) = 0 := h2
    rw [show m = 0 by omega]
    rfl
theorem fv_zz {n : Int64} {s : Int32} : (fv_z n s).toInt32 = 0 ↔ fv_z n s = 0 := fv_zi _
/-- how many are not 0 -/
def fv_ci (n : Int64) : Nat → Int32 → Int32
  | 0, c => c
  | r + 1, c => fv_ci n r (if fv_z n (fv_j (r + 1)) = 0 then c else c + Int32.ofInt 1)
def fv_cu (n : Int64) : Nat → Int32 → Int32
  | 0, c => c
  | r + 1, c => fv_cu n r (if fv_z n (fv_j (8 - r)) = 0 then c + Int32.ofInt 0 else c + Int32.ofInt 1)
def fv_nz (n : Int64) (s : Int32) : Nat := if fv_z n s = 0 then 0 else 1
def fv_cn (n : Int64) : Nat → Nat
  | 0 => 0
  | r + 1 => fv_nz n (fv_j (r + 1)) + fv_cn n r
theorem fv_i1 : Int32.ofInt 1 = Int32.ofNat 1 := by decide
theorem fv_i00 : Int32.ofInt 0 = Int32.ofNat 0 := by decide
theorem fv_ci_n (n : Int64) (r c : Nat) : fv_ci n r (Int32.ofNat c) = Int32.ofNat (c + fv_cn n r) := by
  induction r generalizing c with
  | zero => rfl
  | succ r ih =>
    unfold fv_ci fv_cn fv_nz
    by_cases hz : fv_z n (fv_j (r + 1)) = 0
    · rw [if_pos hz, if_pos hz, ih, Nat.zero_add]
    · rw [if_neg hz, if_neg hz, fv_i1, ← Int32.ofNat_add, ih, Nat.add_assoc]
def fv_cv (n : Int64) : Nat → Nat
  | 0 => 0
  | r + 1 => fv_nz n (fv_j (8 - r)) + fv_cv n r
theorem fv_cu_n (n : Int64) (r c : Nat) : fv_cu n r (Int32.ofNat c) = Int32.ofNat (c + fv_cv n r) := by
  induction r generalizing c with
  | zero => rfl
  | succ r ih =>
    unfold fv_cu fv_cv fv_nz
    by_cases hz : fv_z n (fv_j (8 - r)) = 0
    · rw [if_pos hz, if_pos hz, fv_i00, ← Int32.ofNat_add, ih, Nat.zero_add, Nat.add_zero]
    · rw [if_neg hz, if_neg hz, fv_i1, ← Int32.ofNat_add, ih, Nat.add_assoc]
theorem fv_cuv (n : Int64) : fv_cv n 8 = fv_cn n 8 := by
  show fv_nz n (fv_j 1) + (fv_nz n (fv_j 2) + (fv_nz n (fv_j 3) + (fv_nz n (fv_j 4) + (fv_nz n (fv_j 5) + (fv_nz n (fv_j 6) + (fv_nz n (fv_j 7) + (fv_nz n (fv_j 8) + 0))))))) = fv_nz n (fv_j 8) + (fv_nz n (fv_j 7) + (fv_nz n (fv_j 6) + (fv_nz n (fv_j 5) + (fv_nz n (fv_j 4) + (fv_nz n (fv_j 3) + (fv_nz n (fv_j 2) + (fv_nz n (fv_j 1) + 0)))))))
  omega
theorem fv_nz_le (n : Int64) (s : Int32) : fv_nz n s ≤ 1 := by
  unfold fv_nz
  split <;> omega
theorem fv_cn_le (n : Int64) (r : Nat) : fv_cn n r ≤ r := by
  induction r with
  | zero => exact Nat.le_refl _
  | succ r ih =>
    unfold fv_cn
    have := fv_nz_le n (fv_j (r + 1))
    omega
section FVT
variable {cds : List am_Cd} {d : Nat} {C : am_Rl} {CT : am_Rt} {fin : Option Value → am_H → Prop} {thr : Nat → am_H → Prop} {h : am_H}
/-- the class's count -/
theorem fv_bI (n : Int64) (r : Nat) (c : Int32) (hr : r ≤ 8) (hf : fin (some (.int (fv_ci n r c))) h) : fv_G sc C CT am_k197 [] fin thr 1 [(3, .int (fv_j r)), (2, .int c), (0, .long n)] [] h := by
  induction r generalizing c with
  | zero => exact fv_g_ifT (c := .lt) (o := 5) rfl rfl fv_j0 (fv_g_iret rfl rfl hf)
  | succ r ih =>
    obtain ⟨j1, j2⟩ := fv_jx r hr
    have hi : ∀ c2 : Int32, am_bk sc [.iinc 3 (-8)] [(3, .int (fv_j (r + 1))), (2, .int c2), (0, .long n)] [] h = some ([(3, .int (fv_j r)), (2, .int c2), (0, .long n)], [], h) := fun c2 => by rw [← j2]; rfl
    refine fv_g_ifF (c := .lt) (o := 5) (x := fv_j (r + 1)) (lv2 := [(3, .int (fv_j (r + 1))), (2, .int c), (0, .long n)]) (st2 := []) (h2 := h) rfl rfl j1 ?_
    have hb : am_bk sc [.lload 0, .iload 3, .lushr, .jsr_w 255, .land, .jsr_w 0, .lcmp] [(3, .int (fv_j (r + 1))), (2, .int c), (0, .long n)] [] h = some ([(3, .int (fv_j (r + 1))), (2, .int c), (0, .long n)], [.int (lg_cmp (fv_z n (fv_j (r + 1))) (Int64.ofInt 0))], h) := rfl
    by_cases hz : fv_z n (fv_j (r + 1)) = 0
    · have e : fv_ci n (r + 1) c = fv_ci n r c := by
        show fv_ci n r (if _ then _ else _) = _
        rw [if_pos hz]
      rw [e] at hf
      exact fv_g_ifT (c := .eq) (o := 4) rfl hb ((fv_zc _).mpr hz) (fv_g_goto (o := 1) rfl (hi c) (ih c (by omega) hf))
    · have e : fv_ci n (r + 1) c = fv_ci n r (c + Int32.ofInt 1) := by
        show fv_ci n r (if _ then _ else _) = _
        rw [if_neg hz]
      rw [e] at hf
      refine fv_g_ifF (c := .eq) (o := 4) rfl hb (fun g => hz ((fv_zc _).mp g)) ?_
      refine fv_g_nop (is := [.iinc 2 1]) (lv2 := [(2, .int (c + Int32.ofInt 1)), (3, .int (fv_j (r + 1))), (0, .long n)]) (st2 := []) (h2 := h) rfl rfl ?_
      have hi2 : am_bk sc [.iinc 3 (-8)] [(2, .int (c + Int32.ofInt 1)), (3, .int (fv_j (r + 1))), (0, .long n)] [] h = some ([(3, .int (fv_j r)), (2, .int (c + Int32.ofInt 1)), (0, .long n)], [], h) := by rw [← j2]; rfl
      exact fv_g_goto (o := 1) rfl hi2 (ih _ (by omega) hf)
theorem fv_bytesIn (hms : am_msok cds am_ms) (n : Int64) (h : am_H) : am_ca sc cds (d + 1) 197 [.long n] h (some (.int (Int32.ofNat (fv_cn n 8)))) h := by
  refine fv_ca_in hms (mx := 4) (ty := some .int) (code := am_k197) rfl rfl (Nat.le_add_left 2 2) ?_
  have e : fv_ci n 8 (Int32.ofNat 0) = Int32.ofNat (fv_cn n 8) := by rw [fv_ci_n, Nat.zero_add]
  have hb : am_bk sc [.iconst 0, .istore 2, .iconst 56, .istore 3] (lv_args 0 [.long n]) [] h = some ([(3, .int (fv_j 8)), (2, .int (Int32.ofNat 0)), (0, .long n)], [], h) := rfl
  exact fv_g_nop rfl hb (fv_bI n 8 _ (Nat.le_refl 8) ⟨by rw [e], rfl⟩)
/-- the reference's -/
theorem fv_bQ (n : Int64) (r : Nat) (c : Int32) (hr : r ≤ 8) (hf : fin (some (.int (fv_cu n r c))) h) : fv_G sc C CT am_k253 [] fin thr 1 [(3, .int (fv_q r)), (2, .int c), (0, .long n)] [] h := by
  induction r generalizing c with
  | zero =>
    refine fv_g_icT (c := .ge) (o := 6) (x := fv_q 0) (y := Int32.ofInt 8) (lv2 := [(3, .int (fv_q 0)), (2, .int c), (0, .long n)]) (st2 := []) (h2 := h) rfl rfl fv_q0 ?_
    exact fv_g_iret rfl rfl hf
  | succ r ih =>
    obtain ⟨j1, j2, j3⟩ := fv_qx1 r hr
    refine fv_g_icF (c := .ge) (o := 6) (x := fv_q (r + 1)) (y := Int32.ofInt 8) (lv2 := [(3, .int (fv_q (r + 1))), (2, .int c), (0, .long n)]) (st2 := []) (h2 := h) rfl rfl j1 ?_
    have hb : am_bk sc [.iload 2, .lload 0, .iconst 8, .iload 3, .imul, .lushr, .jsr_w 255, .land, .jsr_w 0, .lcmp] [(3, .int (fv_q (r + 1))), (2, .int c), (0, .long n)] [] h = some ([(3, .int (fv_q (r + 1))), (2, .int c), (0, .long n)], [.int (lg_cmp (fv_z n (fv_j (8 - r))) (Int64.ofInt 0)), .int c], h) := by
      rw [← j3]
      rfl
    have hi : ∀ u : Int32, am_bk sc [.iadd, .istore 2, .iinc 3 1] [(3, .int (fv_q (r + 1))), (2, .int c), (0, .long n)] [.int u, .int c] h = some ([(3, .int (fv_q r)), (2, .int (c + u)), (0, .long n)], [], h) := fun u => by rw [← j2]; rfl
    by_cases hz : fv_z n (fv_j (8 - r)) = 0
    · have e : fv_cu n (r + 1) c = fv_cu n r (c + Int32.ofInt 0) := by
        show fv_cu n r (if _ then _ else _) = _
        rw [if_pos hz]
      rw [e] at hf
      refine fv_g_ifF (c := .ne) (o := 4) rfl hb (fun g => g ((fv_zc _).mpr hz)) ?_
      refine fv_g_goto (is := [.iconst 0]) (o := 5) (lv2 := [(3, .int (fv_q (r + 1))), (2, .int c), (0, .long n)]) (st2 := [.int (Int32.ofInt 0), .int c]) (h2 := h) rfl rfl ?_
      exact fv_g_goto (o := 1) rfl (hi _) (ih _ (by omega) hf)
    · have e : fv_cu n (r + 1) c = fv_cu n r (c + Int32.ofInt 1) := by
        show fv_cu n r (if _ then _ else _) = _
        rw [if_neg hz]
      rw [e] at hf
      refine fv_g_ifT (c := .ne) (o := 4) rfl hb (fun g => hz ((fv_zc _).mp g)) ?_
      refine fv_g_nop (is := [.iconst 1]) (lv2 := [(3, .int (fv_q (r + 1))), (2, .int c), (0, .long n)]) (st2 := [.int (Int32.ofInt 1), .int c]) (h2 := h) rfl rfl ?_
      exact fv_g_goto (o := 1) rfl (hi _) (ih _ (by omega) hf)
theorem fv_bytesOf (hms : am_msok cds am_ms) (n : Int64) (h : am_H) : am_ca sc cds (d + 1) 253 [.long n] h (some (.int (Int32.ofNat (fv_cn n 8)))) h := by
  refine fv_ca_in hms (mx := 4) (ty := some .int) (code := am_k253) rfl rfl (Nat.le_add_left 2 2) ?_
  have e : fv_cu n 8 (Int32.ofNat 0) = Int32.ofNat (fv_cn n 8) := by rw [fv_cu_n, Nat.zero_add, fv_cuv]
  have hb : am_bk sc [.iconst 0, .istore 2, .iconst 0, .istore 3] (lv_args 0 [.long n]) [] h = some ([(3, .int (fv_q 8)), (2, .int (Int32.ofNat 0)), (0, .long n)], [], h) := rfl
  exact fv_g_nop rfl hb (fv_bQ n 8 _ (Nat.le_refl 8) ⟨by rw [e], rfl⟩)
end FVT
