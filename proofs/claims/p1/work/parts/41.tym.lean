variable {sc : List Int32}
/-! TYPE: the reference -/
section FVT
variable {cds : List am_Cd} {d : Nat} {fin : Option Value → am_H → Prop} {thr : Nat → am_H → Prop} {CT : am_Rt} {h : am_H} {fl : List Value}
/-- the reference's tape: the thing 976 says how many, the row is the thing 977 -/
def fv_hm (h : am_H) (fl : List Value) (q : Nat × List Value) : am_H := fv_h2 h 977 976 (100, q.2) (24, fl.set 4 (.int (Int32.ofNat q.1)))
theorem fv_ty24 : am_fty (3076 / 128) (3076 % 128) = .int := by decide +kernel
theorem fv_ty24b : am_fty (3072 / 128) (3072 % 128) = .int := by decide +kernel
/-- what is known of the reference's fields -/
def fv_fl (fl : List Value) : Prop := fl.length = 96 ∧ fl[0]? = some (.int (Int32.ofInt 0)) ∧ fl[3]? = some (.ref 977)
theorem fv_fl0 (hf : fv_fl fl) (v : Value) : (fl.set 4 v)[0]? = some (.int (Int32.ofInt 0)) := by rw [List.getElem?_set_ne (by decide), hf.2.1]
theorem fv_fl3 (hf : fv_fl fl) (v : Value) : (fl.set 4 v)[3]? = some (.ref 977) := by rw [List.getElem?_set_ne (by decide), hf.2.2]
theorem fv_fl4 (hf : fv_fl fl) (v : Value) : (fl.set 4 v)[4]? = some v := by rw [List.getElem?_set_self (by rw [hf.1]; decide)]
theorem fv_hm_b (hl : 978 ≤ h.length) (q : Nat × List Value) : (fv_hm h fl q)[976]? = some (24, fl.set 4 (.int (Int32.ofNat q.1))) := fv_h2_b (by omega)
theorem fv_hm_a (hl : 978 ≤ h.length) (q : Nat × List Value) : (fv_hm h fl q)[977]? = some (100, q.2) := fv_h2_a (by omega) (by decide)
theorem fv_putM (hf : fv_fl fl) (hl : 978 ≤ h.length) {q : Nat × List Value} (hL : q.1 < 400) (hc : q.2.length = 400) {lv : am_V} (l0 : am_ld lv 0 = some (.ref 976)) {v : Int32} (l4 : am_ld lv 4 = some (.int v)) :
    am_bk sc [.aload 0, .getfield 3075, .aload 0, .getfield 3076, .iload 4, .iastore, .aload 0, .dup, .getfield 3076, .iconst 1, .iadd, .putfield 3076] lv [] (fv_hm h fl q) = some (lv, [], fv_hm h fl (q.1 + 1, q.2.set q.1 (.int v))) := by
  obtain ⟨L, c⟩ := q
  have e1 : (fv_hm h fl (L, c))[976]? = some (24, fl.set 4 (.int (Int32.ofNat L))) := fv_hm_b hl _
  have e2 : (fv_hm h fl (L, c))[977]? = some (100, c) := fv_hm_a hl _
  have e3 : ((fv_hm h fl (L, c)).set 977 (100, c.set L (.int v)))[976]? = some (24, fl.set 4 (.int (Int32.ofNat L))) := by rw [List.getElem?_set_ne (by decide), e1]
  have e4 : ((fv_hm h fl (L, c)).set 977 (100, c.set L (.int v))).set 976 (24, fl.set 4 (.int (Int32.ofNat (L + 1)))) = fv_hm h fl (L + 1, c.set L (.int v)) := fv_h2_s (by decide)
  have e5 : Int32.ofNat L + Int32.ofInt 1 = Int32.ofNat (L + 1) := by rw [fv_i1, ← Int32.ofNat_add]
  have hL : L < 400 := hL
  have hc : c.length = 400 := hc
  have f3 := fv_fl3 hf (.int (Int32.ofNat L))
  have f4 := fv_fl4 hf (.int (Int32.ofNat L))
  have hlen : (fl.set 4 (.int (Int32.ofNat L))).length = 96 := by rw [List.length_set, hf.1]
  have a0 : ∀ (st : List Value) (H : am_H), am_i1 sc (.aload 0) lv st H = some (lv, .ref 976 :: st, H) := fun st H => by
    show (match am_ld lv 0 with
      | some v => if am_isR v = true then some (lv, v :: st, H) else none
      | none => none) = _
    rw [l0]
    rfl
  have a4 : ∀ (st : List Value) (H : am_H), am_i1 sc (.iload 4) lv st H = some (lv, .int v :: st, H) := fun st H => by
    show (match am_ld lv 4 with
      | some (.int x) => some (lv, Value.int x :: st, H)
      | _ => none) = _
    rw [l4]
  show am_bk sc _ lv [] (fv_hm h fl (L, c)) = some (lv, [], fv_hm h fl (L + 1, c.set L (.int v)))
  generalize fv_hm h fl (L, c) = H at e1 e2 e3 e4
  refine fv_bk (a0 _ _) (fv_bk (fv_gf e1 (by decide) rfl f3) (fv_bk (a0 _ _) (fv_bk (fv_gf e1 (by decide) rfl f4) (fv_bk (a4 _ _) (fv_bk (fv_is e2 (by omega) (by omega)) ?_)))))
  refine fv_bk (a0 _ _) (fv_bk (lv1 := lv) (st1 := [.ref 976, .ref 976]) rfl (fv_bk (fv_gf e3 (by decide) rfl f4) (fv_bk (lv1 := lv) (st1 := [.int (Int32.ofInt 1), .int (Int32.ofNat L), .ref 976]) rfl (fv_bk (lv1 := lv) (st1 := [.int (Int32.ofNat L + Int32.ofInt 1), .ref 976]) rfl (fv_bk (fv_pf e3 rfl (by rw [hlen]; decide) (by rw [fv_ty24]; rfl)) ?_)))))
  show some (_, _, ((H.set 977 (100, c.set L (.int v))).set 976 (24, (fl.set 4 (.int (Int32.ofNat L))).set 4 (.int (Int32.ofNat L + Int32.ofInt 1))))) = _
  rw [List.set_set, e5, e4]
theorem fv_pN {C : am_Rl} (hf0 : fv_fl fl) (hl : 978 ≤ h.length) (n : Int64) (r : Nat) (e : am_V) (he : e = [] ∨ ∃ b, e = [(4, .int b)]) (q : Nat × List Value) (hr : r ≤ 8) (hL : q.1 + r ≤ 400) (hc : q.2.length = 400) (hf : fin none (fv_hm h fl (fv_tp n r q))) :
    fv_G sc C CT am_k254 [] fin thr 1 ((3, .int (fv_i r)) :: (e ++ [(0, .ref 976), (1, .long n)])) [] (fv_hm h fl q) := by
  induction r generalizing e q with
  | zero =>
    refine fv_g_ifT (c := .lt) (o := 5) (x := fv_i 0) (lv2 := (3, .int (fv_i 0)) :: (e ++ [(0, .ref 976), (1, .long n)])) (st2 := []) (h2 := fv_hm h fl q) rfl rfl fv_i0 ?_
    exact fv_g_ret rfl rfl hf
  | succ r ih =>
    obtain ⟨j1, j2, j3⟩ := fv_ix1 r hr
    refine fv_g_ifF (c := .lt) (o := 5) (x := fv_i (r + 1)) (lv2 := (3, .int (fv_i (r + 1))) :: (e ++ [(0, .ref 976), (1, .long n)])) (st2 := []) (h2 := fv_hm h fl q) rfl rfl j1 ?_
    have hb : am_bk sc [.lload 1, .iconst 8, .iload 3, .imul, .lushr, .jsr_w 255, .land, .l2i, .istore 4, .iload 4] ((3, .int (fv_i (r + 1))) :: (e ++ [(0, .ref 976), (1, .long n)])) [] (fv_hm h fl q) = some ([(4, .int (fv_z n (fv_j (r + 1))).toInt32), (3, .int (fv_i (r + 1))), (0, .ref 976), (1, .long n)], [.int (fv_z n (fv_j (r + 1))).toInt32], fv_hm h fl q) := by
      rw [← j3]
      rcases he with rfl | ⟨b, rfl⟩ <;> rfl
    have hi : ∀ H : am_H, am_bk sc [.iinc 3 (-1)] [(4, .int (fv_z n (fv_j (r + 1))).toInt32), (3, .int (fv_i (r + 1))), (0, .ref 976), (1, .long n)] [] H = some ((3, .int (fv_i r)) :: ([(4, .int (fv_z n (fv_j (r + 1))).toInt32)] ++ [(0, .ref 976), (1, .long n)]), [], H) := fun H => by rw [← j2]; rfl
    by_cases hz : fv_z n (fv_j (r + 1)) = 0
    · have e1 : fv_tp n (r + 1) q = fv_tp n r q := by
        show fv_tp n r (if _ then _ else _) = _
        rw [if_pos hz]
      rw [e1] at hf
      exact fv_g_ifT (c := .eq) (o := 4) rfl hb (fv_zz.mpr hz) (fv_g_goto (o := 1) rfl (hi _) (ih _ (Or.inr ⟨_, rfl⟩) q (by omega) (by omega) hc hf))
    · have e1 : fv_tp n (r + 1) q = fv_tp n r (q.1 + 1, q.2.set q.1 (.int (fv_z n (fv_j (r + 1))).toInt32)) := by
        show fv_tp n r (if _ then _ else _) = _
        rw [if_neg hz]
      rw [e1] at hf
      refine fv_g_ifF (c := .eq) (o := 4) rfl hb (fun g => hz (fv_zz.mp g)) ?_
      generalize (fv_z n (fv_j (r + 1))).toInt32 = b at hi hf ⊢
      refine fv_g_nop rfl (fv_putM hf0 hl (q := q) (by omega) hc rfl rfl) ?_
      exact fv_g_goto (o := 1) rfl (hi _) (ih _ (Or.inr ⟨_, rfl⟩) _ (by omega) (by show q.1 + 1 + r ≤ 400; omega) (by show (q.2.set _ _).length = 400; rw [List.length_set]; exact hc) hf)
theorem fv_putsM (hms : am_msok cds am_ms) (hf0 : fv_fl fl) (hl : 978 ≤ h.length) (n : Int64) (q : Nat × List Value) (hL : q.1 + 8 ≤ 400) (hc : q.2.length = 400) : am_ca sc cds (d + 1) 254 [.ref 976, .long n] (fv_hm h fl q) none (fv_hm h fl (fv_tp n 8 q)) := by
  refine fv_ca_in hms (mx := 5) (ty := none) (code := am_k254) rfl rfl (Nat.le_add_left 3 2) ?_
  have hb : am_bk sc [.iconst 7, .istore 3] (lv_args 0 [.ref 976, .long n]) [] (fv_hm h fl q) = some ((3, .int (fv_i 8)) :: ([] ++ [(0, .ref 976), (1, .long n)]), [], fv_hm h fl q) := rfl
  exact fv_g_nop rfl hb (fv_pN hf0 hl n 8 [] (Or.inl rfl) q (Nat.le_refl 8) hL hc ⟨rfl, rfl⟩)
theorem fv_fine (hms : am_msok cds am_ms) (hf0 : fv_fl fl) (hl : 978 ≤ h.length) (q : Nat × List Value) : am_ca sc cds (d + 1) 247 [.ref 976, .int (Int32.ofInt 1)] (fv_hm h fl q) (some (.int (Int32.ofInt 1))) (fv_hm h fl q) := by
  have e1 := fv_hm_b (fl := fl) hl q
  have f0 := fv_fl0 hf0 (.int (Int32.ofNat q.1))
  have hlen : (fl.set 4 (.int (Int32.ofNat q.1))).length = 96 := by rw [List.length_set, hf0.1]
  refine fv_ca_in hms (mx := 2) (ty := some .boolean) (code := am_k247) rfl (by decide) (Nat.le_refl 2) ?_
  generalize fv_hm h fl q = H at e1
  refine fv_g_ifF (is := [.aload 0, .iload 1]) (c := .eq) (o := 2) (x := Int32.ofInt 1) (lv2 := [(0, .ref 976), (1, .int (Int32.ofInt 1))]) (st2 := [.ref 976]) (h2 := H) rfl rfl (show ¬ Int32.ofInt 1 = 0 by decide) ?_
  refine fv_g_goto (is := [.iconst 0]) (o := 3) (lv2 := [(0, .ref 976), (1, .int (Int32.ofInt 1))]) (st2 := [.int (Int32.ofInt 0), .ref 976]) (h2 := H) rfl rfl ?_
  have hb : am_bk sc [.putfield 3072, .iload 1] [(0, .ref 976), (1, .int (Int32.ofInt 1))] [.int (Int32.ofInt 0), .ref 976] H = some ([(0, .ref 976), (1, .int (Int32.ofInt 1))], [.int (Int32.ofInt 1)], H) := by
    refine fv_bk (fv_pf e1 rfl (by rw [hlen]; decide) (by rw [fv_ty24b]; rfl)) ?_
    rw [show (fl.set 4 (.int (Int32.ofNat q.1))).set (3072 % 128) (.int (Int32.ofInt 0)) = fl.set 4 (.int (Int32.ofNat q.1)) from fv_set_self f0, fv_set_self e1]
    rfl
  exact fv_g_iret rfl hb ⟨rfl, rfl⟩
theorem fv_typeM (hms : am_msok cds am_ms) (hf0 : fv_fl fl) (hl : 978 ≤ h.length) (a b c e f g : Int64) (z : List Value) (hz : z.length = 400) :
    am_ca sc cds (d + 2) 255 [.ref 976, .long a, .long b, .long c, .long e, .long f, .long g] (fv_hm h fl (0, z)) (some (.int (Int32.ofNat (fv_n6 a b c e f g)))) (fv_hm h fl (fv_t6 a b c e f g z)) := by
  have l1 := fv_cn_le a 8
  have l2 := fv_cn_le b 8
  have l3 := fv_cn_le c 8
  have l4 := fv_cn_le e 8
  have l5 := fv_cn_le f 8
  have l6 := fv_cn_le g 8
  have g1 : ∀ q, (fv_hm h fl q)[976]? = some (24, fl.set 4 (.int (Int32.ofNat q.1))) := fun q => fv_hm_b hl q
  have r0 : ∀ q (v : Value), am_rcv 24 [.ref 976, v] (fv_hm h fl q) = true := fun q v => by
    unfold am_rcv
    simp only [g1]
    rfl
  refine fv_ca_in hms (mx := 14) (ty := some .int) (code := am_k255) rfl rfl (Nat.le_add_left 13 1) ?_
  show fv_G sc _ _ am_k255 [] _ _ 0 [(0, .ref 976), (1, .long a), (3, .long b), (5, .long c), (7, .long e), (9, .long f), (11, .long g)] [] (fv_hm h fl (0, z))
  refine fv_g_call (is := [.lload 1]) (y := 253) (n := 1) (lv2 := [(0, .ref 976), (1, .long a), (3, .long b), (5, .long c), (7, .long e), (9, .long f), (11, .long g)]) (st2 := [.long a]) (h2 := fv_hm h fl (0, z)) (v := some (.int (Int32.ofNat (fv_cn a 8)))) rfl rfl (Nat.le_add_left 1 _) (Nat.zero_le 8) (Or.inl rfl) (fv_bytesOf hms a _) ?_
  refine fv_g_call (is := [.lload 3]) (y := 253) (n := 1) (lv2 := [(0, .ref 976), (1, .long a), (3, .long b), (5, .long c), (7, .long e), (9, .long f), (11, .long g)]) (st2 := [.long b, .int (Int32.ofNat (fv_cn a 8))]) (h2 := fv_hm h fl (0, z)) (v := some (.int (Int32.ofNat (fv_cn b 8)))) rfl rfl (Nat.le_add_left 1 _) (Nat.le_add_left 1 7) (Or.inl rfl) (fv_bytesOf hms b _) ?_
  refine fv_g_call (is := [.iadd, .lload 5]) (y := 253) (n := 1) (lv2 := [(0, .ref 976), (1, .long a), (3, .long b), (5, .long c), (7, .long e), (9, .long f), (11, .long g)]) (st2 := [.long c, .int ((Int32.ofNat (fv_cn a 8) + Int32.ofNat (fv_cn b 8)))]) (h2 := fv_hm h fl (0, z)) (v := some (.int (Int32.ofNat (fv_cn c 8)))) rfl rfl (Nat.le_add_left 1 _) (Nat.le_add_left 1 7) (Or.inl rfl) (fv_bytesOf hms c _) ?_
  refine fv_g_call (is := [.iadd, .lload 7]) (y := 253) (n := 1) (lv2 := [(0, .ref 976), (1, .long a), (3, .long b), (5, .long c), (7, .long e), (9, .long f), (11, .long g)]) (st2 := [.long e, .int (((Int32.ofNat (fv_cn a 8) + Int32.ofNat (fv_cn b 8)) + Int32.ofNat (fv_cn c 8)))]) (h2 := fv_hm h fl (0, z)) (v := some (.int (Int32.ofNat (fv_cn e 8)))) rfl rfl (Nat.le_add_left 1 _) (Nat.le_add_left 1 7) (Or.inl rfl) (fv_bytesOf hms e _) ?_
  refine fv_g_call (is := [.iadd, .lload 9]) (y := 253) (n := 1) (lv2 := [(0, .ref 976), (1, .long a), (3, .long b), (5, .long c), (7, .long e), (9, .long f), (11, .long g)]) (st2 := [.long f, .int ((((Int32.ofNat (fv_cn a 8) + Int32.ofNat (fv_cn b 8)) + Int32.ofNat (fv_cn c 8)) + Int32.ofNat (fv_cn e 8)))]) (h2 := fv_hm h fl (0, z)) (v := some (.int (Int32.ofNat (fv_cn f 8)))) rfl rfl (Nat.le_add_left 1 _) (Nat.le_add_left 1 7) (Or.inl rfl) (fv_bytesOf hms f _) ?_
  refine fv_g_call (is := [.iadd, .lload 11]) (y := 253) (n := 1) (lv2 := [(0, .ref 976), (1, .long a), (3, .long b), (5, .long c), (7, .long e), (9, .long f), (11, .long g)]) (st2 := [.long g, .int (((((Int32.ofNat (fv_cn a 8) + Int32.ofNat (fv_cn b 8)) + Int32.ofNat (fv_cn c 8)) + Int32.ofNat (fv_cn e 8)) + Int32.ofNat (fv_cn f 8)))]) (h2 := fv_hm h fl (0, z)) (v := some (.int (Int32.ofNat (fv_cn g 8)))) rfl rfl (Nat.le_add_left 1 _) (Nat.le_add_left 1 7) (Or.inl rfl) (fv_bytesOf hms g _) ?_
  have hb6 : am_bk sc [.iadd, .istore 13, .aload 0, .aload 0, .getfield 3076, .iload 13, .iadd, .iconst 400] [(0, .ref 976), (1, .long a), (3, .long b), (5, .long c), (7, .long e), (9, .long f), (11, .long g)] [.int (Int32.ofNat (fv_cn g 8)), .int (((((Int32.ofNat (fv_cn a 8) + Int32.ofNat (fv_cn b 8)) + Int32.ofNat (fv_cn c 8)) + Int32.ofNat (fv_cn e 8)) + Int32.ofNat (fv_cn f 8)))] (fv_hm h fl (0, z)) = some ([(13, .int ((((((Int32.ofNat (fv_cn a 8) + Int32.ofNat (fv_cn b 8)) + Int32.ofNat (fv_cn c 8)) + Int32.ofNat (fv_cn e 8)) + Int32.ofNat (fv_cn f 8)) + Int32.ofNat (fv_cn g 8)))), (0, .ref 976), (1, .long a), (3, .long b), (5, .long c), (7, .long e), (9, .long f), (11, .long g)], [.int (Int32.ofInt 400), .int (Int32.ofNat 0 + (((((Int32.ofNat (fv_cn a 8) + Int32.ofNat (fv_cn b 8)) + Int32.ofNat (fv_cn c 8)) + Int32.ofNat (fv_cn e 8)) + Int32.ofNat (fv_cn f 8)) + Int32.ofNat (fv_cn g 8))), .ref 976], fv_hm h fl (0, z)) :=
    fv_bk (lv1 := [(0, .ref 976), (1, .long a), (3, .long b), (5, .long c), (7, .long e), (9, .long f), (11, .long g)]) (st1 := [.int ((((((Int32.ofNat (fv_cn a 8) + Int32.ofNat (fv_cn b 8)) + Int32.ofNat (fv_cn c 8)) + Int32.ofNat (fv_cn e 8)) + Int32.ofNat (fv_cn f 8)) + Int32.ofNat (fv_cn g 8)))]) rfl (fv_bk (lv1 := [(13, .int ((((((Int32.ofNat (fv_cn a 8) + Int32.ofNat (fv_cn b 8)) + Int32.ofNat (fv_cn c 8)) + Int32.ofNat (fv_cn e 8)) + Int32.ofNat (fv_cn f 8)) + Int32.ofNat (fv_cn g 8)))), (0, .ref 976), (1, .long a), (3, .long b), (5, .long c), (7, .long e), (9, .long f), (11, .long g)]) (st1 := []) rfl (fv_bk (lv1 := [(13, .int ((((((Int32.ofNat (fv_cn a 8) + Int32.ofNat (fv_cn b 8)) + Int32.ofNat (fv_cn c 8)) + Int32.ofNat (fv_cn e 8)) + Int32.ofNat (fv_cn f 8)) + Int32.ofNat (fv_cn g 8)))), (0, .ref 976), (1, .long a), (3, .long b), (5, .long c), (7, .long e), (9, .long f), (11, .long g)]) (st1 := [.ref 976]) rfl (fv_bk (lv1 := [(13, .int ((((((Int32.ofNat (fv_cn a 8) + Int32.ofNat (fv_cn b 8)) + Int32.ofNat (fv_cn c 8)) + Int32.ofNat (fv_cn e 8)) + Int32.ofNat (fv_cn f 8)) + Int32.ofNat (fv_cn g 8)))), (0, .ref 976), (1, .long a), (3, .long b), (5, .long c), (7, .long e), (9, .long f), (11, .long g)]) (st1 := [.ref 976, .ref 976]) rfl (fv_bk (fv_gf (g1 _) (by decide) rfl (fv_fl4 hf0 _)) rfl))))
  rw [fv_sum6] at hb6
  refine fv_g_icF (c := .gt) (o := 8) rfl hb6 ?_ ?_
  · rw [← Int32.ofNat_add, Nat.zero_add, show Int32.ofInt 400 = Int32.ofNat 400 by decide]
    have := fv_n6_le a b c e f g
    exact Int32.not_lt.mpr (fv_le32 (by omega) (by decide) (by omega))
  refine fv_g_goto (is := [.iconst 1]) (o := 9) (lv2 := [(13, .int (Int32.ofNat (fv_n6 a b c e f g))), (0, .ref 976), (1, .long a), (3, .long b), (5, .long c), (7, .long e), (9, .long f), (11, .long g)]) (st2 := [.int (Int32.ofInt 1), .ref 976]) (h2 := fv_hm h fl (0, z)) rfl rfl ?_
  refine fv_g_call (is := []) (y := 247) (n := 1538) (lv2 := [(13, .int (Int32.ofNat (fv_n6 a b c e f g))), (0, .ref 976), (1, .long a), (3, .long b), (5, .long c), (7, .long e), (9, .long f), (11, .long g)]) (st2 := [.int (Int32.ofInt 1), .ref 976]) (h2 := fv_hm h fl (0, z)) (v := some (.int (Int32.ofInt 1))) rfl rfl (Nat.le_refl 2) (Nat.zero_le 8) (Or.inr (r0 _ _)) (fv_fine hms hf0 hl _) ?_
  refine fv_g_ifT (is := []) (c := .ne) (o := 12) (x := Int32.ofInt 1) (lv2 := [(13, .int (Int32.ofNat (fv_n6 a b c e f g))), (0, .ref 976), (1, .long a), (3, .long b), (5, .long c), (7, .long e), (9, .long f), (11, .long g)]) (st2 := []) (h2 := fv_hm h fl (0, z)) rfl rfl (show ¬ Int32.ofInt 1 = 0 by decide) ?_
  refine fv_g_call (is := [.aload 0, .lload 1]) (y := 254) (n := 1538) (lv2 := [(13, .int (Int32.ofNat (fv_n6 a b c e f g))), (0, .ref 976), (1, .long a), (3, .long b), (5, .long c), (7, .long e), (9, .long f), (11, .long g)]) (st2 := [.long a, .ref 976]) (h2 := fv_hm h fl (0, z)) (v := none) rfl rfl (Nat.le_refl 2) (Nat.zero_le 8) (Or.inr (r0 _ _)) (fv_putsM hms hf0 hl a (0, z) (by simp only [fv_tp1]; omega) (by simp only [fv_tp2]; exact hz)) ?_
  refine fv_g_call (is := [.aload 0, .lload 3]) (y := 254) (n := 1538) (lv2 := [(13, .int (Int32.ofNat (fv_n6 a b c e f g))), (0, .ref 976), (1, .long a), (3, .long b), (5, .long c), (7, .long e), (9, .long f), (11, .long g)]) (st2 := [.long b, .ref 976]) (h2 := fv_hm h fl (fv_tp a 8 (0, z))) (v := none) rfl rfl (Nat.le_refl 2) (Nat.zero_le 8) (Or.inr (r0 _ _)) (fv_putsM hms hf0 hl b (fv_tp a 8 (0, z)) (by simp only [fv_tp1]; omega) (by simp only [fv_tp2]; exact hz)) ?_
  refine fv_g_call (is := [.aload 0, .lload 5]) (y := 254) (n := 1538) (lv2 := [(13, .int (Int32.ofNat (fv_n6 a b c e f g))), (0, .ref 976), (1, .long a), (3, .long b), (5, .long c), (7, .long e), (9, .long f), (11, .long g)]) (st2 := [.long c, .ref 976]) (h2 := fv_hm h fl (fv_tp b 8 (fv_tp a 8 (0, z)))) (v := none) rfl rfl (Nat.le_refl 2) (Nat.zero_le 8) (Or.inr (r0 _ _)) (fv_putsM hms hf0 hl c (fv_tp b 8 (fv_tp a 8 (0, z))) (by simp only [fv_tp1]; omega) (by simp only [fv_tp2]; exact hz)) ?_
  refine fv_g_call (is := [.aload 0, .lload 7]) (y := 254) (n := 1538) (lv2 := [(13, .int (Int32.ofNat (fv_n6 a b c e f g))), (0, .ref 976), (1, .long a), (3, .long b), (5, .long c), (7, .long e), (9, .long f), (11, .long g)]) (st2 := [.long e, .ref 976]) (h2 := fv_hm h fl (fv_tp c 8 (fv_tp b 8 (fv_tp a 8 (0, z))))) (v := none) rfl rfl (Nat.le_refl 2) (Nat.zero_le 8) (Or.inr (r0 _ _)) (fv_putsM hms hf0 hl e (fv_tp c 8 (fv_tp b 8 (fv_tp a 8 (0, z)))) (by simp only [fv_tp1]; omega) (by simp only [fv_tp2]; exact hz)) ?_
  refine fv_g_call (is := [.aload 0, .lload 9]) (y := 254) (n := 1538) (lv2 := [(13, .int (Int32.ofNat (fv_n6 a b c e f g))), (0, .ref 976), (1, .long a), (3, .long b), (5, .long c), (7, .long e), (9, .long f), (11, .long g)]) (st2 := [.long f, .ref 976]) (h2 := fv_hm h fl (fv_tp e 8 (fv_tp c 8 (fv_tp b 8 (fv_tp a 8 (0, z)))))) (v := none) rfl rfl (Nat.le_refl 2) (Nat.zero_le 8) (Or.inr (r0 _ _)) (fv_putsM hms hf0 hl f (fv_tp e 8 (fv_tp c 8 (fv_tp b 8 (fv_tp a 8 (0, z))))) (by simp only [fv_tp1]; omega) (by simp only [fv_tp2]; exact hz)) ?_
  refine fv_g_call (is := [.aload 0, .lload 11]) (y := 254) (n := 1538) (lv2 := [(13, .int (Int32.ofNat (fv_n6 a b c e f g))), (0, .ref 976), (1, .long a), (3, .long b), (5, .long c), (7, .long e), (9, .long f), (11, .long g)]) (st2 := [.long g, .ref 976]) (h2 := fv_hm h fl (fv_tp f 8 (fv_tp e 8 (fv_tp c 8 (fv_tp b 8 (fv_tp a 8 (0, z))))))) (v := none) rfl rfl (Nat.le_refl 2) (Nat.zero_le 8) (Or.inr (r0 _ _)) (fv_putsM hms hf0 hl g (fv_tp f 8 (fv_tp e 8 (fv_tp c 8 (fv_tp b 8 (fv_tp a 8 (0, z)))))) (by simp only [fv_tp1]; omega) (by simp only [fv_tp2]; exact hz)) ?_
  have hb18 : am_bk sc [.aload 0, .getfield 3076] [(13, .int (Int32.ofNat (fv_n6 a b c e f g))), (0, .ref 976), (1, .long a), (3, .long b), (5, .long c), (7, .long e), (9, .long f), (11, .long g)] [] (fv_hm h fl (fv_t6 a b c e f g z)) = some ([(13, .int (Int32.ofNat (fv_n6 a b c e f g))), (0, .ref 976), (1, .long a), (3, .long b), (5, .long c), (7, .long e), (9, .long f), (11, .long g)], [.int (Int32.ofNat (fv_n6 a b c e f g))], fv_hm h fl (fv_t6 a b c e f g z)) := by
    refine fv_bk (lv1 := [(13, .int (Int32.ofNat (fv_n6 a b c e f g))), (0, .ref 976), (1, .long a), (3, .long b), (5, .long c), (7, .long e), (9, .long f), (11, .long g)]) (st1 := [.ref 976]) rfl (fv_bk (fv_gf (g1 _) (by decide) rfl (fv_fl4 hf0 _)) ?_)
    rw [fv_t61]
    rfl
  exact fv_g_iret rfl hb18 ⟨rfl, rfl⟩
end FVT
