variable {sc : List Int32}
/-! TYPE: rows of the heap, by hand -/
theorem fv_bk {a : Instr} {r : List Instr} {lv lv1 : am_V} {st st1 : List Value} {h h1 : am_H} {x : am_S} (e : am_i1 sc a lv st h = some (lv1, st1, h1)) (k : am_bk sc r lv1 st1 h1 = some x) : am_bk sc (a :: r) lv st h = some x := by
  unfold am_bk
  rw [e]
  exact k
theorem fv_gf {f a ci : Nat} {o : List Value} {v : Value} {lv : am_V} {r : List Value} {h : am_H} (e : h[a]? = some (ci, o)) (h1 : 3 ≤ f / 128) (h2 : ci = f / 128) (hv : o[f % 128]? = some v) : am_i1 sc (.getfield f) lv (.ref a :: r) h = some (lv, v :: r, h) := by
  have q : am_get f h (.ref a :: r) = some (v :: r) := by
    unfold am_get
    simp only [e, h1, h2, hv, and_self, if_true]
  show am_st lv h (am_get f h (.ref a :: r)) = _
  rw [q]
  rfl
theorem fv_pf {f a ci : Nat} {o : List Value} {v : Value} {lv : am_V} {r : List Value} {h : am_H} (e : h[a]? = some (ci, o)) (h1 : ci = f / 128) (h2 : f % 128 < o.length) (hv : am_ok (am_fty (f / 128) (f % 128)) v = true) : am_i1 sc (.putfield f) lv (v :: .ref a :: r) h = some (lv, r, h.set a (ci, o.set (f % 128) v)) := by
  have q : am_put f h (v :: .ref a :: r) = some (r, h.set a (ci, o.set (f % 128) v)) := by
    unfold am_put
    simp only [e]
    rw [if_pos ⟨h1, h2, hv⟩]
  show am_sh lv (am_put f h (v :: .ref a :: r)) = _
  rw [q]
  rfl
theorem fv_al {a k : Nat} {o : List Value} {lv : am_V} {r : List Value} {h : am_H} (e : h[a]? = some (k, o)) (h1 : 100 ≤ k) (h2 : k ≠ 199) : am_i1 sc .arraylength lv (.ref a :: r) h = some (lv, .int (Int32.ofNat o.length) :: r, h) := by
  have q : am_alen sc h (.ref a :: r) = some (.int (Int32.ofNat o.length) :: r) := by
    unfold am_alen
    simp only [e]
    rw [if_pos ⟨h1, h2⟩]
  show am_st lv h (am_alen sc h (.ref a :: r)) = _
  rw [q]
  rfl
theorem fv_is {a i : Nat} {o : List Value} {v : Int32} {lv : am_V} {r : List Value} {h : am_H} (e : h[a]? = some (100, o)) (h1 : i < o.length) (h2 : o.length ≤ 1000000) : am_i1 sc .iastore lv (.int v :: .int (Int32.ofNat i) :: .ref a :: r) h = some (lv, r, h.set a (100, o.set i (.int v))) := by
  have q : am_gst am_kI h (.int v :: .int (Int32.ofNat i) :: .ref a :: r) = some (r, h.set a (100, o.set i (.int v))) := by
    unfold am_gst
    simp only [e, fv_ix h1 h2]
    rfl
  show am_sh lv (am_gst am_kI h (.int v :: .int (Int32.ofNat i) :: .ref a :: r)) = _
  rw [q]
  rfl
theorem fv_set_self {α : Type} {l : List α} {i : Nat} {a : α} (h : l[i]? = some a) : l.set i a = l := by
  apply List.ext_getElem?
  intro j
  by_cases z : i = j
  · subst z
    rw [List.getElem?_set_self (List.getElem?_eq_some_iff.mp h).1, h]
  · rw [List.getElem?_set_ne z]
theorem fv_le32 {a b : Nat} (ha : a < 2147483648) (hb : b < 2147483648) (h : a ≤ b) : Int32.ofNat a ≤ Int32.ofNat b := Int32.not_lt.mp (fun z => by
  rw [← fv_of_lt_iff, fv_of_nat, fv_of_nat] at z
  omega)
/-- two things of a heap, set -/
def fv_h2 (h : am_H) (a b : Nat) (x y : am_O) : am_H := (h.set a x).set b y
theorem fv_h2_o {h : am_H} {a b j : Nat} {x y : am_O} (ha : ¬ a = j) (hb : ¬ b = j) : (fv_h2 h a b x y)[j]? = h[j]? := by
  unfold fv_h2
  rw [List.getElem?_set_ne hb, List.getElem?_set_ne ha]
theorem fv_h2_b {h : am_H} {a b : Nat} {x y : am_O} (hl : b < h.length) : (fv_h2 h a b x y)[b]? = some y := by
  unfold fv_h2
  rw [List.getElem?_set_self (by rw [List.length_set]; exact hl)]
theorem fv_h2_a {h : am_H} {a b : Nat} {x y : am_O} (hl : a < h.length) (hab : ¬ b = a) : (fv_h2 h a b x y)[a]? = some x := by
  unfold fv_h2
  rw [List.getElem?_set_ne hab, List.getElem?_set_self hl]
theorem fv_h2_s {h : am_H} {a b : Nat} {x y x' y' : am_O} (hab : ¬ b = a) : ((fv_h2 h a b x y).set a x').set b y' = fv_h2 h a b x' y' := by
  unfold fv_h2
  rw [List.set_comm _ _ hab, List.set_set, List.set_set]
theorem fv_h2_l (h : am_H) (a b : Nat) (x y : am_O) : (fv_h2 h a b x y).length = h.length := by
  unfold fv_h2
  rw [List.length_set, List.length_set]
/-- what is typed: how many, and the row -/
def fv_tp (n : Int64) : Nat → Nat × List Value → Nat × List Value
  | 0, q => q
  | r + 1, q => fv_tp n r (if fv_z n (fv_j (r + 1)) = 0 then q else (q.1 + 1, q.2.set q.1 (.int (fv_z n (fv_j (r + 1))).toInt32)))
theorem fv_tp1 (n : Int64) (r : Nat) (q : Nat × List Value) : (fv_tp n r q).1 = q.1 + fv_cn n r := by
  induction r generalizing q with
  | zero => rfl
  | succ r ih =>
    unfold fv_tp fv_cn fv_nz
    rw [ih]
    by_cases hz : fv_z n (fv_j (r + 1)) = 0
    · rw [if_pos hz, if_pos hz, Nat.zero_add]
    · rw [if_neg hz, if_neg hz]
      show q.1 + 1 + fv_cn n r = _
      omega
theorem fv_tp2 (n : Int64) (r : Nat) (q : Nat × List Value) : (fv_tp n r q).2.length = q.2.length := by
  induction r generalizing q with
  | zero => rfl
  | succ r ih =>
    unfold fv_tp
    rw [ih]
    by_cases hz : fv_z n (fv_j (r + 1)) = 0
    · rw [if_pos hz]
    · rw [if_neg hz]
      exact List.length_set
/-- all are ints, and beyond m they are 0 -/
def fv_zs (m : Nat) (c : List Value) : Prop := ∀ i v, c[i]? = some v → ∃ x, v = .int x ∧ (m ≤ i → x = Int32.ofNat 0)
theorem fv_tp3 (n : Int64) (r m : Nat) (q : Nat × List Value) (hm : q.1 + r ≤ m) (hq : fv_zs m q.2) : fv_zs m (fv_tp n r q).2 := by
  induction r generalizing q with
  | zero => exact hq
  | succ r ih =>
    unfold fv_tp
    by_cases hz : fv_z n (fv_j (r + 1)) = 0
    · rw [if_pos hz]
      exact ih q (by omega) hq
    · rw [if_neg hz]
      refine ih _ (by show q.1 + 1 + r ≤ m; omega) ?_
      intro i v hv
      by_cases z : q.1 = i
      · subst z
        by_cases hl : q.1 < q.2.length
        · rw [List.getElem?_set_self hl] at hv
          cases hv
          exact ⟨_, rfl, fun g => by omega⟩
        · rw [List.getElem?_eq_none (by rw [List.length_set]; omega)] at hv
          cases hv
      · rw [List.getElem?_set_ne z] at hv
        exact hq i v hv
section FVT
variable {cds : List am_Cd} {d : Nat} {fin : Option Value → am_H → Prop} {thr : Nat → am_H → Prop} {CT : am_Rt} {h : am_H}
/-- the class's tape: the thing 1, its row the thing 2 -/
def fv_hx (h : am_H) (q : Nat × List Value) : am_H := fv_h2 h 2 1 (100, q.2) (11, [.ref 2, .int (Int32.ofNat q.1)])
theorem fv_ty11 : am_fty (1409 / 128) (1409 % 128) = .int := by decide +kernel
theorem fv_add (hms : am_msok cds am_ms) (hl : 3 ≤ h.length) {q : Nat × List Value} (hL : q.1 < 400) (hc : q.2.length = 400) (v : Int32) : am_ca sc cds (d + 1) 109 [.ref 1, .int v] (fv_hx h q) none (fv_hx h (q.1 + 1, q.2.set q.1 (.int v))) := by
  obtain ⟨L, c⟩ := q
  have e1 : (fv_hx h (L, c))[1]? = some (11, [.ref 2, .int (Int32.ofNat L)]) := fv_h2_b (by omega)
  have e2 : (fv_hx h (L, c))[2]? = some (100, c) := fv_h2_a (by omega) (by decide)
  have e3 : ((fv_hx h (L, c)).set 2 (100, c.set L (.int v)))[1]? = some (11, [.ref 2, .int (Int32.ofNat L)]) := by rw [List.getElem?_set_ne (by decide), e1]
  have e4 : ((fv_hx h (L, c)).set 2 (100, c.set L (.int v))).set 1 (11, [.ref 2, .int (Int32.ofNat (L + 1))]) = fv_hx h (L + 1, c.set L (.int v)) := fv_h2_s (by decide)
  have e5 : Int32.ofNat L + Int32.ofInt 1 = Int32.ofNat (L + 1) := by rw [fv_i1, ← Int32.ofNat_add]
  have hL : L < 400 := hL
  have hc : c.length = 400 := hc
  refine fv_ca_in hms (mx := 2) (ty := none) (code := am_k109) rfl rfl (Nat.le_refl 2) ?_
  generalize fv_hx h (L, c) = H at e1 e2 e3 e4
  have b0 : am_bk sc [.aload 0, .getfield 1409, .aload 0, .getfield 1408, .arraylength] [(0, .ref 1), (1, .int v)] [] H = some ([(0, .ref 1), (1, .int v)], [.int (Int32.ofNat c.length), .int (Int32.ofNat L)], H) :=
    fv_bk (lv1 := [(0, .ref 1), (1, .int v)]) (st1 := [.ref 1]) rfl (fv_bk (fv_gf e1 (by decide) rfl rfl) (fv_bk (lv1 := [(0, .ref 1), (1, .int v)]) (st1 := [.ref 1, .int (Int32.ofNat L)]) rfl (fv_bk (fv_gf e1 (by decide) rfl rfl) (fv_bk (fv_al e2 (by decide) (by decide)) rfl))))
  have b3 : am_bk sc [.aload 0, .getfield 1408, .aload 0, .getfield 1409, .iload 1, .iastore, .aload 0, .dup, .getfield 1409, .iconst 1, .iadd, .putfield 1409] [(0, .ref 1), (1, .int v)] [] H = some ([(0, .ref 1), (1, .int v)], [], fv_hx h (L + 1, c.set L (.int v))) := by
    refine fv_bk (lv1 := [(0, .ref 1), (1, .int v)]) (st1 := [.ref 1]) rfl (fv_bk (fv_gf e1 (by decide) rfl rfl) (fv_bk (lv1 := [(0, .ref 1), (1, .int v)]) (st1 := [.ref 1, .ref 2]) rfl (fv_bk (fv_gf e1 (by decide) rfl rfl) (fv_bk (lv1 := [(0, .ref 1), (1, .int v)]) (st1 := [.int v, .int (Int32.ofNat L), .ref 2]) rfl (fv_bk (fv_is e2 (by omega) (by omega)) ?_)))))
    refine fv_bk (lv1 := [(0, .ref 1), (1, .int v)]) (st1 := [.ref 1]) rfl (fv_bk (lv1 := [(0, .ref 1), (1, .int v)]) (st1 := [.ref 1, .ref 1]) rfl (fv_bk (fv_gf e3 (by decide) rfl rfl) (fv_bk (lv1 := [(0, .ref 1), (1, .int v)]) (st1 := [.int (Int32.ofInt 1), .int (Int32.ofNat L), .ref 1]) rfl (fv_bk (lv1 := [(0, .ref 1), (1, .int v)]) (st1 := [.int (Int32.ofNat L + Int32.ofInt 1), .ref 1]) rfl (fv_bk (fv_pf e3 rfl (Nat.le_refl 2) (by rw [fv_ty11]; rfl)) ?_)))))
    show some (_, _, ((H.set 2 (100, c.set L (.int v))).set 1 (11, [.ref 2, .int (Int32.ofNat L + Int32.ofInt 1)]))) = _
    rw [e5, e4]
  refine fv_g_icT (c := .lt) (o := 3) rfl b0 ?_ ?_
  · rw [hc]
    exact fv_lt32 (by decide) hL
  · exact fv_g_ret rfl b3 ⟨rfl, rfl⟩
theorem fv_tN (hms : am_msok cds am_ms) (hl : 3 ≤ h.length) {o0 : List Value} (h0 : h[0]? = some (15, o0)) (ho : o0[0]? = some (.ref 1)) (n : Int64) (r : Nat) (e : am_V) (he : e = [] ∨ ∃ b, e = [(4, .int b)]) (q : Nat × List Value) (hr : r ≤ 8) (hL : q.1 + r ≤ 400) (hc : q.2.length = 400) (hf : fin none (fv_hx h (fv_tp n r q))) :
    fv_G sc (am_ca sc cds (d + 1)) CT am_k198 [] fin thr 1 ((3, .int (fv_j r)) :: (e ++ [(0, .ref 0), (1, .long n)])) [] (fv_hx h q) := by
  induction r generalizing e q with
  | zero =>
    refine fv_g_ifT (c := .lt) (o := 5) (x := fv_j 0) (lv2 := (3, .int (fv_j 0)) :: (e ++ [(0, .ref 0), (1, .long n)])) (st2 := []) (h2 := fv_hx h q) rfl rfl fv_j0 ?_
    exact fv_g_ret rfl rfl hf
  | succ r ih =>
    obtain ⟨j1, j2⟩ := fv_jx r hr
    refine fv_g_ifF (c := .lt) (o := 5) (x := fv_j (r + 1)) (lv2 := (3, .int (fv_j (r + 1))) :: (e ++ [(0, .ref 0), (1, .long n)])) (st2 := []) (h2 := fv_hx h q) rfl rfl j1 ?_
    have hb : am_bk sc [.lload 1, .iload 3, .lushr, .jsr_w 255, .land, .l2i, .istore 4, .iload 4] ((3, .int (fv_j (r + 1))) :: (e ++ [(0, .ref 0), (1, .long n)])) [] (fv_hx h q) = some ([(4, .int (fv_z n (fv_j (r + 1))).toInt32), (3, .int (fv_j (r + 1))), (0, .ref 0), (1, .long n)], [.int (fv_z n (fv_j (r + 1))).toInt32], fv_hx h q) := by
      rcases he with rfl | ⟨b, rfl⟩ <;> rfl
    have hi : ∀ H : am_H, am_bk sc [.iinc 3 (-8)] [(4, .int (fv_z n (fv_j (r + 1))).toInt32), (3, .int (fv_j (r + 1))), (0, .ref 0), (1, .long n)] [] H = some ((3, .int (fv_j r)) :: ([(4, .int (fv_z n (fv_j (r + 1))).toInt32)] ++ [(0, .ref 0), (1, .long n)]), [], H) := fun H => by rw [← j2]; rfl
    by_cases hz : fv_z n (fv_j (r + 1)) = 0
    · have e1 : fv_tp n (r + 1) q = fv_tp n r q := by
        show fv_tp n r (if _ then _ else _) = _
        rw [if_pos hz]
      rw [e1] at hf
      exact fv_g_ifT (c := .eq) (o := 4) rfl hb (fv_zz.mpr hz) (fv_g_goto (o := 1) rfl (hi _) (ih _ (Or.inr ⟨_, rfl⟩) q (by omega) (by omega) hc hf))
    · have e1 : fv_tp n (r + 1) q = fv_tp n r (q.1 + 1, q.2.set q.1 (.int (fv_z n (fv_j (r + 1))).toInt32)) := by
        show fv_tp n r (if _ then _ else _) = _
        rw [if_neg hz]
      rw [e1] at hf
      refine fv_g_ifF (c := .eq) (o := 4) rfl hb (fun g => hz (fv_zz.mp g)) ?_
      have g0 : (fv_hx h q)[0]? = some (15, o0) := by
        unfold fv_hx
        rw [fv_h2_o (by decide) (by decide), h0]
      have g1 : (fv_hx h q)[1]? = some (11, [.ref 2, .int (Int32.ofNat q.1)]) := fv_h2_b (by omega)
      generalize (fv_z n (fv_j (r + 1))).toInt32 = b at hi hf ⊢
      have hb3 : am_bk sc [.aload 0, .getfield 1920, .iload 4] [(4, .int b), (3, .int (fv_j (r + 1))), (0, .ref 0), (1, .long n)] [] (fv_hx h q) = some ([(4, .int b), (3, .int (fv_j (r + 1))), (0, .ref 0), (1, .long n)], [.int b, .ref 1], fv_hx h q) :=
        fv_bk (lv1 := [(4, .int b), (3, .int (fv_j (r + 1))), (0, .ref 0), (1, .long n)]) (st1 := [.ref 0]) rfl (fv_bk (fv_gf g0 (by decide) rfl ho) rfl)
      have hrc : am_rcv 11 [.ref 1, .int b] (fv_hx h q) = true := by
        unfold am_rcv
        simp only [g1]
        rfl
      refine fv_g_call (y := 109) (n := 706) (v := none) rfl hb3 (Nat.le_refl 2) (Nat.zero_le 8) (Or.inr hrc) (fv_add hms hl (q := q) (by omega) hc b) ?_
      exact fv_g_goto (o := 1) rfl (hi _) (ih _ (Or.inr ⟨_, rfl⟩) _ (by omega) (by show q.1 + 1 + r ≤ 400; omega) (by show (q.2.set _ _).length = 400; rw [List.length_set]; exact hc) hf)
theorem fv_typeN (hms : am_msok cds am_ms) (hl : 3 ≤ h.length) {o0 : List Value} (h0 : h[0]? = some (15, o0)) (ho : o0[0]? = some (.ref 1)) (n : Int64) (q : Nat × List Value) (hL : q.1 + 8 ≤ 400) (hc : q.2.length = 400) : am_ca sc cds (d + 2) 198 [.ref 0, .long n] (fv_hx h q) none (fv_hx h (fv_tp n 8 q)) := by
  refine fv_ca_in hms (mx := 5) (ty := none) (code := am_k198) rfl rfl (Nat.le_add_left 3 2) ?_
  have hb : am_bk sc [.iconst 56, .istore 3] (lv_args 0 [.ref 0, .long n]) [] (fv_hx h q) = some ((3, .int (fv_j 8)) :: ([] ++ [(0, .ref 0), (1, .long n)]), [], fv_hx h q) := rfl
  exact fv_g_nop rfl hb (fv_tN hms hl h0 ho n 8 [] (Or.inl rfl) q (Nat.le_refl 8) hL hc ⟨rfl, rfl⟩)
theorem fv_lenX (hms : am_msok cds am_ms) {H : am_H} {x : Int32} (g1 : H[1]? = some (11, [.ref 2, .int x])) : am_ca sc cds (d + 1) 101 [.ref 1] H (some (.int x)) H := by
  refine fv_ca_in hms (mx := 1) (ty := some .int) (code := am_k101) rfl rfl (Nat.le_refl 1) ?_
  exact fv_g_iret rfl (fv_bk (lv1 := [(0, .ref 1)]) (st1 := [.ref 1]) rfl (fv_bk (fv_gf g1 (by decide) rfl rfl) rfl)) ⟨rfl, rfl⟩
/-- what is typed by all six -/
def fv_t6 (a b c e f g : Int64) (z : List Value) : Nat × List Value := (fv_tp g 8 (fv_tp f 8 (fv_tp e 8 (fv_tp c 8 (fv_tp b 8 (fv_tp a 8 (0, z)))))))
def fv_n6 (a b c e f g : Int64) : Nat := fv_cn a 8 + fv_cn b 8 + fv_cn c 8 + fv_cn e 8 + fv_cn f 8 + fv_cn g 8
theorem fv_t61 (a b c e f g : Int64) (z : List Value) : (fv_t6 a b c e f g z).1 = fv_n6 a b c e f g := by
  unfold fv_t6 fv_n6
  simp only [fv_tp1, Nat.zero_add]
theorem fv_t62 (a b c e f g : Int64) (z : List Value) : (fv_t6 a b c e f g z).2.length = z.length := by
  unfold fv_t6
  simp only [fv_tp2]
theorem fv_n6_le (a b c e f g : Int64) : fv_n6 a b c e f g ≤ 48 := by
  unfold fv_n6
  have := fv_cn_le a 8
  have := fv_cn_le b 8
  have := fv_cn_le c 8
  have := fv_cn_le e 8
  have := fv_cn_le f 8
  have := fv_cn_le g 8
  omega
theorem fv_t63 (a b c e f g : Int64) (z : List Value) (hz : fv_zs 48 z) : fv_zs 48 (fv_t6 a b c e f g z).2 := by
  unfold fv_t6
  have := fv_cn_le a 8
  have := fv_cn_le b 8
  have := fv_cn_le c 8
  have := fv_cn_le e 8
  have := fv_cn_le f 8
  have := fv_cn_le g 8
  exact fv_tp3 g 8 48 _ (by simp only [fv_tp1]; omega) (fv_tp3 f 8 48 _ (by simp only [fv_tp1]; omega) (fv_tp3 e 8 48 _ (by simp only [fv_tp1]; omega) (fv_tp3 c 8 48 _ (by simp only [fv_tp1]; omega) (fv_tp3 b 8 48 _ (by simp only [fv_tp1]; omega) (fv_tp3 a 8 48 _ (by simp only [fv_tp1]; omega) hz)))))
theorem fv_sum6 (a b c e f g : Int64) : (((((Int32.ofNat (fv_cn a 8) + Int32.ofNat (fv_cn b 8)) + Int32.ofNat (fv_cn c 8)) + Int32.ofNat (fv_cn e 8)) + Int32.ofNat (fv_cn f 8)) + Int32.ofNat (fv_cn g 8)) = Int32.ofNat (fv_n6 a b c e f g) := by
  unfold fv_n6
  simp only [Int32.ofNat_add]
theorem fv_typeX (hms : am_msok cds am_ms) (hl : 3 ≤ h.length) {o0 : List Value} (h0 : h[0]? = some (15, o0)) (ho : o0[0]? = some (.ref 1)) (a b c e f g : Int64) (z : List Value) (hz : z.length = 400) :
    am_ca sc cds (d + 3) 152 [.ref 0, .long a, .long b, .long c, .long e, .long f, .long g] (fv_hx h (0, z)) (some (.int (Int32.ofNat (fv_n6 a b c e f g)))) (fv_hx h (fv_t6 a b c e f g z)) := by
  have l1 := fv_cn_le a 8
  have l2 := fv_cn_le b 8
  have l3 := fv_cn_le c 8
  have l4 := fv_cn_le e 8
  have l5 := fv_cn_le f 8
  have l6 := fv_cn_le g 8
  have g0 : ∀ q, (fv_hx h q)[0]? = some (15, o0) := fun q => by
    unfold fv_hx
    rw [fv_h2_o (by decide) (by decide), h0]
  have g1 : ∀ q, (fv_hx h q)[1]? = some (11, [.ref 2, .int (Int32.ofNat q.1)]) := fun q => fv_h2_b (by omega)
  have r0 : ∀ q (v : Int64), am_rcv 15 [.ref 0, .long v] (fv_hx h q) = true := fun q v => by
    unfold am_rcv
    simp only [g0]
    rfl
  have r1 : ∀ q, am_rcv 11 [.ref 1] (fv_hx h q) = true := fun q => by
    unfold am_rcv
    simp only [g1]
    rfl
  refine fv_ca_in hms (mx := 14) (ty := some .int) (code := am_k152) rfl rfl (Nat.le_add_left 13 1) ?_
  show fv_G sc _ _ am_k152 [] _ _ 0 [(0, .ref 0), (1, .long a), (3, .long b), (5, .long c), (7, .long e), (9, .long f), (11, .long g)] [] (fv_hx h (0, z))
  refine fv_g_call (is := [.lload 1]) (y := 197) (n := 1) (lv2 := [(0, .ref 0), (1, .long a), (3, .long b), (5, .long c), (7, .long e), (9, .long f), (11, .long g)]) (st2 := [.long a]) (h2 := fv_hx h (0, z)) (v := some (.int (Int32.ofNat (fv_cn a 8)))) rfl rfl (Nat.le_add_left 1 _) (Nat.zero_le 8) (Or.inl rfl) (fv_bytesIn hms a _) ?_
  refine fv_g_call (is := [.lload 3]) (y := 197) (n := 1) (lv2 := [(0, .ref 0), (1, .long a), (3, .long b), (5, .long c), (7, .long e), (9, .long f), (11, .long g)]) (st2 := [.long b, .int (Int32.ofNat (fv_cn a 8))]) (h2 := fv_hx h (0, z)) (v := some (.int (Int32.ofNat (fv_cn b 8)))) rfl rfl (Nat.le_add_left 1 _) (Nat.le_add_left 1 7) (Or.inl rfl) (fv_bytesIn hms b _) ?_
  refine fv_g_call (is := [.iadd, .lload 5]) (y := 197) (n := 1) (lv2 := [(0, .ref 0), (1, .long a), (3, .long b), (5, .long c), (7, .long e), (9, .long f), (11, .long g)]) (st2 := [.long c, .int ((Int32.ofNat (fv_cn a 8) + Int32.ofNat (fv_cn b 8)))]) (h2 := fv_hx h (0, z)) (v := some (.int (Int32.ofNat (fv_cn c 8)))) rfl rfl (Nat.le_add_left 1 _) (Nat.le_add_left 1 7) (Or.inl rfl) (fv_bytesIn hms c _) ?_
  refine fv_g_call (is := [.iadd, .lload 7]) (y := 197) (n := 1) (lv2 := [(0, .ref 0), (1, .long a), (3, .long b), (5, .long c), (7, .long e), (9, .long f), (11, .long g)]) (st2 := [.long e, .int (((Int32.ofNat (fv_cn a 8) + Int32.ofNat (fv_cn b 8)) + Int32.ofNat (fv_cn c 8)))]) (h2 := fv_hx h (0, z)) (v := some (.int (Int32.ofNat (fv_cn e 8)))) rfl rfl (Nat.le_add_left 1 _) (Nat.le_add_left 1 7) (Or.inl rfl) (fv_bytesIn hms e _) ?_
  refine fv_g_call (is := [.iadd, .lload 9]) (y := 197) (n := 1) (lv2 := [(0, .ref 0), (1, .long a), (3, .long b), (5, .long c), (7, .long e), (9, .long f), (11, .long g)]) (st2 := [.long f, .int ((((Int32.ofNat (fv_cn a 8) + Int32.ofNat (fv_cn b 8)) + Int32.ofNat (fv_cn c 8)) + Int32.ofNat (fv_cn e 8)))]) (h2 := fv_hx h (0, z)) (v := some (.int (Int32.ofNat (fv_cn f 8)))) rfl rfl (Nat.le_add_left 1 _) (Nat.le_add_left 1 7) (Or.inl rfl) (fv_bytesIn hms f _) ?_
  refine fv_g_call (is := [.iadd, .lload 11]) (y := 197) (n := 1) (lv2 := [(0, .ref 0), (1, .long a), (3, .long b), (5, .long c), (7, .long e), (9, .long f), (11, .long g)]) (st2 := [.long g, .int (((((Int32.ofNat (fv_cn a 8) + Int32.ofNat (fv_cn b 8)) + Int32.ofNat (fv_cn c 8)) + Int32.ofNat (fv_cn e 8)) + Int32.ofNat (fv_cn f 8)))]) (h2 := fv_hx h (0, z)) (v := some (.int (Int32.ofNat (fv_cn g 8)))) rfl rfl (Nat.le_add_left 1 _) (Nat.le_add_left 1 7) (Or.inl rfl) (fv_bytesIn hms g _) ?_
  refine fv_g_call (is := [.iadd, .istore 13, .aload 0, .getfield 1920]) (y := 101) (n := 705) (lv2 := [(13, .int ((((((Int32.ofNat (fv_cn a 8) + Int32.ofNat (fv_cn b 8)) + Int32.ofNat (fv_cn c 8)) + Int32.ofNat (fv_cn e 8)) + Int32.ofNat (fv_cn f 8)) + Int32.ofNat (fv_cn g 8)))), (0, .ref 0), (1, .long a), (3, .long b), (5, .long c), (7, .long e), (9, .long f), (11, .long g)]) (st2 := [.ref 1]) (h2 := fv_hx h (0, z)) rfl (fv_bk (lv1 := [(0, .ref 0), (1, .long a), (3, .long b), (5, .long c), (7, .long e), (9, .long f), (11, .long g)]) (st1 := [.int ((((((Int32.ofNat (fv_cn a 8) + Int32.ofNat (fv_cn b 8)) + Int32.ofNat (fv_cn c 8)) + Int32.ofNat (fv_cn e 8)) + Int32.ofNat (fv_cn f 8)) + Int32.ofNat (fv_cn g 8)))]) rfl (fv_bk (lv1 := [(13, .int ((((((Int32.ofNat (fv_cn a 8) + Int32.ofNat (fv_cn b 8)) + Int32.ofNat (fv_cn c 8)) + Int32.ofNat (fv_cn e 8)) + Int32.ofNat (fv_cn f 8)) + Int32.ofNat (fv_cn g 8)))), (0, .ref 0), (1, .long a), (3, .long b), (5, .long c), (7, .long e), (9, .long f), (11, .long g)]) (st1 := []) rfl (fv_bk (lv1 := [(13, .int ((((((Int32.ofNat (fv_cn a 8) + Int32.ofNat (fv_cn b 8)) + Int32.ofNat (fv_cn c 8)) + Int32.ofNat (fv_cn e 8)) + Int32.ofNat (fv_cn f 8)) + Int32.ofNat (fv_cn g 8)))), (0, .ref 0), (1, .long a), (3, .long b), (5, .long c), (7, .long e), (9, .long f), (11, .long g)]) (st1 := [.ref 0]) rfl (fv_bk (fv_gf (g0 _) (by decide) rfl ho) rfl)))) (Nat.le_refl 1) (Nat.zero_le 8) (Or.inr (r1 _)) (fv_lenX hms (g1 _)) ?_
  rw [fv_sum6]
  refine fv_g_icT (is := [.iload 13, .iadd, .iconst 400]) (c := .le) (o := 9) (x := Int32.ofNat 0 + Int32.ofNat (fv_n6 a b c e f g)) (y := Int32.ofInt 400) (lv2 := [(13, .int (Int32.ofNat (fv_n6 a b c e f g))), (0, .ref 0), (1, .long a), (3, .long b), (5, .long c), (7, .long e), (9, .long f), (11, .long g)]) (st2 := []) (h2 := fv_hx h (0, z)) rfl rfl ?_ ?_
  · rw [← Int32.ofNat_add, Nat.zero_add, show Int32.ofInt 400 = Int32.ofNat 400 by decide]
    have := fv_n6_le a b c e f g
    exact fv_le32 (by omega) (by decide) (by omega)
  refine fv_g_call (is := [.aload 0, .lload 1]) (y := 198) (n := 962) (lv2 := [(13, .int (Int32.ofNat (fv_n6 a b c e f g))), (0, .ref 0), (1, .long a), (3, .long b), (5, .long c), (7, .long e), (9, .long f), (11, .long g)]) (st2 := [.long a, .ref 0]) (h2 := fv_hx h (0, z)) (v := none) rfl rfl (Nat.le_refl 2) (Nat.zero_le 8) (Or.inr (r0 _ _)) (fv_typeN hms hl h0 ho a (0, z) (by simp only [fv_tp1]; omega) (by simp only [fv_tp2]; exact hz)) ?_
  refine fv_g_call (is := [.aload 0, .lload 3]) (y := 198) (n := 962) (lv2 := [(13, .int (Int32.ofNat (fv_n6 a b c e f g))), (0, .ref 0), (1, .long a), (3, .long b), (5, .long c), (7, .long e), (9, .long f), (11, .long g)]) (st2 := [.long b, .ref 0]) (h2 := fv_hx h (fv_tp a 8 (0, z))) (v := none) rfl rfl (Nat.le_refl 2) (Nat.zero_le 8) (Or.inr (r0 _ _)) (fv_typeN hms hl h0 ho b (fv_tp a 8 (0, z)) (by simp only [fv_tp1]; omega) (by simp only [fv_tp2]; exact hz)) ?_
  refine fv_g_call (is := [.aload 0, .lload 5]) (y := 198) (n := 962) (lv2 := [(13, .int (Int32.ofNat (fv_n6 a b c e f g))), (0, .ref 0), (1, .long a), (3, .long b), (5, .long c), (7, .long e), (9, .long f), (11, .long g)]) (st2 := [.long c, .ref 0]) (h2 := fv_hx h (fv_tp b 8 (fv_tp a 8 (0, z)))) (v := none) rfl rfl (Nat.le_refl 2) (Nat.zero_le 8) (Or.inr (r0 _ _)) (fv_typeN hms hl h0 ho c (fv_tp b 8 (fv_tp a 8 (0, z))) (by simp only [fv_tp1]; omega) (by simp only [fv_tp2]; exact hz)) ?_
  refine fv_g_call (is := [.aload 0, .lload 7]) (y := 198) (n := 962) (lv2 := [(13, .int (Int32.ofNat (fv_n6 a b c e f g))), (0, .ref 0), (1, .long a), (3, .long b), (5, .long c), (7, .long e), (9, .long f), (11, .long g)]) (st2 := [.long e, .ref 0]) (h2 := fv_hx h (fv_tp c 8 (fv_tp b 8 (fv_tp a 8 (0, z))))) (v := none) rfl rfl (Nat.le_refl 2) (Nat.zero_le 8) (Or.inr (r0 _ _)) (fv_typeN hms hl h0 ho e (fv_tp c 8 (fv_tp b 8 (fv_tp a 8 (0, z)))) (by simp only [fv_tp1]; omega) (by simp only [fv_tp2]; exact hz)) ?_
  refine fv_g_call (is := [.aload 0, .lload 9]) (y := 198) (n := 962) (lv2 := [(13, .int (Int32.ofNat (fv_n6 a b c e f g))), (0, .ref 0), (1, .long a), (3, .long b), (5, .long c), (7, .long e), (9, .long f), (11, .long g)]) (st2 := [.long f, .ref 0]) (h2 := fv_hx h (fv_tp e 8 (fv_tp c 8 (fv_tp b 8 (fv_tp a 8 (0, z)))))) (v := none) rfl rfl (Nat.le_refl 2) (Nat.zero_le 8) (Or.inr (r0 _ _)) (fv_typeN hms hl h0 ho f (fv_tp e 8 (fv_tp c 8 (fv_tp b 8 (fv_tp a 8 (0, z))))) (by simp only [fv_tp1]; omega) (by simp only [fv_tp2]; exact hz)) ?_
  refine fv_g_call (is := [.aload 0, .lload 11]) (y := 198) (n := 962) (lv2 := [(13, .int (Int32.ofNat (fv_n6 a b c e f g))), (0, .ref 0), (1, .long a), (3, .long b), (5, .long c), (7, .long e), (9, .long f), (11, .long g)]) (st2 := [.long g, .ref 0]) (h2 := fv_hx h (fv_tp f 8 (fv_tp e 8 (fv_tp c 8 (fv_tp b 8 (fv_tp a 8 (0, z))))))) (v := none) rfl rfl (Nat.le_refl 2) (Nat.zero_le 8) (Or.inr (r0 _ _)) (fv_typeN hms hl h0 ho g (fv_tp f 8 (fv_tp e 8 (fv_tp c 8 (fv_tp b 8 (fv_tp a 8 (0, z)))))) (by simp only [fv_tp1]; omega) (by simp only [fv_tp2]; exact hz)) ?_
  refine fv_g_call (is := [.aload 0, .getfield 1920]) (y := 101) (n := 705) (lv2 := [(13, .int (Int32.ofNat (fv_n6 a b c e f g))), (0, .ref 0), (1, .long a), (3, .long b), (5, .long c), (7, .long e), (9, .long f), (11, .long g)]) (st2 := [.ref 1]) (h2 := fv_hx h (fv_t6 a b c e f g z)) rfl (fv_bk (lv1 := [(13, .int (Int32.ofNat (fv_n6 a b c e f g))), (0, .ref 0), (1, .long a), (3, .long b), (5, .long c), (7, .long e), (9, .long f), (11, .long g)]) (st1 := [.ref 0]) rfl (fv_bk (fv_gf (g0 _) (by decide) rfl ho) rfl)) (Nat.le_refl 1) (Nat.zero_le 8) (Or.inr (r1 _)) (fv_lenX hms (g1 _)) ?_
  rw [fv_t61]
  exact fv_g_iret rfl rfl ⟨rfl, rfl⟩
end FVT
