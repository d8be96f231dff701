variable {sc : List Int32}
/-! THE QUICK MACHINE: comparisons of longs, fields, rows, new things -/
section FVH
variable {ρ : Nat → Int32}
theorem fv_cmp_lt {x y : Int64} (h : x.toInt < y.toInt) : lg_cmp x y = -1 := by
  unfold lg_cmp
  rw [if_neg (fun z => by have := Int64.lt_iff_toInt_lt.mp z; omega), if_neg (fun z => by subst z; omega)]
theorem fv_cmp_eq {x y : Int64} (h : x.toInt = y.toInt) : lg_cmp x y = 0 := by
  have := Int64.toInt_inj.mp h
  subst this
  unfold lg_cmp
  rw [if_neg (fun z => by have := Int64.lt_iff_toInt_lt.mp z; omega), if_pos rfl]
theorem fv_cmp_gt {x y : Int64} (h : y.toInt < x.toInt) : lg_cmp x y = 1 := by
  unfold lg_cmp
  rw [if_pos (Int64.lt_iff_toInt_lt.mpr h)]
theorem fv_jsg_eq (a : Nat) : ((fv_jsg a : Nat) : Int) = (Int64.ofNat a).toInt + 9223372036854775808 := by
  unfold fv_jsg
  rw [fv_mod_h, fv_add_h, Int64.toInt_ofNat']
  have h2 : (a : Int).bmod Int64.size = (a : Int).bmod 18446744073709551616 := rfl
  rw [h2, Int.bmod_def]
  split <;> omega
theorem fv_jo_ok {v : Nat} {k : Nat → Bool} (h : fv_jo v k = true) : fv_de ρ v = .long (Int64.ofNat (v / 8)) ∧ ∃ c, ((c : Nat) : Int) = (Int64.ofNat (v / 8)).toInt + 2147483648 ∧ k c = true := by
  unfold fv_jo at h
  simp only [fv_f_eq, fv_mod_h, fv_add_h] at h
  obtain ⟨h1, -, h2⟩ := fv_lng_ok (ρ := ρ) h
  obtain ⟨h3, h4⟩ := fv_iff h2
  have h3 := fv_ltt h3
  refine ⟨h1, _, ?_, h4⟩
  rw [Int64.toInt_ofNat']
  have h2 : ((v / 8 : Nat) : Int).bmod Int64.size = ((v / 8 : Nat) : Int).bmod 18446744073709551616 := rfl
  rw [h2, Int.bmod_def]
  split <;> omega
theorem fv_p_lcmp : fv_snd sc ρ .lcmp fv_lcmp := by
  intro K e lvN st n t iv lv h hx io hl hr
  simp only [fv_lcmp, fv_mod_h, fv_div_h] at hx
  obtain ⟨x, y, q, rfl, h1⟩ := fv_2_t hx
  have hv : ∀ x y r, am_i1 sc .lcmp lv (.long y :: .long x :: r) h = some (lv, .int (lg_cmp x y) :: r, h) := fun _ _ _ => rfl
  have c0 : fv_de ρ 34359738360 = .int (-1) := rfl
  have c1 : fv_de ρ 0 = .int 0 := rfl
  have c2 : fv_de ρ 8 = .int 1 := rfl
  rcases fv_ift h1 with ⟨h0, k1⟩ | ⟨-, h1⟩
  · cases fv_beq h0
    obtain ⟨h2, h3⟩ := fv_iff k1
    obtain ⟨z, hz⟩ := fv_isJ_t (ρ := ρ) h2
    refine ⟨_, _, n, t, iv, lv, h, h3, io, hl, hr, ?_⟩
    simp only [List.map_cons, hz, hv, c1, fv_cmp_eq (x := z) (y := z) rfl]
  rcases fv_ift h1 with ⟨hx1, h2⟩ | ⟨-, h2⟩
  · have hx1 := fv_beq hx1
    rcases fv_ift h2 with ⟨hy1, h3⟩ | ⟨-, h3⟩
    · have hy1 := fv_beq hy1
      have ex := fv_jsg_eq (x / 8)
      have ey := fv_jsg_eq (y / 8)
      rcases fv_ift h3 with ⟨h4, h5⟩ | ⟨h4, h5⟩
      · have h4 := fv_ltt h4
        refine ⟨_, _, n, t, iv, lv, h, h5, io, hl, hr, ?_⟩
        simp only [List.map_cons, fv_d5 hx1, fv_d5 hy1, hv, c0, fv_cmp_lt (x := Int64.ofNat (x / 8)) (y := Int64.ofNat (y / 8)) (by omega)]
      · have h4 := fv_ltf h4
        rcases fv_ift h5 with ⟨h6, h7⟩ | ⟨h6, h7⟩
        · have h6 := fv_beq h6
          refine ⟨_, _, n, t, iv, lv, h, h7, io, hl, hr, ?_⟩
          simp only [List.map_cons, fv_d5 hx1, fv_d5 hy1, hv, c1, fv_cmp_eq (x := Int64.ofNat (x / 8)) (y := Int64.ofNat (y / 8)) (by omega)]
        · have h6 := fv_bne h6
          refine ⟨_, _, n, t, iv, lv, h, h7, io, hl, hr, ?_⟩
          simp only [List.map_cons, fv_d5 hx1, fv_d5 hy1, hv, c2, fv_cmp_gt (x := Int64.ofNat (x / 8)) (y := Int64.ofNat (y / 8)) (by omega)]
    · obtain ⟨hy1, h4⟩ := fv_iff h3
      have hy1 := fv_beq hy1
      obtain ⟨ex, c, hc, h5⟩ := fv_jo_ok (ρ := ρ) h4
      have hu := fv_of_i (ρ (y / 8))
      have ht := Int32.toInt_toInt64 (ρ (y / 8))
      rcases fv_ltk_ok h5 io with ⟨h6, iv2, io2, h7⟩ | ⟨h6, iv2, io2, h7⟩
      · refine ⟨_, _, n, t, iv2, lv, h, h7, io2, hl, hr, ?_⟩
        simp only [List.map_cons, ex, fv_d6 hy1, hv, c2, fv_cmp_gt (x := Int64.ofNat (x / 8)) (y := (ρ (y / 8)).toInt64) (by omega)]
      · rcases fv_eqk_ok h7 io2 with ⟨h8, iv3, io3, h9⟩ | ⟨h8, iv3, io3, h9⟩
        · refine ⟨_, _, n, t, iv3, lv, h, h9, io3, hl, hr, ?_⟩
          simp only [List.map_cons, ex, fv_d6 hy1, hv, c1, fv_cmp_eq (x := Int64.ofNat (x / 8)) (y := (ρ (y / 8)).toInt64) (by omega)]
        · refine ⟨_, _, n, t, iv3, lv, h, h9, io3, hl, hr, ?_⟩
          simp only [List.map_cons, ex, fv_d6 hy1, hv, c0, fv_cmp_lt (x := Int64.ofNat (x / 8)) (y := (ρ (y / 8)).toInt64) (by omega)]
  · obtain ⟨hx1, h3⟩ := fv_iff h2
    have hx1 := fv_beq hx1
    obtain ⟨ey, c, hc, h5⟩ := fv_jo_ok (ρ := ρ) h3
    have hu := fv_of_i (ρ (x / 8))
    have ht := Int32.toInt_toInt64 (ρ (x / 8))
    rcases fv_ltk_ok h5 io with ⟨h6, iv2, io2, h7⟩ | ⟨h6, iv2, io2, h7⟩
    · refine ⟨_, _, n, t, iv2, lv, h, h7, io2, hl, hr, ?_⟩
      simp only [List.map_cons, ey, fv_d6 hx1, hv, c0, fv_cmp_lt (x := (ρ (x / 8)).toInt64) (y := Int64.ofNat (y / 8)) (by omega)]
    · rcases fv_eqk_ok h7 io2 with ⟨h8, iv3, io3, h9⟩ | ⟨h8, iv3, io3, h9⟩
      · refine ⟨_, _, n, t, iv3, lv, h, h9, io3, hl, hr, ?_⟩
        simp only [List.map_cons, ey, fv_d6 hx1, hv, c1, fv_cmp_eq (x := (ρ (x / 8)).toInt64) (y := Int64.ofNat (y / 8)) (by omega)]
      · refine ⟨_, _, n, t, iv3, lv, h, h9, io3, hl, hr, ?_⟩
        simp only [List.map_cons, ey, fv_d6 hx1, hv, c2, fv_cmp_gt (x := (ρ (x / 8)).toInt64) (y := Int64.ofNat (y / 8)) (by omega)]
theorem fv_p_jsr {k : Int} : fv_snd sc ρ (.jsr k) (fv_jsr (Int.natAbs k)) := by
  intro K e lvN st n t iv lv h hx io hl hr
  simp only [fv_jsr, fv_f_eq, fv_mul_h] at hx
  obtain ⟨x, y, q, rfl, h1⟩ := fv_2_t hx
  obtain ⟨a, ha, h2⟩ := fv_int_ok (ρ := ρ) h1 io
  obtain ⟨b, hb, h3⟩ := fv_int_ok (ρ := ρ) h2 io
  obtain ⟨h4, h5⟩ := fv_iff h3
  obtain ⟨h6, h7⟩ := fv_iff h5
  obtain ⟨h8, h9⟩ := fv_iff h7
  have h4 := fv_ltt h4
  have h6 := fv_ltt h6
  have hlt : ∀ {a b : Nat}, a < 2147483648 → b < 2147483648 → (Int32.ofNat a < Int32.ofNat b ↔ a < b) := fun {a b} ha hb => by
    rw [← fv_of_lt_iff, fv_of_nat, fv_of_nat]
    omega
  refine ⟨_, _, n, t, iv, lv, h, h9, io, hl, hr, ?_⟩
  simp only [List.map_cons, ha, hb, fv_m0]
  show (if am_cs (q.map (fv_de ρ)) ≤ 8 then some (lv, Value.int (if k = 0 then (if Int32.ofNat b < Int32.ofNat a then Int32.ofNat b else Int32.ofNat a) else (if Int32.ofNat a < Int32.ofNat b then Int32.ofNat b else Int32.ofNat a)) :: q.map (fv_de ρ), h) else none) = _
  rw [if_pos (fv_cl_t h8)]
  by_cases hk : k = 0
  · subst hk
    rw [if_pos rfl]
    have e : @Nat.rec (fun _ => Nat) (fv_min a b) (fun _ _ => fv_max a b) (Int.natAbs 0) = min a b := fv_min_eq a b
    rw [e]
    by_cases hab : b < a
    · rw [if_pos ((hlt h6 h4).mpr hab), show min a b = b by omega]
    · rw [if_neg (fun z => hab ((hlt h6 h4).mp z)), show min a b = a by omega]
  · rw [if_neg hk]
    obtain ⟨m, hm⟩ : ∃ m, Int.natAbs k = m + 1 := ⟨Int.natAbs k - 1, by omega⟩
    rw [hm]
    have e : @Nat.rec (fun _ => Nat) (fv_min a b) (fun _ _ => fv_max a b) (m + 1) = max a b := fv_max_eq a b
    rw [e]
    by_cases hab : a < b
    · rw [if_pos ((hlt h4 h6).mpr hab), show max a b = b by omega]
    · rw [if_neg (fun z => hab ((hlt h4 h6).mp z)), show max a b = a by omega]
theorem fv_p_get {f : Nat} (h3 : 384 ≤ f) (h4 : f < 12800) : fv_snd sc ρ (.getfield f) (fv_get f) := by
  intro K e lvN st n t iv lv h hx io hl hr
  simp only [fv_get, fv_f_eq, fv_mod_h, fv_div_h] at hx
  obtain ⟨v, r, rfl, h1⟩ := fv_u_t hx
  obtain ⟨hv, -, h2⟩ := fv_ref_ok (ρ := ρ) h1
  obtain ⟨c, z, s, h5, h6⟩ := fv_o_ok hr h2
  obtain ⟨h7, h8⟩ := fv_iff h5
  obtain ⟨h9, h10⟩ := fv_iff h8
  have h7 := fv_beq h7
  rcases h6 with h6 | ⟨h6, h11, -⟩
  · omega
  · subst h6 h7
    refine ⟨_, _, n, t, iv, lv, h, h10, io, hl, hr, ?_⟩
    show am_st lv h (am_get f h (fv_de ρ v :: r.map (fv_de ρ))) = _
    rw [hv]
    unfold am_get
    simp only [h11]
    rw [if_pos ⟨by omega, trivial⟩]
    simp only [fv_map_get (fv_ltt h9)]
    rfl
theorem fv_txt_len : am_txt.length = 103 := by decide +kernel
theorem fv_p_getx {f : Nat} : fv_snd sc ρ (.getfield f) (fv_getx f) := by
  intro K e lvN st n t iv lv h hx io hl hr
  simp only [fv_getx, fv_f_eq, fv_mod_h, fv_div_h, fv_add_h] at hx
  obtain ⟨v, r, rfl, h1⟩ := fv_u_t hx
  obtain ⟨h2, h3⟩ := fv_iff h1
  obtain ⟨h4, h5⟩ := fv_iff h3
  have h2 := fv_beq h2
  have h4 := fv_ltt h4
  have hlt : v / 8 < am_txt.length := by rw [fv_txt_len]; exact h4
  rcases fv_ift h5 with ⟨h6, h7⟩ | ⟨h6, h7⟩
  · cases fv_beq h6
    refine ⟨_, _, n, t, iv, lv, h, h7, io, hl, hr, ?_⟩
    show am_st lv h (am_get 0 h (fv_de ρ v :: r.map (fv_de ρ))) = _
    rw [fv_d3 h2]
    unfold am_get
    simp only
    rw [if_pos ⟨by decide, hlt⟩]
    show some (lv, Value.retAddr (3000 + v / 8) :: r.map (fv_de ρ), h) = some (lv, fv_de ρ (v + 24000) :: r.map (fv_de ρ), h)
    rw [fv_d3 (show (v + 24000) % 8 = 3 by omega), show (v + 24000) / 8 = 3000 + v / 8 by omega]
  · obtain ⟨h8, h9⟩ := fv_iff h7
    cases fv_beq h8
    refine ⟨_, _, n, t, iv, lv, h, h9, io, hl, hr, ?_⟩
    show am_st lv h (am_get 1 h (fv_de ρ v :: r.map (fv_de ρ))) = _
    rw [fv_d3 h2]
    unfold am_get
    simp only
    rw [if_pos ⟨by decide, hlt⟩]
    rfl
theorem fv_b01_t {v : Nat} (h : fv_b01 v = true) : ∃ x, fv_de ρ v = .int x ∧ (x = 0 ∨ x = 1) := by
  rcases fv_ift h with ⟨h, -⟩ | ⟨-, h⟩
  · cases fv_beq h
    exact ⟨0, rfl, Or.inl rfl⟩
  · cases fv_beq h
    exact ⟨1, rfl, Or.inr rfl⟩
theorem fv_okR {ty : FieldType} {v : Nat} (ht : (∃ c, ty = .object c) ∨ ∃ c, ty = .array c) (h : fv_isR v = true) : am_ok ty (fv_de ρ v) = true := by
  have h1 := fv_isR_t (ρ := ρ) h
  rcases ht with ⟨c, rfl⟩ | ⟨c, rfl⟩ <;> (revert h1; cases fv_de ρ v <;> simp [am_isR, am_ok])
theorem fv_vt_ok {f v : Nat} (h : fv_vt (fv_tc f) v = true) : am_ok (am_fty (f / 128) (f % 128)) (fv_de ρ v) = true := by
  unfold fv_tc at h
  revert h
  generalize am_fty (f / 128) (f % 128) = ty
  intro h
  cases ty with
  | int => obtain ⟨x, hx⟩ := fv_isI_t (ρ := ρ) h; rw [hx]; rfl
  | long => obtain ⟨x, hx⟩ := fv_isJ_t (ρ := ρ) h; rw [hx]; rfl
  | object c => exact fv_okR (Or.inl ⟨c, rfl⟩) h
  | array c => exact fv_okR (Or.inr ⟨c, rfl⟩) h
  | boolean =>
    obtain ⟨x, hx, h01⟩ := fv_b01_t (ρ := ρ) h
    rw [hx]
    rcases h01 with rfl | rfl <;> rfl
  | byte => exact absurd h Bool.false_ne_true
  | char => exact absurd h Bool.false_ne_true
  | double => exact absurd h Bool.false_ne_true
  | float => exact absurd h Bool.false_ne_true
  | short => exact absurd h Bool.false_ne_true
theorem fv_p_put {f : Nat} (h4 : f < 12800) : fv_snd sc ρ (.putfield f) (fv_put f) := by
  intro K e lvN st n t iv lv h hx io hl hr
  simp only [fv_put, fv_mod_h, fv_div_h] at hx
  obtain ⟨x, v, r, rfl, h1⟩ := fv_2_t hx
  obtain ⟨hv, -, h2⟩ := fv_ref_ok (ρ := ρ) h1
  obtain ⟨c, z, s, h5, h6⟩ := fv_o_ok hr h2
  obtain ⟨h7, h8⟩ := fv_iff h5
  obtain ⟨h9, h10⟩ := fv_iff h8
  obtain ⟨h12, h13⟩ := fv_iff h10
  have h7 := fv_beq h7
  rcases h6 with h6 | ⟨h6, h11, hz⟩
  · omega
  · subst h6 h7
    have hob : fv_ob ρ (f / 128, s.length, fv_set s (f % 128) v) (f / 128, (s.map (fv_de ρ)).set (f % 128) (fv_de ρ v)) := ⟨rfl, by rw [fv_set_eq, List.length_set], fv_map_set, hz⟩
    refine ⟨_, _, n, _, iv, lv, _, h13, io, hl, fv_rel_set hr h11 hob (by simp), ?_⟩
    show am_sh lv (am_put f h (fv_de ρ v :: fv_de ρ x :: r.map (fv_de ρ))) = _
    rw [hv]
    unfold am_put
    simp only [h11]
    rw [if_pos ⟨trivial, by rw [List.length_map]; exact fv_ltt h9, fv_vt_ok h12⟩]
    rfl
theorem fv_p_ald {a : Instr} {p : Nat → Bool} {k : Nat → Bool} (h199 : p 199 = false) (hpk : ∀ c, p c = true → k c = true) (hv : ∀ lv i x r h, am_i1 sc a lv (.int i :: .ref x :: r) h = am_st lv h (am_gld k h (.int i :: .ref x :: r))) : fv_snd sc ρ a (fv_ald p) := by
  intro K e lvN st n t iv lv h hx io hl hr
  simp only [fv_ald, fv_f_eq] at hx
  obtain ⟨x, y, r, rfl, h1⟩ := fv_2_t hx
  obtain ⟨i, hi, h2⟩ := fv_int_ok (ρ := ρ) h1 io
  obtain ⟨hx1, -, h3⟩ := fv_ref_ok (ρ := ρ) h2
  obtain ⟨c, z, s, h5, h6⟩ := fv_o_ok hr h3
  obtain ⟨h7, h8⟩ := fv_iff h5
  obtain ⟨h9, h10⟩ := fv_iff h8
  have h9 := fv_ltt h9
  rcases h6 with h6 | ⟨h6, h11, hz⟩
  · subst h6
    rw [h199] at h7
    exact absurd h7 Bool.false_ne_true
  · subst h6
    refine ⟨_, _, n, t, iv, lv, h, h10, io, hl, hr, ?_⟩
    simp only [List.map_cons, hi, hx1, hv]
    unfold am_gld
    simp only [h11]
    rw [if_pos (hpk _ h7), List.length_map, fv_ix h9 hz]
    simp only [fv_map_get h9]
    rfl
theorem fv_p_iald (hsc : sc.length ≤ 13) (hρ : ∀ j, j < 13 → ρ j = sc.getD j 0) (hρ2 : ρ 15 = Int32.ofNat sc.length) : fv_snd sc ρ .iaload fv_iald := by
  intro K e lvN st n t iv lv h hx io hl hr
  simp only [fv_iald, fv_f_eq, fv_mul_h, fv_add_h] at hx
  obtain ⟨x, y, r, rfl, h1⟩ := fv_2_t hx
  obtain ⟨i, hi, h2⟩ := fv_int_ok (ρ := ρ) h1 io
  rcases fv_ift h2 with ⟨h3, h4⟩ | ⟨-, h4⟩
  · cases fv_beq h3
    obtain ⟨h5, h6⟩ := fv_iff h4
    have h5 := fv_ltt h5
    unfold fv_sc at h6
    obtain ⟨h7, h6⟩ := fv_iff h6
    rw [fv_nth_eq] at h7
    have h7 := fv_ble h7
    rw [fv_add_h] at h7
    have hu := io 15
    rw [hρ2, fv_of_nat] at hu
    have hil : i < sc.length := by omega
    refine ⟨_, _, n, t, iv, lv, h, h6, io, hl, hr, ?_⟩
    have hs : fv_de ρ 16003 = .retAddr 2000 := rfl
    simp only [List.map_cons, hi, hs, fv_m1]
    show am_st lv h (match am_ix (Int32.ofNat i) sc.length with
      | some j => some (.int (sc.getD j 0) :: r.map (fv_de ρ))
      | none => none) = _
    rw [fv_ix hil (by omega), hρ i h5]
    rfl
  · obtain ⟨hx1, -, h3⟩ := fv_ref_ok (ρ := ρ) h4
    obtain ⟨c, z, s, h5, h6⟩ := fv_o_ok hr h3
    obtain ⟨h7, h8⟩ := fv_iff h5
    obtain ⟨h9, h10⟩ := fv_iff h8
    have h9 := fv_ltt h9
    have h7 := fv_beq h7
    rcases h6 with h6 | ⟨h6, h11, hz⟩
    · omega
    · subst h6 h7
      refine ⟨_, _, n, t, iv, lv, h, h10, io, hl, hr, ?_⟩
      simp only [List.map_cons, hi, hx1]
      show am_st lv h (am_gld (fun k => k == 100) h (.int (Int32.ofNat i) :: .ref (x / 8) :: r.map (fv_de ρ))) = _
      unfold am_gld
      simp only [h11]
      rw [if_pos (by decide), List.length_map, fv_ix h9 hz]
      simp only [fv_map_get h9]
      rfl
theorem fv_gdi {l : List Nat} {i a b : Nat} (h : i < l.length) : l.getD i a = l.getD i b := by
  rw [List.getD_eq_getElem?_getD, List.getD_eq_getElem?_getD, List.getElem?_eq_getElem h]
  rfl
theorem fv_p_bald : fv_snd sc ρ .baload fv_bald := by
  intro K e lvN st n t iv lv h hx io hl hr
  simp only [fv_bald, fv_f_eq, fv_mul_h, fv_sub_h, fv_div_h, fv_mod_h] at hx
  obtain ⟨x, y, r, rfl, h1⟩ := fv_2_t hx
  obtain ⟨i, hi, h2⟩ := fv_int_ok (ρ := ρ) h1 io
  rcases fv_ift h2 with ⟨h3, h4⟩ | ⟨-, h4⟩
  · have h3 := fv_beq h3
    obtain ⟨h5, h6⟩ := fv_iff h4
    obtain ⟨h7, h8⟩ := fv_iff h6
    obtain ⟨h9, h10⟩ := fv_iff h8
    have h5 := fv_ble h5
    have h7 := fv_ltt h7
    have h9 := fv_ltt h9
    rw [fv_nth_eq, fv_nth_eq] at h9 h10
    have hil : i < (am_txt.getD (x / 8 - 3000) []).length := by
      by_cases z : i < (am_txt.getD (x / 8 - 3000) []).length
      · exact z
      · rw [fv_gd (by omega)] at h9
        omega
    have hlen : (am_txt.getD (x / 8 - 3000) []).length ≤ 1000000 := by
      have hall : am_txt.all (fun l => Nat.ble l.length 1000000) = true := by decide +kernel
      by_cases z : x / 8 - 3000 < am_txt.length
      · rw [List.getD_eq_getElem?_getD, List.getElem?_eq_getElem z]
        exact fv_ble (List.all_eq_true.mp hall _ (List.getElem_mem z))
      · rw [fv_gd (by omega)]
        decide
    refine ⟨_, _, n, t, iv, lv, h, h10, io, hl, hr, ?_⟩
    simp only [List.map_cons, hi, fv_d3 h3, fv_m0]
    show am_st lv h (if 3000 ≤ x / 8 ∧ x / 8 < 3000 + am_txt.length then match am_ix (Int32.ofNat i) (am_txt.getD (x / 8 - 3000) []).length with
      | some j => some (.int (nI ((am_txt.getD (x / 8 - 3000) []).getD j 0)) :: r.map (fv_de ρ))
      | none => none
      else none) = _
    rw [if_pos ⟨h5, by rw [fv_txt_len]; omega⟩, fv_ix hil hlen]
    have e : (am_txt.getD (x / 8 - 3000) []).getD i 0 = (am_txt.getD (x / 8 - 3000) []).getD i 256 := by
      exact fv_gdi hil
    show am_st lv h (some (.int (nI ((am_txt.getD (x / 8 - 3000) []).getD i 0)) :: r.map (fv_de ρ))) = _
    rw [e]
    rfl
  · obtain ⟨hx1, -, h3⟩ := fv_ref_ok (ρ := ρ) h4
    obtain ⟨c, z, s, h5, h6⟩ := fv_o_ok hr h3
    obtain ⟨h7, h8⟩ := fv_iff h5
    obtain ⟨h9, h10⟩ := fv_iff h8
    have h9 := fv_ltt h9
    have h7 := fv_beq h7
    rcases h6 with h6 | ⟨h6, h11, hz⟩
    · omega
    · subst h6 h7
      refine ⟨_, _, n, t, iv, lv, h, h10, io, hl, hr, ?_⟩
      simp only [List.map_cons, hi, hx1]
      show am_st lv h (am_gld (fun k => k == 102) h (.int (Int32.ofNat i) :: .ref (x / 8) :: r.map (fv_de ρ))) = _
      unfold am_gld
      simp only [h11]
      rw [if_pos (by decide), List.length_map, fv_ix h9 hz]
      simp only [fv_map_get h9]
      rfl
theorem fv_lens_get (k : Nat) : fv_nth fv_lens k 0 = (am_txt.getD k []).length := by
  rw [fv_nth_eq]
  unfold fv_lens
  rw [List.getD_eq_getElem?_getD, List.getD_eq_getElem?_getD, List.getElem?_map]
  cases am_txt[k]? <;> rfl
theorem fv_p_len (hρ2 : ρ 15 = Int32.ofNat sc.length) : fv_snd sc ρ .arraylength fv_len := by
  intro K e lvN st n t iv lv h hx io hl hr
  simp only [fv_len, fv_f_eq, fv_mul_h, fv_sub_h, fv_div_h, fv_mod_h] at hx
  obtain ⟨x, r, rfl, h1⟩ := fv_u_t hx
  rcases fv_ift h1 with ⟨h2, h3⟩ | ⟨-, h2⟩
  · have h2 := fv_beq h2
    obtain ⟨c, z, s, h5, h6⟩ := fv_o_ok hr h3
    obtain ⟨h7, h8⟩ := fv_iff h5
    obtain ⟨h9, h10⟩ := fv_ifn h8
    rcases h6 with h6 | ⟨h6, h11, hz⟩
    · exact absurd h6 (fv_bne h9)
    · subst h6
      refine ⟨_, _, n, t, iv, lv, h, h10, io, hl, hr, ?_⟩
      simp only [List.map_cons, fv_d2 h2, fv_m0]
      show am_st lv h (am_alen sc h (.ref (x / 8) :: r.map (fv_de ρ))) = _
      unfold am_alen
      simp only [h11]
      rw [if_pos ⟨fv_ble h7, fv_bne h9⟩, List.length_map]
      rfl
  · rcases fv_ift h2 with ⟨h3, h4⟩ | ⟨hne, h3⟩
    · cases fv_beq h3
      refine ⟨_, _, n, t, iv, lv, h, h4, io, hl, hr, ?_⟩
      have hs : fv_de ρ 16003 = .retAddr 2000 := rfl
      have h104 : fv_de ρ 121 = .int (ρ 15) := rfl
      simp only [List.map_cons, hs, h104]
      have ha : am_alen sc h (.retAddr 2000 :: r.map (fv_de ρ)) = some (.int (Int32.ofNat sc.length) :: r.map (fv_de ρ)) := rfl
      show am_st lv h (am_alen sc h (.retAddr 2000 :: r.map (fv_de ρ))) = _
      rw [ha, hρ2]
      rfl
    · rcases fv_ift h3 with ⟨h4, h5⟩ | ⟨hne2, h4⟩
      · cases fv_beq h4
        refine ⟨_, _, n, t, iv, lv, h, h5, io, hl, hr, ?_⟩
        rfl
      · obtain ⟨h5, h6⟩ := fv_iff h4
        obtain ⟨h7, h8⟩ := fv_iff h6
        obtain ⟨h9, h10⟩ := fv_iff h8
        have h5 := fv_beq h5
        have h7 := fv_ble h7
        have h9 := fv_ltt h9
        rw [fv_lens_get] at h10
        refine ⟨_, _, n, t, iv, lv, h, h10, io, hl, hr, ?_⟩
        simp only [List.map_cons, fv_d3 h5, fv_m0]
        show am_st lv h (am_alen sc h (.retAddr (x / 8) :: r.map (fv_de ρ))) = _
        unfold am_alen
        simp only
        rw [if_neg (by omega), if_neg (by omega), if_pos ⟨h7, by rw [fv_txt_len]; omega⟩]
        rfl
theorem fv_p_ast {a : Instr} {p : Nat → fv_T → Nat → Bool} {k : am_H → Nat → Value → Bool} (h199 : ∀ t v, p 199 t v = false) (hpk : ∀ c n t v h, fv_rel ρ n t h → p c t v = true → k h c (fv_de ρ v) = true) (hv : ∀ lv v i x r h, am_i1 sc a lv (v :: .int i :: .ref x :: r) h = am_sh lv (am_gst k h (v :: .int i :: .ref x :: r))) : fv_snd sc ρ a (fv_ast p) := by
  intro K e lvN st n t iv lv h hx io hl hr
  simp only [fv_ast] at hx
  obtain ⟨x, y, v, r, rfl, h1⟩ := fv_3_t hx
  obtain ⟨i, hi, h2⟩ := fv_int_ok (ρ := ρ) h1 io
  obtain ⟨hx1, -, h3⟩ := fv_ref_ok (ρ := ρ) h2
  obtain ⟨c, z, s, h5, h6⟩ := fv_o_ok hr h3
  obtain ⟨h7, h8⟩ := fv_iff h5
  obtain ⟨h9, h10⟩ := fv_iff h8
  have h9 := fv_ltt h9
  rcases h6 with h6 | ⟨h6, h11, hz⟩
  · subst h6
    rw [h199] at h7
    exact absurd h7 Bool.false_ne_true
  · subst h6
    have hob : fv_ob ρ (c, s.length, fv_set s i v) (c, (s.map (fv_de ρ)).set i (fv_de ρ v)) := ⟨rfl, by rw [fv_set_eq, List.length_set], fv_map_set, hz⟩
    refine ⟨_, _, n, _, iv, lv, _, h10, io, hl, fv_rel_set hr h11 hob (by simp), ?_⟩
    simp only [List.map_cons, hi, hx1, hv]
    unfold am_gst
    simp only [h11]
    rw [if_pos (hpk _ _ _ _ _ hr h7), List.length_map, fv_ix h9 hz]
    rfl
theorem fv_pI_ok {c n v : Nat} {t : fv_T} {h : am_H} (_ : fv_rel ρ n t h) (e : fv_pI c t v = true) : am_kI h c (fv_de ρ v) = true := by
  obtain ⟨h1, h2⟩ := fv_iff e
  obtain ⟨x, hx⟩ := fv_isI_t (ρ := ρ) h2
  cases fv_beq h1
  rw [hx]
  rfl
theorem fv_pJ_ok {c n v : Nat} {t : fv_T} {h : am_H} (_ : fv_rel ρ n t h) (e : fv_pJ c t v = true) : am_kJ h c (fv_de ρ v) = true := by
  obtain ⟨h1, h2⟩ := fv_iff e
  obtain ⟨x, hx⟩ := fv_isJ_t (ρ := ρ) h2
  cases fv_beq h1
  rw [hx]
  rfl
theorem fv_pZ_ok {c n v : Nat} {t : fv_T} {h : am_H} (_ : fv_rel ρ n t h) (e : fv_pZ c t v = true) : am_kZ h c (fv_de ρ v) = true := by
  obtain ⟨h1, h2⟩ := fv_iff e
  obtain ⟨x, hx, h01⟩ := fv_b01_t (ρ := ρ) h2
  cases fv_beq h1
  rw [hx]
  rcases h01 with rfl | rfl <;> rfl
theorem fv_pA_ok {c n v : Nat} {t : fv_T} {h : am_H} (r : fv_rel ρ n t h) (e : fv_pA c t v = true) : am_kA h c (fv_de ρ v) = true := by
  rcases fv_ift e with ⟨h1, h2⟩ | ⟨-, h2⟩
  · cases fv_beq h1
    obtain ⟨h3, h4⟩ := fv_iff h2
    obtain ⟨h5, -⟩ := fv_ifn h4
    have h3 := fv_ble h3
    have h5 := fv_bne h5
    show (decide (104 ≤ c) && decide (c ≠ 199)) = true
    simp [h3, h5]
  · obtain ⟨hv, -, h3⟩ := fv_ref_ok (ρ := ρ) h2
    obtain ⟨k, z, s, h5, h6⟩ := fv_o_ok r h3
    obtain ⟨h7, h8⟩ := fv_iff h5
    have h7 := fv_ltt h7
    rcases h6 with h6 | ⟨-, h6, -⟩
    · omega
    · rw [hv]
      show (match h[v / 8]? with
        | some o => decide (o.1 < 100) && (decide (c = 200 + o.1) || (decide (c = 104) && (o.1 == 4 || (o.1 == 5 || o.1 == 7))))
        | none => false) = true
      rw [h6]
      simp only [Bool.and_eq_true, Bool.or_eq_true, decide_eq_true_eq, beq_iff_eq]
      refine ⟨h7, ?_⟩
      rcases fv_ift h8 with ⟨h9, -⟩ | ⟨-, h9⟩
      · exact Or.inl (fv_beq h9)
      · obtain ⟨h10, h11⟩ := fv_iff h9
        refine Or.inr ⟨fv_beq h10, ?_⟩
        rcases fv_ift h11 with ⟨h12, -⟩ | ⟨-, h12⟩
        · exact Or.inl (fv_beq h12)
        · rcases fv_ift h12 with ⟨h13, -⟩ | ⟨-, h13⟩
          · exact Or.inr (Or.inl (fv_beq h13))
          · exact Or.inr (Or.inr (fv_beq h13))
theorem fv_mk_ok {c z n : Nat} {s : List Nat} {t : fv_T} {h : am_H} {k : Nat → Nat → fv_T → Bool} (r : fv_rel ρ n t h) (hz : z = s.length) (e : fv_mk c z s k n t = true) : z ≤ 1000000 ∧ ∃ v n2 t2, k v n2 t2 = true ∧ fv_de ρ v = .ref h.length ∧ fv_rel ρ n2 t2 (h ++ [(c, s.map (fv_de ρ))]) := by
  unfold fv_mk at e
  simp only [fv_f_eq, fv_mod_h, fv_mul_h, fv_add_h] at e
  obtain ⟨h1, h2⟩ := fv_iff e
  obtain ⟨h3, h4⟩ := fv_iff h2
  have h1 := fv_ltt h1
  have h3 := fv_ble h3
  refine ⟨h3, _, _, _, h4, ?_, fv_rel_push (q := (c, z, s)) r h1 ⟨rfl, hz, rfl, h3⟩⟩
  rw [fv_m2, r.2.1]
theorem fv_df_ok (ci : Nat) : (fv_df ci).map (fv_de ρ) = am_df ci := by
  unfold fv_df am_df
  split <;> rfl
theorem fv_p_new {ci : Nat} : fv_snd sc ρ (.new ci) (fv_new ci) := by
  intro K e lvN st n t iv lv h hx io hl hr
  simp only [fv_new, fv_f_eq] at hx
  obtain ⟨-, v, n2, t2, h1, h2, h3⟩ := fv_mk_ok hr rfl hx
  refine ⟨_, _, n2, t2, iv, lv, _, h1, io, hl, h3, ?_⟩
  rw [fv_df_ok, List.map_cons, h2]
  rfl
theorem fv_p_newa {a : Instr} {c v : Nat} {w : Value} (hw : fv_de ρ v = w) (hv : ∀ lv st h, am_i1 sc a lv st h = am_sh lv (am_mka c w h st)) : fv_snd sc ρ a (fv_newa c v) := by
  intro K e lvN st n t iv lv h hx io hl hr
  simp only [fv_newa] at hx
  obtain ⟨x, r, rfl, h1⟩ := fv_u_t hx
  obtain ⟨z, hz, h2⟩ := fv_int_ok (ρ := ρ) h1 io
  obtain ⟨h3, u, n2, t2, h4, h5, h6⟩ := fv_mk_ok hr (by rw [fv_rep_eq, List.length_replicate]) h2
  refine ⟨_, _, n2, t2, iv, lv, _, h4, io, hl, h6, ?_⟩
  have hi := fv_ix (i := z) (n := z + 1) (by omega)
  have h7 : z < 2 ^ 31 := by omega
  have h8 : ¬ Int32.ofNat z < 0 := fun y => by
    have z2 := Int32.lt_iff_toInt_lt.mp y
    rw [Int32.toInt_ofNat_of_lt h7] at z2
    have : (0 : Int32).toInt = 0 := rfl
    omega
  rw [hv, List.map_cons, List.map_cons, hz, h5]
  unfold am_mka
  simp only
  rw [Int32.toNatClampNeg_ofNat_of_lt h7, if_pos ⟨h8, h3⟩, fv_rep_eq, List.map_replicate, hw]
  rfl
theorem fv_p_cast {ci : Nat} : fv_snd sc ρ (.checkcast ci) (fv_cast ci) := by
  intro K e lvN st n t iv lv h hx io hl hr
  simp only [fv_cast] at hx
  obtain ⟨x, r, rfl, h1⟩ := fv_u_t hx
  rcases fv_ift h1 with ⟨h2, h3⟩ | ⟨-, h2⟩
  · cases fv_beq h2
    exact ⟨_, _, n, t, iv, lv, h, h3, io, hl, hr, rfl⟩
  · obtain ⟨hv, -, h3⟩ := fv_ref_ok (ρ := ρ) h2
    obtain ⟨c, z, s, h5, h6⟩ := fv_o_ok hr h3
    obtain ⟨h7, h8⟩ := fv_iff h5
    obtain ⟨h9, h10⟩ := fv_iff h8
    have h9 := fv_ltt h9
    rcases h6 with h6 | ⟨-, h6, -⟩
    · omega
    · refine ⟨_, _, n, t, iv, lv, h, h10, io, hl, hr, ?_⟩
      rw [List.map_cons, hv]
      show (match h[x / 8]? with
        | some o => if o.1 = ci then some (lv, Value.ref (x / 8) :: r.map (fv_de ρ), h) else none
        | none => none) = _
      rw [h6]
      simp only
      rw [if_pos (fv_beq h7)]
theorem fv_p_oi {k : Nat} : fv_snd sc ρ (.invokedynamic k) fv_oi := by
  intro K e lvN st n t iv lv h hx io hl hr
  simp only [fv_oi, fv_mod_h] at hx
  obtain ⟨x, r, rfl, h1⟩ := fv_u_t hx
  obtain ⟨h2, h3⟩ := fv_iff h1
  obtain ⟨h4, h5⟩ := fv_iff h3
  refine ⟨_, _, n, t, iv, lv, h, h5, io, hl, hr, ?_⟩
  rw [List.map_cons, fv_d2 (fv_beq h2)]
  show (if am_cs (r.map (fv_de ρ)) ≤ 8 then some (lv, r.map (fv_de ρ), h) else none) = _
  rw [if_pos (fv_cl_t h4)]
theorem fv_f2d_ok : FP.f2d FP.fconst0 &&& 0x7fffffffffffffff ≤ 0x7ff0000000000000 := by decide +kernel
theorem fv_p_f2d : fv_snd sc ρ .f2d fv_f2d := by
  intro K e lvN st n t iv lv h hx io hl hr
  simp only [fv_f2d] at hx
  obtain ⟨x, r, rfl, h1⟩ := fv_u_t hx
  obtain ⟨h2, h3⟩ := fv_iff h1
  cases fv_beq h2
  refine ⟨_, _, n, t, iv, lv, h, h3, io, hl, hr, ?_⟩
  show (if FP.f2d FP.fconst0 &&& 0x7fffffffffffffff ≤ 0x7ff0000000000000 then some (lv, Value.double (FP.f2d FP.fconst0) :: r.map (fv_de ρ), h) else none) = _
  rw [if_pos fv_f2d_ok]
  rfl
theorem fv_dcmp1 (op : CmpOp) : Op.cmpValue (FP.dcmp FP.dconst0 FP.dconst0) op = 0 := by cases op <;> decide +kernel
theorem fv_dcmp2 (op : CmpOp) : Op.cmpValue (FP.dcmp (FP.f2d FP.fconst0) (FP.f2d FP.fconst0)) op = 0 := by cases op <;> decide +kernel
theorem fv_p_dcmp {op : CmpOp} : fv_snd sc ρ (.dcmp op) fv_dcmp := by
  intro K e lvN st n t iv lv h hx io hl hr
  simp only [fv_dcmp] at hx
  obtain ⟨x, y, r, rfl, h1⟩ := fv_2_t hx
  obtain ⟨h2, h3⟩ := fv_iff h1
  obtain ⟨h4, h5⟩ := fv_iff h3
  have hxy := fv_beq h2
  refine ⟨_, _, n, t, iv, lv, h, h5, io, hl, hr, ?_⟩
  rcases fv_isD_t (ρ := ρ) h4 with ⟨h6, h7⟩ | ⟨h6, h7⟩
  · rw [← hxy, List.map_cons, List.map_cons, h7]
    show some (lv, Value.int (Op.cmpValue (FP.dcmp FP.dconst0 FP.dconst0) op) :: r.map (fv_de ρ), h) = _
    rw [fv_dcmp1]
    rfl
  · rw [← hxy, List.map_cons, List.map_cons, h7]
    show some (lv, Value.int (Op.cmpValue (FP.dcmp (FP.f2d FP.fconst0) (FP.f2d FP.fconst0)) op) :: r.map (fv_de ρ), h) = _
    rw [fv_dcmp2]
    rfl
end FVH
