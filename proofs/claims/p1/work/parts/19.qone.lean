variable {sc : List Int32}
/-! THE QUICK MACHINE: each instruction does what the abstract machine's does -/
def fv_snd (sc : List Int32) (ρ : Nat → Int32) (a : Instr) (X : fv_C → fv_C) : Prop := ∀ (K : fv_C) (e : fv_E) (lvN st : List Nat) (n : Nat) (t : fv_T) (iv : fv_Iv) (lv : am_V) (h : am_H), X K e lvN st n t iv = true → fv_iok ρ iv → fv_L ρ lvN lv → fv_rel ρ n t h →
  ∃ (lvN2 st2 : List Nat) (n2 : Nat) (t2 : fv_T) (iv2 : fv_Iv) (lv2 : am_V) (h2 : am_H), K e lvN2 st2 n2 t2 iv2 = true ∧ fv_iok ρ iv2 ∧ fv_L ρ lvN2 lv2 ∧ fv_rel ρ n2 t2 h2 ∧ am_i1 sc a lv (st.map (fv_de ρ)) h = some (lv2, st2.map (fv_de ρ), h2)
section FVI
variable {ρ : Nat → Int32}
theorem fv_p_no {a : Instr} : fv_snd sc ρ a fv_no := by
  intro K e lvN st n t iv lv h hx
  exact absurd hx Bool.false_ne_true
theorem fv_p_push {a : Instr} {v : Nat} (hv : ∀ lv st h, am_i1 sc a lv st h = some (lv, fv_de ρ v :: st, h)) : fv_snd sc ρ a (fv_push v) := by
  intro K e lvN st n t iv lv h hx io hl hr
  simp only [fv_push, fv_f_eq] at hx
  exact ⟨lvN, _, n, t, iv, lv, h, hx, io, hl, hr, hv lv _ h⟩
theorem fv_p_load {a : Instr} {p : Nat → Bool} {i : Nat} (h7 : p 7 = false) (hv : ∀ v lv st h, p v = true → am_ld lv i = some (fv_de ρ v) → am_i1 sc a lv st h = some (lv, fv_de ρ v :: st, h)) : fv_snd sc ρ a (fv_load p i) := by
  intro K e lvN st n t iv lv h hx io hl hr
  simp only [fv_load, fv_f_eq] at hx
  obtain ⟨h1, h2⟩ := fv_iff hx
  rw [fv_nth_eq] at h1 h2
  refine ⟨lvN, _, n, t, iv, lv, h, h2, io, hl, hr, hv _ lv _ h h1 (hl i fun z => ?_)⟩
  rw [z, h7] at h1
  exact absurd h1 Bool.false_ne_true
theorem fv_p_store {a : Instr} {p : Nat → Bool} {i : Nat} (hv : ∀ v lv st h, p v = true → am_i1 sc a lv (fv_de ρ v :: st) h = some (am_s1 lv i (fv_de ρ v), st, h)) : fv_snd sc ρ a (fv_store p i) := by
  intro K e lvN st n t iv lv h hx io hl hr
  simp only [fv_store] at hx
  obtain ⟨v, r, rfl, hy⟩ := fv_u_t hx
  obtain ⟨h1, h2⟩ := fv_iff hy
  exact ⟨_, _, n, t, iv, _, h, h2, io, fv_L_s1 hl, hr, hv v lv _ h h1⟩
theorem fv_p_store2 {a : Instr} {p : Nat → Bool} {i : Nat} (hv : ∀ v lv st h, p v = true → am_i1 sc a lv (fv_de ρ v :: st) h = some (am_s2 lv i (fv_de ρ v), st, h)) : fv_snd sc ρ a (fv_store2 p i) := by
  intro K e lvN st n t iv lv h hx io hl hr
  simp only [fv_store2] at hx
  obtain ⟨v, r, rfl, hy⟩ := fv_u_t hx
  obtain ⟨h1, h2⟩ := fv_iff hy
  exact ⟨_, _, n, t, iv, _, h, h2, io, fv_L_s2 hl, hr, hv v lv _ h h1⟩
/-- what the table says of the unknowns -/
def fv_opc (op : Nat) : Instr := match op with
  | 1 => .imul
  | 2 => .iadd
  | 3 => .iushr
  | 4 => .irem
  | 5 => .lshl
  | 6 => .land
  | _ => .lor
def fv_ts (ρ : Nat → Int32) : Prop := ∀ q ∈ fv_tbl, ∀ (sc : List Int32) (lv : am_V) (r : List Value) (h : am_H), am_i1 sc (fv_opc q.1) lv (fv_de ρ q.2.2.1 :: fv_de ρ q.2.1 :: r) h = some (lv, fv_de ρ q.2.2.2 :: r, h)
theorem fv_p_tbo {op : Nat} (hts : fv_ts ρ) : fv_snd sc ρ (fv_opc op) (fv_tbo op) := by
  intro K e lvN st n t iv lv h hx io hl hr
  simp only [fv_tbo] at hx
  obtain ⟨x, y, q, rfl, h1⟩ := fv_2_t hx
  rcases fv_lk_ok h1 with ⟨r, h2, h3⟩ | h2
  · refine ⟨_, _, n, t, iv, lv, h, h3, io, hl, hr, ?_⟩
    simp only [List.map_cons]
    exact hts _ h2 sc lv _ h
  · exact absurd h2 Bool.false_ne_true
theorem fv_p_iinc {i : Nat} {m : Int} (hts : fv_ts ρ) : fv_snd sc ρ (.iinc i m) (fv_iinc i (fv_ni m)) := by
  intro K e lvN st n t iv lv h hx io hl hr
  simp only [fv_iinc, fv_f_eq, fv_mul_h, fv_mod_h, fv_add_h] at hx
  have hv : ∀ x, am_ld lv i = some (.int x) → am_i1 sc (.iinc i m) lv (st.map (fv_de ρ)) h = some (am_s1 lv i (.int (x + Int32.ofInt m)), st.map (fv_de ρ), h) := fun x hld => by
    show (match am_ld lv i with
      | some (.int x) => some (am_s1 lv i (.int (x + Int32.ofInt m)), st.map (fv_de ρ), h)
      | _ => none) = _
    rw [hld]
  have old : fv_int iv (fv_nth lvN i 7) (fun a => K e (fv_s1 lvN i (8 * ((a + fv_ni m) % 4294967296))) st n t iv) = true → ∃ (lvN2 st2 : List Nat) (n2 : Nat) (t2 : fv_T) (iv2 : fv_Iv) (lv2 : am_V) (h2 : am_H), K e lvN2 st2 n2 t2 iv2 = true ∧ fv_iok ρ iv2 ∧ fv_L ρ lvN2 lv2 ∧ fv_rel ρ n2 t2 h2 ∧ am_i1 sc (.iinc i m) lv (st.map (fv_de ρ)) h = some (lv2, st2.map (fv_de ρ), h2) := fun hx => by
    obtain ⟨a, h1, h2⟩ := fv_int_ok (ρ := ρ) hx io
    rw [fv_nth_eq] at h1
    have hld := hl i fun z => by rw [z] at h1; cases h1
    rw [h1] at hld
    refine ⟨_, _, n, t, iv, _, h, h2, io, fv_L_s1 hl, hr, ?_⟩
    rw [hv _ hld, fv_m0, fv_add32, ← fv_ni_eq]
  rcases fv_ift hx with ⟨h0, h1⟩ | ⟨-, h1⟩
  · rcases fv_lk_ok h1 with ⟨r, h2, h3⟩ | h2
    · have h0 := fv_beq h0
      rw [fv_nth_eq] at h0 h2
      have hld := hl i fun z => by rw [z] at h0; cases h0
      rw [fv_d1 h0] at hld
      have hq := hts _ h2 sc lv [] h
      simp only [fv_d1 h0, fv_m0] at hq
      have hq : some (lv, [Value.int (ρ (lvN.getD i 7 / 8) + Int32.ofNat (fv_ni m))], h) = some (lv, [fv_de ρ r], h) := hq
      have hr2 : fv_de ρ r = .int (ρ (lvN.getD i 7 / 8) + Int32.ofNat (fv_ni m)) := by
        simp only [Option.some.injEq, Prod.mk.injEq, List.cons.injEq, and_true, true_and] at hq
        exact hq.symm
      refine ⟨_, _, n, t, iv, _, h, h3, io, fv_L_s1 hl, hr, ?_⟩
      rw [hv _ hld, hr2, ← fv_ni_eq]
    · exact old h2
  · exact old h1
theorem fv_p_op {a : Instr} {f : Nat → Nat → Nat} {g : Int32 → Int32 → Int32} (hf : ∀ x y, Int32.ofNat (f x y) = g (Int32.ofNat x) (Int32.ofNat y)) (hv : ∀ lv x y r h, am_i1 sc a lv (.int y :: .int x :: r) h = some (lv, .int (g x y) :: r, h)) : fv_snd sc ρ a (fv_op f) := by
  intro K e lvN st n t iv lv h hx io hl hr
  simp only [fv_op, fv_f_eq, fv_mul_h] at hx
  obtain ⟨x, y, q, rfl, h1⟩ := fv_2_t hx
  obtain ⟨x1, hx1, h2⟩ := fv_int_ok (ρ := ρ) h1 io
  obtain ⟨y1, hy1, h3⟩ := fv_int_ok (ρ := ρ) h2 io
  refine ⟨_, _, n, t, iv, lv, h, h3, io, hl, hr, ?_⟩
  simp only [List.map_cons, hx1, hy1, fv_m0, hv, hf]
theorem fv_p_iadd (hts : fv_ts ρ) : fv_snd sc ρ .iadd fv_iadd := by
  intro K e lvN st n t iv lv h hx io hl hr
  simp only [fv_iadd, fv_f_eq, fv_mul_h, fv_mod_h, fv_add_h] at hx
  obtain ⟨x, y, q, rfl, h1⟩ := fv_2_t hx
  have hv : ∀ x y r, am_i1 sc .iadd lv (.int y :: .int x :: r) h = some (lv, .int (x + y) :: r, h) := fun _ _ _ => rfl
  rcases fv_ift h1 with ⟨h0, h1⟩ | ⟨-, h1⟩
  · cases fv_beq h0
    obtain ⟨h2, h3⟩ := fv_iff h1
    obtain ⟨z, hz⟩ := fv_isI_t (ρ := ρ) h2
    refine ⟨_, _, n, t, iv, lv, h, h3, io, hl, hr, ?_⟩
    have h00 : fv_de ρ 0 = .int 0 := rfl
    simp only [List.map_cons, hz, h00, hv, Int32.zero_add]
  · rcases fv_ift h1 with ⟨h0, h1⟩ | ⟨-, h1⟩
    · cases fv_beq h0
      obtain ⟨h2, h3⟩ := fv_iff h1
      obtain ⟨z, hz⟩ := fv_isI_t (ρ := ρ) h2
      refine ⟨_, _, n, t, iv, lv, h, h3, io, hl, hr, ?_⟩
      have h00 : fv_de ρ 0 = .int 0 := rfl
      simp only [List.map_cons, hz, h00, hv, Int32.add_zero]
    have old : fv_int iv x (fun a => fv_int iv y (fun b => K e lvN (8 * ((a + b) % 4294967296) :: q) n t iv)) = true → ∃ (lvN2 st2 : List Nat) (n2 : Nat) (t2 : fv_T) (iv2 : fv_Iv) (lv2 : am_V) (h2 : am_H), K e lvN2 st2 n2 t2 iv2 = true ∧ fv_iok ρ iv2 ∧ fv_L ρ lvN2 lv2 ∧ fv_rel ρ n2 t2 h2 ∧ am_i1 sc .iadd lv ((y :: x :: q).map (fv_de ρ)) h = some (lv2, st2.map (fv_de ρ), h2) := fun h1 => by
      obtain ⟨x1, hx1, h2⟩ := fv_int_ok (ρ := ρ) h1 io
      obtain ⟨y1, hy1, h3⟩ := fv_int_ok (ρ := ρ) h2 io
      refine ⟨_, _, n, t, iv, lv, h, h3, io, hl, hr, ?_⟩
      simp only [List.map_cons, hx1, hy1, fv_m0, hv, fv_add32]
    rcases fv_ift h1 with ⟨h0, h1⟩ | ⟨-, h1⟩
    · rcases fv_lk_ok h1 with ⟨r, h2, h3⟩ | h2
      · refine ⟨_, _, n, t, iv, lv, h, h3, io, hl, hr, ?_⟩
        simp only [List.map_cons]
        exact hts _ h2 sc lv _ h
      · exact old h2
    · exact old h1
theorem fv_p_isub : fv_snd sc ρ .isub fv_isub := by
  intro K e lvN st n t iv lv h hx io hl hr
  simp only [fv_isub, fv_f_eq, fv_mul_h, fv_mod_h, fv_add_h, fv_sub_h] at hx
  obtain ⟨x, y, q, rfl, h1⟩ := fv_2_t hx
  have hv : ∀ x y r, am_i1 sc .isub lv (.int y :: .int x :: r) h = some (lv, .int (x - y) :: r, h) := fun _ _ _ => rfl
  rcases fv_ift h1 with ⟨h0, h1⟩ | ⟨-, h1⟩
  · cases fv_beq h0
    obtain ⟨h2, h3⟩ := fv_iff h1
    obtain ⟨z, hz⟩ := fv_isI_t (ρ := ρ) h2
    refine ⟨_, _, n, t, iv, lv, h, h3, io, hl, hr, ?_⟩
    have h00 : fv_de ρ 0 = .int 0 := rfl
    simp only [List.map_cons, hz, h00, hv, Int32.sub_zero]
  · obtain ⟨x1, hx1, h2⟩ := fv_int_ok (ρ := ρ) h1 io
    obtain ⟨y1, hy1, h3⟩ := fv_int_ok (ρ := ρ) h2 io
    refine ⟨_, _, n, t, iv, lv, h, h3, io, hl, hr, ?_⟩
    simp only [List.map_cons, hx1, hy1, fv_m0, hv, fv_sub32]
theorem fv_p_iand (hρ : ρ 13 = ρ 0 &&& 63) : fv_snd sc ρ .iand fv_iand := by
  intro K e lvN st n t iv lv h hx io hl hr
  simp only [fv_iand, fv_f_eq, fv_mul_h] at hx
  obtain ⟨x, y, q, rfl, h1⟩ := fv_2_t hx
  have hv : ∀ x y r, am_i1 sc .iand lv (.int y :: .int x :: r) h = some (lv, .int (x &&& y) :: r, h) := fun _ _ _ => rfl
  rcases fv_ift h1 with ⟨h0, h1⟩ | ⟨-, h1⟩
  · cases fv_beq h0
    obtain ⟨h2, h3⟩ := fv_iff h1
    cases fv_beq h2
    refine ⟨_, _, n, t, iv, lv, h, h3, io, hl, hr, ?_⟩
    have h1 : fv_de ρ 1 = .int (ρ 0) := rfl
    have h63 : fv_de ρ 504 = .int 63 := rfl
    have h13 : fv_de ρ 105 = .int (ρ 13) := rfl
    simp only [List.map_cons, h1, h63, h13, hv, hρ]
  · obtain ⟨x1, hx1, h2⟩ := fv_int_ok (ρ := ρ) h1 io
    obtain ⟨y1, hy1, h3⟩ := fv_int_ok (ρ := ρ) h2 io
    refine ⟨_, _, n, t, iv, lv, h, h3, io, hl, hr, ?_⟩
    have ha : Int32.ofNat (x1.land y1) = Int32.ofNat x1 &&& Int32.ofNat y1 := fv_and32 x1 y1
    simp only [List.map_cons, hx1, hy1, fv_m0, hv, ha]
theorem fv_p_ishr : fv_snd sc ρ .ishr fv_ishr := by
  intro K e lvN st n t iv lv h hx io hl hr
  simp only [fv_ishr] at hx
  obtain ⟨x, y, q, rfl, h1⟩ := fv_2_t hx
  have hv : ∀ x y r, am_i1 sc .ishr lv (.int y :: .int x :: r) h = some (lv, .int (x >>> (y &&& 31)) :: r, h) := fun _ _ _ => rfl
  obtain ⟨h0, hb⟩ := fv_iff h1
  obtain ⟨h2, h3⟩ := fv_iff hb
  cases fv_beq h0
  obtain ⟨z, hz⟩ := fv_isI_t (ρ := ρ) h2
  refine ⟨_, _, n, t, iv, lv, h, h3, io, hl, hr, ?_⟩
  have h00 : fv_de ρ 0 = .int 0 := rfl
  have h31 : (0 : Int32) &&& 31 = 0 := rfl
  simp only [List.map_cons, hz, h00, hv, h31, Int32.shiftRight_zero]
theorem fv_p_idiv : fv_snd sc ρ .idiv fv_idiv := by
  intro K e lvN st n t iv lv h hx io hl hr
  simp only [fv_idiv, fv_f_eq, fv_mul_h, fv_div_h] at hx
  obtain ⟨x, y, q, rfl, h1⟩ := fv_2_t hx
  obtain ⟨x1, hx1, h2⟩ := fv_int_ok (ρ := ρ) h1 io
  obtain ⟨y1, hy1, h3⟩ := fv_int_ok (ρ := ρ) h2 io
  obtain ⟨h4, h5⟩ := fv_iff h3
  obtain ⟨h6, h7⟩ := fv_iff h5
  obtain ⟨h8, h9⟩ := fv_ifn h7
  have g4 := fv_ltt h4
  have g6 := fv_ltt h6
  have g8 := fv_bne h8
  have hne : ¬ Int32.ofNat y1 = 0 := fun z => by
    have z2 := fv_of_inj.2 z
    rw [fv_of_nat] at z2
    have z3 : fv_of 0 = 2147483648 := rfl
    omega
  refine ⟨_, _, n, t, iv, lv, h, h9, io, hl, hr, ?_⟩
  simp only [List.map_cons, hx1, hy1, fv_m0]
  show (if Int32.ofNat y1 = 0 then none else some (lv, .int (Int32.ofNat x1 / Int32.ofNat y1) :: q.map (fv_de ρ), h)) = _
  rw [if_neg hne, Int32.ofNat_div (by omega) (by omega)]
theorem fv_p_lop {a : Instr} {f : Nat → Nat → Nat} {g : Int64 → Int64 → Int64} (hf : ∀ x y, Int64.ofNat (f x y) = g (Int64.ofNat x) (Int64.ofNat y)) (hv : ∀ lv x y r h, am_i1 sc a lv (.long y :: .long x :: r) h = some (lv, .long (g x y) :: r, h)) : fv_snd sc ρ a (fv_lop f) := by
  intro K e lvN st n t iv lv h hx io hl hr
  simp only [fv_lop, fv_f_eq, fv_mul_h, fv_add_h] at hx
  obtain ⟨x, y, q, rfl, h1⟩ := fv_2_t hx
  obtain ⟨hx1, -, h2⟩ := fv_lng_ok (ρ := ρ) h1
  obtain ⟨hy1, -, h3⟩ := fv_lng_ok (ρ := ρ) h2
  refine ⟨_, _, n, t, iv, lv, h, h3, io, hl, hr, ?_⟩
  simp only [List.map_cons, hx1, hy1, fv_m5, hv, hf]
theorem fv_p_land (hts : fv_ts ρ) : fv_snd sc ρ .land fv_land := by
  intro K e lvN st n t iv lv h hx io hl hr
  simp only [fv_land, fv_f_eq, fv_mul_h, fv_add_h] at hx
  obtain ⟨x, y, q, rfl, h1⟩ := fv_2_t hx
  have hv : ∀ x y r, am_i1 sc .land lv (.long y :: .long x :: r) h = some (lv, .long (x &&& y) :: r, h) := fun _ _ _ => rfl
  rcases fv_ift h1 with ⟨-, h1⟩ | ⟨-, h1⟩
  · obtain ⟨hx1, -, h2⟩ := fv_lng_ok (ρ := ρ) h1
    obtain ⟨hy1, -, h3⟩ := fv_lng_ok (ρ := ρ) h2
    refine ⟨_, _, n, t, iv, lv, h, h3, io, hl, hr, ?_⟩
    have ha : Int64.ofNat ((x / 8).land (y / 8)) = Int64.ofNat (x / 8) &&& Int64.ofNat (y / 8) := fv_and64 _ _
    simp only [List.map_cons, hx1, hy1, fv_m5, hv, ha]
  · rcases fv_lk_ok h1 with ⟨r, h2, h3⟩ | h2
    · refine ⟨_, _, n, t, iv, lv, h, h3, io, hl, hr, ?_⟩
      simp only [List.map_cons]
      exact hts _ h2 sc lv _ h
    · exact absurd h2 Bool.false_ne_true
theorem fv_p_ladd : fv_snd sc ρ .ladd fv_ladd := by
  intro K e lvN st n t iv lv h hx io hl hr
  simp only [fv_ladd, fv_f_eq, fv_mul_h, fv_mod_h, fv_add_h] at hx
  obtain ⟨x, y, q, rfl, h1⟩ := fv_2_t hx
  have hv : ∀ x y r, am_i1 sc .ladd lv (.long y :: .long x :: r) h = some (lv, .long (x + y) :: r, h) := fun _ _ _ => rfl
  have h00 : fv_de ρ 5 = .long 0 := rfl
  rcases fv_ift h1 with ⟨h0, h1⟩ | ⟨-, h1⟩
  · cases fv_beq h0
    obtain ⟨h2, h3⟩ := fv_iff h1
    obtain ⟨z, hz⟩ := fv_isJ_t (ρ := ρ) h2
    refine ⟨_, _, n, t, iv, lv, h, h3, io, hl, hr, ?_⟩
    simp only [List.map_cons, hz, h00, hv, Int64.zero_add]
  · rcases fv_ift h1 with ⟨h0, h1⟩ | ⟨-, h1⟩
    · cases fv_beq h0
      obtain ⟨h2, h3⟩ := fv_iff h1
      obtain ⟨z, hz⟩ := fv_isJ_t (ρ := ρ) h2
      refine ⟨_, _, n, t, iv, lv, h, h3, io, hl, hr, ?_⟩
      simp only [List.map_cons, hz, h00, hv, Int64.add_zero]
    · obtain ⟨hx1, -, h2⟩ := fv_lng_ok (ρ := ρ) h1
      obtain ⟨hy1, -, h3⟩ := fv_lng_ok (ρ := ρ) h2
      refine ⟨_, _, n, t, iv, lv, h, h3, io, hl, hr, ?_⟩
      simp only [List.map_cons, hx1, hy1, fv_m5, hv, fv_add64]
theorem fv_p_lushr : fv_snd sc ρ .lushr fv_lushr := by
  intro K e lvN st n t iv lv h hx io hl hr
  simp only [fv_lushr] at hx
  obtain ⟨x, y, q, rfl, h1⟩ := fv_2_t hx
  have hv : ∀ x y r, am_i1 sc .lushr lv (.int y :: .long x :: r) h = some (lv, .long (x.toUInt64 >>> (y.toInt64.toUInt64 &&& Int64.toUInt64 63)).toInt64 :: r, h) := fun _ _ _ => rfl
  obtain ⟨h0, hb⟩ := fv_iff h1
  obtain ⟨h2, h3⟩ := fv_iff hb
  cases fv_beq h0
  obtain ⟨z, hz⟩ := fv_isI_t (ρ := ρ) h2
  refine ⟨_, _, n, t, iv, lv, h, h3, io, hl, hr, ?_⟩
  have h00 : fv_de ρ 5 = .long 0 := rfl
  have hz2 : ((0 : Int64).toUInt64 >>> (z.toInt64.toUInt64 &&& Int64.toUInt64 63)).toInt64 = 0 := by
    rw [show (0 : Int64).toUInt64 = 0 from rfl, UInt64.zero_shiftRight]
    rfl
  simp only [List.map_cons, hz, h00, hv, hz2]
theorem fv_sx1 {a : Nat} (h : a % 4294967296 < 2147483648) : (Int32.ofNat a).toInt64 = Int64.ofNat (a % 4294967296) := by
  rw [← fv_m32 a, Int32.toInt64_ofNat' (by show ((a % 4294967296 : Nat) : Int) ≤ 2147483647; omega)]
theorem fv_sx2 {a : Nat} (h : 2147483648 ≤ a % 4294967296) : (Int32.ofNat a).toInt64 = Int64.ofNat (a % 4294967296 + 18446744069414584320) := by
  apply Int64.toInt_inj.1
  rw [Int32.toInt_toInt64, Int32.toInt_ofNat', Int64.toInt_ofNat']
  have h1 : (a : Int).bmod Int32.size = (a : Int).bmod 4294967296 := rfl
  have h2 : ((a % 4294967296 + 18446744069414584320 : Nat) : Int).bmod Int64.size = ((a % 4294967296 + 18446744069414584320 : Nat) : Int).bmod 18446744073709551616 := rfl
  rw [h1, h2, Int.bmod_def, Int.bmod_def]
  split <;> split <;> omega
theorem fv_p_i2l : fv_snd sc ρ .i2l fv_i2l := by
  intro K e lvN st n t iv lv h hx io hl hr
  simp only [fv_i2l, fv_f_eq, fv_mul_h, fv_mod_h, fv_add_h, fv_div_h] at hx
  obtain ⟨x, q, rfl, h1⟩ := fv_u_t hx
  have hv : ∀ x r, am_i1 sc .i2l lv (.int x :: r) h = some (lv, .long x.toInt64 :: r, h) := fun _ _ => rfl
  rcases fv_ift h1 with ⟨h0, h1⟩ | ⟨-, h1⟩
  · have h0 := fv_beq h0
    rcases fv_ift h1 with ⟨h2, h3⟩ | ⟨h2, h3⟩
    · refine ⟨_, _, n, t, iv, lv, h, h3, io, hl, hr, ?_⟩
      simp only [List.map_cons, fv_d0 h0, hv, fv_m5, fv_sx1 (fv_ltt h2)]
    · refine ⟨_, _, n, t, iv, lv, h, h3, io, hl, hr, ?_⟩
      simp only [List.map_cons, fv_d0 h0, hv, fv_m5, fv_sx2 (fv_ltf h2)]
  · obtain ⟨h0, h3⟩ := fv_iff h1
    have h0 := fv_beq h0
    refine ⟨_, _, n, t, iv, lv, h, h3, io, hl, hr, ?_⟩
    simp only [List.map_cons, fv_d1 h0, hv, fv_d6 (show (x + 5) % 8 = 6 by omega), show (x + 5) / 8 = x / 8 by omega]
theorem fv_p_l2i : fv_snd sc ρ .l2i fv_l2i := by
  intro K e lvN st n t iv lv h hx io hl hr
  simp only [fv_l2i, fv_f_eq, fv_mul_h, fv_mod_h, fv_sub_h, fv_div_h] at hx
  obtain ⟨x, q, rfl, h1⟩ := fv_u_t hx
  have hv : ∀ x r, am_i1 sc .l2i lv (.long x :: r) h = some (lv, .int x.toInt32 :: r, h) := fun _ _ => rfl
  rcases fv_ift h1 with ⟨h0, h3⟩ | ⟨-, h1⟩
  · have h0 := fv_beq h0
    refine ⟨_, _, n, t, iv, lv, h, h3, io, hl, hr, ?_⟩
    simp only [List.map_cons, fv_d5 h0, hv, fv_m0, fv_m32, Int64.toInt32_ofNat']
  · obtain ⟨h0, h3⟩ := fv_iff h1
    have h0 := fv_beq h0
    refine ⟨_, _, n, t, iv, lv, h, h3, io, hl, hr, ?_⟩
    simp only [List.map_cons, fv_d6 h0, hv, fv_d1 (show (x - 5) % 8 = 1 by omega), show (x - 5) / 8 = x / 8 by omega, Int32.toInt32_toInt64]
theorem fv_p_i2c : fv_snd sc ρ .i2c fv_i2c := by
  intro K e lvN st n t iv lv h hx io hl hr
  simp only [fv_i2c, fv_f_eq, fv_mul_h, fv_mod_h] at hx
  obtain ⟨x, q, rfl, h1⟩ := fv_u_t hx
  obtain ⟨a, h2, h3⟩ := fv_int_ok (ρ := ρ) h1 io
  refine ⟨_, _, n, t, iv, lv, h, h3, io, hl, hr, ?_⟩
  have hv : ∀ x r, am_i1 sc .i2c lv (.int x :: r) h = some (lv, .int (x.toUInt32 % 65536).toInt32 :: r, h) := fun _ _ => rfl
  have ha : ((Int32.ofNat a).toUInt32 % 65536).toInt32 = Int32.ofNat (a % 65536) := by
    have e : (UInt32.ofNat a % 65536) = UInt32.ofNat (a % 65536) := by
      apply UInt32.toNat_inj.1
      rw [UInt32.toNat_mod, UInt32.toNat_ofNat', UInt32.toNat_ofNat']
      show a % 4294967296 % 65536 = a % 65536 % 4294967296
      omega
    show (UInt32.ofNat a % 65536).toInt32 = _
    rw [e]
    rfl
  simp only [List.map_cons, h2, hv, fv_m0, ha]
theorem fv_p_dup : fv_snd sc ρ .dup fv_dup := by
  intro K e lvN st n t iv lv h hx io hl hr
  simp only [fv_dup] at hx
  obtain ⟨v, r, rfl, h1⟩ := fv_u_t hx
  obtain ⟨h2, h3⟩ := fv_iff h1
  refine ⟨_, _, n, t, iv, lv, h, h3, io, hl, hr, ?_⟩
  show (if (fv_de ρ v).category = 1 then _ else none) = _
  rw [if_pos (fv_c1_t h2)]
  rfl
theorem fv_p_pop : fv_snd sc ρ .pop fv_pop := by
  intro K e lvN st n t iv lv h hx io hl hr
  simp only [fv_pop] at hx
  obtain ⟨v, r, rfl, h1⟩ := fv_u_t hx
  obtain ⟨h2, h3⟩ := fv_iff h1
  refine ⟨_, _, n, t, iv, lv, h, h3, io, hl, hr, ?_⟩
  show (if (fv_de ρ v).category = 1 then _ else none) = _
  rw [if_pos (fv_c1_t h2)]
theorem fv_p_dupx : fv_snd sc ρ .dup_x1 fv_dupx := by
  intro K e lvN st n t iv lv h hx io hl hr
  simp only [fv_dupx] at hx
  obtain ⟨w, v, r, rfl, h1⟩ := fv_2_t hx
  obtain ⟨h2, h3⟩ := fv_iff h1
  obtain ⟨h4, h5⟩ := fv_iff h3
  refine ⟨_, _, n, t, iv, lv, h, h5, io, hl, hr, ?_⟩
  show (if (fv_de ρ v).category = 1 ∧ (fv_de ρ w).category = 1 then _ else none) = _
  rw [if_pos ⟨fv_c1_t h2, fv_c1_t h4⟩]
  rfl
end FVI
