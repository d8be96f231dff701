variable {sc : List Int32}
/-! THE QUICK MACHINE: what its words mean -/
theorem fv_ift {b x y : Bool} (h : fv_if b x y = true) : (b = true ∧ x = true) ∨ (b = false ∧ y = true) := by
  cases b
  · exact Or.inr ⟨rfl, h⟩
  · exact Or.inl ⟨rfl, h⟩
theorem fv_iff {b x : Bool} (h : fv_if b x false = true) : b = true ∧ x = true := by
  cases b
  · exact absurd h Bool.false_ne_true
  · exact ⟨rfl, h⟩
theorem fv_ifn {b y : Bool} (h : fv_if b false y = true) : b = false ∧ y = true := by
  cases b
  · exact ⟨rfl, h⟩
  · exact absurd h Bool.false_ne_true
theorem fv_f_eq (x : Nat) (k : Nat → Bool) : fv_f x k = k x := by cases x <;> rfl
theorem fv_mod_h (a b : Nat) : Nat.mod a b = a % b := by cases b <;> rfl
theorem fv_div_h (a b : Nat) : Nat.div a b = a / b := by cases b <;> rfl
theorem fv_add_h (a b : Nat) : Nat.add a b = a + b := by cases b <;> rfl
theorem fv_mul_h (a b : Nat) : Nat.mul a b = a * b := by cases b <;> rfl
theorem fv_sub_h (a b : Nat) : Nat.sub a b = a - b := by cases b <;> rfl
theorem fv_u_t {l : List Nat} {k : Nat → List Nat → Bool} (h : fv_u l k = true) : ∃ a r, l = a :: r ∧ k a r = true := by
  cases l with
  | nil => exact absurd h Bool.false_ne_true
  | cons a r => exact ⟨a, r, rfl, h⟩
theorem fv_e_t {l : List Nat} {k : Bool} (h : fv_e l k = true) : l = [] ∧ k = true := by
  cases l with
  | nil => exact ⟨rfl, h⟩
  | cons a r => exact absurd h Bool.false_ne_true
theorem fv_2_t {st : List Nat} {k : Nat → Nat → List Nat → Bool} (h : fv_2 st k = true) : ∃ x y q, st = y :: x :: q ∧ k x y q = true := by
  obtain ⟨y, r, h1, h⟩ := fv_u_t h
  obtain ⟨x, q, h2, h⟩ := fv_u_t h
  exact ⟨x, y, q, by rw [h1, h2], h⟩
theorem fv_3_t {st : List Nat} {k : Nat → Nat → Nat → List Nat → Bool} (h : fv_3 st k = true) : ∃ x y v q, st = v :: y :: x :: q ∧ k x y v q = true := by
  obtain ⟨v, r, h1, h⟩ := fv_u_t h
  obtain ⟨y, r2, h2, h⟩ := fv_u_t h
  obtain ⟨x, q, h3, h⟩ := fv_u_t h
  exact ⟨x, y, v, q, by rw [h1, h2, h3], h⟩
theorem fv_nth_eq {α : Type} {l : List α} {i : Nat} {d : α} : fv_nth l i d = l.getD i d := by
  induction l generalizing i with
  | nil => rfl
  | cons a r ih =>
    cases i with
    | zero => rfl
    | succ m => exact ih
theorem fv_set_eq {α : Type} {l : List α} {i : Nat} {x : α} : fv_set l i x = l.set i x := by
  induction l generalizing i with
  | nil => rfl
  | cons a r ih =>
    cases i with
    | zero => rfl
    | succ m => exact congrArg (a :: ·) ih
theorem fv_rep_eq {n v : Nat} : fv_rep n v = List.replicate n v := by
  induction n with
  | zero => rfl
  | succ m ih => exact congrArg (v :: ·) ih
theorem fv_gs {α : Type} {l : List α} {i j : Nat} {x d : α} (hi : i < l.length) : (l.set i x).getD j d = if i = j then x else l.getD j d := by
  rw [List.getD_eq_getElem?_getD, List.getElem?_set]
  by_cases h : i = j
  · subst h
    simp [hi]
  · simp [h, List.getD_eq_getElem?_getD]
theorem fv_gd {α : Type} {l : List α} {j : Nat} {d : α} (h : l.length ≤ j) : l.getD j d = d := by
  rw [List.getD_eq_getElem?_getD, List.getElem?_eq_none h]
  rfl
theorem fv_ltt {a b : Nat} (h : fv_lt a b = true) : a < b := Nat.le_of_ble_eq_true h
theorem fv_ltf {a b : Nat} (h : fv_lt a b = false) : b ≤ a := by
  have h1 : ¬ a + 1 ≤ b := Nat.not_le_of_not_ble_eq_true (by rw [show (a + 1).ble b = false from h]; exact Bool.false_ne_true)
  omega
theorem fv_bf {a b : Nat} (h : Nat.ble a b = false) : b < a := by
  have h1 : ¬ a ≤ b := Nat.not_le_of_not_ble_eq_true (by rw [h]; exact Bool.false_ne_true)
  omega
theorem fv_min_eq (a b : Nat) : fv_min a b = min a b := by
  unfold fv_min
  cases h : Nat.ble a b with
  | true => have := Nat.le_of_ble_eq_true h; show a = min a b; omega
  | false => have := fv_bf h; show b = min a b; omega
theorem fv_max_eq (a b : Nat) : fv_max a b = max a b := by
  unfold fv_max
  cases h : Nat.ble a b with
  | true => have := Nat.le_of_ble_eq_true h; show b = max a b; omega
  | false => have := fv_bf h; show a = max a b; omega
/-! numbers -/
theorem fv_m32 (n : Nat) : Int32.ofNat (n % 4294967296) = Int32.ofNat n := Int32.toBitVec_inj.1 (BitVec.eq_of_toNat_eq (by
  show (BitVec.ofNat 32 (n % 4294967296)).toNat = (BitVec.ofNat 32 n).toNat
  simp))
theorem fv_m64 (n : Nat) : Int64.ofNat (n % 18446744073709551616) = Int64.ofNat n := Int64.toBitVec_inj.1 (BitVec.eq_of_toNat_eq (by
  show (BitVec.ofNat 64 (n % 18446744073709551616)).toNat = (BitVec.ofNat 64 n).toNat
  simp))
theorem fv_ni_eq (n : Int) : Int32.ofInt n = Int32.ofNat (fv_ni n) := by
  rw [← Int32.ofInt_eq_ofNat]
  apply Int32.toInt_inj.1
  rw [Int32.toInt_ofInt, Int32.toInt_ofInt]
  unfold fv_ni
  rw [Int.toNat_of_nonneg (Int.emod_nonneg _ (by decide))]
  exact (Int.emod_bmod _ _).symm
theorem fv_nj_eq (n : Int) : Int64.ofInt n = Int64.ofNat (fv_nj n) := by
  rw [← Int64.ofInt_eq_ofNat]
  apply Int64.toInt_inj.1
  rw [Int64.toInt_ofInt, Int64.toInt_ofInt]
  unfold fv_nj
  rw [Int.toNat_of_nonneg (Int.emod_nonneg _ (by decide))]
  exact (Int.emod_bmod _ _).symm
theorem fv_add32 (a b : Nat) : Int32.ofNat ((a + b) % 4294967296) = Int32.ofNat a + Int32.ofNat b := by rw [fv_m32, Int32.ofNat_add]
theorem fv_sub32 (a b : Nat) : Int32.ofNat ((a + (4294967296 - b % 4294967296)) % 4294967296) = Int32.ofNat a - Int32.ofNat b := by
  rw [fv_m32, Int32.ofNat_add, Int32.ofNat_sub _ _ (by omega), fv_m32, show Int32.ofNat 4294967296 = 0 from rfl, Int32.zero_sub, ← Int32.sub_eq_add_neg]
theorem fv_and32 (a b : Nat) : Int32.ofNat (a &&& b) = Int32.ofNat a &&& Int32.ofNat b := Int32.toBitVec_inj.1 (BitVec.ofNat_and)
theorem fv_or32 (a b : Nat) : Int32.ofNat (a ||| b) = Int32.ofNat a ||| Int32.ofNat b := Int32.toBitVec_inj.1 (BitVec.ofNat_or)
theorem fv_add64 (a b : Nat) : Int64.ofNat ((a + b) % 18446744073709551616) = Int64.ofNat a + Int64.ofNat b := by rw [fv_m64, Int64.ofNat_add]
theorem fv_sub64 (a b : Nat) : Int64.ofNat ((a + (18446744073709551616 - b % 18446744073709551616)) % 18446744073709551616) = Int64.ofNat a - Int64.ofNat b := by
  rw [fv_m64, Int64.ofNat_add, Int64.ofNat_sub _ _ (by omega), fv_m64, show Int64.ofNat 18446744073709551616 = 0 from rfl, Int64.zero_sub, ← Int64.sub_eq_add_neg]
theorem fv_and64 (a b : Nat) : Int64.ofNat (a &&& b) = Int64.ofNat a &&& Int64.ofNat b := Int64.toBitVec_inj.1 (BitVec.ofNat_and)
/-- an int's place among all ints -/
def fv_of (x : Int32) : Nat := (x.toInt + 2147483648).toNat
theorem fv_of_i (x : Int32) : (fv_of x : Int) = x.toInt + 2147483648 := by
  have := x.le_toInt
  unfold fv_of
  omega
theorem fv_of_lt (x : Int32) : fv_of x < 4294967296 := by
  have := fv_of_i x
  have := x.toInt_lt
  omega
theorem fv_of_nat (a : Nat) : fv_of (Int32.ofNat a) = (a + 2147483648) % 4294967296 := by
  have h := fv_of_i (Int32.ofNat a)
  rw [Int32.toInt_ofNat'] at h
  have h2 : (a : Int).bmod Int32.size = (a : Int).bmod 4294967296 := rfl
  rw [h2, Int.bmod_def] at h
  split at h <;> omega
theorem fv_of_inj {x y : Int32} : fv_of x = fv_of y ↔ x = y := by
  constructor
  · intro h
    apply Int32.toInt_inj.1
    have := fv_of_i x
    have := fv_of_i y
    omega
  · rintro rfl
    rfl
theorem fv_of_lt_iff {x y : Int32} : fv_of x < fv_of y ↔ x < y := by
  rw [Int32.lt_iff_toInt_lt]
  have := fv_of_i x
  have := fv_of_i y
  omega
theorem fv_of_back (x : Int32) : Int32.ofNat ((fv_of x + 2147483648) % 4294967296) = x := by
  apply fv_of_inj.1
  rw [fv_of_nat]
  have := fv_of_lt x
  omega
/-! values -/
section FVV
variable {ρ : Nat → Int32}
theorem fv_d0 {v : Nat} (h : v % 8 = 0) : fv_de ρ v = .int (Int32.ofNat (v / 8)) := by simp only [fv_de, h]
theorem fv_d1 {v : Nat} (h : v % 8 = 1) : fv_de ρ v = .int (ρ (v / 8)) := by simp only [fv_de, h]
theorem fv_d2 {v : Nat} (h : v % 8 = 2) : fv_de ρ v = .ref (v / 8) := by simp only [fv_de, h]
theorem fv_d3 {v : Nat} (h : v % 8 = 3) : fv_de ρ v = .retAddr (v / 8) := by simp only [fv_de, h]
theorem fv_d4 {v : Nat} (h : v % 8 = 4) : fv_de ρ v = .null := by simp only [fv_de, h]
theorem fv_d5 {v : Nat} (h : v % 8 = 5) : fv_de ρ v = .long (Int64.ofNat (v / 8)) := by simp only [fv_de, h]
theorem fv_d6 {v : Nat} (h : v % 8 = 6) : fv_de ρ v = .long (ρ (v / 8)).toInt64 := by simp only [fv_de, h]
theorem fv_d7l {v : Nat} (h : v % 8 = 7) (h1 : 128 ≤ v) : fv_de ρ v = .long (fv_lo ρ (v / 8)) := by
  simp only [fv_de, h]
  split
  · omega
  · omega
  · omega
  · rw [if_pos (by omega)]
theorem fv_m0 (p : Nat) : fv_de ρ (8 * p) = .int (Int32.ofNat p) := by
  rw [fv_d0 (by omega), show 8 * p / 8 = p by omega]
theorem fv_m1 (p : Nat) : fv_de ρ (8 * p + 1) = .int (ρ p) := by
  rw [fv_d1 (by omega), show (8 * p + 1) / 8 = p by omega]
theorem fv_m2 (p : Nat) : fv_de ρ (8 * p + 2) = .ref p := by
  rw [fv_d2 (by omega), show (8 * p + 2) / 8 = p by omega]
theorem fv_m3 (p : Nat) : fv_de ρ (8 * p + 3) = .retAddr p := by
  rw [fv_d3 (by omega), show (8 * p + 3) / 8 = p by omega]
theorem fv_m5 (p : Nat) : fv_de ρ (8 * p + 5) = .long (Int64.ofNat p) := by
  rw [fv_d5 (by omega), show (8 * p + 5) / 8 = p by omega]
theorem fv_beq {a b : Nat} (h : Nat.beq a b = true) : a = b := Nat.eq_of_beq_eq_true h
theorem fv_bne {a b : Nat} (h : Nat.beq a b = false) : ¬ a = b := Nat.ne_of_beq_eq_false h
theorem fv_ble {a b : Nat} (h : Nat.ble a b = true) : a ≤ b := Nat.le_of_ble_eq_true h
theorem fv_isI_t {v : Nat} (h : fv_isI v = true) : ∃ x, fv_de ρ v = .int x := by
  have h1 : v % 8 ≤ 1 := fv_ble h
  by_cases h0 : v % 8 = 0
  · exact ⟨_, fv_d0 h0⟩
  · exact ⟨_, fv_d1 (by omega)⟩
theorem fv_isJ_t {v : Nat} (h : fv_isJ v = true) : ∃ x, fv_de ρ v = .long x := by
  rcases fv_ift h with ⟨h, -⟩ | ⟨-, h⟩
  · exact ⟨_, fv_d5 (fv_beq h)⟩
  · rcases fv_ift h with ⟨h, -⟩ | ⟨-, h⟩
    · exact ⟨_, fv_d6 (fv_beq h)⟩
    · obtain ⟨h1, h2⟩ := fv_iff h
      exact ⟨_, fv_d7l (fv_beq h1) (fv_ble h2)⟩
theorem fv_isR_t {v : Nat} (h : fv_isR v = true) : am_isR (fv_de ρ v) = true := by
  obtain ⟨h1, h2⟩ := fv_iff h
  have h1 : 2 ≤ v % 8 := fv_ble h1
  have h2 : v % 8 ≤ 4 := fv_ble h2
  rcases (show v % 8 = 2 ∨ v % 8 = 3 ∨ v % 8 = 4 by omega) with h | h | h
  · rw [fv_d2 h]; rfl
  · rw [fv_d3 h]; rfl
  · rw [fv_d4 h]; rfl
theorem fv_isD_t {v : Nat} (h : fv_isD v = true) : (v = 15 ∧ fv_de ρ v = .double FP.dconst0) ∨ (v = 31 ∧ fv_de ρ v = .double (FP.f2d FP.fconst0)) := by
  rcases fv_ift h with ⟨h, -⟩ | ⟨-, h⟩
  · cases fv_beq h
    exact Or.inl ⟨rfl, rfl⟩
  · cases fv_beq h
    exact Or.inr ⟨rfl, rfl⟩
theorem fv_isD_d {v : Nat} (h : fv_isD v = true) : ∃ x, fv_de ρ v = .double x := by
  rcases fv_isD_t (ρ := ρ) h with h | h
  · exact ⟨_, h.2⟩
  · exact ⟨_, h.2⟩
theorem fv_d7 {v : Nat} (h : v % 8 = 7) (h1 : ¬ v = 15) (h3 : ¬ v = 31) (h4 : v < 128) : fv_de ρ v = .float FP.fconst0 ∨ fv_de ρ v = .null := by
  by_cases h2 : v / 8 = 2
  · exact Or.inl (by simp only [fv_de, h, h2])
  · refine Or.inr ?_
    simp only [fv_de, h]
    split
    · omega
    · omega
    · omega
    · rw [if_neg (by omega)]
theorem fv_c1_ok (v : Nat) : (fv_c1 v = true ∧ (fv_de ρ v).category = 1) ∨ (fv_c1 v = false ∧ (fv_de ρ v).category = 2) := by
  cases hc : fv_c1 v with
  | true =>
    refine Or.inl ⟨rfl, ?_⟩
    rcases fv_ift hc with ⟨-, h⟩ | ⟨h, -⟩
    · obtain ⟨h, h2⟩ := fv_iff h
      obtain ⟨h3, h2⟩ := fv_ifn h2
      obtain ⟨h4, h2⟩ := fv_ifn h2
      obtain ⟨h5, -⟩ := fv_ifn h2
      rcases fv_d7 (ρ := ρ) (fv_beq h) (fv_bne h3) (fv_bne h4) (fv_bf h5) with h | h <;> rw [h] <;> rfl
    · have h : v % 8 < 5 := fv_bf h
      rcases (show v % 8 = 0 ∨ v % 8 = 1 ∨ v % 8 = 2 ∨ v % 8 = 3 ∨ v % 8 = 4 by omega) with h | h | h | h | h
      · rw [fv_d0 h]; rfl
      · rw [fv_d1 h]; rfl
      · rw [fv_d2 h]; rfl
      · rw [fv_d3 h]; rfl
      · rw [fv_d4 h]; rfl
  | false =>
    refine Or.inr ⟨rfl, ?_⟩
    unfold fv_c1 at hc
    cases h5 : Nat.ble 5 (Nat.mod v 8) with
    | false => rw [h5] at hc; exact absurd (show true = false from hc) (by decide)
    | true =>
      rw [h5] at hc
      have h5 : 5 ≤ v % 8 := fv_ble h5
      have hc : fv_if (Nat.beq (Nat.mod v 8) 7) (fv_if (Nat.beq v 15) false (fv_if (Nat.beq v 31) false (fv_if (Nat.ble 128 v) false true))) false = false := hc
      cases h7 : Nat.beq (Nat.mod v 8) 7 with
      | false =>
        have h7 : ¬ v % 8 = 7 := fv_bne h7
        rcases (show v % 8 = 5 ∨ v % 8 = 6 by omega) with h | h
        · rw [fv_d5 h]; rfl
        · rw [fv_d6 h]; rfl
      | true =>
        rw [h7] at hc
        have hc : fv_if (Nat.beq v 15) false (fv_if (Nat.beq v 31) false (fv_if (Nat.ble 128 v) false true)) = false := hc
        cases h15 : Nat.beq v 15 with
        | true => cases fv_beq h15; rfl
        | false =>
          rw [h15] at hc
          have hc : fv_if (Nat.beq v 31) false (fv_if (Nat.ble 128 v) false true) = false := hc
          cases h31 : Nat.beq v 31 with
          | true => cases fv_beq h31; rfl
          | false =>
            rw [h31] at hc
            have hc : fv_if (Nat.ble 128 v) false true = false := hc
            cases h128 : Nat.ble 128 v with
            | true =>
              have h7 := fv_beq h7
              rw [fv_d7l h7 (fv_ble h128)]
              rfl
            | false => rw [h128] at hc; exact absurd (show true = false from hc) (by decide)
theorem fv_c1_t {v : Nat} (h : fv_c1 v = true) : (fv_de ρ v).category = 1 := by
  rcases fv_c1_ok (ρ := ρ) v with h1 | h1
  · exact h1.2
  · rw [h] at h1; exact absurd h1.1 (by decide)
theorem fv_cl_t {l : List Nat} {b : Nat} (h : fv_cl l b = true) : am_cs (l.map (fv_de ρ)) ≤ b := by
  induction l generalizing b with
  | nil => exact Nat.zero_le _
  | cons v r ih =>
    have hs : am_cs ((v :: r).map (fv_de ρ)) = (fv_de ρ v).category + am_cs (r.map (fv_de ρ)) := by simp [am_cs]
    rw [hs]
    rcases fv_ift h with ⟨hc, h⟩ | ⟨hc, h⟩
    · rw [fv_c1_t hc]
      cases b with
      | zero => exact absurd h Bool.false_ne_true
      | succ m => have := ih (b := m) h; omega
    · rcases fv_c1_ok (ρ := ρ) v with h1 | h1
      · rw [hc] at h1; exact absurd h1.1 (by decide)
      · rw [h1.2]
        cases b with
        | zero => exact absurd h Bool.false_ne_true
        | succ m =>
          cases m with
          | zero => exact absurd h Bool.false_ne_true
          | succ m => have := ih (b := m) h; omega
/-! what is known of the unknowns -/
def fv_iok (ρ : Nat → Int32) (iv : fv_Iv) : Prop := ∀ u, (iv.getD u (0, 4294967296)).1 ≤ fv_of (ρ u) ∧ fv_of (ρ u) < (iv.getD u (0, 4294967296)).2
theorem fv_iok_set {iv : fv_Iv} {u lo hi : Nat} (io : fv_iok ρ iv) (h1 : lo ≤ fv_of (ρ u)) (h2 : fv_of (ρ u) < hi) : fv_iok ρ (fv_set iv u (lo, hi)) := by
  intro w
  rw [fv_set_eq]
  by_cases hu : u < iv.length
  · rw [fv_gs hu]
    by_cases h : u = w
    · subst h
      rw [if_pos rfl]
      exact ⟨h1, h2⟩
    · rw [if_neg h]
      exact io w
  · rw [List.set_eq_of_length_le (by omega)]
    exact io w
theorem fv_pc_ok {iv : fv_Iv} {u lo hi : Nat} {k : fv_Iv → Bool} (h : fv_pc iv u lo hi k = true) (io : fv_iok ρ iv) (h1 : lo ≤ fv_of (ρ u)) (h2 : fv_of (ρ u) < hi) : ∃ iv2, fv_iok ρ iv2 ∧ k iv2 = true := by
  rcases fv_ift h with ⟨-, h⟩ | ⟨h, -⟩
  · exact ⟨_, fv_iok_set io h1 h2, h⟩
  · have := fv_ltf h
    omega
theorem fv_ltk_ok {iv : fv_Iv} {u c : Nat} {kT kF : fv_Iv → Bool} (h : fv_ltk iv u c kT kF = true) (io : fv_iok ρ iv) : (fv_of (ρ u) < c ∧ ∃ iv2, fv_iok ρ iv2 ∧ kT iv2 = true) ∨ (c ≤ fv_of (ρ u) ∧ ∃ iv2, fv_iok ρ iv2 ∧ kF iv2 = true) := by
  have h : fv_if (fv_pc iv u (fv_nth iv u (0, 4294967296)).1 (fv_min (fv_nth iv u (0, 4294967296)).2 c) kT) (fv_pc iv u (fv_max (fv_nth iv u (0, 4294967296)).1 c) (fv_nth iv u (0, 4294967296)).2 kF) false = true := h
  rw [fv_nth_eq, fv_min_eq, fv_max_eq] at h
  obtain ⟨h1, h2⟩ := fv_iff h
  have hu := io u
  by_cases hc : fv_of (ρ u) < c
  · exact Or.inl ⟨hc, fv_pc_ok h1 io hu.1 (by omega)⟩
  · exact Or.inr ⟨by omega, fv_pc_ok h2 io (by omega) hu.2⟩
theorem fv_eqk_ok {iv : fv_Iv} {u c : Nat} {kT kF : fv_Iv → Bool} (h : fv_eqk iv u c kT kF = true) (io : fv_iok ρ iv) : (fv_of (ρ u) = c ∧ ∃ iv2, fv_iok ρ iv2 ∧ kT iv2 = true) ∨ (¬ fv_of (ρ u) = c ∧ ∃ iv2, fv_iok ρ iv2 ∧ kF iv2 = true) := by
  have h : fv_if (fv_pc iv u (fv_nth iv u (0, 4294967296)).1 (fv_min (fv_nth iv u (0, 4294967296)).2 c) kF) (fv_if (fv_pc iv u (fv_max (fv_nth iv u (0, 4294967296)).1 c) (fv_min (fv_nth iv u (0, 4294967296)).2 (c + 1)) kT) (fv_pc iv u (fv_max (fv_nth iv u (0, 4294967296)).1 (c + 1)) (fv_nth iv u (0, 4294967296)).2 kF) false) false = true := h
  rw [fv_nth_eq, fv_min_eq, fv_max_eq, fv_min_eq, fv_max_eq] at h
  obtain ⟨h1, h2⟩ := fv_iff h
  obtain ⟨h2, h3⟩ := fv_iff h2
  have hu := io u
  by_cases hc : fv_of (ρ u) = c
  · exact Or.inl ⟨hc, fv_pc_ok h2 io (by omega) (by omega)⟩
  · by_cases hl : fv_of (ρ u) < c
    · exact Or.inr ⟨hc, fv_pc_ok h1 io hu.1 (by omega)⟩
    · exact Or.inr ⟨hc, fv_pc_ok h3 io (by omega) hu.2⟩
theorem fv_pt_t {q : Nat × Nat} {k : Nat → Bool} (h : fv_pt q k = true) : q.2 = q.1 + 1 ∧ k ((q.1 + 2147483648) % 4294967296) = true := by
  obtain ⟨lo, hi⟩ := q
  unfold fv_pt at h
  simp only [fv_f_eq, fv_mod_h, fv_add_h] at h
  obtain ⟨h1, h2⟩ := fv_iff h
  exact ⟨fv_beq h1, h2⟩
theorem fv_int_ok {iv : fv_Iv} {v : Nat} {k : Nat → Bool} (h : fv_int iv v k = true) (io : fv_iok ρ iv) : ∃ a, fv_de ρ v = .int (Int32.ofNat a) ∧ k a = true := by
  rcases fv_ift h with ⟨h0, h⟩ | ⟨-, h⟩
  · exact ⟨v / 8, fv_d0 (fv_beq h0), h⟩
  · obtain ⟨h1, h⟩ := fv_iff h
    obtain ⟨h2, h⟩ := fv_pt_t h
    rw [fv_nth_eq] at h2 h
    have h2 : (iv.getD (v / 8) (0, 4294967296)).2 = (iv.getD (v / 8) (0, 4294967296)).1 + 1 := h2
    have h : k (((iv.getD (v / 8) (0, 4294967296)).1 + 2147483648) % 4294967296) = true := h
    have hu := io (v / 8)
    have h3 : (iv.getD (v / 8) (0, 4294967296)).1 = fv_of (ρ (v / 8)) := by omega
    rw [h3] at h
    exact ⟨_, by rw [fv_d1 (fv_beq h1)]; exact congrArg Value.int (fv_of_back _).symm, h⟩
theorem fv_lk_ok {op x y : Nat} {k : Nat → Bool} {b : Bool} : ∀ {L : List (Nat × Nat × Nat × Nat)}, fv_lk op x y L k b = true → (∃ r, (op, x, y, r) ∈ L ∧ k r = true) ∨ b = true
  | [], h => Or.inr h
  | (o, a, c, r) :: L, h => by
    have h : fv_if (Nat.beq o op) (fv_if (Nat.beq a x) (fv_if (Nat.beq c y) (k r) (fv_lk op x y L k b)) (fv_lk op x y L k b)) (fv_lk op x y L k b) = true := h
    have up : fv_lk op x y L k b = true → (∃ r2, (op, x, y, r2) ∈ (o, a, c, r) :: L ∧ k r2 = true) ∨ b = true := fun z => by
      rcases fv_lk_ok z with ⟨r2, h1, h2⟩ | h1
      · exact Or.inl ⟨r2, List.mem_cons_of_mem _ h1, h2⟩
      · exact Or.inr h1
    rcases fv_ift h with ⟨h1, k1⟩ | ⟨-, k1⟩
    · rcases fv_ift k1 with ⟨h2, k2⟩ | ⟨-, k2⟩
      · rcases fv_ift k2 with ⟨h3, k3⟩ | ⟨-, k3⟩
        · cases fv_beq h1
          cases fv_beq h2
          cases fv_beq h3
          exact Or.inl ⟨r, List.mem_cons_self, k3⟩
        · exact up k3
      · exact up k2
    · exact up k1
theorem fv_lng_ok {v : Nat} {k : Nat → Bool} (h : fv_lng v k = true) : fv_de ρ v = .long (Int64.ofNat (v / 8)) ∧ v % 8 = 5 ∧ k (v / 8) = true := by
  obtain ⟨h0, h⟩ := fv_iff h
  exact ⟨fv_d5 (fv_beq h0), fv_beq h0, h⟩
theorem fv_ref_ok {v : Nat} {k : Nat → Bool} (h : fv_ref v k = true) : fv_de ρ v = .ref (v / 8) ∧ v % 8 = 2 ∧ k (v / 8) = true := by
  obtain ⟨h0, h⟩ := fv_iff h
  exact ⟨fv_d2 (fv_beq h0), fv_beq h0, h⟩
theorem fv_off_eq {v : Nat} (h : v % 8 = 0) : fv_off v = fv_of (Int32.ofNat (v / 8)) := (fv_of_nat _).symm
theorem fv_sg_ok {iv : fv_Iv} {u : Nat} {k : Nat → Bool} {b : Bool} (h : fv_sg (fv_nth iv u (0, 4294967296)) k b = true) (io : fv_iok ρ iv) : k (fv_of (ρ u)) = true ∨ b = true := by
  have h : fv_if (Nat.beq (fv_nth iv u (0, 4294967296)).2 (Nat.succ (fv_nth iv u (0, 4294967296)).1)) (fv_f (fv_nth iv u (0, 4294967296)).1 k) b = true := h
  rw [fv_nth_eq, fv_f_eq] at h
  rcases fv_ift h with ⟨h1, h2⟩ | ⟨-, h2⟩
  · have h1 := fv_beq h1
    have hu := io u
    rw [show (iv.getD u (0, 4294967296)).1 = fv_of (ρ u) by omega] at h2
    exact Or.inl h2
  · exact Or.inr h2
theorem fv_lt2_ok {iv : fv_Iv} {x y : Nat} {kT kF : fv_Iv → Bool} (h : fv_lt2 iv x y kT kF = true) (io : fv_iok ρ iv) : ∃ a b : Int32, fv_de ρ x = .int a ∧ fv_de ρ y = .int b ∧ ((a < b ∧ ∃ iv2, fv_iok ρ iv2 ∧ kT iv2 = true) ∨ (¬ a < b ∧ ∃ iv2, fv_iok ρ iv2 ∧ kF iv2 = true)) := by
  rcases fv_ift h with ⟨hx, h⟩ | ⟨-, h⟩
  · have hx := fv_beq hx
    rcases fv_ift h with ⟨hy, h⟩ | ⟨-, h⟩
    · have hy := fv_beq hy
      refine ⟨_, _, fv_d0 hx, fv_d0 hy, ?_⟩
      rw [fv_off_eq hx, fv_off_eq hy] at h
      rcases fv_ift h with ⟨hl, h⟩ | ⟨hl, h⟩
      · exact Or.inl ⟨fv_of_lt_iff.1 (fv_ltt hl), iv, io, h⟩
      · exact Or.inr ⟨fun z => by have := fv_of_lt_iff.2 z; have := fv_ltf hl; omega, iv, io, h⟩
    · obtain ⟨hy, h⟩ := fv_iff h
      have hy := fv_beq hy
      refine ⟨_, _, fv_d0 hx, fv_d1 hy, ?_⟩
      rw [fv_off_eq hx] at h
      rcases fv_ltk_ok h io with ⟨h1, h2⟩ | ⟨h1, h2⟩
      · exact Or.inr ⟨fun z => by have := fv_of_lt_iff.2 z; have h1 : fv_of (ρ (y / 8)) < fv_of (Int32.ofNat (x / 8)) + 1 := h1; omega, h2⟩
      · exact Or.inl ⟨fv_of_lt_iff.1 h1, h2⟩
  · obtain ⟨hx, h⟩ := fv_iff h
    have hx := fv_beq hx
    rcases fv_ift h with ⟨hy, h⟩ | ⟨-, h⟩
    · have hy := fv_beq hy
      refine ⟨_, _, fv_d1 hx, fv_d0 hy, ?_⟩
      rw [fv_off_eq hy] at h
      rcases fv_ltk_ok h io with ⟨h1, h2⟩ | ⟨h1, h2⟩
      · exact Or.inl ⟨fv_of_lt_iff.1 h1, h2⟩
      · exact Or.inr ⟨fun z => by have := fv_of_lt_iff.2 z; have h1 : fv_of (Int32.ofNat (y / 8)) ≤ fv_of (ρ (x / 8)) := h1; omega, h2⟩
    · obtain ⟨hy, h⟩ := fv_iff h
      refine ⟨_, _, fv_d1 hx, fv_d1 (fv_beq hy), ?_⟩
      rcases fv_sg_ok h io with h | h
      · rcases fv_ltk_ok h io with ⟨h1, h2⟩ | ⟨h1, h2⟩
        · exact Or.inr ⟨fun z => by have := fv_of_lt_iff.2 z; have h1 : fv_of (ρ (y / 8)) < fv_of (ρ (x / 8)) + 1 := h1; omega, h2⟩
        · exact Or.inl ⟨fv_of_lt_iff.1 h1, h2⟩
      rcases fv_sg_ok h io with h | h
      · rcases fv_ltk_ok h io with ⟨h1, h2⟩ | ⟨h1, h2⟩
        · exact Or.inl ⟨fv_of_lt_iff.1 h1, h2⟩
        · exact Or.inr ⟨fun z => by have := fv_of_lt_iff.2 z; have h1 : fv_of (ρ (y / 8)) ≤ fv_of (ρ (x / 8)) := h1; omega, h2⟩
      unfold fv_vv at h
      rw [fv_nth_eq, fv_nth_eq] at h
      have hux := io (x / 8)
      have huy := io (y / 8)
      rcases fv_ift h with ⟨h1, h⟩ | ⟨-, h⟩
      · have h1 : (iv.getD (x / 8) (0, 4294967296)).2 ≤ (iv.getD (y / 8) (0, 4294967296)).1 := fv_ble h1
        exact Or.inl ⟨fv_of_lt_iff.1 (by omega), iv, io, h⟩
      rcases fv_ift h with ⟨h1, h⟩ | ⟨-, h⟩
      · have h1 : (iv.getD (y / 8) (0, 4294967296)).2 ≤ (iv.getD (x / 8) (0, 4294967296)).1 + 1 := fv_ble h1
        exact Or.inr ⟨fun z => by have := fv_of_lt_iff.2 z; omega, iv, io, h⟩
      obtain ⟨h1, h2⟩ := fv_iff h
      by_cases hl : ρ (x / 8) < ρ (y / 8)
      · exact Or.inl ⟨hl, iv, io, h1⟩
      · exact Or.inr ⟨hl, iv, io, h2⟩
theorem fv_eq2_ok {iv : fv_Iv} {x y : Nat} {kT kF : fv_Iv → Bool} (h : fv_eq2 iv x y kT kF = true) (io : fv_iok ρ iv) : ∃ a b : Int32, fv_de ρ x = .int a ∧ fv_de ρ y = .int b ∧ ((a = b ∧ ∃ iv2, fv_iok ρ iv2 ∧ kT iv2 = true) ∨ (¬ a = b ∧ ∃ iv2, fv_iok ρ iv2 ∧ kF iv2 = true)) := by
  rcases fv_ift h with ⟨hx, h⟩ | ⟨-, h⟩
  · have hx := fv_beq hx
    rcases fv_ift h with ⟨hy, h⟩ | ⟨-, h⟩
    · have hy := fv_beq hy
      refine ⟨_, _, fv_d0 hx, fv_d0 hy, ?_⟩
      rw [fv_off_eq hx, fv_off_eq hy] at h
      rcases fv_ift h with ⟨hl, h⟩ | ⟨hl, h⟩
      · exact Or.inl ⟨fv_of_inj.1 (fv_beq hl), iv, io, h⟩
      · exact Or.inr ⟨fun z => fv_bne hl (fv_of_inj.2 z), iv, io, h⟩
    · obtain ⟨hy, h⟩ := fv_iff h
      have hy := fv_beq hy
      refine ⟨_, _, fv_d0 hx, fv_d1 hy, ?_⟩
      rw [fv_off_eq hx] at h
      rcases fv_eqk_ok h io with ⟨h1, h2⟩ | ⟨h1, h2⟩
      · exact Or.inl ⟨(fv_of_inj.1 h1).symm, h2⟩
      · exact Or.inr ⟨fun z => h1 (fv_of_inj.2 z.symm), h2⟩
  · obtain ⟨hx, h⟩ := fv_iff h
    have hx := fv_beq hx
    rcases fv_ift h with ⟨hy, h⟩ | ⟨-, h⟩
    · have hy := fv_beq hy
      refine ⟨_, _, fv_d1 hx, fv_d0 hy, ?_⟩
      rw [fv_off_eq hy] at h
      rcases fv_eqk_ok h io with ⟨h1, h2⟩ | ⟨h1, h2⟩
      · exact Or.inl ⟨fv_of_inj.1 h1, h2⟩
      · exact Or.inr ⟨fun z => h1 (fv_of_inj.2 z), h2⟩
    · obtain ⟨hy, h⟩ := fv_iff h
      refine ⟨_, _, fv_d1 hx, fv_d1 (fv_beq hy), ?_⟩
      rcases fv_sg_ok h io with h | h
      · rcases fv_eqk_ok h io with ⟨h1, h2⟩ | ⟨h1, h2⟩
        · exact Or.inl ⟨(fv_of_inj.1 h1).symm, h2⟩
        · exact Or.inr ⟨fun z => h1 (fv_of_inj.2 z.symm), h2⟩
      rcases fv_sg_ok h io with h | h
      · rcases fv_eqk_ok h io with ⟨h1, h2⟩ | ⟨h1, h2⟩
        · exact Or.inl ⟨fv_of_inj.1 h1, h2⟩
        · exact Or.inr ⟨fun z => h1 (fv_of_inj.2 z), h2⟩
      obtain ⟨h1, h2⟩ := fv_iff h
      by_cases hl : ρ (x / 8) = ρ (y / 8)
      · exact Or.inl ⟨hl, iv, io, h1⟩
      · exact Or.inr ⟨hl, iv, io, h2⟩
/-! locals -/
def fv_L (ρ : Nat → Int32) (lvN : List Nat) (lv : am_V) : Prop := ∀ i, ¬ lvN.getD i 7 = 7 → am_ld lv i = some (fv_de ρ (lvN.getD i 7))
theorem fv_ld_filter {p : Nat × Value → Bool} {j : Nat} {w : Value} : ∀ {lv : am_V}, am_ld lv j = some w → p (j, w) = true → am_ld (lv.filter p) j = some w
  | [], h, _ => by simp [am_ld] at h
  | q :: r, h, hp => by
    unfold am_ld at h
    by_cases hq : q.1 = j
    · rw [if_pos hq] at h
      cases h
      obtain ⟨q1, q2⟩ := q
      simp only at hq
      subst hq
      rw [List.filter_cons_of_pos hp]
      simp [am_ld]
    · rw [if_neg hq] at h
      by_cases hq2 : p q = true
      · rw [List.filter_cons_of_pos hq2]
        unfold am_ld
        rw [if_neg hq]
        exact fv_ld_filter h hp
      · rw [List.filter_cons_of_neg hq2]
        exact fv_ld_filter h hp
theorem fv_getD_set {l : List Nat} {i j v : Nat} : (l.set i v).getD j 7 = if i = j ∧ i < l.length then v else l.getD j 7 := by
  by_cases h : i < l.length
  · rw [fv_gs h]
    by_cases hj : i = j
    · rw [if_pos hj, if_pos ⟨hj, h⟩]
    · rw [if_neg hj, if_neg (fun z => hj z.1)]
  · rw [List.set_eq_of_length_le (by omega), if_neg (fun z => h z.2)]
/-- what stands in the new list is the value that was written, or stood there before and isn't touched -/
theorem fv_s1_get {lvN : List Nat} {i c j : Nat} (h : ¬ (fv_s1 lvN i c).getD j 7 = 7) : (j = i ∧ (fv_s1 lvN i c).getD j 7 = c) ∨ (¬ j = i ∧ (fv_s1 lvN i c).getD j 7 = lvN.getD j 7 ∧ (j + 1 = i → (fv_de ρ (lvN.getD j 7)).category = 1)) := by
  unfold fv_s1 at h ⊢
  rw [fv_nth_eq, fv_set_eq, fv_set_eq] at h ⊢
  rcases fv_c1_ok (ρ := ρ) (lvN.getD (Nat.pred i) 7) with ⟨hc, h1⟩ | ⟨hc, h1⟩
  · rw [hc] at h ⊢
    have h : ¬ (lvN.set i c).getD j 7 = 7 := h
    show (j = i ∧ (lvN.set i c).getD j 7 = c) ∨ (¬ j = i ∧ (lvN.set i c).getD j 7 = lvN.getD j 7 ∧ (j + 1 = i → (fv_de ρ (lvN.getD j 7)).category = 1))
    rw [fv_getD_set] at h ⊢
    by_cases hj : i = j
    · subst hj
      by_cases hl : i < lvN.length
      · rw [if_pos ⟨rfl, hl⟩]
        exact Or.inl ⟨rfl, rfl⟩
      · rw [if_neg (fun z => hl z.2), fv_gd (by omega)] at h
        exact absurd rfl h
    · rw [if_neg (fun z => hj z.1)]
      refine Or.inr ⟨fun z => hj z.symm, rfl, fun z => ?_⟩
      subst z
      exact h1
  · rw [hc] at h ⊢
    have h9 : ¬ ((lvN.set i c).set (Nat.pred i) 7).getD j 7 = 7 := h
    clear h
    show (j = i ∧ ((lvN.set i c).set (Nat.pred i) 7).getD j 7 = c) ∨ (¬ j = i ∧ ((lvN.set i c).set (Nat.pred i) 7).getD j 7 = lvN.getD j 7 ∧ (j + 1 = i → (fv_de ρ (lvN.getD j 7)).category = 1))
    rw [fv_getD_set] at h9 ⊢
    by_cases hp : Nat.pred i = j ∧ Nat.pred i < (lvN.set i c).length
    · rw [if_pos hp] at h9
      exact absurd rfl h9
    · rw [if_neg hp] at h9 ⊢
      rw [fv_getD_set] at h9 ⊢
      by_cases hj : i = j
      · subst hj
        by_cases hl : i < lvN.length
        · rw [if_pos ⟨rfl, hl⟩]
          exact Or.inl ⟨rfl, rfl⟩
        · rw [if_neg (fun z => hl z.2), fv_gd (by omega)] at h9
          exact absurd rfl h9
      · rw [if_neg (fun z => hj z.1)] at h9 ⊢
        refine Or.inr ⟨fun z => hj z.symm, rfl, fun z => ?_⟩
        subst z
        refine absurd ⟨rfl, ?_⟩ hp
        rw [List.length_set]
        by_cases hl : j < lvN.length
        · exact hl
        · exact absurd (fv_gd (l := lvN) (d := 7) (by omega)) h9
theorem fv_L_s1 {lvN : List Nat} {lv : am_V} {i c : Nat} (h : fv_L ρ lvN lv) : fv_L ρ (fv_s1 lvN i c) (am_s1 lv i (fv_de ρ c)) := by
  intro j hj
  rcases fv_s1_get (ρ := ρ) hj with ⟨h1, h2⟩ | ⟨h1, h2, h3⟩
  · rw [h2, h1]
    simp [am_s1, am_ld]
  · rw [h2] at hj ⊢
    unfold am_s1 am_ld
    rw [if_neg (fun z => h1 z.symm)]
    refine fv_ld_filter (h j hj) ?_
    have h1' : (j == i) = false := by simp [h1]
    show (!(j == i) && !(j + 1 == i && (fv_de ρ (lvN.getD j 7)).category == 2)) = true
    rw [h1']
    by_cases hi : j + 1 = i
    · rw [h3 hi]
      simp
    · simp [hi]
theorem fv_L_dl {lvN : List Nat} {lv : am_V} {i : Nat} (h : fv_L ρ lvN lv) : fv_L ρ (fv_s1 lvN i 7) (am_dl lv i) := by
  intro j hj
  rcases fv_s1_get (ρ := ρ) hj with ⟨h1, h2⟩ | ⟨h1, h2, h3⟩
  · exact absurd h2 hj
  · rw [h2] at hj ⊢
    unfold am_dl
    refine fv_ld_filter (h j hj) ?_
    have h1' : (j == i) = false := by simp [h1]
    show (!(j == i) && !(j + 1 == i && (fv_de ρ (lvN.getD j 7)).category == 2)) = true
    rw [h1']
    by_cases hi : j + 1 = i
    · rw [h3 hi]
      simp
    · simp [hi]
theorem fv_L_s2 {lvN : List Nat} {lv : am_V} {i c : Nat} (h : fv_L ρ lvN lv) : fv_L ρ (fv_s2 lvN i c) (am_s2 lv i (fv_de ρ c)) := by
  intro j hj
  unfold fv_s2 at hj ⊢
  rw [fv_set_eq, fv_getD_set] at hj ⊢
  by_cases hs : Nat.succ i = j ∧ Nat.succ i < (fv_s1 lvN i c).length
  · rw [if_pos hs] at hj
    exact absurd rfl hj
  · rw [if_neg hs] at hj ⊢
    have hji : ¬ j = i + 1 := fun z => by
      by_cases hl : i + 1 < (fv_s1 lvN i c).length
      · exact hs ⟨z.symm, hl⟩
      · rw [fv_gd (by omega)] at hj
        exact hj rfl
    rcases fv_s1_get (ρ := ρ) hj with ⟨h1, h2⟩ | ⟨h1, h2, h3⟩
    · rw [h2, h1]
      simp [am_s2, am_ld]
    · rw [h2] at hj ⊢
      unfold am_s2 am_ld
      rw [if_neg (fun z => h1 z.symm)]
      refine fv_ld_filter (h j hj) ?_
      have h1' : (j == i) = false := by simp [h1]
      have h2' : (j == i + 1) = false := by simp [hji]
      show (!(j == i) && (!(j == i + 1) && !(j + 1 == i && (fv_de ρ (lvN.getD j 7)).category == 2))) = true
      rw [h1', h2']
      by_cases hi : j + 1 = i
      · rw [h3 hi]
        simp
      · simp [hi]
theorem fv_lvs_ok : ∀ (as : List Nat) (mx i j : Nat), ¬ (fv_lvs as mx).getD j 7 = 7 → am_ld (lv_args i (as.map (fv_de ρ))) (i + j) = some (fv_de ρ ((fv_lvs as mx).getD j 7))
  | [], mx, i, j, h => by
    refine absurd ?_ h
    show (fv_rep mx 7).getD j 7 = 7
    rw [fv_rep_eq, List.getD_eq_getElem?_getD, List.getElem?_replicate]
    split <;> rfl
  | v :: r, mx, i, j, h => by
    have e : fv_lvs (v :: r) mx = @Bool.rec (fun _ => List Nat) (v :: 7 :: fv_lvs r (Nat.sub mx 2)) (v :: fv_lvs r (Nat.pred mx)) (fv_c1 v) := rfl
    show am_ld ((i, fv_de ρ v) :: lv_args (if (fv_de ρ v).category = 2 then i + 2 else i + 1) (r.map (fv_de ρ))) (i + j) = _
    rcases fv_c1_ok (ρ := ρ) v with ⟨hc, h1⟩ | ⟨hc, h1⟩
    · rw [hc] at e
      have e : fv_lvs (v :: r) mx = v :: fv_lvs r (Nat.pred mx) := e
      rw [e] at h ⊢
      cases j with
      | zero => simp [am_ld]
      | succ j =>
        have ih := fv_lvs_ok r (Nat.pred mx) (i + 1) j h
        unfold am_ld
        rw [if_neg (by show ¬ i = i + (j + 1); omega), h1, if_neg (by decide), show i + (j + 1) = i + 1 + j by omega]
        exact ih
    · rw [hc] at e
      have e : fv_lvs (v :: r) mx = v :: 7 :: fv_lvs r (Nat.sub mx 2) := e
      rw [e] at h ⊢
      cases j with
      | zero => simp [am_ld]
      | succ j =>
        cases j with
        | zero => exact absurd rfl h
        | succ j =>
          have ih := fv_lvs_ok r (Nat.sub mx 2) (i + 2) j h
          unfold am_ld
          rw [if_neg (by show ¬ i = i + (j + 1 + 1); omega), h1, if_pos rfl, show i + (j + 1 + 1) = i + 2 + j by omega]
          exact ih
theorem fv_L_args (as : List Nat) (mx : Nat) : fv_L ρ (fv_lvs as mx) (lv_args 0 (as.map (fv_de ρ))) := fun j h => by
  have := fv_lvs_ok (ρ := ρ) as mx 0 j h
  rw [Nat.zero_add] at this
  exact this
/-! things -/
def fv_sh (t : fv_T) : Prop := t.length = 11 ∧ ∀ i, i < 11 → (t.getD i []).length = 11 ∧ ∀ j, j < 11 → ((t.getD i []).getD j []).length = 11
theorem fv_hg_eq (t : fv_T) (a : Nat) : fv_hg t a = ((t.getD (a / 121) []).getD (a / 11 % 11) []).getD (a % 11) (199, 0, []) := by
  unfold fv_hg
  rw [fv_nth_eq, fv_nth_eq, fv_nth_eq]
  rfl
theorem fv_hs_eq (t : fv_T) (a : Nat) (o : fv_Ob) : fv_hs t a o = t.set (a / 121) ((t.getD (a / 121) []).set (a / 11 % 11) (((t.getD (a / 121) []).getD (a / 11 % 11) []).set (a % 11) o)) := by
  unfold fv_hs
  rw [fv_set_eq, fv_set_eq, fv_set_eq, fv_nth_eq, fv_nth_eq]
  rfl
theorem fv_hs_sh {t : fv_T} {a : Nat} {o : fv_Ob} (ha : a < 1331) (h : fv_sh t) : fv_sh (fv_hs t a o) := by
  rw [fv_hs_eq]
  have h1 : a / 121 < t.length := by rw [h.1]; omega
  have h2 := (h.2 (a / 121) (by omega)).1
  refine ⟨by rw [List.length_set]; exact h.1, fun i hi => ?_⟩
  rw [fv_gs h1]
  by_cases hai : a / 121 = i
  · rw [if_pos hai]
    refine ⟨by rw [List.length_set]; exact h2, fun j hj => ?_⟩
    rw [fv_gs (by rw [h2]; omega)]
    by_cases haj : a / 11 % 11 = j
    · rw [if_pos haj, List.length_set]
      exact (h.2 (a / 121) (by omega)).2 _ (by omega)
    · rw [if_neg haj]
      exact (h.2 (a / 121) (by omega)).2 _ hj
  · rw [if_neg hai]
    exact h.2 i hi
theorem fv_hg_hs {t : fv_T} {a b : Nat} {o : fv_Ob} (ha : a < 1331) (h : fv_sh t) : fv_hg (fv_hs t a o) b = if a = b then o else fv_hg t b := by
  rw [fv_hs_eq, fv_hg_eq, fv_hg_eq]
  have h1 : a / 121 < t.length := by rw [h.1]; omega
  have h2 := (h.2 (a / 121) (by omega)).1
  have h3 := (h.2 (a / 121) (by omega)).2 (a / 11 % 11) (by omega)
  rw [fv_gs h1]
  by_cases hab : a = b
  · subst hab
    rw [if_pos rfl, if_pos rfl, fv_gs (by rw [h2]; omega), if_pos rfl, fv_gs (by rw [h3]; omega), if_pos rfl]
  · rw [if_neg hab]
    by_cases hi : a / 121 = b / 121
    · rw [if_pos hi, fv_gs (by rw [h2]; omega)]
      by_cases hj : a / 11 % 11 = b / 11 % 11
      · rw [if_pos hj, fv_gs (by rw [h3]; omega), if_neg (by omega), hi, hj]
      · rw [if_neg hj, hi]
    · rw [if_neg hi]
theorem fv_hg_big {t : fv_T} {a : Nat} (ha : 1331 ≤ a) (h : fv_sh t) : fv_hg t a = (199, 0, []) := by
  rw [fv_hg_eq, fv_gd (l := t) (by rw [h.1]; omega)]
  rfl
def fv_ob (ρ : Nat → Int32) (q : fv_Ob) (o : am_O) : Prop := o.1 = q.1 ∧ q.2.1 = q.2.2.length ∧ o.2 = q.2.2.map (fv_de ρ) ∧ q.2.1 ≤ 1000000
def fv_rel (ρ : Nat → Int32) (n : Nat) (t : fv_T) (h : am_H) : Prop := fv_sh t ∧ h.length = n % 2048 ∧ h.length ≤ 1331 ∧ am_sz h = n / 2048 ∧ ∀ a, (∃ o, h[a]? = some o ∧ fv_ob ρ (fv_hg t a) o) ∨ (h[a]? = none ∧ (fv_hg t a).1 = 199)
theorem fv_rel_get {n a : Nat} {t : fv_T} {h : am_H} (r : fv_rel ρ n t h) (hk : ¬ (fv_hg t a).1 = 199) : ∃ o, h[a]? = some o ∧ fv_ob ρ (fv_hg t a) o := by
  rcases r.2.2.2.2 a with h1 | h1
  · exact h1
  · exact absurd h1.2 hk
theorem fv_rel_set {n a : Nat} {t : fv_T} {h : am_H} {o o2 : am_O} {q : fv_Ob} (r : fv_rel ρ n t h) (e : h[a]? = some o) (hq : fv_ob ρ q o2) (hl : o2.2.length = o.2.length) : fv_rel ρ n (fv_hs t a q) (h.set a o2) := by
  have hlt := (List.getElem?_eq_some_iff.mp e).1
  have ha : a < 1331 := Nat.lt_of_lt_of_le hlt r.2.2.1
  refine ⟨fv_hs_sh ha r.1, by rw [List.length_set]; exact r.2.1, by rw [List.length_set]; exact r.2.2.1, by rw [am_sz_set hl e]; exact r.2.2.2.1, fun b => ?_⟩
  rw [fv_hg_hs ha r.1]
  by_cases hab : a = b
  · subst hab
    rw [if_pos rfl, List.getElem?_set_self hlt]
    exact Or.inl ⟨o2, rfl, hq⟩
  · rw [if_neg hab, List.getElem?_set_ne hab]
    exact r.2.2.2.2 b
theorem fv_rel_push {n : Nat} {t : fv_T} {h : am_H} {o : am_O} {q : fv_Ob} (r : fv_rel ρ n t h) (hn : n % 2048 < 1331) (hq : fv_ob ρ q o) : fv_rel ρ (n + (2048 * q.2.1 + 1)) (fv_hs t (n % 2048) q) (h ++ [o]) := by
  have hl := r.2.1
  have hz := r.2.2.2.1
  refine ⟨fv_hs_sh hn r.1, by rw [List.length_append]; show h.length + 1 = _; omega, by rw [List.length_append]; show h.length + 1 ≤ _; omega, ?_, fun b => ?_⟩
  · rw [am_sz_push, hz, hq.2.2.1, List.length_map, ← hq.2.1]
    omega
  · rw [fv_hg_hs hn r.1]
    by_cases hb : n % 2048 = b
    · rw [if_pos hb, List.getElem?_append_right (by omega), show b - h.length = 0 by omega]
      exact Or.inl ⟨o, rfl, hq⟩
    · rw [if_neg hb]
      by_cases hlt : b < h.length
      · rw [List.getElem?_append_left hlt]
        exact r.2.2.2.2 b
      · rcases r.2.2.2.2 b with ⟨o9, h9, -⟩ | ⟨-, h9⟩
        · exact absurd (List.getElem?_eq_some_iff.mp h9).1 hlt
        · refine Or.inr ⟨?_, h9⟩
          rw [List.getElem?_append_right (by omega)]
          exact List.getElem?_eq_none (by show 1 ≤ b - h.length; omega)
theorem fv_o_eq (t : fv_T) (a : Nat) (k : Nat → Nat → List Nat → Bool) : fv_o t a k = k (fv_hg t a).1 (fv_hg t a).2.1 (fv_hg t a).2.2 := rfl
/-- the thing that is got: in the abstract -/
theorem fv_o_ok {n a : Nat} {t : fv_T} {h : am_H} {k : Nat → Nat → List Nat → Bool} (r : fv_rel ρ n t h) (e : fv_o t a k = true) : ∃ c z s, k c z s = true ∧ (c = 199 ∨ (z = s.length ∧ h[a]? = some (c, s.map (fv_de ρ)) ∧ z ≤ 1000000)) := by
  rw [fv_o_eq] at e
  by_cases hk : (fv_hg t a).1 = 199
  · exact ⟨_, _, _, e, Or.inl hk⟩
  · obtain ⟨o, h1, h2⟩ := fv_rel_get r hk
    refine ⟨_, _, _, e, Or.inr ⟨h2.2.1, ?_, h2.2.2.2⟩⟩
    rw [h1]
    obtain ⟨o1, o2⟩ := o
    rw [← h2.1, ← h2.2.2.1]
theorem fv_ix {i n : Nat} (h : i < n) (hn : n ≤ 1000000) : am_ix (Int32.ofNat i) n = some i := by
  have h1 : i < 2 ^ 31 := by omega
  have h2 : ¬ Int32.ofNat i < 0 := fun z => by
    have z2 := Int32.lt_iff_toInt_lt.mp z
    rw [Int32.toInt_ofNat_of_lt h1] at z2
    have : (0 : Int32).toInt = 0 := rfl
    omega
  unfold am_ix
  rw [if_neg h2, Int32.toNatClampNeg_ofNat_of_lt h1, if_pos h]
theorem fv_map_get {s : List Nat} {i : Nat} (h : i < s.length) : (s.map (fv_de ρ))[i]? = some (fv_de ρ (fv_nth s i 7)) := by
  rw [List.getElem?_map, fv_nth_eq, List.getD_eq_getElem?_getD, List.getElem?_eq_getElem h]
  rfl
theorem fv_map_set {s : List Nat} {i v : Nat} : (s.map (fv_de ρ)).set i (fv_de ρ v) = (fv_set s i v).map (fv_de ρ) := by
  rw [fv_set_eq, List.map_set]
end FVV
