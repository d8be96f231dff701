variable {sc : List Int32}
/-! THE QUICK MACHINE: a run with unknowns, reckoned in numbers alone. A value is 8 * p + k; k = 0: the int p; 1: the p-th unknown, an int; 2: the thing p; 3: what lay there before; 4: null; 5: the long p; 6: the p-th unknown as a long; 7: nothing is known of it; 15: the double 0; 23: the float 0; 31: that as a double. What comes behind is handed on as a function, so that a run is one reckoning of true -/
abbrev fv_Ob : Type := Nat × Nat × List Nat
abbrev fv_T : Type := List (List (List fv_Ob))
abbrev fv_Iv : Type := List (Nat × Nat)
abbrev fv_S : Type := List Nat → List Nat → Nat → fv_T → fv_Iv → Bool
abbrev fv_E : Type := Nat → Nat → Nat → fv_S
abbrev fv_C : Type := fv_E → fv_S
noncomputable def fv_if (b x y : Bool) : Bool := @Bool.rec (fun _ => Bool) y x b
noncomputable def fv_f (x : Nat) (k : Nat → Bool) : Bool := @Nat.rec (fun _ => Bool) (k 0) (fun m _ => k m) (Nat.succ x)
noncomputable def fv_u (l : List Nat) (k : Nat → List Nat → Bool) : Bool := @List.rec Nat (fun _ => Bool) false (fun a r _ => k a r) l
noncomputable def fv_e (l : List Nat) (k : Bool) : Bool := @List.rec Nat (fun _ => Bool) k (fun _ _ _ => false) l
noncomputable def fv_nth {α : Type} (l : List α) (i : Nat) (d : α) : α := @List.rec α (fun _ => Nat → α) (fun _ => d) (fun a _ ih i => @Nat.rec (fun _ => α) a (fun m _ => ih m) i) l i
noncomputable def fv_set {α : Type} (l : List α) (i : Nat) (x : α) : List α := @List.rec α (fun _ => Nat → List α) (fun _ => []) (fun a r ih i => @Nat.rec (fun _ => List α) (x :: r) (fun m _ => a :: ih m) i) l i
noncomputable def fv_rep (n v : Nat) : List Nat := @Nat.rec (fun _ => List Nat) [] (fun _ ih => v :: ih) n
noncomputable def fv_lt (a b : Nat) : Bool := Nat.ble (Nat.succ a) b
/-! values -/
/-- the p-th unknown number of two ints: the first half of it, the other half, or all -/
def fv_lo (ρ : Nat → Int32) (p : Nat) : Int64 := if p < 32 then (ρ (p - 16)).toInt64 <<< ((Int32.ofNat 32).toInt64 &&& 63) else if p < 48 then (ρ (p - 32)).toInt64 &&& Int64.ofNat 4294967295 else ((ρ (p - 48)).toInt64 <<< ((Int32.ofNat 32).toInt64 &&& 63)) ||| ((ρ (p - 47)).toInt64 &&& Int64.ofNat 4294967295)
def fv_de (ρ : Nat → Int32) (v : Nat) : Value := match v % 8 with
  | 0 => .int (Int32.ofNat (v / 8))
  | 1 => .int (ρ (v / 8))
  | 2 => .ref (v / 8)
  | 3 => .retAddr (v / 8)
  | 4 => .null
  | 5 => .long (Int64.ofNat (v / 8))
  | 6 => .long (ρ (v / 8)).toInt64
  | _ => match v / 8 with
    | 1 => .double FP.dconst0
    | 2 => .float FP.fconst0
    | 3 => .double (FP.f2d FP.fconst0)
    | p => if 16 ≤ p then .long (fv_lo ρ p) else .null
noncomputable def fv_isI (v : Nat) : Bool := Nat.ble (Nat.mod v 8) 1
noncomputable def fv_isJ (v : Nat) : Bool := fv_if (Nat.beq (Nat.mod v 8) 5) true (fv_if (Nat.beq (Nat.mod v 8) 6) true (fv_if (Nat.beq (Nat.mod v 8) 7) (Nat.ble 128 v) false))
noncomputable def fv_isR (v : Nat) : Bool := fv_if (Nat.ble 2 (Nat.mod v 8)) (Nat.ble (Nat.mod v 8) 4) false
noncomputable def fv_isD (v : Nat) : Bool := fv_if (Nat.beq v 15) true (Nat.beq v 31)
/-- of category 1 -/
noncomputable def fv_c1 (v : Nat) : Bool := fv_if (Nat.ble 5 (Nat.mod v 8)) (fv_if (Nat.beq (Nat.mod v 8) 7) (fv_if (Nat.beq v 15) false (fv_if (Nat.beq v 31) false (fv_if (Nat.ble 128 v) false true))) false) true
/-- no more than b words -/
noncomputable def fv_cl (l : List Nat) (b : Nat) : Bool := @List.rec Nat (fun _ => Nat → Bool) (fun _ => true) (fun v _ ih b => fv_if (fv_c1 v) (@Nat.rec (fun _ => Bool) false (fun m _ => ih m) b) (@Nat.rec (fun _ => Bool) false (fun m _ => @Nat.rec (fun _ => Bool) false (fun m2 _ => ih m2) m) b)) l b
/-- an int that is known -/
noncomputable def fv_pt (q : Nat × Nat) (k : Nat → Bool) : Bool := @Prod.rec Nat Nat (fun _ => Bool) (fun lo hi => fv_if (Nat.beq hi (Nat.succ lo)) (fv_f (Nat.mod (Nat.add lo 2147483648) 4294967296) k) false) q
noncomputable def fv_int (iv : fv_Iv) (v : Nat) (k : Nat → Bool) : Bool := fv_if (Nat.beq (Nat.mod v 8) 0) (fv_f (Nat.div v 8) k) (fv_if (Nat.beq (Nat.mod v 8) 1) (fv_pt (fv_nth iv (Nat.div v 8) (0, 4294967296)) k) false)
noncomputable def fv_lng (v : Nat) (k : Nat → Bool) : Bool := fv_if (Nat.beq (Nat.mod v 8) 5) (fv_f (Nat.div v 8) k) false
/-! things -/
noncomputable def fv_hg (t : fv_T) (a : Nat) : fv_Ob := fv_nth (fv_nth (fv_nth t (Nat.div a 121) []) (Nat.mod (Nat.div a 11) 11) []) (Nat.mod a 11) (199, 0, [])
noncomputable def fv_hs (t : fv_T) (a : Nat) (o : fv_Ob) : fv_T := fv_set t (Nat.div a 121) (fv_set (fv_nth t (Nat.div a 121) []) (Nat.mod (Nat.div a 11) 11) (fv_set (fv_nth (fv_nth t (Nat.div a 121) []) (Nat.mod (Nat.div a 11) 11) []) (Nat.mod a 11) o))
noncomputable def fv_o (t : fv_T) (a : Nat) (k : Nat → Nat → List Nat → Bool) : Bool := @Prod.rec Nat (Nat × List Nat) (fun _ => Bool) (fun c q => @Prod.rec Nat (List Nat) (fun _ => Bool) (fun n s => k c n s) q) (fv_hg t a)
noncomputable def fv_ref (v : Nat) (k : Nat → Bool) : Bool := fv_if (Nat.beq (Nat.mod v 8) 2) (fv_f (Nat.div v 8) k) false
/-! straight instructions -/
noncomputable def fv_go (c : fv_C × Unit) : fv_C := fun e lv st n t iv => @Prod.rec fv_C Unit (fun _ => Bool) (fun f _ => f e lv st n t iv) c
noncomputable def fv_push (v : Nat) (K : fv_C) : fv_C := fun e lv st n t iv => fv_f v (fun w => K e lv (w :: st) n t iv)
noncomputable def fv_load (p : Nat → Bool) (i : Nat) (K : fv_C) : fv_C := fun e lv st n t iv => fv_f (fv_nth lv i 7) (fun v => fv_if (p v) (K e lv (v :: st) n t iv) false)
noncomputable def fv_s1 (lv : List Nat) (i v : Nat) : List Nat := @Bool.rec (fun _ => List Nat) (fv_set (fv_set lv i v) (Nat.pred i) 7) (fv_set lv i v) (fv_c1 (fv_nth lv (Nat.pred i) 7))
noncomputable def fv_s2 (lv : List Nat) (i v : Nat) : List Nat := fv_set (fv_s1 lv i v) (Nat.succ i) 7
noncomputable def fv_store (p : Nat → Bool) (i : Nat) (K : fv_C) : fv_C := fun e lv st n t iv => fv_u st (fun v r => fv_if (p v) (K e (fv_s1 lv i v) r n t iv) false)
noncomputable def fv_store2 (p : Nat → Bool) (i : Nat) (K : fv_C) : fv_C := fun e lv st n t iv => fv_u st (fun v r => fv_if (p v) (K e (fv_s2 lv i v) r n t iv) false)
noncomputable def fv_ni (n : Int) : Nat := Int.toNat (n % 4294967296)
noncomputable def fv_nj (n : Int) : Nat := Int.toNat (n % 18446744073709551616)
/-- what comes of unknowns: 1 product, 2 sum, 3 shifted, 4 rest, 5 .. 7 of longs -/
def fv_tbl : List (Nat × Nat × Nat × Nat) := [(2, 169, 8, 177), (2, 185, 8, 193), (1, 321, 8828121960, 329), (2, 329, 98760, 385), (3, 321, 128, 337), (4, 337, 128, 345), (4, 337, 8000, 353), (4, 337, 2040, 361), (2, 361, 8, 369),
  (1, 385, 8828121960, 393), (2, 393, 98760, 449), (3, 385, 128, 401), (4, 401, 128, 409), (4, 401, 8000, 417), (4, 401, 2040, 425), (2, 425, 8, 433),
  (1, 449, 8828121960, 457), (2, 457, 98760, 513), (3, 449, 128, 465), (4, 465, 128, 473), (4, 465, 8000, 481), (4, 465, 2040, 489), (2, 489, 8, 497),
  (1, 513, 8828121960, 521), (2, 521, 98760, 577), (3, 513, 128, 529), (4, 529, 128, 537), (4, 529, 8000, 545), (4, 529, 2040, 553), (2, 553, 8, 561),
  (1, 577, 8828121960, 585), (2, 585, 98760, 641), (3, 577, 128, 593), (4, 593, 128, 601), (4, 593, 8000, 609), (4, 593, 2040, 617), (2, 617, 8, 625),
  (5, 14, 256, 143), (6, 22, 34359738365, 279), (7, 143, 279, 399), (5, 30, 256, 159), (6, 38, 34359738365, 295), (7, 159, 295, 415), (5, 46, 256, 175), (6, 54, 34359738365, 311), (7, 175, 311, 431), (5, 62, 256, 191), (6, 70, 34359738365, 327), (7, 191, 327, 447), (5, 78, 256, 207), (6, 86, 34359738365, 343), (7, 207, 343, 463), (5, 94, 256, 223), (6, 102, 34359738365, 359), (7, 223, 359, 479)]
noncomputable def fv_lk (op x y : Nat) (L : List (Nat × Nat × Nat × Nat)) (k : Nat → Bool) (b : Bool) : Bool := @List.rec (Nat × Nat × Nat × Nat) (fun _ => Bool) b (fun q _ ih => @Prod.rec Nat (Nat × Nat × Nat) (fun _ => Bool) (fun o q => @Prod.rec Nat (Nat × Nat) (fun _ => Bool) (fun a q => @Prod.rec Nat Nat (fun _ => Bool) (fun c r => fv_if (Nat.beq o op) (fv_if (Nat.beq a x) (fv_if (Nat.beq c y) (k r) ih) ih) ih) q) q) q) L
noncomputable def fv_iinc (i m : Nat) (K : fv_C) : fv_C := fun e lv st n t iv => fv_if (Nat.beq (Nat.mod (fv_nth lv i 7) 8) 1) (fv_f (Nat.mul 8 m) (fun y => fv_lk 2 (fv_nth lv i 7) y fv_tbl (fun w => K e (fv_s1 lv i w) st n t iv) (fv_int iv (fv_nth lv i 7) (fun a => fv_f (Nat.mul 8 (Nat.mod (Nat.add a m) 4294967296)) (fun w => K e (fv_s1 lv i w) st n t iv))))) (fv_int iv (fv_nth lv i 7) (fun a => fv_f (Nat.mul 8 (Nat.mod (Nat.add a m) 4294967296)) (fun w => K e (fv_s1 lv i w) st n t iv)))
noncomputable def fv_2 (st : List Nat) (k : Nat → Nat → List Nat → Bool) : Bool := fv_u st (fun y r => fv_u r (fun x q => k x y q))
noncomputable def fv_tbo (op : Nat) (K : fv_C) : fv_C := fun e lv st n t iv => fv_2 st (fun x y q => fv_lk op x y fv_tbl (fun w => K e lv (w :: q) n t iv) false)
noncomputable def fv_op (f : Nat → Nat → Nat) (K : fv_C) : fv_C := fun e lv st n t iv => fv_2 st (fun x y q => fv_int iv x (fun a => fv_int iv y (fun b => fv_f (Nat.mul 8 (f a b)) (fun w => K e lv (w :: q) n t iv))))
noncomputable def fv_iadd (K : fv_C) : fv_C := fun e lv st n t iv => fv_2 st (fun x y q => fv_if (Nat.beq x 0) (fv_if (fv_isI y) (K e lv (y :: q) n t iv) false) (fv_if (Nat.beq y 0) (fv_if (fv_isI x) (K e lv (x :: q) n t iv) false) (fv_if (Nat.beq (Nat.mod x 8) 1) (fv_lk 2 x y fv_tbl (fun w => K e lv (w :: q) n t iv) (fv_int iv x (fun a => fv_int iv y (fun b => fv_f (Nat.mul 8 (Nat.mod (Nat.add a b) 4294967296)) (fun w => K e lv (w :: q) n t iv))))) (fv_int iv x (fun a => fv_int iv y (fun b => fv_f (Nat.mul 8 (Nat.mod (Nat.add a b) 4294967296)) (fun w => K e lv (w :: q) n t iv)))))))
noncomputable def fv_isub (K : fv_C) : fv_C := fun e lv st n t iv => fv_2 st (fun x y q => fv_if (Nat.beq y 0) (fv_if (fv_isI x) (K e lv (x :: q) n t iv) false) (fv_int iv x (fun a => fv_int iv y (fun b => fv_f (Nat.mul 8 (Nat.mod (Nat.add a (Nat.sub 4294967296 (Nat.mod b 4294967296))) 4294967296)) (fun w => K e lv (w :: q) n t iv)))))
noncomputable def fv_iand (K : fv_C) : fv_C := fun e lv st n t iv => fv_2 st (fun x y q => fv_if (Nat.beq x 1) (fv_if (Nat.beq y 504) (K e lv (105 :: q) n t iv) false) (fv_int iv x (fun a => fv_int iv y (fun b => fv_f (Nat.mul 8 (Nat.land a b)) (fun w => K e lv (w :: q) n t iv)))))
noncomputable def fv_ishr (K : fv_C) : fv_C := fun e lv st n t iv => fv_2 st (fun x y q => fv_if (Nat.beq y 0) (fv_if (fv_isI x) (K e lv (x :: q) n t iv) false) false)
noncomputable def fv_idiv (K : fv_C) : fv_C := fun e lv st n t iv => fv_2 st (fun x y q => fv_int iv x (fun a => fv_int iv y (fun b => fv_if (fv_lt a 2147483648) (fv_if (fv_lt b 2147483648) (fv_if (Nat.beq b 0) false (fv_f (Nat.mul 8 (Nat.div a b)) (fun w => K e lv (w :: q) n t iv))) false) false)))
noncomputable def fv_lop (f : Nat → Nat → Nat) (K : fv_C) : fv_C := fun e lv st n t iv => fv_2 st (fun x y q => fv_lng x (fun a => fv_lng y (fun b => fv_f (Nat.add (Nat.mul 8 (f a b)) 5) (fun w => K e lv (w :: q) n t iv))))
noncomputable def fv_land (K : fv_C) : fv_C := fun e lv st n t iv => fv_2 st (fun x y q => fv_if (Nat.beq (Nat.mod x 8) 5) (fv_lng x (fun a => fv_lng y (fun b => fv_f (Nat.add (Nat.mul 8 (Nat.land a b)) 5) (fun w => K e lv (w :: q) n t iv)))) (fv_lk 6 x y fv_tbl (fun w => K e lv (w :: q) n t iv) false))
noncomputable def fv_ladd (K : fv_C) : fv_C := fun e lv st n t iv => fv_2 st (fun x y q => fv_if (Nat.beq x 5) (fv_if (fv_isJ y) (K e lv (y :: q) n t iv) false) (fv_if (Nat.beq y 5) (fv_if (fv_isJ x) (K e lv (x :: q) n t iv) false) (fv_lng x (fun a => fv_lng y (fun b => fv_f (Nat.add (Nat.mul 8 (Nat.mod (Nat.add a b) 18446744073709551616)) 5) (fun w => K e lv (w :: q) n t iv))))))
noncomputable def fv_lushr (K : fv_C) : fv_C := fun e lv st n t iv => fv_2 st (fun x y q => fv_if (Nat.beq x 5) (fv_if (fv_isI y) (K e lv (5 :: q) n t iv) false) false)
noncomputable def fv_i2l (K : fv_C) : fv_C := fun e lv st n t iv => fv_u st (fun x q => fv_if (Nat.beq (Nat.mod x 8) 0) (fv_if (fv_lt (Nat.mod (Nat.div x 8) 4294967296) 2147483648) (fv_f (Nat.add (Nat.mul 8 (Nat.mod (Nat.div x 8) 4294967296)) 5) (fun w => K e lv (w :: q) n t iv)) (fv_f (Nat.add (Nat.mul 8 (Nat.add (Nat.mod (Nat.div x 8) 4294967296) 18446744069414584320)) 5) (fun w => K e lv (w :: q) n t iv))) (fv_if (Nat.beq (Nat.mod x 8) 1) (fv_f (Nat.add x 5) (fun w => K e lv (w :: q) n t iv)) false))
noncomputable def fv_l2i (K : fv_C) : fv_C := fun e lv st n t iv => fv_u st (fun x q => fv_if (Nat.beq (Nat.mod x 8) 5) (fv_f (Nat.mul 8 (Nat.mod (Nat.div x 8) 4294967296)) (fun w => K e lv (w :: q) n t iv)) (fv_if (Nat.beq (Nat.mod x 8) 6) (fv_f (Nat.sub x 5) (fun w => K e lv (w :: q) n t iv)) false))
noncomputable def fv_i2c (K : fv_C) : fv_C := fun e lv st n t iv => fv_u st (fun x q => fv_int iv x (fun a => fv_f (Nat.mul 8 (Nat.mod a 65536)) (fun w => K e lv (w :: q) n t iv)))
noncomputable def fv_dup (K : fv_C) : fv_C := fun e lv st n t iv => fv_u st (fun v r => fv_if (fv_c1 v) (K e lv (v :: v :: r) n t iv) false)
noncomputable def fv_pop (K : fv_C) : fv_C := fun e lv st n t iv => fv_u st (fun v r => fv_if (fv_c1 v) (K e lv r n t iv) false)
noncomputable def fv_dupx (K : fv_C) : fv_C := fun e lv st n t iv => fv_2 st (fun w v r => fv_if (fv_c1 v) (fv_if (fv_c1 w) (K e lv (v :: w :: v :: r) n t iv) false) false)
/-! unknowns: which way -/
noncomputable def fv_pc (iv : fv_Iv) (u lo hi : Nat) (k : fv_Iv → Bool) : Bool := fv_if (fv_lt lo hi) (fv_f lo (fun lo => fv_f hi (fun hi => k (fv_set iv u (lo, hi))))) true
noncomputable def fv_min (a b : Nat) : Nat := @Bool.rec (fun _ => Nat) b a (Nat.ble a b)
noncomputable def fv_max (a b : Nat) : Nat := @Bool.rec (fun _ => Nat) a b (Nat.ble a b)
/-- the unknown u below k, or not -/
noncomputable def fv_ltk (iv : fv_Iv) (u c : Nat) (kT kF : fv_Iv → Bool) : Bool := @Prod.rec Nat Nat (fun _ => Bool) (fun lo hi => fv_if (fv_pc iv u lo (fv_min hi c) kT) (fv_pc iv u (fv_max lo c) hi kF) false) (fv_nth iv u (0, 4294967296))
noncomputable def fv_eqk (iv : fv_Iv) (u c : Nat) (kT kF : fv_Iv → Bool) : Bool := @Prod.rec Nat Nat (fun _ => Bool) (fun lo hi => fv_if (fv_pc iv u lo (fv_min hi c) kF) (fv_if (fv_pc iv u (fv_max lo c) (fv_min hi (Nat.succ c)) kT) (fv_pc iv u (fv_max lo (Nat.succ c)) hi kF) false) false) (fv_nth iv u (0, 4294967296))
noncomputable def fv_off (v : Nat) : Nat := Nat.mod (Nat.add (Nat.div v 8) 2147483648) 4294967296
/-- is only one number left of it? -/
noncomputable def fv_sg (q : Nat × Nat) (k : Nat → Bool) (b : Bool) : Bool := @Prod.rec Nat Nat (fun _ => Bool) (fun lo hi => fv_if (Nat.beq hi (Nat.succ lo)) (fv_f lo k) b) q
noncomputable def fv_vv (iv : fv_Iv) (p q : Nat × Nat) (kT kF : fv_Iv → Bool) : Bool := fv_if (Nat.ble p.2 q.1) (kT iv) (fv_if (Nat.ble q.2 (Nat.succ p.1)) (kF iv) (fv_if (kT iv) (kF iv) false))
noncomputable def fv_lt2 (iv : fv_Iv) (x y : Nat) (kT kF : fv_Iv → Bool) : Bool := fv_if (Nat.beq (Nat.mod x 8) 0)
  (fv_if (Nat.beq (Nat.mod y 8) 0) (fv_if (fv_lt (fv_off x) (fv_off y)) (kT iv) (kF iv)) (fv_if (Nat.beq (Nat.mod y 8) 1) (fv_ltk iv (Nat.div y 8) (Nat.succ (fv_off x)) kF kT) false))
  (fv_if (Nat.beq (Nat.mod x 8) 1) (fv_if (Nat.beq (Nat.mod y 8) 0) (fv_ltk iv (Nat.div x 8) (fv_off y) kT kF) (fv_if (Nat.beq (Nat.mod y 8) 1) (fv_sg (fv_nth iv (Nat.div x 8) (0, 4294967296)) (fun c => fv_ltk iv (Nat.div y 8) (Nat.succ c) kF kT) (fv_sg (fv_nth iv (Nat.div y 8) (0, 4294967296)) (fun c => fv_ltk iv (Nat.div x 8) c kT kF) (fv_vv iv (fv_nth iv (Nat.div x 8) (0, 4294967296)) (fv_nth iv (Nat.div y 8) (0, 4294967296)) kT kF))) false)) false)
noncomputable def fv_eq2 (iv : fv_Iv) (x y : Nat) (kT kF : fv_Iv → Bool) : Bool := fv_if (Nat.beq (Nat.mod x 8) 0)
  (fv_if (Nat.beq (Nat.mod y 8) 0) (fv_if (Nat.beq (fv_off x) (fv_off y)) (kT iv) (kF iv)) (fv_if (Nat.beq (Nat.mod y 8) 1) (fv_eqk iv (Nat.div y 8) (fv_off x) kT kF) false))
  (fv_if (Nat.beq (Nat.mod x 8) 1) (fv_if (Nat.beq (Nat.mod y 8) 0) (fv_eqk iv (Nat.div x 8) (fv_off y) kT kF) (fv_if (Nat.beq (Nat.mod y 8) 1) (fv_sg (fv_nth iv (Nat.div x 8) (0, 4294967296)) (fun c => fv_eqk iv (Nat.div y 8) c kT kF) (fv_sg (fv_nth iv (Nat.div y 8) (0, 4294967296)) (fun c => fv_eqk iv (Nat.div x 8) c kT kF) (fv_if (kT iv) (kF iv) false))) false)) false)
/-- the long's place among the ints, if it is one -/
noncomputable def fv_jo (v : Nat) (k : Nat → Bool) : Bool := fv_lng v (fun a => fv_f (Nat.mod (Nat.add a 2147483648) 18446744073709551616) (fun c => fv_if (fv_lt c 4294967296) (k c) false))
noncomputable def fv_jsg (a : Nat) : Nat := Nat.mod (Nat.add a 9223372036854775808) 18446744073709551616
noncomputable def fv_lcmp (K : fv_C) : fv_C := fun e lv st n t iv => fv_2 st (fun x y q => fv_if (Nat.beq x y) (fv_if (fv_isJ x) (K e lv (0 :: q) n t iv) false) (fv_if (Nat.beq (Nat.mod x 8) 5)
  (fv_if (Nat.beq (Nat.mod y 8) 5) (fv_if (fv_lt (fv_jsg (Nat.div x 8)) (fv_jsg (Nat.div y 8))) (K e lv (34359738360 :: q) n t iv) (fv_if (Nat.beq (fv_jsg (Nat.div x 8)) (fv_jsg (Nat.div y 8))) (K e lv (0 :: q) n t iv) (K e lv (8 :: q) n t iv)))
    (fv_if (Nat.beq (Nat.mod y 8) 6) (fv_jo x (fun c => fv_ltk iv (Nat.div y 8) c (fun iv => K e lv (8 :: q) n t iv) (fun iv => fv_eqk iv (Nat.div y 8) c (fun iv => K e lv (0 :: q) n t iv) (fun iv => K e lv (34359738360 :: q) n t iv)))) false))
  (fv_if (Nat.beq (Nat.mod x 8) 6) (fv_jo y (fun c => fv_ltk iv (Nat.div x 8) c (fun iv => K e lv (34359738360 :: q) n t iv) (fun iv => fv_eqk iv (Nat.div x 8) c (fun iv => K e lv (0 :: q) n t iv) (fun iv => K e lv (8 :: q) n t iv)))) false)))
noncomputable def fv_jsr (k : Nat) (K : fv_C) : fv_C := fun e lv st n t iv => fv_2 st (fun x y q => fv_int iv x (fun a => fv_int iv y (fun b => fv_if (fv_lt a 2147483648) (fv_if (fv_lt b 2147483648) (fv_if (fv_cl q 8) (fv_f (Nat.mul 8 (@Nat.rec (fun _ => Nat) (fv_min a b) (fun _ _ => fv_max a b) k)) (fun w => K e lv (w :: q) n t iv)) false) false) false)))
/-! fields and rows -/
noncomputable def fv_tc (f : Nat) : Nat := match am_fty (f / 128) (f % 128) with
  | .int => 0
  | .long => 1
  | .object _ => 2
  | .array _ => 2
  | .boolean => 3
  | _ => 4
noncomputable def fv_b01 (v : Nat) : Bool := fv_if (Nat.beq v 0) true (Nat.beq v 8)
noncomputable def fv_vt (c v : Nat) : Bool := @Nat.rec (fun _ => Bool) (fv_isI v) (fun c _ => @Nat.rec (fun _ => Bool) (fv_isJ v) (fun c _ => @Nat.rec (fun _ => Bool) (fv_isR v) (fun c _ => @Nat.rec (fun _ => Bool) (fv_b01 v) (fun _ _ => false) c) c) c) c
noncomputable def fv_get (f : Nat) (K : fv_C) : fv_C := fun e lv st n t iv => fv_u st (fun v r => fv_ref v (fun a => fv_o t a (fun c z s => fv_if (Nat.beq c (Nat.div f 128)) (fv_if (fv_lt (Nat.mod f 128) z) (fv_f (fv_nth s (Nat.mod f 128) 7) (fun w => K e lv (w :: r) n t iv)) false) false)))
/-- a field of a String constant -/
noncomputable def fv_getx (f : Nat) (K : fv_C) : fv_C := fun e lv st n t iv => fv_u st (fun v r => fv_if (Nat.beq (Nat.mod v 8) 3) (fv_if (fv_lt (Nat.div v 8) 103) (fv_if (Nat.beq f 0) (fv_f (Nat.add v 24000) (fun w => K e lv (w :: r) n t iv)) (fv_if (Nat.beq f 1) (K e lv (0 :: r) n t iv) false)) false) false)
noncomputable def fv_put (f : Nat) (K : fv_C) : fv_C := fun e lv st n t iv => fv_2 st (fun x v r => fv_ref x (fun a => fv_o t a (fun c z s => fv_if (Nat.beq c (Nat.div f 128)) (fv_if (fv_lt (Nat.mod f 128) z) (fv_if (fv_vt (fv_tc f) v) (K e lv r n (fv_hs t a (c, z, fv_set s (Nat.mod f 128) v)) iv) false) false) false)))
noncomputable def fv_ald (p : Nat → Bool) (K : fv_C) : fv_C := fun e lv st n t iv => fv_2 st (fun x y r => fv_int iv y (fun i => fv_ref x (fun a => fv_o t a (fun c z s => fv_if (p c) (fv_if (fv_lt i z) (fv_f (fv_nth s i 7) (fun w => K e lv (w :: r) n t iv)) false) false))))
noncomputable def fv_kA (c : Nat) : Bool := fv_if (Nat.ble 103 c) (fv_if (Nat.beq c 199) false true) false
/-- the script has a place i: its length is the 15th unknown -/
noncomputable def fv_sc (q : Nat × Nat) (i : Nat) (k : Bool) : Bool := fv_if (Nat.ble (Nat.add i 2147483649) q.1) k false
noncomputable def fv_iald (K : fv_C) : fv_C := fun e lv st n t iv => fv_2 st (fun x y r => fv_int iv y (fun i => fv_if (Nat.beq x 16003) (fv_if (fv_lt i 13) (fv_sc (fv_nth iv 15 (0, 4294967296)) i (fv_f (Nat.add (Nat.mul 8 i) 1) (fun w => K e lv (w :: r) n t iv))) false)
  (fv_ref x (fun a => fv_o t a (fun c z s => fv_if (Nat.beq c 100) (fv_if (fv_lt i z) (fv_f (fv_nth s i 7) (fun w => K e lv (w :: r) n t iv)) false) false)))))
noncomputable def fv_bald (K : fv_C) : fv_C := fun e lv st n t iv => fv_2 st (fun x y r => fv_int iv y (fun i => fv_if (Nat.beq (Nat.mod x 8) 3) (fv_if (Nat.ble 3000 (Nat.div x 8)) (fv_if (fv_lt (Nat.div x 8) 3103) (fv_f (fv_nth (fv_nth am_txt (Nat.sub (Nat.div x 8) 3000) []) i 256) (fun b => fv_if (fv_lt b 256) (K e lv (Nat.mul 8 b :: r) n t iv) false)) false) false)
  (fv_ref x (fun a => fv_o t a (fun c z s => fv_if (Nat.beq c 102) (fv_if (fv_lt i z) (fv_f (fv_nth s i 7) (fun w => K e lv (w :: r) n t iv)) false) false)))))
noncomputable def fv_lens : List Nat := am_txt.map List.length
noncomputable def fv_len (K : fv_C) : fv_C := fun e lv st n t iv => fv_u st (fun x r => fv_if (Nat.beq (Nat.mod x 8) 2)
  (fv_o t (Nat.div x 8) (fun c z _ => fv_if (Nat.ble 100 c) (fv_if (Nat.beq c 199) false (fv_f (Nat.mul 8 z) (fun w => K e lv (w :: r) n t iv))) false))
  (fv_if (Nat.beq x 16003) (K e lv (121 :: r) n t iv) (fv_if (Nat.beq x 8003) (K e lv (0 :: r) n t iv) (fv_if (Nat.beq (Nat.mod x 8) 3) (fv_if (Nat.ble 3000 (Nat.div x 8)) (fv_if (fv_lt (Nat.div x 8) 3103) (fv_f (Nat.mul 8 (fv_nth fv_lens (Nat.sub (Nat.div x 8) 3000) 0)) (fun w => K e lv (w :: r) n t iv)) false) false) false))))
noncomputable def fv_3 (st : List Nat) (k : Nat → Nat → Nat → List Nat → Bool) : Bool := fv_u st (fun v r => fv_u r (fun y r => fv_u r (fun x r => k x y v r)))
noncomputable def fv_ast (p : Nat → fv_T → Nat → Bool) (K : fv_C) : fv_C := fun e lv st n t iv => fv_3 st (fun x y v r => fv_int iv y (fun i => fv_ref x (fun a => fv_o t a (fun c z s => fv_if (p c t v) (fv_if (fv_lt i z) (K e lv r n (fv_hs t a (c, z, fv_set s i v)) iv) false) false))))
noncomputable def fv_pI (c : Nat) (_ : fv_T) (v : Nat) : Bool := fv_if (Nat.beq c 100) (fv_isI v) false
noncomputable def fv_pJ (c : Nat) (_ : fv_T) (v : Nat) : Bool := fv_if (Nat.beq c 101) (fv_isJ v) false
noncomputable def fv_pZ (c : Nat) (_ : fv_T) (v : Nat) : Bool := fv_if (Nat.beq c 102) (fv_b01 v) false
noncomputable def fv_pA (c : Nat) (t : fv_T) (v : Nat) : Bool := fv_if (Nat.beq v 4) (fv_if (Nat.ble 104 c) (fv_if (Nat.beq c 199) false true) false)
  (fv_ref v (fun x => fv_o t x (fun k _ _ => fv_if (fv_lt k 100) (fv_if (Nat.beq c (Nat.add 200 k)) true (fv_if (Nat.beq c 104) (fv_if (Nat.beq k 4) true (fv_if (Nat.beq k 5) true (Nat.beq k 7))) false)) false)))
/-- a new thing; n is 2048 times the places in all, and how many things there are -/
noncomputable def fv_mk (c z : Nat) (s : List Nat) (k : Nat → Nat → fv_T → Bool) (n : Nat) (t : fv_T) : Bool := fv_f (Nat.mod n 2048) (fun a => fv_if (fv_lt a 1331) (fv_if (Nat.ble z 1000000) (fv_f (Nat.add n (Nat.succ (Nat.mul 2048 z))) (fun n2 => k (Nat.add (Nat.mul 8 a) 2) n2 (fv_hs t a (c, z, s)))) false) false)
def fv_en : Value → Nat
  | .int _ => 0
  | .long _ => 5
  | _ => 4
def fv_df (ci : Nat) : List Nat := (am_df ci).map fv_en
noncomputable def fv_new (ci : Nat) (K : fv_C) : fv_C := fun e lv st n t iv => fv_f (fv_df ci).length (fun z => fv_mk ci z (fv_df ci) (fun v n t => K e lv (v :: st) n t iv) n t)
noncomputable def fv_newa (c v : Nat) (K : fv_C) : fv_C := fun e lv st n t iv => fv_u st (fun x r => fv_int iv x (fun z => fv_mk c z (fv_rep z v) (fun v n t => K e lv (v :: r) n t iv) n t))
noncomputable def fv_cast (ci : Nat) (K : fv_C) : fv_C := fun e lv st n t iv => fv_u st (fun x r => fv_if (Nat.beq x 4) (K e lv (x :: r) n t iv) (fv_ref x (fun a => fv_o t a (fun c _ _ => fv_if (Nat.beq c ci) (fv_if (fv_lt c 100) (K e lv (x :: r) n t iv) false) false))))
noncomputable def fv_oi (K : fv_C) : fv_C := fun e lv st n t iv => fv_u st (fun x r => fv_if (Nat.beq (Nat.mod x 8) 2) (fv_if (fv_cl r 8) (K e lv r n t iv) false) false)
noncomputable def fv_f2d (K : fv_C) : fv_C := fun e lv st n t iv => fv_u st (fun x r => fv_if (Nat.beq x 23) (K e lv (31 :: r) n t iv) false)
noncomputable def fv_dcmp (K : fv_C) : fv_C := fun e lv st n t iv => fv_2 st (fun x y r => fv_if (Nat.beq x y) (fv_if (fv_isD x) (K e lv (0 :: r) n t iv) false) false)
noncomputable def fv_no (_ : fv_C) : fv_C := fun _ _ _ _ _ _ => false
noncomputable def fv_in (a : Instr) (K : fv_C) : fv_C × Unit := match a with
  | .iconst n => (fv_push (Nat.mul 8 (fv_ni n)) K, ())
  | .jsr_w n => (fv_push (Nat.add (Nat.mul 8 (fv_nj n)) 5) K, ())
  | .aconst_null => (fv_push 4 K, ())
  | .ldc k => (fv_push (Nat.add (Nat.mul 8 k) 3) K, ())
  | .iload i => (fv_load fv_isI i K, ())
  | .lload i => (fv_load fv_isJ i K, ())
  | .aload i => (fv_load fv_isR i K, ())
  | .dload i => (fv_load fv_isD i K, ())
  | .istore i => (fv_store fv_isI i K, ())
  | .lstore i => (fv_store2 fv_isJ i K, ())
  | .astore i => (fv_store fv_isR i K, ())
  | .dstore i => (fv_store2 fv_isD i K, ())
  | .iinc i n => (fv_iinc i (fv_ni n) K, ())
  | .iadd => (fv_iadd K, ())
  | .isub => (fv_isub K, ())
  | .iand => (fv_iand K, ())
  | .ior => (fv_op Nat.lor K, ())
  | .ishr => (fv_ishr K, ())
  | .idiv => (fv_idiv K, ())
  | .ladd => (fv_ladd K, ())
  | .lsub => (fv_lop (fun a b => Nat.mod (Nat.add a (Nat.sub 18446744073709551616 (Nat.mod b 18446744073709551616))) 18446744073709551616) K, ())
  | .land => (fv_land K, ())
  | .imul => (fv_tbo 1 K, ())
  | .iushr => (fv_tbo 3 K, ())
  | .irem => (fv_tbo 4 K, ())
  | .lshl => (fv_tbo 5 K, ())
  | .lor => (fv_tbo 7 K, ())
  | .lushr => (fv_lushr K, ())
  | .lcmp => (fv_lcmp K, ())
  | .i2l => (fv_i2l K, ())
  | .l2i => (fv_l2i K, ())
  | .i2c => (fv_i2c K, ())
  | .dup => (fv_dup K, ())
  | .pop => (fv_pop K, ())
  | .dup_x1 => (fv_dupx K, ())
  | .getfield f => @Bool.rec (fun _ => fv_C × Unit) (fv_getx f K, ()) (@Bool.rec (fun _ => fv_C × Unit) (fv_no K, ()) (fv_get f K, ()) (fv_lt f 12800)) (Nat.ble 384 f)
  | .putfield f => @Bool.rec (fun _ => fv_C × Unit) (fv_no K, ()) (fv_put f K, ()) (fv_lt f 12800)
  | .iaload => (fv_iald K, ())
  | .laload => (fv_ald (Nat.beq 101) K, ())
  | .baload => (fv_bald K, ())
  | .aaload => (fv_ald fv_kA K, ())
  | .arraylength => (fv_len K, ())
  | .iastore => (fv_ast fv_pI K, ())
  | .lastore => (fv_ast fv_pJ K, ())
  | .bastore => (fv_ast fv_pZ K, ())
  | .aastore => (fv_ast fv_pA K, ())
  | .getstatic k => @Nat.rec (fun _ => fv_C × Unit) (fv_push 8 K, ()) (fun m _ => @Nat.rec (fun _ => fv_C × Unit) (fv_push 8003 K, ()) (fun _ _ => (fv_no K, ())) m) k
  | .new ci => (fv_new ci K, ())
  | .newarray t => match t with
    | .int => (fv_newa 100 0 K, ())
    | .long => (fv_newa 101 5 K, ())
    | .boolean => (fv_newa 102 0 K, ())
    | _ => (fv_no K, ())
  | .anewarray k => (fv_newa k 4 K, ())
  | .checkcast ci => (fv_cast ci K, ())
  | .invokedynamic _ => (fv_oi K, ())
  | .jsr k => (fv_jsr (Int.natAbs k) K, ())
  | .dconst n => @Nat.rec (fun _ => fv_C × Unit) (fv_push 15 K, ()) (fun _ _ => (fv_no K, ())) n.val
  | .fconst n => @Nat.rec (fun _ => fv_C × Unit) (fv_push 23 K, ()) (fun _ _ => (fv_no K, ())) n.val
  | .f2d => (fv_f2d K, ())
  | .dcmp _ => (fv_dcmp K, ())
  | _ => (fv_no K, ())
/-! ends of blocks: what comes is told as a, b, c: 0 b 0: on at block b; 1 0 0: an answer; 2 x 0: a throw of x; 3 + bi, y, m: the call at the end of bi -/
noncomputable def fv_kg (e : fv_E) (b : Nat) (lv r : List Nat) (n : Nat) (t : fv_T) : fv_Iv → Bool := fun iv => e 0 b 0 lv r n t iv
noncomputable def fv_cmp (c : ClassFile.Cond) (x y : Nat) (kT kF : fv_Iv → Bool) (iv : fv_Iv) : Bool := match c with
  | .eq => fv_eq2 iv x y kT kF
  | .ne => fv_eq2 iv x y kF kT
  | .lt => fv_lt2 iv x y kT kF
  | .ge => fv_lt2 iv x y kF kT
  | .gt => fv_lt2 iv y x kT kF
  | .le => fv_lt2 iv y x kF kT
noncomputable def fv_tif (c : ClassFile.Cond) (o b1 : Nat) : fv_C := fun e lv st n t iv => fv_u st (fun x r => fv_cmp c x 0 (fv_kg e o lv r n t) (fv_kg e b1 lv r n t) iv)
noncomputable def fv_tic (c : ClassFile.Cond) (o b1 : Nat) : fv_C := fun e lv st n t iv => fv_2 st (fun x y r => fv_cmp c x y (fv_kg e o lv r n t) (fv_kg e b1 lv r n t) iv)
noncomputable def fv_tgo (o : Nat) : fv_C := fun e lv st n t iv => e 0 o 0 lv st n t iv
noncomputable def fv_tac (b : Nat) : fv_C := fun e lv st n t iv => fv_2 st (fun x y r => fv_if (Nat.beq x y) (fv_if (Nat.beq (Nat.mod x 8) 3) (e 0 b 0 lv r n t iv) false) false)
noncomputable def fv_tnl (o b1 : Nat) : fv_C := fun e lv st n t iv => fv_u st (fun x r => fv_if (Nat.beq x 4) (e 0 o 0 lv r n t iv) (fv_if (Nat.beq (Nat.mod x 8) 2) (e 0 b1 0 lv r n t iv) false))
/-- the int c: on at b; else the next -/
noncomputable def fv_sw (L : List (Nat × Nat)) (d x : Nat) (kk : Nat → fv_Iv → Bool) (iv : fv_Iv) : Bool := @List.rec (Nat × Nat) (fun _ => fv_Iv → Bool) (fun iv => kk d iv) (fun q _ ih iv => @Prod.rec Nat Nat (fun _ => Bool) (fun c b => fv_eq2 iv x c (kk b) ih) q) L iv
noncomputable def fv_kg2 (e : fv_E) (lv r : List Nat) (n : Nat) (t : fv_T) : Nat → fv_Iv → Bool := fun b iv => e 0 b 0 lv r n t iv
def fv_tl (lo : Int) (offs : List Int) : List (Nat × Nat) := match offs with
  | [] => []
  | o :: r => (8 * Int.toNat (lo % 4294967296), o.toNat) :: fv_tl (lo + 1) r
noncomputable def fv_ttb (L : List (Nat × Nat)) (d : Nat) : fv_C := fun e lv st n t iv => fv_u st (fun x r => fv_if (fv_isI x) (fv_sw L d x (fv_kg2 e lv r n t) iv) false)
noncomputable def fv_ret (p : Nat → Bool) : fv_C := fun e lv st n t iv => fv_u st (fun v r => fv_e r (fv_if (p v) (e 1 0 0 lv st n t iv) false))
noncomputable def fv_rev : fv_C := fun e lv st n t iv => fv_e st (e 1 0 0 lv st n t iv)
noncomputable def fv_thr (x : Nat) : fv_C := fun e lv st n t iv => fv_e st (fv_if (fv_lt x 3) (e 2 x 0 lv st n t iv) false)
noncomputable def fv_cll (bi y m : Nat) : fv_C := fun e lv st n t iv => e (Nat.add bi 3) y m lv st n t iv
noncomputable def fv_tm (bi : Nat) (t : Instr) : fv_C × Unit := match t with
  | .nop => (fv_tgo (Nat.succ bi), ())
  | .goto o => (fv_tgo o.toNat, ())
  | .ifCond c o => (fv_tif c o.toNat (Nat.succ bi), ())
  | .if_icmp c o => (fv_tic c o.toNat (Nat.succ bi), ())
  | .if_acmp c o => match c with
    | .eq => (fv_tac o.toNat, ())
    | .ne => (fv_tac (Nat.succ bi), ())
  | .ifnull o => (fv_tnl o.toNat (Nat.succ bi), ())
  | .ifnonnull o => (fv_tnl (Nat.succ bi) o.toNat, ())
  | .tableswitch d lo hi offs => match decide (offs.toList.length = (hi - lo + 1).toNat ∧ -2147483648 ≤ lo ∧ hi < 2147483648) with
    | true => (fv_ttb (fv_tl lo offs.toList) d.toNat, ())
    | false => (fun _ _ _ _ _ _ => false, ())
  | .invokeinterface y m => (fv_cll bi y m, ())
  | .multianewarray x _ => (fv_thr x, ())
  | .ireturn => (fv_ret fv_isI, ())
  | .lreturn => (fv_ret fv_isJ, ())
  | .areturn => (fv_ret fv_isR, ())
  | .dreturn => (fv_ret fv_isD, ())
  | .freturn => (fv_ret (Nat.beq 23), ())
  | .return_ => (fv_rev, ())
  | _ => (fun _ _ _ _ _ _ => false, ())
noncomputable def fv_cb (bi : Nat) (t : Instr) (is : List Instr) : fv_C × Unit := @List.rec Instr (fun _ => fv_C × Unit) (fv_tm bi t) (fun a _ ih => fv_in a (fv_go ih)) is
noncomputable def fv_bl (code : List (List Instr × Instr)) (bi : Nat) : fv_C × Unit := @Prod.rec (List Instr) Instr (fun _ => fv_C × Unit) (fun is t => fv_cb bi t is) (fv_nth code bi ([], .athrow))
/-! runs -/
abbrev fv_R : Type := List Nat → Nat → fv_T → fv_Iv → Bool
abbrev fv_H : Type := Nat → Nat → fv_T → fv_Iv → Bool
abbrev fv_Cl : Type := Nat → List Nat → fv_R → fv_H → Nat → fv_T → fv_Iv → Bool
/-- m values from the stack, the deepest first -/
noncomputable def fv_tk (m : Nat) (st acc : List Nat) (k : List Nat → List Nat → Bool) : Bool := @Nat.rec (fun _ => List Nat → List Nat → Bool) (fun st acc => k acc st) (fun _ ih st acc => fv_u st (fun a r => ih r (a :: acc))) m st acc
noncomputable def fv_rc (ci : Nat) (as : List Nat) (t : fv_T) : Bool := fv_u as (fun v _ => fv_if (Nat.beq (Nat.mod v 8) 2) (fv_o t (Nat.div v 8) (fun c _ _ => fv_if (Nat.beq c ci) (fv_lt c 100) false)) (fv_if (Nat.beq (Nat.mod v 8) 3) (fv_if (Nat.beq ci 63) (fv_lt (Nat.div v 8) 103) false) false))
noncomputable def fv_rk (go : Nat → fv_S) (b1 : Nat) (lv r : List Nat) : fv_R := fun vs n t iv => @List.rec Nat (fun _ => Bool) (go b1 lv r n t iv) (fun v _ _ => go b1 lv (v :: r) n t iv) vs
noncomputable def fv_hd (hds : List (Nat × Nat × Nat)) (bi x : Nat) : Nat := @List.rec (Nat × Nat × Nat) (fun _ => Nat) 0 (fun q _ ih => @Bool.rec (fun _ => Nat) ih (Nat.succ q.2.2) (fv_if (Nat.beq q.1 bi) (Nat.beq q.2.1 x) false)) hds
noncomputable def fv_hk (go : Nat → fv_S) (hds : List (Nat × Nat × Nat)) (bi : Nat) (lv : List Nat) : fv_H := fun x n t iv => @Nat.rec (fun _ => Bool) false (fun b2 _ => fv_mk 199 6 [4, 4, 4, 4, 4, 4] (fun _ n t => go (Nat.div b2 64) (fv_s1 lv (Nat.mod b2 64) 7) [] n t iv) n t) (fv_hd hds bi x)
noncomputable def fv_call (cal : fv_Cl) (hds : List (Nat × Nat × Nat)) (go : Nat → fv_S) (bi y m : Nat) (lv st : List Nat) (n : Nat) (t : fv_T) (iv : fv_Iv) : Bool := fv_tk (Nat.mod m 64) st [] (fun as r => fv_if (fv_cl r 8) (fv_if (@Nat.rec (fun _ => Bool) true (fun _ _ => fv_rc (Nat.div m 64) as t) (Nat.div m 64)) (cal y as (fv_rk go (Nat.succ bi) lv r) (fv_hk go hds bi lv) n t iv) false) false)
noncomputable def fv_ac (cal : fv_Cl) (hds : List (Nat × Nat × Nat)) (ret : fv_R) (thr : fv_H) (go : Nat → fv_S) : fv_E := fun a b c lv st n t iv => @Nat.rec (fun _ => Bool) (go b lv st n t iv) (fun a _ => @Nat.rec (fun _ => Bool) (ret st n t iv) (fun a _ => @Nat.rec (fun _ => Bool) (thr b n t iv) (fun bi _ => fv_call cal hds go bi b c lv st n t iv) a) a) a
noncomputable def fv_ev (cal : fv_Cl) (code : List (List Instr × Instr)) (hds : List (Nat × Nat × Nat)) (ret : fv_R) (thr : fv_H) (fuel : Nat) : Nat → fv_S := @Nat.rec (fun _ => Nat → fv_S) (fun _ _ _ _ _ _ => false) (fun _ ih bi lv st n t iv => fv_go (fv_bl code bi) (fv_ac cal hds ret thr ih) lv st n t iv) fuel
/-- a run that stops at the blocks of a list -/
noncomputable def fv_evs (cal : fv_Cl) (code : List (List Instr × Instr)) (sb : Nat) (sto : fv_S) (ret : fv_R) (fuel : Nat) : Nat → fv_S := @Nat.rec (fun _ => Nat → fv_S) (fun _ _ _ _ _ _ => false) (fun _ ih bi lv st n t iv => fv_if (Nat.beq bi sb) (sto lv st n t iv) (fv_go (fv_bl code bi) (fv_ac cal [] ret (fun _ _ _ _ => false) ih) lv st n t iv)) fuel
noncomputable def fv_fm (ms : am_Ms) (y : Nat) : Option (Nat × Option FieldType × List (List Instr × Instr)) := @List.rec (Nat × Nat × Option FieldType × List (List Instr × Instr)) (fun _ => Option (Nat × Option FieldType × List (List Instr × Instr))) none (fun z _ ih => @Prod.rec Nat (Nat × Option FieldType × List (List Instr × Instr)) (fun _ => Option (Nat × Option FieldType × List (List Instr × Instr))) (fun i w => @Bool.rec (fun _ => Option (Nat × Option FieldType × List (List Instr × Instr))) ih (some w) (Nat.beq i y)) z) ms
noncomputable def fv_me (o : Option (Nat × Option FieldType × List (List Instr × Instr))) (k : Nat → Option FieldType → List (List Instr × Instr) → Bool) : Bool := @Option.rec (Nat × Option FieldType × List (List Instr × Instr)) (fun _ => Bool) false (fun z => @Prod.rec Nat (Option FieldType × List (List Instr × Instr)) (fun _ => Bool) (fun mx w => @Prod.rec (Option FieldType) (List (List Instr × Instr)) (fun _ => Bool) (fun ty code => k mx ty code) w) z) o
/-- the type of an answer: 0 none, 1 int, 2 boolean, 3 long, 4 byte, 5 char, 6 a reference, 7 double, 8 float -/
noncomputable def fv_tn (ty : Option FieldType) : Nat := match ty with
  | none => 0
  | some .int => 1
  | some .boolean => 2
  | some .long => 3
  | some .byte => 4
  | some .char => 5
  | some (.object _) => 6
  | some (.array _) => 6
  | some .double => 7
  | some .float => 8
  | _ => 9
noncomputable def fv_ty1 (c v : Nat) : Bool := @Nat.rec (fun _ => Bool) false (fun c _ => @Nat.rec (fun _ => Bool) (fv_isI v) (fun c _ => @Nat.rec (fun _ => Bool) (fv_b01 v) (fun c _ => @Nat.rec (fun _ => Bool) (fv_isJ v) (fun c _ => @Nat.rec (fun _ => Bool) (Nat.beq v 0) (fun c _ => @Nat.rec (fun _ => Bool) (fv_if (Nat.beq (Nat.mod v 8) 0) (fv_lt v 524288) false) (fun c _ => @Nat.rec (fun _ => Bool) (fv_isR v) (fun c _ => @Nat.rec (fun _ => Bool) (fv_isD v) (fun c _ => @Nat.rec (fun _ => Bool) (Nat.beq v 23) (fun _ _ => false) c) c) c) c) c) c) c) c) c
noncomputable def fv_ty (c : Nat) (vs : List Nat) : Bool := @List.rec Nat (fun _ => Bool) (Nat.beq c 0) (fun v r _ => fv_e r (fv_ty1 c v)) vs
noncomputable def fv_rt (ty : Option FieldType) (ret : fv_R) : fv_R := fun vs n t iv => fv_if (fv_ty (fv_tn ty) vs) (ret vs n t iv) false
/-- the first locals -/
noncomputable def fv_lvs (as : List Nat) (mx : Nat) : List Nat := @List.rec Nat (fun _ => Nat → List Nat) (fun mx => fv_rep mx 7) (fun v _ ih mx => @Bool.rec (fun _ => List Nat) (v :: 7 :: ih (Nat.sub mx 2)) (v :: ih (Nat.pred mx)) (fv_c1 v)) as mx
/-- String.checkIndex -/
noncomputable def fv_chk (as : List Nat) (iv : fv_Iv) (k : Bool) : Bool := fv_u as (fun x r => fv_u r (fun y q => fv_e q (fv_int iv x (fun a => fv_int iv y (fun b => fv_if (fv_lt a b) (fv_if (fv_lt b 2147483648) k false) false)))))
noncomputable def fv_cal (ms : am_Ms) (d : Nat) : fv_Cl := @Nat.rec (fun _ => fv_Cl) (fun _ _ _ _ _ _ _ => false) (fun d ih y as ret thr n t iv => fv_if (Nat.beq y 533) (@Nat.rec (fun _ => Bool) false (fun _ _ => fv_chk as iv (ret [] n t iv)) d) (fv_me (fv_fm ms y) (fun mx ty code => fv_if (fv_cl as mx) (fv_ev ih code [] (fv_rt ty ret) thr 100000 0 (fv_lvs as mx) [] n t iv) false))) d
/-- the law's wrappers -/
abbrev fv_Ws : Type := List (Nat × Nat × Option FieldType × List (List Instr × Instr) × List (Nat × Nat × Nat))
noncomputable def fv_fw (ws : fv_Ws) (y : Nat) : Option (Nat × Option FieldType × List (List Instr × Instr) × List (Nat × Nat × Nat)) := @List.rec (Nat × Nat × Option FieldType × List (List Instr × Instr) × List (Nat × Nat × Nat)) (fun _ => Option (Nat × Option FieldType × List (List Instr × Instr) × List (Nat × Nat × Nat))) none (fun z _ ih => @Prod.rec Nat (Nat × Option FieldType × List (List Instr × Instr) × List (Nat × Nat × Nat)) (fun _ => Option (Nat × Option FieldType × List (List Instr × Instr) × List (Nat × Nat × Nat))) (fun i w => @Bool.rec (fun _ => Option (Nat × Option FieldType × List (List Instr × Instr) × List (Nat × Nat × Nat))) ih (some w) (Nat.beq i y)) z) ws
noncomputable def fv_cw (ms : am_Ms) (ws : fv_Ws) (d : Nat) : fv_Cl := fun y as ret thr n t iv => @Option.rec (Nat × Option FieldType × List (List Instr × Instr) × List (Nat × Nat × Nat)) (fun _ => Bool) (fv_cal ms (Nat.succ (Nat.succ d)) y as ret thr n t iv) (fun z => @Prod.rec Nat (Option FieldType × List (List Instr × Instr) × List (Nat × Nat × Nat)) (fun _ => Bool) (fun mx w => @Prod.rec (Option FieldType) (List (List Instr × Instr) × List (Nat × Nat × Nat)) (fun _ => Bool) (fun ty w => @Prod.rec (List (List Instr × Instr)) (List (Nat × Nat × Nat)) (fun _ => Bool) (fun code hds => fv_if (fv_cl as mx) (fv_ev (fv_cal ms (Nat.succ d)) code hds (fv_rt ty ret) (fun _ _ _ _ => false) 100000 0 (fv_lvs as mx) [] n t iv) false) w) w) z) (fv_fw ws y)
