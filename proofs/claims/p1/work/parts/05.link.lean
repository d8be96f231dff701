/-! THE LINK: what blocks of abstract instructions stand for which bytes, as a program decides it -/
def am_find : List (Nat × Nat × Nat × Nat) → Nat → Option (Nat × Nat × Nat × Nat)
  | [], _ => none
  | q :: r, i => if q.1 = i then some q else am_find r i
/-- is the entry i of class cn of kind k, with the number a? -/
def am_en (cn i k a : Nat) : Bool := match am_find (am_tb cn) i with
  | some q => q.2.1 == k && q.2.2.1 == a
  | none => false
def am_fin (f : Nat) : Bool := match vwCl[f / 128]? with
  | some r => (r.2.1 (f % 128)).2.2.2
  | none => true
def am_dec (f : Nat) : String := match vwCl[f / 128]? with
  | some r => (r.2.1 (f % 128)).1
  | none => ""
def am_aok (k : Nat) : Bool := decide (104 ≤ k) && decide (k ≠ 199) && decide (am_kty k ∈ am_aot)
def am_cI (cn i : Nat) (n : Int) : Bool := am_en cn i 5 (n % 4294967296).toNat && decide (Int32.ofNat (n % 4294967296).toNat = Int32.ofInt n)
def am_cJ (cn i : Nat) (n : Int) : Bool := am_en cn i 6 (n % 18446744073709551616).toNat && decide (Int64.ofNat (n % 18446744073709551616).toNat = Int64.ofInt n)
def am_rl (cn nL : Nat) (ini : Bool) (c a : Instr) (len : Nat) : Bool :=
  match c with
  | .iadd => decide (a = .iadd) && decide (len = 1)
  | .isub => decide (a = .isub) && decide (len = 1)
  | .imul => decide (a = .imul) && decide (len = 1)
  | .iand => decide (a = .iand) && decide (len = 1)
  | .ior => decide (a = .ior) && decide (len = 1)
  | .ixor => decide (a = .ixor) && decide (len = 1)
  | .ishl => decide (a = .ishl) && decide (len = 1)
  | .ishr => decide (a = .ishr) && decide (len = 1)
  | .iushr => decide (a = .iushr) && decide (len = 1)
  | .ladd => decide (a = .ladd) && decide (len = 1)
  | .lsub => decide (a = .lsub) && decide (len = 1)
  | .lmul => decide (a = .lmul) && decide (len = 1)
  | .land => decide (a = .land) && decide (len = 1)
  | .lor => decide (a = .lor) && decide (len = 1)
  | .lcmp => decide (a = .lcmp) && decide (len = 1)
  | .lshl => decide (a = .lshl) && decide (len = 1)
  | .lushr => decide (a = .lushr) && decide (len = 1)
  | .idiv => decide (a = .idiv) && decide (len = 1)
  | .irem => decide (a = .irem) && decide (len = 1)
  | .ineg => decide (a = .ineg) && decide (len = 1)
  | .i2l => decide (a = .i2l) && decide (len = 1)
  | .l2i => decide (a = .l2i) && decide (len = 1)
  | .dup => decide (a = .dup) && decide (len = 1)
  | .pop => decide (a = .pop) && decide (len = 1)
  | .dup_x1 => decide (a = .dup_x1) && decide (len = 1)
  | .dup2 => decide (a = .dup2) && decide (len = 1)
  | .iaload => decide (a = .iaload) && decide (len = 1)
  | .laload => decide (a = .laload) && decide (len = 1)
  | .baload => decide (a = .baload) && decide (len = 1)
  | .aaload => decide (a = .aaload) && decide (len = 1)
  | .arraylength => decide (a = .arraylength) && decide (len = 1)
  | .iastore => decide (a = .iastore) && decide (len = 1)
  | .lastore => decide (a = .lastore) && decide (len = 1)
  | .bastore => decide (a = .bastore) && decide (len = 1)
  | .aastore => decide (a = .aastore) && decide (len = 1)
  | .aconst_null => decide (a = .aconst_null) && decide (len = 1)
  | .iconst n => decide (a = .iconst n) && decide (len = 1)
  | .bipush n => decide (a = .iconst n) && decide (len = 2) && decide ((Int8.ofInt n).toInt32 = Int32.ofInt n)
  | .sipush n => decide (a = .iconst n) && decide (len = 3) && decide ((Int16.ofInt n).toInt32 = Int32.ofInt n)
  | .lconst n => match a with
    | .jsr_w z => decide (len = 1) && decide (Int64.ofNat (n : Nat) = Int64.ofInt z)
    | _ => false
  | .ldc i => match a with
    | .iconst n => decide (len = 2) && am_cI cn i n
    | .ldc k => decide (len = 2) && am_en cn i 13 k
    | _ => false
  | .ldc_w i => match a with
    | .iconst n => decide (len = 3) && am_cI cn i n
    | .ldc k => decide (len = 3) && am_en cn i 13 k
    | _ => false
  | .ldc2_w i => match a with
    | .jsr_w n => decide (len = 3) && am_cJ cn i n
    | _ => false
  | .iload i => decide (a = .iload i) && decide (len = 2)
  | .iload_n i => decide (a = .iload i) && decide (len = 1)
  | .istore i => decide (a = .istore i) && decide (len = 2) && decide (i < nL)
  | .istore_n i => decide (a = .istore i) && decide (len = 1) && decide ((i : Nat) < nL)
  | .lload i => decide (a = .lload i) && decide (len = 2)
  | .lload_n i => decide (a = .lload i) && decide (len = 1)
  | .lstore i => decide (a = .lstore i) && decide (len = 2) && decide (i + 1 < nL)
  | .lstore_n i => decide (a = .lstore i) && decide (len = 1) && decide ((i : Nat) + 1 < nL)
  | .aload i => decide (a = .aload i) && decide (len = 2)
  | .aload_n i => decide (a = .aload i) && decide (len = 1)
  | .astore i => decide (a = .astore i) && decide (len = 2) && decide (i < nL)
  | .astore_n i => decide (a = .astore i) && decide (len = 1) && decide ((i : Nat) < nL)
  | .iinc i n => decide (a = .iinc i n) && decide (len = 3) && decide (i < nL)
  | .getfield i => match a with
    | .getfield f => decide (len = 3) && ((am_en cn i 1 f || am_en cn i 2 f) || (decide (f = 384) && am_en cn i 14 f) || (decide (f < 2) && am_en cn i 16 f))
    | _ => false
  | .getstatic i => match a with
    | .getstatic k => decide (len = 3) && decide (k < 2) && am_en cn i 15 k
    | _ => false
  | .i2c => decide (a = .i2c) && decide (len = 1)
  | .putfield i => match a with
    | .putfield f => decide (len = 3) && ((!am_fin f && (am_en cn i 1 f || am_en cn i 2 f)) || (decide (f = 384) && am_en cn i 14 f) || (am_fin f && ini && am_en cn i 1 f && decide (am_dec f = am_own cn)))
    | _ => false
  | .new i => match a with
    | .new ci => decide (len = 3) && am_en cn i 3 ci
    | _ => false
  | .newarray t => decide (a = .newarray t) && decide (len = 2)
  | .anewarray i => match a with
    | .anewarray k => decide (len = 3) && ((decide (k = 103) && am_en cn i 4 103) || (decide (k = 104) && am_en cn i 4 104) || (decide (200 ≤ k) && am_aok k && am_en cn i 3 (k - 200)))
    | _ => false
  | .checkcast i => match a with
    | .checkcast ci => decide (len = 3) && am_en cn i 3 ci
    | _ => false
  | .invokespecial i => match a with
    | .invokedynamic k => decide (len = 3) && am_en cn i 9 k
    | _ => false
  | .i2d => decide (a = .i2d) && decide (len = 1)
  | .i2f => decide (a = .i2f) && decide (len = 1)
  | .l2d => decide (a = .l2d) && decide (len = 1)
  | .f2d => decide (a = .f2d) && decide (len = 1)
  | .ddiv => decide (a = .ddiv) && decide (len = 1)
  | .fdiv => decide (a = .fdiv) && decide (len = 1)
  | .dcmp o => decide (a = .dcmp o) && decide (len = 1)
  | .dconst n => decide (a = .dconst n) && decide (len = 1) && decide (n = 0)
  | .fconst n => decide (a = .fconst n) && decide (len = 1) && decide (n = 0)
  | .dload i => decide (a = .dload i) && decide (len = 2)
  | .dload_n i => decide (a = .dload i) && decide (len = 1)
  | .dstore i => decide (a = .dstore i) && decide (len = 2) && decide (i + 1 < nL)
  | .dstore_n i => decide (a = .dstore i) && decide (len = 1) && decide ((i : Nat) + 1 < nL)
  | .invokestatic i => match a with
    | .jsr k => decide (len = 3) && ((decide (k = 0) && am_en cn i 10 0) || (decide (k = 1) && am_en cn i 11 0))
    | _ => false
  | _ => false
/-- a straight stretch stands for these bytes: where it ends -/
def am_lk (cn nL : Nat) (ini : Bool) (cc : ByteArray) : Nat → List Instr → Option Nat
  | pc, [] => some pc
  | pc, a :: r => match decode cc pc with
    | .ok q => if am_rl cn nL ini q.1 a q.2 = true then am_lk cn nL ini cc (pc + q.2) r else none
    | .error _ => none
/-- the block o begins at pc + off -/
def am_tg (starts : List Nat) (o : Int) (pc : Nat) (off : Int) : Bool := match starts[o.toNat]? with
  | some t => decide ((pc : Int) + off = (t : Int))
  | none => false
def am_nb (starts : List Nat) (bi pc : Nat) : Bool := decide (starts[bi + 1]? = some pc)
def am_tgs (starts : List Nat) (pc : Nat) : List Int → List Int → Bool
  | [], [] => true
  | o :: r, f :: s => am_tg starts o pc f && am_tgs starts pc r s
  | _, _ => false
def am_tgp (starts : List Nat) (pc : Nat) : List (Int × Int) → List (Int × Int) → Bool
  | [], [] => true
  | o :: r, f :: s => decide (o.1 = f.1) && am_tg starts o.2 pc f.2 && am_tgp starts pc r s
  | _, _ => false
def am_wi (cc : ByteArray) (pc : Nat) (f : Instr × Nat → Bool) : Bool := match decode cc pc with
  | .ok q => f q
  | .error _ => false
/-- how a call of y with n stands at pc (what the tables must say of it: 'ok') -/
def am_lt (cn : Nat) (ok : Instr → Nat → Nat → Bool) (cc : ByteArray) (starts : List Nat) (t : Instr) (bi pc : Nat) : Bool :=
  match t with
  | .nop => am_nb starts bi pc
  | .multianewarray _ _ => true
  | .goto o => am_wi cc pc fun q => match q.1 with
    | .goto off => decide (q.2 = 3) && am_tg starts o pc off
    | _ => false
  | .ifCond c o => am_wi cc pc fun q => match q.1 with
    | .ifCond c2 off => decide (c = c2) && decide (q.2 = 3) && am_tg starts o pc off && am_nb starts bi (pc + 3)
    | _ => false
  | .if_icmp c o => am_wi cc pc fun q => match q.1 with
    | .if_icmp c2 off => decide (c = c2) && decide (q.2 = 3) && am_tg starts o pc off && am_nb starts bi (pc + 3)
    | _ => false
  | .if_acmp c o => am_wi cc pc fun q => match q.1 with
    | .if_acmp c2 off => decide (c = c2) && decide (q.2 = 3) && am_tg starts o pc off && am_nb starts bi (pc + 3)
    | _ => false
  | .getstatic k => am_wi cc pc fun q => match q.1 with
    | .getstatic i => decide (q.2 = 3) && decide (k = 2) && am_en cn i 15 2 && am_nb starts bi (pc + 3)
    | _ => false
  | .ifnull o => am_wi cc pc fun q => match q.1 with
    | .ifnull off => decide (q.2 = 3) && am_tg starts o pc off && am_nb starts bi (pc + 3)
    | _ => false
  | .ifnonnull o => am_wi cc pc fun q => match q.1 with
    | .ifnonnull off => decide (q.2 = 3) && am_tg starts o pc off && am_nb starts bi (pc + 3)
    | _ => false
  | .tableswitch d lo hi offs => am_wi cc pc fun q => match q.1 with
    | .tableswitch d2 lo2 hi2 offs2 => decide (lo = lo2) && decide (hi = hi2) && am_tg starts d pc d2 && am_tgs starts pc offs.toList offs2.toList && decide ((hi - lo + 1).toNat = offs.size)
    | _ => false
  | .lookupswitch d ps => am_wi cc pc fun q => match q.1 with
    | .lookupswitch d2 ps2 => am_tg starts d pc d2 && am_tgp starts pc ps.toList ps2.toList && (ps2.toList.zip (ps2.toList.drop 1)).all (fun (a, next) => a.1 < next.1)
    | _ => false
  | .invokeinterface y n => am_wi cc pc fun q => decide (q.2 = 3) && ok q.1 y n && am_nb starts bi (pc + 3)
  | t => am_wi cc pc fun q => decide (q.1 = t) && decide (q.2 = 1)
def am_lb (cn nL : Nat) (ini : Bool) (ok : Instr → Nat → Nat → Bool) (cc : ByteArray) (starts : List Nat) : Nat → List (List Instr × Instr) → Bool
  | _, [] => true
  | bi, q :: r => (match starts[bi]? with
    | some pc => match am_lk cn nL ini cc pc q.1 with
      | some pe => am_lt cn ok cc starts q.2 bi pe
      | none => false
    | none => false) && am_lb cn nL ini ok cc starts (bi + 1) r
def am_okc (cn : Nat) (c : Instr) (y n : Nat) : Bool := match c with
  | .invokestatic i => match am_mds[y]? with
    | some q => (am_en cn i 7 y || am_en cn i 8 y) && (am_mk q == 0 || am_mk q == 3) && n % 64 == am_mn q
    | none => false
  | .invokevirtual i => match am_mds[y]? with
    | some q => (am_en cn i 7 y || am_en cn i 8 y) && am_mk q == 1 && n % 64 == am_mn q + 1 && ((n / 64 == 63 && decide (q.1.cls = "java/lang/String")) || (decide (3 ≤ n / 64) && decide (n / 64 < 63) && decide (am_clN (n / 64) = q.1.cls)))
    | none => false
  | .invokespecial i => match am_mds[y]? with
    | some q => (am_en cn i 7 y || am_en cn i 8 y) && am_mk q == 2 && n % 64 == am_mn q + 1 && decide (3 ≤ n / 64)
    | none => false
  | _ => false
abbrev am_Cd : Type := Nat × List (List Instr × Instr) × List Nat × List (Nat × Nat × Nat)
/-- a method's code stands for its bytes -/
def am_ckL (z : am_Cd) : Bool := match am_mds[z.1]? with
  | some q => am_mk q != 9 && decide (q.1.cls = am_own q.2.2.2.1) && decide (z.2.2.1[0]? = some 0) && am_lb q.2.2.2.1 q.2.1 (am_mk q == 2) (am_okc q.2.2.2.1) (am_by q) z.2.2.1 0 z.2.1
  | none => false
