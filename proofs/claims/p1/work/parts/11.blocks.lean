variable {sc : List Int32}
/-! BLOCKS: a method's code as blocks, each a straight stretch and its end; what a run of them is, and that the machine runs so -/
theorem am_le_refl (h : am_H) : h.length ≤ h.length ∧ am_sz h ≤ am_sz h := ⟨Nat.le_refl _, Nat.le_refl _⟩
def am_le (h h2 : am_H) : Prop := h.length ≤ h2.length ∧ am_sz h ≤ am_sz h2
theorem am_le.rf (h : am_H) : am_le h h := ⟨Nat.le_refl _, Nat.le_refl _⟩
theorem am_le.tr {h h2 h3 : am_H} (a : am_le h h2) (b : am_le h2 h3) : am_le h h3 := ⟨Nat.le_trans a.1 b.1, Nat.le_trans a.2 b.2⟩
theorem am_le_push (h : am_H) (o : am_O) : am_le h (h ++ [o]) := ⟨by rw [List.length_append]; exact Nat.le_add_right _ _, by rw [am_sz_push]; exact Nat.le_add_right _ _⟩
theorem am_le_put {f : Nat} {h h' : am_H} {st st' : List Value} (e : am_put f h st = some (st', h')) : am_le h h' := by
  unfold am_put at e
  split at e
  · split at e
    · rename_i o ho
      split at e
      · cases e
        exact ⟨by rw [List.length_set]; exact Nat.le_refl _, by rw [am_sz_set (by show (o.2.set _ _).length = o.2.length; rw [List.length_set]) ho]; exact Nat.le_refl _⟩
      · cases e
    · cases e
  · cases e
theorem am_le_gst {k : am_H → Nat → Value → Bool} {h h' : am_H} {st st' : List Value} (e : am_gst k h st = some (st', h')) : am_le h h' := by
  unfold am_gst at e
  split at e
  · split at e
    · rename_i o ho
      split at e
      · split at e
        · cases e
          exact ⟨by rw [List.length_set]; exact Nat.le_refl _, by rw [am_sz_set (by show (o.2.set _ _).length = o.2.length; rw [List.length_set]) ho]; exact Nat.le_refl _⟩
        · cases e
      · cases e
    · cases e
  · cases e
theorem am_le_mka {k : Nat} {v : Value} {h h' : am_H} {st st' : List Value} (e : am_mka k v h st = some (st', h')) : am_le h h' := by
  unfold am_mka at e
  split at e
  · split at e
    · cases e
      exact am_le_push _ _
    · cases e
  · cases e
theorem am_le_st {lv lv' : am_V} {h h' : am_H} {o : Option (List Value)} {st' : List Value} (e : am_st lv h o = some (lv', st', h')) : am_le h h' := by
  obtain ⟨-, -, rfl⟩ := am_st_spec e
  exact am_le.rf _
theorem am_le_i1 {a : Instr} {lv lv' : am_V} {st st' : List Value} {h h' : am_H} (e : am_i1 sc a lv st h = some (lv', st', h')) : am_le h h' := by
  unfold am_i1 at e
  split at e
  all_goals first
    | exact am_le_st e
    | exact am_le_put (am_sh_spec e).1
    | exact am_le_gst (am_sh_spec e).1
    | exact am_le_mka (am_sh_spec e).1
    | (cases e; done)
    | (cases e; exact am_le.rf _)
    | (cases e; exact am_le_push _ _)
    | (split at e <;> first
        | exact am_le_mka (am_sh_spec e).1
        | exact am_le_st e
        | (cases e; done)
        | (cases e; exact am_le.rf _)
        | (split at e <;> first
            | (cases e; done)
            | (cases e; exact am_le.rf _)
            | (split at e <;> first
                | (cases e; done)
                | (cases e; exact am_le.rf _))))
def am_bk (sc : List Int32) : List Instr → am_V → List Value → am_H → Option am_S
  | [], lv, st, h => some (lv, st, h)
  | a :: r, lv, st, h => match am_i1 sc a lv st h with
    | some x => am_bk sc r x.1 x.2.1 x.2.2
    | none => none
theorem am_le_bk : ∀ {is : List Instr} {lv lv' : am_V} {st st' : List Value} {h h' : am_H}, am_bk sc is lv st h = some (lv', st', h') → am_le h h'
  | [], _, _, _, _, _, _, e => by
    unfold am_bk at e
    cases e
    exact am_le.rf _
  | a :: r, lv, _, st, _, h, _, e => by
    unfold am_bk at e
    split at e
    · rename_i x hx
      exact (am_le_i1 hx).tr (am_le_bk e)
    · cases e
theorem am_rm_le {R : Room} {n0 z0 : Nat} {h h2 : am_H} (a : am_le h h2) (b : am_rm R n0 z0 h2) : am_rm R n0 z0 h := ⟨Nat.le_trans a.1 b.1, Nat.le_trans a.2 b.2⟩
section AMB
variable {p : Program} {l : Launch} {e : Env} {R : Room} {s : State} {m : MethodId} {args : Array Value} {below : List Frame} {meth : Method} {c : Code} {Q : State → Prop}
variable {cc : ByteArray} {nL n0 z0 b cn : Nat} {yn : String} {ini : Bool} {ad : Nat → Nat} {D : va_G}
theorem am_bks (C : am_C p R m c cc nL (am_own cn) s args D meth yn ad) (hini : ini = true → yn = "<init>") : ∀ {is : List Instr} {pc pe : Nat} {lv lv' : am_V} {st st' : List Value} {h h' : am_H}, am_lk cn nL ini cc pc is = some pe → am_bk sc is lv st h = some (lv', st', h') → am_rm R n0 z0 h' →
    am_W sc p l e R s m args below meth c D b ad nL n0 z0 Q pe lv' st' h' → am_W sc p l e R s m args below meth c D b ad nL n0 z0 Q pc lv st h
  | [], pc, pe, lv, lv', st, st', h, h', hk, hb, hr, k => by
    unfold am_lk at hk
    unfold am_bk at hb
    cases hk
    cases hb
    exact k
  | a :: r, pc, pe, lv, lv', st, st', h, h', hk, hb, hr, k => by
    unfold am_lk at hk
    unfold am_bk at hb
    split at hk
    · rename_i q hq
      split at hk
      · rename_i hrl
        split at hb
        · rename_i x hx
          obtain ⟨q1, q2⟩ := q
          obtain ⟨x1, x2, x3⟩ := x
          exact am_one C hini hrl hq hx (am_rm_le (am_le_bk hb) hr) (am_bks C hini hk hb hr k)
        · cases hb
      · cases hk
    · cases hk
end AMB
/-! the ends of blocks. Calls are .invokeinterface y n: the method y, n % 64 of its arguments (the receiver among them), n / 64 the receiver's class where it matters; .multianewarray e _: 'throw new E(text)'; .nop: on into the next block -/
def am_cnd : ClassFile.Cond → Int32 → Int32 → Prop
  | .eq, x, y => x = y
  | .ne, x, y => ¬ x = y
  | .lt, x, y => x < y
  | .ge, x, y => y ≤ x
  | .gt, x, y => y < x
  | .le, x, y => x ≤ y
def am_rt : Instr → List Value → Option (Option Value)
  | .ireturn, [.int x] => some (some (.int x))
  | .lreturn, [.long x] => some (some (.long x))
  | .dreturn, [.double x] => some (some (.double x))
  | .freturn, [.float x] => some (some (.float x))
  | .areturn, [v] => if am_isR v = true then some (some v) else none
  | .return_, [] => some none
  | _, _ => none
def am_ts (d lo hi : Int) (offs : Array Int) (x : Int32) : Nat := if x.toInt < lo ∨ hi < x.toInt then d.toNat else (offs.getD (x.toInt - lo).toNat d).toNat
def am_ls (d : Int) (ps : List (Int × Int)) (x : Int) : Nat := (Op.lookupswitch.offset ps d x).toNat
abbrev am_Rl : Type := Nat → List Value → am_H → Option Value → am_H → Prop
abbrev am_Rt : Type := Nat → List Value → am_H → Nat → am_H → Prop
def am_junk : am_O := (199, List.replicate 6 .null)
/-- a local that is written with what nothing is known of -/
def am_dl (l : am_V) (i : Nat) : am_V := l.filter (fun q => !(q.1 == i) && !(q.1 + 1 == i && q.2.category == 2))
/-- where a throw of class x out of the call at the end of block bi goes on: 64 * block + the local that takes the exception -/
def am_hdl : List (Nat × Nat × Nat) → Nat → Nat → Option Nat
  | [], _, _ => none
  | q :: r, bi, x => if q.1 = bi ∧ q.2.1 = x then some q.2.2 else am_hdl r bi x
/-- the receiver is an object of this class -/
def am_rcv (ci : Nat) (As : List Value) (h : am_H) : Bool := match As with
  | .ref a :: _ => match h[a]? with
    | some o => o.1 == ci
    | none => false
  | .retAddr i :: _ => ci == 63 && decide (i < am_txt.length)
  | _ => false
def am_tm (C : am_Rl) (CT : am_Rt) (hds : List (Nat × Nat × Nat)) (nx : Nat → am_V → List Value → am_H → Prop) (fin : Option Value → am_H → Prop) (thr : Nat → am_H → Prop) (t : Instr) (bi : Nat) (lv : am_V) (st : List Value) (h : am_H) : Prop :=
  match t with
  | .nop => nx (bi + 1) lv st h
  | .goto o => nx o.toNat lv st h
  | .ifCond c o => match st with
    | .int x :: r => (am_cnd c x 0 → nx o.toNat lv r h) ∧ (¬ am_cnd c x 0 → nx (bi + 1) lv r h)
    | _ => False
  | .if_icmp c o => match st with
    | .int y :: .int x :: r => (am_cnd c x y → nx o.toNat lv r h) ∧ (¬ am_cnd c x y → nx (bi + 1) lv r h)
    | _ => False
  | .if_acmp c o => match st with
    | .retAddr j :: .retAddr i :: r => i = j ∧ (c = .eq → nx o.toNat lv r h) ∧ (c = .ne → nx (bi + 1) lv r h)
    | _ => False
  | .getstatic _ => nx (bi + 1) lv (.null :: st) h ∧ nx (bi + 1) lv (.retAddr 4000 :: st) h
  | .ifnull o => match st with
    | .null :: r => nx o.toNat lv r h
    | .ref _ :: r => nx (bi + 1) lv r h
    | _ => False
  | .ifnonnull o => match st with
    | .null :: r => nx (bi + 1) lv r h
    | .ref _ :: r => nx o.toNat lv r h
    | _ => False
  | .tableswitch d lo hi offs => match st with
    | .int x :: r => nx (am_ts d lo hi offs x) lv r h
    | _ => False
  | .lookupswitch d ps => match st with
    | .int x :: r => nx (am_ls d ps.toList x.toInt) lv r h
    | _ => False
  | .invokeinterface y n => n % 64 ≤ st.length ∧ am_cs (st.drop (n % 64)) ≤ 8 ∧ (n / 64 = 0 ∨ am_rcv (n / 64) (st.take (n % 64)).reverse h = true) ∧
      ((∃ v h2, C y (st.take (n % 64)).reverse h v h2 ∧ nx (bi + 1) lv (v.toList ++ st.drop (n % 64)) h2) ∨
       (∃ x h2 b2, CT y (st.take (n % 64)).reverse h x h2 ∧ am_hdl hds bi x = some b2 ∧ nx (b2 / 64) (am_dl lv (b2 % 64)) [] (h2 ++ [am_junk])))
  | .multianewarray x _ => match st with
    | [] => thr x h
    | _ => False
  | t => match am_rt t st with
    | some v => fin v h
    | none => False
def am_go (sc : List Int32) (C : am_Rl) (CT : am_Rt) (code : List (List Instr × Instr)) (hds : List (Nat × Nat × Nat)) (fin : Option Value → am_H → Prop) (thr : Nat → am_H → Prop) : Nat → Nat → am_V → List Value → am_H → Prop
  | 0, _, _, _, _ => False
  | n + 1, bi, lv, st, h => match code[bi]? with
    | some q => match am_bk sc q.1 lv st h with
      | some x => am_tm C CT hds (am_go sc C CT code hds fin thr n) fin thr q.2 bi x.1 x.2.1 x.2.2
      | none => False
    | none => False
theorem am_ac : ∀ {c : ClassFile.ACond}, ¬ c = .eq → c = .ne
  | .eq, h => absurd rfl h
  | .ne, _ => rfl
theorem am_le_tm {C : am_Rl} {CT : am_Rt} {hds : List (Nat × Nat × Nat)} {nx : Nat → am_V → List Value → am_H → Prop} {fin : Option Value → am_H → Prop} {thr : Nat → am_H → Prop} (hC : ∀ y As h v h2, C y As h v h2 → am_le h h2) (hCT : ∀ y As h x h2, CT y As h x h2 → am_le h h2)
    {P : am_H → Prop} (hfin : ∀ v h, fin v h → P h) (hthr : ∀ x h, thr x h → P h) (hnx : ∀ bi lv st h, nx bi lv st h → ∃ hf, P hf ∧ am_le h hf) {t : Instr} {bi : Nat} {lv : am_V} {st : List Value} {h : am_H} (e : am_tm C CT hds nx fin thr t bi lv st h) : ∃ hf, P hf ∧ am_le h hf := by
  unfold am_tm at e
  split at e
  · exact hnx _ _ _ _ e
  · exact hnx _ _ _ _ e
  · split at e
    · exact (Classical.em _).elim (fun hc => hnx _ _ _ _ (e.1 hc)) (fun hc => hnx _ _ _ _ (e.2 hc))
    · exact e.elim
  · split at e
    · exact (Classical.em _).elim (fun hc => hnx _ _ _ _ (e.1 hc)) (fun hc => hnx _ _ _ _ (e.2 hc))
    · exact e.elim
  · split at e
    · exact (Classical.em _).elim (fun hc => hnx _ _ _ _ (e.2.1 hc)) (fun hc => hnx _ _ _ _ (e.2.2 (am_ac hc)))
    · exact e.elim
  · exact hnx _ _ _ _ e.1
  · split at e <;> first | exact hnx _ _ _ _ e | exact e.elim
  · split at e <;> first | exact hnx _ _ _ _ e | exact e.elim
  · split at e <;> first | exact hnx _ _ _ _ e | exact e.elim
  · split at e <;> first | exact hnx _ _ _ _ e | exact e.elim
  · obtain ⟨-, -, -, ⟨v, h2, e1, e2⟩ | ⟨x, h2, b2, e1, -, e2⟩⟩ := e
    · obtain ⟨hf, f1, f2⟩ := hnx _ _ _ _ e2
      exact ⟨hf, f1, (hC _ _ _ _ _ e1).tr f2⟩
    · obtain ⟨hf, f1, f2⟩ := hnx _ _ _ _ e2
      exact ⟨hf, f1, (hCT _ _ _ _ _ e1).tr ((am_le_push _ _).tr f2)⟩
  · split at e
    · exact ⟨h, hthr _ _ e, am_le.rf _⟩
    · exact e.elim
  · split at e
    · exact ⟨h, hfin _ _ e, am_le.rf _⟩
    · exact e.elim
theorem am_le_go {C : am_Rl} {CT : am_Rt} {code : List (List Instr × Instr)} {hds : List (Nat × Nat × Nat)} {fin : Option Value → am_H → Prop} {thr : Nat → am_H → Prop} (hC : ∀ y As h v h2, C y As h v h2 → am_le h h2) (hCT : ∀ y As h x h2, CT y As h x h2 → am_le h h2)
    {P : am_H → Prop} (hfin : ∀ v h, fin v h → P h) (hthr : ∀ x h, thr x h → P h) : ∀ (n bi : Nat) (lv : am_V) (st : List Value) (h : am_H), am_go sc C CT code hds fin thr n bi lv st h → ∃ hf, P hf ∧ am_le h hf
  | 0, _, _, _, _, e => e.elim
  | n + 1, bi, lv, st, h, e => by
    unfold am_go at e
    split at e
    · split at e
      · rename_i x hx
        obtain ⟨hf, f1, f2⟩ := am_le_tm hC hCT hfin hthr (am_le_go hC hCT hfin hthr n) e
        obtain ⟨x1, x2, x3⟩ := x
        exact ⟨hf, f1, (am_le_bk hx).tr f2⟩
      · exact e.elim
    · exact e.elim
