variable {sc : List Int32}
/-! THE MACHINE RUNS SO -/
theorem am_tg_spec {starts : List Nat} {o : Int} {pc : Nat} {off : Int} (h : am_tg starts o pc off = true) : ∃ t, starts[o.toNat]? = some t ∧ (pc : Int) + off = (t : Int) := by
  unfold am_tg at h
  split at h
  · rename_i t ht
    exact ⟨t, ht, decide_eq_true_eq.mp h⟩
  · cases h
theorem am_tgs_spec {starts : List Nat} {pc : Nat} : ∀ {os fs : List Int} {j : Nat} {o : Int}, am_tgs starts pc os fs = true → os[j]? = some o → ∃ f, fs[j]? = some f ∧ am_tg starts o pc f = true
  | [], fs, j, o, h, e => by simp at e
  | o :: r, [], j, x, h, e => by simp [am_tgs] at h
  | o :: r, f :: s, 0, x, h, e => by
    simp at e
    subst e
    simp only [am_tgs, Bool.and_eq_true] at h
    exact ⟨f, rfl, h.1⟩
  | o :: r, f :: s, j + 1, x, h, e => by
    simp only [am_tgs, Bool.and_eq_true] at h
    simp at e
    obtain ⟨f2, h1, h2⟩ := am_tgs_spec h.2 e
    exact ⟨f2, by simpa using h1, h2⟩
theorem am_tgp_spec {starts : List Nat} {pc : Nat} {d : Int} {fd : Int} (hd : am_tg starts d pc fd = true) (x : Int) : ∀ {os fs : List (Int × Int)}, am_tgp starts pc os fs = true → am_tg starts (Op.lookupswitch.offset os d x) pc (Op.lookupswitch.offset fs fd x) = true
  | [], [], h => hd
  | [], f :: s, h => by simp [am_tgp] at h
  | o :: r, [], h => by simp [am_tgp] at h
  | o :: r, f :: s, h => by
    simp only [am_tgp, Bool.and_eq_true, decide_eq_true_eq] at h
    obtain ⟨⟨h1, h2⟩, h3⟩ := h
    have ih := am_tgp_spec hd x h3
    obtain ⟨o1, o2⟩ := o
    obtain ⟨f1, f2⟩ := f
    simp only at h1 h2
    subst h1
    by_cases hx : x = o1
    · subst hx
      simpa [Op.lookupswitch.offset] using h2
    · simpa [Op.lookupswitch.offset, hx, Ne.symm hx, beq_iff_eq] using ih
theorem am_wi_spec {cc : ByteArray} {pc : Nat} {f : Instr × Nat → Bool} (h : am_wi cc pc f = true) : ∃ q, decode cc pc = .ok q ∧ f q = true := by
  unfold am_wi at h
  split at h
  · rename_i q hq
    exact ⟨q, hq, h⟩
  · cases h
theorem am_lb_at {cn nL : Nat} {ini : Bool} {ok : Instr → Nat → Nat → Bool} {cc : ByteArray} {starts : List Nat} : ∀ {code : List (List Instr × Instr)} {b0 j : Nat} {q : List Instr × Instr}, am_lb cn nL ini ok cc starts b0 code = true → code[j]? = some q → ∃ pc pe, starts[b0 + j]? = some pc ∧ am_lk cn nL ini cc pc q.1 = some pe ∧ am_lt cn ok cc starts q.2 (b0 + j) pe = true
  | [], b0, j, q, h, e => by simp at e
  | x :: r, b0, 0, q, h, e => by
    simp at e
    subst e
    simp only [am_lb, Bool.and_eq_true] at h
    have h1 := h.1
    split at h1
    · rename_i pc hpc
      split at h1
      · rename_i pe hpe
        exact ⟨pc, pe, hpc, hpe, h1⟩
      · cases h1
    · cases h1
  | x :: r, b0, j + 1, q, h, e => by
    simp only [am_lb, Bool.and_eq_true] at h
    simp at e
    obtain ⟨pc, pe, h1, h2, h3⟩ := am_lb_at h.2 e
    rw [show b0 + 1 + j = b0 + (j + 1) by omega] at h1 h3
    exact ⟨pc, pe, h1, h2, h3⟩
section AMS
variable {p : Program} {l : Launch} {e : Env} {R : Room} {s : State} {m : MethodId} {args : Array Value} {below : List Frame} {meth : Method} {c : Code} {Q : State → Prop}
variable {cc : ByteArray} {nL n0 z0 b cn : Nat} {yn : String} {ini : Bool} {ad : Nat → Nat} {D : va_G}
theorem am_t_if (C : am_C p R m c cc nL (am_own cn) s args D meth yn ad) {c0 : ClassFile.Cond} {off : Int} {tgt pc : Nat} {x : Int32} {lv : am_V} {st : List Value} {h : am_H} (hd : decode cc pc = .ok (.ifCond c0 off, 3)) (ht : (pc : Int) + off = (tgt : Int))
    (kt : am_cnd c0 x 0 → am_W sc p l e R s m args below meth c D b ad nL n0 z0 Q tgt lv st h) (kf : ¬ am_cnd c0 x 0 → am_W sc p l e R s m args below meth c D b ad nL n0 z0 Q (pc + 3) lv st h) : am_W sc p l e R s m args below meth c D b ad nL n0 z0 Q pc lv (.int x :: st) h := by
  intro ls H locs cl sl h1 h2 h3 h4 h5
  cases c0 with
  | eq => exact lv_if_eq C.1 C.2.1 hd ht (fun q => kt q ls H locs cl sl h1 h2 h3 h4 h5) (fun q => kf q ls H locs cl sl h1 h2 h3 h4 h5)
  | ne => exact lv_if_ne C.1 C.2.1 hd ht (fun q => kt q ls H locs cl sl h1 h2 h3 h4 h5) (fun q => kf (fun z => z q) ls H locs cl sl h1 h2 h3 h4 h5)
  | lt => exact lv_if_lt C.1 C.2.1 hd ht (fun q => kt q ls H locs cl sl h1 h2 h3 h4 h5) (fun q => kf q ls H locs cl sl h1 h2 h3 h4 h5)
  | ge => exact lv_if_ge C.1 C.2.1 hd ht (fun q => kt q ls H locs cl sl h1 h2 h3 h4 h5) (fun q => kf q ls H locs cl sl h1 h2 h3 h4 h5)
  | gt => exact lv_if_gt C.1 C.2.1 hd ht (fun q => kt q ls H locs cl sl h1 h2 h3 h4 h5) (fun q => kf q ls H locs cl sl h1 h2 h3 h4 h5)
  | le => exact lv_if_le C.1 C.2.1 hd ht (fun q => kt q ls H locs cl sl h1 h2 h3 h4 h5) (fun q => kf q ls H locs cl sl h1 h2 h3 h4 h5)
theorem am_t_icmp (C : am_C p R m c cc nL (am_own cn) s args D meth yn ad) {c0 : ClassFile.Cond} {off : Int} {tgt pc : Nat} {x y : Int32} {lv : am_V} {st : List Value} {h : am_H} (hd : decode cc pc = .ok (.if_icmp c0 off, 3)) (ht : (pc : Int) + off = (tgt : Int))
    (kt : am_cnd c0 x y → am_W sc p l e R s m args below meth c D b ad nL n0 z0 Q tgt lv st h) (kf : ¬ am_cnd c0 x y → am_W sc p l e R s m args below meth c D b ad nL n0 z0 Q (pc + 3) lv st h) : am_W sc p l e R s m args below meth c D b ad nL n0 z0 Q pc lv (.int y :: .int x :: st) h := by
  intro ls H locs cl sl h1 h2 h3 h4 h5
  cases c0 with
  | eq => exact lv_icmp_eq C.1 C.2.1 hd ht (fun q => kt q ls H locs cl sl h1 h2 h3 h4 h5) (fun q => kf q ls H locs cl sl h1 h2 h3 h4 h5)
  | ne => exact lv_icmp_ne C.1 C.2.1 hd ht (fun q => kt q ls H locs cl sl h1 h2 h3 h4 h5) (fun q => kf (fun z => z q) ls H locs cl sl h1 h2 h3 h4 h5)
  | lt => exact lv_icmp_lt C.1 C.2.1 hd ht (fun q => kt q ls H locs cl sl h1 h2 h3 h4 h5) (fun q => kf q ls H locs cl sl h1 h2 h3 h4 h5)
  | ge => exact lv_icmp_ge C.1 C.2.1 hd ht (fun q => kt q ls H locs cl sl h1 h2 h3 h4 h5) (fun q => kf q ls H locs cl sl h1 h2 h3 h4 h5)
  | gt => exact lv_icmp_gt C.1 C.2.1 hd ht (fun q => kt q ls H locs cl sl h1 h2 h3 h4 h5) (fun q => kf q ls H locs cl sl h1 h2 h3 h4 h5)
  | le => exact lv_icmp_le C.1 C.2.1 hd ht (fun q => kt q ls H locs cl sl h1 h2 h3 h4 h5) (fun q => kf q ls H locs cl sl h1 h2 h3 h4 h5)
/-- the run of blocks is the machine's: out of what calls, returns and throws are -/
theorem am_sim (C : am_C p R m c cc nL (am_own cn) s args D meth yn ad) (hini : ini = true → yn = "<init>") {CR : am_Rl} {CT : am_Rt} {code : List (List Instr × Instr)} {starts : List Nat} {hds : List (Nat × Nat × Nat)} {ok : Instr → Nat → Nat → Bool} {fin : Option Value → am_H → Prop} {thr : Nat → am_H → Prop}
    (hlk : am_lb cn nL ini ok cc starts 0 code = true)
    (hC : ∀ y As h v h2, CR y As h v h2 → am_le h h2) (hCT : ∀ y As h x h2, CT y As h x h2 → am_le h h2)
    (hfR : ∀ v h, fin v h → am_rm R n0 z0 h) (htR : ∀ x h, thr x h → am_rm R n0 z0 h)
    (hcall : ∀ (pc y n : Nat) (ci : Instr) (lv : am_V) (st : List Value) (h h2 : am_H) (v : Option Value), decode cc pc = .ok (ci, 3) → ok ci y n = true → n % 64 ≤ st.length → am_cs (st.drop (n % 64)) ≤ 8 → (n / 64 = 0 ∨ am_rcv (n / 64) (st.take (n % 64)).reverse h = true) → CR y (st.take (n % 64)).reverse h v h2 → am_le h h2 → am_rm R n0 z0 h2 →
      am_W sc p l e R s m args below meth c D b ad nL n0 z0 Q (pc + 3) lv (v.toList ++ st.drop (n % 64)) h2 → am_W sc p l e R s m args below meth c D b ad nL n0 z0 Q pc lv st h)
    (hcallT : ∀ (bi pc y n x b2 pc2 : Nat) (ci : Instr) (lv : am_V) (st : List Value) (h h2 : am_H), decode cc pc = .ok (ci, 3) → ok ci y n = true → n % 64 ≤ st.length → am_cs (st.drop (n % 64)) ≤ 8 → (n / 64 = 0 ∨ am_rcv (n / 64) (st.take (n % 64)).reverse h = true) → CT y (st.take (n % 64)).reverse h x h2 → am_hdl hds bi x = some b2 → starts[b2 / 64]? = some pc2 → am_rm R n0 z0 (h2 ++ [am_junk]) → (∃ is pc0, code[bi]? = some (is, .invokeinterface y n) ∧ starts[bi]? = some pc0 ∧ am_lk cn nL ini cc pc0 is = some pc) →
      am_W sc p l e R s m args below meth c D b ad nL n0 z0 Q pc2 (am_dl lv (b2 % 64)) [] (h2 ++ [am_junk]) → am_W sc p l e R s m args below meth c D b ad nL n0 z0 Q pc lv st h)
    (hhd : ∀ bi x b2, am_hdl hds bi x = some b2 → ∃ pc2, starts[b2 / 64]? = some pc2)
    (hret : ∀ (pc : Nat) (t : Instr) (lv : am_V) (st : List Value) (h : am_H) (v : Option Value), decode cc pc = .ok (t, 1) → am_rt t st = some v → fin v h → am_W sc p l e R s m args below meth c D b ad nL n0 z0 Q pc lv st h)
    (hthr : ∀ (bi pc pe x i : Nat) (is : List Instr) (lv : am_V) (h : am_H), code[bi]? = some (is, .multianewarray x i) → starts[bi]? = some pc → am_lk cn nL ini cc pc is = some pe → thr x h → am_W sc p l e R s m args below meth c D b ad nL n0 z0 Q pe lv [] h) :
    ∀ (n bi pc : Nat) (lv : am_V) (st : List Value) (h : am_H), am_go sc CR CT code hds fin thr n bi lv st h → starts[bi]? = some pc → am_W sc p l e R s m args below meth c D b ad nL n0 z0 Q pc lv st h
  | 0, _, _, _, _, _, g, _ => g.elim
  | n + 1, bi, pc, lv, st, h, g, hs => by
    have ih := am_sim C hini hlk hC hCT hfR htR hcall hcallT hhd hret hthr n
    unfold am_go at g
    split at g
    · rename_i q hq
      obtain ⟨is, t⟩ := q
      obtain ⟨pc', pe, s1, s2, s3⟩ := am_lb_at hlk hq
      rw [Nat.zero_add] at s1 s3
      cases hs.symm.trans s1
      split at g
      · rename_i x hx
        obtain ⟨lv1, st1, h1⟩ := x
        have hrmN : ∀ (bi : Nat) (lv : am_V) (st : List Value) (h : am_H), am_go sc CR CT code hds fin thr n bi lv st h → am_rm R n0 z0 h := fun bi lv st h g => by
          obtain ⟨hf, f1, f2⟩ := am_le_go (P := am_rm R n0 z0) hC hCT hfR htR n bi lv st h g
          exact am_rm_le f2 f1
        have hrm1 : am_rm R n0 z0 h1 := by
          obtain ⟨hf, f1, f2⟩ := am_le_tm (P := am_rm R n0 z0) hC hCT hfR htR (fun bi lv st h g => am_le_go hC hCT hfR htR n bi lv st h g) g
          exact am_rm_le f2 f1
        dsimp only at s2 s3 hx g
        refine am_bks C hini s2 hx hrm1 ?_
        have fin9 : (match am_rt t st1 with | some v => fin v h1 | none => False) → am_wi cc pe (fun q => decide (q.1 = t) && decide (q.2 = 1)) = true → am_W sc p l e R s m args below meth c D b ad nL n0 z0 Q pe lv1 st1 h1 := by
          intro g s3
          obtain ⟨⟨q1, q2⟩, hq0, s3⟩ := am_wi_spec s3
          simp only [Bool.and_eq_true, decide_eq_true_eq] at s3
          obtain ⟨rfl, rfl⟩ := s3
          split at g
          · rename_i v hv
            exact hret _ _ _ _ _ _ hq0 hv g
          · exact g.elim
        cases t with
        | nop =>
          have s3 : am_nb starts bi pe = true := s3
          exact ih _ _ _ _ _ g (decide_eq_true_eq.mp s3)
        | multianewarray x i =>
          simp only [am_tm] at g
          split at g
          · exact hthr _ _ _ _ _ _ _ _ hq hs s2 g
          · exact g.elim
        | goto o =>
          obtain ⟨⟨q1, q2⟩, hq0, s3⟩ := am_wi_spec s3
          simp only at s3
          split at s3
          · rename_i off
            simp only [Bool.and_eq_true, decide_eq_true_eq] at s3
            obtain ⟨rfl, s3⟩ := s3
            obtain ⟨tgt, g1, g2⟩ := am_tg_spec s3
            exact fun ls H locs cl sl y1 y2 y3 y4 y5 => lv_goto C.1 C.2.1 hq0 g2 (ih _ _ _ _ _ g g1 ls H locs cl sl y1 y2 y3 y4 y5)
          · cases s3
        | ifCond c0 o =>
          obtain ⟨⟨q1, q2⟩, hq0, s3⟩ := am_wi_spec s3
          simp only at s3
          split at s3
          · rename_i c2 off
            simp only [am_nb, Bool.and_eq_true, decide_eq_true_eq] at s3
            obtain ⟨⟨⟨rfl, rfl⟩, s3⟩, s4⟩ := s3
            obtain ⟨tgt, g1, g2⟩ := am_tg_spec s3
            simp only [am_tm] at g
            split at g
            · exact am_t_if C hq0 g2 (fun z => ih _ _ _ _ _ (g.1 z) g1) (fun z => ih _ _ _ _ _ (g.2 z) s4)
            · exact g.elim
          · cases s3
        | if_icmp c0 o =>
          obtain ⟨⟨q1, q2⟩, hq0, s3⟩ := am_wi_spec s3
          simp only at s3
          split at s3
          · rename_i c2 off
            simp only [am_nb, Bool.and_eq_true, decide_eq_true_eq] at s3
            obtain ⟨⟨⟨rfl, rfl⟩, s3⟩, s4⟩ := s3
            obtain ⟨tgt, g1, g2⟩ := am_tg_spec s3
            simp only [am_tm] at g
            split at g
            · exact am_t_icmp C hq0 g2 (fun z => ih _ _ _ _ _ (g.1 z) g1) (fun z => ih _ _ _ _ _ (g.2 z) s4)
            · exact g.elim
          · cases s3
        | if_acmp c0 o =>
          obtain ⟨⟨q1, q2⟩, hq0, s3⟩ := am_wi_spec s3
          simp only at s3
          split at s3
          · rename_i c2 off
            simp only [am_nb, Bool.and_eq_true, decide_eq_true_eq] at s3
            obtain ⟨⟨⟨rfl, rfl⟩, s3⟩, s4⟩ := s3
            obtain ⟨tgt, g1, g2⟩ := am_tg_spec s3
            simp only [am_tm] at g
            split at g
            · rename_i j i r
              obtain ⟨rfl, k1, k2⟩ := g
              cases c0 with
              | eq => exact fun ls H locs cl sl y1 y2 y3 y4 y5 => lv_acmp_eq (rx := some (ad i)) (ry := some (ad i)) C.1 C.2.1 hq0 g2 (fun _ => ih _ _ _ _ _ (k1 rfl) g1 ls H locs cl sl y1 y2 y3 y4 y5) (fun z => absurd rfl z)
              | ne => exact fun ls H locs cl sl y1 y2 y3 y4 y5 => lv_acmp_ne (rx := some (ad i)) (ry := some (ad i)) C.1 C.2.1 hq0 g2 (fun z => absurd rfl z) (fun _ => ih _ _ _ _ _ (k2 rfl) s4 ls H locs cl sl y1 y2 y3 y4 y5)
            · exact g.elim
          · cases s3
        | getstatic q =>
          obtain ⟨⟨q1, q2⟩, hq0, s3⟩ := am_wi_spec s3
          simp only at s3
          split at s3
          · rename_i i
            simp only [am_nb, Bool.and_eq_true, decide_eq_true_eq] at s3
            obtain ⟨⟨⟨rfl, s6⟩, s5⟩, s4⟩ := s3
            have hw := am_en15 s5
            obtain ⟨k1, k2⟩ := g
            intro ls H locs cl sl y1 y2 y3 y4 y5
            rcases y2.2.2.2.2.2.2.2.2.1 with hZ | hZ
            · obtain ⟨cf, kf, fi, f, a, cell, z1, z2, z3, z4, z5, z6, z7, z8⟩ := hZ
              exact W.gets C.1 C.2.1 C.2.2.2.1 (C.2.2.2.2.1 _ hw) z1 z2 z3 z4 z5 (fun e => by rw [e] at z6; cases z6) z7 rfl hq0 (ih _ _ _ _ _ k1 s4 ls H locs cl sl y1 y2 y3 y4 y5)
            · obtain ⟨cf, kf, fi, f, a, cell, z1, z2, z3, z4, z5, z6, z7, z8⟩ := hZ
              exact W.gets C.1 C.2.1 C.2.2.2.1 (C.2.2.2.2.1 _ hw) z1 z2 z3 z4 z5 (fun e => by rw [e] at z6; cases z6) z7 rfl hq0 (ih _ _ _ _ _ k2 s4 ls H locs cl sl y1 y2 y3 y4 y5)
          · cases s3
        | ifnull o =>
          obtain ⟨⟨q1, q2⟩, hq0, s3⟩ := am_wi_spec s3
          simp only at s3
          split at s3
          · rename_i off
            simp only [am_nb, Bool.and_eq_true, decide_eq_true_eq] at s3
            obtain ⟨⟨rfl, s3⟩, s4⟩ := s3
            obtain ⟨tgt, g1, g2⟩ := am_tg_spec s3
            simp only [am_tm] at g
            split at g
            · exact fun ls H locs cl sl y1 y2 y3 y4 y5 => lv_ifnullN C.1 C.2.1 hq0 g2 (ih _ _ _ _ _ g g1 ls H locs cl sl y1 y2 y3 y4 y5)
            · exact fun ls H locs cl sl y1 y2 y3 y4 y5 => lv_ifnull C.1 C.2.1 hq0 (ih _ _ _ _ _ g s4 ls H locs cl sl y1 y2 y3 y4 y5)
            · exact g.elim
          · cases s3
        | ifnonnull o =>
          obtain ⟨⟨q1, q2⟩, hq0, s3⟩ := am_wi_spec s3
          simp only at s3
          split at s3
          · rename_i off
            simp only [am_nb, Bool.and_eq_true, decide_eq_true_eq] at s3
            obtain ⟨⟨rfl, s3⟩, s4⟩ := s3
            obtain ⟨tgt, g1, g2⟩ := am_tg_spec s3
            simp only [am_tm] at g
            split at g
            · exact fun ls H locs cl sl y1 y2 y3 y4 y5 => lv_ifnonnullN C.1 C.2.1 hq0 (ih _ _ _ _ _ g s4 ls H locs cl sl y1 y2 y3 y4 y5)
            · exact fun ls H locs cl sl y1 y2 y3 y4 y5 => lv_ifnonnull C.1 C.2.1 hq0 g2 (ih _ _ _ _ _ g g1 ls H locs cl sl y1 y2 y3 y4 y5)
            · exact g.elim
          · cases s3
        | tableswitch d lo hi offs =>
          obtain ⟨⟨q1, q2⟩, hq0, s3⟩ := am_wi_spec s3
          simp only at s3
          split at s3
          · rename_i d2 lo2 hi2 offs2
            simp only [Bool.and_eq_true, decide_eq_true_eq] at s3
            obtain ⟨⟨⟨⟨rfl, rfl⟩, sd⟩, so⟩, sz9⟩ := s3
            simp only [am_tm] at g
            split at g
            · rename_i x r
              unfold am_ts at g
              by_cases hx : x.toInt < lo ∨ hi < x.toInt
              · rw [if_pos hx] at g
                obtain ⟨tgt, g1, g2⟩ := am_tg_spec sd
                exact fun ls H locs cl sl y1 y2 y3 y4 y5 => lv_tableOut C.1 C.2.1 hq0 hx g2 (ih _ _ _ _ _ g g1 ls H locs cl sl y1 y2 y3 y4 y5)
              · rw [if_neg hx] at g
                have hj : (x.toInt - lo).toNat < offs.size := by omega
                have ho : offs.toList[(x.toInt - lo).toNat]? = some (offs.getD (x.toInt - lo).toNat d) := by
                  rw [Array.getElem?_toList, Array.getD_eq_getD_getElem?, Array.getElem?_eq_getElem hj]
                  rfl
                obtain ⟨f, f1, f2⟩ := am_tgs_spec so ho
                obtain ⟨tgt, g1, g2⟩ := am_tg_spec f2
                rw [Array.getElem?_toList] at f1
                exact fun ls H locs cl sl y1 y2 y3 y4 y5 => lv_tableIn C.1 C.2.1 hq0 (fun q => hx (Or.inl q)) (fun q => hx (Or.inr q)) f1 g2 (ih _ _ _ _ _ g g1 ls H locs cl sl y1 y2 y3 y4 y5)
            · exact g.elim
          · cases s3
        | lookupswitch d ps =>
          obtain ⟨⟨q1, q2⟩, hq0, s3⟩ := am_wi_spec s3
          simp only at s3
          split at s3
          · rename_i d2 ps2
            simp only [Bool.and_eq_true] at s3
            obtain ⟨⟨sd, so⟩, sp⟩ := s3
            simp only [am_tm] at g
            split at g
            · rename_i x r
              unfold am_ls at g
              obtain ⟨tgt, g1, g2⟩ := am_tg_spec (am_tgp_spec sd x.toInt so)
              exact fun ls H locs cl sl y1 y2 y3 y4 y5 => lv_lookup C.1 C.2.1 hq0 sp rfl g2 (ih _ _ _ _ _ g g1 ls H locs cl sl y1 y2 y3 y4 y5)
            · exact g.elim
          · cases s3
        | invokeinterface y k =>
          obtain ⟨⟨q1, q2⟩, hq0, s3⟩ := am_wi_spec s3
          simp only [am_nb, Bool.and_eq_true, decide_eq_true_eq] at s3
          obtain ⟨⟨rfl, sk⟩, s4⟩ := s3
          obtain ⟨w1, w2, w3, ⟨v, h2, w4, w5⟩ | ⟨x, h2, b2, w4, w5, w6⟩⟩ := g
          · exact hcall _ _ _ _ _ _ _ _ _ hq0 sk w1 w2 w3 w4 (hC _ _ _ _ _ w4) (hrmN _ _ _ _ w5) (ih _ _ _ _ _ w5 s4)
          · obtain ⟨pc2, z1⟩ := hhd _ _ _ w5
            exact hcallT _ _ _ _ _ _ _ _ _ _ _ _ hq0 sk w1 w2 w3 w4 w5 z1 (hrmN _ _ _ _ w6) ⟨is, pc, hq, hs, s2⟩ (ih _ _ _ _ _ w6 z1)
        | _ => exact fin9 g s3
      · exact g.elim
    · exact g.elim
end AMS
