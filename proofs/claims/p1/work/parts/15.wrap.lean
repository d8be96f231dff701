variable {sc : List Int32}
/-! THE LAW'S WRAPPERS: a static method that calls one that throws, and catches -/
/-- entries of the law's class that name an exception -/
def am_hcl : List (Nat × Nat × Nat) := [(21, 13, 0), (21, 19, 1), (21, 28, 2)]
theorem am_hcl_w {cn i x : Nat} (h : (cn, i, x) ∈ am_hcl) : Jvm.Cond.classLink (am_own cn) i (am_xn x) ∈ am_T ∧ i ≠ 0 ∧ x < 3 := by
  simp only [am_hcl, List.mem_cons, List.not_mem_nil, or_false, Prod.mk.injEq] at h
  rcases h with ⟨rfl, rfl, rfl⟩ | ⟨rfl, rfl, rfl⟩ | ⟨rfl, rfl, rfl⟩
  · exact ⟨am_inT (List.mem_of_getElem? (i := 1244) (by decide +kernel)) rfl, by decide, by decide⟩
  · exact ⟨am_inT (List.mem_of_getElem? (i := 1329) (by decide +kernel)) rfl, by decide, by decide⟩
  · exact ⟨am_inT (List.mem_of_getElem? (i := 1372) (by decide +kernel)) rfl, by decide, by decide⟩
theorem am_xn_nc {x y : Nat} (hx : x < 3) (hy : y < 3) (hn : ¬ y = x) : (am_xn x, am_xn y) ∈ am_nct := by
  have h : ∀ x, x < 3 → ∀ y, y < 3 → (y = x ∨ (am_xn x, am_xn y) ∈ am_nct) := by decide
  exact (h x hx y hy).resolve_left hn
theorem am_xn_c {x : Nat} (hx : x < 3) : (am_xn x, am_xn x) ∈ am_cst := by
  have h : ∀ x, x < 3 → (am_xn x, am_xn x) ∈ am_cst := by decide
  exact h x hx
def am_hn (cn i : Nat) : List (Nat × Nat × Nat) → Option Nat
  | [] => none
  | q :: r => if q.1 = cn ∧ q.2.1 = i then some q.2.2 else am_hn cn i r
theorem am_hn_in {cn i x : Nat} : ∀ {L : List (Nat × Nat × Nat)}, am_hn cn i L = some x → (cn, i, x) ∈ L
  | [], h => by simp [am_hn] at h
  | q :: r, h => by
    unfold am_hn at h
    split at h
    · rename_i hq
      obtain ⟨q1, q2, q3⟩ := q
      obtain ⟨rfl, rfl⟩ := hq
      cases h
      exact List.mem_cons_self
    · exact List.mem_cons_of_mem _ (am_hn_in h)
/-- where a throw of x at pe is caught -/
def am_hs (cn pe x : Nat) : List (Nat × Nat × Nat × Nat) → Option Nat
  | [] => none
  | q :: r => if q.1 ≤ pe ∧ pe < q.2.1 then match am_hn cn q.2.2.2 am_hcl with
    | some y => if y = x then some q.2.2.1 else am_hs cn pe x r
    | none => none
    else am_hs cn pe x r
theorem am_hs_spec {cn pe x hp : Nat} : ∀ {hh : List (Nat × Nat × Nat × Nat)}, am_hs cn pe x hh = some hp → ∃ (pre : List ExceptionTableEntry) (z : ExceptionTableEntry) (suf : List ExceptionTableEntry), tableOf hh = pre ++ z :: suf ∧
    (∀ w ∈ pre, covers w pe = false ∨ ∃ y, (cn, w.catchType, y) ∈ am_hcl ∧ ¬ y = x) ∧ covers z pe = true ∧ (cn, z.catchType, x) ∈ am_hcl ∧ z.handlerPc = hp
  | [], h => by simp [am_hs] at h
  | q :: r, h => by
    unfold am_hs at h
    split at h
    · rename_i hc
      split at h
      · rename_i y hy
        split at h
        · rename_i hyx
          subst hyx
          cases h
          exact ⟨[], ⟨q.1, q.2.1, q.2.2.1, q.2.2.2⟩, tableOf r, rfl, (fun w hw => by cases hw), (by simp [covers, hc.1, hc.2]), am_hn_in hy, rfl⟩
        · rename_i hyx
          obtain ⟨pre, z, suf, h1, h2, h3, h4, h5⟩ := am_hs_spec h
          refine ⟨⟨q.1, q.2.1, q.2.2.1, q.2.2.2⟩ :: pre, z, suf, by show _ :: tableOf r = _; rw [h1]; rfl, fun w hw => ?_, h3, h4, h5⟩
          rcases List.mem_cons.mp hw with rfl | hw
          · exact Or.inr ⟨y, am_hn_in hy, hyx⟩
          · exact h2 w hw
      · cases h
    · rename_i hc
      obtain ⟨pre, z, suf, h1, h2, h3, h4, h5⟩ := am_hs_spec h
      refine ⟨⟨q.1, q.2.1, q.2.2.1, q.2.2.2⟩ :: pre, z, suf, by show _ :: tableOf r = _; rw [h1]; rfl, fun w hw => ?_, h3, h4, h5⟩
      rcases List.mem_cons.mp hw with rfl | hw
      · refine Or.inl ?_
        unfold covers
        rw [Bool.and_eq_false_iff, decide_eq_false_iff_not, decide_eq_false_iff_not]
        by_cases h9 : q.1 ≤ pe
        · exact Or.inr fun z => hc ⟨h9, z⟩
        · exact Or.inl h9
      · exact h2 w hw
/-- the call in a wrapper: by the receiver, by a plain link -/
def am_okV (cn : Nat) (c : Instr) (y n : Nat) : Bool := match c with
  | .invokevirtual i => match am_mds[y]? with
    | some q => am_en cn i 7 y && am_mk q == 1 && n % 64 == am_mn q + 1 && decide (3 ≤ n / 64) && decide (n / 64 < 63) && decide (am_clN (n / 64) = q.1.cls)
    | none => false
  | _ => false
theorem am_okV_c {cn y n : Nat} {c : Instr} (h : am_okV cn c y n = true) : am_okc cn c y n = true := by
  unfold am_okV at h
  split at h
  · rename_i i
    split at h
    · rename_i q hq
      simp only [Bool.and_eq_true, beq_iff_eq, decide_eq_true_eq] at h
      obtain ⟨⟨⟨⟨⟨h1, h2⟩, h3⟩, h4⟩, h5⟩, h6⟩ := h
      simp [am_okc, hq, h1, h2, h3, h4, h5, h6]
    · cases h
  · cases h
/-- a handler stands where it is said -/
def am_ckH1 (cn nL : Nat) (cc : ByteArray) (hh : List (Nat × Nat × Nat × Nat)) (starts : List Nat) (code : List (List Instr × Instr)) (z : Nat × Nat × Nat) : Bool := match code[z.1]? with
  | some blk => match starts[z.1]? with
    | some pc => match am_lk cn nL false cc pc blk.1 with
      | some pe => match am_hs cn pe z.2.1 hh with
        | some hp => am_wi cc hp fun w => (match w.1 with
          | .astore i => decide (i = z.2.2 % 64) && decide (w.2 = 2)
          | .astore_n i => decide ((i : Nat) = z.2.2 % 64) && decide (w.2 = 1)
          | _ => false) && decide (z.2.2 % 64 < nL) && decide (starts[z.2.2 / 64]? = some (hp + w.2))
        | none => false
      | none => false
    | none => false
  | none => false
theorem am_hdl_in {bi x b2 : Nat} : ∀ {hds : List (Nat × Nat × Nat)}, am_hdl hds bi x = some b2 → (bi, x, b2) ∈ hds
  | [], h => by simp [am_hdl] at h
  | q :: r, h => by
    unfold am_hdl at h
    split at h
    · rename_i hq
      obtain ⟨q1, q2, q3⟩ := q
      obtain ⟨rfl, rfl⟩ := hq
      cases h
      exact List.mem_cons_self
    · exact List.mem_cons_of_mem _ (am_hdl_in h)
theorem am_L_dl (b : Nat) (ad : Nat → Nat) (l : am_V) (i : Nat) : (am_L b ad l).filter (fun q => !(q.1 == i) && !(q.1 + 1 == i && q.2.category == 2)) = am_L b ad (am_dl l i) := by
  simp [am_L, am_dl, List.filter_map, Function.comp_def, am_mv_cat]
section AMY
variable {p : Program} {l : Launch} {e : Env} {R : Room} {s : State} {m : MethodId} {args : Array Value} {below : List Frame} {meth : Method} {c : Code} {Q : State → Prop}
variable {cc : ByteArray} {nL n0 z0 pc b cn : Nat} {yn : String} {ad : Nat → Nat} {D : va_G} {h h2 : am_H}
set_option maxRecDepth 8192 in
theorem am_callT (C : am_C p R m c cc nL (am_own cn) s args D meth yn ad) {cds : List am_Cd} (hcds : ∀ z : am_Cd, z ∈ cds → am_ckL z = true) (hct : ∀ z : am_Cd, z ∈ cds → am_ckTz z = true) (hl : l.stackTraces = false) (hb0 : s.heap.size = b + n0) {hh : List (Nat × Nat × Nat × Nat)} (htab : c.exceptionTable.toList = tableOf hh) {d y n x hp i len : Nat} {ci : Instr} {lv : am_V} {st : List Value}
    (hd : decode cc pc = .ok (ci, 3)) (ok : am_okV cn ci y n = true) (w1 : n % 64 ≤ st.length) (w2 : am_cs (st.drop (n % 64)) ≤ 8) (w3 : n / 64 = 0 ∨ am_rcv (n / 64) (st.take (n % 64)).reverse h = true) (hT : am_ct sc cds d y (st.take (n % 64)).reverse h x h2)
    (hhs : am_hs cn pc x hh = some hp) (hi : i < nL) (hda : decode cc hp = .ok (.astore i, len) ∧ len = 2 ∨ ∃ k : Fin 4, (k : Nat) = i ∧ decode cc hp = .ok (.astore_n k, len) ∧ len = 1)
    (hRf : d + 10 ≤ R.frames) (hRl : 80 * (d + 2) + 300 ≤ R.locals) (hrm : am_rm R n0 z0 (h2 ++ [am_junk]))
    (k : am_W sc p l e R s m args below meth c D b ad nL n0 z0 Q (hp + len) (am_dl lv i) [] (h2 ++ [am_junk])) : am_W sc p l e R s m args below meth c D b ad nL n0 z0 Q pc lv st h := by
  intro ls H locs cl sl h1 hR h3 h4 h5
  obtain ⟨l1, l2⟩ := am_le_ct d y _ h x h2 hT
  have hx3 : x < 3 := by
    obtain ⟨_, _, _, -, -, -, z, -⟩ := hT
    exact z
  have hq2 : ∃ q, am_mds[y]? = some q := by
    obtain ⟨q, _, _, z, -⟩ := hT
    exact ⟨q, z⟩
  obtain ⟨q, hq⟩ := hq2
  obtain ⟨hk9, hk3, hM⟩ := am_metT hcds hct hl hT hq
  obtain ⟨m1, m2, m3, m4, m5, m6, m7, m8, m9, m10⟩ := am_mw hq hk9 hk3
  have hts := C.2.2.2.2.1
  have hE := C.2.2.2.2.2.2.2.2.2
  obtain ⟨r1, r2⟩ := hrm
  rw [List.length_append] at r1
  rw [am_sz_push] at r2
  have r1 : h2.length + 1 ≤ n0 + R.cells := r1
  have r2 : am_sz h2 + 6 ≤ z0 + R.slots := r2
  have hrm1 : cl + (h2.length + 1 - h.length) ≤ R.cells ∧ sl + (am_sz h2 + 6 - am_sz h) ≤ R.slots := ⟨by omega, by omega⟩
  have hroom : (am_rmd (d + 1) (h2.length + 1 - h.length) (am_sz h2 + 6 - am_sz h)).frames + 1 ≤ R.frames ∧ 8 + (q.2.1 + 11) + (am_rmd (d + 1) (h2.length + 1 - h.length) (am_sz h2 + 6 - am_sz h)).locals ≤ R.locals := ⟨by rw [am_rmd_f]; omega, by rw [am_rmd_l]; omega⟩
  have hW8 : 2 * (F0 m pc ls (st.map (am_mv b ad))).monitorRoom + (((st.drop (n % 64)).map (am_mv b ad)).map fun v => v.category).sum ≤ 8 := by rw [am_cs_mv]; show 2 * 0 + _ ≤ 8; omega
  have hall : ∀ w ∈ (Jvm.Cond.code q.1 (am_by q) q.2.1 q.2.2.1 :: am_T), w ∈ am_T := fun w hw => (List.mem_cons.mp hw).elim (fun z => z ▸ m1) id
  have hlen : ((st.take (n % 64)).reverse.map (am_mv b ad)).length = n % 64 := by rw [List.length_map, List.length_reverse, List.length_take, Nat.min_eq_left w1]
  unfold am_okV at ok
  split at ok
  · rename_i ix
    simp only [Bool.and_eq_true, beq_iff_eq, hq, decide_eq_true_eq] at ok
    obtain ⟨⟨⟨⟨⟨ok1, ok2⟩, ok3⟩, ok4⟩, ok6⟩, ok5⟩ := ok
    have hrv : ∃ (a : Nat) (r : List Value), (st.take (n % 64)).reverse = .ref a :: r ∧ ∃ cell : Cell, H[b + a]? = some cell ∧ cell.vm.isStatics = false ∧ s.vm.findClass q.1.cls = some cell.cls := by
      rcases w3 with w3 | w3
      · omega
      · unfold am_rcv at w3
        split at w3
        · rename_i a r he
          split at w3
          · rename_i o ho
            have ho1 := beq_iff_eq.mp w3
            obtain ⟨o1, o2⟩ := o
            simp only at ho1
            subst ho1
            have hcl : ∃ T N, vwCl[n / 64]? = some (q.1.cls, T, N) := by
              unfold am_clN at ok5
              split at ok5
              · rename_i z hz
                obtain ⟨z1, z2, z3⟩ := z
                simp only at ok5
                subst ok5
                exact ⟨z2, z3, hz⟩
              · exfalso
                rename_i hz
                obtain ⟨z, hz2, -⟩ := am_at_obj (hR.2.1 a _ ho) (by omega)
                simp only at hz2
                rw [hz] at hz2
                cases hz2
            obtain ⟨T, N, hcl⟩ := hcl
            exact ⟨a, r, he, am_recv C.2.2.2.2.2.1 (by omega) hcl hR ho⟩
          · cases w3
        · simp only [Bool.and_eq_true, beq_iff_eq, decide_eq_true_eq] at w3
          omega
        · cases w3
    obtain ⟨a, r, hAs, hrec⟩ := hrv
    have hstk : st.map (am_mv b ad) = (r.map (am_mv b ad)).reverse ++ .ref (b + a) :: (st.drop (n % 64)).map (am_mv b ad) := by
      rw [am_stk st (n % 64), hAs]
      simp [am_mv]
    have hlen2 : (r.map (am_mv b ad)).length = am_mn q := by
      rw [hAs] at hlen
      simp only [List.map_cons, List.length_cons] at hlen
      omega
    have hpre : ∀ U : State, U.heap = H → s.WarmedH U.vm → am_Pc sc D b ad (st.take (n % 64)).reverse h (Value.ref (b + a) :: r.map (am_mv b ad)).toArray U := by
      have z := am_pre (As := (st.take (n % 64)).reverse) C hR
      rw [hAs] at z ⊢
      exact z
    have hG : GoodIn am_T (wsV (am_own cn) ix q.1.cls q.1 (Jvm.Cond.code q.1 (am_by q) q.2.1 q.2.2.1 :: am_T)) := am_good (fun _ z => z) fun w hw => by
      rcases List.mem_append.mp hw with hw | hw
      · simp only [List.mem_cons, List.not_mem_nil, or_false] at hw
        rcases hw with rfl | rfl | rfl | rfl
        · exact am_en7 ok1 hq
        · exact m3 (by omega)
        · exact m5 ok2
        · exact m4
      · exact hall w hw
    have hrun := vx_runV (e := e) (below := below) (meth := meth) (locs := locs) (g := F0 m pc ls (st.map (am_mv b ad))) (rest := (st.drop (n % 64)).map (am_mv b ad)) ⟨C.1, C.2.1, C.2.2.1, C.2.2.2.1, hts⟩ (hM D b ad) (cwV (am_mn q) hts hG rfl rfl rfl ⟨rfl, m7.1, m7.2, m8⟩ hroom) ⟨am_blind _ _ _ _ _, hrec, hpre⟩ rfl hlen2 h1.1 hstk hW8 hd hrm1
    intro T hTH X
    rcases hrun T hTH X with ⟨v, st₀, t, T', L, h0, X', hL, e1, e2, hF, st1⟩ | ⟨q9, st₀, t, T', L, E, ce, h0, X', hL, e1, e2, hXC, hce, hcv, hcl, st1⟩
    · exact hF.elim
    · obtain ⟨rfl, hRX, hF⟩ := hXC
      obtain ⟨k1, k2, k3⟩ := vx_keep h0 e1 h3 (fun q _ z => z) (fun q z => z) hL hF
      have hal : s.vm.Alike t.vm := by rw [← e2]; exact X'.warmed.alike
      have hz := X'.heapSize
      have hRJ : am_R sc s D b ad (h2 ++ [am_junk]) T'.heap := by
        rw [e1]
        exact (hRX.moved hal.symm).junk (by rw [← e1]; omega)
      obtain ⟨pre, z, suf, t1, t2, t3, t4, t5⟩ := am_hs_spec hhs
      obtain ⟨u1, u2, u3⟩ := am_hcl_w t4
      have kk : W p l e R s m args below meth c T'.heap (locs ++ L) (cl + (h2.length + 1 - h.length)) (sl + (am_sz h2 + 6 - am_sz h)) Q (F0 m z.handlerPc ls [.ref q9]) := by
        rw [t5]
        have fin : ∀ ls' : Array Slot, lv_has ls' nL ((i, Value.ref q9) :: (am_L b ad lv).filter (fun q => !(q.1 == i) && !(q.1 + 1 == i && q.2.category == 2))) → W p l e R s m args below meth c T'.heap (locs ++ L) (cl + (h2.length + 1 - h.length)) (sl + (am_sz h2 + 6 - am_sz h)) Q (F0 m (hp + len) ls' []) := by
          intro ls' hls
          rw [am_L_dl] at hls
          exact k ls' T'.heap (locs ++ L) _ _ ⟨hls.1, hls.2.1, fun q hq => hls.2.2 q (List.mem_cons_of_mem _ hq)⟩ hRJ k3 (by rw [List.length_append]; show cl + (h2.length + 1 - h.length) + n0 = h2.length + 1; omega) (by rw [am_sz_push]; show sl + (am_sz h2 + 6 - am_sz h) + z0 = am_sz h2 + 6; omega)
        rcases hda with ⟨hda, rfl⟩ | ⟨kf, rfl, hda, rfl⟩
        · exact lv_astore C.1 C.2.1 hda h1 hi rfl fin
        · exact lv_astore_n C.1 C.2.1 hda rfl h1 hi rfl fin
      obtain ⟨t9, a9, b9⟩ := vx_catch (p := p) (l := l) (e := e) (R := R) (below := below) (meth := meth) (locs := locs ++ L) (ls := ls) (rest := (st.drop (n % 64)).map (am_mv b ad)) (pc := pc) C.2.2.2.1 pre z suf (htab.trans t1) (fun w hw => (t2 w hw).imp id fun ⟨y9, z1, z2⟩ => ⟨(am_hcl_w z1).2.1, am_xn y9, hts _ (am_hcl_w z1).1, hE.2.2.2.2.2.1 _ (am_xn_nc hx3 (am_hcl_w z1).2.2 z2)⟩) t3 u2 (hts _ u1) (va_Nw.use rfl (hE.2.2.2.2.1 _ (am_xn_c hx3))) (by rw [e1]; exact hce) hcv hcl kk T' rfl X'
      exact ⟨t9, st1.trans a9, b9⟩
  · cases ok
end AMY
/-- a wrapper's code, its handlers and all -/
def am_ckW (hh : List (Nat × Nat × Nat × Nat)) (z : am_Cd) : Bool := match am_mds[z.1]? with
  | some q => am_mk q == 3 && decide (q.1.cls = am_own q.2.2.2.1) && decide (z.2.2.1[0]? = some 0) && am_lb q.2.2.2.1 q.2.1 false (am_okV q.2.2.2.1) (am_by q) z.2.2.1 0 z.2.1 && z.2.2.2.all (am_ckH1 q.2.2.2.1 q.2.1 (am_by q) hh z.2.2.1 z.2.1)
  | none => false
/-- a wrapper's table -/
def am_hhO : Option Jvm.Cond → List (Nat × Nat × Nat × Nat)
  | some (.codeWith _ _ _ _ hh) => hh
  | _ => []
def am_hh (q : am_M) : List (Nat × Nat × Nat × Nat) := am_hhO lw_tbl[q.2.2.2.2.2.2.1]?
theorem am_mwW {y : Nat} {q : am_M} (hq : am_mds[y]? = some q) (hk : am_mk q = 3) : Jvm.Cond.codeWith q.1 (am_by q) q.2.1 q.2.2.1 (am_hh q) ∈ am_T ∧ Jvm.Cond.static q.1 ∈ am_T ∧ Jvm.Cond.initialized q.1.cls ∈ am_T ∧
    plainName q.1.cls = true ∧ (q.1.cls ≠ "java/lang/invoke/MethodHandle" ∧ q.1.cls ≠ "java/lang/invoke/VarHandle") ∧ (parseMethodDescriptor q.1.desc).map (fun d => d.parameters.length) = some (am_mn q) ∧ q.2.1 ≤ 61 := by
  have h := am_ckM_all q (List.mem_of_getElem? hq)
  unfold am_ckM at h
  simp only [Bool.or_eq_true, Bool.and_eq_true, beq_iff_eq, bne_iff_ne, decide_eq_true_eq] at h
  rcases h with h | ⟨⟨⟨⟨⟨⟨⟨⟨h1, h2⟩, h3⟩, h4⟩, h5⟩, h6⟩, h7⟩, h8⟩, h9⟩
  · omega
  · refine ⟨?_, ?_, am_inT (List.mem_of_getElem? h3) rfl, h5, h6, h7, h8⟩
    · unfold am_by am_hh
      unfold am_isC at h1
      split at h1
      · simp only [Bool.and_eq_true, bne_iff_ne] at h1
        exact absurd hk h1.1.1.1
      · rename_i y0 b0 m0 r0 hh0 he
        simp only [Bool.and_eq_true, decide_eq_true_eq] at h1
        obtain ⟨⟨⟨-, rfl⟩, rfl⟩, rfl⟩ := h1
        rw [he]
        exact am_inT (List.mem_of_getElem? he) rfl
      · cases h1
    · rw [if_pos (Or.inr hk)] at h2
      exact am_inT (List.mem_of_getElem? h2) rfl
def am_cw (sc : List Int32) (cds : List am_Cd) (d : Nat) : am_Rl := fun y As h v h2 => ∃ (q : am_M) (code : List (List Instr × Instr)) (starts : List Nat) (hds : List (Nat × Nat × Nat)), am_mds[y]? = some q ∧ am_mk q = 3 ∧ am_ckW (am_hh q) (y, code, starts, hds) = true ∧ am_tyok q.2.2.1 v = true ∧ am_cs As ≤ q.2.1 ∧
      ∃ n, am_go sc (am_ca sc cds (d + 1)) (am_ct sc cds d) code hds (fun r hh => r = v ∧ hh = h2) (fun _ _ => False) n 0 (lv_args 0 As) [] h
theorem am_le_cw {cds : List am_Cd} (d y : Nat) (As : List Value) (h : am_H) (v : Option Value) (h2 : am_H) (e : am_cw sc cds d y As h v h2) : am_le h h2 := by
  obtain ⟨q, code, starts, hds, -, -, -, -, -, n, g⟩ := e
  obtain ⟨hf, f1, f2⟩ := am_le_go (P := fun hh => hh = h2) (am_le_ca (d + 1)) (am_le_ct d) (fun _ _ z => z.2) (fun _ _ z => z.elim) n 0 _ _ h g
  rw [← f1]
  exact f2
theorem am_metW {cds : List am_Cd} (hcds : ∀ z : am_Cd, z ∈ cds → am_ckL z = true) (hct : ∀ z : am_Cd, z ∈ cds → am_ckTz z = true) {l : Launch} (hl : l.stackTraces = false) {d y : Nat} {As : List Value} {h h2 : am_H} {v : Option Value} {q : am_M} (e : am_cw sc cds d y As h v h2) (hq : am_mds[y]? = some q) :
    am_mk q = 3 ∧ ∀ (D : va_G) (b : Nat) (ad : Nat → Nat), Met l q.1 (Jvm.Cond.codeWith q.1 (am_by q) q.2.1 q.2.2.1 (am_hh q) :: am_T) (am_rmd (d + 2) (h2.length - h.length) (am_sz h2 - am_sz h)) (am_Pc sc D b ad As h) (am_Qc sc D b ad v h2) (h2.length - h.length) (am_sz h2 - am_sz h) (fun q => b ≤ q) := by
  have hle : am_le h h2 := am_le_cw d y As h v h2 e
  obtain ⟨q', code, starts, hds, e1, hk3, hck, e3, e4, n, g⟩ := e
  cases hq.symm.trans e1
  unfold am_ckW at hck
  simp only [hq, Bool.and_eq_true, beq_iff_eq, decide_eq_true_eq, List.all_eq_true] at hck
  obtain ⟨⟨⟨⟨-, hown⟩, hs0⟩, hlk⟩, hH⟩ := hck
  obtain ⟨m1, m2, m4, m6, m7, m8, m9⟩ := am_mwW hq hk3
  refine ⟨hk3, fun D b ad => ?_⟩
  have hvx : vx_Met l q.1 (Jvm.Cond.codeWith q.1 (am_by q) q.2.1 q.2.2.1 (am_hh q) :: am_T) (am_rmd (d + 2) (h2.length - h.length) (am_sz h2 - am_sz h)) (am_Pc sc D b ad As h) (am_Qc sc D b ad v h2) (fun _ _ _ => False) (h2.length - h.length) (am_sz h2 - am_sz h) (fun q => b ≤ q) := by
    refine vx_ofWH (cc := am_by q) (maxL := q.2.1) (ret := q.2.2.1) m6 rfl ?_
    intro p e s m args below meth c s₁ B hml hv
    obtain ⟨rfl, hR, hK, hE⟩ := hv
    have hts := atoms_spec (ws := Jvm.Cond.codeWith q.1 (am_by q) q.2.1 q.2.2.1 (am_hh q) :: am_T) B.pre
    have htab := vx_table (x := q.1) B (hts _ List.mem_cons_self)
    have hown2 : s.vm.findClass (am_own q.2.2.2.1) = some m.cls := by rw [← hown]; exact findClass_of_methodNamed B.named
    have hnm : meth.name = q.1.name := (name_of_methodNamed B.named B.method).1
    have hlocks := B.notSynchronized
    have hret := B.returns
    have C : am_C p (am_rmd (d + 2) (h2.length - h.length) (am_sz h2 - am_sz h)) m c (am_by q) q.2.1 (am_own q.2.2.2.1) s (As.map (am_mv b ad)).toArray D meth q.1.name ad :=
      ⟨B.exec, B.bytes, hml, hown2, fun w hw => hts w (List.mem_cons_of_mem _ hw), hK, hnm, by rw [am_rmd_f]; omega, by rw [am_rmd_l]; omega, hE⟩
    have hlv := lv_entry (As.map (am_mv b ad)) (n := q.2.1) (by rw [am_lsl]; exact e4)
    rw [lg_entry_eq]
    rw [am_largs] at hlv
    have hrm2 : am_rm (am_rmd (d + 2) (h2.length - h.length) (am_sz h2 - am_sz h)) h.length (am_sz h) h2 := ⟨by show h2.length ≤ h.length + (h2.length - h.length); have := hle.1; omega, by show am_sz h2 ≤ am_sz h + (am_sz h2 - am_sz h); have := hle.2; omega⟩
    refine am_sim (e := e) (l := l) (below := below) (Q := vx_MQ below (am_Qc sc D b ad v h2) (fun _ _ _ => False) (As.map (am_mv b ad)).toArray s (h2.length - h.length) (am_sz h2 - am_sz h) (fun q => b ≤ q)) (b := b) (n0 := h.length) (z0 := am_sz h) C (ini := false) (fun z => by cases z) (ok := am_okV q.2.2.2.1) (starts := starts) (hds := hds) hlk (am_le_ca (d + 1)) (am_le_ct d) (fun r hh (z : r = v ∧ hh = h2) => by rw [z.2]; exact hrm2) (fun _ _ z => z.elim) ?_ ?_ ?_ ?_ ?_ n 0 0 (lv_args 0 As) [] h g hs0 _ s.heap [] 0 0 hlv hR va_S.rf (Nat.zero_add _) (Nat.zero_add _)
    · intro pc y2 n2 ci lv st h3 h4 v2 hd ok w1 w2 w3 hca hle2 hrm3 k
      have hq2 : ∃ q2, am_mds[y2]? = some q2 := by
        obtain ⟨q2, _, _, hq2, -⟩ := hca
        exact ⟨q2, hq2⟩
      obtain ⟨q2, hq2⟩ := hq2
      obtain ⟨hk2, hk4, hM⟩ := am_met hcds l (d + 1) y2 _ _ _ _ q2 hca hq2
      exact am_call C hq2 hk2 hk4 hd (am_okV_c ok) w1 w2 w3 hM (by rw [am_rmd_f]; omega) (by rw [am_rmd_l]; omega) hle2 hrm3 k
    · intro bi pc y2 n2 x b2 pc2 ci lv st h3 h4 hd ok w1 w2 w3 hT hhd hs2 hrm3 hpe k
      obtain ⟨is, pc0, z1, z2, z3⟩ := hpe
      have hz := hH _ (am_hdl_in hhd)
      unfold am_ckH1 at hz
      simp only [z1, z2, z3] at hz
      split at hz
      · rename_i hp hhp
        obtain ⟨⟨w, wl⟩, hw, hz⟩ := am_wi_spec hz
        simp only [Bool.and_eq_true, decide_eq_true_eq] at hz
        obtain ⟨⟨hw2, hi⟩, hpc2⟩ := hz
        cases hs2.symm.trans hpc2
        refine am_callT (i := b2 % 64) (len := wl) C hcds hct hl hR.1 htab hd ok w1 w2 w3 hT hhp hi ?_ (by rw [am_rmd_f]; omega) (by rw [am_rmd_l]; omega) hrm3 k
        split at hw2
        · simp only [Bool.and_eq_true, decide_eq_true_eq] at hw2
          obtain ⟨rfl, rfl⟩ := hw2
          exact Or.inl ⟨hw, rfl⟩
        · rename_i kf
          simp only [Bool.and_eq_true, decide_eq_true_eq] at hw2
          obtain ⟨hw3, rfl⟩ := hw2
          exact Or.inr ⟨kf, hw3, hw, rfl⟩
        · cases hw2
      · cases hz
    · intro bi x b2 hhd
      have hz := hH _ (am_hdl_in hhd)
      unfold am_ckH1 at hz
      split at hz
      · split at hz
        · split at hz
          · split at hz
            · obtain ⟨w, -, hz⟩ := am_wi_spec hz
              simp only [Bool.and_eq_true, decide_eq_true_eq] at hz
              exact ⟨_, hz.2⟩
            · cases hz
          · cases hz
        · cases hz
      · cases hz
    · intro pc t lv st hf r hd hr hfin
      obtain ⟨rfl, rfl⟩ := hfin
      intro ls H locs cl sl y1 y2 y3 y4 y5
      have z1 : cl = hf.length - h.length := by omega
      have z2 : sl = am_sz hf - am_sz h := by omega
      subst z1; subst z2
      have hqc : ∀ (t : State), t.heap = H → s.WarmedH t.vm → am_Qc sc D b ad r hf (As.map (am_mv b ad)).toArray s (.returned (r.map (am_mv b ad))) t := fun t ht hW => ⟨rfl, by rw [ht]; exact y2.moved hW.alike, y3.F ht⟩
      exact vx_ret (am_wret C.1 C.2.1 hret e3 hd hr hqc y3.2.2 hlocks)
    · intro _ _ _ _ _ _ _ _ _ _ _ z
      exact z.elim
  exact MetFree.mono hvx (fun _ _ z => z) (fun _ _ _ _ _ z => z) (fun a st o t _ z => z.elim id (fun ⟨_, _, _, _, _, z, _⟩ => z.elim))
