variable {sc : List Int32}
/-! CALLS: what the tables say of a call; a callee's contract is a step of its caller -/
theorem am_en_in {cn i k a : Nat} (h : am_en cn i k a = true) : ∃ pl, (i, k, a, pl) ∈ am_tb cn := by
  unfold am_en at h
  split at h
  · rename_i q hq
    obtain ⟨h1, h2⟩ := am_find_in hq
    simp only [Bool.and_eq_true, beq_iff_eq] at h
    obtain ⟨q1, q2, q3, q4⟩ := q
    simp only at h2 h
    obtain ⟨rfl, rfl⟩ := h
    subst h2
    exact ⟨q4, h1⟩
  · cases h
theorem am_en7 {cn i y : Nat} {q : am_M} (h : am_en cn i 7 y = true) (hq : am_mds[y]? = some q) : Jvm.Cond.methodLink (am_own cn) i q.1 ∈ am_T := by
  obtain ⟨pl, h1⟩ := am_en_in h
  have h2 := am_cm_all cn _ h1
  unfold am_cm at h2
  simp only [hq, decide_eq_true_eq] at h2
  exact am_inT (List.mem_of_getElem? h2) rfl
theorem am_en8 {cn i y : Nat} {q : am_M} (h : am_en cn i 8 y = true) (hq : am_mds[y]? = some q) : ∃ host, (am_own cn, i, q.1, host) ∈ am_nm := by
  obtain ⟨pl, h1⟩ := am_en_in h
  have h2 := am_cm_all cn _ h1
  unfold am_cm at h2
  simp only [hq] at h2
  split at h2
  · rename_i z hz
    have h3 := List.mem_of_getElem? hz
    obtain ⟨z1, z2, z3, z4⟩ := z
    simp only [decide_eq_true_eq, Prod.mk.injEq] at h2
    obtain ⟨rfl, rfl, rfl⟩ := h2
    exact ⟨z4, h3⟩
  · cases h2
/-- the words of a method -/
theorem am_mw {y : Nat} {q : am_M} (hq : am_mds[y]? = some q) (hk : am_mk q ≠ 9) (hk3 : am_mk q ≠ 3) : Jvm.Cond.code q.1 (am_by q) q.2.1 q.2.2.1 ∈ am_T ∧ (am_mk q = 0 → Jvm.Cond.static q.1 ∈ am_T) ∧ (am_mk q ≠ 0 → Jvm.Cond.instanceMethod q.1 ∈ am_T) ∧ Jvm.Cond.initialized q.1.cls ∈ am_T ∧ (am_mk q = 1 → Jvm.Cond.selects q.1.cls q.1 q.1 ∈ am_T) ∧
    plainName q.1.cls = true ∧ (q.1.cls ≠ "java/lang/invoke/MethodHandle" ∧ q.1.cls ≠ "java/lang/invoke/VarHandle") ∧ (parseMethodDescriptor q.1.desc).map (fun d => d.parameters.length) = some (am_mn q) ∧ q.2.1 ≤ 61 ∧ (am_mk q = 2 → q.1.name = "<init>" ∧ q.2.2.1 = none) := by
  have h := am_ckM_all q (List.mem_of_getElem? hq)
  unfold am_ckM at h
  simp only [Bool.or_eq_true, Bool.and_eq_true, beq_iff_eq, bne_iff_ne, decide_eq_true_eq] at h
  rcases h with h | ⟨⟨⟨⟨⟨⟨⟨⟨h1, h2⟩, h3⟩, h4⟩, h5⟩, h6⟩, h7⟩, h8⟩, h9⟩
  · exact absurd h hk
  · refine ⟨?_, fun z => ?_, fun z => ?_, am_inT (List.mem_of_getElem? h3) rfl, fun z => ?_, h5, h6, h7, h8, fun z => ?_⟩
    · unfold am_by
      unfold am_isC at h1
      split at h1
      · rename_i y0 b0 m0 r0 he
        simp only [Bool.and_eq_true, decide_eq_true_eq] at h1
        obtain ⟨⟨⟨-, rfl⟩, rfl⟩, rfl⟩ := h1
        rw [he]
        exact am_inT (List.mem_of_getElem? he) rfl
      · simp only [Bool.and_eq_true, beq_iff_eq] at h1
        exact absurd h1.1.1.1 hk3
      · cases h1
    · rw [if_pos (Or.inl z)] at h2
      exact am_inT (List.mem_of_getElem? h2) rfl
    · rw [if_neg (by rintro (h | h); exact z h; exact hk3 h)] at h2
      exact am_inT (List.mem_of_getElem? h2) rfl
    · rcases h4 with h4 | h4
      · exact absurd z h4
      · exact am_inT (List.mem_of_getElem? h4) rfl
    · rcases h9 with h9 | h9
      · exact absurd z h9
      · exact h9
def am_rmd (d mc ms : Nat) : Room := { frames := d + 8, cells := mc, slots := ms, locals := 80 * d + 300 }
theorem am_rmd_f (d mc ms : Nat) : (am_rmd d mc ms).frames = d + 8 := rfl
theorem am_rmd_l (d mc ms : Nat) : (am_rmd d mc ms).locals = 80 * d + 300 := rfl
def am_Pc (sc : List Int32) (D : va_G) (b : Nat) (ad : Nat → Nat) (As : List Value) (h : am_H) : Array Value → State → Prop := fun a U => a = (As.map (am_mv b ad)).toArray ∧ am_R sc U D b ad h U.heap ∧ va_K D vwCl [] U ∧ am_E ad U
def am_Qc (sc : List Int32) (D : va_G) (b : Nat) (ad : Nat → Nat) (v : Option Value) (h2 : am_H) : Array Value → State → Outcome → State → Prop := fun _ st o t => o = .returned (v.map (am_mv b ad)) ∧ am_R sc t D b ad h2 t.heap ∧ va_F (fun q => b ≤ q) st t
/-- a method's contract at one call: depth, arguments, things before, answer, things behind -/
def am_Mt (sc : List Int32) (l : Launch) (d : Nat) (q : am_M) (As : List Value) (h : am_H) (v : Option Value) (h2 : am_H) : Prop :=
  ∀ (D : va_G) (b : Nat) (ad : Nat → Nat), Met l q.1 (Jvm.Cond.code q.1 (am_by q) q.2.1 q.2.2.1 :: am_T) (am_rmd d (h2.length - h.length) (am_sz h2 - am_sz h)) (am_Pc sc D b ad As h) (am_Qc sc D b ad v h2) (h2.length - h.length) (am_sz h2 - am_sz h) (fun q => b ≤ q)
theorem am_blind (D : va_G) (b : Nat) (ad : Nat → Nat) (As : List Value) (h : am_H) : FrameBlind (am_Pc sc D b ad As h) := by
  intro a U g mk hp
  obtain ⟨h1, h2, h3, h4⟩ := hp
  exact ⟨h1, am_R.moved (u := U) (U := U.calling g mk a) (Vm.Alike.refl U.vm) h2, va_K.moved (u := U) (U := U.calling g mk a) (Vm.Alike.refl U.vm) h3, am_E.warm (s := U) (U := U.calling g mk a) (State.WarmedH.refl U) h4⟩
section AMK
variable {p : Program} {l : Launch} {e : Env} {R : Room} {s : State} {m : MethodId} {args : Array Value} {below : List Frame} {meth : Method} {c : Code} {Q : State → Prop}
variable {cc : ByteArray} {nL n0 z0 b cn : Nat} {yn : String} {ad : Nat → Nat} {D : va_G} {H : Heap} {locs : List Loc} {cells slots mc ms pc : Nat} {ls : Array Slot} {st0 rest : List Value} {a : Array Value} {h h2 : am_H} {v : Option Value}
theorem am_callW (hr : va_Run p l e R s m args below meth c H locs cells slots mc ms (F0 m pc ls st0) rest (am_Qc sc D b ad v h2 a) (fun q => b ≤ q)) (hS : va_S (fun q => b ≤ q) s.heap H locs)
    (kk : ∀ (H1 : Heap) (locs1 : List Loc), am_R sc s D b ad h2 H1 → va_S (fun q => b ≤ q) s.heap H1 locs1 → W p l e R s m args below meth c H1 locs1 (cells + mc) (slots + ms) Q (F0 m (pc + 3) ls ((v.map (am_mv b ad)).toList ++ rest))) : W p l e R s m args below meth c H locs cells slots Q (F0 m pc ls st0) := by
  intro T hT X
  obtain ⟨v', st₀, t, T', L, h0, X', hL, e1, e2, ⟨hv, hR, hF⟩, st⟩ := hr T hT X
  cases hv
  obtain ⟨hz, hk⟩ := hF
  rw [h0] at hz hk
  have hal : s.vm.Alike t.vm := by rw [← e2]; exact X'.warmed.alike
  obtain ⟨t2, a1, b1⟩ := kk T'.heap (locs ++ L) (by rw [e1]; exact hR.moved hal.symm)
    ⟨Nat.le_trans hS.1 (by rw [e1]; exact hz), fun q h1 h2 => by rw [e1, hk q (Nat.lt_of_lt_of_le h1 hS.1) h2]; exact hS.2.1 q h1 h2, fun q hq => by
      rcases List.mem_append.mp hq with h | h
      · exact hS.2.2 q h
      · exact hL q h⟩ T' rfl X'
  exact ⟨t2, st t2 a1, b1⟩
theorem am_pre (C : am_C p R m c cc nL (am_own cn) s args D meth yn ad) {As : List Value} (h2 : am_R sc s D b ad h H) : ∀ U : State, U.heap = H → s.WarmedH U.vm → am_Pc sc D b ad As h (As.map (am_mv b ad)).toArray U := by
  intro U hU hW
  exact ⟨rfl, by rw [hU]; exact h2.moved hW.alike, va_K.moved hW.alike C.2.2.2.2.2.1, am_E.warm hW C.2.2.2.2.2.2.2.2.2⟩
theorem am_stk (st : List Value) (k : Nat) : st.map (am_mv b ad) = ((st.take k).reverse.map (am_mv b ad)).reverse ++ (st.drop k).map (am_mv b ad) := by
  rw [← List.map_reverse, List.reverse_reverse, ← List.map_append, List.take_append_drop]
theorem am_vst (v : Option Value) (r : List Value) : (v.map (am_mv b ad)).toList ++ r.map (am_mv b ad) = (v.toList ++ r).map (am_mv b ad) := by
  cases v <;> rfl
set_option maxRecDepth 8192 in
/-- a call, out of its callee's contract -/
theorem am_call (C : am_C p R m c cc nL (am_own cn) s args D meth yn ad) {d y n : Nat} {q : am_M} {ci : Instr} {lv : am_V} {st : List Value} (hq : am_mds[y]? = some q) (hk9 : am_mk q ≠ 9) (hk3 : am_mk q ≠ 3) (hd : decode cc pc = .ok (ci, 3)) (ok : am_okc cn ci y n = true) (w1 : n % 64 ≤ st.length) (w2 : am_cs (st.drop (n % 64)) ≤ 8) (w3 : n / 64 = 0 ∨ am_rcv (n / 64) (st.take (n % 64)).reverse h = true)
    (hM : am_Mt sc l d q (st.take (n % 64)).reverse h v h2) (hRf : d + 9 ≤ R.frames) (hRl : 80 * (d + 1) + 300 ≤ R.locals) (hle : am_le h h2) (hrm : am_rm R n0 z0 h2)
    (k : am_W sc p l e R s m args below meth c D b ad nL n0 z0 Q (pc + 3) lv (v.toList ++ st.drop (n % 64)) h2) : am_W sc p l e R s m args below meth c D b ad nL n0 z0 Q pc lv st h := by
  intro ls H locs cl sl h1 hR h3 h4 h5
  obtain ⟨m1, m2, m3, m4, m5, m6, m7, m8, m9, m10⟩ := am_mw hq hk9 hk3
  have hts := C.2.2.2.2.1
  obtain ⟨r1, r2⟩ := hrm
  obtain ⟨l1, l2⟩ := hle
  have hrm1 : cl + (h2.length - h.length) ≤ R.cells ∧ sl + (am_sz h2 - am_sz h) ≤ R.slots := ⟨by omega, by omega⟩
  have hroom : (am_rmd d (h2.length - h.length) (am_sz h2 - am_sz h)).frames + 1 ≤ R.frames ∧ 8 + (q.2.1 + 11) + (am_rmd d (h2.length - h.length) (am_sz h2 - am_sz h)).locals ≤ R.locals := ⟨by rw [am_rmd_f]; omega, by rw [am_rmd_l]; omega⟩
  have hW8 : 2 * (F0 m pc ls (st.map (am_mv b ad))).monitorRoom + (((st.drop (n % 64)).map (am_mv b ad)).map fun v => v.category).sum ≤ 8 := by rw [am_cs_mv]; show 2 * 0 + _ ≤ 8; omega
  have fin : ∀ {As : List Value}, va_Run p l e R s m args below meth c H locs cl sl (h2.length - h.length) (am_sz h2 - am_sz h) (F0 m pc ls (st.map (am_mv b ad))) ((st.drop (n % 64)).map (am_mv b ad)) (am_Qc sc D b ad v h2 As.toArray) (fun q => b ≤ q) → W p l e R s m args below meth c H locs cl sl Q (F0 m pc ls (st.map (am_mv b ad))) := by
    intro As hr
    refine am_callW hr h3 fun H1 locs1 y1 y2 => ?_
    rw [am_vst]
    exact k ls H1 locs1 _ _ h1 y1 y2 (by omega) (by omega)
  have hall : ∀ w ∈ (Jvm.Cond.code q.1 (am_by q) q.2.1 q.2.2.1 :: am_T), w ∈ am_T := fun w hw => (List.mem_cons.mp hw).elim (fun z => z ▸ m1) id
  have hlen : ((st.take (n % 64)).reverse.map (am_mv b ad)).length = n % 64 := by rw [List.length_map, List.length_reverse, List.length_take, Nat.min_eq_left w1]
  unfold am_okc at ok
  split at ok
  · rename_i i
    simp only [Bool.or_eq_true, Bool.and_eq_true, beq_iff_eq, hq] at ok
    obtain ⟨⟨ok1, ok2⟩, ok3⟩ := ok
    have ok2 : am_mk q = 0 := ok2.elim id (fun z => absurd z hk3)
    · rcases ok1 with ok1 | ok1
      · have hG : GoodIn am_T (va_wsS (am_own cn) i q.1 (Jvm.Cond.code q.1 (am_by q) q.2.1 q.2.2.1 :: am_T)) := am_good (fun _ z => z) fun w hw => by
          rcases List.mem_append.mp hw with hw | hw
          · simp only [List.mem_cons, List.not_mem_nil, or_false] at hw
            rcases hw with rfl | rfl | rfl
            · exact am_en7 ok1 hq
            · exact m2 ok2
            · exact m4
          · exact hall w hw
        exact fin (va_runS ⟨C.1, C.2.1, C.2.2.1, C.2.2.2.1, hts⟩ (hM D b ad) (va_cwS (am_mn q) hts hG rfl rfl rfl ⟨m7.1, m7.2, m8⟩ hroom) ⟨am_blind _ _ _ _ _, am_pre C hR⟩ rfl (hlen.trans ok3) h1.1 (am_stk st (n % 64)) hW8 hd hrm1)
      · obtain ⟨host, hn⟩ := am_en8 ok1 hq
        exact fin (va_runSN ⟨C.1, C.2.1, C.2.2.1, C.2.2.2.1, hts⟩ (hM D b ad) ⟨va_cnB (am_mn q) hts (am_good (fun _ z => z) hall) rfl rfl rfl (am_E_nm C.2.2.2.2.2.2.2.2.2 hn) (hts _ m4) ⟨m7.1, m7.2, m8⟩ hroom, hts _ (m2 ok2), trivial⟩ ⟨am_blind _ _ _ _ _, am_pre C hR⟩ rfl (hlen.trans ok3) h1.1 (am_stk st (n % 64)) hW8 hd hrm1)
  · rename_i i
    simp only [Bool.and_eq_true, Bool.or_eq_true, beq_iff_eq, hq, decide_eq_true_eq] at ok
    obtain ⟨⟨⟨ok1, ok2⟩, ok3⟩, ok4⟩ := ok
    have hrv : ∃ (v0 : Value) (r : List Value) (rv : Nat), (st.take (n % 64)).reverse = v0 :: r ∧ am_mv b ad v0 = .ref rv ∧ ∃ cell : Cell, H[rv]? = some cell ∧ cell.vm.isStatics = false ∧ s.vm.findClass q.1.cls = some cell.cls := by
      rcases w3 with w3 | w3
      · omega
      · unfold am_rcv at w3
        split at w3
        · rename_i a r he
          split at w3
          · rename_i o ho
            have ho1 := beq_iff_eq.mp w3
            obtain ⟨o1, o2⟩ := o
            simp only at ho1
            subst ho1
            have h63 : ¬ n / 64 = 63 := by
              intro z
              obtain ⟨z9, hz9, -⟩ := am_at_obj (hR.2.1 a _ ho) (by omega)
              simp only at hz9
              rw [z] at hz9
              simp [vwCl] at hz9
            rcases ok4 with ok4 | ⟨⟨ok4, ok6⟩, ok5⟩
            · exact absurd ok4.1 h63
            · have hcl : ∃ T N, vwCl[n / 64]? = some (q.1.cls, T, N) := by
                unfold am_clN at ok5
                split at ok5
                · rename_i z hz
                  obtain ⟨z1, z2, z3⟩ := z
                  simp only at ok5
                  subst ok5
                  exact ⟨z2, z3, hz⟩
                · exfalso
                  rename_i hz
                  obtain ⟨z, hz2, -⟩ := am_at_obj (hR.2.1 a _ ho) (by omega)
                  simp only at hz2
                  rw [hz] at hz2
                  cases hz2
              obtain ⟨T, N, hcl⟩ := hcl
              exact ⟨.ref a, r, b + a, he, rfl, am_recv C.2.2.2.2.2.1 (by omega) hcl hR ho⟩
          · cases w3
        · rename_i x r he
          simp only [Bool.and_eq_true, beq_iff_eq, decide_eq_true_eq] at w3
          rcases ok4 with ok4 | ok4
          · obtain ⟨cell, z1, z2, z3, -⟩ := (hR.2.2.2.2.2.2.2.2.2 x w3.2).1
            exact ⟨.retAddr x, r, ad x, he, rfl, cell, z1, z2, by rw [ok4.2]; exact z3⟩
          · omega
        · cases w3
    obtain ⟨v0, r, rv, hAs, hmv, hrec⟩ := hrv
    have hstk : st.map (am_mv b ad) = (r.map (am_mv b ad)).reverse ++ .ref rv :: (st.drop (n % 64)).map (am_mv b ad) := by
      rw [am_stk st (n % 64), hAs]
      simp [hmv]
    have hlen2 : (r.map (am_mv b ad)).length = am_mn q := by
      rw [hAs] at hlen
      simp only [List.map_cons, List.length_cons] at hlen
      omega
    have hpre : ∀ U : State, U.heap = H → s.WarmedH U.vm → am_Pc sc D b ad (st.take (n % 64)).reverse h (Value.ref rv :: r.map (am_mv b ad)).toArray U := by
      have z := am_pre (As := (st.take (n % 64)).reverse) C hR
      rw [hAs] at z ⊢
      rw [List.map_cons, hmv] at z
      exact z
    rcases ok1 with ok1 | ok1
    · have hG : GoodIn am_T (wsV (am_own cn) i q.1.cls q.1 (Jvm.Cond.code q.1 (am_by q) q.2.1 q.2.2.1 :: am_T)) := am_good (fun _ z => z) fun w hw => by
        rcases List.mem_append.mp hw with hw | hw
        · simp only [List.mem_cons, List.not_mem_nil, or_false] at hw
          rcases hw with rfl | rfl | rfl | rfl
          · exact am_en7 ok1 hq
          · exact m3 (by omega)
          · exact m5 ok2
          · exact m4
        · exact hall w hw
      exact fin (As := Value.ref rv :: r.map (am_mv b ad)) (va_runV ⟨C.1, C.2.1, C.2.2.1, C.2.2.2.1, hts⟩ (hM D b ad) (cwV (am_mn q) hts hG rfl rfl rfl ⟨rfl, m7.1, m7.2, m8⟩ hroom) ⟨am_blind _ _ _ _ _, hrec, hpre⟩ rfl hlen2 h1.1 hstk hW8 hd hrm1)
    · obtain ⟨host, hn⟩ := am_en8 ok1 hq
      exact fin (As := Value.ref rv :: r.map (am_mv b ad)) (va_runVN ⟨C.1, C.2.1, C.2.2.1, C.2.2.2.1, hts⟩ (hM D b ad) ⟨va_cnB (am_mn q) hts (am_good (fun _ z => z) hall) rfl rfl rfl (am_E_nm C.2.2.2.2.2.2.2.2.2 hn) (hts _ m4) ⟨m7.1, m7.2, m8⟩ hroom, hts _ (m3 (by omega)), hts _ (m5 ok2)⟩ ⟨am_blind _ _ _ _ _, hrec, hpre⟩ rfl hlen2 h1.1 hstk hW8 hd hrm1)
  · rename_i i
    simp only [Bool.and_eq_true, Bool.or_eq_true, beq_iff_eq, hq, decide_eq_true_eq] at ok
    obtain ⟨⟨⟨ok1, ok2⟩, ok3⟩, ok4⟩ := ok
    obtain ⟨n1, n2⟩ := m10 ok2
    have hrv : ∃ (v0 : Value) (r : List Value) (rv : Nat), (st.take (n % 64)).reverse = v0 :: r ∧ am_mv b ad v0 = .ref rv := by
      rcases w3 with w3 | w3
      · omega
      · unfold am_rcv at w3
        split at w3
        · rename_i a r he
          exact ⟨.ref a, r, _, he, rfl⟩
        · rename_i x r he
          exact ⟨.retAddr x, r, _, he, rfl⟩
        · cases w3
    obtain ⟨v0, r, rv, hAs, hmv⟩ := hrv
    have hstk : st.map (am_mv b ad) = (r.map (am_mv b ad)).reverse ++ .ref rv :: (st.drop (n % 64)).map (am_mv b ad) := by
      rw [am_stk st (n % 64), hAs]
      simp [hmv]
    have hlen2 : (r.map (am_mv b ad)).length = am_mn q := by
      rw [hAs] at hlen
      simp only [List.map_cons, List.length_cons] at hlen
      omega
    have hpre : ∀ U : State, U.heap = H → s.WarmedH U.vm → am_Pc sc D b ad (st.take (n % 64)).reverse h (Value.ref rv :: r.map (am_mv b ad)).toArray U := by
      have z := am_pre (As := (st.take (n % 64)).reverse) C hR
      rw [hAs] at z ⊢
      rw [List.map_cons, hmv] at z
      exact z
    have hM := hM D b ad
    rw [n2] at hM m1
    have hall2 : ∀ w ∈ (Jvm.Cond.code q.1 (am_by q) q.2.1 none :: am_T), w ∈ am_T := fun w hw => (List.mem_cons.mp hw).elim (fun z => z ▸ m1) id
    rcases ok1 with ok1 | ok1
    · exact fin (As := Value.ref rv :: r.map (am_mv b ad)) (va_runI ⟨C.1, C.2.1, C.2.2.1, C.2.2.2.1, hts⟩ hM (cwI (am_mn q) hts (am_good (fun _ z => z) hall2) rfl rfl rfl (hts _ m4) (hts _ (am_en7 ok1 hq)) (hts _ (m3 (by omega))) n1 ⟨m7.1, m7.2, m8⟩ hroom) ⟨am_blind _ _ _ _ _, hpre⟩ rfl hlen2 h1.1 hstk hW8 hd hrm1)
    · obtain ⟨host, hn⟩ := am_en8 ok1 hq
      exact fin (As := Value.ref rv :: r.map (am_mv b ad)) (va_runIN ⟨C.1, C.2.1, C.2.2.1, C.2.2.2.1, hts⟩ hM ⟨va_cnB (am_mn q) hts (am_good (fun _ z => z) hall2) rfl rfl rfl (am_E_nm C.2.2.2.2.2.2.2.2.2 hn) (hts _ m4) ⟨m7.1, m7.2, m8⟩ hroom, n1, hts _ (m3 (by omega))⟩ ⟨am_blind _ _ _ _ _, hpre⟩ rfl hlen2 h1.1 hstk hW8 hd hrm1)
  · cases ok
end AMK
/-! WHAT A METHOD DOES, by depth: its code, run -/
def am_tyok : Option FieldType → Option Value → Bool
  | none, none => true
  | some .int, some (.int _) => true
  | some .boolean, some (.int x) => x == 0 || x == 1
  | some .long, some (.long _) => true
  | some .byte, some (.int x) => x.toInt8.toInt32 == x
  | some .char, some (.int x) => x.toUInt32.toUInt16.toUInt32.toInt32 == x
  | some .double, some (.double _) => true
  | some .float, some (.float _) => true
  | some (.object _), some v => am_isR v
  | some (.array _), some v => am_isR v
  | _, _ => false
def am_noT : am_Rt := fun _ _ _ _ _ => False
def am_ca (sc : List Int32) (cds : List am_Cd) : Nat → am_Rl
  | 0 => fun _ _ _ _ _ => False
  | d + 1 => fun y As h v h2 => ∃ (q : am_M) (code : List (List Instr × Instr)) (starts : List Nat), am_mds[y]? = some q ∧ am_mk q ≠ 3 ∧ (y, code, starts, []) ∈ cds ∧ am_tyok q.2.2.1 v = true ∧ am_cs As ≤ q.2.1 ∧
      ∃ n, am_go sc (am_ca sc cds d) am_noT code [] (fun r hh => r = v ∧ hh = h2) (fun _ _ => False) n 0 (lv_args 0 As) [] h
theorem am_le_ca {cds : List am_Cd} : ∀ (d y : Nat) (As : List Value) (h : am_H) (v : Option Value) (h2 : am_H), am_ca sc cds d y As h v h2 → am_le h h2
  | 0, _, _, _, _, _, e => e.elim
  | d + 1, y, As, h, v, h2, e => by
    obtain ⟨q, code, starts, -, -, -, -, -, n, g⟩ := e
    obtain ⟨hf, f1, f2⟩ := am_le_go (P := fun hh => hh = h2) (am_le_ca d) (fun _ _ _ _ _ z => z.elim) (fun _ _ z => z.2) (fun _ _ z => z.elim) n 0 _ _ h g
    rw [← f1]
    exact f2
theorem am_largs (b : Nat) (ad : Nat → Nat) : ∀ (As : List Value) (i : Nat), lv_args i (As.map (am_mv b ad)) = am_L b ad (lv_args i As)
  | [], _ => rfl
  | v :: r, i => by
    show (i, am_mv b ad v) :: lv_args (if (am_mv b ad v).category = 2 then i + 2 else i + 1) (r.map (am_mv b ad)) = (i, am_mv b ad v) :: am_L b ad (lv_args (if v.category = 2 then i + 2 else i + 1) r)
    rw [am_mv_cat, am_largs b ad r]
theorem am_lsl (b : Nat) (ad : Nat → Nat) : ∀ (As : List Value), (lg_sl (As.map (am_mv b ad))).length = am_cs As
  | [] => rfl
  | v :: r => by
    have ih := am_lsl b ad r
    have e : lg_sl ((v :: r).map (am_mv b ad)) = (if (am_mv b ad v).category = 2 then [.val (am_mv b ad v), .second] else [.val (am_mv b ad v)]) ++ lg_sl (r.map (am_mv b ad)) := rfl
    have e2 : am_cs (v :: r) = v.category + am_cs r := by simp [am_cs]
    rw [e, e2, List.length_append, ih, am_mv_cat]
    rcases lv_cat v with hv | hv
    · rw [if_neg (by omega), hv]
      rfl
    · rw [if_pos hv, hv]
      rfl
theorem am_wret {p : Program} {l : Launch} {e : Env} {R : Room} {s : State} {m : MethodId} {args : Array Value} {below : List Frame} {meth : Method} {c : Code} {cc : ByteArray} {H : Heap} {locs : List Loc} {cells slots pc b : Nat} {ls : Array Slot} {ad : Nat → Nat} {Qc : Array Value → State → Outcome → State → Prop} {free : Addr → Prop} {ret : Option FieldType} {t : Instr} {st : List Value} {r : Option Value}
    (hexec : p.tables.exec = Jvm.exec) (hb : c.code = cc) (hret : meth.sig.returnType = ret) (hty : am_tyok ret r = true) (hd : decode cc pc = .ok (t, 1)) (hr : am_rt t st = some r) (hq : ∀ t' : State, t'.heap = H → s.WarmedH t'.vm → Qc args s (.returned (r.map (am_mv b ad))) t') (hf : ∀ q ∈ locs, free q.base) (hlocks : meth.locks = false) :
    W p l e R s m args below meth c H locs cells slots (MQ below Qc args s cells slots free) (F0 m pc ls (st.map (am_mv b ad))) := by
  unfold am_rt at hr
  split at hr
  · cases hr
    cases ret with
    | none => cases hty
    | some ty =>
      cases ty with
      | int => exact W.zret (ty := .int) hexec hb hret rfl hq hf hd
      | boolean =>
        simp only [am_tyok, Bool.or_eq_true, beq_iff_eq] at hty
        exact W.zret (ty := .boolean) hexec hb hret (by rcases hty with rfl | rfl <;> rfl) hq hf hd
      | byte =>
        simp only [am_tyok, beq_iff_eq] at hty
        exact W.zret (ty := .byte) hexec hb hret (by show Value.int _ = Value.int _; rw [hty]) hq hf hd
      | char =>
        simp only [am_tyok, beq_iff_eq] at hty
        exact W.zret (ty := .char) hexec hb hret (by show Value.int _ = Value.int _; rw [hty]) hq hf hd
      | _ => cases hty
  · cases hr
    cases ret with
    | none => cases hty
    | some ty =>
      cases ty with
      | long => exact W.lret hexec hb hret hq hf hd
      | _ => cases hty
  · cases hr
    cases ret with
    | none => cases hty
    | some ty =>
      cases ty with
      | double => exact W.dret hexec hb hret hq hf hd
      | _ => cases hty
  · cases hr
    cases ret with
    | none => cases hty
    | some ty =>
      cases ty with
      | float => exact W.fret hexec hb hret hq hf hd
      | _ => cases hty
  · rename_i v
    split at hr
    · rename_i hv
      cases hr
      have hv2 : am_mv b ad v = .null ∨ ∃ a, am_mv b ad v = .ref a := by
        rcases am_isR_spec hv with rfl | ⟨x, rfl⟩ | ⟨x, rfl⟩
        · exact Or.inl rfl
        · exact Or.inr ⟨_, rfl⟩
        · exact Or.inr ⟨_, rfl⟩
      cases ret with
      | none => cases v <;> cases hty
      | some ty =>
        cases ty with
        | object n => exact W.aret (rt := .object n) hexec hb hret (Or.inl ⟨_, rfl⟩) hv2 hq hf hd
        | array n => exact W.aret (rt := .array n) hexec hb hret (Or.inr ⟨_, rfl⟩) hv2 hq hf hd
        | _ => rcases am_isR_spec hv with rfl | ⟨x, rfl⟩ | ⟨x, rfl⟩ <;> cases hty
    · cases hr
  · cases hr
    cases ret with
    | none => exact W.vret hexec hb hret hq hf hd
    | some ty => cases ty <;> cases hty
  · cases hr
/-- EVERY METHOD KEEPS THE CONTRACT that its abstract run says -/
theorem am_met {cds : List am_Cd} (hcds : ∀ z : am_Cd, z ∈ cds → am_ckL z = true) (l : Launch) : ∀ (d y : Nat) (As : List Value) (h : am_H) (v : Option Value) (h2 : am_H) (q : am_M), am_ca sc cds d y As h v h2 → am_mds[y]? = some q → am_mk q ≠ 9 ∧ am_mk q ≠ 3 ∧ am_Mt sc l d q As h v h2
  | 0, _, _, _, _, _, _, e, _ => e.elim
  | d + 1, y, As, h, v, h2, q, e, hq => by
    obtain ⟨q', code, starts, e1, hk3, e2, e3, e4, n, g⟩ := e
    cases hq.symm.trans e1
    have hck := hcds _ e2
    unfold am_ckL at hck
    simp only [hq, Bool.and_eq_true, bne_iff_ne, ne_eq, decide_eq_true_eq] at hck
    obtain ⟨⟨⟨hk9, hown⟩, hs0⟩, hlk⟩ := hck
    obtain ⟨m1, m2, m3, m4, m5, m6, m7, m8, m9, m10⟩ := am_mw hq hk9 hk3
    have hle : am_le h h2 := am_le_ca (d + 1) y As h v h2 ⟨q, code, starts, hq, hk3, e2, e3, e4, n, g⟩
    refine ⟨hk9, hk3, fun D b ad => ?_⟩
    refine Met.ofW (cc := am_by q) (maxL := q.2.1) (ret := q.2.2.1) m6 rfl ?_
    intro p e s m args below meth c s₁ B hml hv
    obtain ⟨rfl, hR, hK, hE⟩ := hv
    have hts := atoms_spec (ws := Jvm.Cond.code q.1 (am_by q) q.2.1 q.2.2.1 :: am_T) B.pre
    have hown2 : s.vm.findClass (am_own q.2.2.2.1) = some m.cls := by rw [← hown]; exact findClass_of_methodNamed B.named
    have hnm : meth.name = q.1.name := (name_of_methodNamed B.named B.method).1
    have hlocks := B.notSynchronized
    have hret := B.returns
    have C : am_C p (am_rmd (d + 1) (h2.length - h.length) (am_sz h2 - am_sz h)) m c (am_by q) q.2.1 (am_own q.2.2.2.1) s (As.map (am_mv b ad)).toArray D meth q.1.name ad :=
      ⟨B.exec, B.bytes, hml, hown2, fun w hw => hts w (List.mem_cons_of_mem _ hw), hK, hnm, by rw [am_rmd_f]; omega, by rw [am_rmd_l]; omega, hE⟩
    have hl := lv_entry (As.map (am_mv b ad)) (n := q.2.1) (by rw [am_lsl]; exact e4)
    rw [lg_entry_eq]
    rw [am_largs] at hl
    have hrm2 : am_rm (am_rmd (d + 1) (h2.length - h.length) (am_sz h2 - am_sz h)) h.length (am_sz h) h2 := ⟨by show h2.length ≤ h.length + (h2.length - h.length); omega, by show am_sz h2 ≤ am_sz h + (am_sz h2 - am_sz h); omega⟩
    refine am_sim (e := e) (l := l) (below := below) (Q := MQ below (am_Qc sc D b ad v h2) (As.map (am_mv b ad)).toArray s (h2.length - h.length) (am_sz h2 - am_sz h) (fun q => b ≤ q)) (b := b) (n0 := h.length) (z0 := am_sz h) C (ini := am_mk q == 2) (fun z => (m10 (beq_iff_eq.mp z)).1) (ok := am_okc q.2.2.2.1) (starts := starts) (hds := []) hlk (am_le_ca d) (fun _ _ _ _ _ z => z.elim) (fun r hh (z : r = v ∧ hh = h2) => by rw [z.2]; exact hrm2) (fun _ _ z => z.elim) ?_ ?_ ?_ ?_ ?_ n 0 0 (lv_args 0 As) [] h g hs0 _ s.heap [] 0 0 hl hR va_S.rf (Nat.zero_add _) (Nat.zero_add _)
    · intro pc y2 n2 ci lv st h3 h4 v2 hd ok w1 w2 w3 hca hle2 hrm3 k
      have hq2 : ∃ q2, am_mds[y2]? = some q2 := by
        cases d with
        | zero => exact hca.elim
        | succ d =>
          obtain ⟨q2, _, _, hq2, -⟩ := hca
          exact ⟨q2, hq2⟩
      obtain ⟨q2, hq2⟩ := hq2
      obtain ⟨hk2, hk4, hM⟩ := am_met hcds l d y2 _ _ _ _ q2 hca hq2
      exact am_call C hq2 hk2 hk4 hd ok w1 w2 w3 hM (by rw [am_rmd_f]; omega) (by rw [am_rmd_l]; omega) hle2 hrm3 k
    · intro _ _ _ _ _ _ _ _ _ _ _ _ _ _ _ _ _ z
      exact z.elim
    · intro bi x b2 z
      cases z
    · intro pc t lv st hf r hd hr hfin
      obtain ⟨rfl, rfl⟩ := hfin
      intro ls H locs cl sl y1 y2 y3 y4 y5
      have z1 : cl = hf.length - h.length := by omega
      have z2 : sl = am_sz hf - am_sz h := by omega
      subst z1; subst z2
      have hqc : ∀ (t : State), t.heap = H → s.WarmedH t.vm → am_Qc sc D b ad r hf (As.map (am_mv b ad)).toArray s (.returned (r.map (am_mv b ad))) t := fun t ht hW => ⟨rfl, by rw [ht]; exact y2.moved hW.alike, y3.F ht⟩
      exact am_wret C.1 C.2.1 hret e3 hd hr hqc y3.2.2 hlocks
    · intro _ _ _ _ _ _ _ _ _ _ _ z
      exact z.elim
