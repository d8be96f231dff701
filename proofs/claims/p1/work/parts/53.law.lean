variable {sc : List Int32}
/-! THE LAW, from its entry to its end -/
theorem am_no8 : (am_tb 21).all (fun q => q.2.1 != 8) = true := by decide +kernel
theorem am_lb_app {cn nL : Nat} {ini : Bool} {ok : Instr → Nat → Nat → Bool} {cc : ByteArray} {starts : List Nat} : ∀ {a b : List (List Instr × Instr)} {bi : Nat}, am_lb cn nL ini ok cc starts bi a = true → am_lb cn nL ini ok cc starts (bi + a.length) b = true → am_lb cn nL ini ok cc starts bi (a ++ b) = true
  | [], b, bi, _, h => h
  | x :: r, b, bi, h1, h2 => by
    unfold am_lb at h1
    rw [Bool.and_eq_true] at h1
    rw [List.cons_append]
    unfold am_lb
    rw [Bool.and_eq_true]
    refine ⟨h1.1, am_lb_app h1.2 ?_⟩
    rw [show bi + 1 + r.length = bi + (x :: r).length by rw [List.length_cons]; omega]
    exact h2
theorem am_lbL : am_lb 21 9 false (am_okc 21) code am_pL 0 am_kL = true := by
  unfold am_kL
  refine am_lb_app am_lbL_0 ?_
  rw [show 0 + am_kL_0.length = 40 by decide +kernel]
  refine am_lb_app am_lbL_1 ?_
  rw [show 40 + am_kL_1.length = 80 by decide +kernel]
  refine am_lb_app am_lbL_2 ?_
  rw [show 80 + am_kL_2.length = 120 by decide +kernel]
  refine am_lb_app am_lbL_3 ?_
  rw [show 120 + am_kL_3.length = 160 by decide +kernel]
  refine am_lb_app am_lbL_4 ?_
  rw [show 160 + am_kL_4.length = 200 by decide +kernel]
  refine am_lb_app am_lbL_5 ?_
  rw [show 200 + am_kL_5.length = 240 by decide +kernel]
  refine am_lb_app am_lbL_6 ?_
  rw [show 240 + am_kL_6.length = 280 by decide +kernel]
  refine am_lb_app am_lbL_7 ?_
  rw [show 280 + am_kL_7.length = 320 by decide +kernel]
  exact am_lbL_8
section AMK
variable {p : Program} {l : Launch} {e : Env} {R : Room} {s : State} {m : MethodId} {args : Array Value} {below : List Frame} {meth : Method} {c : Code} {Q : State → Prop}
variable {cc : ByteArray} {nL n0 z0 b pc : Nat} {yn : String} {ad : Nat → Nat} {D : va_G} {h h2 : am_H} {v : Option Value}
set_option maxRecDepth 8192 in
/-- a call of a wrapper, by the law -/
theorem am_callWr (C : am_C p R m c cc nL (am_own 21) s args D meth yn ad) {d y n : Nat} {q : am_M} {ci : Instr} {lv : am_V} {st : List Value} (hq : am_mds[y]? = some q) (hk3 : am_mk q = 3) (hd : decode cc pc = .ok (ci, 3)) (ok : am_okc 21 ci y n = true) (w1 : n % 64 ≤ st.length) (w2 : am_cs (st.drop (n % 64)) ≤ 8)
    (hM : ∀ (D : va_G) (b : Nat) (ad : Nat → Nat), Met l q.1 (Jvm.Cond.codeWith q.1 (am_by q) q.2.1 q.2.2.1 (am_hh q) :: am_T) (am_rmd (d + 2) (h2.length - h.length) (am_sz h2 - am_sz h)) (am_Pc sc D b ad (st.take (n % 64)).reverse h) (am_Qc sc D b ad v h2) (h2.length - h.length) (am_sz h2 - am_sz h) (fun q => b ≤ q))
    (hRf : d + 11 ≤ R.frames) (hRl : 80 * (d + 3) + 300 ≤ R.locals) (hle : am_le h h2) (hrm : am_rm R n0 z0 h2)
    (k : am_W sc p l e R s m args below meth c D b ad nL n0 z0 Q (pc + 3) lv (v.toList ++ st.drop (n % 64)) h2) : am_W sc p l e R s m args below meth c D b ad nL n0 z0 Q pc lv st h := by
  intro ls H locs cl sl h1 hR h3 h4 h5
  obtain ⟨m1, m2, m4, m6, m7, m8, m9⟩ := am_mwW hq hk3
  have hts := C.2.2.2.2.1
  obtain ⟨r1, r2⟩ := hrm
  obtain ⟨l1, l2⟩ := hle
  have hrm1 : cl + (h2.length - h.length) ≤ R.cells ∧ sl + (am_sz h2 - am_sz h) ≤ R.slots := ⟨by omega, by omega⟩
  have hroom : (am_rmd (d + 2) (h2.length - h.length) (am_sz h2 - am_sz h)).frames + 1 ≤ R.frames ∧ 8 + (q.2.1 + 11) + (am_rmd (d + 2) (h2.length - h.length) (am_sz h2 - am_sz h)).locals ≤ R.locals := ⟨by rw [am_rmd_f]; omega, by rw [am_rmd_l]; omega⟩
  have hW8 : 2 * (F0 m pc ls (st.map (am_mv b ad))).monitorRoom + (((st.drop (n % 64)).map (am_mv b ad)).map fun v => v.category).sum ≤ 8 := by rw [am_cs_mv]; show 2 * 0 + _ ≤ 8; omega
  have fin : ∀ {As : List Value}, va_Run p l e R s m args below meth c H locs cl sl (h2.length - h.length) (am_sz h2 - am_sz h) (F0 m pc ls (st.map (am_mv b ad))) ((st.drop (n % 64)).map (am_mv b ad)) (am_Qc sc D b ad v h2 As.toArray) (fun q => b ≤ q) → W p l e R s m args below meth c H locs cl sl Q (F0 m pc ls (st.map (am_mv b ad))) := by
    intro As hr
    refine am_callW hr h3 fun H1 locs1 y1 y2 => ?_
    rw [am_vst]
    exact k ls H1 locs1 _ _ h1 y1 y2 (by omega) (by omega)
  have hall : ∀ w ∈ (Jvm.Cond.codeWith q.1 (am_by q) q.2.1 q.2.2.1 (am_hh q) :: am_T), w ∈ am_T := fun w hw => (List.mem_cons.mp hw).elim (fun z => z ▸ m1) id
  have hlen : ((st.take (n % 64)).reverse.map (am_mv b ad)).length = n % 64 := by rw [List.length_map, List.length_reverse, List.length_take, Nat.min_eq_left w1]
  unfold am_okc at ok
  split at ok
  · rename_i i
    simp only [Bool.or_eq_true, Bool.and_eq_true, beq_iff_eq, hq] at ok
    obtain ⟨⟨ok1, ok2⟩, ok3⟩ := ok
    rcases ok1 with ok1 | ok1
    · have hG : GoodIn am_T (va_wsS (am_own 21) i q.1 (Jvm.Cond.codeWith q.1 (am_by q) q.2.1 q.2.2.1 (am_hh q) :: am_T)) := am_good (fun _ z => z) fun w hw => by
        rcases List.mem_append.mp hw with hw | hw
        · simp only [List.mem_cons, List.not_mem_nil, or_false] at hw
          rcases hw with rfl | rfl | rfl
          · exact am_en7 ok1 hq
          · exact m2
          · exact m4
        · exact hall w hw
      exact fin (vx_runSW ⟨C.1, C.2.1, C.2.2.1, C.2.2.2.1, hts⟩ (hM D b ad) (vx_cwSW (am_mn q) hts hG rfl rfl rfl ⟨m7.1, m7.2, m8⟩ hroom) ⟨am_blind _ _ _ _ _, am_pre C hR⟩ rfl (hlen.trans ok3) h1.1 (am_stk st (n % 64)) hW8 hd hrm1)
    · obtain ⟨pl, hpl⟩ := am_en_in ok1
      have z := List.all_eq_true.mp am_no8 _ hpl
      exact absurd z Bool.false_ne_true
  · rename_i i
    simp only [Bool.and_eq_true, Bool.or_eq_true, beq_iff_eq, hq, decide_eq_true_eq] at ok
    omega
  · rename_i i
    simp only [Bool.and_eq_true, Bool.or_eq_true, beq_iff_eq, hq, decide_eq_true_eq] at ok
    omega
  · cases ok
end AMK
theorem am_le_CL (y : Nat) (As : List Value) (h : am_H) (v : Option Value) (h2 : am_H) (e : fv_CL sc am_cds 12 y As h v h2) : am_le h h2 := e.elim (am_le_cw 12 y As h v h2) (am_le_ca 14 y As h v h2)
theorem am_rt_one {t : Instr} {st : List Value} (h : am_rt t st = some (some (.int 1))) : t = .ireturn ∧ st = [.int 1] := by
  unfold am_rt at h
  split at h
  · cases h
    exact ⟨rfl, rfl⟩
  · cases h
  · cases h
  · cases h
  · split at h
    · rename_i v hv
      cases h
      cases hv
    · cases h
  · cases h
  · cases h
