variable {sc : List Int32}
/-! RUNS BY HAND: a block, a step -/
theorem fv_tm_mono {C : am_Rl} {CT : am_Rt} {hds : List (Nat × Nat × Nat)} {nx nx2 : Nat → am_V → List Value → am_H → Prop} {fin : Option Value → am_H → Prop} {thr : Nat → am_H → Prop} (hn : ∀ b lv st h, nx b lv st h → nx2 b lv st h) {t : Instr} {bi : Nat} {lv : am_V} {st : List Value} {h : am_H} (g : am_tm C CT hds nx fin thr t bi lv st h) : am_tm C CT hds nx2 fin thr t bi lv st h := by
  unfold am_tm at g ⊢
  split at g
  · exact hn _ _ _ _ g
  · exact hn _ _ _ _ g
  · split at g
    · exact ⟨fun z => hn _ _ _ _ (g.1 z), fun z => hn _ _ _ _ (g.2 z)⟩
    · exact g.elim
  · split at g
    · exact ⟨fun z => hn _ _ _ _ (g.1 z), fun z => hn _ _ _ _ (g.2 z)⟩
    · exact g.elim
  · split at g
    · exact ⟨g.1, fun z => hn _ _ _ _ (g.2.1 z), fun z => hn _ _ _ _ (g.2.2 z)⟩
    · exact g.elim
  · exact ⟨hn _ _ _ _ g.1, hn _ _ _ _ g.2⟩
  · split at g
    · exact hn _ _ _ _ g
    · exact hn _ _ _ _ g
    · exact g.elim
  · split at g
    · exact hn _ _ _ _ g
    · exact hn _ _ _ _ g
    · exact g.elim
  · split at g
    · exact hn _ _ _ _ g
    · exact g.elim
  · split at g
    · exact hn _ _ _ _ g
    · exact g.elim
  · obtain ⟨w1, w2, w3, g⟩ := g
    refine ⟨w1, w2, w3, ?_⟩
    rcases g with ⟨v, h2, g1, g2⟩ | ⟨x, h2, b2, g1, g2, g3⟩
    · exact Or.inl ⟨v, h2, g1, hn _ _ _ _ g2⟩
    · exact Or.inr ⟨x, h2, b2, g1, g2, hn _ _ _ _ g3⟩
  · exact g
  · exact g
theorem fv_go_mono {C : am_Rl} {CT : am_Rt} {code : List (List Instr × Instr)} {hds : List (Nat × Nat × Nat)} {fin : Option Value → am_H → Prop} {thr : Nat → am_H → Prop} : ∀ {k bi : Nat} {lv : am_V} {st : List Value} {h : am_H}, am_go sc C CT code hds fin thr k bi lv st h → am_go sc C CT code hds fin thr (k + 1) bi lv st h
  | 0, _, _, _, _, g => g.elim
  | k + 1, bi, lv, st, h, g => by
    unfold am_go at g ⊢
    split at g
    · rename_i q hq
      split at g
      · rename_i x hx
        exact fv_tm_mono (fun _ _ _ _ z => fv_go_mono z) g
      · exact g.elim
    · exact g.elim
theorem fv_go_le {C : am_Rl} {CT : am_Rt} {code : List (List Instr × Instr)} {hds : List (Nat × Nat × Nat)} {fin : Option Value → am_H → Prop} {thr : Nat → am_H → Prop} {k j bi : Nat} {lv : am_V} {st : List Value} {h : am_H} (g : am_go sc C CT code hds fin thr k bi lv st h) (hk : k ≤ j) : am_go sc C CT code hds fin thr j bi lv st h := by
  induction hk with
  | refl => exact g
  | step _ ih => exact fv_go_mono ih
def fv_G (sc : List Int32) (C : am_Rl) (CT : am_Rt) (code : List (List Instr × Instr)) (hds : List (Nat × Nat × Nat)) (fin : Option Value → am_H → Prop) (thr : Nat → am_H → Prop) (bi : Nat) (lv : am_V) (st : List Value) (h : am_H) : Prop := ∃ k, am_go sc C CT code hds fin thr k bi lv st h
section FVG
variable {C : am_Rl} {CT : am_Rt} {code : List (List Instr × Instr)} {hds : List (Nat × Nat × Nat)} {fin : Option Value → am_H → Prop} {thr : Nat → am_H → Prop} {bi : Nat} {lv lv2 : am_V} {st st2 : List Value} {h h2 : am_H} {is : List Instr}
theorem fv_g_run {t : Instr} (hq : code[bi]? = some (is, t)) (hb : am_bk sc is lv st h = some (lv2, st2, h2)) (ht : am_tm C CT hds (fv_G sc C CT code hds fin thr) fin thr t bi lv2 st2 h2) : fv_G sc C CT code hds fin thr bi lv st h := by
  have key : ∃ k, am_tm C CT hds (am_go sc C CT code hds fin thr k) fin thr t bi lv2 st2 h2 := by
    unfold am_tm at ht
    split at ht
    · obtain ⟨k, g⟩ := ht
      exact ⟨k, g⟩
    · obtain ⟨k, g⟩ := ht
      exact ⟨k, g⟩
    · rename_i c o
      split at ht
      · rename_i x r
        by_cases hc : am_cnd c x 0
        · obtain ⟨k, g⟩ := ht.1 hc
          exact ⟨k, fun _ => g, fun z => absurd hc z⟩
        · obtain ⟨k, g⟩ := ht.2 hc
          exact ⟨k, fun z => absurd z hc, fun _ => g⟩
      · exact ht.elim
    · rename_i c o
      split at ht
      · rename_i y x r
        by_cases hc : am_cnd c x y
        · obtain ⟨k, g⟩ := ht.1 hc
          exact ⟨k, fun _ => g, fun z => absurd hc z⟩
        · obtain ⟨k, g⟩ := ht.2 hc
          exact ⟨k, fun z => absurd z hc, fun _ => g⟩
      · exact ht.elim
    · rename_i c o
      split at ht
      · cases c with
        | eq =>
          obtain ⟨k, g⟩ := ht.2.1 rfl
          exact ⟨k, ht.1, fun _ => g, (fun z => by cases z)⟩
        | ne =>
          obtain ⟨k, g⟩ := ht.2.2 rfl
          exact ⟨k, ht.1, (fun z => by cases z), fun _ => g⟩
      · exact ht.elim
    · obtain ⟨⟨k, g⟩, ⟨j, f⟩⟩ := ht
      exact ⟨max k j, fv_go_le g (Nat.le_max_left _ _), fv_go_le f (Nat.le_max_right _ _)⟩
    · split at ht
      · obtain ⟨k, g⟩ := ht
        exact ⟨k, g⟩
      · obtain ⟨k, g⟩ := ht
        exact ⟨k, g⟩
      · exact ht.elim
    · split at ht
      · obtain ⟨k, g⟩ := ht
        exact ⟨k, g⟩
      · obtain ⟨k, g⟩ := ht
        exact ⟨k, g⟩
      · exact ht.elim
    · split at ht
      · obtain ⟨k, g⟩ := ht
        exact ⟨k, g⟩
      · exact ht.elim
    · split at ht
      · obtain ⟨k, g⟩ := ht
        exact ⟨k, g⟩
      · exact ht.elim
    · obtain ⟨w1, w2, w3, ht⟩ := ht
      rcases ht with ⟨v, h3, g1, k, g2⟩ | ⟨x, h3, b2, g1, g2, k, g3⟩
      · exact ⟨k, w1, w2, w3, Or.inl ⟨v, h3, g1, g2⟩⟩
      · exact ⟨k, w1, w2, w3, Or.inr ⟨x, h3, b2, g1, g2, g3⟩⟩
    · rename_i x i
      refine ⟨0, ?_⟩
      exact ht
    · refine ⟨0, ?_⟩
      unfold am_tm
      split <;> first
        | exact ht
        | (exfalso; simp_all; done)
        | (exfalso; simp_all; rename_i hx; exact hx _ _ _ _ rfl rfl rfl rfl)
        | (exfalso; simp_all; rename_i hx; exact hx _ _ rfl rfl)
        | (exfalso; simp_all; rename_i hx; exact hx _ rfl)
  obtain ⟨k, g⟩ := key
  refine ⟨k + 1, ?_⟩
  unfold am_go
  rw [hq]
  simp only [hb]
  exact g
theorem fv_g_nop (hq : code[bi]? = some (is, .nop)) (hb : am_bk sc is lv st h = some (lv2, st2, h2)) (k : fv_G sc C CT code hds fin thr (bi + 1) lv2 st2 h2) : fv_G sc C CT code hds fin thr bi lv st h := fv_g_run hq hb k
theorem fv_g_goto {o : Int} (hq : code[bi]? = some (is, .goto o)) (hb : am_bk sc is lv st h = some (lv2, st2, h2)) (k : fv_G sc C CT code hds fin thr o.toNat lv2 st2 h2) : fv_G sc C CT code hds fin thr bi lv st h := fv_g_run hq hb k
theorem fv_g_ifT {c : ClassFile.Cond} {o : Int} {x : Int32} (hq : code[bi]? = some (is, .ifCond c o)) (hb : am_bk sc is lv st h = some (lv2, .int x :: st2, h2)) (hc : am_cnd c x 0) (k : fv_G sc C CT code hds fin thr o.toNat lv2 st2 h2) : fv_G sc C CT code hds fin thr bi lv st h := fv_g_run hq hb ⟨fun _ => k, fun z => absurd hc z⟩
theorem fv_g_ifF {c : ClassFile.Cond} {o : Int} {x : Int32} (hq : code[bi]? = some (is, .ifCond c o)) (hb : am_bk sc is lv st h = some (lv2, .int x :: st2, h2)) (hc : ¬ am_cnd c x 0) (k : fv_G sc C CT code hds fin thr (bi + 1) lv2 st2 h2) : fv_G sc C CT code hds fin thr bi lv st h := fv_g_run hq hb ⟨fun z => absurd z hc, fun _ => k⟩
theorem fv_g_icT {c : ClassFile.Cond} {o : Int} {x y : Int32} (hq : code[bi]? = some (is, .if_icmp c o)) (hb : am_bk sc is lv st h = some (lv2, .int y :: .int x :: st2, h2)) (hc : am_cnd c x y) (k : fv_G sc C CT code hds fin thr o.toNat lv2 st2 h2) : fv_G sc C CT code hds fin thr bi lv st h := fv_g_run hq hb ⟨fun _ => k, fun z => absurd hc z⟩
theorem fv_g_icF {c : ClassFile.Cond} {o : Int} {x y : Int32} (hq : code[bi]? = some (is, .if_icmp c o)) (hb : am_bk sc is lv st h = some (lv2, .int y :: .int x :: st2, h2)) (hc : ¬ am_cnd c x y) (k : fv_G sc C CT code hds fin thr (bi + 1) lv2 st2 h2) : fv_G sc C CT code hds fin thr bi lv st h := fv_g_run hq hb ⟨fun z => absurd z hc, fun _ => k⟩
theorem fv_g_call {y n : Nat} {v : Option Value} {h3 : am_H} (hq : code[bi]? = some (is, .invokeinterface y n)) (hb : am_bk sc is lv st h = some (lv2, st2, h2)) (w1 : n % 64 ≤ st2.length) (w2 : am_cs (st2.drop (n % 64)) ≤ 8) (w3 : n / 64 = 0 ∨ am_rcv (n / 64) (st2.take (n % 64)).reverse h2 = true) (hC : C y (st2.take (n % 64)).reverse h2 v h3) (k : fv_G sc C CT code hds fin thr (bi + 1) lv2 (v.toList ++ st2.drop (n % 64)) h3) : fv_G sc C CT code hds fin thr bi lv st h := fv_g_run hq hb ⟨w1, w2, w3, Or.inl ⟨v, h3, hC, k⟩⟩
theorem fv_g_iret {x : Int32} (hq : code[bi]? = some (is, .ireturn)) (hb : am_bk sc is lv st h = some (lv2, [.int x], h2)) (hf : fin (some (.int x)) h2) : fv_G sc C CT code hds fin thr bi lv st h := fv_g_run hq hb hf
theorem fv_g_ret (hq : code[bi]? = some (is, .return_)) (hb : am_bk sc is lv st h = some (lv2, [], h2)) (hf : fin none h2) : fv_G sc C CT code hds fin thr bi lv st h := fv_g_run hq hb hf
/-- locals -/
theorem fv_ld_s1 {i : Nat} {v : Value} : am_ld (am_s1 lv i v) i = some v := by simp [am_s1, am_ld]
theorem fv_ld_s1n {i j : Nat} {v w : Value} (hj : ¬ j = i) (hl : am_ld lv j = some w) (hc : ¬ j + 1 = i ∨ w.category = 1) : am_ld (am_s1 lv i v) j = some w := by
  unfold am_s1 am_ld
  rw [if_neg (fun z => hj z.symm)]
  refine fv_ld_filter hl ?_
  have h1 : (j == i) = false := by simp [hj]
  show (!(j == i) && !(j + 1 == i && w.category == 2)) = true
  rw [h1]
  rcases hc with hc | hc
  · simp [hc]
  · rw [hc]
    simp
end FVG
/-- a method's contract, out of its run -/
theorem fv_ca_in {cds : List am_Cd} {ms : am_Ms} (hms : am_msok cds ms) {y mx d : Nat} {ty : Option FieldType} {code : List (List Instr × Instr)} {As : List Value} {h h2 : am_H} {v : Option Value} (hy : am_fm ms y = some (mx, ty, code)) (ht : am_tyok ty v = true) (hc : am_cs As ≤ mx) (g : fv_G sc (am_ca sc cds d) am_noT code [] (fun r hh => r = v ∧ hh = h2) (fun _ _ => False) 0 (lv_args 0 As) [] h) : am_ca sc cds (d + 1) y As h v h2 := by
  obtain ⟨q, starts, q1, q2, q3, q4, q5⟩ := hms _ (am_fm_in hy)
  simp only at q1 q3 q4 q5
  exact ⟨q, code, starts, q1, q2, q3, by rw [q5]; exact ht, by rw [q4]; exact hc, g⟩
theorem fv_533 {cds : List am_Cd} (hms : am_msok cds am_ms) (d a b : Nat) (h : am_H) (hab : a < b) (hb : b < 2147483648) : am_ca sc cds (d + 2) 533 [.int (Int32.ofNat a), .int (Int32.ofNat b)] h none h := by
  have h513 : ∀ w : Value, (w = .null ∨ w = .retAddr 4000) → am_ca sc cds (d + 1) 513 [.int (Int32.ofNat a), .int (Int32.ofNat b), w] h (some (.int (Int32.ofNat a))) h := by
    intro w hw
    have hlt : Int32.ofNat a < Int32.ofNat b := by
      rw [← fv_of_lt_iff, fv_of_nat, fv_of_nat]
      omega
    have hge : ¬ Int32.ofNat a < 0 := by
      rw [← fv_of_lt_iff, fv_of_nat, show fv_of 0 = 2147483648 from rfl]
      omega
    have hlv : lv_args 0 [.int (Int32.ofNat a), .int (Int32.ofNat b), w] = [(0, .int (Int32.ofNat a)), (1, .int (Int32.ofNat b)), (2, w)] := by
      rcases hw with rfl | rfl <;> rfl
    have hcs : am_cs [.int (Int32.ofNat a), .int (Int32.ofNat b), w] ≤ 3 := by
      rcases hw with rfl | rfl <;> exact Nat.le_refl 3
    refine fv_ca_in hms (mx := 3) (ty := some .int) (code := am_k513) rfl rfl hcs ?_
    rw [hlv]
    refine fv_g_ifF (c := .lt) (o := 2) rfl rfl hge ?_
    refine fv_g_icT (c := .lt) (o := 4) rfl rfl hlt ?_
    exact fv_g_iret rfl rfl ⟨rfl, rfl⟩
  refine fv_ca_in hms (mx := 2) (ty := none) (code := am_k533) rfl rfl (Nat.le_refl 2) ?_
  refine fv_g_run (is := [.iload 0, .iload 1]) (t := .getstatic 2) rfl rfl ⟨?_, ?_⟩
  · refine fv_g_call (y := 513) (n := 3) rfl rfl (Nat.le_refl 3) (Nat.zero_le 8) (Or.inl rfl) (h513 .null (Or.inl rfl)) ?_
    exact fv_g_ret rfl rfl ⟨rfl, rfl⟩
  · refine fv_g_call (y := 513) (n := 3) rfl rfl (Nat.le_refl 3) (Nat.zero_le 8) (Or.inl rfl) (h513 (.retAddr 4000) (Or.inr rfl)) ?_
    exact fv_g_ret rfl rfl ⟨rfl, rfl⟩
