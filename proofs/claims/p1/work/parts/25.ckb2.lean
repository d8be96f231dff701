/-! THE CODE stands for the bytes, by program: the long constructor -/
def am_q244 : am_M := (yX20_init, 1, none, 20, 2, 0, 2633, 2632, 237, 0)
theorem am_q244_ok : am_mds[244]? = some am_q244 := rfl
theorem am_lk_app {cn nL : Nat} {ini : Bool} {cc : ByteArray} : ∀ {a b : List Instr} {pc p1 : Nat}, am_lk cn nL ini cc pc a = some p1 → am_lk cn nL ini cc pc (a ++ b) = am_lk cn nL ini cc p1 b
  | [], b, pc, p1, h => by
    unfold am_lk at h
    cases h
    rfl
  | x :: r, b, pc, p1, h => by
    rw [List.cons_append]
    unfold am_lk at h ⊢
    split at h
    · rename_i q hq
      split at h
      · rename_i hr
        simp only [hr, if_true]
        exact am_lk_app h
      · cases h
    · cases h
theorem am_lk244_0 : am_lk 20 1 true (am_by am_q244) 38 am_k244_0 = some 272 := by decide +kernel
theorem am_lk244_1 : am_lk 20 1 true (am_by am_q244) 272 am_k244_1 = some 498 := by decide +kernel
theorem am_lk244_2 : am_lk 20 1 true (am_by am_q244) 498 am_k244_2 = some 722 := by decide +kernel
theorem am_lk244_3 : am_lk 20 1 true (am_by am_q244) 722 am_k244_3 = some 956 := by decide +kernel
theorem am_lk244_4 : am_lk 20 1 true (am_by am_q244) 956 am_k244_4 = some 1217 := by decide +kernel
theorem am_lk244_5 : am_lk 20 1 true (am_by am_q244) 1217 am_k244_5 = some 1481 := by decide +kernel
theorem am_lk244_6 : am_lk 20 1 true (am_by am_q244) 1481 am_k244_6 = some 1742 := by decide +kernel
theorem am_lk244_7 : am_lk 20 1 true (am_by am_q244) 1742 am_k244_7 = some 2006 := by decide +kernel
theorem am_lk244_8 : am_lk 20 1 true (am_by am_q244) 2006 am_k244_8 = some 2267 := by decide +kernel
theorem am_lk244_9 : am_lk 20 1 true (am_by am_q244) 2267 am_k244_9 = some 2531 := by decide +kernel
theorem am_lk244_10 : am_lk 20 1 true (am_by am_q244) 2531 am_k244_10 = some 2792 := by decide +kernel
theorem am_lk244_11 : am_lk 20 1 true (am_by am_q244) 2792 am_k244_11 = some 3056 := by decide +kernel
theorem am_lk244_12 : am_lk 20 1 true (am_by am_q244) 3056 am_k244_12 = some 3317 := by decide +kernel
theorem am_lk244_13 : am_lk 20 1 true (am_by am_q244) 3317 am_k244_13 = some 3581 := by decide +kernel
theorem am_lk244_14 : am_lk 20 1 true (am_by am_q244) 3581 am_k244_14 = some 3829 := by decide +kernel
theorem am_lk244_15 : am_lk 20 1 true (am_by am_q244) 3829 am_k244_15 = some 4088 := by decide +kernel
theorem am_lk244_16 : am_lk 20 1 true (am_by am_q244) 4088 am_k244_16 = some 4390 := by decide +kernel
theorem am_lk244_17 : am_lk 20 1 true (am_by am_q244) 4390 am_k244_17 = some 4518 := by decide +kernel
theorem am_lk244 : am_lk 20 1 true (am_by am_q244) 38 (am_k244_0 ++ (am_k244_1 ++ (am_k244_2 ++ (am_k244_3 ++ (am_k244_4 ++ (am_k244_5 ++ (am_k244_6 ++ (am_k244_7 ++ (am_k244_8 ++ (am_k244_9 ++ (am_k244_10 ++ (am_k244_11 ++ (am_k244_12 ++ (am_k244_13 ++ (am_k244_14 ++ (am_k244_15 ++ (am_k244_16 ++ (am_k244_17)))))))))))))))))) = some 4518 := by
  rw [am_lk_app am_lk244_0]
  rw [am_lk_app am_lk244_1]
  rw [am_lk_app am_lk244_2]
  rw [am_lk_app am_lk244_3]
  rw [am_lk_app am_lk244_4]
  rw [am_lk_app am_lk244_5]
  rw [am_lk_app am_lk244_6]
  rw [am_lk_app am_lk244_7]
  rw [am_lk_app am_lk244_8]
  rw [am_lk_app am_lk244_9]
  rw [am_lk_app am_lk244_10]
  rw [am_lk_app am_lk244_11]
  rw [am_lk_app am_lk244_12]
  rw [am_lk_app am_lk244_13]
  rw [am_lk_app am_lk244_14]
  rw [am_lk_app am_lk244_15]
  rw [am_lk_app am_lk244_16]
  exact am_lk244_17
theorem am_lb244a : (match am_p244[0]? with | some pc => match am_lk 20 1 true (am_by am_q244) pc [.aload 0, .invokedynamic 0, .aload 0, .iconst 1, .putfield 3074, .aload 0, .iconst 400, .newarray .int, .putfield 3075, .aload 0, .iconst 5, .anewarray 219, .dup, .iconst 0, .new 19, .dup, .iconst 600, .iconst 500] with | some pe => am_lt 20 (am_okc 20) (am_by am_q244) am_p244 (.invokeinterface 229 1219) 0 pe | none => false | none => false) = true := by decide +kernel
theorem am_lt244b : am_lt 20 (am_okc 20) (am_by am_q244) am_p244 .return_ 1 4518 = true := by decide +kernel
theorem am_lb244 : am_lb 20 1 true (am_okc 20) (am_by am_q244) am_p244 0 am_k244 = true := by
  unfold am_k244 am_lb
  rw [am_lb244a, Bool.true_and]
  unfold am_lb
  have e : am_p244[1]? = some 38 := rfl
  simp only [e, am_lk244, am_lt244b, Bool.true_and]
  rfl
theorem am_ckL_5 : am_cds_5.all am_ckL = true := by
  have h : am_ckL (244, am_k244, am_p244, []) = true := by
    unfold am_ckL
    simp only [am_q244_ok]
    have h1 : (am_mk am_q244 != 9) = true := rfl
    have h2 : decide (am_q244.1.cls = am_own am_q244.2.2.2.1) = true := by decide +kernel
    have h3 : decide (am_p244[0]? = some 0) = true := rfl
    rw [h1, h2, h3]
    exact am_lb244
  unfold am_cds_5
  simp only [List.all_cons, List.all_nil, h, Bool.true_and]
