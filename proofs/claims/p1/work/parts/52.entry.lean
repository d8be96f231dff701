/-! THE ENTRY: what the Statement gives of the start, in the machine's words -/
def am_all : List Cond := flatC (Jvm.Cond.and given_1 narrow_1)
def am_sv (o : String) (k : Nat) : Term := .field (.string o k) "java/lang/String" "value" "[B"
def am_sel (t : Term) : Nat → List Nat → List Cond
  | _, [] => []
  | j, b :: r => .eq (.elem t (.int (Int32.ofNat j))) (.int (nI b)) :: am_sel t (j + 1) r
def am_sgr (o : String) (k : Nat) (b : List Nat) : List Cond := .exactly (.string o k) "java/lang/String" :: .eq (.field (.string o k) "java/lang/String" "coder" "B") (.int 0) :: .arrayOf (am_sv o k) .byte :: .eq (.length (am_sv o k)) (.int (Int32.ofNat b.length)) :: am_sel (am_sv o k) 0 b
def am_grs : List (List Cond) := List.zipWith (fun q b => am_sgr q.1 q.2.1 b) am_strs am_txt
theorem am_grs_ok : (am_all.drop 582).take 2406 = am_grs.flatten := by decide +kernel
theorem am_sel_in {t : Term} : ∀ {b : List Nat} {j0 j : Nat}, j < b.length → Jvm.Cond.eq (.elem t (.int (Int32.ofNat (j0 + j)))) (.int (nI (b.getD j 0))) ∈ am_sel t j0 b
  | [], j0, j, h => absurd h (Nat.not_lt_zero _)
  | x :: r, j0, 0, h => List.mem_cons_self
  | x :: r, j0, j + 1, h => by
    have := am_sel_in (t := t) (b := r) (j0 := j0 + 1) (j := j) (by simpa using h)
    rw [show j0 + 1 + j = j0 + (j + 1) by omega] at this
    exact List.mem_cons_of_mem _ this
theorem am_sgr_in {i : Nat} (hi : i < 103) : ∃ (q : String × Nat × String × Nat) (b : List Nat), am_strs[i]? = some q ∧ am_txt[i]? = some b ∧ ∀ w ∈ am_sgr q.1 q.2.1 b, w ∈ am_all := by
  have h1 : i < am_strs.length := Nat.lt_of_lt_of_eq hi (by decide +kernel)
  have h2 : i < am_txt.length := Nat.lt_of_lt_of_eq hi (by decide +kernel)
  refine ⟨am_strs[i], am_txt[i], List.getElem?_eq_getElem h1, List.getElem?_eq_getElem h2, fun w hw => ?_⟩
  have h3 : am_sgr am_strs[i].1 am_strs[i].2.1 am_txt[i] ∈ am_grs := by
    unfold am_grs
    refine List.mem_of_getElem? (i := i) ?_
    rw [List.getElem?_zipWith, List.getElem?_eq_getElem h1, List.getElem?_eq_getElem h2]
    rfl
  have h4 : w ∈ am_grs.flatten := List.mem_flatten.mpr ⟨_, h3, hw⟩
  rw [← am_grs_ok] at h4
  exact List.mem_of_mem_drop (List.mem_of_mem_take h4)
theorem am_txt_small : am_txt.all (fun l => Nat.ble l.length 1000000) = true := by decide +kernel
theorem am_str {args : Array Value} {s : State} {A : Nat → Prop} (hg : (Jvm.Cond.and given_1 narrow_1).before args s = true) (hA : ∀ a : Nat, a < s.heap.size → ¬ A a) {i : Nat} (hi : i < 103) :
    ∃ a t : Nat, (∀ q, am_strs[i]? = some q → (Term.string q.1 q.2.1).eval args s none [] s = some (.ref a)) ∧ va_O "java/lang/String" a A s s.heap ∧ va_OF "java/lang/String" "coder" "B" (.int 0) a A s s.heap ∧ va_OF "java/lang/String" "value" "[B" (.ref t) a A s s.heap ∧ va_T .byte t (am_txt.getD i []).length (fun j => .int (nI ((am_txt.getD i []).getD j 0))) A s s.heap := by
  obtain ⟨q, b, h1, h2, h3⟩ := am_sgr_in hi
  have hf := flat_of_before _ hg
  have hw : ∀ w ∈ am_sgr q.1 q.2.1 b, w.before args s = true := fun w h => hf w (h3 w h)
  have hb : am_txt.getD i [] = b := by rw [List.getD_eq_getElem?_getD, h2]; rfl
  rw [hb]
  have e1 := hw (.exactly (.string q.1 q.2.1) "java/lang/String") List.mem_cons_self
  have e2 := hw (.eq (.field (.string q.1 q.2.1) "java/lang/String" "coder" "B") (.int 0)) (List.mem_cons_of_mem _ List.mem_cons_self)
  have e3 := hw (.arrayOf (am_sv q.1 q.2.1) .byte) (List.mem_cons_of_mem _ (List.mem_cons_of_mem _ List.mem_cons_self))
  have e4 := hw (.eq (.length (am_sv q.1 q.2.1)) (.int (Int32.ofNat b.length))) (List.mem_cons_of_mem _ (List.mem_cons_of_mem _ (List.mem_cons_of_mem _ List.mem_cons_self)))
  have e5 : ∀ j : Nat, j < b.length → (Cond.eq (.elem (am_sv q.1 q.2.1) (.int (Int32.ofNat j))) (.int (nI (b.getD j 0)))).before args s = true := fun j hj => by
    have z := am_sel_in (t := am_sv q.1 q.2.1) (j0 := 0) hj
    rw [Nat.zero_add] at z
    exact hw _ (List.mem_cons_of_mem _ (List.mem_cons_of_mem _ (List.mem_cons_of_mem _ (List.mem_cons_of_mem _ z))))
  obtain ⟨a, c, cA, kA, q1, q2, q3, q4, q5, q6, -⟩ := Cond.exactly_spec (args := args) (first := s) (o := none) (s := s) (idx := []) (t := .string q.1 q.2.1) (cls := "java/lang/String") e1
  have hlen : b.length < 2 ^ 31 := by
    have := Nat.le_of_ble_eq_true (List.all_eq_true.mp am_txt_small _ (List.mem_of_getElem? h2))
    omega
  obtain ⟨t, ht, hT⟩ := va_Tof (f := fun j => .int (nI (b.getD j 0))) (A := A) hlen e3 (va_eqt e4) (fun j hj => va_eqt (e5 j hj)) hA
  refine ⟨a, t, fun q' hq' => ?_, ⟨cA, q3, q5, by rw [q6]; exact q2, hA a (Array.getElem?_eq_some_iff.mp q3).1⟩, vk_OFof q1 (va_eqt e2) hA, vk_OFof q1 ht hA, hT⟩
  cases h1.symm.trans hq'
  exact q1
theorem am_words (P : Cond → Prop) (L : List Cond) (ps : List Nat) (hp : (L.map some) = ps.map (fun i => lw_tbl[i]?)) (h : ∀ w ∈ lw_tbl, P w) : ∀ w ∈ L, P w := by
  intro w hw
  have h1 : some w ∈ L.map some := List.mem_map.mpr ⟨w, hw, rfl⟩
  rw [hp] at h1
  obtain ⟨i, -, hi⟩ := List.mem_map.mp h1
  exact h w (List.mem_of_getElem? hi)
theorem am_e_str : (am_strs.map (fun q => Jvm.Cond.stringRef q.1 q.2.1 q.2.2.1)).map some = ([974, 1025, 1026, 1027, 1028, 1029, 1038, 1039, 1045, 1050, 1059, 1060, 1061, 1062, 1063, 1064, 1074, 1075, 1109, 1126, 1162, 1163, 1164, 1165, 1166, 1167, 1168, 1169, 1170, 1171, 1172, 1173, 1174, 1175, 1176, 1177, 1178, 1179, 1184, 1186, 1187, 1192, 1193, 1194, 1195, 1196, 1295, 1343, 1357, 1361, 1362, 1363, 1364, 1365, 1366, 1386, 1401, 1402, 1414, 1415, 1423, 1450, 1575, 1685, 1686, 1723, 1762, 2362, 2376, 2377, 2385, 2393, 2394, 2427, 2440, 2455, 2456, 2469, 2481, 2482, 2490, 2491, 2499, 2500, 2516, 2517, 2529, 2534, 2550, 2551, 2566, 2575, 2588, 2589, 2604, 2605, 2628, 3042, 3043, 3044, 3045, 3046, 3047] : List Nat).map (fun i => lw_tbl[i]?) := by decide +kernel
theorem am_e_ao : (am_aot.map (fun t => Jvm.Cond.arrayOver t)).map some = ([2649, 801, 329, 296, 552, 3776, 2709, 2636, 2643, 2712, 2647, 2645] : List Nat).map (fun i => lw_tbl[i]?) := by decide +kernel
theorem am_e_nf : (am_nf.map (fun q => Jvm.Cond.fieldLinkNest q.1 q.2.1 q.2.2.1 q.2.2.2.1 q.2.2.2.2.1 q.2.2.2.2.2)).map some = ([281, 282, 3447, 3449, 3766, 3768, 3769, 3779, 3781, 3783, 3785, 3787, 3789, 3791, 3793, 3795, 3797, 3798, 3799, 3801, 3802, 3803, 3804, 3806, 3808, 3809, 3810, 3811, 3813, 3815, 3817, 3819, 3820, 3822, 3823, 3824, 3825, 3826, 3827, 3828, 3829, 3830, 3831, 3832, 3833, 3835, 3836, 3838] : List Nat).map (fun i => lw_tbl[i]?) := by decide +kernel
theorem am_e_nm : (am_nm.map (fun q => Jvm.Cond.methodLinkNest q.1 q.2.1 q.2.2.1 q.2.2.2)).map some = ([298, 331, 475, 478, 675, 2201, 2213, 2252, 3136, 3163, 3242, 3761, 3943] : List Nat).map (fun i => lw_tbl[i]?) := by decide +kernel
theorem am_e_cst : (am_cst.map (fun q => Jvm.Cond.castable q.1 q.2)).map some = ([1255, 1336, 1379, 4257, 4265, 4242] : List Nat).map (fun i => lw_tbl[i]?) := by decide +kernel
theorem am_e_dcl : (am_dcl.map (fun y => Jvm.Cond.declares y)).map some = ([1257, 1259, 1261] : List Nat).map (fun i => lw_tbl[i]?) := by decide +kernel
theorem am_e_nct : (am_nct.map (fun q => Jvm.Cond.not (.castable q.1 q.2))).map some = ([260, 287, 233, 288, 234, 261] : List Nat).map (fun i => am_all[i]?) := by decide +kernel
theorem am_e_idx : am_strs.map (fun q => q.2.2.2) = List.range 103 := by decide +kernel
theorem am_entX {args : Array Value} {s : State} {sc : List Int32} {bs : Nat} (hts : ∀ w ∈ lw_tbl, w.before args s = true) (hg : (Jvm.Cond.and given_1 narrow_1).before args s = true) (hsc : va_T .int bs sc.length (fun j => .int (sc.getD j 0)) (fun q => s.heap.size ≤ q) s s.heap) :
    ∃ ad : Nat → Nat, ad 2000 = bs ∧ am_X sc s.heap.size ad s s.heap ∧ am_E ad s := by
  have hf := flat_of_before _ hg
  have hA : ∀ a : Nat, a < s.heap.size → ¬ s.heap.size ≤ a := fun a h z => by omega
  have h0 : ∀ i : Nat, ∃ q : Nat × Nat, i < 103 → (∀ z, am_strs[i]? = some z → (Term.string z.1 z.2.1).eval args s none [] s = some (.ref q.1)) ∧ va_O "java/lang/String" q.1 (fun q => s.heap.size ≤ q) s s.heap ∧ va_OF "java/lang/String" "coder" "B" (.int 0) q.1 (fun q => s.heap.size ≤ q) s s.heap ∧ va_OF "java/lang/String" "value" "[B" (.ref q.2) q.1 (fun q => s.heap.size ≤ q) s s.heap ∧ va_T .byte q.2 (am_txt.getD i []).length (fun j => .int (nI ((am_txt.getD i []).getD j 0))) (fun q => s.heap.size ≤ q) s s.heap := by
    intro i
    by_cases hi : i < 103
    · obtain ⟨a, t, h⟩ := am_str hg hA hi
      exact ⟨(a, t), fun _ => h⟩
    · exact ⟨(0, 0), fun h => absurd h hi⟩
  obtain ⟨st, hst⟩ := Classical.axiomOfChoice h0
  obtain ⟨te, hte, hTe⟩ := va_Tof (args := args) (s := s) (tm := .static "java/util/ArrayList" "DEFAULTCAPACITY_EMPTY_ELEMENTDATA" "[Ljava/lang/Object;") (ty := .object "java/lang/Object") (N := 0) (f := fun _ => .null) (A := fun q => s.heap.size ≤ q) (by decide) (hf _ (List.mem_of_getElem? (i := 5) (by decide +kernel : am_all[5]? = _))) (va_eqt (hf _ (List.mem_of_getElem? (i := 7) (by decide +kernel : am_all[7]? = _)))) (fun j hj => absurd hj (Nat.not_lt_zero _)) hA
  have hZe : va_Z "java/util/ArrayList" "DEFAULTCAPACITY_EMPTY_ELEMENTDATA" "[Ljava/lang/Object;" (.ref te) (fun q => s.heap.size ≤ q) s s.heap := va_Zof (hts _ (List.mem_of_getElem? (i := 461) (by decide +kernel))) (hts _ (List.mem_of_getElem? (i := 228) (by decide +kernel))) hte hA
  have hSI : va_Z "jdk/internal/util/Preconditions" "SIOOBE_FORMATTER" "Ljava/util/function/BiFunction;" .null (fun q => s.heap.size ≤ q) s s.heap ∨ ∃ t, va_Z "jdk/internal/util/Preconditions" "SIOOBE_FORMATTER" "Ljava/util/function/BiFunction;" (.ref t) (fun q => s.heap.size ≤ q) s s.heap := by
    have hi : (Cond.isRef (.static "jdk/internal/util/Preconditions" "SIOOBE_FORMATTER" "Ljava/util/function/BiFunction;")).before args s = true := (hf _ (List.mem_of_getElem? (i := 9) (by decide +kernel : am_all[9]? = _)))
    have hl : (Cond.laysStatic "jdk/internal/util/Preconditions" "SIOOBE_FORMATTER" "Ljava/util/function/BiFunction;").before args s = true := (hts _ (List.mem_of_getElem? (i := 1004) (by decide +kernel)))
    have hn : (Cond.initialized "jdk/internal/util/Preconditions").before args s = true := (hts _ (List.mem_of_getElem? (i := 246) (by decide +kernel)))
    cases hv : (Term.static "jdk/internal/util/Preconditions" "SIOOBE_FORMATTER" "Ljava/util/function/BiFunction;").eval args s none [] s with
    | none => simp [Cond.before, Cond.holds, Cond.value, hv] at hi
    | some v =>
      cases v with
      | null => exact Or.inl (va_Zof hl hn hv hA)
      | ref t => exact Or.inr ⟨t, va_Zof hl hn hv hA⟩
      | int x => simp [Cond.before, Cond.holds, Cond.value, hv, Value.isRef] at hi
      | long x => simp [Cond.before, Cond.holds, Cond.value, hv, Value.isRef] at hi
      | float x => simp [Cond.before, Cond.holds, Cond.value, hv, Value.isRef] at hi
      | double x => simp [Cond.before, Cond.holds, Cond.value, hv, Value.isRef] at hi
      | retAddr x => simp [Cond.before, Cond.holds, Cond.value, hv, Value.isRef] at hi
  obtain ⟨ts, hSI⟩ : ∃ ts : Nat, va_Z "jdk/internal/util/Preconditions" "SIOOBE_FORMATTER" "Ljava/util/function/BiFunction;" .null (fun q => s.heap.size ≤ q) s s.heap ∨ va_Z "jdk/internal/util/Preconditions" "SIOOBE_FORMATTER" "Ljava/util/function/BiFunction;" (.ref ts) (fun q => s.heap.size ≤ q) s s.heap := by
    rcases hSI with h | ⟨t, h⟩
    · exact ⟨0, Or.inl h⟩
    · exact ⟨t, Or.inr h⟩
  refine ⟨fun i => if i < 103 then (st i).1 else if i = 1000 then te else if i = 2000 then bs else if i = 4000 then ts else (st (i - 3000)).2, rfl, ⟨?_, ?_, ?_, ?_, ?_, ?_, ?_, ?_⟩, ⟨?_, ?_, ?_, ?_, ?_, ?_, ?_⟩⟩
  · exact vx_Zqof (hts _ (List.mem_of_getElem? (i := 1280) (by decide +kernel))) (hts _ (List.mem_of_getElem? (i := 239) (by decide +kernel))) (hf _ (List.mem_of_getElem? (i := 13) (by decide +kernel : am_all[13]? = _))) hA
  · exact vx_Zqof (hts _ (List.mem_of_getElem? (i := 1282) (by decide +kernel))) (hts _ (List.mem_of_getElem? (i := 239) (by decide +kernel))) (hf _ (List.mem_of_getElem? (i := 14) (by decide +kernel : am_all[14]? = _))) hA
  · exact va_Zof (hts _ (List.mem_of_getElem? (i := 988) (by decide +kernel))) (hts _ (List.mem_of_getElem? (i := 244) (by decide +kernel))) (va_eqi (hf _ (List.mem_of_getElem? (i := 8) (by decide +kernel : am_all[8]? = _)))) hA
  · exact hZe
  · exact hTe
  · exact hsc
  · exact hSI
  · intro i hi
    rw [fv_txt_len] at hi
    obtain ⟨-, g1, g2, g3, g4⟩ := hst i hi
    have e1 : (if i < 103 then (st i).1 else if i = 1000 then te else if i = 2000 then bs else if i = 4000 then ts else (st (i - 3000)).2) = (st i).1 := if_pos hi
    have e2 : (if 3000 + i < 103 then (st (3000 + i)).1 else if 3000 + i = 1000 then te else if 3000 + i = 2000 then bs else if 3000 + i = 4000 then ts else (st (3000 + i - 3000)).2) = (st i).2 := by
      rw [if_neg (by omega), if_neg (by omega), if_neg (by omega), if_neg (by omega), show 3000 + i - 3000 = i by omega]
    show va_O _ (if i < 103 then _ else _) _ _ _ ∧ va_OF _ _ _ _ (if i < 103 then _ else _) _ _ _ ∧ va_OF _ _ _ (.ref (if 3000 + i < 103 then _ else _)) (if i < 103 then _ else _) _ _ _ ∧ va_T _ (if 3000 + i < 103 then _ else _) _ _ _ _ _
    rw [e1, e2]
    exact ⟨g1, g2, g3, g4⟩
  · intro q hq
    obtain ⟨i, hi⟩ := List.getElem?_of_mem hq
    have hi2 : i < 103 := Nat.lt_of_lt_of_eq (List.getElem?_eq_some_iff.mp hi).1 (by decide +kernel)
    have hix : q.2.2.2 = i := by
      have h1 : (am_strs.map (fun q => q.2.2.2))[i]? = some q.2.2.2 := by rw [List.getElem?_map, hi]; rfl
      rw [am_e_idx, List.getElem?_range hi2] at h1
      exact (Option.some.inj h1).symm
    have hr := am_words (fun w => w.before args s = true) _ _ am_e_str hts _ (List.mem_map.mpr ⟨q, hq, rfl⟩)
    refine vk_R.of hr ?_
    show _ = some (Value.ref (if q.2.2.2 < 103 then _ else _))
    rw [hix, if_pos hi2]
    exact (hst i hi2).1 q hi
  · exact fun t ht => am_words (fun w => w.before args s = true) _ _ am_e_ao hts _ (List.mem_map.mpr ⟨t, ht, rfl⟩)
  · exact fun q hq => va_Nw.of rfl (am_words (fun w => w.before args s = true) _ _ am_e_nf hts _ (List.mem_map.mpr ⟨q, hq, rfl⟩))
  · exact fun q hq => va_Nw.of rfl (am_words (fun w => w.before args s = true) _ _ am_e_nm hts _ (List.mem_map.mpr ⟨q, hq, rfl⟩))
  · exact fun q hq => va_Nw.of rfl (am_words (fun w => w.before args s = true) _ _ am_e_cst hts _ (List.mem_map.mpr ⟨q, hq, rfl⟩))
  · intro q hq
    have h1 : some (Jvm.Cond.not (.castable q.1 q.2)) ∈ (am_nct.map (fun q => Jvm.Cond.not (.castable q.1 q.2))).map some := List.mem_map.mpr ⟨_, List.mem_map.mpr ⟨q, hq, rfl⟩, rfl⟩
    rw [am_e_nct] at h1
    obtain ⟨i, -, hi⟩ := List.mem_map.mp h1
    exact va_Nc.of (hf _ (List.mem_of_getElem? hi))
  · exact fun y hy => va_Nw.of rfl (am_words (fun w => w.before args s = true) _ _ am_e_dcl hts _ (List.mem_map.mpr ⟨y, hy, rfl⟩))
theorem am_kw0 : (u_ws RJ0 TJ0 4).map some = ([1737, 1739, 1741, 1743] : List Nat).map (fun i => lw_tbl[i]?) := by decide +kernel
theorem am_kw1 : (u_ws RJ4 TJ4 4).map some = ([1566, 1568, 1570, 1572] : List Nat).map (fun i => lw_tbl[i]?) := by decide +kernel
theorem am_kw2 : (u_ws RJx00060 TJx00060 6).map some = ([1752, 1753, 1754, 1755, 1756, 1767] : List Nat).map (fun i => lw_tbl[i]?) := by decide +kernel
theorem am_entK {args : Array Value} {s : State} (hts : ∀ w ∈ lw_tbl, w.before args s = true) : ∃ D : va_G, va_K D vwCl [] s := by
  have h0 : ∀ c : Nat, ∃ D : ClassId × (Nat → Nat), ∀ q, vwCl[c]? = some q → u_Kn s q.1 q.2.1 q.2.2 D.1 D.2 := by
    intro c
    cases hc : vwCl[c]? with
    | none => exact ⟨(0, fun _ => 0), fun q hq => by cases hq⟩
    | some q =>
      have h1 : ∃ (cC : ClassId) (iS : Nat → Nat), u_Kn s q.1 q.2.1 q.2.2 cC iS := by
        obtain ⟨C0, T, N⟩ := q
        by_cases h3 : 3 ≤ c
        · have hk := am_cls_of hc h3
          have hi := (am_ini hc h3).1
          exact u_known (ws := lw_tbl) hts (fun w hw => (List.mem_filter.mp (hk.2.2.1 w hw)).1) (hts _ (List.mem_filter.mp hi).1)
        · match c, hc, h3 with
          | 0, hc, _ =>
            cases hc
            exact u_known (ws := lw_tbl) hts (am_words (fun w => w ∈ lw_tbl) _ _ am_kw0 (fun w h => h)) (hts (Jvm.Cond.instantiable RJ0 4) (List.mem_of_getElem? (i := 1692) (by decide +kernel)))
          | 1, hc, _ =>
            cases hc
            exact u_known (ws := lw_tbl) hts (am_words (fun w => w ∈ lw_tbl) _ _ am_kw1 (fun w h => h)) (hts (Jvm.Cond.instantiable RJ4 4) (List.mem_of_getElem? (i := 1546) (by decide +kernel)))
          | 2, hc, _ =>
            cases hc
            exact u_known (ws := lw_tbl) hts (am_words (fun w => w ∈ lw_tbl) _ _ am_kw2 (fun w h => h)) (hts (Jvm.Cond.instantiable RJx00060 6) (List.mem_of_getElem? (i := 1747) (by decide +kernel)))
          | c + 3, _, h3 => exact absurd (Nat.le_add_left 3 c) h3
      obtain ⟨cC, iS, h1⟩ := h1
      exact ⟨(cC, iS), fun q' hq' => by cases hq'; exact h1⟩
  obtain ⟨D, hD⟩ := Classical.axiomOfChoice h0
  exact ⟨(fun c => (D c).1, fun c => (D c).2), fun c q hq => hD c q hq, fun k q hq => by simp at hq⟩
