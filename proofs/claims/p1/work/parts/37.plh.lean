variable {sc : List Int32}
/-! PLAY: the rounds of both sides, by hand -/
theorem fv_rm1_lt (s : Int32) : 2147483649 ≤ fv_of (fv_rm s (Int32.ofNat 255) + Int32.ofNat 1) ∧ fv_of (fv_rm s (Int32.ofNat 255) + Int32.ofNat 1) < 2147483904 := by
  obtain ⟨r, h1, h2⟩ := fv_rm_nat s (m := 255) (by decide) (by decide)
  rw [h2, ← Int32.ofNat_add, fv_of_nat]
  omega
theorem fv_ivp_eq : fv_ivp = (fv_set (fv_set (fv_set (fv_set (fv_set (fv_set (fv_set (fv_set (fv_set (fv_set (fv_set (fv_set (fv_set (fv_set (fv_set (fv_set (fv_set (fv_set (fv_set (fv_set (fv_set (fv_set (fv_set (fv_set (fv_set (List.replicate 88 (0, 4294967296)) 2 (2147483649, 2147483849)) 43 (2147483648, 2147483664)) 44 (2147483648, 2147484648)) 45 (2147483648, 2147483903)) 46 (2147483649, 2147483904)) 51 (2147483648, 2147483664)) 52 (2147483648, 2147484648)) 53 (2147483648, 2147483903)) 54 (2147483649, 2147483904)) 59 (2147483648, 2147483664)) 60 (2147483648, 2147484648)) 61 (2147483648, 2147483903)) 62 (2147483649, 2147483904)) 67 (2147483648, 2147483664)) 68 (2147483648, 2147484648)) 69 (2147483648, 2147483903)) 70 (2147483649, 2147483904)) 75 (2147483648, 2147483664)) 76 (2147483648, 2147484648)) 77 (2147483648, 2147483903)) 78 (2147483649, 2147483904)) 83 (2147483648, 2147483664)) 84 (2147483648, 2147484648)) 85 (2147483648, 2147483903)) 86 (2147483649, 2147483904)) := by decide +kernel
theorem fv_iok_p {s t k : Int32} {x : Nat → Int32} (hm : 2147483649 ≤ fv_of (sc.getD 2 0) ∧ fv_of (sc.getD 2 0) < 2147483849) : fv_iok (fv_rho sc s t k x) fv_ivp := by
  rw [fv_ivp_eq]
  exact (fv_iok_set (u := 86) (fv_iok_set (u := 85) (fv_iok_set (u := 84) (fv_iok_set (u := 83) (fv_iok_set (u := 78) (fv_iok_set (u := 77) (fv_iok_set (u := 76) (fv_iok_set (u := 75) (fv_iok_set (u := 70) (fv_iok_set (u := 69) (fv_iok_set (u := 68) (fv_iok_set (u := 67) (fv_iok_set (u := 62) (fv_iok_set (u := 61) (fv_iok_set (u := 60) (fv_iok_set (u := 59) (fv_iok_set (u := 54) (fv_iok_set (u := 53) (fv_iok_set (u := 52) (fv_iok_set (u := 51) (fv_iok_set (u := 46) (fv_iok_set (u := 45) (fv_iok_set (u := 44) (fv_iok_set (u := 43) (fv_iok_set (u := 2) (fv_iok_rep 88) hm.1 hm.2) (fv_rm_lt (fv_nxi 0 s) (m := 16) (by decide) (by decide)).1 (fv_rm_lt (fv_nxi 0 s) (m := 16) (by decide) (by decide)).2) (fv_rm_lt (fv_nxi 0 s) (m := 1000) (by decide) (by decide)).1 (fv_rm_lt (fv_nxi 0 s) (m := 1000) (by decide) (by decide)).2) (fv_rm_lt (fv_nxi 0 s) (m := 255) (by decide) (by decide)).1 (fv_rm_lt (fv_nxi 0 s) (m := 255) (by decide) (by decide)).2) (fv_rm1_lt (fv_nxi 0 s)).1 (fv_rm1_lt (fv_nxi 0 s)).2) (fv_rm_lt (fv_nxi 1 s) (m := 16) (by decide) (by decide)).1 (fv_rm_lt (fv_nxi 1 s) (m := 16) (by decide) (by decide)).2) (fv_rm_lt (fv_nxi 1 s) (m := 1000) (by decide) (by decide)).1 (fv_rm_lt (fv_nxi 1 s) (m := 1000) (by decide) (by decide)).2) (fv_rm_lt (fv_nxi 1 s) (m := 255) (by decide) (by decide)).1 (fv_rm_lt (fv_nxi 1 s) (m := 255) (by decide) (by decide)).2) (fv_rm1_lt (fv_nxi 1 s)).1 (fv_rm1_lt (fv_nxi 1 s)).2) (fv_rm_lt (fv_nxi 2 s) (m := 16) (by decide) (by decide)).1 (fv_rm_lt (fv_nxi 2 s) (m := 16) (by decide) (by decide)).2) (fv_rm_lt (fv_nxi 2 s) (m := 1000) (by decide) (by decide)).1 (fv_rm_lt (fv_nxi 2 s) (m := 1000) (by decide) (by decide)).2) (fv_rm_lt (fv_nxi 2 s) (m := 255) (by decide) (by decide)).1 (fv_rm_lt (fv_nxi 2 s) (m := 255) (by decide) (by decide)).2) (fv_rm1_lt (fv_nxi 2 s)).1 (fv_rm1_lt (fv_nxi 2 s)).2) (fv_rm_lt (fv_nxi 3 s) (m := 16) (by decide) (by decide)).1 (fv_rm_lt (fv_nxi 3 s) (m := 16) (by decide) (by decide)).2) (fv_rm_lt (fv_nxi 3 s) (m := 1000) (by decide) (by decide)).1 (fv_rm_lt (fv_nxi 3 s) (m := 1000) (by decide) (by decide)).2) (fv_rm_lt (fv_nxi 3 s) (m := 255) (by decide) (by decide)).1 (fv_rm_lt (fv_nxi 3 s) (m := 255) (by decide) (by decide)).2) (fv_rm1_lt (fv_nxi 3 s)).1 (fv_rm1_lt (fv_nxi 3 s)).2) (fv_rm_lt (fv_nxi 4 s) (m := 16) (by decide) (by decide)).1 (fv_rm_lt (fv_nxi 4 s) (m := 16) (by decide) (by decide)).2) (fv_rm_lt (fv_nxi 4 s) (m := 1000) (by decide) (by decide)).1 (fv_rm_lt (fv_nxi 4 s) (m := 1000) (by decide) (by decide)).2) (fv_rm_lt (fv_nxi 4 s) (m := 255) (by decide) (by decide)).1 (fv_rm_lt (fv_nxi 4 s) (m := 255) (by decide) (by decide)).2) (fv_rm1_lt (fv_nxi 4 s)).1 (fv_rm1_lt (fv_nxi 4 s)).2) (fv_rm_lt (fv_nxi 5 s) (m := 16) (by decide) (by decide)).1 (fv_rm_lt (fv_nxi 5 s) (m := 16) (by decide) (by decide)).2) (fv_rm_lt (fv_nxi 5 s) (m := 1000) (by decide) (by decide)).1 (fv_rm_lt (fv_nxi 5 s) (m := 1000) (by decide) (by decide)).2) (fv_rm_lt (fv_nxi 5 s) (m := 255) (by decide) (by decide)).1 (fv_rm_lt (fv_nxi 5 s) (m := 255) (by decide) (by decide)).2) (fv_rm1_lt (fv_nxi 5 s)).1 (fv_rm1_lt (fv_nxi 5 s)).2)
theorem fv_qx_ok {s t k : Int32} {x : Nat → Int32} {S : Nat} {q : Nat × Nat} {K : Nat → Bool} (h : fv_qx S q K = true) (h1 : q.1 ≤ fv_of (fv_rho sc s t k x 51)) (h2 : fv_of (fv_rho sc s t k x 51) < q.2) : ∃ τ, K τ = true ∧ fv_de (fv_rho sc s t k x) S = .int (fv_p1 s t).1 ∧ fv_de (fv_rho sc s t k x) τ = .int (fv_p1 s t).2 := by
  obtain ⟨lo, hi⟩ := q
  have h1 : lo ≤ fv_of (fv_rm (fv_nxi 1 s) (Int32.ofNat 16)) := h1
  have h2 : fv_of (fv_rm (fv_nxi 1 s) (Int32.ofNat 16)) < hi := h2
  have h : fv_if (Nat.beq S 385) (fv_if (Nat.ble 2147483662 lo) (K 177) false) (fv_if (Nat.beq S 449) (fv_if (Nat.ble hi 2147483661) (K 169) false) (fv_if (Nat.beq S 577) (fv_if (Nat.ble 2147483661 lo) (fv_if (Nat.ble hi 2147483662) (K 169) false) false) false)) = true := h
  unfold fv_p1
  rcases fv_ift h with ⟨h3, h⟩ | ⟨-, h⟩
  · obtain ⟨h4, h5⟩ := fv_iff h
    have h4 := fv_ble h4
    cases fv_beq h3
    rw [if_pos (by omega)]
    exact ⟨177, h5, rfl, rfl⟩
  · rcases fv_ift h with ⟨h3, h⟩ | ⟨-, h⟩
    · obtain ⟨h4, h5⟩ := fv_iff h
      have h4 := fv_ble h4
      cases fv_beq h3
      rw [if_neg (by omega), if_pos (by omega)]
      exact ⟨169, h5, rfl, rfl⟩
    · obtain ⟨h3, h⟩ := fv_iff h
      obtain ⟨h4, h⟩ := fv_iff h
      obtain ⟨h5, h6⟩ := fv_iff h
      have h4 := fv_ble h4
      have h5 := fv_ble h5
      cases fv_beq h3
      rw [if_neg (by omega), if_neg (by omega)]
      exact ⟨169, h6, rfl, rfl⟩
/-- the state at a round's start -/
def fv_Sx (sc : List Int32) (x : Nat → Int32) (s t k : Int32) (lv : am_V) (h : am_H) : Prop := fv_L (fv_rho sc s t k x) [2, 7, 17, 321, 185, 7, 7, 7] lv ∧ fv_rel (fv_rho sc s t k x) 299443227 (fv_TX 169) h
def fv_Sm (sc : List Int32) (x : Nat → Int32) (s t k : Int32) (lv : am_V) (h : am_H) : Prop := fv_L (fv_rho sc s t k x) [7810, 7, 17, 185, 7, 7, 7, 7] lv ∧ fv_rel (fv_rho sc s t k x) 299443227 (fv_TM 809 814 169 321) h
theorem fv_lt32 {a b : Nat} (hb : b < 2147483648) (h : a < b) : Int32.ofNat a < Int32.ofNat b := by
  rw [← fv_of_lt_iff, fv_of_nat, fv_of_nat]
  omega
theorem fv_L5 {ρ ρ' : Nat → Int32} {L L' : List Nat} {lv : am_V} (hl : fv_L ρ L lv) (h : ∀ i, L'.getD i 7 = 7 ∨ (¬ L.getD i 7 = 7 ∧ fv_de ρ (L.getD i 7) = fv_de ρ' (L'.getD i 7))) : fv_L ρ' L' lv := fun i hi => by
  rcases h i with z | ⟨z1, z2⟩
  · exact absurd z hi
  · rw [hl i z1, z2]
theorem fv_8 {p : Nat → Prop} (h0 : p 0) (h1 : p 1) (h2 : p 2) (h3 : p 3) (h4 : p 4) (hr : ∀ i, p (i + 5)) : ∀ i, p i
  | 0 => h0
  | 1 => h1
  | 2 => h2
  | 3 => h3
  | 4 => h4
  | i + 5 => hr i
theorem fv_777 (i : Nat) : ([7, 7, 7] : List Nat).getD i 7 = 7 := by
  match i with
  | 0 => rfl
  | 1 => rfl
  | 2 => rfl
  | i + 3 => rfl
theorem fv_head {lv : am_V} {h : am_H} {i j : Nat} {a b : Int32} (h1 : am_ld lv i = some (.int a)) (h2 : am_ld lv j = some (.int b)) : am_bk sc [.iload i, .iload j] lv [] h = some (lv, [.int b, .int a], h) := by
  have e1 : am_i1 sc (.iload i) lv [] h = some (lv, [.int a], h) := by
    show (match am_ld lv i with
      | some (.int x) => some (lv, [Value.int x], h)
      | _ => none) = _
    rw [h1]
  have e2 : am_i1 sc (.iload j) lv [.int a] h = some (lv, [.int b, .int a], h) := by
    show (match am_ld lv j with
      | some (.int x) => some (lv, [Value.int x, .int a], h)
      | _ => none) = _
    rw [h2]
  unfold am_bk
  rw [e1]
  show am_bk sc [.iload j] lv [.int a] h = _
  unfold am_bk
  rw [e2]
  rfl
theorem fv_eqv {v w u : Value} (h1 : v = u) (h2 : w = u) : v = w := h1.trans h2.symm
theorem fv_mapc {ρ ρ' : Nat → Int32} {l : List Nat} (h : fv_all fv_clv l = true) : l.map (fv_de ρ) = l.map (fv_de ρ') := List.map_congr_left fun v hv => fv_clv_t (fv_all_t h v hv)
theorem fv_map1 {ρ ρ' : Nat → Int32} {a b b' : List Nat} {τ τ' : Nat} (ha : fv_all fv_clv a = true) (h : fv_de ρ τ = fv_de ρ' τ') (hb : b.map (fv_de ρ) = b'.map (fv_de ρ')) : (a ++ τ :: b).map (fv_de ρ) = (a ++ τ' :: b').map (fv_de ρ') := by
  rw [List.map_append, List.map_append, List.map_cons, List.map_cons, fv_mapc (ρ' := ρ') ha, h, hb]
theorem fv_oW_map {ρ ρ' : Nat → Int32} {τ τ' : Nat} (h : fv_de ρ τ = fv_de ρ' τ') : (fv_oW τ).2.2.map (fv_de ρ) = (fv_oW τ').2.2.map (fv_de ρ') := fv_map1 (a := [34, 42, 66, 0, 0, 0, 0, 0]) (b := [90, 0, 0, 0, 0]) (b' := [90, 0, 0, 0, 0]) rfl h (fv_mapc rfl)
theorem fv_oM_map {ρ ρ' : Nat → Int32} {τ τ' σ σ' : Nat} (h : fv_de ρ τ = fv_de ρ' τ') (h2 : fv_de ρ σ = fv_de ρ' σ') : (fv_oM τ σ).2.2.map (fv_de ρ) = (fv_oM τ' σ').2.2.map (fv_de ρ') :=
  fv_map1 (a := [0]) (b := [8, 7818, 0, 7826, 7898, 0, 0, 0, 5, 5, 0, 0, 0, 7906, 7914, 7922, 7930, 0, 7938, 7946, 7954] ++ σ :: [7962, 0, 0, 0, 4, 0, 0, 0, 0, 0, 0, 7970, 7978, 7986, 7994, 8002, 8010, 8018, 8026, 8034, 8042, 8050, 8058, 8066, 8074, 8082, 8090, 8098, 8106, 8114, 8122, 8130, 8138, 8146, 8154, 8162, 8170, 8178, 8186, 8194, 8202, 8210, 8218, 0, 8226, 8234, 8242, 8250, 8258, 8266, 8274, 0, 0, 0, 0, 8282, 0, 8290, 8298, 8306, 8314, 8322, 8330, 8338, 8346, 0, 8354, 8362, 8370, 8378, 8386, 8394]) (b' := [8, 7818, 0, 7826, 7898, 0, 0, 0, 5, 5, 0, 0, 0, 7906, 7914, 7922, 7930, 0, 7938, 7946, 7954] ++ σ' :: [7962, 0, 0, 0, 4, 0, 0, 0, 0, 0, 0, 7970, 7978, 7986, 7994, 8002, 8010, 8018, 8026, 8034, 8042, 8050, 8058, 8066, 8074, 8082, 8090, 8098, 8106, 8114, 8122, 8130, 8138, 8146, 8154, 8162, 8170, 8178, 8186, 8194, 8202, 8210, 8218, 0, 8226, 8234, 8242, 8250, 8258, 8266, 8274, 0, 0, 0, 0, 8282, 0, 8290, 8298, 8306, 8314, 8322, 8330, 8338, 8346, 0, 8354, 8362, 8370, 8378, 8386, 8394]) rfl h (fv_map1 (a := [8, 7818, 0, 7826, 7898, 0, 0, 0, 5, 5, 0, 0, 0, 7906, 7914, 7922, 7930, 0, 7938, 7946, 7954]) (b := [7962, 0, 0, 0, 4, 0, 0, 0, 0, 0, 0, 7970, 7978, 7986, 7994, 8002, 8010, 8018, 8026, 8034, 8042, 8050, 8058, 8066, 8074, 8082, 8090, 8098, 8106, 8114, 8122, 8130, 8138, 8146, 8154, 8162, 8170, 8178, 8186, 8194, 8202, 8210, 8218, 0, 8226, 8234, 8242, 8250, 8258, 8266, 8274, 0, 0, 0, 0, 8282, 0, 8290, 8298, 8306, 8314, 8322, 8330, 8338, 8346, 0, 8354, 8362, 8370, 8378, 8386, 8394]) (b' := [7962, 0, 0, 0, 4, 0, 0, 0, 0, 0, 0, 7970, 7978, 7986, 7994, 8002, 8010, 8018, 8026, 8034, 8042, 8050, 8058, 8066, 8074, 8082, 8090, 8098, 8106, 8114, 8122, 8130, 8138, 8146, 8154, 8162, 8170, 8178, 8186, 8194, 8202, 8210, 8218, 0, 8226, 8234, 8242, 8250, 8258, 8266, 8274, 0, 0, 0, 0, 8282, 0, 8290, 8298, 8306, 8314, 8322, 8330, 8338, 8346, 0, 8354, 8362, 8370, 8378, 8386, 8394]) rfl h2 (fv_mapc rfl))
theorem fv_ag_X {ρ ρ' : Nat → Int32} {τ τ' : Nat} (h : fv_de ρ τ = fv_de ρ' τ') : fv_ag ρ ρ' (fv_TX τ) (fv_TX τ') :=
  fv_ag_hs (a := 3) (o := fv_oW τ) (o' := fv_oW τ') (fv_ag_clo fv_T0s fv_T0c) (by decide) rfl rfl (fv_oW_map h)
theorem fv_ag_X0 {ρ ρ' : Nat → Int32} {τ' : Nat} (h : fv_de ρ 0 = fv_de ρ' τ') : fv_ag ρ ρ' fv_T0 (fv_TX τ') := by
  refine fv_ag_here (a := 3) (o' := fv_oW τ') (fv_ag_clo fv_T0s fv_T0c) (by decide) ?_ ?_ ?_
  · rw [fv_T0a]
    rfl
  · rw [fv_T0a]
    rfl
  · rw [fv_T0a]
    exact fv_oW_map h
theorem fv_ag_O {ρ ρ' : Nat → Int32} {τ τ' o o' : Nat} (h : fv_de ρ τ = fv_de ρ' τ') (h2 : fv_de ρ o = fv_de ρ' o') : fv_ag ρ ρ' (fv_TO τ o) (fv_TO τ' o') :=
  fv_ag_hs (a := 1050) (o := fv_oO o) (o' := fv_oO o') (fv_ag_X h) (by decide) rfl rfl (fv_map1 (a := []) (b := []) (b' := []) rfl h2 (fv_mapc rfl))
theorem fv_ag_M {ρ ρ' : Nat → Int32} {τ τ' o o' τ1 τ1' σ σ' : Nat} (h : fv_de ρ τ = fv_de ρ' τ') (h2 : fv_de ρ o = fv_de ρ' o') (h3 : fv_de ρ τ1 = fv_de ρ' τ1') (h4 : fv_de ρ σ = fv_de ρ' σ') : fv_ag ρ ρ' (fv_TM τ o τ1 σ) (fv_TM τ' o' τ1' σ') :=
  fv_ag_hs (a := 976) (o := fv_oM τ1 σ) (o' := fv_oM τ1' σ') (fv_ag_O h h2) (by decide) rfl rfl (fv_oM_map h3 h4)
section FVP
variable {x : Nat → Int32}
theorem fv_Sx_k {s t kk : Int32} {lv : am_V} {h : am_H} (hS : fv_Sx sc x s t kk lv h) : am_ld lv 4 = some (.int kk) := hS.1 4 (by decide)
theorem fv_Sx_2 {s t kk : Int32} {lv : am_V} {h : am_H} (hS : fv_Sx sc x s t kk lv h) : am_ld lv 2 = some (.int (sc.getD 2 0)) := hS.1 2 (by decide)
theorem fv_Sm_k {s t kk : Int32} {lv : am_V} {h : am_H} (hS : fv_Sm sc x s t kk lv h) : am_ld lv 3 = some (.int kk) := hS.1 3 (by decide)
theorem fv_Sm_2 {s t kk : Int32} {lv : am_V} {h : am_H} (hS : fv_Sm sc x s t kk lv h) : am_ld lv 2 = some (.int (sc.getD 2 0)) := hS.1 2 (by decide)
end FVP
