variable {sc : List Int32}
/-! PLAY: the rounds of both sides, by hand -/
theorem fv_rm1_lt (s : Int32) : 2147483649 ≤ fv_of (fv_rm s (Int32.ofNat 255) + Int32.ofNat 1) ∧ fv_of (fv_rm s (Int32.ofNat 255) + Int32.ofNat 1) < 2147483904 := by
  obtain ⟨r, h1, h2⟩ := fv_rm_nat s (m := 255) (by decide) (by decide)
  rw [h2, ← Int32.ofNat_add, fv_of_nat]
  omega
theorem fv_ivp_eq : fv_ivp = (fv_set (fv_set (fv_set (fv_set (fv_set (fv_set (fv_set (fv_set (fv_set (fv_set (fv_set (fv_set (fv_set (fv_set (fv_set (fv_set (fv_set (fv_set (fv_set (fv_set (fv_set (fv_set (fv_set (fv_set (fv_set (List.replicate 88 (0, 4294967296)) 2 (2147483649, 2147483849)) 43 (2147483648, 2147483664)) 44 (2147483648, 2147484648)) 45 (2147483648, 2147483903)) 46 (2147483649, 2147483904)) 51 (2147483648, 2147483664)) 52 (2147483648, 2147484648)) 53 (2147483648, 2147483903)) 54 (2147483649, 2147483904)) 59 (2147483648, 2147483664)) 60 (2147483648, 2147484648)) 61 (2147483648, 2147483903)) 62 (2147483649, 2147483904)) 67 (2147483648, 2147483664)) 68 (2147483648, 2147484648)) 69 (2147483648, 2147483903)) 70 (2147483649, 2147483904)) 75 (2147483648, 2147483664)) 76 (2147483648, 2147484648)) 77 (2147483648, 2147483903)) 78 (2147483649, 2147483904)) 83 (2147483648, 2147483664)) 84 (2147483648, 2147484648)) 85 (2147483648, 2147483903)) 86 (2147483649, 2147483904)) := by decide +kernel
theorem fv_iok_p {s t k : Int32} {x : Nat → Int32} (hm : 2147483649 ≤ fv_of (sc.getD 2 0) ∧ fv_of (sc.getD 2 0) < 2147483849) : fv_iok (fv_rho sc s t k x) fv_ivp := by
  rw [fv_ivp_eq]
  exact (fv_iok_set (u := 86) (fv_iok_set (u := 85) (fv_iok_set (u := 84) (fv_iok_set (u := 83) (fv_iok_set (u := 78) (fv_iok_set (u := 77) (fv_iok_set (u := 76) (fv_iok_set (u := 75) (fv_iok_set (u := 70) (fv_iok_set (u := 69) (fv_iok_set (u := 68) (fv_iok_set (u := 67) (fv_iok_set (u := 62) (fv_iok_set (u := 61) (fv_iok_set (u := 60) (fv_iok_set (u := 59) (fv_iok_set (u := 54) (fv_iok_set (u := 53) (fv_iok_set (u := 52) (fv_iok_set (u := 51) (fv_iok_set (u := 46) (fv_iok_set (u := 45) (fv_iok_set (u := 44) (fv_iok_set (u := 43) (fv_iok_set (u := 2) (fv_iok_rep 88) hm.1 hm.2) (fv_rm_lt (fv_nxi 0 s) (m := 16) (by decide) (by decide)).1 (fv_rm_lt (fv_nxi 0 s) (m := 16) (by decide) (by decide)).2) (fv_rm_lt (fv_nxi 0 s) (m := 1000) (by decide) (by decide)).1 (fv_rm_lt (fv_nxi 0 s) (m := 1000) (by decide) (by decide)).2) (fv_rm_lt (fv_nxi 0 s) (m := 255) (by decide) (by decide)).1 (fv_rm_lt (fv_nxi 0 s) (m := 255) (by decide) (by decide)).2) (fv_rm1_lt (fv_nxi 0 s)).1 (fv_rm1_lt (fv_nxi 0 s)).2) (fv_rm_lt (fv_nxi 1 s) (m := 16) (by decide) (by decide)).1 (fv_rm_lt (fv_nxi 1 s) (m := 16) (by decide) (by decide)).2) (fv_rm_lt (fv_nxi 1 s) (m := 1000) (by decide) (by decide)).1 (fv_rm_lt (fv_nxi 1 s) (m := 1000) (by decide) (by decide)).2) (fv_rm_lt (fv_nxi 1 s) (m := 255) (by decide) (by decide)).1 (fv_rm_lt (fv_nxi 1 s) (m := 255) (by decide) (by decide)).2) (fv_rm1_lt (fv_nxi 1 s)).1 (fv_rm1_lt (fv_nxi 1 s)).2) (fv_rm_lt (fv_nxi 2 s) (m := 16) (by decide) (by decide)).1 (fv_rm_lt (fv_nxi 2 s) (m := 16) (by decide) (by decide)).2) (fv_rm_lt (fv_nxi 2 s) (m := 1000) (by decide) (by decide)).1 (fv_rm_lt (fv_nxi 2 s) (m := 1000) (by decide) (by decide)).2) (fv_rm_lt (fv_nxi 2 s) (m := 255) (by decide) (by decide)).1 (fv_rm_lt (fv_nxi 2 s) (m := 255) (by decide) (by decide)).2) (fv_rm1_lt (fv_nxi 2 s)).1 (fv_rm1_lt (fv_nxi 2 s)).2) (fv_rm_lt (fv_nxi 3 s) (m := 16) (by decide) (by decide)).1 (fv_rm_lt (fv_nxi 3 s) (m := 16) (by decide) (by decide)).2) (fv_rm_lt (fv_nxi 3 s) (m := 1000) (by decide) (by decide)).1 (fv_rm_lt (fv_nxi 3 s) (m := 1000) (by decide) (by decide)).2) (fv_rm_lt (fv_nxi 3 s) (m := 255) (by decide) (by decide)).1 (fv_rm_lt (fv_nxi 3 s) (m := 255) (by decide) (by decide)).2) (fv_rm1_lt (fv_nxi 3 s)).1 (fv_rm1_lt (fv_nxi 3 s)).2) (fv_rm_lt (fv_nxi 4 s) (m := 16) (by decide) (by decide)).1 (fv_rm_lt (fv_nxi 4 s) (m := 16) (by decide) (by decide)).2) (fv_rm_lt (fv_nxi 4 s) (m := 1000) (by decide) (by decide)).1 (fv_rm_lt (fv_nxi 4 s) (m := 1000) (by decide) (by decide)).2) (fv_rm_lt (fv_nxi 4 s) (m := 255) (by decide) (by decide)).1 (fv_rm_lt (fv_nxi 4 s) (m := 255) (by decide) (by decide)).2) (fv_rm1_lt (fv_nxi 4 s)).1 (fv_rm1_lt (fv_nxi 4 s)).2) (fv_rm_lt (fv_nxi 5 s) (m := 16) (by decide) (by decide)).1 (fv_rm_lt (fv_nxi 5 s) (m := 16) (by decide) (by decide)).2) (fv_rm_lt (fv_nxi 5 s) (m := 1000) (by decide) (by decide)).1 (fv_rm_lt (fv_nxi 5 s) (m := 1000) (by decide) (by decide)).2) (fv_rm_lt (fv_nxi 5 s) (m := 255) (by decide) (by decide)).1 (fv_rm_lt (fv_nxi 5 s) (m := 255) (by decide) (by decide)).2) (fv_rm1_lt (fv_nxi 5 s)).1 (fv_rm1_lt (fv_nxi 5 s)).2)
theorem fv_qx_ok {s t k : Int32} {x : Nat → Int32} {S : Nat} {q : Nat × Nat} {K : Nat → Bool} (h : fv_qx S q K = true) (h1 : q.1 ≤ fv_of (fv_rho sc s t k x 51)) (h2 : fv_of (fv_rho sc s t k x 51) < q.2) : ∃ τ, K τ = true ∧ fv_de (fv_rho sc s t k x) S = .int (fv_p1 s t).1 ∧ fv_de (fv_rho sc s t k x) τ = .int (fv_p1 s t).2 := by
  obtain ⟨lo, hi⟩ := q
  have h1 : lo ≤ fv_of (fv_rm (fv_nxi 1 s) (Int32.ofNat 16)) := h1
  have h2 : fv_of (fv_rm (fv_nxi 1 s) (Int32.ofNat 16)) < hi := h2
  have h : fv_if (Nat.beq S 385) (fv_if (Nat.ble 2147483662 lo) (K 177) false) (fv_if (Nat.beq S 449) (fv_if (Nat.ble hi 2147483661) (K 169) false) (fv_if (Nat.beq S 577) (fv_if (Nat.ble 2147483661 lo) (fv_if (Nat.ble hi 2147483662) (K 169) false) false) false)) = true := h
  unfold fv_p1
  rcases fv_ift h with ⟨h3, h⟩ | ⟨-, h⟩
  · obtain ⟨h4, h5⟩ := fv_iff h
    have h4 := fv_ble h4
    cases fv_beq h3
    rw [if_pos (by omega)]
    exact ⟨177, h5, rfl, rfl⟩
  · rcases fv_ift h with ⟨h3, h⟩ | ⟨-, h⟩
    · obtain ⟨h4, h5⟩ := fv_iff h
      have h4 := fv_ble h4
      cases fv_beq h3
      rw [if_neg (by omega), if_pos (by omega)]
      exact ⟨169, h5, rfl, rfl⟩
    · obtain ⟨h3, h⟩ := fv_iff h
      obtain ⟨h4, h⟩ := fv_iff h
      obtain ⟨h5, h6⟩ := fv_iff h
      have h4 := fv_ble h4
      have h5 := fv_ble h5
      cases fv_beq h3
      rw [if_neg (by omega), if_neg (by omega)]
      exact ⟨169, h6, rfl, rfl⟩
/-- the state at a round's start -/
def fv_Sx (sc : List Int32) (x : Nat → Int32) (s t k : Int32) (lv : am_V) (h : am_H) : Prop := fv_L (fv_rho sc s t k x) [2, 7, 17, 321, 185, 7, 7, 7] lv ∧ fv_rel (fv_rho sc s t k x) 299443227 (fv_TX 169) h
def fv_Sm (sc : List Int32) (x : Nat → Int32) (s t k : Int32) (lv : am_V) (h : am_H) : Prop := fv_L (fv_rho sc s t k x) [7810, 7, 17, 185, 7, 7, 7, 7] lv ∧ fv_rel (fv_rho sc s t k x) 299443227 (fv_TM 809 814 169 321) h
theorem fv_lt32 {a b : Nat} (hb : b < 2147483648) (h : a < b) : Int32.ofNat a < Int32.ofNat b := by
  rw [← fv_of_lt_iff, fv_of_nat, fv_of_nat]
  omega
theorem fv_L5 {ρ ρ' : Nat → Int32} {L L' : List Nat} {lv : am_V} (hl : fv_L ρ L lv) (h : ∀ i, L'.getD i 7 = 7 ∨ (¬ L.getD i 7 = 7 ∧ fv_de ρ (L.getD i 7) = fv_de ρ' (L'.getD i 7))) : fv_L ρ' L' lv := fun i hi => by
  rcases h i with z | ⟨z1, z2⟩
  · exact absurd z hi
  · rw [hl i z1, z2]
theorem fv_8 {p : Nat → Prop} (h0 : p 0) (h1 : p 1) (h2 : p 2) (h3 : p 3) (h4 : p 4) (hr : ∀ i, p (i + 5)) : ∀ i, p i
  | 0 => h0
  | 1 => h1
  | 2 => h2
  | 3 => h3
  | 4 => h4
  | i + 5 => hr i
theorem fv_777 (i : Nat) : ([7, 7, 7] : List Nat).getD i 7 = 7 := by
  match i with
  | 0 => rfl
  | 1 => rfl
  | 2 => rfl
  | i + 3 => rfl
theorem fv_head {lv : am_V} {h : am_H} {i j : Nat} {a b : Int32} (h1 : am_ld lv i = some (.int a)) (h2 : am_ld lv j = some (.int b)) : am_bk sc [.iload i, .iload j] lv [] h = some (lv, [.int b, .int a], h) := by
  have e1 : am_i1 sc (.iload i) lv [] h = some (lv, [.int a], h) := by
    show (match am_ld lv i with
      | some (.int x) => some (lv, [Value.int x], h)
      | _ => none) = _
    rw [h1]
  have e2 : am_i1 sc (.iload j) lv [.int a] h = some (lv, [.int b, .int a], h) := by
    show (match am_ld lv j with
      | some (.int x) => some (lv, [Value.int x, .int a], h)
      | _ => none) = _
    rw [h2]
  unfold am_bk
  rw [e1]
  show am_bk sc [.iload j] lv [.int a] h = _
  unfold am_bk
  rw [e2]
  rfl
theorem fv_eqv {v w u : Value} (h1 : v = u) (h2 : w = u) : v = w := h1.trans h2.symm
theorem fv_mapc {ρ ρ' : Nat → Int32} {l : List Nat} (h : fv_all fv_clv l = true) : l.map (fv_de ρ) = l.map (fv_de ρ') := List.map_congr_left fun v hv => fv_clv_t (fv_all_t h v hv)
theorem fv_map1 {ρ ρ' : Nat → Int32} {a b b' : List Nat} {τ τ' : Nat} (ha : fv_all fv_clv a = true) (h : fv_de ρ τ = fv_de ρ' τ') (hb : b.map (fv_de ρ) = b'.map (fv_de ρ')) : (a ++ τ :: b).map (fv_de ρ) = (a ++ τ' :: b').map (fv_de ρ') := by
  rw [List.map_append, List.map_append, List.map_cons, List.map_cons, fv_mapc (ρ' := ρ') ha, h, hb]
theorem fv_oW_map {ρ ρ' : Nat → Int32} {τ τ' : Nat} (h : fv_de ρ τ = fv_de ρ' τ') : (fv_oW τ).2.2.map (fv_de ρ) = (fv_oW τ').2.2.map (fv_de ρ') := fv_map1 (a := [34, 42, 66, 0, 0, 0, 0, 0]) (b := [90, 0, 0, 0, 0]) (b' := [90, 0, 0, 0, 0]) rfl h (fv_mapc rfl)
theorem fv_oM_map {ρ ρ' : Nat → Int32} {τ τ' σ σ' : Nat} (h : fv_de ρ τ = fv_de ρ' τ') (h2 : fv_de ρ σ = fv_de ρ' σ') : (fv_oM τ σ).2.2.map (fv_de ρ) = (fv_oM τ' σ').2.2.map (fv_de ρ') :=
  fv_map1 (a := [0]) (b := [8, 7818, 0, 7826, 7898, 0, 0, 0, 5, 5, 0, 0, 0, 7906, 7914, 7922, 7930, 0, 7938, 7946, 7954] ++ σ :: [7962, 0, 0, 0, 4, 0, 0, 0, 0, 0, 0, 7970, 7978, 7986, 7994, 8002, 8010, 8018, 8026, 8034, 8042, 8050, 8058, 8066, 8074, 8082, 8090, 8098, 8106, 8114, 8122, 8130, 8138, 8146, 8154, 8162, 8170, 8178, 8186, 8194, 8202, 8210, 8218, 0, 8226, 8234, 8242, 8250, 8258, 8266, 8274, 0, 0, 0, 0, 8282, 0, 8290, 8298, 8306, 8314, 8322, 8330, 8338, 8346, 0, 8354, 8362, 8370, 8378, 8386, 8394]) (b' := [8, 7818, 0, 7826, 7898, 0, 0, 0, 5, 5, 0, 0, 0, 7906, 7914, 7922, 7930, 0, 7938, 7946, 7954] ++ σ' :: [7962, 0, 0, 0, 4, 0, 0, 0, 0, 0, 0, 7970, 7978, 7986, 7994, 8002, 8010, 8018, 8026, 8034, 8042, 8050, 8058, 8066, 8074, 8082, 8090, 8098, 8106, 8114, 8122, 8130, 8138, 8146, 8154, 8162, 8170, 8178, 8186, 8194, 8202, 8210, 8218, 0, 8226, 8234, 8242, 8250, 8258, 8266, 8274, 0, 0, 0, 0, 8282, 0, 8290, 8298, 8306, 8314, 8322, 8330, 8338, 8346, 0, 8354, 8362, 8370, 8378, 8386, 8394]) rfl h (fv_map1 (a := [8, 7818, 0, 7826, 7898, 0, 0, 0, 5, 5, 0, 0, 0, 7906, 7914, 7922, 7930, 0, 7938, 7946, 7954]) (b := [7962, 0, 0, 0, 4, 0, 0, 0, 0, 0, 0, 7970, 7978, 7986, 7994, 8002, 8010, 8018, 8026, 8034, 8042, 8050, 8058, 8066, 8074, 8082, 8090, 8098, 8106, 8114, 8122, 8130, 8138, 8146, 8154, 8162, 8170, 8178, 8186, 8194, 8202, 8210, 8218, 0, 8226, 8234, 8242, 8250, 8258, 8266, 8274, 0, 0, 0, 0, 8282, 0, 8290, 8298, 8306, 8314, 8322, 8330, 8338, 8346, 0, 8354, 8362, 8370, 8378, 8386, 8394]) (b' := [7962, 0, 0, 0, 4, 0, 0, 0, 0, 0, 0, 7970, 7978, 7986, 7994, 8002, 8010, 8018, 8026, 8034, 8042, 8050, 8058, 8066, 8074, 8082, 8090, 8098, 8106, 8114, 8122, 8130, 8138, 8146, 8154, 8162, 8170, 8178, 8186, 8194, 8202, 8210, 8218, 0, 8226, 8234, 8242, 8250, 8258, 8266, 8274, 0, 0, 0, 0, 8282, 0, 8290, 8298, 8306, 8314, 8322, 8330, 8338, 8346, 0, 8354, 8362, 8370, 8378, 8386, 8394]) rfl h2 (fv_mapc rfl))
theorem fv_ag_X {ρ ρ' : Nat → Int32} {τ τ' : Nat} (h : fv_de ρ τ = fv_de ρ' τ') : fv_ag ρ ρ' (fv_TX τ) (fv_TX τ') :=
  fv_ag_hs (a := 3) (o := fv_oW τ) (o' := fv_oW τ') (fv_ag_clo fv_T0s fv_T0c) (by decide) rfl rfl (fv_oW_map h)
theorem fv_ag_X0 {ρ ρ' : Nat → Int32} {τ' : Nat} (h : fv_de ρ 0 = fv_de ρ' τ') : fv_ag ρ ρ' fv_T0 (fv_TX τ') := by
  refine fv_ag_here (a := 3) (o' := fv_oW τ') (fv_ag_clo fv_T0s fv_T0c) (by decide) ?_ ?_ ?_
  · rw [fv_T0a]
    rfl
  · rw [fv_T0a]
    rfl
  · rw [fv_T0a]
    exact fv_oW_map h
theorem fv_ag_O {ρ ρ' : Nat → Int32} {τ τ' o o' : Nat} (h : fv_de ρ τ = fv_de ρ' τ') (h2 : fv_de ρ o = fv_de ρ' o') : fv_ag ρ ρ' (fv_TO τ o) (fv_TO τ' o') :=
  fv_ag_hs (a := 1050) (o := fv_oO o) (o' := fv_oO o') (fv_ag_X h) (by decide) rfl rfl (fv_map1 (a := []) (b := []) (b' := []) rfl h2 (fv_mapc rfl))
theorem fv_ag_M {ρ ρ' : Nat → Int32} {τ τ' o o' τ1 τ1' σ σ' : Nat} (h : fv_de ρ τ = fv_de ρ' τ') (h2 : fv_de ρ o = fv_de ρ' o') (h3 : fv_de ρ τ1 = fv_de ρ' τ1') (h4 : fv_de ρ σ = fv_de ρ' σ') : fv_ag ρ ρ' (fv_TM τ o τ1 σ) (fv_TM τ' o' τ1' σ') :=
  fv_ag_hs (a := 976) (o := fv_oM τ1 σ) (o' := fv_oM τ1' σ') (fv_ag_O h h2) (by decide) rfl rfl (fv_oM_map h3 h4)
section FVP
variable {cds : List am_Cd} {x : Nat → Int32} {M : Nat}
theorem fv_Sx_k {s t kk : Int32} {lv : am_V} {h : am_H} (hS : fv_Sx sc x s t kk lv h) : am_ld lv 4 = some (.int kk) := hS.1 4 (by decide)
theorem fv_Sx_2 {s t kk : Int32} {lv : am_V} {h : am_H} (hS : fv_Sx sc x s t kk lv h) : am_ld lv 2 = some (.int (sc.getD 2 0)) := hS.1 2 (by decide)
theorem fv_roundX (hsc : sc.length ≤ 13) (hms : am_msok cds am_ms) (hb : 2147483649 ≤ fv_of (sc.getD 2 0) ∧ fv_of (sc.getD 2 0) < 2147483849) {s t kk : Int32} {lv : am_V} {h : am_H} (hk : ¬ sc.getD 2 0 ≤ kk) (hS : fv_Sx sc x s t kk lv h) :
    ∃ lv2 h2, fv_Sx sc x (fv_p1 s t).1 (fv_p1 s t).2 (kk + Int32.ofNat 1) lv2 h2 ∧ ∀ fin thr, fv_G sc (am_ca sc cds 12) am_noT am_k169 [] fin thr 6 lv2 [] h2 → fv_G sc (am_ca sc cds 12) am_noT am_k169 [] fin thr 6 lv [] h := by
  have ho := fv_evs_ok (CT := am_noT) hsc (fv_rho_rh s t kk x) (fv_cal_ok hsc (fv_rho_rh s t kk x) hms (fv_533 hms) 12) 1000 7 _ _ _ _ _ lv h fv_x2 (fv_iok_p hb) hS.1 hS.2
  rcases ho with ⟨lvN, st2, n2, T2, iv2, lv2, h2, g1, g2, g3, g4, g5⟩ | ⟨vs, n2, T2, iv2, v, h2, g1, -⟩ | ⟨y, n2, T2, iv2, h2, -, g1, -⟩
  · obtain ⟨a1, k1⟩ := fv_iff (show fv_if (fv_bL st2 []) _ false = true from g1)
    obtain ⟨a2, k2⟩ := fv_iff k1
    obtain ⟨a3, k3⟩ := fv_iff k2
    obtain ⟨a4, k4⟩ := fv_iff k3
    obtain ⟨a5, k5⟩ := fv_iff k4
    have e1 := fv_bL_t a1
    have e2 := fv_beq a2
    clear g1 k1 k2 k3 k4 a1 a2
    subst e1
    subst e2
    rw [fv_nth_eq] at a3 a4 a5
    have a3 := fv_beq a3
    have a4 := fv_beq a4
    have a5 := fv_beq a5
    rw [fv_nth_eq, fv_nth_eq] at k5
    obtain ⟨τ, b1, b2, b3⟩ := fv_qx_ok k5 (g2 51).1 (g2 51).2
    have b1 := fv_bT_t b1
    subst b1
    have hS2 : fv_Sx sc x (fv_p1 s t).1 (fv_p1 s t).2 (kk + Int32.ofNat 1) lv2 h2 := by
      refine ⟨fv_L5 g3 (fv_8 (Or.inr ?_) (Or.inl rfl) (Or.inr ?_) (Or.inr ?_) (Or.inr ?_) (fun i => Or.inl (fv_777 i))), fv_ag_rel ?_ g4⟩
      · rw [a3]
        exact ⟨by decide, fv_eqv (u := .ref 0) rfl rfl⟩
      · rw [a4]
        exact ⟨by decide, fv_eqv (u := .int (sc.getD 2 0)) rfl rfl⟩
      · refine ⟨fun z => ?_, b2⟩
        rw [z] at b2
        exact Value.noConfusion (show Value.null = Value.int _ from b2)
      · rw [a5]
        exact ⟨by decide, fv_eqv (u := .int (kk + Int32.ofNat 1)) rfl rfl⟩
      · exact fv_ag_X b3
    refine ⟨lv2, h2, hS2, fun fin thr g => ?_⟩
    exact fv_g_icF (c := .ge) (o := 30) rfl (fv_head (fv_Sx_k hS) (fv_Sx_2 hS)) hk (g5 fin thr g)
  · exact absurd g1 Bool.false_ne_true
  · exact absurd g1 Bool.false_ne_true
theorem fv_loopX (hsc : sc.length ≤ 13) (hms : am_msok cds am_ms) (h1 : 1 ≤ M) (hM : M ≤ 200) (hm : sc.getD 2 0 = Int32.ofNat M) (j : Nat) : ∀ (k : Nat) (s t : Int32) (lv : am_V) (h : am_H), k + j = M → fv_Sx sc x s t (Int32.ofNat k) lv h →
    ∃ lv2 h2, fv_Sx sc x (fv_pl j s t).1 (fv_pl j s t).2 (Int32.ofNat M) lv2 h2 ∧ ∀ fin thr, fv_G sc (am_ca sc cds 12) am_noT am_k169 [] fin thr 30 lv2 [] h2 → fv_G sc (am_ca sc cds 12) am_noT am_k169 [] fin thr 6 lv [] h := by
  induction j with
  | zero =>
    intro k s t lv h hk hS
    have hk : k = M := hk
    have l2 := fv_Sx_2 hS
    have lk := fv_Sx_k hS
    rw [hm, ← hk] at l2
    exact ⟨lv, h, by rw [← hk]; exact hS, fun fin thr g => fv_g_icT (c := .ge) (o := 30) rfl (fv_head lk l2) (Int32.le_refl _) g⟩
  | succ j ih =>
    intro k s t lv h hk hS
    have hb : 2147483649 ≤ fv_of (sc.getD 2 0) ∧ fv_of (sc.getD 2 0) < 2147483849 := by
      rw [hm, fv_of_nat]
      omega
    have hk3 : ¬ sc.getD 2 0 ≤ Int32.ofNat k := fun z => by
      rw [hm] at z
      exact absurd (fv_lt32 (show M < 2147483648 by omega) (show k < M by omega)) (Int32.not_lt.mpr z)
    obtain ⟨lv2, h2, hS2, g1⟩ := fv_roundX (cds := cds) hsc hms hb hk3 hS
    rw [← Int32.ofNat_add] at hS2
    obtain ⟨lv3, h3, c1, c2⟩ := ih (k + 1) _ _ lv2 h2 (by omega) hS2
    exact ⟨lv3, h3, c1, fun fin thr g => g1 fin thr (c2 fin thr g)⟩
theorem fv_Sm_k {s t kk : Int32} {lv : am_V} {h : am_H} (hS : fv_Sm sc x s t kk lv h) : am_ld lv 3 = some (.int kk) := hS.1 3 (by decide)
theorem fv_Sm_2 {s t kk : Int32} {lv : am_V} {h : am_H} (hS : fv_Sm sc x s t kk lv h) : am_ld lv 2 = some (.int (sc.getD 2 0)) := hS.1 2 (by decide)
theorem fv_roundM (hsc : sc.length ≤ 13) (hms : am_msok cds am_ms) (hb : 2147483649 ≤ fv_of (sc.getD 2 0) ∧ fv_of (sc.getD 2 0) < 2147483849) {s t kk : Int32} {lv : am_V} {h : am_H} (hk : ¬ sc.getD 2 0 ≤ kk) (hS : fv_Sm sc x s t kk lv h) :
    ∃ lv2 h2, fv_Sm sc x (fv_p1 s t).1 (fv_p1 s t).2 (kk + Int32.ofNat 1) lv2 h2 ∧ ∀ fin thr, fv_G sc (am_ca sc cds 13) am_noT am_k332 [] fin thr 8 lv2 [] h2 → fv_G sc (am_ca sc cds 13) am_noT am_k332 [] fin thr 8 lv [] h := by
  have ho := fv_evs_ok (CT := am_noT) hsc (fv_rho_rh s t kk x) (fv_cal_ok hsc (fv_rho_rh s t kk x) hms (fv_533 hms) 13) 1000 9 _ _ _ _ _ lv h fv_y2 (fv_iok_p hb) hS.1 hS.2
  rcases ho with ⟨lvN, st2, n2, T2, iv2, lv2, h2, g1, g2, g3, g4, g5⟩ | ⟨vs, n2, T2, iv2, v, h2, g1, -⟩ | ⟨y, n2, T2, iv2, h2, -, g1, -⟩
  · obtain ⟨a1, k1⟩ := fv_iff (show fv_if (fv_bL st2 []) _ false = true from g1)
    obtain ⟨a2, k2⟩ := fv_iff k1
    obtain ⟨a3, k3⟩ := fv_iff k2
    obtain ⟨a4, k4⟩ := fv_iff k3
    obtain ⟨a5, k5⟩ := fv_iff k4
    have e1 := fv_bL_t a1
    have e2 := fv_beq a2
    clear g1 k1 k2 k3 k4 a1 a2
    subst e1
    subst e2
    rw [fv_nth_eq] at a3 a4 a5
    have a3 := fv_beq a3
    have a4 := fv_beq a4
    have a5 := fv_beq a5
    rw [fv_o_eq, fv_nth_eq, fv_nth_eq] at k5
    generalize (fv_hg T2 976).2.2.getD 23 7 = S at k5
    obtain ⟨τ, b1, b2, b3⟩ := fv_qx_ok k5 (g2 51).1 (g2 51).2
    have b1 := fv_bT_t b1
    subst b1
    have hS2 : fv_Sm sc x (fv_p1 s t).1 (fv_p1 s t).2 (kk + Int32.ofNat 1) lv2 h2 := by
      refine ⟨fv_L5 g3 (fv_8 (Or.inr ?_) (Or.inl rfl) (Or.inr ?_) (Or.inr ?_) (Or.inl rfl) (fun i => Or.inl (fv_777 i))), fv_ag_rel ?_ g4⟩
      · rw [a3]
        exact ⟨by decide, fv_eqv (u := .ref 976) rfl rfl⟩
      · rw [a4]
        exact ⟨by decide, fv_eqv (u := .int (sc.getD 2 0)) rfl rfl⟩
      · rw [a5]
        exact ⟨by decide, fv_eqv (u := .int (kk + Int32.ofNat 1)) rfl rfl⟩
      · exact fv_ag_M (fv_eqv (u := .int (x 101)) rfl rfl) (fv_eqv (u := .long (x 101).toInt64) rfl rfl) b3 b2
    refine ⟨lv2, h2, hS2, fun fin thr g => ?_⟩
    exact fv_g_icF (c := .ge) (o := 30) rfl (fv_head (fv_Sm_k hS) (fv_Sm_2 hS)) hk (g5 fin thr g)
  · exact absurd g1 Bool.false_ne_true
  · exact absurd g1 Bool.false_ne_true
theorem fv_loopM (hsc : sc.length ≤ 13) (hms : am_msok cds am_ms) (h1 : 1 ≤ M) (hM : M ≤ 200) (hm : sc.getD 2 0 = Int32.ofNat M) (j : Nat) : ∀ (k : Nat) (s t : Int32) (lv : am_V) (h : am_H), k + j = M → fv_Sm sc x s t (Int32.ofNat k) lv h →
    ∃ lv2 h2, fv_Sm sc x (fv_pl j s t).1 (fv_pl j s t).2 (Int32.ofNat M) lv2 h2 ∧ ∀ fin thr, fv_G sc (am_ca sc cds 13) am_noT am_k332 [] fin thr 30 lv2 [] h2 → fv_G sc (am_ca sc cds 13) am_noT am_k332 [] fin thr 8 lv [] h := by
  induction j with
  | zero =>
    intro k s t lv h hk hS
    have hk : k = M := hk
    have l2 := fv_Sm_2 hS
    have lk := fv_Sm_k hS
    rw [hm, ← hk] at l2
    exact ⟨lv, h, by rw [← hk]; exact hS, fun fin thr g => fv_g_icT (c := .ge) (o := 30) rfl (fv_head lk l2) (Int32.le_refl _) g⟩
  | succ j ih =>
    intro k s t lv h hk hS
    have hb : 2147483649 ≤ fv_of (sc.getD 2 0) ∧ fv_of (sc.getD 2 0) < 2147483849 := by
      rw [hm, fv_of_nat]
      omega
    have hk3 : ¬ sc.getD 2 0 ≤ Int32.ofNat k := fun z => by
      rw [hm] at z
      exact absurd (fv_lt32 (show M < 2147483648 by omega) (show k < M by omega)) (Int32.not_lt.mpr z)
    obtain ⟨lv2, h2, hS2, g1⟩ := fv_roundM (cds := cds) hsc hms hb hk3 hS
    rw [← Int32.ofNat_add] at hS2
    obtain ⟨lv3, h3, c1, c2⟩ := ih (k + 1) _ _ lv2 h2 (by omega) hS2
    exact ⟨lv3, h3, c1, fun fin thr g => g1 fin thr (c2 fin thr g)⟩
/-- what the rounds come to -/
def fv_tF (sc : List Int32) (M : Nat) : Int32 := (fv_pl M (sc.getD 1 0) (Int32.ofNat 0)).2
def fv_sF (sc : List Int32) (M : Nat) : Int32 := (fv_pl M (sc.getD 1 0) (Int32.ofNat 0)).1
def fv_rL (sc : List Int32) (M : Nat) : Nat → Int32 := fv_rho sc (Int32.ofNat 0) (fv_tF sc M) (Int32.ofNat 0) (fun _ => fv_sF sc M)
theorem fv_one {v : Option Value} {w : Value} (h : v.toList = [w]) : v = some w := by
  cases v with
  | none => cases h
  | some u =>
    cases h
    rfl
theorem fv_xplay (hsc : sc.length ≤ 13) (hms : am_msok cds am_ms) (h1 : 1 ≤ M) (hM : M ≤ 200) (hm : sc.getD 2 0 = Int32.ofNat M) (h : am_H) (hr : fv_rel (fv_rL sc M) 299443227 fv_T0 h) :
    ∃ (v : Option Value) (h2 : am_H), v.toList = ([169] : List Nat).map (fv_de (fv_rL sc M)) ∧ fv_rel (fv_rL sc M) 299443227 (fv_TX 169) h2 ∧ am_ca sc cds 13 169 (([2, 9, 17] : List Nat).map (fv_de (fv_rL sc M))) h v h2 := by
  have hb : 2147483649 ≤ fv_of (sc.getD 2 0) ∧ fv_of (sc.getD 2 0) < 2147483849 := by
    rw [hm, fv_of_nat]
    omega
  have hρ : fv_rh sc (fv_rL sc M) := fv_rho_rh _ _ _ _
  have ho := fv_evs_ok (CT := am_noT) hsc hρ (fv_cal_ok hsc hρ hms (fv_533 hms) 12) 1000 0 _ _ _ _ _ _ h fv_x1 (fv_iok_p hb) (fv_L_args [2, 9, 17] 8) hr
  rcases ho with ⟨lvN, st2, n2, T2, iv2, lv2, h2, g1, g2, g3, g4, g5⟩ | ⟨vs, n2, T2, iv2, v, h2, g1, -⟩ | ⟨y, n2, T2, iv2, h2, -, g1, -⟩
  · obtain ⟨a1, g1⟩ := fv_iff (show fv_if (fv_bL lvN _) _ false = true from g1)
    obtain ⟨a2, g1⟩ := fv_iff g1
    obtain ⟨a3, g1⟩ := fv_iff g1
    have a1 := fv_bL_t a1
    have a2 := fv_bL_t a2
    have a3 := fv_beq a3
    have a4 := fv_bT_t g1
    subst a1
    subst a2
    subst a3
    subst a4
    have hS : fv_Sx sc (fun _ => fv_tF sc M) (sc.getD 1 0) (Int32.ofNat 0) (Int32.ofNat 0) lv2 h2 := by
      refine ⟨fv_L5 g3 (fv_8 (Or.inr ⟨by decide, fv_eqv (u := .ref 0) rfl rfl⟩) (Or.inl rfl) (Or.inr ⟨by decide, fv_eqv (u := .int (sc.getD 2 0)) rfl rfl⟩) (Or.inr ⟨by decide, fv_eqv (u := .int (sc.getD 1 0)) rfl rfl⟩) (Or.inr ⟨by decide, fv_eqv (u := .int (Int32.ofNat 0)) rfl rfl⟩) (fun i => Or.inl (fv_777 i))), fv_ag_rel (fv_ag_X0 (fv_eqv (u := .int (Int32.ofNat 0)) rfl rfl)) g4⟩
    obtain ⟨lv3, h3, c1, c2⟩ := fv_loopX hsc hms h1 hM hm M 0 _ _ lv2 h2 (by omega) hS
    have hρ3 := fv_rho_rh (sc := sc) (fv_sF sc M) (fv_tF sc M) (Int32.ofNat M) (fun _ => fv_tF sc M)
    have he := fv_evs_ok (CT := am_noT) hsc hρ3 (fv_cal_ok hsc hρ3 hms (fv_533 hms) 12) 1000 30 _ _ _ _ _ lv3 h3 fv_x3 fv_iok_nil c1.1 c1.2
    rcases he with ⟨_, _, _, _, _, _, _, d1, -⟩ | ⟨vs, n2, T2, iv2, v, h4, d1, d2, d3, d4, d5⟩ | ⟨y, n2, T2, iv2, h2, -, d1, -⟩
    · exact absurd d1 Bool.false_ne_true
    · obtain ⟨e1, d1⟩ := fv_iff (show fv_if (fv_bL vs _) _ false = true from d1)
      obtain ⟨e2, d1⟩ := fv_iff d1
      have e1 := fv_bL_t e1
      have e2 := fv_beq e2
      have e3 := fv_bT_t d1
      subst e1
      subst e2
      subst e3
      have hv : v = some (.int (fv_tF sc M)) := fv_one d4
      subst hv
      exact ⟨_, h4, rfl, fv_ag_rel (fv_ag_X (fv_eqv (u := .int (fv_tF sc M)) rfl rfl)) d3, fv_ca_in hms (mx := 8) (ty := some .int) (code := am_k169) rfl rfl (Nat.le_add_left 3 5) (g5 _ _ (c2 _ _ (d5 _ _ ⟨rfl, rfl⟩)))⟩
    · exact absurd d1 Bool.false_ne_true
  · exact absurd g1 Bool.false_ne_true
  · exact absurd g1 Bool.false_ne_true
theorem fv_mplay (hsc : sc.length ≤ 13) (hms : am_msok cds am_ms) (h1 : 1 ≤ M) (hM : M ≤ 200) (hm : sc.getD 2 0 = Int32.ofNat M) (h : am_H) (hr : fv_rel (fv_rL sc M) 299443227 (fv_TO 169 174) h) :
    ∃ (v : Option Value) (h2 : am_H), v.toList = ([169] : List Nat).map (fv_de (fv_rL sc M)) ∧ fv_rel (fv_rL sc M) 299443227 (fv_TM 169 174 169 801) h2 ∧ am_ca sc cds 14 332 (([7810, 9, 17] : List Nat).map (fv_de (fv_rL sc M))) h v h2 := by
  have hb : 2147483649 ≤ fv_of (sc.getD 2 0) ∧ fv_of (sc.getD 2 0) < 2147483849 := by
    rw [hm, fv_of_nat]
    omega
  have hρ : fv_rh sc (fv_rL sc M) := fv_rho_rh _ _ _ _
  have ho := fv_evs_ok (CT := am_noT) hsc hρ (fv_cal_ok hsc hρ hms (fv_533 hms) 13) 1000 0 _ _ _ _ _ _ h fv_y1 (fv_iok_p hb) (fv_L_args [7810, 9, 17] 8) hr
  rcases ho with ⟨lvN, st2, n2, T2, iv2, lv2, h2, g1, g2, g3, g4, g5⟩ | ⟨vs, n2, T2, iv2, v, h2, g1, -⟩ | ⟨y, n2, T2, iv2, h2, -, g1, -⟩
  · obtain ⟨a1, g1⟩ := fv_iff (show fv_if (fv_bL lvN _) _ false = true from g1)
    obtain ⟨a2, g1⟩ := fv_iff g1
    obtain ⟨a3, g1⟩ := fv_iff g1
    have a1 := fv_bL_t a1
    have a2 := fv_bL_t a2
    have a3 := fv_beq a3
    have a4 := fv_bT_t g1
    subst a1
    subst a2
    subst a3
    subst a4
    have hS : fv_Sm sc (fun _ => fv_tF sc M) (sc.getD 1 0) (Int32.ofNat 0) (Int32.ofNat 0) lv2 h2 := by
      refine ⟨fv_L5 g3 (fv_8 (Or.inr ⟨by decide, fv_eqv (u := .ref 976) rfl rfl⟩) (Or.inl rfl) (Or.inr ⟨by decide, fv_eqv (u := .int (sc.getD 2 0)) rfl rfl⟩) (Or.inr ⟨by decide, fv_eqv (u := .int (Int32.ofNat 0)) rfl rfl⟩) (Or.inl rfl) (fun i => Or.inl (fv_777 i))), fv_ag_rel ?_ g4⟩
      exact fv_ag_M (fv_eqv (u := .int (fv_tF sc M)) rfl rfl) (fv_eqv (u := .long (fv_tF sc M).toInt64) rfl rfl) (fv_eqv (u := .int (Int32.ofNat 0)) rfl rfl) (fv_eqv (u := .int (sc.getD 1 0)) rfl rfl)
    obtain ⟨lv3, h3, c1, c2⟩ := fv_loopM hsc hms h1 hM hm M 0 _ _ lv2 h2 (by omega) hS
    have hρ3 := fv_rho_rh (sc := sc) (fv_sF sc M) (fv_tF sc M) (Int32.ofNat M) (fun _ => fv_tF sc M)
    have he := fv_evs_ok (CT := am_noT) hsc hρ3 (fv_cal_ok hsc hρ3 hms (fv_533 hms) 13) 1000 30 _ _ _ _ _ lv3 h3 fv_y3 fv_iok_nil c1.1 c1.2
    rcases he with ⟨_, _, _, _, _, _, _, d1, -⟩ | ⟨vs, n2, T2, iv2, v, h4, d1, d2, d3, d4, d5⟩ | ⟨y, n2, T2, iv2, h2, -, d1, -⟩
    · exact absurd d1 Bool.false_ne_true
    · obtain ⟨e1, d1⟩ := fv_iff (show fv_if (fv_bL vs _) _ false = true from d1)
      obtain ⟨e2, d1⟩ := fv_iff d1
      have e1 := fv_bL_t e1
      have e2 := fv_beq e2
      have e3 := fv_bT_t d1
      subst e1
      subst e2
      subst e3
      have hv : v = some (.int (fv_tF sc M)) := fv_one d4
      subst hv
      exact ⟨_, h4, rfl, fv_ag_rel (fv_ag_M (fv_eqv (u := .int (fv_tF sc M)) rfl rfl) (fv_eqv (u := .long (fv_tF sc M).toInt64) rfl rfl) (fv_eqv (u := .int (fv_tF sc M)) rfl rfl) (fv_eqv (u := .int (fv_sF sc M)) rfl rfl)) d3, fv_ca_in hms (mx := 8) (ty := some .int) (code := am_k332) rfl rfl (Nat.le_add_left 3 5) (g5 _ _ (c2 _ _ (d5 _ _ ⟨rfl, rfl⟩)))⟩
    · exact absurd d1 Bool.false_ne_true
  · exact absurd g1 Bool.false_ne_true
  · exact absurd g1 Bool.false_ne_true
end FVP
