variable {sc : List Int32}
/-! ALL CALLS on the new object: the law comes to its end with 1 -/
def fv_ok (sc : List Int32) (lv : am_V) (h : am_H) : Prop := ∃ hh : am_H, hh.length ≤ 600002 ∧ am_sz hh ≤ 7302232 ∧ ∀ fin thr, fin (some (.int 1)) hh → ∃ k, am_go sc (fv_CL sc am_cds 12) am_noT am_kL [] fin thr k 3 lv [] h
theorem fv_de8 (ρ : Nat → Int32) : fv_de ρ 8 = .int 1 := rfl
theorem fv_case {ρ : Nat → Int32} {cal : fv_Cl} {CT0 : am_Rt} (hsc : sc.length ≤ 13) (hρ : fv_rh sc ρ) (hcal : fv_cok ρ cal (fv_CL sc am_cds 12) CT0) {iv : fv_Iv} (hx : fv_evs cal am_kL 1000 (fun _ _ _ _ _ => false) fv_fin 100000 3 fv_lv0 [] 299443227 fv_T0 iv = true) (io : fv_iok ρ iv) {lv : am_V} {h : am_H} (hl : fv_L ρ fv_lv0 lv) (hr : fv_rel ρ 299443227 fv_T0 h) : fv_ok sc lv h := by
  rcases fv_evs_ok (CT := am_noT) hsc hρ hcal 100000 3 _ _ _ _ _ lv h hx io hl hr with ⟨_, _, _, _, _, _, _, g1, -⟩ | ⟨vs, n2, T2, iv2, v, h2, g1, g2, g3, g4, g5⟩ | ⟨_, _, _, _, _, -, g1, -⟩
  · exact absurd g1 Bool.false_ne_true
  · obtain ⟨a1, a2⟩ := fv_iff (show fv_if (fv_bL vs [8]) (Nat.ble (Nat.div n2 2048) 7302232) false = true from g1)
    have e1 := fv_bL_t a1
    subst e1
    have hv : v = some (.int 1) := fv_one (w := .int 1) (by rw [g4]; show [fv_de ρ 8] = _; rw [fv_de8])
    have a2 := fv_ble a2
    rw [fv_div_h] at a2
    have z1 : h2.length ≤ 1331 := g3.2.2.1
    have z2 : am_sz h2 = n2 / 2048 := g3.2.2.2.1
    exact ⟨h2, by omega, by omega, fun fin thr hf => g5 fin thr (by rw [hv]; exact hf)⟩
  · exact absurd g1 Bool.false_ne_true
/-- other unknowns: the start has none -/
theorem fv_L_0 {ρ ρ' : Nat → Int32} {lv : am_V} (h : fv_L ρ fv_lv0 lv) : fv_L ρ' fv_lv0 lv := by
  refine fv_L5 h (fv_8 (Or.inr ⟨by decide, fv_eqv (u := .retAddr 2000) rfl rfl⟩) (Or.inr ⟨by decide, fv_eqv (u := .ref 0) rfl rfl⟩) (Or.inr ⟨by decide, fv_eqv (u := .ref 976) rfl rfl⟩) (Or.inr ⟨by decide, fv_eqv (u := .ref 1050) rfl rfl⟩) (Or.inr ⟨by decide, fv_eqv (u := .int (Int32.ofNat 0)) rfl rfl⟩) (fun i => Or.inl ?_))
  match i with
  | 0 => rfl
  | 1 => rfl
  | 2 => rfl
  | 3 => rfl
  | i + 4 => rfl
theorem fv_rel_0 {ρ ρ' : Nat → Int32} {h : am_H} (hr : fv_rel ρ 299443227 fv_T0 h) : fv_rel ρ' 299443227 fv_T0 h := fv_ag_rel (fv_ag_clo fv_T0s fv_T0c) hr
def fv_r0 (sc : List Int32) : Nat → Int32 := fv_rho sc (Int32.ofNat 0) (Int32.ofNat 0) (Int32.ofNat 0) (fun _ => Int32.ofNat 0)
theorem fv_r0h : fv_rh sc (fv_r0 sc) := fv_rho_rh _ _ _ _
theorem fv_cwk (hsc : sc.length ≤ 13) {ρ : Nat → Int32} (hρ : fv_rh sc ρ) : fv_cok ρ (fv_cw am_ms am_ws 12) (fv_CL sc am_cds 12) (fun y As h x h2 => fv_ctd sc am_cds 14 y As h x h2) := fv_cw_ok hsc hρ am_msok_all fv_wok_all (fv_533 am_msok_all) 12
/-- bounds -/
theorem fv_iok_q {ρ : Nat → Int32} {lo hi : Nat} (h1 : 2147483648 + lo ≤ fv_of (ρ 13)) (h2 : fv_of (ρ 13) < 2147483648 + hi) (h15 : ρ 15 = Int32.ofNat 13) : fv_iok ρ (fv_ivq lo hi) := by
  have e : fv_ivq lo hi = fv_set (fv_set (List.replicate 16 (0, 4294967296)) 13 (2147483648 + lo, 2147483648 + hi)) 15 (2147483661, 2147483662) := rfl
  rw [e]
  exact fv_iok_set (u := 15) (fv_iok_set (u := 13) (fv_iok_rep 16) h1 h2) (by rw [h15]; decide) (by rw [h15]; decide)
theorem fv_iok_r {ρ : Nat → Int32} {lo hi a b c d : Nat} (h1 : 2147483648 + lo ≤ fv_of (ρ 13)) (h2 : fv_of (ρ 13) < 2147483648 + hi) (h15 : ρ 15 = Int32.ofNat 13) (ha : a ≤ fv_of (ρ 1)) (hb : fv_of (ρ 1) < b) (hc : c ≤ fv_of (ρ 2)) (hd : fv_of (ρ 2) < d) : fv_iok ρ (fv_ivr lo hi a b c d) := by
  have e : fv_ivr lo hi a b c d = fv_set (fv_set (fv_set (fv_set (List.replicate 16 (0, 4294967296)) 1 (a, b)) 2 (c, d)) 13 (2147483648 + lo, 2147483648 + hi)) 15 (2147483661, 2147483662) := rfl
  rw [e]
  exact fv_iok_set (u := 15) (fv_iok_set (u := 13) (fv_iok_set (u := 2) (fv_iok_set (u := 1) (fv_iok_rep 16) ha hb) hc hd) h1 h2) (by rw [h15]; decide) (by rw [h15]; decide)
theorem fv_iok_l {ρ : Nat → Int32} {n : Nat} (hn : n < 13) (h15 : ρ 15 = Int32.ofNat n) : fv_iok ρ (fv_ivl n) := by
  have e : fv_ivl n = fv_set (List.replicate 16 (0, 4294967296)) 15 (2147483648 + n, 2147483649 + n) := rfl
  rw [e]
  refine fv_iok_set (u := 15) (fv_iok_rep 16) ?_ ?_
  · rw [h15, fv_of_nat]
    omega
  · rw [h15, fv_of_nat]
    omega
theorem fv_63 (x : Int32) : ∃ m : Nat, m < 64 ∧ x &&& 63 = Int32.ofNat m := by
  refine ⟨x.toBitVec.toNat &&& 63, Nat.lt_of_le_of_lt Nat.and_le_right (by decide), ?_⟩
  apply Int32.toBitVec_inj.1
  apply BitVec.eq_of_toNat_eq
  show (x.toBitVec &&& 63#32).toNat = (x.toBitVec.toNat &&& 63) % 4294967296
  rw [BitVec.toNat_and, Nat.mod_eq_of_lt]
  · rfl
  · exact Nat.lt_of_le_of_lt Nat.and_le_right (by decide)
section FVZ
variable {lv : am_V} {h : am_H} {m : Nat}
/-- a script too short for a call -/
theorem fv_short (hsc : sc.length < 13) {ρ : Nat → Int32} (hl : fv_L ρ fv_lv0 lv) (hr : fv_rel ρ 299443227 fv_T0 h) : fv_ok sc lv h :=
  fv_case (by omega) fv_r0h (fv_cwk (by omega) fv_r0h) (fv_cshort _ hsc) (fv_iok_l hsc rfl) (fv_L_0 hl) (fv_rel_0 hr)
theorem fv_onek (hsc : sc.length = 13) (hm : sc.getD 0 0 &&& 63 = Int32.ofNat m) (hm2 : m < 64) {ρ : Nat → Int32} (hl : fv_L ρ fv_lv0 lv) (hr : fv_rel ρ 299443227 fv_T0 h) {lo hi : Nat} (h1 : lo ≤ m) (h2 : m < hi) (hx : fv_cs (fv_ivq lo hi) = true) : fv_ok sc lv h := by
  have e13 : fv_of (fv_r0 sc 13) = 2147483648 + m := by
    show fv_of (sc.getD 0 0 &&& 63) = _
    rw [hm, fv_of_nat]
    omega
  exact fv_case (by omega) fv_r0h (fv_cwk (by omega) fv_r0h) hx (fv_iok_q (by omega) (by omega) (by show Int32.ofNat sc.length = _; rw [hsc])) (fv_L_0 hl) (fv_rel_0 hr)
theorem fv_onekr (hsc : sc.length = 13) (hm : sc.getD 0 0 &&& 63 = Int32.ofNat m) (hm2 : m < 64) {ρ : Nat → Int32} (hl : fv_L ρ fv_lv0 lv) (hr : fv_rel ρ 299443227 fv_T0 h) {lo hi a b c d : Nat} (h1 : lo ≤ m) (h2 : m < hi) (hx : fv_cs (fv_ivr lo hi a b c d) = true) (ha : a ≤ fv_of (sc.getD 1 0)) (hb : fv_of (sc.getD 1 0) < b) (hc : c ≤ fv_of (sc.getD 2 0)) (hd : fv_of (sc.getD 2 0) < d) : fv_ok sc lv h := by
  have e13 : fv_of (fv_r0 sc 13) = 2147483648 + m := by
    show fv_of (sc.getD 0 0 &&& 63) = _
    rw [hm, fv_of_nat]
    omega
  exact fv_case (by omega) fv_r0h (fv_cwk (by omega) fv_r0h) hx (fv_iok_r (by omega) (by omega) (by show Int32.ofNat sc.length = _; rw [hsc]) ha hb hc hd) (fv_L_0 hl) (fv_rel_0 hr)
/-- type -/
theorem fv_one0 (hsc : sc.length = 13) (hm : sc.getD 0 0 &&& 63 = Int32.ofNat 0) {ρ : Nat → Int32} (hl : fv_L ρ fv_lv0 lv) (hr : fv_rel ρ 299443227 fv_T0 h) : fv_ok sc lv h := by
  have hρ : fv_rh sc (fv_rT sc) := fv_rho_rh _ _ _ _
  have hs : sc.length ≤ 13 := by omega
  have e13 : fv_of (fv_rT sc 13) = 2147483648 := by
    show fv_of (sc.getD 0 0 &&& 63) = _
    rw [hm]
    rfl
  have hA := fv_o1_ok (fv_cal_ok hs hρ am_msok_all (fv_533 am_msok_all) 13) (fun h hr => fv_xtype am_msok_all h hr)
  have hB := fv_o1_ok (fv_cal_ok hs hρ am_msok_all (fv_533 am_msok_all) 14) (fun h hr => fv_mtype am_msok_all h hr)
  exact fv_case hs hρ (fv_cwG_ok hs hρ fv_wok_all 12 hA hB) fv_c0 (fv_iok_q (by omega) (by omega) (by show Int32.ofNat sc.length = _; rw [hsc])) (fv_L_0 hl) (fv_rel_0 hr)
/-- play, of 1 to 200 -/
theorem fv_one17 (hsc : sc.length = 13) (hm : sc.getD 0 0 &&& 63 = Int32.ofNat 17) {ρ : Nat → Int32} (hl : fv_L ρ fv_lv0 lv) (hr : fv_rel ρ 299443227 fv_T0 h) (hc : 2147483649 ≤ fv_of (sc.getD 2 0)) (hd : fv_of (sc.getD 2 0) < 2147483849) : fv_ok sc lv h := by
  obtain ⟨M, h1, h2, h3⟩ : ∃ M : Nat, 1 ≤ M ∧ M ≤ 200 ∧ sc.getD 2 0 = Int32.ofNat M := by
    refine ⟨fv_of (sc.getD 2 0) - 2147483648, by omega, by omega, ?_⟩
    apply fv_of_inj.1
    rw [fv_of_nat]
    omega
  have hρ : fv_rh sc (fv_rL sc M) := fv_rho_rh _ _ _ _
  have hs : sc.length ≤ 13 := by omega
  have e13 : fv_of (fv_rL sc M 13) = 2147483665 := by
    show fv_of (sc.getD 0 0 &&& 63) = _
    rw [hm]
    rfl
  have hA := fv_o1_ok (fv_cal_ok hs hρ am_msok_all (fv_533 am_msok_all) 13) (fun h hr => fv_xplay hs am_msok_all h1 h2 h3 h hr)
  have hB := fv_o1_ok (fv_cal_ok hs hρ am_msok_all (fv_533 am_msok_all) 14) (fun h hr => fv_mplay hs am_msok_all h1 h2 h3 h hr)
  exact fv_case hs hρ (fv_cwG_ok hs hρ fv_wok_all 12 hA hB) fv_c17b (fv_iok_r (by omega) (by omega) (by show Int32.ofNat sc.length = _; rw [hsc]) (Nat.zero_le _) (fv_of_lt _) hc hd) (fv_L_0 hl) (fv_rel_0 hr)
/-- put -/
theorem fv_one1 (hsc : sc.length = 13) (hm : sc.getD 0 0 &&& 63 = Int32.ofNat 1) {ρ : Nat → Int32} (hl : fv_L ρ fv_lv0 lv) (hr : fv_rel ρ 299443227 fv_T0 h) : fv_ok sc lv h := by
  have u := fv_of_lt (sc.getD 2 0)
  have key : ∀ {c d : Nat}, fv_cs (fv_ivr 1 2 0 4294967296 c d) = true → c ≤ fv_of (sc.getD 2 0) → fv_of (sc.getD 2 0) < d → fv_ok sc lv h := fun hx hc hd => fv_onekr hsc hm (by decide) hl hr (Nat.le_refl 1) (Nat.lt_succ_self 1) hx (Nat.zero_le _) (fv_of_lt _) hc hd
  by_cases z0 : fv_of (sc.getD 2 0) < 2147483649
  · exact key fv_c1_0 (by omega) z0
  by_cases z1 : fv_of (sc.getD 2 0) < 2147483723
  · exact key fv_c1_1 (by omega) z1
  by_cases z2 : fv_of (sc.getD 2 0) < 2147483754
  · exact key fv_c1_2 (by omega) z2
  by_cases z3 : fv_of (sc.getD 2 0) < 2147483777
  · exact key fv_c1_3 (by omega) z3
  by_cases z4 : fv_of (sc.getD 2 0) < 2147483798
  · exact key fv_c1_4 (by omega) z4
  by_cases z5 : fv_of (sc.getD 2 0) < 2147483815
  · exact key fv_c1_5 (by omega) z5
  by_cases z6 : fv_of (sc.getD 2 0) < 2147483831
  · exact key fv_c1_6 (by omega) z6
  by_cases z7 : fv_of (sc.getD 2 0) < 2147483846
  · exact key fv_c1_7 (by omega) z7
  by_cases z8 : fv_of (sc.getD 2 0) < 2147483860
  · exact key fv_c1_8 (by omega) z8
  by_cases z9 : fv_of (sc.getD 2 0) < 2147483873
  · exact key fv_c1_9 (by omega) z9
  by_cases z10 : fv_of (sc.getD 2 0) < 2147483885
  · exact key fv_c1_10 (by omega) z10
  by_cases z11 : fv_of (sc.getD 2 0) < 2147483896
  · exact key fv_c1_11 (by omega) z11
  by_cases z12 : fv_of (sc.getD 2 0) < 2147483907
  · exact key fv_c1_12 (by omega) z12
  by_cases z13 : fv_of (sc.getD 2 0) < 2147483918
  · exact key fv_c1_13 (by omega) z13
  by_cases z14 : fv_of (sc.getD 2 0) < 2147483928
  · exact key fv_c1_14 (by omega) z14
  by_cases z15 : fv_of (sc.getD 2 0) < 2147483938
  · exact key fv_c1_15 (by omega) z15
  by_cases z16 : fv_of (sc.getD 2 0) < 2147483949
  · exact key fv_c1_16 (by omega) z16
  exact key fv_c1_17 (by omega) u
/-- pass -/
theorem fv_one15 (hsc : sc.length = 13) (hm : sc.getD 0 0 &&& 63 = Int32.ofNat 15) {ρ : Nat → Int32} (hl : fv_L ρ fv_lv0 lv) (hr : fv_rel ρ 299443227 fv_T0 h) : fv_ok sc lv h := by
  have u := fv_of_lt (sc.getD 1 0)
  have key : ∀ {a b : Nat}, fv_cs (fv_ivr 15 16 a b 0 4294967296) = true → a ≤ fv_of (sc.getD 1 0) → fv_of (sc.getD 1 0) < b → fv_ok sc lv h := fun hx ha hb => fv_onekr hsc hm (by decide) hl hr (Nat.le_refl 15) (Nat.lt_succ_self 15) hx ha hb (Nat.zero_le _) (fv_of_lt _)
  by_cases z0 : fv_of (sc.getD 1 0) < 2147483649
  · exact key fv_c15_0 (by omega) z0
  by_cases z1 : fv_of (sc.getD 1 0) < 2147483699
  · exact key fv_c15_1 (by omega) z1
  by_cases z2 : fv_of (sc.getD 1 0) < 2147483721
  · exact key fv_c15_2 (by omega) z2
  by_cases z3 : fv_of (sc.getD 1 0) < 2147483736
  · exact key fv_c15_3 (by omega) z3
  by_cases z4 : fv_of (sc.getD 1 0) < 2147483749
  · exact key fv_c15_4 (by omega) z4
  exact key fv_c15_5 (by omega) u
/-- sum -/
theorem fv_one4 (hsc : sc.length = 13) (hm : sc.getD 0 0 &&& 63 = Int32.ofNat 4) {ρ : Nat → Int32} (hl : fv_L ρ fv_lv0 lv) (hr : fv_rel ρ 299443227 fv_T0 h) : fv_ok sc lv h := by
  have bx : ∀ x : Int32, ∃ q ∈ fv_bx, q.1 ≤ fv_of x ∧ fv_of x < q.2 := fun x => by
    have u := fv_of_lt x
    by_cases z1 : fv_of x < 2147483648
    · exact ⟨(0, 2147483648), by decide +kernel, Nat.zero_le _, z1⟩
    by_cases z2 : fv_of x < 2147483649
    · exact ⟨(2147483648, 2147483649), by decide +kernel, by show 2147483648 ≤ _; omega, z2⟩
    exact ⟨(2147483649, 4294967296), by decide +kernel, by show 2147483649 ≤ _; omega, u⟩
  obtain ⟨q1, m1, a1, a2⟩ := bx (sc.getD 1 0)
  obtain ⟨q2, m2, b1, b2⟩ := bx (sc.getD 2 0)
  exact fv_onekr hsc hm (by decide) hl hr (Nat.le_refl 4) (Nat.lt_succ_self 4) (List.all_eq_true.mp (List.all_eq_true.mp fv_c4 q1 m1) q2 m2) a1 a2 b1 b2
/-- every call -/
theorem fv_each (hsc : sc.length ≤ 13) {ρ : Nat → Int32} (hl : fv_L ρ fv_lv0 lv) (hr : fv_rel ρ 299443227 fv_T0 h) : fv_ok sc lv h := by
  by_cases hs : sc.length < 13
  · exact fv_short hs hl hr
  have hs13 : sc.length = 13 := by omega
  obtain ⟨m, hm2, hm⟩ := fv_63 (sc.getD 0 0)
  have key : ∀ {lo hi : Nat}, fv_cs (fv_ivq lo hi) = true → lo ≤ m → m < hi → fv_ok sc lv h := fun hx h1 h2 => fv_onek hs13 hm hm2 hl hr h1 h2 hx
  by_cases z0 : m = 0
  · subst z0
    exact fv_one0 hs13 hm hl hr
  by_cases z1 : m = 1
  · subst z1
    exact fv_one1 hs13 hm hl hr
  by_cases z4 : m = 4
  · subst z4
    exact fv_one4 hs13 hm hl hr
  by_cases z15 : m = 15
  · subst z15
    exact fv_one15 hs13 hm hl hr
  by_cases z17 : m = 17
  · subst z17
    have u := fv_of_lt (sc.getD 2 0)
    have key17 : ∀ {c d : Nat}, fv_cs (fv_ivr 17 18 0 4294967296 c d) = true → c ≤ fv_of (sc.getD 2 0) → fv_of (sc.getD 2 0) < d → fv_ok sc lv h := fun hx hc hd => fv_onekr hs13 hm (by decide) hl hr (Nat.le_refl 17) (Nat.lt_succ_self 17) hx (Nat.zero_le _) (fv_of_lt _) hc hd
    by_cases y1 : fv_of (sc.getD 2 0) < 2147483649
    · exact key17 fv_c17a (Nat.zero_le _) y1
    by_cases y2 : fv_of (sc.getD 2 0) < 2147483849
    · exact fv_one17 hs13 hm hl hr (by omega) y2
    exact key17 fv_c17c (by omega) u
  by_cases z2 : m = 2
  · exact key fv_c2 (by omega) (by omega)
  by_cases z3 : m = 3
  · exact key fv_c3 (by omega) (by omega)
  by_cases z5 : m = 5
  · exact key fv_c5 (by omega) (by omega)
  by_cases z6 : m = 6
  · exact key fv_c6 (by omega) (by omega)
  by_cases z7 : m = 7
  · exact key fv_c7 (by omega) (by omega)
  by_cases z8 : m = 8
  · exact key fv_c8 (by omega) (by omega)
  by_cases z9 : m = 9
  · exact key fv_c9 (by omega) (by omega)
  by_cases z10 : m = 10
  · exact key fv_c10 (by omega) (by omega)
  by_cases z11 : m = 11
  · exact key fv_c11 (by omega) (by omega)
  by_cases z12 : m = 12
  · exact key fv_c12 (by omega) (by omega)
  by_cases z13 : m = 13
  · exact key fv_c13 (by omega) (by omega)
  by_cases z14 : m = 14
  · exact key fv_c14 (by omega) (by omega)
  by_cases z16 : m = 16
  · exact key fv_c16 (by omega) (by omega)
  by_cases z18 : m = 18
  · exact key fv_c18 (by omega) (by omega)
  by_cases z19 : m = 19
  · exact key fv_c19 (by omega) (by omega)
  by_cases z20 : m = 20
  · exact key fv_c20 (by omega) (by omega)
  by_cases z21 : m = 21
  · exact key fv_c21 (by omega) (by omega)
  by_cases z22 : m = 22
  · exact key fv_c22 (by omega) (by omega)
  by_cases z23 : m = 23
  · exact key fv_c23 (by omega) (by omega)
  by_cases z24 : m = 24
  · exact key fv_c24 (by omega) (by omega)
  by_cases z25 : m = 25
  · exact key fv_c25 (by omega) (by omega)
  by_cases z26 : m = 26
  · exact key fv_c26 (by omega) (by omega)
  by_cases z27 : m = 27
  · exact key fv_c27 (by omega) (by omega)
  by_cases z28 : m = 28
  · exact key fv_c28 (by omega) (by omega)
  by_cases z29 : m = 29
  · exact key fv_c29 (by omega) (by omega)
  by_cases z30 : m = 30
  · exact key fv_c30 (by omega) (by omega)
  by_cases z31 : m = 31
  · exact key fv_c31 (by omega) (by omega)
  by_cases z32 : m = 32
  · exact key fv_c32 (by omega) (by omega)
  by_cases z33 : m = 33
  · exact key fv_c33 (by omega) (by omega)
  by_cases z34 : m = 34
  · exact key fv_c34 (by omega) (by omega)
  by_cases z35 : m = 35
  · exact key fv_c35 (by omega) (by omega)
  by_cases z36 : m = 36
  · exact key fv_c36 (by omega) (by omega)
  by_cases z37 : m = 37
  · exact key fv_c37 (by omega) (by omega)
  by_cases z38 : m = 38
  · exact key fv_c38 (by omega) (by omega)
  exact key fv_c39 (by omega) (by omega)
end FVZ
/-- from the law's entry -/
theorem fv_law (hsc : sc.length ≤ 13) : ∃ hh : am_H, hh.length ≤ 600002 ∧ am_sz hh ≤ 7302232 ∧ ∃ k, am_go sc (fv_CL sc am_cds 12) am_noT am_kL [] (fun r h => r = some (.int 1) ∧ h = hh) (fun _ _ => False) k 0 [(0, .retAddr 2000)] [] [] := by
  have hρ : fv_rh sc (fv_r0 sc) := fv_r0h
  have hl : fv_L (fv_r0 sc) [16003, 7, 7, 7, 7, 7, 7, 7, 7] [(0, .retAddr 2000)] := fun i hi => by
    match i with
    | 0 => rfl
    | i + 1 =>
      exfalso
      apply hi
      match i with
      | 0 => rfl
      | 1 => rfl
      | 2 => rfl
      | 3 => rfl
      | 4 => rfl
      | 5 => rfl
      | 6 => rfl
      | 7 => rfl
      | i + 8 => rfl
  have hr : fv_rel (fv_r0 sc) 0 fv_T00 [] := by
    refine ⟨fv_shb_t (by decide +kernel), rfl, Nat.zero_le _, rfl, fun a => Or.inr ⟨rfl, ?_⟩⟩
    rw [fv_hg_eq]
    unfold fv_T00
    rcases fv_getD_or (((List.replicate 11 (List.replicate 11 (List.replicate 11 ((199, 0, []) : fv_Ob)))).getD (a / 121) []).getD (a / 11 % 11) []) (a % 11) (199, 0, []) with h1 | h1
    · rcases fv_getD_or ((List.replicate 11 (List.replicate 11 (List.replicate 11 ((199, 0, []) : fv_Ob)))).getD (a / 121) []) (a / 11 % 11) [] with h2 | h2
      · rcases fv_getD_or (List.replicate 11 (List.replicate 11 (List.replicate 11 ((199, 0, []) : fv_Ob)))) (a / 121) [] with h3 | h3
        · have e3 := List.eq_of_mem_replicate h3
          rw [e3] at h2 h1
          have e2 := List.eq_of_mem_replicate h2
          rw [e2] at h1
          have e1 := List.eq_of_mem_replicate h1
          rw [e3, e2, e1]
        · rw [h3] at h2
          exact absurd h2 List.not_mem_nil
      · rw [h2] at h1
        exact absurd h1 List.not_mem_nil
    · rw [h1]
  rcases fv_evs_ok (CT := am_noT) hsc hρ (fv_cwk hsc hρ) 100000 0 _ _ _ _ _ _ _ fv_run0 fv_iok_nil hl hr with ⟨lvN, st2, n2, T2, iv2, lv2, h2, g1, g2, g3, g4, g5⟩ | ⟨_, _, _, _, _, _, g1, -⟩ | ⟨_, _, _, _, _, -, g1, -⟩
  · obtain ⟨a1, k1⟩ := fv_iff (show fv_if (fv_bL lvN fv_lv0) _ false = true from g1)
    obtain ⟨a2, k2⟩ := fv_iff k1
    obtain ⟨a3, k3⟩ := fv_iff k2
    have e1 := fv_bL_t a1
    have e2 := fv_bL_t a2
    have e3 := fv_beq a3
    have e4 := fv_bT_t k3
    clear g1 k1 k2 k3 a1 a2 a3
    subst e1
    subst e2
    subst e3
    subst e4
    obtain ⟨hh, z1, z2, z3⟩ := fv_each hsc g3 g4
    exact ⟨hh, z1, z2, g5 _ _ (z3 _ _ ⟨rfl, rfl⟩)⟩
  · exact absurd g1 Bool.false_ne_true
  · exact absurd g1 Bool.false_ne_true
