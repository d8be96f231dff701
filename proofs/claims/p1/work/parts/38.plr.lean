variable {sc : List Int32}
/-! PLAY: a round of each side -/
theorem fv_hX {C : am_Rl} {CT : am_Rt} {fin : Option Value → am_H → Prop} {thr : Nat → am_H → Prop} {lv : am_V} {h : am_H} {a b : Int32} (h1 : am_ld lv 4 = some (.int a)) (h2 : am_ld lv 2 = some (.int b)) (hc : b ≤ a) (g : fv_G sc C CT am_k169 [] fin thr 30 lv [] h) : fv_G sc C CT am_k169 [] fin thr 6 lv [] h := fv_g_icT (c := .ge) (o := 30) rfl (fv_head h1 h2) hc g
theorem fv_hX2 {C : am_Rl} {CT : am_Rt} {fin : Option Value → am_H → Prop} {thr : Nat → am_H → Prop} {lv : am_V} {h : am_H} {a b : Int32} (h1 : am_ld lv 4 = some (.int a)) (h2 : am_ld lv 2 = some (.int b)) (hc : ¬ b ≤ a) (g : fv_G sc C CT am_k169 [] fin thr 7 lv [] h) : fv_G sc C CT am_k169 [] fin thr 6 lv [] h := fv_g_icF (c := .ge) (o := 30) rfl (fv_head h1 h2) hc g
theorem fv_hM {C : am_Rl} {CT : am_Rt} {fin : Option Value → am_H → Prop} {thr : Nat → am_H → Prop} {lv : am_V} {h : am_H} {a b : Int32} (h1 : am_ld lv 3 = some (.int a)) (h2 : am_ld lv 2 = some (.int b)) (hc : b ≤ a) (g : fv_G sc C CT am_k332 [] fin thr 30 lv [] h) : fv_G sc C CT am_k332 [] fin thr 8 lv [] h := fv_g_icT (c := .ge) (o := 30) rfl (fv_head h1 h2) hc g
theorem fv_hM2 {C : am_Rl} {CT : am_Rt} {fin : Option Value → am_H → Prop} {thr : Nat → am_H → Prop} {lv : am_V} {h : am_H} {a b : Int32} (h1 : am_ld lv 3 = some (.int a)) (h2 : am_ld lv 2 = some (.int b)) (hc : ¬ b ≤ a) (g : fv_G sc C CT am_k332 [] fin thr 9 lv [] h) : fv_G sc C CT am_k332 [] fin thr 8 lv [] h := fv_g_icF (c := .ge) (o := 30) rfl (fv_head h1 h2) hc g
theorem fv_pl_succ (j : Nat) (s t : Int32) : fv_pl (j + 1) s t = fv_pl j (fv_p1 s t).1 (fv_p1 s t).2 := fv_itr_succ fv_p1 j s t
theorem fv_lt5 {a b : Nat} (hb : b < 2147483648) (h : a < b) : ¬ Int32.ofNat b ≤ Int32.ofNat a := fun z => absurd (fv_lt32 hb h) (Int32.not_lt.mpr z)
theorem fv_many {M : Nat} (h1 : 1 ≤ M) (hM : M ≤ 200) (hm : sc.getD 2 0 = Int32.ofNat M) : 2147483649 ≤ fv_of (sc.getD 2 0) ∧ fv_of (sc.getD 2 0) < 2147483849 := by
  rw [hm, fv_of_nat]
  omega
section FVP
variable {cds : List am_Cd} {x : Nat → Int32} {M : Nat}
theorem fv_u1 (hsc : sc.length ≤ 13) (hms : am_msok cds am_ms) (hb : 2147483649 ≤ fv_of (sc.getD 2 0) ∧ fv_of (sc.getD 2 0) < 2147483849) {s t kk : Int32} {lv : am_V} {h : am_H} (hS : fv_Sx sc x s t kk lv h) : fv_out sc (fv_rho sc s t kk x) (am_ca sc cds 12) am_noT am_k169 [] 6 fv_px (fun _ _ _ _ => false) (fun _ _ _ _ => false) 7 lv [] h :=
  fv_evs_ok (CT := am_noT) hsc (fv_rho_rh s t kk x) (fv_cal_ok hsc (fv_rho_rh s t kk x) hms (fv_533 hms) 12) 1000 7 _ _ _ _ _ lv h fv_x2 (fv_iok_p hb) hS.1 hS.2
theorem fv_u2 {s t kk : Int32} {lvN : List Nat} {st2 : List Nat} {n2 : Nat} {T2 : fv_T} {iv2 : fv_Iv} (g1 : fv_px lvN st2 n2 T2 iv2 = true) (g2 : fv_iok (fv_rho sc s t kk x) iv2) : st2 = [] ∧ n2 = 299443227 ∧ lvN.getD 0 7 = 2 ∧ lvN.getD 2 7 = 17 ∧ lvN.getD 4 7 = 193 ∧ ∃ τ, T2 = fv_TX τ ∧ fv_de (fv_rho sc s t kk x) (lvN.getD 3 7) = .int (fv_p1 s t).1 ∧ fv_de (fv_rho sc s t kk x) τ = .int (fv_p1 s t).2 := by
  obtain ⟨a1, k1⟩ := fv_iff (show fv_if (fv_bL st2 []) _ false = true from g1)
  obtain ⟨a2, k2⟩ := fv_iff k1
  obtain ⟨a3, k3⟩ := fv_iff k2
  obtain ⟨a4, k4⟩ := fv_iff k3
  obtain ⟨a5, k5⟩ := fv_iff k4
  rw [fv_nth_eq] at a3 a4 a5
  rw [fv_nth_eq, fv_nth_eq] at k5
  obtain ⟨τ, b1, b2, b3⟩ := fv_qx_ok k5 (g2 51).1 (g2 51).2
  exact ⟨fv_bL_t a1, fv_beq a2, fv_beq a3, fv_beq a4, fv_beq a5, τ, fv_bT_t b1, b2, b3⟩
theorem fv_u3 {s t kk s' t' : Int32} {lvN : List Nat} {lv2 : am_V} (g3 : fv_L (fv_rho sc s t kk x) lvN lv2) (a3 : lvN.getD 0 7 = 2) (a4 : lvN.getD 2 7 = 17) (a5 : lvN.getD 4 7 = 193) (b2 : fv_de (fv_rho sc s t kk x) (lvN.getD 3 7) = .int s') : fv_L (fv_rho sc s' t' (kk + Int32.ofNat 1) x) [2, 7, 17, 321, 185, 7, 7, 7] lv2 := by
  refine fv_L5 g3 (fv_8 (Or.inr ?_) (Or.inl rfl) (Or.inr ?_) (Or.inr ?_) (Or.inr ?_) (fun i => Or.inl (fv_777 i)))
  · rw [a3]
    exact ⟨by decide, fv_eqv (u := .ref 0) rfl rfl⟩
  · rw [a4]
    exact ⟨by decide, fv_eqv (u := .int (sc.getD 2 0)) rfl rfl⟩
  · refine ⟨fun z => ?_, b2⟩
    rw [z] at b2
    exact Value.noConfusion (show Value.null = Value.int _ from b2)
  · rw [a5]
    exact ⟨by decide, fv_eqv (u := .int (kk + Int32.ofNat 1)) rfl rfl⟩
theorem fv_u4 {s t kk s' t' k' : Int32} {τ : Nat} {h2 : am_H} (g4 : fv_rel (fv_rho sc s t kk x) 299443227 (fv_TX τ) h2) (b3 : fv_de (fv_rho sc s t kk x) τ = .int t') : fv_rel (fv_rho sc s' t' k' x) 299443227 (fv_TX 169) h2 :=
  fv_ag_rel (fv_ag_X b3) g4
theorem fv_roundX (hsc : sc.length ≤ 13) (hms : am_msok cds am_ms) (hb : 2147483649 ≤ fv_of (sc.getD 2 0) ∧ fv_of (sc.getD 2 0) < 2147483849) {s t kk : Int32} {lv : am_V} {h : am_H} (hk : ¬ sc.getD 2 0 ≤ kk) (hS : fv_Sx sc x s t kk lv h) :
    ∃ lv2 h2, fv_Sx sc x (fv_p1 s t).1 (fv_p1 s t).2 (kk + Int32.ofNat 1) lv2 h2 ∧ ∀ fin thr, fv_G sc (am_ca sc cds 12) am_noT am_k169 [] fin thr 6 lv2 [] h2 → fv_G sc (am_ca sc cds 12) am_noT am_k169 [] fin thr 6 lv [] h := by
  rcases fv_u1 (cds := cds) hsc hms hb hS with ⟨lvN, st2, n2, T2, iv2, lv2, h2, g1, g2, g3, g4, g5⟩ | ⟨vs, n2, T2, iv2, v, h2, g1, -⟩ | ⟨y, n2, T2, iv2, h2, -, g1, -⟩
  · obtain ⟨e1, e2, a3, a4, a5, τ, e3, b2, b3⟩ := fv_u2 g1 g2
    subst e1
    subst e2
    subst e3
    exact ⟨lv2, h2, ⟨fv_u3 g3 a3 a4 a5 b2, fv_u4 g4 b3⟩, fun fin thr g => fv_hX2 (fv_Sx_k hS) (fv_Sx_2 hS) hk (g5 fin thr g)⟩
  · exact absurd g1 Bool.false_ne_true
  · exact absurd g1 Bool.false_ne_true
theorem fv_v1 (hsc : sc.length ≤ 13) (hms : am_msok cds am_ms) (hb : 2147483649 ≤ fv_of (sc.getD 2 0) ∧ fv_of (sc.getD 2 0) < 2147483849) {s t kk : Int32} {lv : am_V} {h : am_H} (hS : fv_Sm sc x s t kk lv h) : fv_out sc (fv_rho sc s t kk x) (am_ca sc cds 13) am_noT am_k332 [] 8 fv_pm (fun _ _ _ _ => false) (fun _ _ _ _ => false) 9 lv [] h :=
  fv_evs_ok (CT := am_noT) hsc (fv_rho_rh s t kk x) (fv_cal_ok hsc (fv_rho_rh s t kk x) hms (fv_533 hms) 13) 1000 9 _ _ _ _ _ lv h fv_y2 (fv_iok_p hb) hS.1 hS.2
theorem fv_v2 {s t kk : Int32} {lvN : List Nat} {st2 : List Nat} {n2 : Nat} {T2 : fv_T} {iv2 : fv_Iv} (g1 : fv_pm lvN st2 n2 T2 iv2 = true) (g2 : fv_iok (fv_rho sc s t kk x) iv2) : st2 = [] ∧ n2 = 299443227 ∧ lvN.getD 0 7 = 7810 ∧ lvN.getD 2 7 = 17 ∧ lvN.getD 3 7 = 193 ∧ ∃ S τ, T2 = fv_TM 809 814 τ S ∧ fv_de (fv_rho sc s t kk x) S = .int (fv_p1 s t).1 ∧ fv_de (fv_rho sc s t kk x) τ = .int (fv_p1 s t).2 := by
  obtain ⟨a1, k1⟩ := fv_iff (show fv_if (fv_bL st2 []) _ false = true from g1)
  obtain ⟨a2, k2⟩ := fv_iff k1
  obtain ⟨a3, k3⟩ := fv_iff k2
  obtain ⟨a4, k4⟩ := fv_iff k3
  obtain ⟨a5, k5⟩ := fv_iff k4
  rw [fv_nth_eq] at a3 a4 a5
  rw [fv_o_eq, fv_nth_eq, fv_nth_eq] at k5
  generalize (fv_hg T2 976).2.2.getD 23 7 = S at k5
  obtain ⟨τ, b1, b2, b3⟩ := fv_qx_ok k5 (g2 51).1 (g2 51).2
  exact ⟨fv_bL_t a1, fv_beq a2, fv_beq a3, fv_beq a4, fv_beq a5, S, τ, fv_bT_t b1, b2, b3⟩
theorem fv_v3 {s t kk s' t' : Int32} {lvN : List Nat} {lv2 : am_V} (g3 : fv_L (fv_rho sc s t kk x) lvN lv2) (a3 : lvN.getD 0 7 = 7810) (a4 : lvN.getD 2 7 = 17) (a5 : lvN.getD 3 7 = 193) : fv_L (fv_rho sc s' t' (kk + Int32.ofNat 1) x) [7810, 7, 17, 185, 7, 7, 7, 7] lv2 := by
  refine fv_L5 g3 (fv_8 (Or.inr ?_) (Or.inl rfl) (Or.inr ?_) (Or.inr ?_) (Or.inl rfl) (fun i => Or.inl (fv_777 i)))
  · rw [a3]
    exact ⟨by decide, fv_eqv (u := .ref 976) rfl rfl⟩
  · rw [a4]
    exact ⟨by decide, fv_eqv (u := .int (sc.getD 2 0)) rfl rfl⟩
  · rw [a5]
    exact ⟨by decide, fv_eqv (u := .int (kk + Int32.ofNat 1)) rfl rfl⟩
theorem fv_v4 {s t kk s' t' k' : Int32} {τ S : Nat} {h2 : am_H} (g4 : fv_rel (fv_rho sc s t kk x) 299443227 (fv_TM 809 814 τ S) h2) (b2 : fv_de (fv_rho sc s t kk x) S = .int s') (b3 : fv_de (fv_rho sc s t kk x) τ = .int t') : fv_rel (fv_rho sc s' t' k' x) 299443227 (fv_TM 809 814 169 321) h2 :=
  fv_ag_rel (fv_ag_M (fv_eqv (u := .int (x 101)) rfl rfl) (fv_eqv (u := .long (x 101).toInt64) rfl rfl) b3 b2) g4
theorem fv_roundM (hsc : sc.length ≤ 13) (hms : am_msok cds am_ms) (hb : 2147483649 ≤ fv_of (sc.getD 2 0) ∧ fv_of (sc.getD 2 0) < 2147483849) {s t kk : Int32} {lv : am_V} {h : am_H} (hk : ¬ sc.getD 2 0 ≤ kk) (hS : fv_Sm sc x s t kk lv h) :
    ∃ lv2 h2, fv_Sm sc x (fv_p1 s t).1 (fv_p1 s t).2 (kk + Int32.ofNat 1) lv2 h2 ∧ ∀ fin thr, fv_G sc (am_ca sc cds 13) am_noT am_k332 [] fin thr 8 lv2 [] h2 → fv_G sc (am_ca sc cds 13) am_noT am_k332 [] fin thr 8 lv [] h := by
  rcases fv_v1 (cds := cds) hsc hms hb hS with ⟨lvN, st2, n2, T2, iv2, lv2, h2, g1, g2, g3, g4, g5⟩ | ⟨vs, n2, T2, iv2, v, h2, g1, -⟩ | ⟨y, n2, T2, iv2, h2, -, g1, -⟩
  · obtain ⟨e1, e2, a3, a4, a5, S, τ, e3, b2, b3⟩ := fv_v2 g1 g2
    subst e1
    subst e2
    subst e3
    exact ⟨lv2, h2, ⟨fv_v3 g3 a3 a4 a5, fv_v4 g4 b2 b3⟩, fun fin thr g => fv_hM2 (fv_Sm_k hS) (fv_Sm_2 hS) hk (g5 fin thr g)⟩
  · exact absurd g1 Bool.false_ne_true
  · exact absurd g1 Bool.false_ne_true
theorem fv_loopX (hsc : sc.length ≤ 13) (hms : am_msok cds am_ms) (h1 : 1 ≤ M) (hM : M ≤ 200) (hm : sc.getD 2 0 = Int32.ofNat M) (j : Nat) : ∀ (k : Nat) (s t : Int32) (lv : am_V) (h : am_H), k + j = M → fv_Sx sc x s t (Int32.ofNat k) lv h →
    ∃ lv2 h2, fv_Sx sc x (fv_pl j s t).1 (fv_pl j s t).2 (Int32.ofNat M) lv2 h2 ∧ ∀ fin thr, fv_G sc (am_ca sc cds 12) am_noT am_k169 [] fin thr 30 lv2 [] h2 → fv_G sc (am_ca sc cds 12) am_noT am_k169 [] fin thr 6 lv [] h := by
  induction j with
  | zero =>
    intro k s t lv h hk hS
    have hk : k = M := hk
    have l2 := fv_Sx_2 hS
    have lk := fv_Sx_k hS
    rw [hm, ← hk] at l2
    exact ⟨lv, h, by rw [← hk]; exact hS, fun fin thr g => fv_hX lk l2 (Int32.le_refl _) g⟩
  | succ j ih =>
    intro k s t lv h hk hS
    rw [fv_pl_succ]
    obtain ⟨lv2, h2, hS2, g1⟩ := fv_roundX (cds := cds) hsc hms (fv_many h1 hM hm) (by rw [hm]; exact fv_lt5 (by omega) (by omega)) hS
    rw [← Int32.ofNat_add] at hS2
    obtain ⟨lv3, h3, c1, c2⟩ := ih (k + 1) _ _ lv2 h2 (by omega) hS2
    exact ⟨lv3, h3, c1, fun fin thr g => g1 fin thr (c2 fin thr g)⟩
theorem fv_loopM (hsc : sc.length ≤ 13) (hms : am_msok cds am_ms) (h1 : 1 ≤ M) (hM : M ≤ 200) (hm : sc.getD 2 0 = Int32.ofNat M) (j : Nat) : ∀ (k : Nat) (s t : Int32) (lv : am_V) (h : am_H), k + j = M → fv_Sm sc x s t (Int32.ofNat k) lv h →
    ∃ lv2 h2, fv_Sm sc x (fv_pl j s t).1 (fv_pl j s t).2 (Int32.ofNat M) lv2 h2 ∧ ∀ fin thr, fv_G sc (am_ca sc cds 13) am_noT am_k332 [] fin thr 30 lv2 [] h2 → fv_G sc (am_ca sc cds 13) am_noT am_k332 [] fin thr 8 lv [] h := by
  induction j with
  | zero =>
    intro k s t lv h hk hS
    have hk : k = M := hk
    have l2 := fv_Sm_2 hS
    have lk := fv_Sm_k hS
    rw [hm, ← hk] at l2
    exact ⟨lv, h, by rw [← hk]; exact hS, fun fin thr g => fv_hM lk l2 (Int32.le_refl _) g⟩
  | succ j ih =>
    intro k s t lv h hk hS
    rw [fv_pl_succ]
    obtain ⟨lv2, h2, hS2, g1⟩ := fv_roundM (cds := cds) hsc hms (fv_many h1 hM hm) (by rw [hm]; exact fv_lt5 (by omega) (by omega)) hS
    rw [← Int32.ofNat_add] at hS2
    obtain ⟨lv3, h3, c1, c2⟩ := ih (k + 1) _ _ lv2 h2 (by omega) hS2
    exact ⟨lv3, h3, c1, fun fin thr g => g1 fin thr (c2 fin thr g)⟩
/-- what the rounds come to -/
def fv_tF (sc : List Int32) (M : Nat) : Int32 := (fv_pl M (sc.getD 1 0) (Int32.ofNat 0)).2
def fv_sF (sc : List Int32) (M : Nat) : Int32 := (fv_pl M (sc.getD 1 0) (Int32.ofNat 0)).1
def fv_rL (sc : List Int32) (M : Nat) : Nat → Int32 := fv_rho sc (Int32.ofNat 0) (fv_tF sc M) (Int32.ofNat 0) (fun _ => fv_sF sc M)
theorem fv_one {v : Option Value} {w : Value} (h : v.toList = [w]) : v = some w := by
  cases v with
  | none => cases h
  | some u =>
    cases h
    rfl
theorem fv_xplay (hsc : sc.length ≤ 13) (hms : am_msok cds am_ms) (h1 : 1 ≤ M) (hM : M ≤ 200) (hm : sc.getD 2 0 = Int32.ofNat M) (h : am_H) (hr : fv_rel (fv_rL sc M) 299443227 fv_T0 h) :
    ∃ (v : Option Value) (h2 : am_H), v.toList = ([169] : List Nat).map (fv_de (fv_rL sc M)) ∧ fv_rel (fv_rL sc M) 299443227 (fv_TX 169) h2 ∧ am_ca sc cds 13 169 (([2, 9, 17] : List Nat).map (fv_de (fv_rL sc M))) h v h2 := by
  have hb : 2147483649 ≤ fv_of (sc.getD 2 0) ∧ fv_of (sc.getD 2 0) < 2147483849 := by
    rw [hm, fv_of_nat]
    omega
  have hρ : fv_rh sc (fv_rL sc M) := fv_rho_rh _ _ _ _
  have ho := fv_evs_ok (CT := am_noT) hsc hρ (fv_cal_ok hsc hρ hms (fv_533 hms) 12) 1000 0 _ _ _ _ _ _ h fv_x1 (fv_iok_p hb) (fv_L_args [2, 9, 17] 8) hr
  rcases ho with ⟨lvN, st2, n2, T2, iv2, lv2, h2, g1, g2, g3, g4, g5⟩ | ⟨vs, n2, T2, iv2, v, h2, g1, -⟩ | ⟨y, n2, T2, iv2, h2, -, g1, -⟩
  · obtain ⟨a1, g1⟩ := fv_iff (show fv_if (fv_bL lvN _) _ false = true from g1)
    obtain ⟨a2, g1⟩ := fv_iff g1
    obtain ⟨a3, g1⟩ := fv_iff g1
    have a1 := fv_bL_t a1
    have a2 := fv_bL_t a2
    have a3 := fv_beq a3
    have a4 := fv_bT_t g1
    subst a1
    subst a2
    subst a3
    subst a4
    have hS : fv_Sx sc (fun _ => fv_tF sc M) (sc.getD 1 0) (Int32.ofNat 0) (Int32.ofNat 0) lv2 h2 := by
      refine ⟨fv_L5 g3 (fv_8 (Or.inr ⟨by decide, fv_eqv (u := .ref 0) rfl rfl⟩) (Or.inl rfl) (Or.inr ⟨by decide, fv_eqv (u := .int (sc.getD 2 0)) rfl rfl⟩) (Or.inr ⟨by decide, fv_eqv (u := .int (sc.getD 1 0)) rfl rfl⟩) (Or.inr ⟨by decide, fv_eqv (u := .int (Int32.ofNat 0)) rfl rfl⟩) (fun i => Or.inl (fv_777 i))), fv_ag_rel (fv_ag_X0 (fv_eqv (u := .int (Int32.ofNat 0)) rfl rfl)) g4⟩
    obtain ⟨lv3, h3, c1, c2⟩ := fv_loopX hsc hms h1 hM hm M 0 _ _ lv2 h2 (by omega) hS
    have hρ3 := fv_rho_rh (sc := sc) (fv_sF sc M) (fv_tF sc M) (Int32.ofNat M) (fun _ => fv_tF sc M)
    have he := fv_evs_ok (CT := am_noT) hsc hρ3 (fv_cal_ok hsc hρ3 hms (fv_533 hms) 12) 1000 30 _ _ _ _ _ lv3 h3 fv_x3 fv_iok_nil c1.1 c1.2
    rcases he with ⟨_, _, _, _, _, _, _, d1, -⟩ | ⟨vs, n2, T2, iv2, v, h4, d1, d2, d3, d4, d5⟩ | ⟨y, n2, T2, iv2, h2, -, d1, -⟩
    · exact absurd d1 Bool.false_ne_true
    · obtain ⟨e1, d1⟩ := fv_iff (show fv_if (fv_bL vs _) _ false = true from d1)
      obtain ⟨e2, d1⟩ := fv_iff d1
      have e1 := fv_bL_t e1
      have e2 := fv_beq e2
      have e3 := fv_bT_t d1
      subst e1
      subst e2
      subst e3
      have hv : v = some (.int (fv_tF sc M)) := fv_one d4
      subst hv
      exact ⟨_, h4, rfl, fv_ag_rel (fv_ag_X (fv_eqv (u := .int (fv_tF sc M)) rfl rfl)) d3, fv_ca_in hms (mx := 8) (ty := some .int) (code := am_k169) rfl rfl (Nat.le_add_left 3 5) (g5 _ _ (c2 _ _ (d5 _ _ ⟨rfl, rfl⟩)))⟩
    · exact absurd d1 Bool.false_ne_true
  · exact absurd g1 Bool.false_ne_true
  · exact absurd g1 Bool.false_ne_true
theorem fv_mplay (hsc : sc.length ≤ 13) (hms : am_msok cds am_ms) (h1 : 1 ≤ M) (hM : M ≤ 200) (hm : sc.getD 2 0 = Int32.ofNat M) (h : am_H) (hr : fv_rel (fv_rL sc M) 299443227 (fv_TO 169 174) h) :
    ∃ (v : Option Value) (h2 : am_H), v.toList = ([169] : List Nat).map (fv_de (fv_rL sc M)) ∧ fv_rel (fv_rL sc M) 299443227 (fv_TM 169 174 169 801) h2 ∧ am_ca sc cds 14 332 (([7810, 9, 17] : List Nat).map (fv_de (fv_rL sc M))) h v h2 := by
  have hb : 2147483649 ≤ fv_of (sc.getD 2 0) ∧ fv_of (sc.getD 2 0) < 2147483849 := by
    rw [hm, fv_of_nat]
    omega
  have hρ : fv_rh sc (fv_rL sc M) := fv_rho_rh _ _ _ _
  have ho := fv_evs_ok (CT := am_noT) hsc hρ (fv_cal_ok hsc hρ hms (fv_533 hms) 13) 1000 0 _ _ _ _ _ _ h fv_y1 (fv_iok_p hb) (fv_L_args [7810, 9, 17] 8) hr
  rcases ho with ⟨lvN, st2, n2, T2, iv2, lv2, h2, g1, g2, g3, g4, g5⟩ | ⟨vs, n2, T2, iv2, v, h2, g1, -⟩ | ⟨y, n2, T2, iv2, h2, -, g1, -⟩
  · obtain ⟨a1, g1⟩ := fv_iff (show fv_if (fv_bL lvN _) _ false = true from g1)
    obtain ⟨a2, g1⟩ := fv_iff g1
    obtain ⟨a3, g1⟩ := fv_iff g1
    have a1 := fv_bL_t a1
    have a2 := fv_bL_t a2
    have a3 := fv_beq a3
    have a4 := fv_bT_t g1
    subst a1
    subst a2
    subst a3
    subst a4
    have hS : fv_Sm sc (fun _ => fv_tF sc M) (sc.getD 1 0) (Int32.ofNat 0) (Int32.ofNat 0) lv2 h2 := by
      refine ⟨fv_L5 g3 (fv_8 (Or.inr ⟨by decide, fv_eqv (u := .ref 976) rfl rfl⟩) (Or.inl rfl) (Or.inr ⟨by decide, fv_eqv (u := .int (sc.getD 2 0)) rfl rfl⟩) (Or.inr ⟨by decide, fv_eqv (u := .int (Int32.ofNat 0)) rfl rfl⟩) (Or.inl rfl) (fun i => Or.inl (fv_777 i))), fv_ag_rel ?_ g4⟩
      exact fv_ag_M (fv_eqv (u := .int (fv_tF sc M)) rfl rfl) (fv_eqv (u := .long (fv_tF sc M).toInt64) rfl rfl) (fv_eqv (u := .int (Int32.ofNat 0)) rfl rfl) (fv_eqv (u := .int (sc.getD 1 0)) rfl rfl)
    obtain ⟨lv3, h3, c1, c2⟩ := fv_loopM hsc hms h1 hM hm M 0 _ _ lv2 h2 (by omega) hS
    have hρ3 := fv_rho_rh (sc := sc) (fv_sF sc M) (fv_tF sc M) (Int32.ofNat M) (fun _ => fv_tF sc M)
    have he := fv_evs_ok (CT := am_noT) hsc hρ3 (fv_cal_ok hsc hρ3 hms (fv_533 hms) 13) 1000 30 _ _ _ _ _ lv3 h3 fv_y3 fv_iok_nil c1.1 c1.2
    rcases he with ⟨_, _, _, _, _, _, _, d1, -⟩ | ⟨vs, n2, T2, iv2, v, h4, d1, d2, d3, d4, d5⟩ | ⟨y, n2, T2, iv2, h2, -, d1, -⟩
    · exact absurd d1 Bool.false_ne_true
    · obtain ⟨e1, d1⟩ := fv_iff (show fv_if (fv_bL vs _) _ false = true from d1)
      obtain ⟨e2, d1⟩ := fv_iff d1
      have e1 := fv_bL_t e1
      have e2 := fv_beq e2
      have e3 := fv_bT_t d1
      subst e1
      subst e2
      subst e3
      have hv : v = some (.int (fv_tF sc M)) := fv_one d4
      subst hv
      exact ⟨_, h4, rfl, fv_ag_rel (fv_ag_M (fv_eqv (u := .int (fv_tF sc M)) rfl rfl) (fv_eqv (u := .long (fv_tF sc M).toInt64) rfl rfl) (fv_eqv (u := .int (fv_tF sc M)) rfl rfl) (fv_eqv (u := .int (fv_sF sc M)) rfl rfl)) d3, fv_ca_in hms (mx := 8) (ty := some .int) (code := am_k332) rfl rfl (Nat.le_add_left 3 5) (g5 _ _ (c2 _ _ (d5 _ _ ⟨rfl, rfl⟩)))⟩
    · exact absurd d1 Bool.false_ne_true
  · exact absurd g1 Bool.false_ne_true
  · exact absurd g1 Bool.false_ne_true
end FVP
