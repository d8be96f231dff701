variable {sc : List Int32}
/-! PLAY on the new object, whatever is drawn: the rounds, as both sides go through them -/
def fv_N : Nat := 299443227
noncomputable def fv_oW (τ : Nat) : fv_Ob := (14, 14, [34, 42, 66, 0, 0, 0, 0, 0, τ, 90, 0, 0, 0, 0])
noncomputable def fv_oO (v : Nat) : fv_Ob := (101, 1, [v])
noncomputable def fv_oM (τ σ : Nat) : fv_Ob := (24, 96, [0, τ, 8, 7818, 0, 7826, 7898, 0, 0, 0, 5, 5, 0, 0, 0, 7906, 7914, 7922, 7930, 0, 7938, 7946, 7954, σ, 7962, 0, 0, 0, 4, 0, 0, 0, 0, 0, 0, 7970, 7978, 7986, 7994, 8002, 8010, 8018, 8026, 8034, 8042, 8050, 8058, 8066, 8074, 8082, 8090, 8098, 8106, 8114, 8122, 8130, 8138, 8146, 8154, 8162, 8170, 8178, 8186, 8194, 8202, 8210, 8218, 0, 8226, 8234, 8242, 8250, 8258, 8266, 8274, 0, 0, 0, 0, 8282, 0, 8290, 8298, 8306, 8314, 8322, 8330, 8338, 8346, 0, 8354, 8362, 8370, 8378, 8386, 8394])
noncomputable def fv_TX (τ : Nat) : fv_T := fv_hs fv_T0 3 (fv_oW τ)
noncomputable def fv_TO (τ o : Nat) : fv_T := fv_hs (fv_TX τ) 1050 (fv_oO o)
noncomputable def fv_TM (τx o τ σ : Nat) : fv_T := fv_hs (fv_TO τx o) 976 (fv_oM τ σ)
/-- many is 1 to 200; what is drawn -/
def fv_ivp : fv_Iv := [(0, 4294967296), (0, 4294967296), (2147483649, 2147483849), (0, 4294967296), (0, 4294967296), (0, 4294967296), (0, 4294967296), (0, 4294967296), (0, 4294967296), (0, 4294967296), (0, 4294967296), (0, 4294967296), (0, 4294967296), (0, 4294967296), (0, 4294967296), (0, 4294967296), (0, 4294967296), (0, 4294967296), (0, 4294967296), (0, 4294967296), (0, 4294967296), (0, 4294967296), (0, 4294967296), (0, 4294967296), (0, 4294967296), (0, 4294967296), (0, 4294967296), (0, 4294967296), (0, 4294967296), (0, 4294967296), (0, 4294967296), (0, 4294967296), (0, 4294967296), (0, 4294967296), (0, 4294967296), (0, 4294967296), (0, 4294967296), (0, 4294967296), (0, 4294967296), (0, 4294967296), (0, 4294967296), (0, 4294967296), (0, 4294967296), (2147483648, 2147483664), (2147483648, 2147484648), (2147483648, 2147483903), (2147483649, 2147483904), (0, 4294967296), (0, 4294967296), (0, 4294967296), (0, 4294967296), (2147483648, 2147483664), (2147483648, 2147484648), (2147483648, 2147483903), (2147483649, 2147483904), (0, 4294967296), (0, 4294967296), (0, 4294967296), (0, 4294967296), (2147483648, 2147483664), (2147483648, 2147484648), (2147483648, 2147483903), (2147483649, 2147483904), (0, 4294967296), (0, 4294967296), (0, 4294967296), (0, 4294967296), (2147483648, 2147483664), (2147483648, 2147484648), (2147483648, 2147483903), (2147483649, 2147483904), (0, 4294967296), (0, 4294967296), (0, 4294967296), (0, 4294967296), (2147483648, 2147483664), (2147483648, 2147484648), (2147483648, 2147483903), (2147483649, 2147483904), (0, 4294967296), (0, 4294967296), (0, 4294967296), (0, 4294967296), (2147483648, 2147483664), (2147483648, 2147484648), (2147483648, 2147483903), (2147483649, 2147483904), (0, 4294967296)]
def fv_p1 (s t : Int32) : Int32 × Int32 := if 2147483662 ≤ fv_of (fv_rm (fv_nxi 1 s) (Int32.ofNat 16)) then (fv_nxi 1 s, t + Int32.ofNat 1) else if fv_of (fv_rm (fv_nxi 1 s) (Int32.ofNat 16)) < 2147483661 then (fv_nxi 2 s, t) else (fv_nxi 4 s, t)
def fv_itr (f : Int32 → Int32 → Int32 × Int32) : Nat → Int32 → Int32 → Int32 × Int32
  | 0, s, t => (s, t)
  | j + 1, s, t => fv_itr f j (f s t).1 (f s t).2
theorem fv_itr_succ (f : Int32 → Int32 → Int32 × Int32) (j : Nat) (s t : Int32) : fv_itr f (j + 1) s t = fv_itr f j (f s t).1 (f s t).2 := rfl
def fv_pl (j : Nat) (s t : Int32) : Int32 × Int32 := fv_itr fv_p1 j s t
noncomputable def fv_qx (S : Nat) (q : Nat × Nat) (k : Nat → Bool) : Bool := @Prod.rec Nat Nat (fun _ => Bool) (fun lo hi => fv_if (Nat.beq S 385) (fv_if (Nat.ble 2147483662 lo) (k 177) false) (fv_if (Nat.beq S 449) (fv_if (Nat.ble hi 2147483661) (k 169) false) (fv_if (Nat.beq S 577) (fv_if (Nat.ble 2147483661 lo) (fv_if (Nat.ble hi 2147483662) (k 169) false) false) false))) q
/-- where a round of the class ends -/
noncomputable def fv_px : fv_S := fun lv st n t iv => fv_if (fv_bL st []) (fv_if (Nat.beq n 299443227) (fv_if (Nat.beq (fv_nth lv 0 7) 2) (fv_if (Nat.beq (fv_nth lv 2 7) 17) (fv_if (Nat.beq (fv_nth lv 4 7) 193) (fv_qx (fv_nth lv 3 7) (fv_nth iv 51 (0, 4294967296)) (fun τ => fv_bT t (fv_TX τ))) false) false) false) false) false
/-- where a round of the reference ends -/
noncomputable def fv_pm : fv_S := fun lv st n t iv => fv_if (fv_bL st []) (fv_if (Nat.beq n 299443227) (fv_if (Nat.beq (fv_nth lv 0 7) 7810) (fv_if (Nat.beq (fv_nth lv 2 7) 17) (fv_if (Nat.beq (fv_nth lv 3 7) 193) (fv_o t 976 (fun _ _ s => fv_qx (fv_nth s 23 7) (fv_nth iv 51 (0, 4294967296)) (fun τ => fv_bT t (fv_TM 809 814 τ (fv_nth s 23 7))))) false) false) false) false) false
/-- where a run of nothing but steps ends -/
noncomputable def fv_pe (L : List Nat) (T : fv_T) : fv_S := fun lv st n t _ => fv_if (fv_bL lv L) (fv_if (fv_bL st []) (fv_if (Nat.beq n 299443227) (fv_bT t T) false) false) false
noncomputable def fv_pr (v : Nat) (T : fv_T) : fv_R := fun vs n t _ => fv_if (fv_bL vs [v]) (fv_if (Nat.beq n 299443227) (fv_bT t T) false) false
theorem fv_x1 : fv_evs (fv_cal am_ms 12) am_k169 6 (fv_pe [2, 9, 17, 9, 0, 7, 7, 7] fv_T0) (fun _ _ _ _ => false) 1000 0 (fv_lvs [2, 9, 17] 8) [] 299443227 fv_T0 fv_ivp = true := by decide +kernel
theorem fv_x2 : fv_evs (fv_cal am_ms 12) am_k169 6 fv_px (fun _ _ _ _ => false) 1000 7 [2, 7, 17, 321, 185, 7, 7, 7] [] 299443227 (fv_TX 169) fv_ivp = true := by decide +kernel
theorem fv_x3 : fv_evs (fv_cal am_ms 12) am_k169 1000 (fun _ _ _ _ _ => false) (fv_pr 169 (fv_TX 169)) 1000 30 [2, 7, 17, 321, 185, 7, 7, 7] [] 299443227 (fv_TX 169) [] = true := by decide +kernel
theorem fv_y1 : fv_evs (fv_cal am_ms 13) am_k332 8 (fv_pe [7810, 9, 17, 0, 7, 7, 7, 7] (fv_TM 169 174 0 9)) (fun _ _ _ _ => false) 1000 0 (fv_lvs [7810, 9, 17] 8) [] 299443227 (fv_TO 169 174) fv_ivp = true := by decide +kernel
theorem fv_y2 : fv_evs (fv_cal am_ms 13) am_k332 8 fv_pm (fun _ _ _ _ => false) 1000 9 [7810, 7, 17, 185, 7, 7, 7, 7] [] 299443227 (fv_TM 809 814 169 321) fv_ivp = true := by decide +kernel
theorem fv_y3 : fv_evs (fv_cal am_ms 13) am_k332 1000 (fun _ _ _ _ _ => false) (fv_pr 169 (fv_TM 809 814 169 321)) 1000 30 [7810, 7, 17, 185, 7, 7, 7, 7] [] 299443227 (fv_TM 809 814 169 321) [] = true := by decide +kernel
theorem fv_T0c : fv_cloT fv_T0 = true := by decide +kernel
def fv_shb (t : fv_T) : Bool := t.length == 11 && (t.all fun r => r.length == 11 && r.all fun q => q.length == 11)
theorem fv_shb_t {t : fv_T} (h : fv_shb t = true) : fv_sh t := by
  unfold fv_shb at h
  rw [Bool.and_eq_true, beq_iff_eq, List.all_eq_true] at h
  refine ⟨h.1, fun i hi => ?_⟩
  have hi2 : i < t.length := by rw [h.1]; exact hi
  have e : t.getD i [] = t[i] := by rw [List.getD_eq_getElem?_getD, List.getElem?_eq_getElem hi2]; rfl
  have hm := h.2 _ (List.getElem_mem hi2)
  rw [Bool.and_eq_true, beq_iff_eq, List.all_eq_true] at hm
  rw [e]
  refine ⟨hm.1, fun j hj => ?_⟩
  have hj2 : j < t[i].length := by rw [hm.1]; exact hj
  have e2 : t[i].getD j [] = t[i][j] := by rw [List.getD_eq_getElem?_getD, List.getElem?_eq_getElem hj2]; rfl
  have hm2 := hm.2 _ (List.getElem_mem hj2)
  rw [beq_iff_eq] at hm2
  rw [e2]
  exact hm2
theorem fv_T0s : fv_sh fv_T0 := fv_shb_t (by decide +kernel)
theorem fv_T0a : fv_hg fv_T0 3 = fv_oW 0 := by decide +kernel
theorem fv_T0b : fv_hg fv_T0 976 = fv_oM 0 0 := by decide +kernel
