variable {sc : List Int32}
/-! TYPE: what the runs want of both sides -/
/-- a number of the script -/
def fv_la (sc : List Int32) (i : Nat) : Int64 := ((sc.getD i 0).toInt64 <<< ((Int32.ofNat 32).toInt64 &&& 63)) ||| ((sc.getD (i + 1) 0).toInt64 &&& Int64.ofNat 4294967295)
def fv_z0 : List Value := List.replicate 400 (.int (Int32.ofNat 0))
def fv_zF (sc : List Int32) : List Value := (fv_t6 (fv_la sc 1) (fv_la sc 3) (fv_la sc 5) (fv_la sc 7) (fv_la sc 9) (fv_la sc 11) fv_z0).2
def fv_nF (sc : List Int32) : Int32 := Int32.ofNat (fv_n6 (fv_la sc 1) (fv_la sc 3) (fv_la sc 5) (fv_la sc 7) (fv_la sc 9) (fv_la sc 11))
def fv_vi (v : Option Value) : Int32 := match v with
  | some (.int x) => x
  | _ => Int32.ofNat 0
def fv_rT (sc : List Int32) : Nat → Int32 := fv_rho sc (Int32.ofNat 0) (fv_nF sc) (Int32.ofNat 0) (fun j => fv_vi (fv_zF sc)[j - 100]?)
theorem fv_z0s : fv_zs 48 fv_z0 := fun i v hv => by
  unfold fv_z0 at hv
  rw [List.getElem?_replicate] at hv
  split at hv
  · cases hv
    exact ⟨_, rfl, fun _ => rfl⟩
  · cases hv
theorem fv_zFs (sc : List Int32) : fv_zs 48 (fv_zF sc) := fv_t63 _ _ _ _ _ _ _ fv_z0s
theorem fv_zFl (sc : List Int32) : (fv_zF sc).length = 400 := by
  unfold fv_zF
  rw [fv_t62]
  exact List.length_replicate
theorem fv_rTx (i : Nat) (hi : i < 48) : fv_rT sc (100 + i) = fv_vi (fv_zF sc)[i]? := by
  unfold fv_rT fv_rho
  rw [if_neg (by omega)]
  split
  · omega
  · omega
  · omega
  · omega
  · omega
  · omega
  · rw [if_neg (by omega), if_neg (by omega)]
    show fv_vi (fv_zF sc)[100 + i - 100]? = _
    rw [show 100 + i - 100 = i by omega]
theorem fv_Ul : fv_U.length = 400 := by decide +kernel
theorem fv_U1 : ∀ i, i < 48 → fv_U[i]? = some (8 * (100 + i) + 1) := by decide +kernel
theorem fv_U2 (i : Nat) (h1 : 48 ≤ i) (h2 : i < 400) : fv_U[i]? = some 0 := by
  unfold fv_U
  rw [List.getElem?_append_right (by show 48 ≤ i; exact h1), fv_rep_eq, List.getElem?_replicate, if_pos (by show i - 48 < 352; omega)]
theorem fv_Um : fv_U.map (fv_de (fv_rT sc)) = fv_zF sc := by
  apply List.ext_getElem?
  intro i
  rw [List.getElem?_map]
  by_cases h1 : i < 48
  · rw [fv_U1 i h1]
    have hlt : i < (fv_zF sc).length := by rw [fv_zFl]; omega
    have e := List.getElem?_eq_getElem hlt
    obtain ⟨x, hx, -⟩ := fv_zFs sc i _ e
    show some (fv_de (fv_rT sc) (8 * (100 + i) + 1)) = _
    rw [fv_m1, fv_rTx i h1, e, hx]
    rfl
  · by_cases h2 : i < 400
    · rw [fv_U2 i (by omega) h2]
      have hlt : i < (fv_zF sc).length := by rw [fv_zFl]; omega
      have e := List.getElem?_eq_getElem hlt
      obtain ⟨x, hx, h0⟩ := fv_zFs sc i _ e
      rw [e, hx, h0 (by omega)]
      rfl
    · rw [List.getElem?_eq_none (by rw [fv_Ul]; omega), List.getElem?_eq_none (by rw [fv_zFl]; omega)]
      rfl
theorem fv_repm (ρ : Nat → Int32) : (fv_rep 400 0).map (fv_de ρ) = fv_z0 := by
  rw [fv_rep_eq, List.map_replicate]
  rfl
section FVT
variable {cds : List am_Cd}
theorem fv_rg {ρ : Nat → Int32} {n a c z : Nat} {s : List Nat} {T : fv_T} {h : am_H} (r : fv_rel ρ n T h) (e : fv_hg T a = (c, z, s)) (hc : ¬ c = 199) : h[a]? = some (c, s.map (fv_de ρ)) := by
  obtain ⟨o, h1, h2, -, h4, -⟩ := fv_rel_get r (a := a) (by rw [e]; exact hc)
  rw [e] at h2 h4
  obtain ⟨o1, o2⟩ := o
  have h2 : o1 = c := h2
  have h4 : o2 = s.map (fv_de ρ) := h4
  rw [h1, h2, h4]
theorem fv_xtype (hms : am_msok cds am_ms) (h : am_H) (hr : fv_rel (fv_rT sc) 299443227 fv_T0 h) :
    ∃ (v : Option Value) (h2 : am_H), v.toList = ([169] : List Nat).map (fv_de (fv_rT sc)) ∧ fv_rel (fv_rT sc) 299443227 fv_TTx h2 ∧ am_ca sc cds 13 152 (([2, 399, 415, 431, 447, 463, 479] : List Nat).map (fv_de (fv_rT sc))) h v h2 := by
  have e0 := fv_rg hr fv_T0d0 (by decide)
  have e1 := fv_rg hr fv_T0d1 (by decide)
  have e2 := fv_rg hr fv_T0d2 (by decide)
  rw [fv_repm] at e2
  have e1 : h[1]? = some (11, [.ref 2, .int (Int32.ofNat 0)]) := e1
  have hl : 3 ≤ h.length := (List.getElem?_eq_some_iff.mp e2).1
  have eh : fv_hx h (0, fv_z0) = h := by
    unfold fv_hx fv_h2
    rw [fv_set_self e2]
    exact fv_set_self e1
  have hc := fv_typeX (sc := sc) (cds := cds) (d := 10) (h := h) hms hl e0 rfl (fv_la sc 1) (fv_la sc 3) (fv_la sc 5) (fv_la sc 7) (fv_la sc 9) (fv_la sc 11) fv_z0 List.length_replicate
  rw [eh] at hc
  refine ⟨_, _, ?_, ?_, hc⟩
  · rfl
  · show fv_rel _ _ (fv_hs (fv_hs fv_T0 2 (100, 400, fv_U)) 1 (11, 2, [18, 169])) ((h.set 2 (100, fv_zF sc)).set 1 (11, [.ref 2, .int (Int32.ofNat (fv_t6 _ _ _ _ _ _ fv_z0).1)]))
    rw [fv_t61]
    refine fv_rel_set (o := (11, [.ref 2, .int (Int32.ofNat 0)])) (fv_rel_set hr e2 ⟨rfl, fv_Ul.symm, fv_Um.symm, by decide⟩ ?_) ?_ ⟨rfl, rfl, rfl, by decide⟩ rfl
    · show (fv_zF sc).length = fv_z0.length
      rw [fv_zFl]
      exact List.length_replicate.symm
    · rw [List.getElem?_set_ne (by decide)]
      exact e1
theorem fv_mtype (hms : am_msok cds am_ms) (h : am_H) (hr : fv_rel (fv_rT sc) 299443227 fv_TTo h) :
    ∃ (v : Option Value) (h2 : am_H), v.toList = ([169] : List Nat).map (fv_de (fv_rT sc)) ∧ fv_rel (fv_rT sc) 299443227 fv_TTm h2 ∧ am_ca sc cds 14 255 (([7810, 399, 415, 431, 447, 463, 479] : List Nat).map (fv_de (fv_rT sc))) h v h2 := by
  have s1 : fv_sh fv_TTx := fv_hs_sh (by decide) (fv_hs_sh (by decide) fv_T0s)
  have d4 : fv_hg fv_TTo 976 = fv_oT 0 := by
    unfold fv_TTo
    rw [fv_hg_hs (by decide) s1, if_neg (by decide)]
    unfold fv_TTx
    rw [fv_hg_hs (by decide) (fv_hs_sh (by decide) fv_T0s), if_neg (by decide), fv_hg_hs (by decide) fv_T0s, if_neg (by decide), fv_T0d4]
  have d3 : fv_hg fv_TTo 977 = (100, 400, fv_rep 400 0) := by
    unfold fv_TTo
    rw [fv_hg_hs (by decide) s1, if_neg (by decide)]
    unfold fv_TTx
    rw [fv_hg_hs (by decide) (fv_hs_sh (by decide) fv_T0s), if_neg (by decide), fv_hg_hs (by decide) fv_T0s, if_neg (by decide), fv_T0d3]
  have e1 := fv_rg hr d4 (by decide)
  have e2 := fv_rg hr d3 (by decide)
  rw [fv_repm] at e2
  have hl : 978 ≤ h.length := (List.getElem?_eq_some_iff.mp e2).1
  generalize hfl : ([0, 0, 8, 7818, 0, 7826, 7898, 0, 0, 0, 5, 5, 0, 0, 0, 7906, 7914, 7922, 7930, 0, 7938, 7946, 7954, 0, 7962, 0, 0, 0, 4, 0, 0, 0, 0, 0, 0, 7970, 7978, 7986, 7994, 8002, 8010, 8018, 8026, 8034, 8042, 8050, 8058, 8066, 8074, 8082, 8090, 8098, 8106, 8114, 8122, 8130, 8138, 8146, 8154, 8162, 8170, 8178, 8186, 8194, 8202, 8210, 8218, 0, 8226, 8234, 8242, 8250, 8258, 8266, 8274, 0, 0, 0, 0, 8282, 0, 8290, 8298, 8306, 8314, 8322, 8330, 8338, 8346, 0, 8354, 8362, 8370, 8378, 8386, 8394] : List Nat).map (fv_de (fv_rT sc)) = fl at e1
  have hf0 : fv_fl fl := by
    subst hfl
    exact ⟨rfl, rfl, rfl⟩
  have f4 : fl[4]? = some (.int (Int32.ofNat 0)) := by
    subst hfl
    rfl
  have eh : fv_hm h fl (0, fv_z0) = h := by
    unfold fv_hm fv_h2
    rw [fv_set_self e2, show fl.set 4 (.int (Int32.ofNat (0, fv_z0).1)) = fl from fv_set_self f4]
    exact fv_set_self e1
  have hc := fv_typeM (sc := sc) (cds := cds) (d := 12) (h := h) hms hf0 hl (fv_la sc 1) (fv_la sc 3) (fv_la sc 5) (fv_la sc 7) (fv_la sc 9) (fv_la sc 11) fv_z0 List.length_replicate
  rw [eh] at hc
  refine ⟨_, _, ?_, ?_, hc⟩
  · rfl
  · show fv_rel _ _ (fv_hs (fv_hs fv_TTo 977 (100, 400, fv_U)) 976 (fv_oT 169)) ((h.set 977 (100, fv_zF sc)).set 976 (24, fl.set 4 (.int (Int32.ofNat (fv_t6 _ _ _ _ _ _ fv_z0).1))))
    rw [fv_t61]
    refine fv_rel_set (o := (24, fl)) (fv_rel_set hr e2 ⟨rfl, fv_Ul.symm, fv_Um.symm, by decide⟩ ?_) ?_ ⟨rfl, rfl, ?_, by decide⟩ ?_
    · show (fv_zF sc).length = fv_z0.length
      rw [fv_zFl]
      exact List.length_replicate.symm
    · rw [List.getElem?_set_ne (by decide)]
      exact e1
    · subst hfl
      rfl
    · show (fl.set 4 _).length = fl.length
      exact List.length_set
end FVT
