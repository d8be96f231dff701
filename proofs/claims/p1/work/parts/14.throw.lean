variable {sc : List Int32}
/-! THROWS, and the law's wrappers that catch them -/
def am_xn (x : Nat) : String := if x = 0 then "java/lang/IllegalStateException" else if x = 1 then "java/lang/IllegalArgumentException" else "java/lang/IndexOutOfBoundsException"
def am_names : List String := ["java/lang/RuntimeException", "java/lang/Exception"]
def am_okw (X : String) (w : Cond) (p : Nat) : Bool := (decide (lw_tbl[p]? = some w) && goodWord w) || (decide (w = .castable X X) || am_dcl.any (fun y => decide (w = .declares y)))
def am_pz (X : String) : List Cond → List Nat → Bool
  | [], [] => true
  | w :: r, p :: s => am_okw X w p && am_pz X r s
  | _, _ => false
theorem am_pz_spec {X : String} : ∀ {L : List Cond} {ps : List Nat}, am_pz X L ps = true → ∀ w ∈ L, w ∈ am_T ∨ w = .castable X X ∨ ∃ y ∈ am_dcl, w = .declares y
  | [], _, _, w, hw => by cases hw
  | x :: r, [], h, w, hw => by simp [am_pz] at h
  | x :: r, p :: s, h, w, hw => by
    simp only [am_pz, Bool.and_eq_true] at h
    rcases List.mem_cons.mp hw with rfl | hw
    · have h1 := h.1
      unfold am_okw at h1
      simp only [Bool.or_eq_true, Bool.and_eq_true, decide_eq_true_eq, List.any_eq_true] at h1
      rcases h1 with h1 | h1 | h1
      · exact Or.inl (am_inT (List.mem_of_getElem? h1.1) h1.2)
      · exact Or.inr (Or.inl h1)
      · exact Or.inr (Or.inr h1)
    · exact am_pz_spec h.2 w hw
/-- the words of a throw -/
def am_thk (cn ik ic x : Nat) : Prop := Jvm.Cond.classLink (am_own cn) ik (am_xn x) ∈ am_T ∧ Jvm.Cond.initialized (am_xn x) ∈ am_T ∧ (∀ w ∈ vx_atS (am_own cn) ic (am_xn x) am_names, w ∈ am_T ∨ w = .castable (am_xn x) (am_xn x) ∨ ∃ y ∈ am_dcl, w = .declares y) ∧
  (∀ w ∈ vx_atS (am_own cn) ic (am_xn x) am_names, vx_ot w = true) ∧ (am_xn x, am_xn x) ∈ am_cst ∧ Bundle.fit (am_xn x) = true
theorem am_thk_ot {cn ik ic x : Nat} (h : am_thk cn ik ic x) : ∀ w ∈ Cond.classLink (am_own cn) ik (am_xn x) :: Cond.initialized (am_xn x) :: vx_atS (am_own cn) ic (am_xn x) am_names, vx_ot w = true := by
  intro w hw
  rcases List.mem_cons.mp hw with rfl | hw
  · rfl
  · rcases List.mem_cons.mp hw with rfl | hw
    · rfl
    · exact h.2.2.2.1 w hw
/-- where throws stand: the class, its entries for the exception and its constructor, which exception -/
def am_ths : List (Nat × Nat × Nat × Nat) := [(11, 109, 113, 0), (11, 120, 124, 1), (11, 142, 146, 2)]
def am_thp0 : List Nat := [239, 1275, 1284, 1289, 1292, 1294, 1276, 1277, 271, 272, 1278, 1283, 1290, 1310, 1265, 1311, 1267, 1312, 1269, 1279, 1281, 1271, 1306, 1307, 1309, 1271, 1297, 1298, 1299, 1300, 1257, 1300, 1301, 1302, 1303, 1259, 1303, 1304, 1305, 1306, 1261, 1296, 1254, 1255, 1262, 1263, 1264, 1266, 1268, 1270, 1274, 1273, 1272]
def am_thp1 : List Nat := [239, 1275, 1284, 1289, 1292, 1294, 1276, 1277, 271, 272, 1278, 1283, 1290, 1310, 1265, 1311, 1267, 1312, 1269, 1279, 1281, 1271, 1306, 1307, 1309, 1271, 1345, 1346, 1347, 1300, 1257, 1300, 1301, 1302, 1303, 1259, 1303, 1304, 1305, 1306, 1261, 1344, 1335, 1336, 1337, 1287, 1338, 1339, 1340, 1341, 1274, 1273, 1342]
def am_thp2 : List Nat := [239, 1275, 1284, 1289, 1292, 1294, 1276, 1277, 271, 272, 1278, 1283, 1290, 1310, 1265, 1311, 1267, 1312, 1269, 1279, 1281, 1271, 1306, 1307, 1309, 1271, 1388, 1389, 1390, 1300, 1257, 1300, 1301, 1302, 1303, 1259, 1303, 1304, 1305, 1306, 1261, 1387, 1378, 1379, 1380, 1288, 1381, 1382, 1383, 1384, 1274, 1273, 1385]
theorem am_thk0 : am_thk 11 109 113 0 := ⟨am_inT (List.mem_of_getElem? (i := 1253) (by decide +kernel)) rfl, am_inT (List.mem_of_getElem? (i := 242) (by decide +kernel)) rfl, am_pz_spec (ps := am_thp0) (by decide +kernel), by decide +kernel, by decide +kernel, by decide +kernel⟩
theorem am_thk1 : am_thk 11 120 124 1 := ⟨am_inT (List.mem_of_getElem? (i := 1334) (by decide +kernel)) rfl, am_inT (List.mem_of_getElem? (i := 243) (by decide +kernel)) rfl, am_pz_spec (ps := am_thp1) (by decide +kernel), by decide +kernel, by decide +kernel, by decide +kernel⟩
theorem am_thk2 : am_thk 11 142 146 2 := ⟨am_inT (List.mem_of_getElem? (i := 1377) (by decide +kernel)) rfl, am_inT (List.mem_of_getElem? (i := 248) (by decide +kernel)) rfl, am_pz_spec (ps := am_thp2) (by decide +kernel), by decide +kernel, by decide +kernel, by decide +kernel⟩
theorem am_thw {cn ik ic x : Nat} (h : (cn, ik, ic, x) ∈ am_ths) : am_thk cn ik ic x := by
  simp only [am_ths, List.mem_cons, List.not_mem_nil, or_false, Prod.mk.injEq] at h
  rcases h with ⟨rfl, rfl, rfl, rfl⟩ | ⟨rfl, rfl, rfl, rfl⟩ | ⟨rfl, rfl, rfl, rfl⟩
  · exact am_thk0
  · exact am_thk1
  · exact am_thk2
/-- is the entry i of class cn a String? -/
def am_enS (cn i : Nat) : Bool := match am_find (am_tb cn) i with
  | some q => q.2.1 == 13
  | none => false
theorem am_enS_spec {cn i : Nat} (h : am_enS cn i = true) : ∃ k, am_en cn i 13 k = true := by
  unfold am_enS at h
  split at h
  · rename_i q hq
    refine ⟨q.2.2.1, ?_⟩
    unfold am_en
    rw [hq]
    simp only [beq_iff_eq] at h
    simp [h]
  · cases h
/-- 'throw new X(text)' stands at pe -/
def am_thr (cn : Nat) (cc : ByteArray) (pe x : Nat) : Bool := am_wi cc pe fun q => match q.1 with
  | .new ik => decide (q.2 = 3) && am_wi cc (pe + 3) (fun q3 => decide (q3.1 = .dup) && decide (q3.2 = 1)) && am_wi cc (pe + 4) (fun q4 => match q4.1 with
    | .ldc is => decide (q4.2 = 2) && am_enS cn is && am_wi cc (pe + 6) (fun q6 => match q6.1 with
      | .invokespecial ic => decide (q6.2 = 3) && am_wi cc (pe + 9) (fun q9 => decide (q9.1 = .athrow) && decide (q9.2 = 1)) && am_ths.contains (cn, ik, ic, x)
      | _ => false)
    | .ldc_w is => decide (q4.2 = 3) && am_enS cn is && am_wi cc (pe + 7) (fun q6 => match q6.1 with
      | .invokespecial ic => decide (q6.2 = 3) && am_wi cc (pe + 10) (fun q9 => decide (q9.1 = .athrow) && decide (q9.2 = 1)) && am_ths.contains (cn, ik, ic, x)
      | _ => false)
    | _ => false)
  | _ => false
def am_ckT (cn nL : Nat) (ini : Bool) (cc : ByteArray) (starts : List Nat) : Nat → List (List Instr × Instr) → Bool
  | _, [] => true
  | bi, q :: r => (match q.2 with
    | .multianewarray x _ => decide (3 ≤ x) || (match starts[bi]? with
      | some pc => match am_lk cn nL ini cc pc q.1 with
        | some pe => am_thr cn cc pe x
        | none => false
      | none => false)
    | _ => true) && am_ckT cn nL ini cc starts (bi + 1) r
theorem am_ckT_at {cn nL : Nat} {ini : Bool} {cc : ByteArray} {starts : List Nat} {is : List Instr} {x i pc pe : Nat} : ∀ {code : List (List Instr × Instr)} {b0 j : Nat}, am_ckT cn nL ini cc starts b0 code = true → code[j]? = some (is, .multianewarray x i) → starts[b0 + j]? = some pc → am_lk cn nL ini cc pc is = some pe → x < 3 → am_thr cn cc pe x = true
  | [], b0, j, h, e, _, _, _ => by simp at e
  | q :: r, b0, 0, h, e, hs, hl, hx => by
    simp at e
    subst e
    simp only [am_ckT, Bool.and_eq_true, Bool.or_eq_true, decide_eq_true_eq] at h
    rcases h.1 with h1 | h1
    · omega
    · rw [Nat.add_zero] at hs
      rw [hs] at h1
      simp only [hl] at h1
      exact h1
  | q :: r, b0, j + 1, h, e, hs, hl, hx => by
    simp only [am_ckT, Bool.and_eq_true] at h
    simp at e
    exact am_ckT_at h.2 e (by rw [show b0 + 1 + j = b0 + (j + 1) by omega]; exact hs) hl hx
/-- the things of the heap, and one more behind them -/
def am_RX (sc : List Int32) (U : State) (D : va_G) (b : Nat) (ad : Nat → Nat) (h : am_H) (H : Heap) : Prop := b + h.length < H.size ∧ (∀ (k : Nat) (o : am_O), h[k]? = some o → am_at U D b ad o (b + k) H) ∧ am_X sc b ad U H
theorem am_RX.moved {u U : State} {D : va_G} {b : Nat} {ad : Nat → Nat} {h : am_H} {H : Heap} (hvm : u.vm.Alike U.vm) (r : am_RX sc u D b ad h H) : am_RX sc U D b ad h H := ⟨r.1, fun k o e => (r.2.1 k o e).moved hvm, r.2.2.moved hvm⟩
theorem am_RX.junk {U : State} {D : va_G} {b : Nat} {ad : Nat → Nat} {h : am_H} {H : Heap} (r : am_RX sc U D b ad h H) (hz : H.size ≤ b + h.length + 1) : am_R sc U D b ad (h ++ [am_junk]) H := by
  refine ⟨by rw [List.length_append]; have := r.1; show H.size = b + (h.length + 1); omega, fun j o2 hj => ?_, r.2.2⟩
  by_cases hl : j < h.length
  · rw [List.getElem?_append_left hl] at hj
    exact r.2.1 j o2 hj
  · rw [List.getElem?_append_right (by omega)] at hj
    have hz : j - h.length < 1 := (List.getElem?_eq_some_iff.mp hj).1
    rw [show j - h.length = 0 by omega] at hj
    cases hj
    exact Or.inr (Or.inr rfl)
def am_XC (sc : List Int32) (D : va_G) (b : Nat) (ad : Nat → Nat) (x : Nat) (h2 : am_H) : String → State → State → Prop := fun E st t => E = am_xn x ∧ am_RX sc t D b ad h2 t.heap ∧ va_F (fun q => b ≤ q) st t
section AMX
variable {p : Program} {l : Launch} {e : Env} {R : Room} {s : State} {m : MethodId} {args : Array Value} {below : List Frame} {meth : Method} {c : Code} {Q : State → Prop}
variable {cc : ByteArray} {nL n0 z0 pc b cn : Nat} {yn : String} {ad : Nat → Nat} {D : va_G} {lv : am_V} {h : am_H}
theorem am_throw (C : am_C p R m c cc nL (am_own cn) s args D meth yn ad) (hl : l.stackTraces = false) {x pe mc ms : Nat} {Qc : Array Value → State → Outcome → State → Prop} (hck : am_thr cn cc pe x = true) (hX0 : am_X sc b ad s s.heap) (hout : ∀ x ∈ c.exceptionTable.toList, False) (hlocks : meth.locks = false) (hRf : 6 ≤ R.frames) (hRl : 100 ≤ R.locals)
    (hrm : am_rm R n0 z0 (h ++ [am_junk])) (hmc : h.length + 1 ≤ n0 + mc) (hms : am_sz h + 6 ≤ z0 + ms) : am_W sc p l e R s m args below meth c D b ad nL n0 z0 (vx_MQ below Qc (am_XC sc D b ad x h) args s mc ms (fun q => b ≤ q)) pe lv [] h := by
  intro ls H locs cl sl h1 h2 h3 h4 h5
  have hts := C.2.2.2.2.1
  have hE := C.2.2.2.2.2.2.2.2.2
  obtain ⟨r1, r2⟩ := hrm
  rw [List.length_append] at r1
  rw [am_sz_push] at r2
  have r1 : h.length + 1 ≤ n0 + R.cells := r1
  have r2 : am_sz h + 6 ≤ z0 + R.slots := r2
  have hat : ∀ {ik ic : Nat}, am_thk cn ik ic x → ∀ w ∈ vx_atS (am_own cn) ic (am_xn x) am_names, w.before args s = true := by
    intro ik ic k w hw
    rcases k.2.2.1 w hw with hw | rfl | ⟨y, hy, rfl⟩
    · exact hts w hw
    · exact va_Nw.use rfl (hE.2.2.2.2.1 _ k.2.2.2.2.1)
    · exact va_Nw.use rfl (hE.2.2.2.2.2.2 _ hy)
  have hx : ∀ t : State, s.vm.Alike t.vm → H.size < t.heap.size → (∀ q : Nat, q < H.size → t.heap[q]? = H[q]?) → am_XC sc D b ad x h (am_xn x) s t := by
    intro t hal hz hq
    refine ⟨rfl, ⟨by rw [← h2.1]; exact hz, fun k o ho => ?_, (h2.2.2.moved hal).kept fun a ha _ => hq a ha⟩, Nat.le_trans h3.1 (by omega), fun q z1 z2 => by rw [hq q (Nat.lt_of_lt_of_le z1 h3.1)]; exact h3.2.1 q z1 z2⟩
    have hk : b + k < H.size := by rw [h2.1]; have := (List.getElem?_eq_some_iff.mp ho).1; omega
    exact ((h2.2.1 k o ho).moved hal).kept (hq _ hk)
  have hnm : ∀ n ∈ am_names, Bundle.fit n = true := by decide +kernel
  have hout2 : ∀ k : Nat, ∀ x ∈ c.exceptionTable.toList, covers x k = false := fun _ x hx => (hout x hx).elim
  obtain ⟨⟨q1, q2⟩, hq0, hck⟩ := am_wi_spec hck
  simp only at hck
  split at hck
  · rename_i ik
    simp only [Bool.and_eq_true, decide_eq_true_eq] at hck
    obtain ⟨⟨rfl, hd3⟩, hck⟩ := hck
    obtain ⟨⟨a1, a2⟩, d3, hd3⟩ := am_wi_spec hd3
    simp only [Bool.and_eq_true, decide_eq_true_eq] at hd3
    obtain ⟨rfl, rfl⟩ := hd3
    obtain ⟨⟨a1, a2⟩, d4, hck⟩ := am_wi_spec hck
    simp only at hck
    split at hck
    · rename_i is
      simp only [Bool.and_eq_true, decide_eq_true_eq] at hck
      obtain ⟨⟨rfl, hS⟩, hck⟩ := hck
      obtain ⟨⟨a1, a2⟩, d6, hck⟩ := am_wi_spec hck
      simp only at hck
      split at hck
      · rename_i ic
        simp only [Bool.and_eq_true, decide_eq_true_eq] at hck
        obtain ⟨⟨rfl, hd9⟩, hm⟩ := hck
        obtain ⟨⟨a1, a2⟩, d9, hd9⟩ := am_wi_spec hd9
        simp only [Bool.and_eq_true, decide_eq_true_eq] at hd9
        obtain ⟨rfl, rfl⟩ := hd9
        have k := am_thw (List.contains_iff_mem.mp hm)
        obtain ⟨sk, hS⟩ := am_enS_spec hS
        obtain ⟨tx, hS⟩ := am_en13 hS
        exact vx_throwS C.1 C.2.1 hl (names := am_names) C.2.2.2.1 k.2.2.2.2.2 hnm (hts _ k.1) (hts _ k.2.1) (am_E_str hE hS) (hat k) (am_thk_ot k) hX0.1 hX0.2.1 h3 (h1.1.trans C.2.2.1.symm) hq0 d3 d4 d6 d9 (hout2 _) (by show 2 + 3 < _; omega) (by show 0 + (13 * (2 + 1) + 43) ≤ _; omega) (by omega) (by omega) hlocks hx h3.2.2 (by omega) (by omega)
      · cases hck
    · rename_i is
      simp only [Bool.and_eq_true, decide_eq_true_eq] at hck
      obtain ⟨⟨rfl, hS⟩, hck⟩ := hck
      obtain ⟨⟨a1, a2⟩, d6, hck⟩ := am_wi_spec hck
      simp only at hck
      split at hck
      · rename_i ic
        simp only [Bool.and_eq_true, decide_eq_true_eq] at hck
        obtain ⟨⟨rfl, hd9⟩, hm⟩ := hck
        obtain ⟨⟨a1, a2⟩, d9, hd9⟩ := am_wi_spec hd9
        simp only [Bool.and_eq_true, decide_eq_true_eq] at hd9
        obtain ⟨rfl, rfl⟩ := hd9
        have k := am_thw (List.contains_iff_mem.mp hm)
        obtain ⟨sk, hS⟩ := am_enS_spec hS
        obtain ⟨tx, hS⟩ := am_en13 hS
        exact vx_throwSW C.1 C.2.1 hl (names := am_names) C.2.2.2.1 k.2.2.2.2.2 hnm (hts _ k.1) (hts _ k.2.1) (am_E_str hE hS) (hat k) (am_thk_ot k) hX0.1 hX0.2.1 h3 (h1.1.trans C.2.2.1.symm) hq0 d3 d4 d6 d9 (hout2 _) (by show 2 + 3 < _; omega) (by show 0 + (13 * (2 + 1) + 43) ≤ _; omega) (by omega) (by omega) hlocks hx h3.2.2 (by omega) (by omega)
      · cases hck
    · cases hck
  · cases hck
end AMX
/-! a method that throws -/
def am_ckTz (z : am_Cd) : Bool := match am_mds[z.1]? with
  | some q => am_ckT q.2.2.2.1 q.2.1 (am_mk q == 2) (am_by q) z.2.2.1 0 z.2.1
  | none => false
def am_ct (sc : List Int32) (cds : List am_Cd) (d : Nat) : am_Rt := fun y As h x h2 => ∃ (q : am_M) (code : List (List Instr × Instr)) (starts : List Nat), am_mds[y]? = some q ∧ am_mk q ≠ 3 ∧ (y, code, starts, []) ∈ cds ∧ x < 3 ∧ am_cs As ≤ q.2.1 ∧
      ∃ n, am_go sc (am_ca sc cds d) am_noT code [] (fun _ _ => False) (fun x' hh => x' = x ∧ hh = h2) n 0 (lv_args 0 As) [] h
theorem am_le_ct {cds : List am_Cd} (d y : Nat) (As : List Value) (h : am_H) (x : Nat) (h2 : am_H) (e : am_ct sc cds d y As h x h2) : am_le h h2 := by
  obtain ⟨q, code, starts, -, -, -, -, -, n, g⟩ := e
  obtain ⟨hf, f1, f2⟩ := am_le_go (P := fun hh => hh = h2) (am_le_ca d) (fun _ _ _ _ _ z => z.elim) (fun _ _ z => z.elim) (fun _ _ z => z.2) n 0 _ _ h g
  rw [← f1]
  exact f2
theorem am_metT {cds : List am_Cd} (hcds : ∀ z : am_Cd, z ∈ cds → am_ckL z = true) (hct : ∀ z : am_Cd, z ∈ cds → am_ckTz z = true) {l : Launch} (hl : l.stackTraces = false) {d y x : Nat} {As : List Value} {h h2 : am_H} {q : am_M} (e : am_ct sc cds d y As h x h2) (hq : am_mds[y]? = some q) :
    am_mk q ≠ 9 ∧ am_mk q ≠ 3 ∧ ∀ (D : va_G) (b : Nat) (ad : Nat → Nat), vx_Met l q.1 (Jvm.Cond.code q.1 (am_by q) q.2.1 q.2.2.1 :: am_T) (am_rmd (d + 1) (h2.length + 1 - h.length) (am_sz h2 + 6 - am_sz h)) (am_Pc sc D b ad As h) (fun _ _ _ _ => False) (am_XC sc D b ad x h2) (h2.length + 1 - h.length) (am_sz h2 + 6 - am_sz h) (fun q => b ≤ q) := by
  have hle : am_le h h2 := am_le_ct d y As h x h2 e
  obtain ⟨q', code, starts, e1, hk3, e2, hx3, e4, n, g⟩ := e
  cases hq.symm.trans e1
  have hck := hcds _ e2
  unfold am_ckL at hck
  simp only [hq, Bool.and_eq_true, bne_iff_ne, ne_eq, decide_eq_true_eq] at hck
  obtain ⟨⟨⟨hk9, hown⟩, hs0⟩, hlk⟩ := hck
  have hckT := hct _ e2
  unfold am_ckTz at hckT
  simp only [hq] at hckT
  obtain ⟨m1, m2, m3, m4, m5, m6, m7, m8, m9, m10⟩ := am_mw hq hk9 hk3
  refine ⟨hk9, hk3, fun D b ad => ?_⟩
  refine vx_ofW (cc := am_by q) (maxL := q.2.1) (ret := q.2.2.1) m6 rfl ?_
  intro p e s m args below meth c s₁ B hml htab hv
  obtain ⟨rfl, hR, hK, hE⟩ := hv
  have hts := atoms_spec (ws := Jvm.Cond.code q.1 (am_by q) q.2.1 q.2.2.1 :: am_T) B.pre
  have hown2 : s.vm.findClass (am_own q.2.2.2.1) = some m.cls := by rw [← hown]; exact findClass_of_methodNamed B.named
  have hnm : meth.name = q.1.name := (name_of_methodNamed B.named B.method).1
  have hlocks := B.notSynchronized
  have C : am_C p (am_rmd (d + 1) (h2.length + 1 - h.length) (am_sz h2 + 6 - am_sz h)) m c (am_by q) q.2.1 (am_own q.2.2.2.1) s (As.map (am_mv b ad)).toArray D meth q.1.name ad :=
    ⟨B.exec, B.bytes, hml, hown2, fun w hw => hts w (List.mem_cons_of_mem _ hw), hK, hnm, by rw [am_rmd_f]; omega, by rw [am_rmd_l]; omega, hE⟩
  have hlv := lv_entry (As.map (am_mv b ad)) (n := q.2.1) (by rw [am_lsl]; exact e4)
  rw [lg_entry_eq]
  rw [am_largs] at hlv
  obtain ⟨l1, l2⟩ := hle
  have hrmJ : am_rm (am_rmd (d + 1) (h2.length + 1 - h.length) (am_sz h2 + 6 - am_sz h)) h.length (am_sz h) (h2 ++ [am_junk]) := ⟨by rw [List.length_append]; show h2.length + 1 ≤ h.length + (h2.length + 1 - h.length); omega, by rw [am_sz_push]; show am_sz h2 + 6 ≤ am_sz h + (am_sz h2 + 6 - am_sz h); omega⟩
  have hrm2 := am_rm_le (am_le_push h2 am_junk) hrmJ
  refine am_sim (e := e) (l := l) (below := below) (Q := vx_MQ below (fun _ _ _ _ => False) (am_XC sc D b ad x h2) (As.map (am_mv b ad)).toArray s (h2.length + 1 - h.length) (am_sz h2 + 6 - am_sz h) (fun q => b ≤ q)) (b := b) (n0 := h.length) (z0 := am_sz h) C (ini := am_mk q == 2) (fun z => (m10 (beq_iff_eq.mp z)).1) (ok := am_okc q.2.2.2.1) (starts := starts) (hds := []) hlk (am_le_ca d) (fun _ _ _ _ _ z => z.elim) (fun _ _ z => z.elim) (fun x' hh (z : x' = x ∧ hh = h2) => by rw [z.2]; exact hrm2) ?_ ?_ ?_ ?_ ?_ n 0 0 (lv_args 0 As) [] h g hs0 _ s.heap [] 0 0 hlv hR va_S.rf (Nat.zero_add _) (Nat.zero_add _)
  · intro pc y2 n2 ci lv st h3 h4 v2 hd ok w1 w2 w3 hca hle2 hrm3 k
    have hq2 : ∃ q2, am_mds[y2]? = some q2 := by
      cases d with
      | zero => exact hca.elim
      | succ d =>
        obtain ⟨q2, _, _, hq2, -⟩ := hca
        exact ⟨q2, hq2⟩
    obtain ⟨q2, hq2⟩ := hq2
    obtain ⟨hk2, hk4, hM⟩ := am_met hcds l d y2 _ _ _ _ q2 hca hq2
    exact am_call C hq2 hk2 hk4 hd ok w1 w2 w3 hM (by rw [am_rmd_f]; omega) (by rw [am_rmd_l]; omega) hle2 hrm3 k
  · intro _ _ _ _ _ _ _ _ _ _ _ _ _ _ _ _ _ z
    exact z.elim
  · intro bi x b2 z
    cases z
  · intro pc t lv st hf r hd hr hfin
    exact hfin.elim
  · intro bi pc pe x' i is lv hh g1 g2 g3 g4
    obtain ⟨rfl, rfl⟩ := g4
    have hthr := am_ckT_at (b0 := 0) (j := bi) hckT g1 (by rw [Nat.zero_add]; exact g2) g3 hx3
    exact am_throw C hl hthr hR.2.2 htab hlocks (by rw [am_rmd_f]; omega) (by rw [am_rmd_l]; omega) hrmJ (by omega) (by omega)
