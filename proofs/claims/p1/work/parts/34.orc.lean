variable {sc : List Int32}
/-! WHAT IS KNOWN of a method is not reckoned again; other unknowns for the same heap -/
noncomputable def fv_cwG (calA calB : fv_Cl) (ws : fv_Ws) : fv_Cl := fun y as ret thr n t iv => @Option.rec (Nat × Option FieldType × List (List Instr × Instr) × List (Nat × Nat × Nat)) (fun _ => Bool) (calB y as ret thr n t iv) (fun z => @Prod.rec Nat (Option FieldType × List (List Instr × Instr) × List (Nat × Nat × Nat)) (fun _ => Bool) (fun mx w => @Prod.rec (Option FieldType) (List (List Instr × Instr) × List (Nat × Nat × Nat)) (fun _ => Bool) (fun ty w => @Prod.rec (List (List Instr × Instr)) (List (Nat × Nat × Nat)) (fun _ => Bool) (fun code hds => fv_if (fv_cl as mx) (fv_ev calA code hds (fv_rt ty ret) (fun _ _ _ _ => false) 100000 0 (fv_lvs as mx) [] n t iv) false) w) w) z) (fv_fw ws y)
noncomputable def fv_o1 (y0 : Nat) (pat vs : List Nat) (n1 n2 : Nat) (T1 T2 : fv_T) (cal : fv_Cl) : fv_Cl := fun y as ret thr n T iv => fv_if (Nat.beq y y0) (fv_if (fv_bL as pat) (fv_if (Nat.beq n n1) (fv_if (fv_bT T T1) (ret vs n2 T2 iv) false) false) false) (cal y as ret thr n T iv)
section FVO
variable {ρ ρ' : Nat → Int32}
theorem fv_cwG_ok (hsc : sc.length ≤ 13) (hρ : fv_rh sc ρ) {cds : List am_Cd} {ws : fv_Ws} (hws : fv_wok ws) {calA calB : fv_Cl} (d : Nat) (hA : fv_cok ρ calA (am_ca sc cds (d + 1)) (am_ct sc cds d)) (hB : fv_cok ρ calB (am_ca sc cds (d + 2)) (am_ct sc cds (d + 1))) :
    fv_cok ρ (fv_cwG calA calB ws) (fv_CL sc cds d) (fun y As h x h2 => am_ct sc cds (d + 1) y As h x h2) := by
  intro y as ret thr n T iv h hx io hr
  unfold fv_cwG at hx
  cases hw : fv_fw ws y with
  | none =>
    rw [hw] at hx
    have hx : calB y as ret thr n T iv = true := hx
    rcases hB y as ret thr n T iv h hx io hr with ⟨vs, n2, T2, iv2, v, h2, g1, g2, g3, g4, g5⟩ | g
    · exact Or.inl ⟨vs, n2, T2, iv2, v, h2, g1, g2, g3, g4, Or.inr g5⟩
    · exact Or.inr g
  | some w =>
    rw [hw] at hx
    have hx : fv_if (fv_cl as w.1) (fv_ev calA w.2.2.1 w.2.2.2 (fv_rt w.2.1 ret) (fun _ _ _ _ => false) 100000 0 (fv_lvs as w.1) [] n T iv) false = true := hx
    obtain ⟨h3, h4⟩ := fv_iff hx
    obtain ⟨q, starts, q1, q2, q3, q4, q5⟩ := hws _ (fv_fw_in hw)
    simp only at q1 q3 q4 q5
    have hca : am_cs (as.map (fv_de ρ)) ≤ q.2.1 := by rw [q4]; exact fv_cl_t h3
    rcases fv_ev_ok hsc hρ (CT := am_ct sc cds d) (sb := 0) hA (fun _ _ _ _ _ z _ => z) _ _ _ _ _ _ _ _ _ h4 io (fv_L_args as w.1) hr with ⟨_, _, _, _, _, _, _, g1, -⟩ | ⟨vs, n2, T2, iv2, v, h2, g1, g2, g3, g4, g5⟩ | ⟨x, n2, T2, iv2, h2, g0, g1, g2, g3, g4⟩
    · exact absurd g1 Bool.false_ne_true
    · obtain ⟨g6, g7⟩ := fv_iff (show fv_if (fv_ty (fv_tn w.2.1) vs) (ret vs n2 T2 iv2) false = true from g1)
      exact Or.inl ⟨vs, n2, T2, iv2, v, h2, g7, g2, g3, g4, Or.inl ⟨q, w.2.2.1, starts, w.2.2.2, q1, q2, q3, by rw [q5]; exact fv_ty_ok g6 g4, hca, g5 _ _ ⟨rfl, rfl⟩⟩⟩
    · exact absurd g1 Bool.false_ne_true
theorem fv_o1_ok {cal : fv_Cl} {C : am_Rl} {CT : am_Rt} {y0 n1 n2 : Nat} {pat vs : List Nat} {T1 T2 : fv_T} (hcal : fv_cok ρ cal C CT) (hc : ∀ h, fv_rel ρ n1 T1 h → ∃ (v : Option Value) (h2 : am_H), v.toList = vs.map (fv_de ρ) ∧ fv_rel ρ n2 T2 h2 ∧ C y0 (pat.map (fv_de ρ)) h v h2) : fv_cok ρ (fv_o1 y0 pat vs n1 n2 T1 T2 cal) C CT := by
  intro y as ret thr n T iv h hx io hr
  rcases fv_ift (show fv_if (Nat.beq y y0) (fv_if (fv_bL as pat) (fv_if (Nat.beq n n1) (fv_if (fv_bT T T1) (ret vs n2 T2 iv) false) false) false) (cal y as ret thr n T iv) = true from hx) with ⟨h1, h2⟩ | ⟨-, h2⟩
  · obtain ⟨h3, h4⟩ := fv_iff h2
    obtain ⟨h5, h6⟩ := fv_iff h4
    obtain ⟨h7, h8⟩ := fv_iff h6
    cases fv_beq h1
    cases fv_bL_t h3
    cases fv_beq h5
    cases fv_bT_t h7
    obtain ⟨v, h2, g1, g2, g3⟩ := hc h hr
    exact Or.inl ⟨vs, n2, T2, iv, v, h2, h8, io, g2, g1, g3⟩
  · exact hcal y as ret thr n T iv h h2 io hr
/-- the same heap, told by other unknowns -/
def fv_ag (ρ ρ' : Nat → Int32) (T T' : fv_T) : Prop := fv_sh T ∧ fv_sh T' ∧ ∀ a, (fv_hg T a).1 = (fv_hg T' a).1 ∧ (fv_hg T a).2.1 = (fv_hg T' a).2.1 ∧ (fv_hg T a).2.2.map (fv_de ρ) = (fv_hg T' a).2.2.map (fv_de ρ')
theorem fv_ag_rel {n : Nat} {T T' : fv_T} {h : am_H} (g : fv_ag ρ ρ' T T') (r : fv_rel ρ n T h) : fv_rel ρ' n T' h := by
  obtain ⟨-, g2, g3⟩ := g
  obtain ⟨-, r2, r3, r4, r5⟩ := r
  refine ⟨g2, r2, r3, r4, fun a => ?_⟩
  obtain ⟨e1, e2, e3⟩ := g3 a
  rcases r5 a with ⟨o, h1, h2, h3, h4, h5⟩ | ⟨h1, h2⟩
  · refine Or.inl ⟨o, h1, h2.trans e1, ?_, h4.trans e3, by rw [← e2]; exact h5⟩
    rw [← e2, h3]
    have := congrArg List.length e3
    rw [List.length_map, List.length_map] at this
    exact this
  · exact Or.inr ⟨h1, by rw [← e1]; exact h2⟩
theorem fv_ag_hs {T T' : fv_T} (g : fv_ag ρ ρ' T T') {a : Nat} {o o' : fv_Ob} (ha : a < 1331) (h1 : o.1 = o'.1) (h2 : o.2.1 = o'.2.1) (h3 : o.2.2.map (fv_de ρ) = o'.2.2.map (fv_de ρ')) : fv_ag ρ ρ' (fv_hs T a o) (fv_hs T' a o') :=
  ⟨fv_hs_sh ha g.1, fv_hs_sh ha g.2.1, fun b => by
    rw [fv_hg_hs ha g.1, fv_hg_hs ha g.2.1]
    by_cases z : a = b
    · rw [if_pos z, if_pos z]
      exact ⟨h1, h2, h3⟩
    · rw [if_neg z, if_neg z]
      exact g.2.2 b⟩
/-- the thing at a told once more -/
theorem fv_ag_here {T T' : fv_T} (g : fv_ag ρ ρ' T T') {a : Nat} {o' : fv_Ob} (ha : a < 1331) (h1 : (fv_hg T a).1 = o'.1) (h2 : (fv_hg T a).2.1 = o'.2.1) (h3 : (fv_hg T a).2.2.map (fv_de ρ) = o'.2.2.map (fv_de ρ')) : fv_ag ρ ρ' T (fv_hs T' a o') :=
  ⟨g.1, fv_hs_sh ha g.2.1, fun b => by
    rw [fv_hg_hs ha g.2.1]
    by_cases z : a = b
    · subst z
      rw [if_pos rfl]
      exact ⟨h1, h2, h3⟩
    · rw [if_neg z]
      exact g.2.2 b⟩
noncomputable def fv_clv (v : Nat) : Bool := fv_if (Nat.beq (Nat.mod v 8) 1) false (Nat.ble (Nat.mod v 8) 5)
noncomputable def fv_all {α : Type} (p : α → Bool) (l : List α) : Bool := @List.rec α (fun _ => Bool) true (fun x _ ih => fv_if (p x) ih false) l
noncomputable def fv_cloT (T : fv_T) : Bool := fv_all (fv_all (fv_all (fun o => @Prod.rec Nat (Nat × List Nat) (fun _ => Bool) (fun _ q => @Prod.rec Nat (List Nat) (fun _ => Bool) (fun _ s => fv_all fv_clv s) q) o))) T
theorem fv_all_t {α : Type} {p : α → Bool} : ∀ {l : List α}, fv_all p l = true → ∀ x ∈ l, p x = true
  | [], _, x, hx => absurd hx List.not_mem_nil
  | y :: r, h, x, hx => by
    obtain ⟨h1, h2⟩ := fv_iff (show fv_if (p y) (fv_all p r) false = true from h)
    rcases List.mem_cons.mp hx with rfl | hx
    · exact h1
    · exact fv_all_t h2 x hx
theorem fv_clv_t {v : Nat} (h : fv_clv v = true) : fv_de ρ v = fv_de ρ' v := by
  obtain ⟨h1, h2⟩ := fv_ifn h
  have h1 : ¬ v % 8 = 1 := fv_bne h1
  have h2 : v % 8 ≤ 5 := fv_ble h2
  rcases (show v % 8 = 0 ∨ v % 8 = 2 ∨ v % 8 = 3 ∨ v % 8 = 4 ∨ v % 8 = 5 by omega) with h | h | h | h | h
  · rw [fv_d0 h, fv_d0 h]
  · rw [fv_d2 h, fv_d2 h]
  · rw [fv_d3 h, fv_d3 h]
  · rw [fv_d4 h, fv_d4 h]
  · rw [fv_d5 h, fv_d5 h]
theorem fv_getD_or {α : Type} (l : List α) (i : Nat) (d : α) : l.getD i d ∈ l ∨ l.getD i d = d := by
  rw [List.getD_eq_getElem?_getD]
  cases h : l[i]? with
  | none => exact Or.inr rfl
  | some x => exact Or.inl (List.mem_of_getElem? h)
theorem fv_ag_clo {T : fv_T} (hs : fv_sh T) (hc : fv_cloT T = true) : fv_ag ρ ρ' T T := by
  refine ⟨hs, hs, fun a => ⟨rfl, rfl, List.map_congr_left fun v hv => fv_clv_t ?_⟩⟩
  rw [fv_hg_eq] at hv
  rcases fv_getD_or ((T.getD (a / 121) []).getD (a / 11 % 11) []) (a % 11) (199, 0, []) with h1 | h1
  · rcases fv_getD_or (T.getD (a / 121) []) (a / 11 % 11) [] with h2 | h2
    · rcases fv_getD_or T (a / 121) [] with h3 | h3
      · exact fv_all_t (fv_all_t (fv_all_t (fv_all_t hc _ h3) _ h2) _ h1) v hv
      · rw [h3] at h2
        exact absurd h2 List.not_mem_nil
    · rw [h2] at h1
      exact absurd h1 List.not_mem_nil
  · rw [h1] at hv
    exact absurd hv List.not_mem_nil
end FVO
/-! THE UNKNOWNS of a run -/
def fv_nx (s : Int32) : Int32 := s * Int32.ofNat 1103515245 + Int32.ofNat 12345
def fv_nxi : Nat → Int32 → Int32
  | 0, s => s
  | i + 1, s => fv_nx (fv_nxi i s)
def fv_up (s : Int32) : Int32 := (s.toUInt32 >>> ((Int32.ofNat 16).toUInt32 &&& Int32.toUInt32 31)).toInt32
def fv_rm (s m : Int32) : Int32 := fv_up s - fv_up s / m * m
def fv_ch (s : Int32) (i r : Nat) : Int32 := match r with
  | 0 => fv_nxi i s
  | 1 => fv_nxi i s * Int32.ofNat 1103515245
  | 2 => fv_up (fv_nxi i s)
  | 3 => fv_rm (fv_nxi i s) (Int32.ofNat 16)
  | 4 => fv_rm (fv_nxi i s) (Int32.ofNat 1000)
  | 5 => fv_rm (fv_nxi i s) (Int32.ofNat 255)
  | _ => fv_rm (fv_nxi i s) (Int32.ofNat 255) + Int32.ofNat 1
def fv_rho (sc : List Int32) (s t k : Int32) (x : Nat → Int32) : Nat → Int32 := fun j => if j < 13 then sc.getD j 0 else match j with
  | 13 => sc.getD 0 0 &&& 63
  | 15 => Int32.ofNat sc.length
  | 21 => t
  | 22 => t + Int32.ofNat 1
  | 23 => k
  | 24 => k + Int32.ofNat 1
  | j => if j < 40 then x j else if j < 88 then fv_ch s ((j - 40) / 8) ((j - 40) % 8) else x j
theorem fv_rho_ts (s t k : Int32) (x : Nat → Int32) : fv_ts (fv_rho sc s t k x) := by
  intro q hq sc' lv r h
  unfold fv_tbl at hq
  simp only [List.mem_cons, List.not_mem_nil, or_false] at hq
  rcases hq with rfl | rfl | rfl | rfl | rfl | rfl | rfl | rfl | rfl | rfl | rfl | rfl | rfl | rfl | rfl | rfl | rfl | rfl | rfl | rfl | rfl | rfl | rfl | rfl | rfl | rfl | rfl | rfl | rfl | rfl | rfl | rfl | rfl | rfl | rfl | rfl | rfl | rfl | rfl | rfl | rfl | rfl | rfl | rfl | rfl | rfl | rfl | rfl | rfl | rfl | rfl | rfl | rfl | rfl | rfl
  all_goals rfl
theorem fv_rho_rh (s t k : Int32) (x : Nat → Int32) : fv_rh sc (fv_rho sc s t k x) := ⟨fun j hj => by
  show (if j < 13 then sc.getD j 0 else _) = _
  rw [if_pos hj], rfl, rfl, fv_rho_ts s t k x⟩
theorem fv_iok_nil {ρ : Nat → Int32} : fv_iok ρ [] := fun u => ⟨Nat.zero_le _, fv_of_lt _⟩
theorem fv_iok_rep {ρ : Nat → Int32} (m : Nat) : fv_iok ρ (List.replicate m (0, 4294967296)) := fun u => by
  have h : (List.replicate m ((0, 4294967296) : Nat × Nat)).getD u (0, 4294967296) = (0, 4294967296) := by
    rw [List.getD_eq_getElem?_getD, List.getElem?_replicate]
    split <;> rfl
  rw [h]
  exact ⟨Nat.zero_le _, fv_of_lt _⟩
/-- a rest -/
theorem fv_up_nat (s : Int32) : ∃ m : Nat, m < 65536 ∧ fv_up s = Int32.ofNat m := by
  refine ⟨s.toUInt32.toNat / 65536, ?_, ?_⟩
  · have := s.toUInt32.toNat_lt
    omega
  · apply Int32.toBitVec_inj.1
    apply BitVec.eq_of_toNat_eq
    have h := s.toUInt32.toNat_lt
    show (s.toUInt32 >>> ((Int32.ofNat 16).toUInt32 &&& Int32.toUInt32 31)).toNat = (BitVec.ofNat 32 (s.toUInt32.toNat / 65536)).toNat
    rw [show ((Int32.ofNat 16).toUInt32 &&& Int32.toUInt32 31) = 16 from rfl, UInt32.toNat_shiftRight, BitVec.toNat_ofNat, Nat.shiftRight_eq_div_pow]
    rw [show (16 : UInt32).toNat % 32 = 16 from rfl, Nat.mod_eq_of_lt (by omega)]
theorem fv_rm_nat (s : Int32) {m : Nat} (hm : 0 < m) (hm2 : m < 65536) : ∃ r : Nat, r < m ∧ fv_rm s (Int32.ofNat m) = Int32.ofNat r := by
  obtain ⟨a, ha, e⟩ := fv_up_nat s
  refine ⟨a % m, Nat.mod_lt _ hm, ?_⟩
  unfold fv_rm
  rw [e, ← Int32.ofNat_div (by omega) (by omega), ← Int32.ofNat_mul, ← fv_sub32, fv_m32]
  have h1 : a / m * m ≤ a := Nat.div_mul_le_self a m
  have h2 : a / m * m % 4294967296 = a / m * m := Nat.mod_eq_of_lt (by omega)
  have h3 : a + (4294967296 - a / m * m % 4294967296) = a % m + 4294967296 := by
    have := Nat.div_add_mod a m
    rw [Nat.mul_comm] at this
    omega
  rw [h3, ← fv_m32 (a % m + 4294967296), ← fv_m32 (a % m), Nat.add_mod_right]
theorem fv_rm_lt (s : Int32) {m : Nat} (hm : 0 < m) (hm2 : m < 65536) : 2147483648 ≤ fv_of (fv_rm s (Int32.ofNat m)) ∧ fv_of (fv_rm s (Int32.ofNat m)) < 2147483648 + m := by
  obtain ⟨r, h1, h2⟩ := fv_rm_nat s hm hm2
  rw [h2, fv_of_nat]
  omega
