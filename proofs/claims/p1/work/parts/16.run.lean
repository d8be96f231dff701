variable {sc : List Int32}
/-! A RUN, computed: where nothing is unknown -/
/-- a method for the run: its id, locals, answer's type, code -/
abbrev am_Ms : Type := List (Nat × Nat × Option FieldType × List (List Instr × Instr))
def am_fm : am_Ms → Nat → Option (Nat × Option FieldType × List (List Instr × Instr))
  | [], _ => none
  | z :: r, y => if z.1 = y then some z.2 else am_fm r y
theorem am_fm_in {y : Nat} {q : Nat × Option FieldType × List (List Instr × Instr)} : ∀ {ms : am_Ms}, am_fm ms y = some q → (y, q) ∈ ms
  | [], h => by simp [am_fm] at h
  | z :: r, h => by
    unfold am_fm at h
    split at h
    · rename_i hz
      cases h
      obtain ⟨z1, z2⟩ := z
      subst hz
      exact List.mem_cons_self
    · exact List.mem_cons_of_mem _ (am_fm_in h)
/-- the methods are those of the code -/
def am_msok (cds : List am_Cd) (ms : am_Ms) : Prop := ∀ z, z ∈ ms → ∃ (q : am_M) (starts : List Nat), am_mds[z.1]? = some q ∧ am_mk q ≠ 3 ∧ (z.1, z.2.2.2, starts, []) ∈ cds ∧ q.2.1 = z.2.1 ∧ q.2.2.1 = z.2.2.1
def am_cb (c : ClassFile.Cond) (x y : Int32) : Bool := match c with
  | .eq => decide (x = y)
  | .ne => !decide (x = y)
  | .lt => decide (x < y)
  | .ge => decide (y ≤ x)
  | .gt => decide (y < x)
  | .le => decide (x ≤ y)
theorem am_cb_iff {c : ClassFile.Cond} {x y : Int32} : am_cb c x y = true ↔ am_cnd c x y := by
  cases c <;> simp [am_cb, am_cnd]
/-- the end of a block: finished with an answer, or on at a block -/
def am_etm (cal : Nat → List Value → am_H → Option (Option Value × am_H)) (t : Instr) (bi : Nat) (lv : am_V) (st : List Value) (h : am_H) : Option (Bool × Nat × am_V × List Value × am_H) :=
  match t with
  | .nop => some (false, bi + 1, lv, st, h)
  | .goto o => some (false, o.toNat, lv, st, h)
  | .ifCond c o => match st with
    | .int x :: r => if am_cb c x 0 = true then some (false, o.toNat, lv, r, h) else some (false, bi + 1, lv, r, h)
    | _ => none
  | .if_icmp c o => match st with
    | .int y :: .int x :: r => if am_cb c x y = true then some (false, o.toNat, lv, r, h) else some (false, bi + 1, lv, r, h)
    | _ => none
  | .if_acmp c o => match st with
    | .retAddr j :: .retAddr i :: r => if i = j then (match c with
      | .eq => some (false, o.toNat, lv, r, h)
      | .ne => some (false, bi + 1, lv, r, h)) else none
    | _ => none
  | .ifnull o => match st with
    | .null :: r => some (false, o.toNat, lv, r, h)
    | .ref _ :: r => some (false, bi + 1, lv, r, h)
    | _ => none
  | .ifnonnull o => match st with
    | .null :: r => some (false, bi + 1, lv, r, h)
    | .ref _ :: r => some (false, o.toNat, lv, r, h)
    | _ => none
  | .tableswitch d lo hi offs => match st with
    | .int x :: r => some (false, am_ts d lo hi offs x, lv, r, h)
    | _ => none
  | .lookupswitch d ps => match st with
    | .int x :: r => some (false, am_ls d ps.toList x.toInt, lv, r, h)
    | _ => none
  | .invokeinterface y n => if n % 64 ≤ st.length ∧ am_cs (st.drop (n % 64)) ≤ 8 ∧ (n / 64 = 0 ∨ am_rcv (n / 64) (st.take (n % 64)).reverse h = true) then (match cal y (st.take (n % 64)).reverse h with
    | some x => some (false, bi + 1, lv, x.1.toList ++ st.drop (n % 64), x.2)
    | none => none) else none
  | .multianewarray _ _ => none
  | .getstatic _ => none
  | t => match am_rt t st with
    | some v => some (true, 0, [], v.toList, h)
    | none => none
def am_ego (sc : List Int32) (cal : Nat → List Value → am_H → Option (Option Value × am_H)) (stp : Nat → Bool) (code : List (List Instr × Instr)) : Nat → Nat → am_V → List Value → am_H → Option (Bool × Nat × am_V × List Value × am_H)
  | 0, _, _, _, _ => none
  | n + 1, bi, lv, st, h => if stp bi = true then some (false, bi, lv, st, h) else match code[bi]? with
    | some q => match am_bk sc q.1 lv st h with
      | some x => match am_etm cal q.2 bi x.1 x.2.1 x.2.2 with
        | some y => if y.1 = true then some y else am_ego sc cal stp code n y.2.1 y.2.2.1 y.2.2.2.1 y.2.2.2.2
        | none => none
      | none => none
    | none => none
def am_eca (sc : List Int32) (ms : am_Ms) : Nat → Nat → List Value → am_H → Option (Option Value × am_H)
  | 0, _, _, _ => none
  | d + 1, y, As, h => match am_fm ms y with
    | some z => if am_cs As ≤ z.1 then match am_ego sc (am_eca sc ms d) (fun _ => false) z.2.2 100000 0 (lv_args 0 As) [] h with
      | some x => match x.2.2.2.1 with
        | [] => if x.1 = true ∧ am_tyok z.2.1 none = true then some (none, x.2.2.2.2) else none
        | [v] => if x.1 = true ∧ am_tyok z.2.1 (some v) = true then some (some v, x.2.2.2.2) else none
        | _ => none
      | none => none
      else none
    | none => none
theorem am_rt_out {C : am_Rl} {CT : am_Rt} {hds : List (Nat × Nat × Nat)} {nx : Nat → am_V → List Value → am_H → Prop} {fin : Option Value → am_H → Prop} {thr : Nat → am_H → Prop} {t : Instr} {bi : Nat} {lv : am_V} {st : List Value} {h : am_H} {r : Option Value} (hr : am_rt t st = some r) (hf : fin r h) : am_tm C CT hds nx fin thr t bi lv st h := by
  unfold am_rt at hr
  split at hr <;> first
    | (cases hr; done)
    | (cases hr; simpa [am_tm, am_rt] using hf)
    | (split at hr
       · rename_i hv
         cases hr
         simpa [am_tm, am_rt, hv] using hf
       · cases hr)
/-- where the end of a block leads -/
theorem am_etm_ok {cal : Nat → List Value → am_H → Option (Option Value × am_H)} {C : am_Rl} {CT : am_Rt} {hds : List (Nat × Nat × Nat)} {nx : Nat → am_V → List Value → am_H → Prop} {fin : Option Value → am_H → Prop} {thr : Nat → am_H → Prop} (hcal : ∀ y As h x, cal y As h = some x → C y As h x.1 x.2)
    {t : Instr} {bi : Nat} {lv : am_V} {st : List Value} {h : am_H} {y : Bool × Nat × am_V × List Value × am_H} (e : am_etm cal t bi lv st h = some y) (h1 : y.1 = true → ∀ r : Option Value, r.toList = y.2.2.2.1 → fin r y.2.2.2.2) (h2 : y.1 = false → nx y.2.1 y.2.2.1 y.2.2.2.1 y.2.2.2.2) : am_tm C CT hds nx fin thr t bi lv st h := by
  unfold am_etm at e
  split at e
  · cases e
    exact h2 rfl
  · cases e
    exact h2 rfl
  · split at e
    · split at e
      · rename_i hc
        cases e
        exact ⟨fun _ => h2 rfl, fun z => absurd (am_cb_iff.mp hc) z⟩
      · rename_i hc
        cases e
        exact ⟨fun z => absurd (am_cb_iff.mpr z) hc, fun _ => h2 rfl⟩
    · cases e
  · split at e
    · split at e
      · rename_i hc
        cases e
        exact ⟨fun _ => h2 rfl, fun z => absurd (am_cb_iff.mp hc) z⟩
      · rename_i hc
        cases e
        exact ⟨fun z => absurd (am_cb_iff.mpr z) hc, fun _ => h2 rfl⟩
    · cases e
  · split at e
    · split at e
      · rename_i hij
        split at e
        · cases e
          exact ⟨hij, fun _ => h2 rfl, fun z => by cases z⟩
        · cases e
          exact ⟨hij, (fun z => by cases z), fun _ => h2 rfl⟩
      · cases e
    · cases e
  · split at e
    · cases e
      exact h2 rfl
    · cases e
      exact h2 rfl
    · cases e
  · split at e
    · cases e
      exact h2 rfl
    · cases e
      exact h2 rfl
    · cases e
  · split at e
    · cases e
      exact h2 rfl
    · cases e
  · split at e
    · cases e
      exact h2 rfl
    · cases e
  · split at e
    · rename_i hw
      split at e
      · rename_i x hx
        cases e
        exact ⟨hw.1, hw.2.1, hw.2.2, Or.inl ⟨x.1, x.2, hcal _ _ _ _ hx, h2 rfl⟩⟩
      · cases e
    · cases e
  · cases e
  · cases e
  · split at e
    · rename_i r hr
      cases e
      exact am_rt_out hr (h1 rfl r rfl)
    · cases e
theorem am_ego_ok {cal : Nat → List Value → am_H → Option (Option Value × am_H)} {stp : Nat → Bool} {code : List (List Instr × Instr)} {C : am_Rl} {CT : am_Rt} {hds : List (Nat × Nat × Nat)} {fin : Option Value → am_H → Prop} {thr : Nat → am_H → Prop} (hcal : ∀ y As h x, cal y As h = some x → C y As h x.1 x.2) :
    ∀ (n bi : Nat) (lv : am_V) (st : List Value) (h : am_H) (y : Bool × Nat × am_V × List Value × am_H), am_ego sc cal stp code n bi lv st h = some y → (y.1 = true → ∀ r : Option Value, r.toList = y.2.2.2.1 → fin r y.2.2.2.2) → (y.1 = false → ∃ k, am_go sc C CT code hds fin thr k y.2.1 y.2.2.1 y.2.2.2.1 y.2.2.2.2) → ∃ k, am_go sc C CT code hds fin thr k bi lv st h
  | 0, _, _, _, _, _, e, _, _ => by simp [am_ego] at e
  | n + 1, bi, lv, st, h, y, e, h1, h2 => by
    unfold am_ego at e
    by_cases hs : stp bi = true
    · rw [if_pos hs] at e
      cases e
      exact h2 rfl
    · rw [if_neg hs] at e
      split at e
      · rename_i q hq
        split at e
        · rename_i x hx
          split at e
          · rename_i y1 hy
            by_cases hy1 : y1.1 = true
            · rw [if_pos hy1] at e
              cases e
              refine ⟨1, ?_⟩
              unfold am_go
              rw [hq]
              simp only [hx]
              exact am_etm_ok hcal hy h1 (fun z => by rw [hy1] at z; cases z)
            · rw [if_neg hy1] at e
              obtain ⟨k, hk⟩ := am_ego_ok hcal n _ _ _ _ y e h1 h2
              refine ⟨k + 1, ?_⟩
              unfold am_go
              rw [hq]
              simp only [hx]
              exact am_etm_ok hcal hy (fun z => absurd z hy1) (fun _ => hk)
          · cases e
        · cases e
      · cases e
theorem am_eca_ok {cds : List am_Cd} {ms : am_Ms} (hms : am_msok cds ms) : ∀ (d y : Nat) (As : List Value) (h : am_H) (x : Option Value × am_H), am_eca sc ms d y As h = some x → am_ca sc cds d y As h x.1 x.2
  | 0, _, _, _, _, e => by simp [am_eca] at e
  | d + 1, y, As, h, x, e => by
    unfold am_eca at e
    split at e
    · rename_i z hz
      obtain ⟨q, starts, q1, q2, q3, q4, q5⟩ := hms _ (am_fm_in hz)
      simp only at q1 q3 q4 q5
      split at e
      · rename_i hc
        split at e
        · rename_i w hw
          split at e
          · rename_i hw2
            split at e
            · rename_i hw1
              cases e
              refine ⟨q, z.2.2, starts, q1, q2, q3, by rw [q5]; exact hw1.2, by rw [q4]; exact hc, ?_⟩
              exact am_ego_ok (am_eca_ok hms d) 100000 0 _ _ h w hw (fun _ r hr => by rw [hw2] at hr; cases r with | none => exact ⟨rfl, rfl⟩ | some v => cases hr) (fun z9 => by rw [hw1.1] at z9; cases z9)
            · cases e
          · rename_i v hw2
            split at e
            · rename_i hw1
              cases e
              refine ⟨q, z.2.2, starts, q1, q2, q3, by rw [q5]; exact hw1.2, by rw [q4]; exact hc, ?_⟩
              exact am_ego_ok (am_eca_ok hms d) 100000 0 _ _ h w hw (fun _ r hr => by rw [hw2] at hr; cases r with | none => cases hr | some v9 => cases hr; exact ⟨rfl, rfl⟩) (fun z9 => by rw [hw1.1] at z9; cases z9)
            · cases e
          · cases e
        · cases e
      · cases e
    · cases e
