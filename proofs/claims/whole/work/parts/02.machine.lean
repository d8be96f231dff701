/-! THE ABSTRACT MACHINE. Its values are the machine's, but that '.ref k' is the k-th thing made since the law's entry, and '.retAddr i' the i-th thing that was there before (a String constant). A thing is a kind and its slots: kinds below 100 are places of vwCl (an object, its fields), from 100 on arrays; 199: a thing of which nothing is said. -/
abbrev am_O : Type := Nat × List Value
abbrev am_H : Type := List am_O
abbrev am_V : Type := List (Nat × Value)
def am_mv (b : Nat) (ad : Nat → Nat) : Value → Value
  | .ref k => .ref (b + k)
  | .retAddr i => .ref (ad i)
  | .int x => .int x
  | .long x => .long x
  | .float x => .float x
  | .double x => .double x
  | .null => .null
theorem am_mv_cat (b : Nat) (ad : Nat → Nat) (v : Value) : (am_mv b ad v).category = v.category := by cases v <;> rfl
def am_L (b : Nat) (ad : Nat → Nat) (l : am_V) : am_V := l.map (fun q => (q.1, am_mv b ad q.2))
def am_ld : am_V → Nat → Option Value
  | [], _ => none
  | q :: r, i => if q.1 = i then some q.2 else am_ld r i
theorem am_ld_mem {i : Nat} {v : Value} : ∀ {l : am_V}, am_ld l i = some v → (i, v) ∈ l
  | [], h => by simp [am_ld] at h
  | q :: r, h => by
    unfold am_ld at h
    by_cases hq : q.1 = i
    · rw [if_pos hq] at h
      cases h
      rw [← hq]
      exact List.mem_cons_self
    · rw [if_neg hq] at h
      exact List.mem_cons_of_mem _ (am_ld_mem h)
theorem am_ld_has {b : Nat} {ad : Nat → Nat} {ls : Array Slot} {nL i : Nat} {l : am_V} {v : Value} (h : lv_has ls nL (am_L b ad l)) (e : am_ld l i = some v) : ls[i]? = some (.val (am_mv b ad v)) :=
  h.2.2 (i, am_mv b ad v) (List.mem_map.mpr ⟨(i, v), am_ld_mem e, rfl⟩)
theorem am_ld_at {b : Nat} {ad : Nat → Nat} {i : Nat} {l : am_V} {v : Value} (e : am_ld l i = some v) : ∃ k : Nat, (am_L b ad l)[k]? = some (i, am_mv b ad v) :=
  List.getElem?_of_mem (List.mem_map.mpr ⟨(i, v), am_ld_mem e, rfl⟩)
def am_s1 (l : am_V) (i : Nat) (v : Value) : am_V := (i, v) :: l.filter (fun q => !(q.1 == i) && !(q.1 + 1 == i && q.2.category == 2))
def am_s2 (l : am_V) (i : Nat) (v : Value) : am_V := (i, v) :: l.filter (fun q => !(q.1 == i) && (!(q.1 == i + 1) && !(q.1 + 1 == i && q.2.category == 2)))
theorem am_L_s1 (b : Nat) (ad : Nat → Nat) (l : am_V) (i : Nat) (v : Value) : (i, am_mv b ad v) :: (am_L b ad l).filter (fun q => !(q.1 == i) && !(q.1 + 1 == i && q.2.category == 2)) = am_L b ad (am_s1 l i v) := by
  simp [am_L, am_s1, List.filter_map, Function.comp_def, am_mv_cat]
theorem am_L_s2 (b : Nat) (ad : Nat → Nat) (l : am_V) (i : Nat) (v : Value) : (i, am_mv b ad v) :: (am_L b ad l).filter (fun q => !(q.1 == i) && (!(q.1 == i + 1) && !(q.1 + 1 == i && q.2.category == 2))) = am_L b ad (am_s2 l i v) := by
  simp [am_L, am_s2, List.filter_map, Function.comp_def, am_mv_cat]
def am_sz (h : am_H) : Nat := (h.map (fun o => o.2.length)).sum
theorem am_sz_push (h : am_H) (o : am_O) : am_sz (h ++ [o]) = am_sz h + o.2.length := by simp [am_sz]
theorem am_sz_set {o o' : am_O} (hl : o'.2.length = o.2.length) : ∀ {h : am_H} {k : Nat}, h[k]? = some o → am_sz (h.set k o') = am_sz h
  | [], k, e => by simp at e
  | x :: r, 0, e => by
    simp at e
    subst e
    simp [am_sz, hl]
  | x :: r, k + 1, e => by
    have e2 : r[k]? = some o := by simpa using e
    have ih := am_sz_set hl e2
    simp only [am_sz, List.set_cons_succ, List.map_cons, List.sum_cons] at ih ⊢
    rw [ih]
def am_clN (k : Nat) : String := match vwCl[k]? with
  | some q => q.1
  | none => ""
def am_kty (k : Nat) : FieldType := if k = 100 then .int else if k = 101 then .long else if k = 102 then .boolean else if k = 103 then .array .int else if k = 104 then .object "java/lang/Object" else .object (am_clN (k - 200))
def am_at (U : State) (D : va_G) (b : Nat) (ad : Nat → Nat) (o : am_O) (a : Nat) (H : Heap) : Prop :=
  (o.1 < 100 ∧ va_at D vwCl (a, .inr (o.1, o.2.map (am_mv b ad))) H) ∨
  (100 ≤ o.1 ∧ o.1 ≠ 199 ∧ ∃ cA : ClassId, ArrOfT U cA (am_kty o.1) ∧ va_RA U cA (am_kty o.1) ∧ H[a]? = some (arrV cA o.2.length (fun j => am_mv b ad (o.2.getD j .null)))) ∨ o.1 = 199
theorem am_at.kept {U : State} {D : va_G} {b : Nat} {ad : Nat → Nat} {o : am_O} {a : Nat} {H H1 : Heap} (h : am_at U D b ad o a H) (e : H1[a]? = H[a]?) : am_at U D b ad o a H1 := by
  rcases h with ⟨h1, h2⟩ | ⟨h1, h2, cA, h3, h4, h5⟩ | h
  · exact Or.inl ⟨h1, h2.kept e⟩
  · exact Or.inr (Or.inl ⟨h1, h2, cA, h3, h4, e.trans h5⟩)
  · exact Or.inr (Or.inr h)
theorem am_at.moved {u U : State} {D : va_G} {b : Nat} {ad : Nat → Nat} {o : am_O} {a : Nat} {H : Heap} (hvm : u.vm.Alike U.vm) (h : am_at u D b ad o a H) : am_at U D b ad o a H := by
  rcases h with h | ⟨h1, h2, cA, h3, h4, h5⟩ | h
  · exact Or.inl h
  · exact Or.inr (Or.inl ⟨h1, h2, cA, arrOfT_moved hvm h3, h4.moved hvm, h5⟩)
  · exact Or.inr (Or.inr h)
/-- the things of the heap: the k-th lies at b + k, nothing lies behind them -/
def am_R (U : State) (D : va_G) (b : Nat) (ad : Nat → Nat) (h : am_H) (H : Heap) : Prop := H.size = b + h.length ∧ ∀ (k : Nat) (o : am_O), h[k]? = some o → am_at U D b ad o (b + k) H
theorem am_R.moved {u U : State} {D : va_G} {b : Nat} {ad : Nat → Nat} {h : am_H} {H : Heap} (hvm : u.vm.Alike U.vm) (r : am_R u D b ad h H) : am_R U D b ad h H := ⟨r.1, fun k o e => (r.2 k o e).moved hvm⟩
theorem am_R.set {U : State} {D : va_G} {b : Nat} {ad : Nat → Nat} {h : am_H} {H H1 : Heap} {k : Nat} {o o' : am_O} (r : am_R U D b ad h H) (e : h[k]? = some o) (z : H1.size = H.size) (oq : ∀ q : Nat, q ≠ b + k → H1[q]? = H[q]?) (w : am_at U D b ad o' (b + k) H1) : am_R U D b ad (h.set k o') H1 := by
  have hl := (List.getElem?_eq_some_iff.mp e).1
  refine ⟨by rw [z, r.1, List.length_set], fun j o2 hj => ?_⟩
  by_cases hjk : j = k
  · subst hjk
    rw [List.getElem?_set_self hl] at hj
    cases hj
    exact w
  · rw [List.getElem?_set_ne (Ne.symm hjk)] at hj
    exact (r.2 j o2 hj).kept (oq (b + j) (by omega))
theorem am_R.push {U : State} {D : va_G} {b : Nat} {ad : Nat → Nat} {h : am_H} {H H1 : Heap} {o : am_O} (r : am_R U D b ad h H) (z : H1.size = H.size + 1) (oq : ∀ q : Nat, q < H.size → H1[q]? = H[q]?) (w : am_at U D b ad o H.size H1) : am_R U D b ad (h ++ [o]) H1 := by
  refine ⟨by rw [z, r.1, List.length_append]; rfl, fun j o2 hj => ?_⟩
  by_cases hl : j < h.length
  · rw [List.getElem?_append_left hl] at hj
    exact (r.2 j o2 hj).kept (oq (b + j) (by rw [r.1]; omega))
  · rw [List.getElem?_append_right (by omega)] at hj
    have hz : j - h.length < 1 := (List.getElem?_eq_some_iff.mp hj).1
    rw [show j - h.length = 0 by omega] at hj
    cases hj
    rw [show b + j = H.size by rw [r.1]; omega]
    exact w
/-- the words that every method is given -/
def am_T : List Cond := lw_tbl.filter goodWord
theorem am_inT {w : Jvm.Cond} (h : w ∈ lw_tbl) (g : goodWord w = true) : w ∈ am_T := List.mem_filter.mpr ⟨h, g⟩
theorem am_good {big ws : List Jvm.Cond} (hb : ∀ w ∈ am_T, w ∈ big) (h : ∀ w ∈ ws, w ∈ am_T) : GoodIn big ws := fun w hw => ⟨hb w (h w hw), good_of_word (List.mem_filter.mp (h w hw)).2⟩
theorem am_pl {ws : List Jvm.Cond} (ps : List Nat) (hp : (ws.map some) = ps.map (fun i => lw_tbl[i]?)) (g : ws.all goodWord = true) : ∀ w ∈ ws, w ∈ am_T := by
  intro w hw
  have h1 : some w ∈ ws.map some := List.mem_map.mpr ⟨w, hw, rfl⟩
  rw [hp] at h1
  obtain ⟨i, -, hi⟩ := List.mem_map.mp h1
  exact am_inT (List.mem_of_getElem? hi) (List.all_eq_true.mp g w hw)
