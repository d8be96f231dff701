variable {sc : List Int32}
/-! THE ABSTRACT MACHINE. Its values are the machine's, but that '.ref k' is the k-th thing made since the law's entry, and '.retAddr i' the i-th thing that was there before (a String constant). A thing is a kind and its slots: kinds below 100 are places of vwCl (an object, its fields), from 100 on arrays; 199: a thing of which nothing is said. -/
abbrev am_O : Type := Nat × List Value
abbrev am_H : Type := List am_O
abbrev am_V : Type := List (Nat × Value)
def am_mv (b : Nat) (ad : Nat → Nat) : Value → Value
  | .ref k => .ref (b + k)
  | .retAddr i => .ref (ad i)
  | .int x => .int x
  | .long x => .long x
  | .float x => .float x
  | .double x => .double x
  | .null => .null
theorem am_mv_cat (b : Nat) (ad : Nat → Nat) (v : Value) : (am_mv b ad v).category = v.category := by cases v <;> rfl
def am_L (b : Nat) (ad : Nat → Nat) (l : am_V) : am_V := l.map (fun q => (q.1, am_mv b ad q.2))
def am_ld : am_V → Nat → Option Value
  | [], _ => none
  | q :: r, i => if q.1 = i then some q.2 else am_ld r i
theorem am_ld_mem {i : Nat} {v : Value} : ∀ {l : am_V}, am_ld l i = some v → (i, v) ∈ l
  | [], h => by simp [am_ld] at h
  | q :: r, h => by
    unfold am_ld at h
    by_cases hq : q.1 = i
    · rw [if_pos hq] at h
      cases h
      rw [← hq]
      exact List.mem_cons_self
    · rw [if_neg hq] at h
      exact List.mem_cons_of_mem _ (am_ld_mem h)
theorem am_ld_has {b : Nat} {ad : Nat → Nat} {ls : Array Slot} {nL i : Nat} {l : am_V} {v : Value} (h : lv_has ls nL (am_L b ad l)) (e : am_ld l i = some v) : ls[i]? = some (.val (am_mv b ad v)) :=
  h.2.2 (i, am_mv b ad v) (List.mem_map.mpr ⟨(i, v), am_ld_mem e, rfl⟩)
theorem am_ld_at {b : Nat} {ad : Nat → Nat} {i : Nat} {l : am_V} {v : Value} (e : am_ld l i = some v) : ∃ k : Nat, (am_L b ad l)[k]? = some (i, am_mv b ad v) :=
  List.getElem?_of_mem (List.mem_map.mpr ⟨(i, v), am_ld_mem e, rfl⟩)
def am_s1 (l : am_V) (i : Nat) (v : Value) : am_V := (i, v) :: l.filter (fun q => !(q.1 == i) && !(q.1 + 1 == i && q.2.category == 2))
def am_s2 (l : am_V) (i : Nat) (v : Value) : am_V := (i, v) :: l.filter (fun q => !(q.1 == i) && (!(q.1 == i + 1) && !(q.1 + 1 == i && q.2.category == 2)))
theorem am_L_s1 (b : Nat) (ad : Nat → Nat) (l : am_V) (i : Nat) (v : Value) : (i, am_mv b ad v) :: (am_L b ad l).filter (fun q => !(q.1 == i) && !(q.1 + 1 == i && q.2.category == 2)) = am_L b ad (am_s1 l i v) := by
  simp [am_L, am_s1, List.filter_map, Function.comp_def, am_mv_cat]
theorem am_L_s2 (b : Nat) (ad : Nat → Nat) (l : am_V) (i : Nat) (v : Value) : (i, am_mv b ad v) :: (am_L b ad l).filter (fun q => !(q.1 == i) && (!(q.1 == i + 1) && !(q.1 + 1 == i && q.2.category == 2))) = am_L b ad (am_s2 l i v) := by
  simp [am_L, am_s2, List.filter_map, Function.comp_def, am_mv_cat]
def am_sz (h : am_H) : Nat := (h.map (fun o => o.2.length)).sum
theorem am_sz_push (h : am_H) (o : am_O) : am_sz (h ++ [o]) = am_sz h + o.2.length := by simp [am_sz]
theorem am_sz_set {o o' : am_O} (hl : o'.2.length = o.2.length) : ∀ {h : am_H} {k : Nat}, h[k]? = some o → am_sz (h.set k o') = am_sz h
  | [], k, e => by simp at e
  | x :: r, 0, e => by
    simp at e
    subst e
    simp [am_sz, hl]
  | x :: r, k + 1, e => by
    have e2 : r[k]? = some o := by simpa using e
    have ih := am_sz_set hl e2
    simp only [am_sz, List.set_cons_succ, List.map_cons, List.sum_cons] at ih ⊢
    rw [ih]
/-- what the tables say of an array's class: its component's -/
def am_RA (U : State) (cA : ClassId) (ty : FieldType) : Prop := match ty with
  | .array t => ∃ (kA : Class) (comp : ClassId), U.vm.classes[cA]? = some kA ∧ kA.kind = .array comp (.array t) ∧ U.vm.findClass (FieldType.array t).toString = some comp
  | t => va_RA U cA t
theorem am_RA.moved {u U : State} (hvm : u.vm.Alike U.vm) {cA : ClassId} {ty : FieldType} (h : am_RA u cA ty) : am_RA U cA ty := by
  cases ty with
  | array t =>
    obtain ⟨kA, comp, h1, h2, h3⟩ := h
    obtain ⟨k', hk', he⟩ := hvm.2.2 _ _ h1
    exact ⟨k', comp, hk', by rw [he]; exact h2, by rw [hvm.findClass]; exact h3⟩
  | object C => exact va_RA.moved hvm (ty := .object C) h
  | byte => exact va_RA.moved hvm (ty := .byte) h
  | char => exact va_RA.moved hvm (ty := .char) h
  | double => exact va_RA.moved hvm (ty := .double) h
  | float => exact va_RA.moved hvm (ty := .float) h
  | int => exact va_RA.moved hvm (ty := .int) h
  | long => exact va_RA.moved hvm (ty := .long) h
  | short => exact va_RA.moved hvm (ty := .short) h
  | boolean => exact va_RA.moved hvm (ty := .boolean) h
def am_at (U : State) (D : va_G) (b : Nat) (ad : Nat → Nat) (o : am_O) (a : Nat) (H : Heap) : Prop :=
  (o.1 < 100 ∧ va_at D vwCl (a, .inr (o.1, o.2.map (am_mv b ad))) H) ∨
  (100 ≤ o.1 ∧ o.1 ≠ 199 ∧ ∃ cA : ClassId, ArrOfT U cA (am_kty o.1) ∧ am_RA U cA (am_kty o.1) ∧ H[a]? = some (arrV cA o.2.length (fun j => am_mv b ad (o.2.getD j .null)))) ∨ o.1 = 199
theorem am_at.kept {U : State} {D : va_G} {b : Nat} {ad : Nat → Nat} {o : am_O} {a : Nat} {H H1 : Heap} (h : am_at U D b ad o a H) (e : H1[a]? = H[a]?) : am_at U D b ad o a H1 := by
  rcases h with ⟨h1, h2⟩ | ⟨h1, h2, cA, h3, h4, h5⟩ | h
  · exact Or.inl ⟨h1, h2.kept e⟩
  · exact Or.inr (Or.inl ⟨h1, h2, cA, h3, h4, e.trans h5⟩)
  · exact Or.inr (Or.inr h)
theorem am_at.moved {u U : State} {D : va_G} {b : Nat} {ad : Nat → Nat} {o : am_O} {a : Nat} {H : Heap} (hvm : u.vm.Alike U.vm) (h : am_at u D b ad o a H) : am_at U D b ad o a H := by
  rcases h with h | ⟨h1, h2, cA, h3, h4, h5⟩ | h
  · exact Or.inl h
  · exact Or.inr (Or.inl ⟨h1, h2, cA, arrOfT_moved hvm h3, h4.moved hvm, h5⟩)
  · exact Or.inr (Or.inr h)
/-- the texts of the String constants -/
def am_txt : List (List Nat) := [[71, 69, 84], [72, 69, 65, 68], [80, 85, 84], [80, 79, 83, 84], [68, 69, 76, 69, 84, 69], [79, 80, 84, 73, 79, 78, 83], [72, 84, 84, 80, 47, 49, 46, 48], [72, 84, 84, 80, 47, 49, 46, 49], [104, 111, 115, 116], [99, 111, 110, 116, 101, 110, 116, 45, 108, 101, 110, 103, 116, 104], [116, 114, 97, 110, 115, 102, 101, 114, 45, 101, 110, 99, 111, 100, 105, 110, 103], [99, 104, 117, 110, 107, 101, 100], [99, 111, 110, 110, 101, 99, 116, 105, 111, 110], [99, 108, 111, 115, 101], [107, 101, 101, 112, 45, 97, 108, 105, 118, 101], [105, 102, 45, 109, 97, 116, 99, 104], [105, 102, 45, 110, 111, 110, 101, 45, 109, 97, 116, 99, 104], [114, 97, 110, 103, 101], [34, 118], [98, 121, 116, 101, 115, 61], [79, 75], [67, 114, 101, 97, 116, 101, 100], [78, 111, 32, 67, 111, 110, 116, 101, 110, 116], [80, 97, 114, 116, 105, 97, 108, 32, 67, 111, 110, 116, 101, 110, 116], [78, 111, 116, 32, 77, 111, 100, 105, 102, 105, 101, 100], [66, 97, 100, 32, 82, 101, 113, 117, 101, 115, 116], [78, 111, 116, 32, 70, 111, 117, 110, 100], [77, 101, 116, 104, 111, 100, 32, 78, 111, 116, 32, 65, 108, 108, 111, 119, 101, 100], [76, 101, 110, 103, 116, 104, 32, 82, 101, 113, 117, 105, 114, 101, 100], [80, 114, 101, 99, 111, 110, 100, 105, 116, 105, 111, 110, 32, 70, 97, 105, 108, 101, 100], [67, 111, 110, 116, 101, 110, 116, 32, 84, 111, 111, 32, 76, 97, 114, 103, 101], [85, 82, 73, 32, 84, 111, 111, 32, 76, 111, 110, 103], [82, 97, 110, 103, 101, 32, 78, 111, 116, 32, 83, 97, 116, 105, 115, 102, 105, 97, 98, 108, 101], [82, 101, 113, 117, 101, 115, 116, 32, 72, 101, 97, 100, 101, 114, 32, 70, 105, 101, 108, 100, 115, 32, 84, 111, 111, 32, 76, 97, 114, 103, 101], [78, 111, 116, 32, 73, 109, 112, 108, 101, 109, 101, 110, 116, 101, 100], [72, 84, 84, 80, 32, 86, 101, 114, 115, 105, 111, 110, 32, 78, 111, 116, 32, 83, 117, 112, 112, 111, 114, 116, 101, 100], [73, 110, 115, 117, 102, 102, 105, 99, 105, 101, 110, 116, 32, 83, 116, 111, 114, 97, 103, 101], [72, 84, 84, 80, 47, 49, 46, 49, 32], [67, 111, 110, 116, 101, 110, 116, 45, 76, 101, 110, 103, 116, 104, 58, 32], [69, 84, 97, 103, 58, 32, 34, 118], [34, 13, 10], [67, 111, 110, 116, 101, 110, 116, 45, 82, 97, 110, 103, 101, 58, 32, 98, 121, 116, 101, 115, 32], [67, 111, 110, 116, 101, 110, 116, 45, 82, 97, 110, 103, 101, 58, 32, 98, 121, 116, 101, 115, 32, 42], [65, 108, 108, 111, 119, 58, 32, 71, 69, 84, 44, 32, 72, 69, 65, 68, 44, 32, 79, 80, 84, 73, 79, 78, 83, 13, 10], [65, 108, 108, 111, 119, 58, 32, 71, 69, 84, 44, 32, 72, 69, 65, 68, 44, 32, 80, 85, 84, 44, 32, 80, 79, 83, 84, 44, 32, 68, 69, 76, 69, 84, 69, 44, 32, 79, 80, 84, 73, 79, 78, 83, 13, 10], [67, 111, 110, 110, 101, 99, 116, 105, 111, 110, 58, 32, 99, 108, 111, 115, 101, 13, 10], [116, 104, 101, 32, 116, 97, 112, 101, 32, 104, 97, 115, 32, 97, 116, 32, 109, 111, 115, 116, 32, 52, 48, 48, 32, 98, 121, 116, 101, 115], [97, 32, 98, 121, 116, 101, 32, 105, 115, 32, 48, 32, 116, 111, 32, 50, 53, 53, 44, 32, 109, 97, 110, 121, 32, 49, 32, 116, 111, 32, 51, 48, 48], [97, 32, 112, 105, 101, 99, 101, 32, 105, 115, 32, 48, 32, 116, 111, 32, 53], [71, 69, 84, 32, 47, 97, 32, 72, 84, 84, 80, 47, 49, 46, 49, 13, 10, 72, 111, 115, 116, 58, 32, 104, 13, 10, 13, 10], [80, 85, 84, 32, 47, 97, 32, 72, 84, 84, 80, 47, 49, 46, 49, 13, 10, 72, 111, 115, 116, 58, 32, 104, 13, 10, 67, 111, 110, 116, 101, 110, 116, 45, 76, 101, 110, 103, 116, 104, 58, 32, 53, 13, 10, 13, 10, 104, 101, 108, 108, 111], [71, 69, 84, 32, 47, 32, 72, 84, 84, 80, 47, 49, 46, 48, 13, 10, 13, 10], [80, 79, 83, 84, 32, 47, 97, 32, 72, 84, 84, 80, 47, 49, 46, 49, 13, 10, 72, 111, 115, 116, 58, 32, 104, 13, 10, 84, 114, 97, 110, 115, 102, 101, 114, 45, 69, 110, 99, 111, 100, 105, 110, 103, 58, 32, 99, 104, 117, 110, 107, 101, 100, 13, 10, 13, 10, 51, 13, 10, 97, 98, 99, 13, 10, 48, 13, 10, 13, 10], [68, 69, 76, 69, 84, 69, 32, 47, 97, 32, 72, 84, 84, 80, 47, 49, 46, 49, 13, 10, 72, 111, 115, 116, 58, 32, 104, 13, 10, 67, 111, 110, 110, 101, 99, 116, 105, 111, 110, 58, 32, 99, 108, 111, 115, 101, 13, 10, 13, 10], [71, 69, 84, 32, 47, 97, 32, 72, 84, 84, 80, 47, 49, 46, 49, 13, 10, 72, 111, 115, 116, 58, 32, 104, 13, 10, 82, 97, 110, 103, 101, 58, 32, 98, 121, 116, 101, 115, 61, 49, 45, 51, 13, 10, 73, 102, 45, 78, 111, 110, 101, 45, 77, 97, 116, 99, 104, 58, 32, 34, 118, 50, 34, 13, 10, 13, 10], [110, 111, 32, 115, 117, 99, 104, 32, 112, 97, 114, 116, 32, 111, 102, 32, 116, 104, 101, 32, 116, 97, 112, 101], [97, 110, 32, 77, 84, 85, 32, 105, 115, 32, 49, 48, 48, 32, 116, 111, 32, 54, 48, 48, 44, 32, 97, 110, 32, 77, 83, 83, 32, 52, 48, 32, 116, 111, 32, 53, 48, 48], [116, 104, 101, 114, 101, 32, 97, 114, 101, 32, 53, 32, 104, 111, 115, 116, 115], [110, 111, 32, 115, 117, 99, 104, 32, 104, 111, 115, 116], [97, 110, 32, 77, 84, 85, 32, 105, 115, 32, 49, 48, 48, 32, 116, 111, 32, 54, 48, 48], [119, 104, 97, 116, 32, 105, 115, 32, 48, 32, 116, 111, 32, 53], [97, 32, 99, 104, 111, 105, 99, 101, 32, 105, 115, 32, 48, 32, 116, 111, 32, 49, 48, 48, 48], [102, 114, 111, 109, 73, 110, 100, 101, 120, 40], [41, 32, 62, 32, 116, 111, 73, 110, 100, 101, 120, 40], [41], [32, 62, 32], [65, 114, 114, 97, 121, 32, 105, 110, 100, 101, 120, 32, 111, 117, 116, 32, 111, 102, 32, 114, 97, 110, 103, 101, 58, 32], [99, 104, 111, 105, 99, 101, 32, 97, 110, 100, 32, 97, 116, 32, 97, 114, 101, 32, 48, 32, 116, 111, 32, 49, 48, 48, 48, 44, 32, 98, 121, 32, 105, 115, 32, 49, 32, 116, 111, 32, 50, 53, 53], [110, 111, 32, 115, 117, 99, 104, 32, 102, 114, 97, 109, 101], [119, 104, 97, 116, 32, 105, 115, 32, 48, 32, 116, 111, 32, 51], [110, 111, 32, 115, 117, 99, 104, 32, 98, 121, 116, 101], [116, 105, 99, 107, 115, 32, 105, 115, 32, 49, 32, 116, 111, 32, 49, 48, 48], [116, 104, 101, 32, 116, 105, 109, 101, 32, 105, 115, 32, 97, 116, 32, 109, 111, 115, 116, 32, 50, 48, 48, 48, 48], [116, 105, 99, 107, 115, 32, 105, 115, 32, 49, 32, 116, 111, 32, 54, 48], [109, 97, 110, 121, 32, 105, 115, 32, 49, 32, 116, 111, 32, 50, 48, 48], [97, 110, 111, 116, 104, 101, 114, 32, 104, 111, 115, 116, 44, 32, 97, 110, 100, 32, 48, 32, 116, 111, 32, 57, 48, 48, 32, 98, 121, 116, 101, 115], [116, 104, 101, 114, 101, 32, 97, 114, 101, 32, 52, 48, 32, 101, 99, 104, 111, 101, 115], [110, 111, 32, 115, 117, 99, 104, 32, 101, 99, 104, 111], [116, 104, 101, 32, 116, 97, 112, 101, 32, 105, 115, 32, 110, 111, 32, 110, 97, 109, 101], [97, 110, 111, 116, 104, 101, 114, 32, 104, 111, 115, 116, 32, 104, 97, 115, 32, 116, 104, 101, 32, 110, 97, 109, 101], [116, 104, 101, 32, 115, 101, 114, 118, 101, 114, 32, 100, 111, 101, 115, 32, 110, 111, 116, 32, 97, 115, 107], [116, 104, 101, 114, 101, 32, 97, 114, 101, 32, 52, 48, 32, 108, 111, 111, 107, 117, 112, 115], [110, 111, 32, 115, 117, 99, 104, 32, 108, 111, 111, 107, 117, 112], [116, 104, 101, 32, 108, 111, 111, 107, 117, 112, 32, 104, 97, 115, 32, 97, 110, 32, 97, 110, 115, 119, 101, 114], [97, 32, 99, 108, 105, 101, 110, 116, 44, 32, 97, 110, 111, 116, 104, 101, 114, 32, 104, 111, 115, 116, 44, 32, 97, 110, 100, 32, 97, 32, 112, 111, 114, 116, 32, 49, 32, 116, 111, 32, 54, 53, 53, 51, 53], [116, 104, 101, 114, 101, 32, 97, 114, 101, 32, 54, 48, 32, 99, 111, 110, 110, 101, 99, 116, 105, 111, 110, 115], [110, 111, 32, 115, 117, 99, 104, 32, 99, 111, 110, 110, 101, 99, 116, 105, 111, 110], [110, 111, 116, 104, 105, 110, 103, 32, 99, 97, 110, 32, 98, 101, 32, 119, 114, 105, 116, 116, 101, 110, 32, 111, 110, 32, 105, 116], [109, 97, 110, 121, 32, 105, 115, 32, 49, 32, 116, 111, 32, 51, 48, 48], [105, 116, 32, 105, 115, 32, 116, 104, 101, 32, 115, 101, 114, 118, 101, 114, 39, 115], [105, 116, 32, 99, 97, 110, 110, 111, 116, 32, 98, 101, 32, 99, 108, 111, 115, 101, 100], [119, 104, 97, 116, 32, 105, 115, 32, 48, 32, 116, 111, 32, 49, 56], [110, 111, 32, 115, 117, 99, 104, 32, 102, 105, 108, 101], [119, 104, 97, 116, 32, 105, 115, 32, 48, 32, 116, 111, 32, 50], [110, 111, 32, 115, 117, 99, 104, 32, 114, 101, 113, 117, 101, 115, 116], [119, 104, 97, 116, 32, 105, 115, 32, 48, 32, 116, 111, 32, 54], [119, 104, 97, 116, 32, 105, 115, 32, 48, 32, 116, 111, 32, 49, 53], [71, 69, 84, 32, 47, 97, 32, 72, 84, 84, 80, 47, 49, 46, 49, 124, 72, 111, 115, 116, 58, 32, 104, 124, 124], [80, 85, 84, 32, 47, 97, 32, 72, 84, 84, 80, 47, 49, 46, 49, 124, 72, 111, 115, 116, 58, 32, 104, 124, 67, 111, 110, 116, 101, 110, 116, 45, 76, 101, 110, 103, 116, 104, 58, 32, 53, 124, 124, 104, 101, 108, 108, 111], [71, 69, 84, 32, 47, 32, 72, 84, 84, 80, 47, 49, 46, 48, 124, 124], [80, 79, 83, 84, 32, 47, 97, 32, 72, 84, 84, 80, 47, 49, 46, 49, 124, 72, 111, 115, 116, 58, 32, 104, 124, 84, 114, 97, 110, 115, 102, 101, 114, 45, 69, 110, 99, 111, 100, 105, 110, 103, 58, 32, 99, 104, 117, 110, 107, 101, 100, 124, 124, 51, 124, 97, 98, 99, 124, 48, 124, 124], [68, 69, 76, 69, 84, 69, 32, 47, 97, 32, 72, 84, 84, 80, 47, 49, 46, 49, 124, 72, 111, 115, 116, 58, 32, 104, 124, 67, 111, 110, 110, 101, 99, 116, 105, 111, 110, 58, 32, 99, 108, 111, 115, 101, 124, 124], [71, 69, 84, 32, 47, 97, 32, 72, 84, 84, 80, 47, 49, 46, 49, 124, 72, 111, 115, 116, 58, 32, 104, 124, 82, 97, 110, 103, 101, 58, 32, 98, 121, 116, 101, 115, 61, 49, 45, 51, 124, 73, 102, 45, 78, 111, 110, 101, 45, 77, 97, 116, 99, 104, 58, 32, 34, 118, 50, 34, 124, 124]]
/-- what lies below b and is never written: statics of the JDK's, the String constants' contents, ArrayList's empty row -/
def am_X (sc : List Int32) (b : Nat) (ad : Nat → Nat) (U : State) (H : Heap) : Prop :=
  vx_Zq Bundle.tN "UNASSIGNED_STACK" Bundle.steD (fun q => b ≤ q) U H ∧ vx_Zq Bundle.tN "SUPPRESSED_SENTINEL" Bundle.listD (fun q => b ≤ q) U H ∧
  va_Z "java/lang/String" "COMPACT_STRINGS" "Z" (.int 1) (fun q => b ≤ q) U H ∧
  va_Z "java/util/ArrayList" "DEFAULTCAPACITY_EMPTY_ELEMENTDATA" "[Ljava/lang/Object;" (.ref (ad 1000)) (fun q => b ≤ q) U H ∧ va_T (.object "java/lang/Object") (ad 1000) 0 (fun _ => .null) (fun q => b ≤ q) U H ∧
  va_T .int (ad 2000) sc.length (fun j => .int (sc.getD j 0)) (fun q => b ≤ q) U H ∧
  (va_Z "jdk/internal/util/Preconditions" "SIOOBE_FORMATTER" "Ljava/util/function/BiFunction;" .null (fun q => b ≤ q) U H ∨ va_Z "jdk/internal/util/Preconditions" "SIOOBE_FORMATTER" "Ljava/util/function/BiFunction;" (.ref (ad 4000)) (fun q => b ≤ q) U H) ∧
  ∀ i : Nat, i < am_txt.length → va_O "java/lang/String" (ad i) (fun q => b ≤ q) U H ∧ va_OF "java/lang/String" "coder" "B" (.int 0) (ad i) (fun q => b ≤ q) U H ∧ va_OF "java/lang/String" "value" "[B" (.ref (ad (3000 + i))) (ad i) (fun q => b ≤ q) U H ∧
    va_T .byte (ad (3000 + i)) (am_txt.getD i []).length (fun j => .int (nI ((am_txt.getD i []).getD j 0))) (fun q => b ≤ q) U H
theorem am_X.moved {b : Nat} {ad : Nat → Nat} {u U : State} {H : Heap} (hvm : u.vm.Alike U.vm) (h : am_X sc b ad u H) : am_X sc b ad U H := by
  obtain ⟨h1, h2, h3, h4, h5, h7, h8, h6⟩ := h
  exact ⟨vx_Zq.moved hvm h1, vx_Zq.moved hvm h2, va_Z.moved hvm h3, va_Z.moved hvm h4, va_T.moved hvm h5, va_T.moved hvm h7, h8.imp (va_Z.moved hvm) (va_Z.moved hvm), fun i hi => ⟨va_O.moved hvm (h6 i hi).1, va_OF.moved hvm (h6 i hi).2.1, va_OF.moved hvm (h6 i hi).2.2.1, va_T.moved hvm (h6 i hi).2.2.2⟩⟩
theorem am_X.kept {b : Nat} {ad : Nat → Nat} {U : State} {H H1 : Heap} (h : am_X sc b ad U H) (hq : ∀ a : Nat, a < H.size → ¬ b ≤ a → H1[a]? = H[a]?) : am_X sc b ad U H1 := by
  obtain ⟨h1, h2, h3, h4, h5, h7, h8, h6⟩ := h
  exact ⟨h1.kept hq, h2.kept hq, h3.kept hq, h4.kept hq, h5.kept hq, h7.kept hq, h8.imp (fun z => z.kept hq) (fun z => z.kept hq), fun i hi => ⟨(h6 i hi).1.kept hq, (h6 i hi).2.1.kept hq, (h6 i hi).2.2.1.kept hq, (h6 i hi).2.2.2.kept hq⟩⟩
/-- the things of the heap: the k-th lies at b + k, nothing lies behind them -/
def am_R (sc : List Int32) (U : State) (D : va_G) (b : Nat) (ad : Nat → Nat) (h : am_H) (H : Heap) : Prop := H.size = b + h.length ∧ (∀ (k : Nat) (o : am_O), h[k]? = some o → am_at U D b ad o (b + k) H) ∧ am_X sc b ad U H
theorem am_R.moved {u U : State} {D : va_G} {b : Nat} {ad : Nat → Nat} {h : am_H} {H : Heap} (hvm : u.vm.Alike U.vm) (r : am_R sc u D b ad h H) : am_R sc U D b ad h H := ⟨r.1, fun k o e => (r.2.1 k o e).moved hvm, r.2.2.moved hvm⟩
theorem am_R.set {U : State} {D : va_G} {b : Nat} {ad : Nat → Nat} {h : am_H} {H H1 : Heap} {k : Nat} {o o' : am_O} (r : am_R sc U D b ad h H) (e : h[k]? = some o) (z : H1.size = H.size) (oq : ∀ q : Nat, q ≠ b + k → H1[q]? = H[q]?) (w : am_at U D b ad o' (b + k) H1) : am_R sc U D b ad (h.set k o') H1 := by
  have hl := (List.getElem?_eq_some_iff.mp e).1
  refine ⟨by rw [z, r.1, List.length_set], fun j o2 hj => ?_, r.2.2.kept fun a ha hb => oq a (by omega)⟩
  by_cases hjk : j = k
  · subst hjk
    rw [List.getElem?_set_self hl] at hj
    cases hj
    exact w
  · rw [List.getElem?_set_ne (Ne.symm hjk)] at hj
    exact (r.2.1 j o2 hj).kept (oq (b + j) (by omega))
theorem am_R.push {U : State} {D : va_G} {b : Nat} {ad : Nat → Nat} {h : am_H} {H H1 : Heap} {o : am_O} (r : am_R sc U D b ad h H) (z : H1.size = H.size + 1) (oq : ∀ q : Nat, q < H.size → H1[q]? = H[q]?) (w : am_at U D b ad o H.size H1) : am_R sc U D b ad (h ++ [o]) H1 := by
  refine ⟨by rw [z, r.1, List.length_append]; rfl, fun j o2 hj => ?_, r.2.2.kept fun a ha hb => oq a ha⟩
  by_cases hl : j < h.length
  · rw [List.getElem?_append_left hl] at hj
    exact (r.2.1 j o2 hj).kept (oq (b + j) (by rw [r.1]; omega))
  · rw [List.getElem?_append_right (by omega)] at hj
    have hz : j - h.length < 1 := (List.getElem?_eq_some_iff.mp hj).1
    rw [show j - h.length = 0 by omega] at hj
    cases hj
    rw [show b + j = H.size by rw [r.1]; omega]
    exact w
/-- which classes may stand for which, and which may not -/
def am_cst : List (String × String) := [("java/lang/IllegalStateException", "java/lang/IllegalStateException"), ("java/lang/IllegalArgumentException", "java/lang/IllegalArgumentException"), ("java/lang/IndexOutOfBoundsException", "java/lang/IndexOutOfBoundsException"), (RX3, "java/lang/Object"), (RX0, "java/lang/Object"), (RX1, "java/lang/Object")]
def am_nct : List (String × String) := [("java/lang/IllegalStateException", "java/lang/IllegalArgumentException"), ("java/lang/IllegalStateException", "java/lang/IndexOutOfBoundsException"), ("java/lang/IllegalArgumentException", "java/lang/IllegalStateException"), ("java/lang/IllegalArgumentException", "java/lang/IndexOutOfBoundsException"), ("java/lang/IndexOutOfBoundsException", "java/lang/IllegalStateException"), ("java/lang/IndexOutOfBoundsException", "java/lang/IllegalArgumentException")]
def am_dcl : List MethodName := [⟨"java/lang/RuntimeException", "<init>", "(Ljava/lang/String;)V"⟩, ⟨"java/lang/Exception", "<init>", "(Ljava/lang/String;)V"⟩, ⟨"java/lang/Throwable", "<init>", "(Ljava/lang/String;)V"⟩]
/-- what is there before the law's entry and stays: the String constants; the arrays' classes -/
def am_E (ad : Nat → Nat) (U : State) : Prop := (∀ q : String × Nat × String × Nat, q ∈ am_strs → vk_R q.1 q.2.1 q.2.2.1 (ad q.2.2.2) U) ∧ (∀ t ∈ am_aot, (Jvm.Cond.arrayOver t).before #[] U = true) ∧ (∀ q ∈ am_nf, va_Nw (.fieldLinkNest q.1 q.2.1 q.2.2.1 q.2.2.2.1 q.2.2.2.2.1 q.2.2.2.2.2) U) ∧ (∀ q ∈ am_nm, va_Nw (.methodLinkNest q.1 q.2.1 q.2.2.1 q.2.2.2) U) ∧ (∀ q ∈ am_cst, va_Nw (.castable q.1 q.2) U) ∧ (∀ q ∈ am_nct, va_Nc q.1 q.2 U) ∧ ∀ y ∈ am_dcl, va_Nw (.declares y) U
theorem am_E_str {ad : Nat → Nat} {U : State} (h : am_E ad U) {own tx : String} {i k : Nat} (hw : (own, i, tx, k) ∈ am_strs) : vk_R own i tx (ad k) U := h.1 _ hw
theorem am_AAmoved {u U : State} (hvm : u.vm.Alike U.vm) (h : (Jvm.Cond.arrayOver (.array .int)).before #[] u = true) : (Jvm.Cond.arrayOver (.array .int)).before #[] U = true := by
  obtain ⟨comp, c, k, h1, h2, h3, h4, h5⟩ := arrayOverA_spec h
  obtain ⟨k', hk', he⟩ := hvm.2.2 _ _ h3
  have hi : (U.vm.classes.findIdx? fun (x : Class) => match x.kind with | .array component _ => component == comp | _ => false) = some c := by
    rw [hvm.findIdx?_eq _ (fun _ => rfl)]
    exact h2
  have hkind : k'.kind = .array comp (.array .int) := by rw [he]; exact h4
  have f1 : U.vm.findClass (FieldType.array .int).toString = some comp := by rw [hvm.findClass]; exact h1
  have f2 : U.vm.findClass ("[" ++ (FieldType.array .int).toString) = some c := by rw [hvm.findClass]; exact h5
  unfold Cond.before Cond.holds
  simp only [Cond.value]
  rw [f1, Option.bind_some]
  refine (congrArg (fun o : Option Nat => (o.bind (fun c => (U.vm.classes[c]?).map fun (k : Class) => match k.kind with | .array _ ty => decide (ty = FieldType.array .int) && decide (U.vm.findClass ("[" ++ (FieldType.array .int).toString) = some c) | _ => false) == some true)) hi).trans ?_
  simp [hk', hkind, f2]
theorem am_aot_moved {u U : State} (hvm : u.vm.Alike U.vm) {t : FieldType} (ht : t ∈ am_aot) (h : (Jvm.Cond.arrayOver t).before #[] u = true) : (Jvm.Cond.arrayOver t).before #[] U = true := by
  have hs : t = .array .int ∨ ∃ C, t = .object C := by
    simp only [am_aot, List.mem_cons, List.not_mem_nil, or_false] at ht
    rcases ht with rfl | rfl | rfl | rfl | rfl | rfl | rfl | rfl | rfl | rfl | rfl | rfl
    · exact Or.inl rfl
    all_goals exact Or.inr ⟨_, rfl⟩
  rcases hs with rfl | ⟨C, rfl⟩
  · exact am_AAmoved hvm h
  · exact va_AO.moved (C := C) hvm h
theorem am_E.warm {ad : Nat → Nat} {s U : State} (hW : s.WarmedH U.vm) (h : am_E ad s) : am_E ad U := ⟨fun q hq => (h.1 q hq).warm hW, fun t ht => am_aot_moved hW.alike ht (h.2.1 t ht), fun q hq => va_Nw.warmF hW (h.2.2.1 q hq), fun q hq => va_Nw.warmM hW (h.2.2.2.1 q hq), fun q hq => va_Nw.warmC hW (h.2.2.2.2.1 q hq), fun q hq => va_Nc.moved hW.alike (h.2.2.2.2.2.1 q hq), fun y hy => va_Nw.warmD hW (h.2.2.2.2.2.2 y hy)⟩
theorem am_E_ao {ad : Nat → Nat} {U : State} (h : am_E ad U) {args : Array Value} {t : FieldType} (ht : t ∈ am_aot) : (Jvm.Cond.arrayOver t).before args U = true := h.2.1 t ht
theorem am_E_nf {ad : Nat → Nat} {U : State} (h : am_E ad U) {args : Array Value} {own C n d host : String} {i : Nat} (hw : (own, i, C, n, d, host) ∈ am_nf) : (Jvm.Cond.fieldLinkNest own i C n d host).before args U = true := va_Nw.use rfl (h.2.2.1 _ hw)
theorem am_E_nm {ad : Nat → Nat} {U : State} (h : am_E ad U) {own host : String} {i : Nat} {y : MethodName} (hw : (own, i, y, host) ∈ am_nm) : va_Nw (.methodLinkNest own i y host) U := h.2.2.2.1 _ hw
