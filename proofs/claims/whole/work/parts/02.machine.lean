/-! THE ABSTRACT MACHINE. Its values are the machine's, but that '.ref k' is the k-th thing made since the law's entry, and '.retAddr i' the i-th thing that was there before (a String constant). A thing is a kind and its slots: kinds below 100 are places of vwCl (an object, its fields), from 100 on arrays; 199: a thing of which nothing is said. -/
abbrev am_O : Type := Nat × List Value
abbrev am_H : Type := List am_O
abbrev am_V : Type := List (Nat × Value)
def am_mv (b : Nat) (ad : Nat → Nat) : Value → Value
  | .ref k => .ref (b + k)
  | .retAddr i => .ref (ad i)
  | .int x => .int x
  | .long x => .long x
  | .float x => .float x
  | .double x => .double x
  | .null => .null
theorem am_mv_cat (b : Nat) (ad : Nat → Nat) (v : Value) : (am_mv b ad v).category = v.category := by cases v <;> rfl
def am_L (b : Nat) (ad : Nat → Nat) (l : am_V) : am_V := l.map (fun q => (q.1, am_mv b ad q.2))
def am_ld : am_V → Nat → Option Value
  | [], _ => none
  | q :: r, i => if q.1 = i then some q.2 else am_ld r i
theorem am_ld_mem {i : Nat} {v : Value} : ∀ {l : am_V}, am_ld l i = some v → (i, v) ∈ l
  | [], h => by simp [am_ld] at h
  | q :: r, h => by
    unfold am_ld at h
    by_cases hq : q.1 = i
    · rw [if_pos hq] at h
      cases h
      rw [← hq]
      exact List.mem_cons_self
    · rw [if_neg hq] at h
      exact List.mem_cons_of_mem _ (am_ld_mem h)
theorem am_ld_has {b : Nat} {ad : Nat → Nat} {ls : Array Slot} {nL i : Nat} {l : am_V} {v : Value} (h : lv_has ls nL (am_L b ad l)) (e : am_ld l i = some v) : ls[i]? = some (.val (am_mv b ad v)) :=
  h.2.2 (i, am_mv b ad v) (List.mem_map.mpr ⟨(i, v), am_ld_mem e, rfl⟩)
theorem am_ld_at {b : Nat} {ad : Nat → Nat} {i : Nat} {l : am_V} {v : Value} (e : am_ld l i = some v) : ∃ k : Nat, (am_L b ad l)[k]? = some (i, am_mv b ad v) :=
  List.getElem?_of_mem (List.mem_map.mpr ⟨(i, v), am_ld_mem e, rfl⟩)
def am_s1 (l : am_V) (i : Nat) (v : Value) : am_V := (i, v) :: l.filter (fun q => !(q.1 == i) && !(q.1 + 1 == i && q.2.category == 2))
def am_s2 (l : am_V) (i : Nat) (v : Value) : am_V := (i, v) :: l.filter (fun q => !(q.1 == i) && (!(q.1 == i + 1) && !(q.1 + 1 == i && q.2.category == 2)))
theorem am_L_s1 (b : Nat) (ad : Nat → Nat) (l : am_V) (i : Nat) (v : Value) : (i, am_mv b ad v) :: (am_L b ad l).filter (fun q => !(q.1 == i) && !(q.1 + 1 == i && q.2.category == 2)) = am_L b ad (am_s1 l i v) := by
  simp [am_L, am_s1, List.filter_map, Function.comp_def, am_mv_cat]
theorem am_L_s2 (b : Nat) (ad : Nat → Nat) (l : am_V) (i : Nat) (v : Value) : (i, am_mv b ad v) :: (am_L b ad l).filter (fun q => !(q.1 == i) && (!(q.1 == i + 1) && !(q.1 + 1 == i && q.2.category == 2))) = am_L b ad (am_s2 l i v) := by
  simp [am_L, am_s2, List.filter_map, Function.comp_def, am_mv_cat]
def am_sz (h : am_H) : Nat := (h.map (fun o => o.2.length)).sum
theorem am_sz_push (h : am_H) (o : am_O) : am_sz (h ++ [o]) = am_sz h + o.2.length := by simp [am_sz]
theorem am_sz_set {o o' : am_O} (hl : o'.2.length = o.2.length) : ∀ {h : am_H} {k : Nat}, h[k]? = some o → am_sz (h.set k o') = am_sz h
  | [], k, e => by simp at e
  | x :: r, 0, e => by
    simp at e
    subst e
    simp [am_sz, hl]
  | x :: r, k + 1, e => by
    have e2 : r[k]? = some o := by simpa using e
    have ih := am_sz_set hl e2
    simp only [am_sz, List.set_cons_succ, List.map_cons, List.sum_cons] at ih ⊢
    rw [ih]
def am_clN (k : Nat) : String := match vwCl[k]? with
  | some q => q.1
  | none => ""
def am_kty (k : Nat) : FieldType := if k = 100 then .int else if k = 101 then .long else if k = 102 then .boolean else if k = 103 then .array .int else if k = 104 then .object "java/lang/Object" else .object (am_clN (k - 200))
/-- what the tables say of an array's class: its component's -/
def am_RA (U : State) (cA : ClassId) (ty : FieldType) : Prop := match ty with
  | .array t => ∃ (kA : Class) (comp : ClassId), U.vm.classes[cA]? = some kA ∧ kA.kind = .array comp (.array t) ∧ U.vm.findClass (FieldType.array t).toString = some comp
  | t => va_RA U cA t
theorem am_RA.moved {u U : State} (hvm : u.vm.Alike U.vm) {cA : ClassId} {ty : FieldType} (h : am_RA u cA ty) : am_RA U cA ty := by
  cases ty with
  | array t =>
    obtain ⟨kA, comp, h1, h2, h3⟩ := h
    obtain ⟨k', hk', he⟩ := hvm.2.2 _ _ h1
    exact ⟨k', comp, hk', by rw [he]; exact h2, by rw [hvm.findClass]; exact h3⟩
  | object C => exact va_RA.moved hvm (ty := .object C) h
  | byte => exact va_RA.moved hvm (ty := .byte) h
  | char => exact va_RA.moved hvm (ty := .char) h
  | double => exact va_RA.moved hvm (ty := .double) h
  | float => exact va_RA.moved hvm (ty := .float) h
  | int => exact va_RA.moved hvm (ty := .int) h
  | long => exact va_RA.moved hvm (ty := .long) h
  | short => exact va_RA.moved hvm (ty := .short) h
  | boolean => exact va_RA.moved hvm (ty := .boolean) h
def am_at (U : State) (D : va_G) (b : Nat) (ad : Nat → Nat) (o : am_O) (a : Nat) (H : Heap) : Prop :=
  (o.1 < 100 ∧ va_at D vwCl (a, .inr (o.1, o.2.map (am_mv b ad))) H) ∨
  (100 ≤ o.1 ∧ o.1 ≠ 199 ∧ ∃ cA : ClassId, ArrOfT U cA (am_kty o.1) ∧ am_RA U cA (am_kty o.1) ∧ H[a]? = some (arrV cA o.2.length (fun j => am_mv b ad (o.2.getD j .null)))) ∨ o.1 = 199
theorem am_at.kept {U : State} {D : va_G} {b : Nat} {ad : Nat → Nat} {o : am_O} {a : Nat} {H H1 : Heap} (h : am_at U D b ad o a H) (e : H1[a]? = H[a]?) : am_at U D b ad o a H1 := by
  rcases h with ⟨h1, h2⟩ | ⟨h1, h2, cA, h3, h4, h5⟩ | h
  · exact Or.inl ⟨h1, h2.kept e⟩
  · exact Or.inr (Or.inl ⟨h1, h2, cA, h3, h4, e.trans h5⟩)
  · exact Or.inr (Or.inr h)
theorem am_at.moved {u U : State} {D : va_G} {b : Nat} {ad : Nat → Nat} {o : am_O} {a : Nat} {H : Heap} (hvm : u.vm.Alike U.vm) (h : am_at u D b ad o a H) : am_at U D b ad o a H := by
  rcases h with h | ⟨h1, h2, cA, h3, h4, h5⟩ | h
  · exact Or.inl h
  · exact Or.inr (Or.inl ⟨h1, h2, cA, arrOfT_moved hvm h3, h4.moved hvm, h5⟩)
  · exact Or.inr (Or.inr h)
/-- the things of the heap: the k-th lies at b + k, nothing lies behind them -/
def am_R (U : State) (D : va_G) (b : Nat) (ad : Nat → Nat) (h : am_H) (H : Heap) : Prop := H.size = b + h.length ∧ ∀ (k : Nat) (o : am_O), h[k]? = some o → am_at U D b ad o (b + k) H
theorem am_R.moved {u U : State} {D : va_G} {b : Nat} {ad : Nat → Nat} {h : am_H} {H : Heap} (hvm : u.vm.Alike U.vm) (r : am_R u D b ad h H) : am_R U D b ad h H := ⟨r.1, fun k o e => (r.2 k o e).moved hvm⟩
theorem am_R.set {U : State} {D : va_G} {b : Nat} {ad : Nat → Nat} {h : am_H} {H H1 : Heap} {k : Nat} {o o' : am_O} (r : am_R U D b ad h H) (e : h[k]? = some o) (z : H1.size = H.size) (oq : ∀ q : Nat, q ≠ b + k → H1[q]? = H[q]?) (w : am_at U D b ad o' (b + k) H1) : am_R U D b ad (h.set k o') H1 := by
  have hl := (List.getElem?_eq_some_iff.mp e).1
  refine ⟨by rw [z, r.1, List.length_set], fun j o2 hj => ?_⟩
  by_cases hjk : j = k
  · subst hjk
    rw [List.getElem?_set_self hl] at hj
    cases hj
    exact w
  · rw [List.getElem?_set_ne (Ne.symm hjk)] at hj
    exact (r.2 j o2 hj).kept (oq (b + j) (by omega))
theorem am_R.push {U : State} {D : va_G} {b : Nat} {ad : Nat → Nat} {h : am_H} {H H1 : Heap} {o : am_O} (r : am_R U D b ad h H) (z : H1.size = H.size + 1) (oq : ∀ q : Nat, q < H.size → H1[q]? = H[q]?) (w : am_at U D b ad o H.size H1) : am_R U D b ad (h ++ [o]) H1 := by
  refine ⟨by rw [z, r.1, List.length_append]; rfl, fun j o2 hj => ?_⟩
  by_cases hl : j < h.length
  · rw [List.getElem?_append_left hl] at hj
    exact (r.2 j o2 hj).kept (oq (b + j) (by rw [r.1]; omega))
  · rw [List.getElem?_append_right (by omega)] at hj
    have hz : j - h.length < 1 := (List.getElem?_eq_some_iff.mp hj).1
    rw [show j - h.length = 0 by omega] at hj
    cases hj
    rw [show b + j = H.size by rw [r.1]; omega]
    exact w
/-- the words that every method is given -/
def am_T : List Cond := lw_tbl.filter goodWord
theorem am_inT {w : Jvm.Cond} (h : w ∈ lw_tbl) (g : goodWord w = true) : w ∈ am_T := List.mem_filter.mpr ⟨h, g⟩
theorem am_good {big ws : List Jvm.Cond} (hb : ∀ w ∈ am_T, w ∈ big) (h : ∀ w ∈ ws, w ∈ am_T) : GoodIn big ws := fun w hw => ⟨hb w (h w hw), good_of_word (List.mem_filter.mp (h w hw)).2⟩
theorem am_pl {ws : List Jvm.Cond} (ps : List Nat) (hp : (ws.map some) = ps.map (fun i => lw_tbl[i]?)) (g : ws.all goodWord = true) : ∀ w ∈ ws, w ∈ am_T := by
  intro w hw
  have h1 : some w ∈ ws.map some := List.mem_map.mpr ⟨w, hw, rfl⟩
  rw [hp] at h1
  obtain ⟨i, -, hi⟩ := List.mem_map.mp h1
  exact am_inT (List.mem_of_getElem? hi) (List.all_eq_true.mp g w hw)
/-- the String constants: the class, the entry, the text, a number -/
def am_strs : List (String × Nat × String × Nat) := [("Lanternserver$Reade\x72", 111, "GET", 0), ("Lanternserver$Reade\x72", 117, "HEAD", 1), ("Lanternserver$Reade\x72", 119, "PUT", 2), ("Lanternserver$Reade\x72", 121, "POST", 3), ("Lanternserver$Reade\x72", 123, "DELETE", 4), ("Lanternserver$Reade\x72", 125, "OPTIONS", 5), ("Lanternserver$Reade\x72", 127, "HTTP/1.0", 6), ("Lanternserver$Reade\x72", 129, "HTTP/1.1", 7), ("Lanternserver$Reade\x72", 134, "host", 8), ("Lanternserver$Reade\x72", 140, "content-length", 9), ("Lanternserver$Reade\x72", 149, "transfer-encoding", 10), ("Lanternserver$Reade\x72", 151, "chunked", 11), ("Lanternserver$Reade\x72", 153, "connection", 12), ("Lanternserver$Reade\x72", 155, "close", 13), ("Lanternserver$Reade\x72", 157, "keep-alive", 14), ("Lanternserver$Reade\x72", 159, "if-match", 15), ("Lanternserver$Reade\x72", 165, "if-none-match", 16), ("Lanternserver$Reade\x72", 167, "range", 17), ("Lanternserver$House", 113, "\"v", 18), ("Lanternserver$House", 135, "bytes=", 19), ("Lanternserver$House", 194, "OK", 20), ("Lanternserver$House", 196, "Created", 21), ("Lanternserver$House", 198, "No Content", 22), ("Lanternserver$House", 200, "Partial Content", 23), ("Lanternserver$House", 202, "Not Modified", 24), ("Lanternserver$House", 204, "Bad Request", 25), ("Lanternserver$House", 206, "Not Found", 26), ("Lanternserver$House", 208, "Method Not Allowed", 27), ("Lanternserver$House", 210, "Length Required", 28), ("Lanternserver$House", 212, "Precondition Failed", 29), ("Lanternserver$House", 214, "Content Too Large", 30), ("Lanternserver$House", 216, "URI Too Long", 31), ("Lanternserver$House", 218, "Range Not Satisfiable", 32), ("Lanternserver$House", 220, "Request Header Fields Too Large", 33), ("Lanternserver$House", 222, "Not Implemented", 34), ("Lanternserver$House", 224, "HTTP Version Not Supported", 35), ("Lanternserver$House", 226, "Insufficient Storage", 36), ("Lanternserver$House", 166, "HTTP/1.1 ", 37), ("Lanternserver$House", 171, "Content-Length: ", 38), ("Lanternserver$House", 176, "ETag: \"v", 39), ("Lanternserver$House", 178, "\"\r\n", 40), ("Lanternserver$House", 190, "Content-Range: bytes ", 41), ("Lanternserver$House", 192, "Content-Range: bytes *", 42), ("Lanternserver$House", 184, "Allow: GET, HEAD, OPTIONS\r\n", 43), ("Lanternserver$House", 186, "Allow: GET, HEAD, PUT, POST, DELETE, OPTIONS\r\n", 44), ("Lanternserver$House", 188, "Connection: close\r\n", 45), ("Lanternserve\x72", 111, "the tape has at most 400 bytes", 46), ("Lanternserve\x72", 122, "a byte is 0 to 255, many 1 to 300", 47), ("Lanternserve\x72", 127, "a piece is 0 to 5", 48), ("Lanternserve\x72", 495, "GET /a HTTP/1.1\r\nHost: h\r\n\r\n", 49), ("Lanternserve\x72", 497, "PUT /a HTTP/1.1\r\nHost: h\r\nContent-Length: 5\r\n\r\nhello", 50), ("Lanternserve\x72", 499, "GET / HTTP/1.0\r\n\r\n", 51), ("Lanternserve\x72", 501, "POST /a HTTP/1.1\r\nHost: h\r\nTransfer-Encoding: chunked\r\n\r\n3\r\nabc\r\n0\r\n\r\n", 52), ("Lanternserve\x72", 503, "DELETE /a HTTP/1.1\r\nHost: h\r\nConnection: close\r\n\r\n", 53), ("Lanternserve\x72", 505, "GET /a HTTP/1.1\r\nHost: h\r\nRange: bytes=1-3\r\nIf-None-Match: \"v2\"\r\n\r\n", 54), ("Lanternserve\x72", 144, "no such part of the tape", 55), ("Lanternserve\x72", 151, "an MTU is 100 to 600, an MSS 40 to 500", 56), ("Lanternserve\x72", 156, "there are 5 hosts", 57), ("Lanternserve\x72", 162, "no such host", 58), ("Lanternserve\x72", 164, "an MTU is 100 to 600", 59), ("Lanternserve\x72", 192, "what is 0 to 5", 60), ("Lanternserve\x72", 208, "a choice is 0 to 1000", 61), ("java/util/Arrays", 48, "fromIndex(", 62), ("java/util/Arrays", 57, ") > toIndex(", 63), ("java/util/Arrays", 59, ")", 64), ("java/util/Arrays", 337, " > ", 65), ("java/lang/ArrayIndexOutOfBoundsException", 13, "Array index out of range: ", 66), ("Lanternserve\x72", 219, "choice and at are 0 to 1000, by is 1 to 255", 67), ("Lanternserve\x72", 227, "no such frame", 68), ("Lanternserve\x72", 248, "what is 0 to 3", 69), ("Lanternserve\x72", 250, "no such byte", 70), ("Lanternserve\x72", 255, "ticks is 1 to 100", 71), ("Lanternserve\x72", 260, "the time is at most 20000", 72), ("Lanternserve\x72", 265, "ticks is 1 to 60", 73), ("Lanternserve\x72", 271, "many is 1 to 200", 74), ("Lanternserve\x72", 280, "another host, and 0 to 900 bytes", 75), ("Lanternserve\x72", 282, "there are 40 echoes", 76), ("Lanternserve\x72", 302, "no such echo", 77), ("Lanternserve\x72", 307, "the tape is no name", 78), ("Lanternserve\x72", 313, "another host has the name", 79), ("Lanternserve\x72", 322, "the server does not ask", 80), ("Lanternserve\x72", 324, "there are 40 lookups", 81), ("Lanternserve\x72", 332, "no such lookup", 82), ("Lanternserve\x72", 334, "the lookup has an answe\x72", 83), ("Lanternserve\x72", 337, "a client, another host, and a port 1 to 65535", 84), ("Lanternserve\x72", 339, "there are 60 connections", 85), ("Lanternserve\x72", 352, "no such connection", 86), ("Lanternserve\x72", 360, "nothing can be written on it", 87), ("Lanternserve\x72", 372, "many is 1 to 300", 88), ("Lanternserve\x72", 374, "it is the server's", 89), ("Lanternserve\x72", 395, "it cannot be closed", 90), ("Lanternserve\x72", 403, "what is 0 to 18", 91), ("Lanternserve\x72", 409, "no such file", 92), ("Lanternserve\x72", 421, "what is 0 to 2", 93), ("Lanternserve\x72", 426, "no such request", 94), ("Lanternserve\x72", 428, "what is 0 to 6", 95), ("Lanternserve\x72", 469, "what is 0 to 15", 96), ("LanternserverModel", 254, "GET /a HTTP/1.1|Host: h||", 97), ("LanternserverModel", 256, "PUT /a HTTP/1.1|Host: h|Content-Length: 5||hello", 98), ("LanternserverModel", 258, "GET / HTTP/1.0||", 99), ("LanternserverModel", 260, "POST /a HTTP/1.1|Host: h|Transfer-Encoding: chunked||3|abc|0||", 100), ("LanternserverModel", 262, "DELETE /a HTTP/1.1|Host: h|Connection: close||", 101), ("LanternserverModel", 264, "GET /a HTTP/1.1|Host: h|Range: bytes=1-3|If-None-Match: \"v2\"||", 102)]
/-- the types of whose arrays the tables say that their class is there -/
def am_aot : List FieldType := [.array .int, .object "java/lang/Object", .object RX1, .object RX2, .object RX7, .object RX13, .object RX14, .object RX15, .object RX16, .object RX17, .object RX18, .object RX19]
/-- links to private fields and methods of a nest mate -/
def am_nf : List (String × Nat × String × String × String × String) := [("Lanternserver$Datagram", 53, "Lanternserver$Row", "length", "I", "Lanternserve\x72"), ("Lanternserver$Receive\x72", 35, "Lanternserver$Row", "length", "I", "Lanternserve\x72"), ("LanternserverModel", 1003, "LanternserverModel$Early", "begin", "I", "LanternserverModel"), ("LanternserverModel", 1006, "LanternserverModel$Early", "row", "[I", "LanternserverModel"), ("LanternserverModel", 706, "LanternserverModel$Bytes", "row", "[I", "LanternserverModel"), ("LanternserverModel$Line", 68, "LanternserverModel$Bytes", "many", "I", "LanternserverModel"), ("LanternserverModel", 760, "LanternserverModel$Bytes", "many", "I", "LanternserverModel"), ("LanternserverModel", 949, "LanternserverModel$Line", "numbe\x72", "I", "LanternserverModel"), ("LanternserverModel", 709, "LanternserverModel$Line", "host", "I", "LanternserverModel"), ("LanternserverModel", 711, "LanternserverModel$Line", "port", "I", "LanternserverModel"), ("LanternserverModel", 714, "LanternserverModel$Line", "othe\x72", "I", "LanternserverModel"), ("LanternserverModel", 717, "LanternserverModel$Line", "otherPort", "I", "LanternserverModel"), ("LanternserverModel", 810, "LanternserverModel$Line", "iss", "I", "LanternserverModel"), ("LanternserverModel", 807, "LanternserverModel$Line", "state", "I", "LanternserverModel"), ("LanternserverModel", 753, "LanternserverModel$Line", "una", "I", "LanternserverModel"), ("LanternserverModel", 737, "LanternserverModel$Line", "nxt", "I", "LanternserverModel"), ("LanternserverModel", 729, "LanternserverModel$Line", "out", "LLanternserverModel$Bytes;", "LanternserverModel"), ("LanternserverModel", 795, "LanternserverModel$Line", "isClosed", "Z", "LanternserverModel"), ("LanternserverModel", 798, "LanternserverModel$Line", "isFinSent", "Z", "LanternserverModel"), ("LanternserverModel", 775, "LanternserverModel$Line", "window", "I", "LanternserverModel"), ("LanternserverModel", 908, "LanternserverModel$Line", "windowSequence", "I", "LanternserverModel"), ("LanternserverModel", 911, "LanternserverModel$Line", "windowAcknowledged", "I", "LanternserverModel"), ("LanternserverModel", 778, "LanternserverModel$Line", "cwnd", "I", "LanternserverModel"), ("LanternserverModel", 822, "LanternserverModel$Line", "threshold", "I", "LanternserverModel"), ("LanternserverModel", 790, "LanternserverModel$Line", "mss", "I", "LanternserverModel"), ("LanternserverModel", 902, "LanternserverModel$Line", "hasOthe\x72", "Z", "LanternserverModel"), ("LanternserverModel", 905, "LanternserverModel$Line", "irs", "I", "LanternserverModel"), ("LanternserverModel", 720, "LanternserverModel$Line", "rcv", "I", "LanternserverModel"), ("LanternserverModel", 980, "LanternserverModel$Line", "got", "LLanternserverModel$Bytes;", "LanternserverModel"), ("LanternserverModel", 1012, "LanternserverModel$Line", "read", "I", "LanternserverModel"), ("LanternserverModel", 1007, "LanternserverModel$Line", "hasFin", "Z", "LanternserverModel"), ("LanternserverModel", 995, "LanternserverModel$Line", "early", "[LLanternserverModel$Early;", "LanternserverModel"), ("LanternserverModel", 992, "LanternserverModel$Line", "earlyMany", "I", "LanternserverModel"), ("LanternserverModel", 831, "LanternserverModel$Line", "rto", "I", "LanternserverModel"), ("LanternserverModel", 747, "LanternserverModel$Line", "timedFrom", "I", "LanternserverModel"), ("LanternserverModel", 804, "LanternserverModel$Line", "isProbing", "Z", "LanternserverModel"), ("LanternserverModel", 825, "LanternserverModel$Line", "times", "I", "LanternserverModel"), ("LanternserverModel", 963, "LanternserverModel$Line", "doubles", "I", "LanternserverModel"), ("LanternserverModel", 763, "LanternserverModel$Line", "isMeasured", "Z", "LanternserverModel"), ("LanternserverModel", 766, "LanternserverModel$Line", "measuredEnd", "I", "LanternserverModel"), ("LanternserverModel", 769, "LanternserverModel$Line", "measuredFrom", "I", "LanternserverModel"), ("LanternserverModel", 969, "LanternserverModel$Line", "hasSmooth", "Z", "LanternserverModel"), ("LanternserverModel", 972, "LanternserverModel$Line", "smooth", "I", "LanternserverModel"), ("LanternserverModel", 975, "LanternserverModel$Line", "varies", "I", "LanternserverModel"), ("LanternserverModel", 828, "LanternserverModel$Line", "ended", "I", "LanternserverModel"), ("LanternserverModel", 850, "LanternserverModel$Line", "latest", "I", "LanternserverModel"), ("LanternserverModel", 844, "LanternserverModel$Line", "waitsFrom", "I", "LanternserverModel"), ("LanternserverModel", 918, "LanternserverModel$Line", "end", "I", "LanternserverModel")]
def am_nm : List (String × Nat × MethodName × String) := [("Lanternserver$Wire", 17, ⟨"Lanternserver$Frame", "<init>", "()V"⟩, "Lanternserve\x72"), ("Lanternserver$Wire", 31, ⟨"Lanternserver$Datagram", "<init>", "()V"⟩, "Lanternserve\x72"), ("Lanternserve\x72", 54, ⟨"Lanternserver$Datagram", "<init>", "()V"⟩, "Lanternserve\x72"), ("Lanternserve\x72", 61, ⟨"Lanternserver$Segment", "<init>", "()V"⟩, "Lanternserve\x72"), ("Lanternserver$Host", 53, ⟨"Lanternserver$Datagram", "<init>", "()V"⟩, "Lanternserve\x72"), ("Lanternserver$Connection", 259, ⟨"Lanternserve\x72", "isAhead", "(II)Z"⟩, "Lanternserve\x72"), ("Lanternserver$Sende\x72", 81, ⟨"Lanternserve\x72", "isAhead", "(II)Z"⟩, "Lanternserve\x72"), ("Lanternserver$Receive\x72", 53, ⟨"Lanternserve\x72", "isAhead", "(II)Z"⟩, "Lanternserve\x72"), ("LanternserverModel", 444, ⟨"LanternserverModel$Known", "<init>", "()V"⟩, "LanternserverModel"), ("LanternserverModel", 361, ⟨"LanternserverModel$Frame", "<init>", "()V"⟩, "LanternserverModel"), ("LanternserverModel", 475, ⟨"LanternserverModel$Waits", "<init>", "()V"⟩, "LanternserverModel"), ("LanternserverModel$Line", 11, ⟨"LanternserverModel$Bytes", "<init>", "()V"⟩, "LanternserverModel"), ("LanternserverModel", 517, ⟨"LanternserverModel$Togethe\x72", "<init>", "()V"⟩, "LanternserverModel")]
/-- what is there before the law's entry and stays: the String constants; the arrays' classes -/
def am_E (ad : Nat → Nat) (U : State) : Prop := (∀ q : String × Nat × String × Nat, q ∈ am_strs → vk_R q.1 q.2.1 q.2.2.1 (ad q.2.2.2) U) ∧ (∀ t ∈ am_aot, (Jvm.Cond.arrayOver t).before #[] U = true) ∧ (∀ q ∈ am_nf, va_Nw (.fieldLinkNest q.1 q.2.1 q.2.2.1 q.2.2.2.1 q.2.2.2.2.1 q.2.2.2.2.2) U) ∧ ∀ q ∈ am_nm, va_Nw (.methodLinkNest q.1 q.2.1 q.2.2.1 q.2.2.2) U
theorem am_E_str {ad : Nat → Nat} {U : State} (h : am_E ad U) {own tx : String} {i k : Nat} (hw : (own, i, tx, k) ∈ am_strs) : vk_R own i tx (ad k) U := h.1 _ hw
theorem am_AAmoved {u U : State} (hvm : u.vm.Alike U.vm) (h : (Jvm.Cond.arrayOver (.array .int)).before #[] u = true) : (Jvm.Cond.arrayOver (.array .int)).before #[] U = true := by
  obtain ⟨comp, c, k, h1, h2, h3, h4, h5⟩ := arrayOverA_spec h
  obtain ⟨k', hk', he⟩ := hvm.2.2 _ _ h3
  have hi : (U.vm.classes.findIdx? fun (x : Class) => match x.kind with | .array component _ => component == comp | _ => false) = some c := by
    rw [hvm.findIdx?_eq _ (fun _ => rfl)]
    exact h2
  have hkind : k'.kind = .array comp (.array .int) := by rw [he]; exact h4
  have f1 : U.vm.findClass (FieldType.array .int).toString = some comp := by rw [hvm.findClass]; exact h1
  have f2 : U.vm.findClass ("[" ++ (FieldType.array .int).toString) = some c := by rw [hvm.findClass]; exact h5
  unfold Cond.before Cond.holds
  simp only [Cond.value]
  rw [f1, Option.bind_some]
  refine (congrArg (fun o : Option Nat => (o.bind (fun c => (U.vm.classes[c]?).map fun (k : Class) => match k.kind with | .array _ ty => decide (ty = FieldType.array .int) && decide (U.vm.findClass ("[" ++ (FieldType.array .int).toString) = some c) | _ => false) == some true)) hi).trans ?_
  simp [hk', hkind, f2]
theorem am_aot_moved {u U : State} (hvm : u.vm.Alike U.vm) {t : FieldType} (ht : t ∈ am_aot) (h : (Jvm.Cond.arrayOver t).before #[] u = true) : (Jvm.Cond.arrayOver t).before #[] U = true := by
  have hs : t = .array .int ∨ ∃ C, t = .object C := by
    simp only [am_aot, List.mem_cons, List.not_mem_nil, or_false] at ht
    rcases ht with rfl | rfl | rfl | rfl | rfl | rfl | rfl | rfl | rfl | rfl | rfl | rfl
    · exact Or.inl rfl
    all_goals exact Or.inr ⟨_, rfl⟩
  rcases hs with rfl | ⟨C, rfl⟩
  · exact am_AAmoved hvm h
  · exact va_AO.moved (C := C) hvm h
theorem am_E.warm {ad : Nat → Nat} {s U : State} (hW : s.WarmedH U.vm) (h : am_E ad s) : am_E ad U := ⟨fun q hq => (h.1 q hq).warm hW, fun t ht => am_aot_moved hW.alike ht (h.2.1 t ht), fun q hq => va_Nw.warmF hW (h.2.2.1 q hq), fun q hq => va_Nw.warmM hW (h.2.2.2 q hq)⟩
theorem am_E_ao {ad : Nat → Nat} {U : State} (h : am_E ad U) {args : Array Value} {t : FieldType} (ht : t ∈ am_aot) : (Jvm.Cond.arrayOver t).before args U = true := h.2.1 t ht
theorem am_E_nf {ad : Nat → Nat} {U : State} (h : am_E ad U) {args : Array Value} {own C n d host : String} {i : Nat} (hw : (own, i, C, n, d, host) ∈ am_nf) : (Jvm.Cond.fieldLinkNest own i C n d host).before args U = true := va_Nw.use rfl (h.2.2.1 _ hw)
theorem am_E_nm {ad : Nat → Nat} {U : State} (h : am_E ad U) {own host : String} {i : Nat} {y : MethodName} (hw : (own, i, y, host) ∈ am_nm) : va_Nw (.methodLinkNest own i y host) U := h.2.2.2 _ hw
