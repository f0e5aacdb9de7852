/-! THE WORLD: every cell of the class's object and of the reference's object, by kind and number. Kinds: 0 WordHedges, 1 Row, 2 Rings, 3 Trace, 4 sheets, 5 Sheet, 6 a Sheet's cells, 7 wanted, 8 borders, 9 Border, 10 a Border's Hedge, 11 words, 12 a row of words (2 h + side), 13 inches, 14 a row of inches, 15 clips, 16 the Rings' rows, 17 the reference, 18 its rows. -/
abbrev XC : Type := va_G × (Nat → ClassId) × (Nat → Nat → Nat) × Nat × Nat
abbrev XS : Type := (Nat → Nat → Nat → Int32) × (Nat → Nat → Nat → Int32) × (Nat → Nat)
/-- a number field: of kind k, field f, object j -/
def gS (z : XS) (k f j : Nat) : Int32 := z.1 k f j
/-- a place of a row of numbers: of kind k, row j, place i -/
def gA (z : XS) (k j i : Nat) : Int32 := z.2.1 k j i
def pS (z : XS) (k f j : Nat) (v : Int32) : XS := (fun k' f' j' => if k' = k ∧ f' = f ∧ j' = j then v else z.1 k' f' j', z.2)
def pA (z : XS) (k j i : Nat) (v : Int32) : XS := (z.1, fun k' j' i' => if k' = k ∧ j' = j ∧ i' = i then v else z.2.1 k' j' i', z.2.2)
def xcnt (k : Nat) : Nat := match k with
  | 0 => 1 | 1 => 1 | 2 => 1 | 3 => 1 | 4 => 1 | 5 => 4 | 6 => 4 | 7 => 1 | 8 => 1 | 9 => 6 | 10 => 6 | 11 => 6 | 12 => 12 | 13 => 6 | 14 => 12 | 15 => 6 | 16 => 4 | 17 => 1 | 18 => 17 | _ => 0
def xl18 (j : Nat) : Nat := match j with
  | 0 => 7 | 1 => 6 | 2 => 6 | 3 => 420 | 4 => 180 | 5 => 7 | 6 => 6 | 7 => 6 | 8 => 10 | 9 => 10 | 10 => 10 | 11 => 10 | 12 => 60 | 13 => 4 | 14 => 4 | 15 => 240 | _ => 60
def xlen (k j : Nat) : Nat := match k with
  | 6 => 60 | 7 => 7 | 12 => 30 | 14 => 31 | 15 => 30 | 16 => 10 | 18 => xl18 j | _ => 0
def xisI (k : Nat) : Bool := match k with
  | 6 => true | 7 => true | 12 => true | 14 => true | 15 => true | 16 => true | 18 => true | _ => false
def xrf (q : ClassId) (n : Nat) (f : Nat → Nat) : va_E := .inl (q, n, .inr (.inr (.inr (.inr (fun i => some (f i))))))
def xrI (X : XC) (n : Nat) (f : Nat → Int32) : va_E := .inl (X.2.1 0, n, .inl f)
/-- a cell by its kind and number, out of its own numbers -/
def xcf (X : XC) (k j : Nat) (sc ar : Nat → Int32) (hk : Nat) : va_E := match k with
  | 0 => .inr (8, [.ref (X.2.2.1 1 0), .ref (X.2.2.1 2 0), .ref (X.2.2.1 3 0), .ref (X.2.2.1 4 0), .int (sc 4)])
  | 1 => .inr (4, [.ref (X.2.2.1 7 0), .ref (X.2.2.1 8 0), .int (sc 2)])
  | 2 => .inr (3, [.ref (X.2.2.1 16 0), .ref (X.2.2.1 16 1), .ref (X.2.2.1 16 2), .ref (X.2.2.1 16 3), .int (sc 4)])
  | 3 => .inr (6, [.int (sc 0)])
  | 4 => xrf (X.2.1 3) 4 (fun i => X.2.2.1 5 i)
  | 5 => .inr (5, [.ref (X.2.2.1 6 j), .int (sc 1), .int (sc 2)])
  | 6 => xrI X 60 ar
  | 7 => xrI X 7 ar
  | 8 => xrf (X.2.1 2) 6 (fun i => X.2.2.1 9 i)
  | 9 => .inr (0, [.ref (X.2.2.1 10 j), .ref (X.2.2.1 11 j), .ref (X.2.2.1 13 j), .ref (X.2.2.1 15 j)])
  | 10 => .inr (hk, [.int (sc 0), .int (sc 1)])
  | 11 => xrf (X.2.1 1) 2 (fun i => X.2.2.1 12 (2 * j + i))
  | 12 => xrI X 30 ar
  | 13 => xrf (X.2.1 1) 2 (fun i => X.2.2.1 14 (2 * j + i))
  | 14 => xrI X 31 ar
  | 15 => xrI X 30 ar
  | 16 => xrI X 10 ar
  | 17 => .inr (9, [.int (sc 0), .int (sc 1), .ref (X.2.2.1 18 0), .ref (X.2.2.1 18 1), .ref (X.2.2.1 18 2), .ref (X.2.2.1 18 3), .ref (X.2.2.1 18 4), .int (sc 7), .int (sc 8), .ref (X.2.2.1 18 5), .ref (X.2.2.1 18 6), .ref (X.2.2.1 18 7), .int (sc 12), .ref (X.2.2.1 18 8), .ref (X.2.2.1 18 9), .ref (X.2.2.1 18 10), .ref (X.2.2.1 18 11), .ref (X.2.2.1 18 12), .ref (X.2.2.1 18 13), .ref (X.2.2.1 18 14), .ref (X.2.2.1 18 15), .ref (X.2.2.1 18 16), .int (sc 22)])
  | 18 => xrI X (xl18 j) ar
  | _ => xrI X 0 ar
def xct (X : XC) (z : XS) (k j : Nat) : va_E := xcf X k j (fun f => gS z k f j) (fun i => gA z k j i) (z.2.2 j)
/-- where a cell lies -/
abbrev xad (X : XC) (_ : XS) (k j : Nat) : Nat := X.2.2.1 k j
def xids : List (Nat × Nat) := (List.range 19).flatMap fun k => (List.range (xcnt k)).map fun j => (k, j)
def xf (X : XC) (z : XS) (q : Nat × Nat) : Nat × va_E := (xad X z q.1 q.2, xct X z q.1 q.2)
def xcells (X : XC) (z : XS) : va_W := xids.map (xf X z)
theorem xcnt_lt {k j : Nat} (h : j < xcnt k) : k < 19 := by
  rcases Nat.lt_or_ge k 19 with q | q
  · exact q
  · exfalso
    have e : xcnt k = 0 := by
      unfold xcnt
      split <;> first | rfl | omega
    omega
theorem x_mem {k j : Nat} (h : j < xcnt k) : (k, j) ∈ xids := by
  unfold xids
  rw [List.mem_flatMap]
  exact ⟨k, List.mem_range.mpr (xcnt_lt h), List.mem_map.mpr ⟨j, List.mem_range.mpr h, rfl⟩⟩
theorem x_of_mem {q : Nat × Nat} (h : q ∈ xids) : q.2 < xcnt q.1 := by
  unfold xids at h
  rw [List.mem_flatMap] at h
  obtain ⟨k, -, h⟩ := h
  obtain ⟨j, h1, h2⟩ := List.mem_map.mp h
  subst h2
  exact List.mem_range.mp h1
theorem x_place (X : XC) (z : XS) (ex : va_W) {k j : Nat} (h : j < xcnt k) : ∃ n : Nat, (xcells X z ++ ex)[n]? = some (xad X z k j, xct X z k j) := by
  apply List.getElem?_of_mem
  exact List.mem_append_left _ (List.mem_map.mpr ⟨(k, j), x_mem h, rfl⟩)
theorem x_set {A : Nat → Prop} {ids : List (Nat × Nat)} {f g : Nat × Nat → Nat × va_E} {ex : va_W} {n : Nat} {q0 : Nat × Nat} {e : va_E} (hD : va_D A (ids.map f ++ ex)) (h0 : q0 ∈ ids) (hn : (ids.map f ++ ex)[n]? = some (f q0)) (hg0 : g q0 = ((f q0).1, e)) (hg : ∀ q ∈ ids, q ≠ q0 → g q = f q) : (ids.map f ++ ex).set n ((f q0).1, e) = ids.map g ++ ex := by
  obtain ⟨i, hi⟩ := List.getElem?_of_mem h0
  have hil : i < ids.length := (List.getElem?_eq_some_iff.mp hi).1
  have h2 : (ids.map f ++ ex)[i]? = some (f q0) := by
    rw [List.getElem?_append_left (by rw [List.length_map]; exact hil), List.getElem?_map, hi]
    rfl
  have hni : n = i := hD.1 n i _ _ hn h2 rfl
  subst hni
  apply List.ext_getElem?
  intro j
  by_cases hj : j = n
  · subst hj
    rw [List.getElem?_set_self (by rw [List.length_append, List.length_map]; omega), List.getElem?_append_left (by rw [List.length_map]; exact hil), List.getElem?_map, hi, ← hg0]
    rfl
  · rw [List.getElem?_set_ne (Ne.symm hj)]
    by_cases hjl : j < ids.length
    · rw [List.getElem?_append_left (by rw [List.length_map]; exact hjl), List.getElem?_append_left (by rw [List.length_map]; exact hjl), List.getElem?_map, List.getElem?_map]
      cases hq : ids[j]? with
      | none => rfl
      | some q =>
        have hne : q ≠ q0 := by
          intro e0
          subst e0
          have h3 : (ids.map f ++ ex)[j]? = some (f q) := by
            rw [List.getElem?_append_left (by rw [List.length_map]; exact hjl), List.getElem?_map, hq]
            rfl
          exact hj (hD.1 j n _ _ h3 h2 rfl)
        show some (f q) = some (g q)
        rw [hg q (List.mem_of_getElem? hq) hne]
    · rw [List.getElem?_append_right (by rw [List.length_map]; omega), List.getElem?_append_right (by rw [List.length_map]; omega), List.length_map, List.length_map]
theorem gS_pS_ne {z : XS} {k f j k' f' j' : Nat} {v : Int32} (h : ¬ (k' = k ∧ j' = j)) : gS (pS z k f j v) k' f' j' = gS z k' f' j' := by
  unfold gS pS
  exact if_neg (fun q => h ⟨q.1, q.2.2⟩)
theorem gS_pS {z : XS} {k f j f' : Nat} {v : Int32} : gS (pS z k f j v) k f' j = if f' = f then v else gS z k f' j := by
  unfold gS pS
  by_cases h : f' = f
  · rw [if_pos h]; exact if_pos ⟨rfl, h, rfl⟩
  · rw [if_neg h]; exact if_neg (fun q => h q.2.1)
theorem gA_pA_ne {z : XS} {k j i k' j' i' : Nat} {v : Int32} (h : ¬ (k' = k ∧ j' = j)) : gA (pA z k j i v) k' j' i' = gA z k' j' i' := by
  unfold gA pA
  exact if_neg (fun q => h ⟨q.1, q.2.1⟩)
theorem gA_pA {z : XS} {k j i : Nat} {v : Int32} : (fun i' => gA (pA z k j i v) k j i') = upd (fun i' => gA z k j i') i v := by
  funext i'
  unfold gA pA upd
  by_cases h : i' = i
  · rw [if_pos h]; exact if_pos ⟨rfl, rfl, h⟩
  · rw [if_neg h]; exact if_neg (fun q => h q.2.2)
theorem gS_pA {z : XS} {k j i k' f' j' : Nat} {v : Int32} : gS (pA z k j i v) k' f' j' = gS z k' f' j' := rfl
theorem gA_pS {z : XS} {k f j k' j' i' : Nat} {v : Int32} : gA (pS z k f j v) k' j' i' = gA z k' j' i' := rfl
theorem xct_pS_ne {X : XC} {z : XS} {k f j k' j' : Nat} {v : Int32} (h : ¬ (k' = k ∧ j' = j)) : xct X (pS z k f j v) k' j' = xct X z k' j' := by
  unfold xct
  rw [show (fun f' => gS (pS z k f j v) k' f' j') = (fun f' => gS z k' f' j') from funext fun _ => gS_pS_ne h]
  rfl
theorem xct_pA_ne {X : XC} {z : XS} {k j i k' j' : Nat} {v : Int32} (h : ¬ (k' = k ∧ j' = j)) : xct X (pA z k j i v) k' j' = xct X z k' j' := by
  unfold xct
  rw [show (fun i' => gA (pA z k j i v) k' j' i') = (fun i' => gA z k' j' i') from funext fun _ => gA_pA_ne h]
  rfl
theorem xct_pS {X : XC} {z : XS} {k f j : Nat} {v : Int32} : xct X (pS z k f j v) k j = xcf X k j (fun g => if g = f then v else gS z k g j) (fun i => gA z k j i) (z.2.2 j) := by
  unfold xct
  rw [show (fun f' => gS (pS z k f j v) k f' j) = (fun g => if g = f then v else gS z k g j) from funext fun _ => gS_pS]
  rfl
theorem xcf_I {X : XC} {k j : Nat} {sc ar : Nat → Int32} {hk : Nat} (h : xisI k = true) : xcf X k j sc ar hk = xrI X (xlen k j) ar := by
  unfold xisI at h
  split at h <;> first | rfl | cases h
theorem xct_I {X : XC} {z : XS} {k j : Nat} (h : xisI k = true) : xct X z k j = .inl (X.2.1 0, xlen k j, .inl (fun i => gA z k j i)) := xcf_I h
theorem xad_pS {X : XC} {z : XS} {k f j k' j' : Nat} {v : Int32} : xad X (pS z k f j v) k' j' = xad X z k' j' := rfl
theorem xad_pA {X : XC} {z : XS} {k j i k' j' : Nat} {v : Int32} : xad X (pA z k j i v) k' j' = xad X z k' j' := rfl
/-- a number field is written -/
theorem xcells_pS {A : Nat → Prop} {X : XC} {z : XS} {ex : va_W} {k f j n : Nat} {v : Int32} {e : va_E} (hD : va_D A (xcells X z ++ ex)) (hj : j < xcnt k) (hn : (xcells X z ++ ex)[n]? = some (xad X z k j, xct X z k j)) (he : xct X (pS z k f j v) k j = e) : (xcells X z ++ ex).set n (xad X z k j, e) = xcells X (pS z k f j v) ++ ex := by
  refine x_set (q0 := (k, j)) (f := xf X z) (g := xf X (pS z k f j v)) hD (x_mem hj) hn ?_ ?_
  · show (xad X (pS z k f j v) k j, xct X (pS z k f j v) k j) = (xad X z k j, e)
    rw [he, xad_pS]
  · intro q _ hq
    show (xad X (pS z k f j v) q.1 q.2, xct X (pS z k f j v) q.1 q.2) = (xad X z q.1 q.2, xct X z q.1 q.2)
    rw [xad_pS, xct_pS_ne (fun h => hq (Prod.ext h.1 h.2))]
theorem xcells_pA {A : Nat → Prop} {X : XC} {z : XS} {ex : va_W} {k j i n : Nat} {v : Int32} (hk : xisI k = true) (hD : va_D A (xcells X z ++ ex)) (hj : j < xcnt k) (hn : (xcells X z ++ ex)[n]? = some (xad X z k j, xct X z k j)) : (xcells X z ++ ex).set n (xad X z k j, .inl (X.2.1 0, xlen k j, .inl (upd (fun i' => gA z k j i') i v))) = xcells X (pA z k j i v) ++ ex := by
  refine x_set (q0 := (k, j)) (f := xf X z) (g := xf X (pA z k j i v)) hD (x_mem hj) hn ?_ ?_
  · show (xad X (pA z k j i v) k j, xct X (pA z k j i v) k j) = (xad X z k j, _)
    rw [xct_I hk, gA_pA, xad_pA]
  · intro q _ hq
    show (xad X (pA z k j i v) q.1 q.2, xct X (pA z k j i v) q.1 q.2) = (xad X z q.1 q.2, xct X z q.1 q.2)
    rw [xad_pA, xct_pA_ne (fun h => hq (Prod.ext h.1 h.2))]
