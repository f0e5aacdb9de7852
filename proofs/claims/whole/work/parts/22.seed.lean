/-- the same world but for where the hedges lie -/
def xseth (X : XC) (h : Nat → Nat) : XC := (X.1, X.2.1, fun k j => if k = 10 then h j else X.2.2.1 k j, X.2.2.2)
theorem xseth_self (X : XC) : xseth X (fun j => X.2.2.1 10 j) = X := by
  obtain ⟨a, b, d, e⟩ := X
  unfold xseth
  have h : (fun k j => if k = 10 then d 10 j else d k j) = d := by
    funext k j
    by_cases h : k = 10
    · rw [if_pos h, h]
    · rw [if_neg h]
  show (a, b, (fun k j => if k = 10 then d 10 j else d k j), e) = (a, b, d, e)
  rw [h]
theorem xseth_two (X : XC) (h h' : Nat → Nat) : xseth (xseth X h) h' = xseth X h' := by
  unfold xseth
  have e : (fun k j => if k = 10 then h' j else (if k = 10 then h j else X.2.2.1 k j)) = (fun k j => if k = 10 then h' j else X.2.2.1 k j) := by
    funext k j
    by_cases q : k = 10
    · rw [if_pos q, if_pos q]
    · rw [if_neg q, if_neg q, if_neg q]
  show (X.1, X.2.1, (fun k j => if k = 10 then h' j else (if k = 10 then h j else X.2.2.1 k j)), X.2.2.2) = _
  rw [e]
def pH (z : XS) (j ci : Nat) (u v : Int32) : XS := (fun k' f' j' => if k' = 10 ∧ j' = j then (if f' = 0 then u else if f' = 1 then v else z.1 k' f' j') else z.1 k' f' j', z.2.1, fun j' => if j' = j then ci else z.2.2 j')
def hset (X : XC) (j a : Nat) : Nat → Nat := fun j' => if j' = j then a else X.2.2.1 10 j'
theorem gS_pH_ne {z : XS} {j ci k' f' j' : Nat} {u v : Int32} (h : ¬ (k' = 10 ∧ j' = j)) : gS (pH z j ci u v) k' f' j' = gS z k' f' j' := by
  unfold gS pH
  exact if_neg h
theorem xct_seed_ne {X : XC} {z : XS} {j a ci k' j' : Nat} {u v : Int32} (h1 : ¬ (k' = 9 ∧ j' = j)) (h2 : ¬ (k' = 10 ∧ j' = j)) : xct (xseth X (hset X j a)) (pH z j ci u v) k' j' = xct X z k' j' := by
  have e1 : (fun f => gS (pH z j ci u v) k' f j') = fun f => gS z k' f j' := funext fun _ => gS_pH_ne h2
  unfold xct
  rw [e1]
  match k', h1, h2 with
  | 0, _, _ => rfl
  | 1, _, _ => rfl
  | 2, _, _ => rfl
  | 3, _, _ => rfl
  | 4, _, _ => rfl
  | 5, _, _ => rfl
  | 6, _, _ => rfl
  | 7, _, _ => rfl
  | 8, _, _ => rfl
  | 9, h1, _ =>
    have e : hset X j a j' = X.2.2.1 10 j' := if_neg (fun q => h1 ⟨rfl, q⟩)
    show (Sum.inr (0, [Value.ref (hset X j a j'), .ref (X.2.2.1 11 j'), .ref (X.2.2.1 13 j'), .ref (X.2.2.1 15 j')]) : va_E) = _
    rw [e]
    rfl
  | 10, _, h2 =>
    have e : (pH z j ci u v).2.2 j' = z.2.2 j' := if_neg (fun q => h2 ⟨rfl, q⟩)
    show (Sum.inr ((pH z j ci u v).2.2 j', [Value.int (gS z 10 0 j'), .int (gS z 10 1 j')]) : va_E) = _
    rw [e]
    rfl
  | 11, _, _ => rfl
  | 12, _, _ => rfl
  | 13, _, _ => rfl
  | 14, _, _ => rfl
  | 15, _, _ => rfl
  | 16, _, _ => rfl
  | 17, _, _ => rfl
  | 18, _, _ => rfl
  | n + 19, _, _ => rfl
theorem xad_seed_ne {X : XC} {z : XS} {j a ci k' j' : Nat} {u v : Int32} (h2 : ¬ (k' = 10 ∧ j' = j)) : xad (xseth X (hset X j a)) (pH z j ci u v) k' j' = xad X z k' j' := by
  show (if k' = 10 then hset X j a j' else X.2.2.1 k' j') = X.2.2.1 k' j'
  by_cases h : k' = 10
  · rw [if_pos h, h]
    exact if_neg (fun q => h2 ⟨h, q⟩)
  · rw [if_neg h]
theorem x_set2 {A : Nat → Prop} {ids : List (Nat × Nat)} {f g : Nat × Nat → Nat × va_E} {ex : va_W} {n : Nat} {q0 : Nat × Nat} {e : Nat × va_E} (hD : va_D A (ids.map f ++ ex)) (h0 : q0 ∈ ids) (hn : (ids.map f ++ ex)[n]? = some (f q0)) (hg0 : g q0 = e) (hg : ∀ q ∈ ids, q ≠ q0 → g q = f q) : (ids.map f ++ ex).set n e = ids.map g ++ ex := by
  obtain ⟨i, hi⟩ := List.getElem?_of_mem h0
  have hil : i < ids.length := (List.getElem?_eq_some_iff.mp hi).1
  have h2 : (ids.map f ++ ex)[i]? = some (f q0) := by
    rw [List.getElem?_append_left (by rw [List.length_map]; exact hil), List.getElem?_map, hi]
    rfl
  have hni : n = i := hD.1 n i _ _ hn h2 rfl
  subst hni
  apply List.ext_getElem?
  intro j
  by_cases hj : j = n
  · subst hj
    rw [List.getElem?_set_self (by rw [List.length_append, List.length_map]; omega), List.getElem?_append_left (by rw [List.length_map]; exact hil), List.getElem?_map, hi, ← hg0]
    rfl
  · rw [List.getElem?_set_ne (Ne.symm hj)]
    by_cases hjl : j < ids.length
    · rw [List.getElem?_append_left (by rw [List.length_map]; exact hjl), List.getElem?_append_left (by rw [List.length_map]; exact hjl), List.getElem?_map, List.getElem?_map]
      cases hq : ids[j]? with
      | none => rfl
      | some q =>
        have hne : q ≠ q0 := by
          intro e0
          subst e0
          have h3 : (ids.map f ++ ex)[j]? = some (f q) := by
            rw [List.getElem?_append_left (by rw [List.length_map]; exact hjl), List.getElem?_map, hq]
            rfl
          exact hj (hD.1 j n _ _ h3 h2 rfl)
        show some (f q) = some (g q)
        rw [hg q (List.mem_of_getElem? hq) hne]
    · rw [List.getElem?_append_right (by rw [List.length_map]; omega), List.getElem?_append_right (by rw [List.length_map]; omega), List.length_map, List.length_map]
/-- the last cell takes another's place -/
theorem u_swapLast {D : va_G} {cl : List vw_C} {A : Nat → Prop} {w : va_W} {e : Nat × va_E} {n : Nat} {H : Heap} (hn : n < w.length) (hP : va_P D cl (w ++ [e]) H) (hD : va_D A (w ++ [e])) : va_P D cl (w.set n e) H ∧ va_D A (w.set n e) := by
  have hl : (w ++ [e])[w.length]? = some e := by rw [List.getElem?_append_right (Nat.le_refl _), Nat.sub_self]; rfl
  have key : ∀ (k : Nat) (q : Nat × va_E), (w.set n e)[k]? = some q → (k = n ∧ q = e) ∨ (k ≠ n ∧ k < w.length ∧ (w ++ [e])[k]? = some q) := by
    intro k q hk
    by_cases h : k = n
    · subst h
      rw [List.getElem?_set_self hn] at hk
      exact Or.inl ⟨rfl, (Option.some.inj hk).symm⟩
    · rw [List.getElem?_set_ne (Ne.symm h)] at hk
      have hkl := (List.getElem?_eq_some_iff.mp hk).1
      exact Or.inr ⟨h, hkl, by rw [List.getElem?_append_left hkl]; exact hk⟩
  refine ⟨fun k q hk => ?_, fun i j x y hi hj hxy => ?_, fun k q hk => ?_⟩
  · rcases key k q hk with ⟨-, rfl⟩ | ⟨-, -, h⟩
    · exact hP _ _ hl
    · exact hP _ _ h
  · rcases key i x hi with ⟨h1, rfl⟩ | ⟨h1, l1, a1⟩ <;> rcases key j y hj with ⟨h2, h3⟩ | ⟨h2, l2, a2⟩
    · rw [h1, h2]
    · have := hD.1 _ _ _ _ hl a2 hxy
      omega
    · have := hD.1 _ _ _ _ a1 hl (by rw [hxy, h3])
      omega
    · exact hD.1 _ _ _ _ a1 a2 hxy
  · rcases key k q hk with ⟨-, rfl⟩ | ⟨-, -, h⟩
    · exact hD.2 _ _ hl
    · exact hD.2 _ _ h
set_option maxHeartbeats 1000000 in
/-- a Border gets the hedge that was made for it -/
theorem x_putH {p : Program} {l : Launch} {e : Env} {R : Room} {s : State} {m : MethodId} {args : Array Value} {below : List Frame} {meth : Method} {c : Code} {H : Heap} {locs : List Loc} {cells slots : Nat} {Q : State → Prop} {cc : ByteArray} {pc nL : Nat} {ls : Array Slot} {rest : List Value} {X : XC} {ex : va_W} {z : XS} {own : String} {a ci : Nat} {u v : Int32} (C : CallFix p m c cc nL s args gtbl own) (hw : xw X (ex ++ [(a, .inr (ci, [.int u, .int v]))]) z s H locs) {j : Nat} (hj : j < 6) {index : Nat} (hlink : Cond.fieldLink own index (TX0 0).1 (TX0 0).2.1 (TX0 0).2.2.1 ∈ gtbl) (hdg : decode cc pc = .ok (.putfield index, 3))
    (kk : ∀ (H1 : Heap) (locs1 : List Loc), xw (xseth X (hset X j a)) ex (pH z j ci u v) s H1 locs1 → W p l e R s m args below meth c H1 locs1 cells slots Q (F0 m (pc + 3) ls rest)) : W p l e R s m args below meth c H locs cells slots Q (F0 m pc ls (.ref a :: .ref (X.2.2.1 9 j) :: rest)) := by
  have h9 : j < xcnt 9 := hj
  have h10 : j < xcnt 10 := hj
  obtain ⟨n, hn⟩ := x_place X z ex h9
  have hnl := (List.getElem?_eq_some_iff.mp hn).1
  have hw1 : uw X ((xcells X z ++ ex) ++ [(a, .inr (ci, [.int u, .int v]))]) s H locs := by
    rw [List.append_assoc]
    exact hw
  have hn1 : ((xcells X z ++ ex) ++ [(a, (.inr (ci, [.int u, .int v]) : va_E))])[n]? = some (X.2.2.1 9 j, .inr (0, [.ref (X.2.2.1 10 j), .ref (X.2.2.1 11 j), .ref (X.2.2.1 13 j), .ref (X.2.2.1 15 j)])) := by
    rw [List.getElem?_append_left hnl, hn]
    rfl
  refine u_put (v := .ref a) C hw1 n 0 hn1 rfl ixX0 tyX0 tyX0_ok nmX0 (by decide) hlink rfl (tyX0_ok 0 (by decide)) rfl rfl (Nat.le_of_ble_eq_true rfl) hdg (fun H1 locs1 hw => kk H1 locs1 ⟨hw.1, ?_, hw.2.2⟩)
  have hP := hw.2.1.1
  have hD := hw.2.1.2
  rw [List.set_append_left _ _ hnl] at hP hD
  have hD0 : va_D (xA X) (xcells X z ++ ex) := by
    have hh := hw1.2.1.2
    refine ⟨fun i k x y hi hk he => ?_, fun k q hk => ?_⟩
    · refine hh.1 i k x y ?_ ?_ he
      · rw [List.getElem?_append_left (List.getElem?_eq_some_iff.mp hi).1]; exact hi
      · rw [List.getElem?_append_left (List.getElem?_eq_some_iff.mp hk).1]; exact hk
    · refine hh.2 k q ?_
      rw [List.getElem?_append_left (List.getElem?_eq_some_iff.mp hk).1]; exact hk
  let g1 : Nat × Nat → Nat × va_E := fun q => if q = (9, j) then (X.2.2.1 9 j, .inr (0, [.ref a, .ref (X.2.2.1 11 j), .ref (X.2.2.1 13 j), .ref (X.2.2.1 15 j)])) else xf X z q
  have e1 : (xcells X z ++ ex).set n (X.2.2.1 9 j, .inr (0, ([.ref (X.2.2.1 10 j), .ref (X.2.2.1 11 j), .ref (X.2.2.1 13 j), .ref (X.2.2.1 15 j)] : List Value).set 0 (.ref a))) = xids.map g1 ++ ex :=
    x_set2 (q0 := (9, j)) (f := xf X z) (g := g1) hD0 (x_mem h9) hn (if_pos rfl) (fun q _ hq => if_neg hq)
  rw [e1] at hP hD
  obtain ⟨i, hi⟩ := List.getElem?_of_mem (x_mem h10)
  have hil := (List.getElem?_eq_some_iff.mp hi).1
  have hil2 : i < (xids.map g1 ++ ex).length := by rw [List.length_append, List.length_map]; omega
  have hi1 : (xids.map g1 ++ ex)[i]? = some (g1 (10, j)) := by
    rw [List.getElem?_append_left (by rw [List.length_map]; exact hil), List.getElem?_map, hi]
    rfl
  obtain ⟨hP2, hD2⟩ := u_swapLast hil2 hP hD
  have hD1 : va_D (xA X) (xids.map g1 ++ ex) := by
    refine ⟨fun i k x y hi hk he => ?_, fun k q hk => ?_⟩
    · refine hD.1 i k x y ?_ ?_ he
      · rw [List.getElem?_append_left (List.getElem?_eq_some_iff.mp hi).1]; exact hi
      · rw [List.getElem?_append_left (List.getElem?_eq_some_iff.mp hk).1]; exact hk
    · refine hD.2 k q ?_
      rw [List.getElem?_append_left (List.getElem?_eq_some_iff.mp hk).1]; exact hk
  have e2 : (xids.map g1 ++ ex).set i (a, .inr (ci, [.int u, .int v])) = xcells (xseth X (hset X j a)) (pH z j ci u v) ++ ex := by
    refine x_set2 (q0 := (10, j)) (f := g1) (g := xf (xseth X (hset X j a)) (pH z j ci u v)) hD1 (x_mem h10) hi1 ?_ ?_
    · have ea : (xseth X (hset X j a)).2.2.1 10 j = a := by
        show hset X j a j = a
        exact if_pos rfl
      have eu : gS (pH z j ci u v) 10 0 j = u := by
        unfold gS pH
        simp
      have ev : gS (pH z j ci u v) 10 1 j = v := by
        unfold gS pH
        simp
      have ec : (pH z j ci u v).2.2 j = ci := if_pos rfl
      show (((xseth X (hset X j a)).2.2.1 10 j, Sum.inr ((pH z j ci u v).2.2 j, [Value.int (gS (pH z j ci u v) 10 0 j), .int (gS (pH z j ci u v) 10 1 j)])) : Nat × va_E) = (a, Sum.inr (ci, [.int u, .int v]))
      rw [ea, eu, ev, ec]
    · intro q _ hq
      by_cases h : q = (9, j)
      · subst h
        show ((X.2.2.1 9 j, Sum.inr (0, [Value.ref (hset X j a j), .ref (X.2.2.1 11 j), .ref (X.2.2.1 13 j), .ref (X.2.2.1 15 j)])) : Nat × va_E) = g1 (9, j)
        have ea : hset X j a j = a := if_pos rfl
        rw [ea]
        exact (if_pos rfl).symm
      · show (xad (xseth X (hset X j a)) (pH z j ci u v) q.1 q.2, xct (xseth X (hset X j a)) (pH z j ci u v) q.1 q.2) = g1 q
        rw [xad_seed_ne (fun z => hq (Prod.ext z.1 z.2)), xct_seed_ne (fun z => h (Prod.ext z.1 z.2)) (fun z => hq (Prod.ext z.1 z.2))]
        exact (if_neg h).symm
  rw [e2] at hP2 hD2
  exact ⟨hP2, hD2⟩
