theorem kw_766 : Cond.methodLink RX2 3 Lib.objectInit ∈ gtbl := gm1 41 rfl rfl
theorem kw_767 : Cond.instanceMethod Lib.objectInit ∈ gtbl := gm1 21 rfl rfl
theorem kw_768 : Cond.code Lib.objectInit ⟨#[0xb1]⟩ 1 none ∈ gtbl := gm1 22 rfl rfl
theorem kw_769 : Cond.fieldLink RX2 9 (TX2 0).1 (TX2 0).2.1 (TX2 0).2.2.1 ∈ gtbl := gm1 42 rfl rfl
theorem kw_770 : Cond.fieldLink RX2 15 (TX2 1).1 (TX2 1).2.1 (TX2 1).2.2.1 ∈ gtbl := gm1 43 rfl rfl
abbrev rm_X2_init_2 : Room := { frames := 1, cells := 0, slots := 0, locals := 12 }
set_option maxHeartbeats 8000000 in
set_option maxRecDepth 100000 in
theorem i_X2_init_2 (l : Launch) (X : XC) (ws0 : va_W) (a : Nat) (x1 x2 : Int32) (u v : Int32) : uM l X ((a, .inr (2, [.int u, .int v])) :: ws0) yX2_init cX2_init 3 none rm_X2_init_2 [.ref a, .int x1, .int x2] (uQ X (fun _ : Unit => (a, .inr (2, [.int (x1), .int (x2)])) :: ws0)) := by
  refine u_ent (by decide) (Nat.le_of_ble_eq_true rfl) ?_
  intro p e s m below meth c ls C hr hk hi hw hl
  replace hl : lv_has ls 3 [(0, .ref a), (1, .int x1), (2, .int x2)] := hl
  generalize hlo : ([] : List Loc) = locs at hw ⊢
  refine lv_aload_n C.1 C.2.1 dX2_init_0 rfl (lv_at hl 0 rfl) ?_
  refine W.objInit C.1 C.2.1 C.2.2.2.1 (C.2.2.2.2 _ kw_766) (C.2.2.2.2 _ kw_767) (C.2.2.2.2 _ kw_768) rfl (by rw [C.2.2.1]; exact hl.1) rfl dX2_init_1 (Nat.le_of_ble_eq_true rfl) (Nat.le_of_ble_eq_true rfl) ?_
  refine W.eq (g2 := F0 m 4 ls []) rfl ?_
  refine lv_aload_n C.1 C.2.1 dX2_init_4 rfl (lv_at hl 0 rfl) ?_
  refine lv_iload_n C.1 C.2.1 dX2_init_5 rfl (lv_at hl 1 rfl) ?_
  refine u_putF C hi hw 0 0 rfl rfl ixX2 tyX2 tyX2_ok nmX2 (by decide) kw_769 rfl rfl (tyX2_ok 0 (by decide)) rfl rfl (Nat.le_of_ble_eq_true rfl) dX2_init_6 (fun H locs hw => ?_)
  replace hw : uw X ((a, .inr (2, [.int (x1), .int v])) :: ws0) s H locs := hw
  refine lv_aload_n C.1 C.2.1 dX2_init_9 rfl (lv_at hl 0 rfl) ?_
  refine lv_iload_n C.1 C.2.1 dX2_init_10 rfl (lv_at hl 2 rfl) ?_
  refine u_putF C hi hw 0 1 rfl rfl ixX2 tyX2 tyX2_ok nmX2 (by decide) kw_770 rfl rfl (tyX2_ok 1 (by decide)) rfl rfl (Nat.le_of_ble_eq_true rfl) dX2_init_11 (fun H locs hw => ?_)
  replace hw : uw X ((a, .inr (2, [.int (x1), .int (x2)])) :: ws0) s H locs := hw
  exact u_vret C () hw hr hk dX2_init_14
theorem kw_771 : Cond.fieldLink RX2 9 (TX8 0).1 (TX8 0).2.1 (TX8 0).2.2.1 ∈ gtbl := gm1 42 rfl rfl
theorem kw_772 : Cond.fieldLink RX2 15 (TX8 1).1 (TX8 1).2.1 (TX8 1).2.2.1 ∈ gtbl := gm1 43 rfl rfl
abbrev rm_X2_init_7 : Room := { frames := 1, cells := 0, slots := 0, locals := 12 }
set_option maxHeartbeats 8000000 in
set_option maxRecDepth 100000 in
theorem i_X2_init_7 (l : Launch) (X : XC) (ws0 : va_W) (a : Nat) (x1 x2 : Int32) (u v : Int32) : uM l X ((a, .inr (7, [.int u, .int v])) :: ws0) yX2_init cX2_init 3 none rm_X2_init_7 [.ref a, .int x1, .int x2] (uQ X (fun _ : Unit => (a, .inr (7, [.int (x1), .int (x2)])) :: ws0)) := by
  refine u_ent (by decide) (Nat.le_of_ble_eq_true rfl) ?_
  intro p e s m below meth c ls C hr hk hi hw hl
  replace hl : lv_has ls 3 [(0, .ref a), (1, .int x1), (2, .int x2)] := hl
  generalize hlo : ([] : List Loc) = locs at hw ⊢
  refine lv_aload_n C.1 C.2.1 dX2_init_0 rfl (lv_at hl 0 rfl) ?_
  refine W.objInit C.1 C.2.1 C.2.2.2.1 (C.2.2.2.2 _ kw_766) (C.2.2.2.2 _ kw_767) (C.2.2.2.2 _ kw_768) rfl (by rw [C.2.2.1]; exact hl.1) rfl dX2_init_1 (Nat.le_of_ble_eq_true rfl) (Nat.le_of_ble_eq_true rfl) ?_
  refine W.eq (g2 := F0 m 4 ls []) rfl ?_
  refine lv_aload_n C.1 C.2.1 dX2_init_4 rfl (lv_at hl 0 rfl) ?_
  refine lv_iload_n C.1 C.2.1 dX2_init_5 rfl (lv_at hl 1 rfl) ?_
  refine u_putF C hi hw 0 0 rfl rfl ixX8 tyX8 tyX8_ok nmX8 (by decide) kw_771 rfl rfl (tyX8_ok 0 (by decide)) rfl rfl (Nat.le_of_ble_eq_true rfl) dX2_init_6 (fun H locs hw => ?_)
  replace hw : uw X ((a, .inr (7, [.int (x1), .int v])) :: ws0) s H locs := hw
  refine lv_aload_n C.1 C.2.1 dX2_init_9 rfl (lv_at hl 0 rfl) ?_
  refine lv_iload_n C.1 C.2.1 dX2_init_10 rfl (lv_at hl 2 rfl) ?_
  refine u_putF C hi hw 0 1 rfl rfl ixX8 tyX8 tyX8_ok nmX8 (by decide) kw_772 rfl rfl (tyX8_ok 1 (by decide)) rfl rfl (Nat.le_of_ble_eq_true rfl) dX2_init_11 (fun H locs hw => ?_)
  replace hw : uw X ((a, .inr (7, [.int (x1), .int (x2)])) :: ws0) s H locs := hw
  exact u_vret C () hw hr hk dX2_init_14
theorem kw_773 : Cond.fieldLink RX2 9 (TX1 0).1 (TX1 0).2.1 (TX1 0).2.2.1 ∈ gtbl := gm1 42 rfl rfl
theorem kw_774 : Cond.fieldLink RX2 15 (TX1 1).1 (TX1 1).2.1 (TX1 1).2.2.1 ∈ gtbl := gm1 43 rfl rfl
abbrev rm_X2_init_1 : Room := { frames := 1, cells := 0, slots := 0, locals := 12 }
set_option maxHeartbeats 8000000 in
set_option maxRecDepth 100000 in
theorem i_X2_init_1 (l : Launch) (X : XC) (ws0 : va_W) (a : Nat) (x1 x2 : Int32) (u v : Int32) : uM l X ((a, .inr (1, [.int u, .int v])) :: ws0) yX2_init cX2_init 3 none rm_X2_init_1 [.ref a, .int x1, .int x2] (uQ X (fun _ : Unit => (a, .inr (1, [.int (x1), .int (x2)])) :: ws0)) := by
  refine u_ent (by decide) (Nat.le_of_ble_eq_true rfl) ?_
  intro p e s m below meth c ls C hr hk hi hw hl
  replace hl : lv_has ls 3 [(0, .ref a), (1, .int x1), (2, .int x2)] := hl
  generalize hlo : ([] : List Loc) = locs at hw ⊢
  refine lv_aload_n C.1 C.2.1 dX2_init_0 rfl (lv_at hl 0 rfl) ?_
  refine W.objInit C.1 C.2.1 C.2.2.2.1 (C.2.2.2.2 _ kw_766) (C.2.2.2.2 _ kw_767) (C.2.2.2.2 _ kw_768) rfl (by rw [C.2.2.1]; exact hl.1) rfl dX2_init_1 (Nat.le_of_ble_eq_true rfl) (Nat.le_of_ble_eq_true rfl) ?_
  refine W.eq (g2 := F0 m 4 ls []) rfl ?_
  refine lv_aload_n C.1 C.2.1 dX2_init_4 rfl (lv_at hl 0 rfl) ?_
  refine lv_iload_n C.1 C.2.1 dX2_init_5 rfl (lv_at hl 1 rfl) ?_
  refine u_putF C hi hw 0 0 rfl rfl ixX1 tyX1 tyX1_ok nmX1 (by decide) kw_773 rfl rfl (tyX1_ok 0 (by decide)) rfl rfl (Nat.le_of_ble_eq_true rfl) dX2_init_6 (fun H locs hw => ?_)
  replace hw : uw X ((a, .inr (1, [.int (x1), .int v])) :: ws0) s H locs := hw
  refine lv_aload_n C.1 C.2.1 dX2_init_9 rfl (lv_at hl 0 rfl) ?_
  refine lv_iload_n C.1 C.2.1 dX2_init_10 rfl (lv_at hl 2 rfl) ?_
  refine u_putF C hi hw 0 1 rfl rfl ixX1 tyX1 tyX1_ok nmX1 (by decide) kw_774 rfl rfl (tyX1_ok 1 (by decide)) rfl rfl (Nat.le_of_ble_eq_true rfl) dX2_init_11 (fun H locs hw => ?_)
  replace hw : uw X ((a, .inr (1, [.int (x1), .int (x2)])) :: ws0) s H locs := hw
  exact u_vret C () hw hr hk dX2_init_14
theorem kw_775 : Cond.code yX2_init cX2_init 3 none ∈ gtbl := gm1 40 rfl rfl
theorem kw_776 : Cond.instanceMethod yX2_init ∈ gtbl := gm1 39 rfl rfl
theorem nd_X2_init : (yX2_init).cls ≠ "java/lang/invoke/MethodHandle" ∧ (yX2_init).cls ≠ "java/lang/invoke/VarHandle" ∧ (parseMethodDescriptor (yX2_init).desc).map (fun d => d.parameters.length) = some 2 := by decide +kernel
theorem cI_X2_init : xc yX2_init cX2_init 3 none 2 ∧ Cond.instanceMethod yX2_init ∈ gtbl := ⟨⟨kw_775, kw_60, nd_X2_init⟩, kw_776⟩
theorem kw_779 : Cond.methodLink RX8 3 yX2_init ∈ gtbl := gm1 221 rfl rfl
abbrev rm_X8_init_7 : Room := { frames := 2, cells := 0, slots := 0, locals := 34 }
set_option maxHeartbeats 8000000 in
set_option maxRecDepth 100000 in
theorem i_X8_init_7 (l : Launch) (X : XC) (ws0 : va_W) (a : Nat) (x1 x2 : Int32) (u v : Int32) : uM l X ((a, .inr (7, [.int u, .int v])) :: ws0) yX8_init cX8_init 3 none rm_X8_init_7 [.ref a, .int x1, .int x2] (uQ X (fun _ : Unit => (a, .inr (7, [.int (x1), .int (x2)])) :: ws0)) := by
  refine u_ent (by decide) (Nat.le_of_ble_eq_true rfl) ?_
  intro p e s m below meth c ls C hr hk hi hw hl
  replace hl : lv_has ls 3 [(0, .ref a), (1, .int x1), (2, .int x2)] := hl
  generalize hlo : ([] : List Loc) = locs at hw ⊢
  refine lv_aload_n C.1 C.2.1 dX8_init_0 rfl (lv_at hl 0 rfl) ?_
  refine lv_iload_n C.1 C.2.1 dX8_init_1 rfl (lv_at hl 1 rfl) ?_
  refine lv_iload_n C.1 C.2.1 dX8_init_2 rfl (lv_at hl 2 rfl) ?_
  refine u_gov hw (u_runI (As := [.int (x1), .int (x2)]) (rest := []) (b := a) C hw cI_X2_init rfl kw_779 (i_X2_init_7 l X (ws0) a x1 x2 u v) ⟨(Nat.le_of_ble_eq_true rfl), (Nat.le_of_ble_eq_true rfl)⟩ rfl hl.1 rfl (Nat.le_of_ble_eq_true rfl) dX8_init_3 ⟨(Nat.le_of_ble_eq_true rfl), (Nat.le_of_ble_eq_true rfl)⟩) (fun u1 H locs hw => ?_)
  replace hw : uw X ((a, .inr (7, [.int (x1), .int (x2)])) :: ws0) s H locs := hw
  exact u_vret C () hw hr hk dX8_init_6
abbrev rm_X8_init_1 : Room := { frames := 2, cells := 0, slots := 0, locals := 34 }
set_option maxHeartbeats 8000000 in
set_option maxRecDepth 100000 in
theorem i_X8_init_1 (l : Launch) (X : XC) (ws0 : va_W) (a : Nat) (x1 x2 : Int32) (u v : Int32) : uM l X ((a, .inr (1, [.int u, .int v])) :: ws0) yX8_init cX8_init 3 none rm_X8_init_1 [.ref a, .int x1, .int x2] (uQ X (fun _ : Unit => (a, .inr (1, [.int (x1), .int (x2)])) :: ws0)) := by
  refine u_ent (by decide) (Nat.le_of_ble_eq_true rfl) ?_
  intro p e s m below meth c ls C hr hk hi hw hl
  replace hl : lv_has ls 3 [(0, .ref a), (1, .int x1), (2, .int x2)] := hl
  generalize hlo : ([] : List Loc) = locs at hw ⊢
  refine lv_aload_n C.1 C.2.1 dX8_init_0 rfl (lv_at hl 0 rfl) ?_
  refine lv_iload_n C.1 C.2.1 dX8_init_1 rfl (lv_at hl 1 rfl) ?_
  refine lv_iload_n C.1 C.2.1 dX8_init_2 rfl (lv_at hl 2 rfl) ?_
  refine u_gov hw (u_runI (As := [.int (x1), .int (x2)]) (rest := []) (b := a) C hw cI_X2_init rfl kw_779 (i_X2_init_1 l X (ws0) a x1 x2 u v) ⟨(Nat.le_of_ble_eq_true rfl), (Nat.le_of_ble_eq_true rfl)⟩ rfl hl.1 rfl (Nat.le_of_ble_eq_true rfl) dX8_init_3 ⟨(Nat.le_of_ble_eq_true rfl), (Nat.le_of_ble_eq_true rfl)⟩) (fun u1 H locs hw => ?_)
  replace hw : uw X ((a, .inr (1, [.int (x1), .int (x2)])) :: ws0) s H locs := hw
  exact u_vret C () hw hr hk dX8_init_6
theorem kw_780 : Cond.code yX8_init cX8_init 3 none ∈ gtbl := gm1 220 rfl rfl
theorem kw_781 : Cond.instanceMethod yX8_init ∈ gtbl := gm1 219 rfl rfl
theorem nd_X8_init : (yX8_init).cls ≠ "java/lang/invoke/MethodHandle" ∧ (yX8_init).cls ≠ "java/lang/invoke/VarHandle" ∧ (parseMethodDescriptor (yX8_init).desc).map (fun d => d.parameters.length) = some 2 := by decide +kernel
theorem cI_X8_init : xc yX8_init cX8_init 3 none 2 ∧ Cond.instanceMethod yX8_init ∈ gtbl := ⟨⟨kw_780, kw_42, nd_X8_init⟩, kw_781⟩
theorem kw_784 : Cond.methodLink RX1 1 yX8_init ∈ gtbl := gm1 230 rfl rfl
abbrev rm_X1_init_1 : Room := { frames := 3, cells := 0, slots := 0, locals := 56 }
set_option maxHeartbeats 8000000 in
set_option maxRecDepth 100000 in
theorem i_X1_init_1 (l : Launch) (X : XC) (ws0 : va_W) (a : Nat) (x1 x2 : Int32) (u v : Int32) : uM l X ((a, .inr (1, [.int u, .int v])) :: ws0) yX1_init cX1_init 3 none rm_X1_init_1 [.ref a, .int x1, .int x2] (uQ X (fun _ : Unit => (a, .inr (1, [.int (x1), .int (x2)])) :: ws0)) := by
  refine u_ent (by decide) (Nat.le_of_ble_eq_true rfl) ?_
  intro p e s m below meth c ls C hr hk hi hw hl
  replace hl : lv_has ls 3 [(0, .ref a), (1, .int x1), (2, .int x2)] := hl
  generalize hlo : ([] : List Loc) = locs at hw ⊢
  refine lv_aload_n C.1 C.2.1 dX1_init_0 rfl (lv_at hl 0 rfl) ?_
  refine lv_iload_n C.1 C.2.1 dX1_init_1 rfl (lv_at hl 1 rfl) ?_
  refine lv_iload_n C.1 C.2.1 dX1_init_2 rfl (lv_at hl 2 rfl) ?_
  refine u_gov hw (u_runI (As := [.int (x1), .int (x2)]) (rest := []) (b := a) C hw cI_X8_init rfl kw_784 (i_X8_init_1 l X (ws0) a x1 x2 u v) ⟨(Nat.le_of_ble_eq_true rfl), (Nat.le_of_ble_eq_true rfl)⟩ rfl hl.1 rfl (Nat.le_of_ble_eq_true rfl) dX1_init_3 ⟨(Nat.le_of_ble_eq_true rfl), (Nat.le_of_ble_eq_true rfl)⟩) (fun u1 H locs hw => ?_)
  replace hw : uw X ((a, .inr (1, [.int (x1), .int (x2)])) :: ws0) s H locs := hw
  exact u_vret C () hw hr hk dX1_init_6
theorem kw_785 : Cond.methodLink RX0 3 Lib.objectInit ∈ gtbl := gm1 35 rfl rfl
theorem kw_786 : Cond.classLink RX0 9 RX2 ∈ gtbl := gm1 36 rfl rfl
theorem kw_787 : Cond.instantiable RX2 2 ∈ gtbl := gm1 37 rfl rfl
theorem kw_788 : Cond.methodLink RX0 11 yX2_init ∈ gtbl := gm1 38 rfl rfl
theorem kw_789 : Cond.classLink RX0 20 "[[I" ∈ gtbl := gm1 52 rfl rfl
theorem kw_790 : Cond.arrayClass .int ∈ gtbl := gm1 51 rfl rfl
abbrev rm_X0_init_0 : Room := { frames := 2, cells := 8, slots := 158, locals := 34 }
abbrev S_X0_init_0 : Type := Nat × Nat × Nat × Nat × Nat × Nat × Nat × Nat
def bc_X0_init_0 (X : XC) (a : Nat) (u : S_X0_init_0) : va_W := (u.2.2.2.2.2.2.2, xrI X 30 (fun _ => 0)) :: (u.2.2.2.2.1, .inl (X.2.1 1, 2, .inr (.inr (.inr (.inr (fun i => if i < 2 then some (if i = 0 then u.2.2.2.2.2.1 else u.2.2.2.2.2.2.1) else none)))))) :: (u.2.2.2.2.2.1, xrI X 31 (fun _ => 0)) :: (u.2.2.2.2.2.2.1, xrI X 31 (fun _ => 0)) :: (u.2.1, .inl (X.2.1 1, 2, .inr (.inr (.inr (.inr (fun i => if i < 2 then some (if i = 0 then u.2.2.1 else u.2.2.2.1) else none)))))) :: (u.2.2.1, xrI X 30 (fun _ => 0)) :: (u.2.2.2.1, xrI X 30 (fun _ => 0)) :: (u.1, .inr (2, [.int ((0 : Int32)), .int ((0 : Int32))])) :: (a, .inr (0, [.ref (u.1), .ref (u.2.1), .ref (u.2.2.2.2.1), .ref (u.2.2.2.2.2.2.2)])) :: []
set_option maxHeartbeats 8000000 in
set_option maxRecDepth 100000 in
theorem i_X0_init_0 (l : Launch) (X : XC) (ws0 : va_W) (a : Nat) : uM l X ((a, .inr (0, [.null, .null, .null, .null])) :: ws0) yX0_init cX0_init 1 none rm_X0_init_0 [.ref a] (uQ X (fun u : S_X0_init_0 => bc_X0_init_0 X a u ++ ws0)) := by
  refine u_ent (by decide) (Nat.le_of_ble_eq_true rfl) ?_
  intro p e s m below meth c ls C hr hk hi hw hl
  replace hl : lv_has ls 1 [(0, .ref a)] := hl
  generalize hlo : ([] : List Loc) = locs at hw ⊢
  refine lv_aload_n C.1 C.2.1 dX0_init_0 rfl (lv_at hl 0 rfl) ?_
  refine W.objInit C.1 C.2.1 C.2.2.2.1 (C.2.2.2.2 _ kw_785) (C.2.2.2.2 _ kw_767) (C.2.2.2.2 _ kw_768) rfl (by rw [C.2.2.1]; exact hl.1) rfl dX0_init_1 (Nat.le_of_ble_eq_true rfl) (Nat.le_of_ble_eq_true rfl) ?_
  refine W.eq (g2 := F0 m 4 ls []) rfl ?_
  refine lv_aload_n C.1 C.2.1 dX0_init_4 rfl (lv_at hl 0 rfl) ?_
  refine u_new (ci := 2) (fs := [.int 0, .int 0]) C hw rfl ixX2 tyX2 tyX2_ok kw_786 kw_787 kw_60 (by decide +kernel) (Nat.le_of_ble_eq_true rfl) (Nat.le_of_ble_eq_true rfl) dX0_init_5 (fun q1 H hw => ?_)
  replace hw := uw_front hw
  replace hw : uw X ((q1, .inr (2, [.int 0, .int 0])) :: (a, .inr (0, [.null, .null, .null, .null])) :: ws0) s H locs := hw
  refine lv_dup C.1 C.2.1 dX0_init_8 rfl ?_
  refine lv_iconst (v := (0 : Int32)) C.1 C.2.1 dX0_init_9 (by decide) ?_
  refine lv_iconst (v := (0 : Int32)) C.1 C.2.1 dX0_init_10 (by decide) ?_
  refine u_gov hw (u_runI (As := [.int ((0 : Int32)), .int ((0 : Int32))]) (rest := [.ref (q1), .ref (a)]) (b := q1) C hw cI_X2_init rfl kw_788 (i_X2_init_2 l X ((a, .inr (0, [.null, .null, .null, .null])) :: ws0) q1 (0 : Int32) (0 : Int32) 0 0) ⟨(Nat.le_of_ble_eq_true rfl), (Nat.le_of_ble_eq_true rfl)⟩ rfl hl.1 rfl (Nat.le_of_ble_eq_true rfl) dX0_init_11 ⟨(Nat.le_of_ble_eq_true rfl), (Nat.le_of_ble_eq_true rfl)⟩) (fun u2 H locs hw => ?_)
  replace hw : uw X ((q1, .inr (2, [.int ((0 : Int32)), .int ((0 : Int32))])) :: (a, .inr (0, [.null, .null, .null, .null])) :: ws0) s H locs := hw
  refine u_put C hw 1 0 rfl rfl ixX0 tyX0 tyX0_ok nmX0 (by decide) kw_47 rfl (tyX0_ok 0 (by decide)) rfl rfl (Nat.le_of_ble_eq_true rfl) dX0_init_14 (fun H locs hw => ?_)
  replace hw : uw X ((q1, .inr (2, [.int ((0 : Int32)), .int ((0 : Int32))])) :: (a, .inr (0, [.ref (q1), .null, .null, .null])) :: ws0) s H locs := hw
  refine lv_aload_n C.1 C.2.1 dX0_init_17 rfl (lv_at hl 0 rfl) ?_
  refine lv_iconst (v := (2 : Int32)) C.1 C.2.1 dX0_init_18 (by decide) ?_
  refine lv_bipush (v := (30 : Int32)) C.1 C.2.1 dX0_init_19 (by decide) ?_
  refine u_mna C hw kw_789 kw_790 30 (by decide) rfl (by decide) (Nat.le_of_ble_eq_true rfl) (Nat.le_of_ble_eq_true rfl) dX0_init_21 (fun q3 r3a r3b H hw => ?_)
  replace hw := uw_front hw
  replace hw : uw X ((q3, .inl (X.2.1 1, 2, .inr (.inr (.inr (.inr (fun i => if i < 2 then some (if i = 0 then r3a else r3b) else none)))))) :: (r3a, xrI X 30 (fun _ => 0)) :: (r3b, xrI X 30 (fun _ => 0)) :: (q1, .inr (2, [.int ((0 : Int32)), .int ((0 : Int32))])) :: (a, .inr (0, [.ref (q1), .null, .null, .null])) :: ws0) s H locs := hw
  refine u_putF C hi hw 4 1 rfl rfl ixX0 tyX0 tyX0_ok nmX0 (by decide) kw_73 rfl rfl (tyX0_ok 1 (by decide)) rfl rfl (Nat.le_of_ble_eq_true rfl) dX0_init_25 (fun H locs hw => ?_)
  replace hw : uw X ((q3, .inl (X.2.1 1, 2, .inr (.inr (.inr (.inr (fun i => if i < 2 then some (if i = 0 then r3a else r3b) else none)))))) :: (r3a, xrI X 30 (fun _ => 0)) :: (r3b, xrI X 30 (fun _ => 0)) :: (q1, .inr (2, [.int ((0 : Int32)), .int ((0 : Int32))])) :: (a, .inr (0, [.ref (q1), .ref (q3), .null, .null])) :: ws0) s H locs := hw
  refine lv_aload_n C.1 C.2.1 dX0_init_28 rfl (lv_at hl 0 rfl) ?_
  refine lv_iconst (v := (2 : Int32)) C.1 C.2.1 dX0_init_29 (by decide) ?_
  refine lv_bipush (v := (31 : Int32)) C.1 C.2.1 dX0_init_30 (by decide) ?_
  refine u_mna C hw kw_789 kw_790 31 (by decide) rfl (by decide) (Nat.le_of_ble_eq_true rfl) (Nat.le_of_ble_eq_true rfl) dX0_init_32 (fun q4 r4a r4b H hw => ?_)
  replace hw := uw_front hw
  replace hw : uw X ((q4, .inl (X.2.1 1, 2, .inr (.inr (.inr (.inr (fun i => if i < 2 then some (if i = 0 then r4a else r4b) else none)))))) :: (r4a, xrI X 31 (fun _ => 0)) :: (r4b, xrI X 31 (fun _ => 0)) :: (q3, .inl (X.2.1 1, 2, .inr (.inr (.inr (.inr (fun i => if i < 2 then some (if i = 0 then r3a else r3b) else none)))))) :: (r3a, xrI X 30 (fun _ => 0)) :: (r3b, xrI X 30 (fun _ => 0)) :: (q1, .inr (2, [.int ((0 : Int32)), .int ((0 : Int32))])) :: (a, .inr (0, [.ref (q1), .ref (q3), .null, .null])) :: ws0) s H locs := hw
  refine u_putF C hi hw 7 2 rfl rfl ixX0 tyX0 tyX0_ok nmX0 (by decide) kw_75 rfl rfl (tyX0_ok 2 (by decide)) rfl rfl (Nat.le_of_ble_eq_true rfl) dX0_init_36 (fun H locs hw => ?_)
  replace hw : uw X ((q4, .inl (X.2.1 1, 2, .inr (.inr (.inr (.inr (fun i => if i < 2 then some (if i = 0 then r4a else r4b) else none)))))) :: (r4a, xrI X 31 (fun _ => 0)) :: (r4b, xrI X 31 (fun _ => 0)) :: (q3, .inl (X.2.1 1, 2, .inr (.inr (.inr (.inr (fun i => if i < 2 then some (if i = 0 then r3a else r3b) else none)))))) :: (r3a, xrI X 30 (fun _ => 0)) :: (r3b, xrI X 30 (fun _ => 0)) :: (q1, .inr (2, [.int ((0 : Int32)), .int ((0 : Int32))])) :: (a, .inr (0, [.ref (q1), .ref (q3), .ref (q4), .null])) :: ws0) s H locs := hw
  refine lv_aload_n C.1 C.2.1 dX0_init_39 rfl (lv_at hl 0 rfl) ?_
  refine lv_bipush (v := (30 : Int32)) C.1 C.2.1 dX0_init_40 (by decide) ?_
  refine u_newI C hw kw_790 30 (by decide) rfl (by decide) (Nat.le_of_ble_eq_true rfl) (Nat.le_of_ble_eq_true rfl) dX0_init_42 (fun q5 H hw => ?_)
  replace hw := uw_front hw
  replace hw : uw X ((q5, xrI X 30 (fun _ => 0)) :: (q4, .inl (X.2.1 1, 2, .inr (.inr (.inr (.inr (fun i => if i < 2 then some (if i = 0 then r4a else r4b) else none)))))) :: (r4a, xrI X 31 (fun _ => 0)) :: (r4b, xrI X 31 (fun _ => 0)) :: (q3, .inl (X.2.1 1, 2, .inr (.inr (.inr (.inr (fun i => if i < 2 then some (if i = 0 then r3a else r3b) else none)))))) :: (r3a, xrI X 30 (fun _ => 0)) :: (r3b, xrI X 30 (fun _ => 0)) :: (q1, .inr (2, [.int ((0 : Int32)), .int ((0 : Int32))])) :: (a, .inr (0, [.ref (q1), .ref (q3), .ref (q4), .null])) :: ws0) s H locs := hw
  refine u_putF C hi hw 8 3 rfl rfl ixX0 tyX0 tyX0_ok nmX0 (by decide) kw_71 rfl rfl (tyX0_ok 3 (by decide)) rfl rfl (Nat.le_of_ble_eq_true rfl) dX0_init_44 (fun H locs hw => ?_)
  replace hw : uw X ((q5, xrI X 30 (fun _ => 0)) :: (q4, .inl (X.2.1 1, 2, .inr (.inr (.inr (.inr (fun i => if i < 2 then some (if i = 0 then r4a else r4b) else none)))))) :: (r4a, xrI X 31 (fun _ => 0)) :: (r4b, xrI X 31 (fun _ => 0)) :: (q3, .inl (X.2.1 1, 2, .inr (.inr (.inr (.inr (fun i => if i < 2 then some (if i = 0 then r3a else r3b) else none)))))) :: (r3a, xrI X 30 (fun _ => 0)) :: (r3b, xrI X 30 (fun _ => 0)) :: (q1, .inr (2, [.int ((0 : Int32)), .int ((0 : Int32))])) :: (a, .inr (0, [.ref (q1), .ref (q3), .ref (q4), .ref (q5)])) :: ws0) s H locs := hw
  exact u_vret C (q1, q3, r3a, r3b, q4, r4a, r4b, q5) hw hr hk dX0_init_47
theorem kw_791 : Cond.methodLink RX4 3 Lib.objectInit ∈ gtbl := gm1 28 rfl rfl
theorem kw_792 : Cond.classLink RX4 15 "WordHedges$Border" ∈ gtbl := gm1 29 rfl rfl
theorem kw_793 : Cond.classLink RX4 15 RX0 ∈ gtbl := gm1 29 rfl rfl
theorem kw_794 : Cond.instantiable RX0 4 ∈ gtbl := gm1 31 rfl rfl
theorem kw_795 : Cond.code yX0_init cX0_init 1 none ∈ gtbl := gm1 34 rfl rfl
theorem kw_796 : Cond.instanceMethod yX0_init ∈ gtbl := gm1 33 rfl rfl
theorem nd_X0_init : (yX0_init).cls ≠ "java/lang/invoke/MethodHandle" ∧ (yX0_init).cls ≠ "java/lang/invoke/VarHandle" ∧ (parseMethodDescriptor (yX0_init).desc).map (fun d => d.parameters.length) = some 0 := by decide +kernel
theorem cI_X0_init : xc yX0_init cX0_init 1 none 0 ∧ Cond.instanceMethod yX0_init ∈ gtbl := ⟨⟨kw_795, kw_78, nd_X0_init⟩, kw_796⟩
abbrev rm_X4_init_4 : Room := { frames := 3, cells := 56, slots := 985, locals := 54 }
abbrev S_X4_init_4 : Type := Nat × Nat × Nat × S_X0_init_0 × Nat × S_X0_init_0 × Nat × S_X0_init_0 × Nat × S_X0_init_0 × Nat × S_X0_init_0 × Nat × S_X0_init_0
def bc_X4_init_4 (X : XC) (a : Nat) (u : S_X4_init_4) : va_W := bc_X0_init_0 X u.2.2.2.2.2.2.2.2.2.2.2.2.1 u.2.2.2.2.2.2.2.2.2.2.2.2.2 ++ (bc_X0_init_0 X u.2.2.2.2.2.2.2.2.2.2.1 u.2.2.2.2.2.2.2.2.2.2.2.1 ++ (bc_X0_init_0 X u.2.2.2.2.2.2.2.2.1 u.2.2.2.2.2.2.2.2.2.1 ++ (bc_X0_init_0 X u.2.2.2.2.2.2.1 u.2.2.2.2.2.2.2.1 ++ (bc_X0_init_0 X u.2.2.2.2.1 u.2.2.2.2.2.1 ++ (bc_X0_init_0 X u.2.2.1 u.2.2.2.1 ++ ((u.2.1, .inl (X.2.1 2, 6, .inr (.inr (.inr (.inr (va_up (va_up (va_up (va_up (va_up (va_up (fun _ => none) 0 (some (u.2.2.1))) 1 (some (u.2.2.2.2.1))) 2 (some (u.2.2.2.2.2.2.1))) 3 (some (u.2.2.2.2.2.2.2.2.1))) 4 (some (u.2.2.2.2.2.2.2.2.2.2.1))) 5 (some (u.2.2.2.2.2.2.2.2.2.2.2.2.1)))))))) :: (u.1, xrI X 7 (fun _ => 0)) :: (a, .inr (4, [.ref (u.1), .ref (u.2.1), .int ((0 : Int32))])) :: []))))))
set_option maxHeartbeats 8000000 in
set_option maxRecDepth 100000 in
theorem i_X4_init_4 (l : Launch) (X : XC) (ws0 : va_W) (a : Nat) : uM l X ((a, .inr (4, [.null, .null, .int 0])) :: ws0) yX4_init cX4_init 2 none rm_X4_init_4 [.ref a] (uQ X (fun u : S_X4_init_4 => bc_X4_init_4 X a u ++ ws0)) := by
  refine u_ent (by decide) (Nat.le_of_ble_eq_true rfl) ?_
  intro p e s m below meth c ls C hr hk hi hw hl
  replace hl : lv_has ls 2 [(0, .ref a)] := hl
  generalize hlo : ([] : List Loc) = locs at hw ⊢
  refine lv_aload_n C.1 C.2.1 dX4_init_0 rfl (lv_at hl 0 rfl) ?_
  refine W.objInit C.1 C.2.1 C.2.2.2.1 (C.2.2.2.2 _ kw_791) (C.2.2.2.2 _ kw_767) (C.2.2.2.2 _ kw_768) rfl (by rw [C.2.2.1]; exact hl.1) rfl dX4_init_1 (Nat.le_of_ble_eq_true rfl) (Nat.le_of_ble_eq_true rfl) ?_
  refine W.eq (g2 := F0 m 4 ls []) rfl ?_
  refine lv_aload_n C.1 C.2.1 dX4_init_4 rfl (lv_at hl 0 rfl) ?_
  refine lv_bipush (v := (7 : Int32)) C.1 C.2.1 dX4_init_5 (by decide) ?_
  refine u_newI C hw kw_790 7 (by decide) rfl (by decide) (Nat.le_of_ble_eq_true rfl) (Nat.le_of_ble_eq_true rfl) dX4_init_7 (fun q1 H hw => ?_)
  replace hw := uw_front hw
  replace hw : uw X ((q1, xrI X 7 (fun _ => 0)) :: (a, .inr (4, [.null, .null, .int 0])) :: ws0) s H locs := hw
  refine u_putF C hi hw 1 0 rfl rfl ixX4 tyX4 tyX4_ok nmX4 (by decide) kw_209 rfl rfl (tyX4_ok 0 (by decide)) rfl rfl (Nat.le_of_ble_eq_true rfl) dX4_init_9 (fun H locs hw => ?_)
  replace hw : uw X ((q1, xrI X 7 (fun _ => 0)) :: (a, .inr (4, [.ref (q1), .null, .int 0])) :: ws0) s H locs := hw
  refine lv_aload_n C.1 C.2.1 dX4_init_12 rfl (lv_at hl 0 rfl) ?_
  refine lv_bipush (v := (6 : Int32)) C.1 C.2.1 dX4_init_13 (by decide) ?_
  refine u_newq (Cn := "WordHedges$Border") C hw 2 rfl kw_792 hw.1.1.2.1 6 (by decide) rfl (by decide) (Nat.le_of_ble_eq_true rfl) (Nat.le_of_ble_eq_true rfl) dX4_init_15 (fun q2 H hw => ?_)
  replace hw := uw_front hw
  replace hw : uw X ((q2, .inl (X.2.1 2, 6, .inr (.inr (.inr (.inr (fun _ => none)))))) :: (q1, xrI X 7 (fun _ => 0)) :: (a, .inr (4, [.ref (q1), .null, .int 0])) :: ws0) s H locs := hw
  refine u_putF C hi hw 2 1 rfl rfl ixX4 tyX4 tyX4_ok nmX4 (by decide) kw_184 rfl rfl (tyX4_ok 1 (by decide)) rfl rfl (Nat.le_of_ble_eq_true rfl) dX4_init_18 (fun H locs hw => ?_)
  replace hw : uw X ((q2, .inl (X.2.1 2, 6, .inr (.inr (.inr (.inr (fun _ => none)))))) :: (q1, xrI X 7 (fun _ => 0)) :: (a, .inr (4, [.ref (q1), .ref (q2), .int 0])) :: ws0) s H locs := hw
  refine lv_aload_n C.1 C.2.1 dX4_init_21 rfl (lv_at hl 0 rfl) ?_
  refine lv_iconst (v := (0 : Int32)) C.1 C.2.1 dX4_init_22 (by decide) ?_
  refine u_put C hw 2 2 rfl rfl ixX4 tyX4 tyX4_ok nmX4 (by decide) kw_39 rfl (tyX4_ok 2 (by decide)) rfl rfl (Nat.le_of_ble_eq_true rfl) dX4_init_23 (fun H locs hw => ?_)
  replace hw : uw X ((q2, .inl (X.2.1 2, 6, .inr (.inr (.inr (.inr (fun _ => none)))))) :: (q1, xrI X 7 (fun _ => 0)) :: (a, .inr (4, [.ref (q1), .ref (q2), .int ((0 : Int32))])) :: ws0) s H locs := hw
  refine lv_iconst (v := (0 : Int32)) C.1 C.2.1 dX4_init_26 (by decide) ?_
  refine lv_istore_n (lv' := [(1, .int ((0 : Int32))), (0, .ref (a))]) C.1 C.2.1 dX4_init_27 rfl hl (by decide) rfl (fun ls hl => ?_)
  refine lv_iload_n C.1 C.2.1 dX4_init_28 rfl (lv_at hl 0 rfl) ?_
  refine lv_bipush (v := (6 : Int32)) C.1 C.2.1 dX4_init_29 (by decide) ?_
  refine lv_icmp_ge (tgt := 53) C.1 C.2.1 dX4_init_31 (by decide) (fun c3 => ?_) (fun c3 => ?_)
  · exact absurd c3 (by decide)
  refine lv_aload_n C.1 C.2.1 dX4_init_34 rfl (lv_at hl 1 rfl) ?_
  refine u_get (v := .ref (q2)) C hw 2 1 rfl rfl ixX4 (by decide) kw_184 rfl dX4_init_35 ?_
  refine lv_iload_n C.1 C.2.1 dX4_init_38 rfl (lv_at hl 0 rfl) ?_
  refine u_new (ci := 0) (fs := [.null, .null, .null, .null]) C hw rfl ixX0 tyX0 tyX0_ok kw_793 kw_794 kw_78 (by decide +kernel) (Nat.le_of_ble_eq_true rfl) (Nat.le_of_ble_eq_true rfl) dX4_init_39 (fun q4 H hw => ?_)
  replace hw := uw_front hw
  replace hw : uw X ((q4, .inr (0, [.null, .null, .null, .null])) :: (q2, .inl (X.2.1 2, 6, .inr (.inr (.inr (.inr (fun _ => none)))))) :: (q1, xrI X 7 (fun _ => 0)) :: (a, .inr (4, [.ref (q1), .ref (q2), .int ((0 : Int32))])) :: ws0) s H locs := hw
  refine lv_dup C.1 C.2.1 dX4_init_42 rfl ?_
  refine u_gov hw (u_runIN (As := []) (rest := [.ref (q4), .int ((0 : Int32)), .ref (q2)]) (b := q4) C hw cI_X0_init rfl (List.mem_of_getElem? (i := 0) rfl) (i_X0_init_0 l X ((q2, .inl (X.2.1 2, 6, .inr (.inr (.inr (.inr (fun _ => none)))))) :: (q1, xrI X 7 (fun _ => 0)) :: (a, .inr (4, [.ref (q1), .ref (q2), .int ((0 : Int32))])) :: ws0) q4 ) ⟨(Nat.le_of_ble_eq_true rfl), (Nat.le_of_ble_eq_true rfl)⟩ rfl hl.1 rfl (Nat.le_of_ble_eq_true rfl) dX4_init_43 ⟨(Nat.le_of_ble_eq_true rfl), (Nat.le_of_ble_eq_true rfl)⟩) (fun u5 H locs hw => ?_)
  replace hw : uw X (bc_X0_init_0 X q4 u5 ++ ((q2, .inl (X.2.1 2, 6, .inr (.inr (.inr (.inr (fun _ => none)))))) :: (q1, xrI X 7 (fun _ => 0)) :: (a, .inr (4, [.ref (q1), .ref (q2), .int ((0 : Int32))])) :: ws0)) s H locs := hw
  refine u_astq (Cn := "WordHedges$Border") (ci := 0) C hw 9 2 8 rfl rfl rfl rfl (inB_in (by decide)) dX4_init_46 (fun H locs hw => ?_)
  replace hw : uw X (bc_X0_init_0 X q4 u5 ++ ((q2, .inl (X.2.1 2, 6, .inr (.inr (.inr (.inr (va_up (fun _ => none) 0 (some (q4)))))))) :: (q1, xrI X 7 (fun _ => 0)) :: (a, .inr (4, [.ref (q1), .ref (q2), .int ((0 : Int32))])) :: ws0)) s H locs := hw
  refine lv_iinc (v := (1 : Int32)) (lv' := [(1, .int ((1 : Int32))), (0, .ref (a))]) C.1 C.2.1 dX4_init_47 hl (k := 0) rfl (by decide) (by decide) rfl (fun ls hl => ?_)
  refine lv_goto (tgt := 28) C.1 C.2.1 dX4_init_50 (by decide) ?_
  refine lv_iload_n C.1 C.2.1 dX4_init_28 rfl (lv_at hl 0 rfl) ?_
  refine lv_bipush (v := (6 : Int32)) C.1 C.2.1 dX4_init_29 (by decide) ?_
  refine lv_icmp_ge (tgt := 53) C.1 C.2.1 dX4_init_31 (by decide) (fun c6 => ?_) (fun c6 => ?_)
  · exact absurd c6 (by decide)
  refine lv_aload_n C.1 C.2.1 dX4_init_34 rfl (lv_at hl 1 rfl) ?_
  refine u_get (v := .ref (q2)) C hw 11 1 rfl rfl ixX4 (by decide) kw_184 rfl dX4_init_35 ?_
  refine lv_iload_n C.1 C.2.1 dX4_init_38 rfl (lv_at hl 0 rfl) ?_
  refine u_new (ci := 0) (fs := [.null, .null, .null, .null]) C hw rfl ixX0 tyX0 tyX0_ok kw_793 kw_794 kw_78 (by decide +kernel) (Nat.le_of_ble_eq_true rfl) (Nat.le_of_ble_eq_true rfl) dX4_init_39 (fun q7 H hw => ?_)
  replace hw := uw_front hw
  replace hw : uw X ((q7, .inr (0, [.null, .null, .null, .null])) :: bc_X0_init_0 X q4 u5 ++ ((q2, .inl (X.2.1 2, 6, .inr (.inr (.inr (.inr (va_up (fun _ => none) 0 (some (q4)))))))) :: (q1, xrI X 7 (fun _ => 0)) :: (a, .inr (4, [.ref (q1), .ref (q2), .int ((0 : Int32))])) :: ws0)) s H locs := hw
  refine lv_dup C.1 C.2.1 dX4_init_42 rfl ?_
  refine u_gov hw (u_runIN (As := []) (rest := [.ref (q7), .int ((1 : Int32)), .ref (q2)]) (b := q7) C hw cI_X0_init rfl (List.mem_of_getElem? (i := 0) rfl) (i_X0_init_0 l X (bc_X0_init_0 X q4 u5 ++ ((q2, .inl (X.2.1 2, 6, .inr (.inr (.inr (.inr (va_up (fun _ => none) 0 (some (q4)))))))) :: (q1, xrI X 7 (fun _ => 0)) :: (a, .inr (4, [.ref (q1), .ref (q2), .int ((0 : Int32))])) :: ws0)) q7 ) ⟨(Nat.le_of_ble_eq_true rfl), (Nat.le_of_ble_eq_true rfl)⟩ rfl hl.1 rfl (Nat.le_of_ble_eq_true rfl) dX4_init_43 ⟨(Nat.le_of_ble_eq_true rfl), (Nat.le_of_ble_eq_true rfl)⟩) (fun u8 H locs hw => ?_)
  replace hw : uw X (bc_X0_init_0 X q7 u8 ++ (bc_X0_init_0 X q4 u5 ++ ((q2, .inl (X.2.1 2, 6, .inr (.inr (.inr (.inr (va_up (fun _ => none) 0 (some (q4)))))))) :: (q1, xrI X 7 (fun _ => 0)) :: (a, .inr (4, [.ref (q1), .ref (q2), .int ((0 : Int32))])) :: ws0))) s H locs := hw
  refine u_astq (Cn := "WordHedges$Border") (ci := 0) C hw 18 2 8 rfl rfl rfl rfl (inB_in (by decide)) dX4_init_46 (fun H locs hw => ?_)
  replace hw : uw X (bc_X0_init_0 X q7 u8 ++ (bc_X0_init_0 X q4 u5 ++ ((q2, .inl (X.2.1 2, 6, .inr (.inr (.inr (.inr (va_up (va_up (fun _ => none) 0 (some (q4))) 1 (some (q7)))))))) :: (q1, xrI X 7 (fun _ => 0)) :: (a, .inr (4, [.ref (q1), .ref (q2), .int ((0 : Int32))])) :: ws0))) s H locs := hw
  refine lv_iinc (v := (2 : Int32)) (lv' := [(1, .int ((2 : Int32))), (0, .ref (a))]) C.1 C.2.1 dX4_init_47 hl (k := 0) rfl (by decide) (by decide) rfl (fun ls hl => ?_)
  refine lv_goto (tgt := 28) C.1 C.2.1 dX4_init_50 (by decide) ?_
  refine lv_iload_n C.1 C.2.1 dX4_init_28 rfl (lv_at hl 0 rfl) ?_
  refine lv_bipush (v := (6 : Int32)) C.1 C.2.1 dX4_init_29 (by decide) ?_
  refine lv_icmp_ge (tgt := 53) C.1 C.2.1 dX4_init_31 (by decide) (fun c9 => ?_) (fun c9 => ?_)
  · exact absurd c9 (by decide)
  refine lv_aload_n C.1 C.2.1 dX4_init_34 rfl (lv_at hl 1 rfl) ?_
  refine u_get (v := .ref (q2)) C hw 20 1 rfl rfl ixX4 (by decide) kw_184 rfl dX4_init_35 ?_
  refine lv_iload_n C.1 C.2.1 dX4_init_38 rfl (lv_at hl 0 rfl) ?_
  refine u_new (ci := 0) (fs := [.null, .null, .null, .null]) C hw rfl ixX0 tyX0 tyX0_ok kw_793 kw_794 kw_78 (by decide +kernel) (Nat.le_of_ble_eq_true rfl) (Nat.le_of_ble_eq_true rfl) dX4_init_39 (fun q10 H hw => ?_)
  replace hw := uw_front hw
  replace hw : uw X ((q10, .inr (0, [.null, .null, .null, .null])) :: bc_X0_init_0 X q7 u8 ++ (bc_X0_init_0 X q4 u5 ++ ((q2, .inl (X.2.1 2, 6, .inr (.inr (.inr (.inr (va_up (va_up (fun _ => none) 0 (some (q4))) 1 (some (q7)))))))) :: (q1, xrI X 7 (fun _ => 0)) :: (a, .inr (4, [.ref (q1), .ref (q2), .int ((0 : Int32))])) :: ws0))) s H locs := hw
  refine lv_dup C.1 C.2.1 dX4_init_42 rfl ?_
  refine u_gov hw (u_runIN (As := []) (rest := [.ref (q10), .int ((2 : Int32)), .ref (q2)]) (b := q10) C hw cI_X0_init rfl (List.mem_of_getElem? (i := 0) rfl) (i_X0_init_0 l X (bc_X0_init_0 X q7 u8 ++ (bc_X0_init_0 X q4 u5 ++ ((q2, .inl (X.2.1 2, 6, .inr (.inr (.inr (.inr (va_up (va_up (fun _ => none) 0 (some (q4))) 1 (some (q7)))))))) :: (q1, xrI X 7 (fun _ => 0)) :: (a, .inr (4, [.ref (q1), .ref (q2), .int ((0 : Int32))])) :: ws0))) q10 ) ⟨(Nat.le_of_ble_eq_true rfl), (Nat.le_of_ble_eq_true rfl)⟩ rfl hl.1 rfl (Nat.le_of_ble_eq_true rfl) dX4_init_43 ⟨(Nat.le_of_ble_eq_true rfl), (Nat.le_of_ble_eq_true rfl)⟩) (fun u11 H locs hw => ?_)
  replace hw : uw X (bc_X0_init_0 X q10 u11 ++ (bc_X0_init_0 X q7 u8 ++ (bc_X0_init_0 X q4 u5 ++ ((q2, .inl (X.2.1 2, 6, .inr (.inr (.inr (.inr (va_up (va_up (fun _ => none) 0 (some (q4))) 1 (some (q7)))))))) :: (q1, xrI X 7 (fun _ => 0)) :: (a, .inr (4, [.ref (q1), .ref (q2), .int ((0 : Int32))])) :: ws0)))) s H locs := hw
  refine u_astq (Cn := "WordHedges$Border") (ci := 0) C hw 27 2 8 rfl rfl rfl rfl (inB_in (by decide)) dX4_init_46 (fun H locs hw => ?_)
  replace hw : uw X (bc_X0_init_0 X q10 u11 ++ (bc_X0_init_0 X q7 u8 ++ (bc_X0_init_0 X q4 u5 ++ ((q2, .inl (X.2.1 2, 6, .inr (.inr (.inr (.inr (va_up (va_up (va_up (fun _ => none) 0 (some (q4))) 1 (some (q7))) 2 (some (q10)))))))) :: (q1, xrI X 7 (fun _ => 0)) :: (a, .inr (4, [.ref (q1), .ref (q2), .int ((0 : Int32))])) :: ws0)))) s H locs := hw
  refine lv_iinc (v := (3 : Int32)) (lv' := [(1, .int ((3 : Int32))), (0, .ref (a))]) C.1 C.2.1 dX4_init_47 hl (k := 0) rfl (by decide) (by decide) rfl (fun ls hl => ?_)
  refine lv_goto (tgt := 28) C.1 C.2.1 dX4_init_50 (by decide) ?_
  refine lv_iload_n C.1 C.2.1 dX4_init_28 rfl (lv_at hl 0 rfl) ?_
  refine lv_bipush (v := (6 : Int32)) C.1 C.2.1 dX4_init_29 (by decide) ?_
  refine lv_icmp_ge (tgt := 53) C.1 C.2.1 dX4_init_31 (by decide) (fun c12 => ?_) (fun c12 => ?_)
  · exact absurd c12 (by decide)
  refine lv_aload_n C.1 C.2.1 dX4_init_34 rfl (lv_at hl 1 rfl) ?_
  refine u_get (v := .ref (q2)) C hw 29 1 rfl rfl ixX4 (by decide) kw_184 rfl dX4_init_35 ?_
  refine lv_iload_n C.1 C.2.1 dX4_init_38 rfl (lv_at hl 0 rfl) ?_
  refine u_new (ci := 0) (fs := [.null, .null, .null, .null]) C hw rfl ixX0 tyX0 tyX0_ok kw_793 kw_794 kw_78 (by decide +kernel) (Nat.le_of_ble_eq_true rfl) (Nat.le_of_ble_eq_true rfl) dX4_init_39 (fun q13 H hw => ?_)
  replace hw := uw_front hw
  replace hw : uw X ((q13, .inr (0, [.null, .null, .null, .null])) :: bc_X0_init_0 X q10 u11 ++ (bc_X0_init_0 X q7 u8 ++ (bc_X0_init_0 X q4 u5 ++ ((q2, .inl (X.2.1 2, 6, .inr (.inr (.inr (.inr (va_up (va_up (va_up (fun _ => none) 0 (some (q4))) 1 (some (q7))) 2 (some (q10)))))))) :: (q1, xrI X 7 (fun _ => 0)) :: (a, .inr (4, [.ref (q1), .ref (q2), .int ((0 : Int32))])) :: ws0)))) s H locs := hw
  refine lv_dup C.1 C.2.1 dX4_init_42 rfl ?_
  refine u_gov hw (u_runIN (As := []) (rest := [.ref (q13), .int ((3 : Int32)), .ref (q2)]) (b := q13) C hw cI_X0_init rfl (List.mem_of_getElem? (i := 0) rfl) (i_X0_init_0 l X (bc_X0_init_0 X q10 u11 ++ (bc_X0_init_0 X q7 u8 ++ (bc_X0_init_0 X q4 u5 ++ ((q2, .inl (X.2.1 2, 6, .inr (.inr (.inr (.inr (va_up (va_up (va_up (fun _ => none) 0 (some (q4))) 1 (some (q7))) 2 (some (q10)))))))) :: (q1, xrI X 7 (fun _ => 0)) :: (a, .inr (4, [.ref (q1), .ref (q2), .int ((0 : Int32))])) :: ws0)))) q13 ) ⟨(Nat.le_of_ble_eq_true rfl), (Nat.le_of_ble_eq_true rfl)⟩ rfl hl.1 rfl (Nat.le_of_ble_eq_true rfl) dX4_init_43 ⟨(Nat.le_of_ble_eq_true rfl), (Nat.le_of_ble_eq_true rfl)⟩) (fun u14 H locs hw => ?_)
  replace hw : uw X (bc_X0_init_0 X q13 u14 ++ (bc_X0_init_0 X q10 u11 ++ (bc_X0_init_0 X q7 u8 ++ (bc_X0_init_0 X q4 u5 ++ ((q2, .inl (X.2.1 2, 6, .inr (.inr (.inr (.inr (va_up (va_up (va_up (fun _ => none) 0 (some (q4))) 1 (some (q7))) 2 (some (q10)))))))) :: (q1, xrI X 7 (fun _ => 0)) :: (a, .inr (4, [.ref (q1), .ref (q2), .int ((0 : Int32))])) :: ws0))))) s H locs := hw
  refine u_astq (Cn := "WordHedges$Border") (ci := 0) C hw 36 2 8 rfl rfl rfl rfl (inB_in (by decide)) dX4_init_46 (fun H locs hw => ?_)
  replace hw : uw X (bc_X0_init_0 X q13 u14 ++ (bc_X0_init_0 X q10 u11 ++ (bc_X0_init_0 X q7 u8 ++ (bc_X0_init_0 X q4 u5 ++ ((q2, .inl (X.2.1 2, 6, .inr (.inr (.inr (.inr (va_up (va_up (va_up (va_up (fun _ => none) 0 (some (q4))) 1 (some (q7))) 2 (some (q10))) 3 (some (q13)))))))) :: (q1, xrI X 7 (fun _ => 0)) :: (a, .inr (4, [.ref (q1), .ref (q2), .int ((0 : Int32))])) :: ws0))))) s H locs := hw
  refine lv_iinc (v := (4 : Int32)) (lv' := [(1, .int ((4 : Int32))), (0, .ref (a))]) C.1 C.2.1 dX4_init_47 hl (k := 0) rfl (by decide) (by decide) rfl (fun ls hl => ?_)
  refine lv_goto (tgt := 28) C.1 C.2.1 dX4_init_50 (by decide) ?_
  refine lv_iload_n C.1 C.2.1 dX4_init_28 rfl (lv_at hl 0 rfl) ?_
  refine lv_bipush (v := (6 : Int32)) C.1 C.2.1 dX4_init_29 (by decide) ?_
  refine lv_icmp_ge (tgt := 53) C.1 C.2.1 dX4_init_31 (by decide) (fun c15 => ?_) (fun c15 => ?_)
  · exact absurd c15 (by decide)
  refine lv_aload_n C.1 C.2.1 dX4_init_34 rfl (lv_at hl 1 rfl) ?_
  refine u_get (v := .ref (q2)) C hw 38 1 rfl rfl ixX4 (by decide) kw_184 rfl dX4_init_35 ?_
  refine lv_iload_n C.1 C.2.1 dX4_init_38 rfl (lv_at hl 0 rfl) ?_
  refine u_new (ci := 0) (fs := [.null, .null, .null, .null]) C hw rfl ixX0 tyX0 tyX0_ok kw_793 kw_794 kw_78 (by decide +kernel) (Nat.le_of_ble_eq_true rfl) (Nat.le_of_ble_eq_true rfl) dX4_init_39 (fun q16 H hw => ?_)
  replace hw := uw_front hw
  replace hw : uw X ((q16, .inr (0, [.null, .null, .null, .null])) :: bc_X0_init_0 X q13 u14 ++ (bc_X0_init_0 X q10 u11 ++ (bc_X0_init_0 X q7 u8 ++ (bc_X0_init_0 X q4 u5 ++ ((q2, .inl (X.2.1 2, 6, .inr (.inr (.inr (.inr (va_up (va_up (va_up (va_up (fun _ => none) 0 (some (q4))) 1 (some (q7))) 2 (some (q10))) 3 (some (q13)))))))) :: (q1, xrI X 7 (fun _ => 0)) :: (a, .inr (4, [.ref (q1), .ref (q2), .int ((0 : Int32))])) :: ws0))))) s H locs := hw
  refine lv_dup C.1 C.2.1 dX4_init_42 rfl ?_
  refine u_gov hw (u_runIN (As := []) (rest := [.ref (q16), .int ((4 : Int32)), .ref (q2)]) (b := q16) C hw cI_X0_init rfl (List.mem_of_getElem? (i := 0) rfl) (i_X0_init_0 l X (bc_X0_init_0 X q13 u14 ++ (bc_X0_init_0 X q10 u11 ++ (bc_X0_init_0 X q7 u8 ++ (bc_X0_init_0 X q4 u5 ++ ((q2, .inl (X.2.1 2, 6, .inr (.inr (.inr (.inr (va_up (va_up (va_up (va_up (fun _ => none) 0 (some (q4))) 1 (some (q7))) 2 (some (q10))) 3 (some (q13)))))))) :: (q1, xrI X 7 (fun _ => 0)) :: (a, .inr (4, [.ref (q1), .ref (q2), .int ((0 : Int32))])) :: ws0))))) q16 ) ⟨(Nat.le_of_ble_eq_true rfl), (Nat.le_of_ble_eq_true rfl)⟩ rfl hl.1 rfl (Nat.le_of_ble_eq_true rfl) dX4_init_43 ⟨(Nat.le_of_ble_eq_true rfl), (Nat.le_of_ble_eq_true rfl)⟩) (fun u17 H locs hw => ?_)
  replace hw : uw X (bc_X0_init_0 X q16 u17 ++ (bc_X0_init_0 X q13 u14 ++ (bc_X0_init_0 X q10 u11 ++ (bc_X0_init_0 X q7 u8 ++ (bc_X0_init_0 X q4 u5 ++ ((q2, .inl (X.2.1 2, 6, .inr (.inr (.inr (.inr (va_up (va_up (va_up (va_up (fun _ => none) 0 (some (q4))) 1 (some (q7))) 2 (some (q10))) 3 (some (q13)))))))) :: (q1, xrI X 7 (fun _ => 0)) :: (a, .inr (4, [.ref (q1), .ref (q2), .int ((0 : Int32))])) :: ws0)))))) s H locs := hw
  refine u_astq (Cn := "WordHedges$Border") (ci := 0) C hw 45 2 8 rfl rfl rfl rfl (inB_in (by decide)) dX4_init_46 (fun H locs hw => ?_)
  replace hw : uw X (bc_X0_init_0 X q16 u17 ++ (bc_X0_init_0 X q13 u14 ++ (bc_X0_init_0 X q10 u11 ++ (bc_X0_init_0 X q7 u8 ++ (bc_X0_init_0 X q4 u5 ++ ((q2, .inl (X.2.1 2, 6, .inr (.inr (.inr (.inr (va_up (va_up (va_up (va_up (va_up (fun _ => none) 0 (some (q4))) 1 (some (q7))) 2 (some (q10))) 3 (some (q13))) 4 (some (q16)))))))) :: (q1, xrI X 7 (fun _ => 0)) :: (a, .inr (4, [.ref (q1), .ref (q2), .int ((0 : Int32))])) :: ws0)))))) s H locs := hw
  refine lv_iinc (v := (5 : Int32)) (lv' := [(1, .int ((5 : Int32))), (0, .ref (a))]) C.1 C.2.1 dX4_init_47 hl (k := 0) rfl (by decide) (by decide) rfl (fun ls hl => ?_)
  refine lv_goto (tgt := 28) C.1 C.2.1 dX4_init_50 (by decide) ?_
  refine lv_iload_n C.1 C.2.1 dX4_init_28 rfl (lv_at hl 0 rfl) ?_
  refine lv_bipush (v := (6 : Int32)) C.1 C.2.1 dX4_init_29 (by decide) ?_
  refine lv_icmp_ge (tgt := 53) C.1 C.2.1 dX4_init_31 (by decide) (fun c18 => ?_) (fun c18 => ?_)
  · exact absurd c18 (by decide)
  refine lv_aload_n C.1 C.2.1 dX4_init_34 rfl (lv_at hl 1 rfl) ?_
  refine u_get (v := .ref (q2)) C hw 47 1 rfl rfl ixX4 (by decide) kw_184 rfl dX4_init_35 ?_
  refine lv_iload_n C.1 C.2.1 dX4_init_38 rfl (lv_at hl 0 rfl) ?_
  refine u_new (ci := 0) (fs := [.null, .null, .null, .null]) C hw rfl ixX0 tyX0 tyX0_ok kw_793 kw_794 kw_78 (by decide +kernel) (Nat.le_of_ble_eq_true rfl) (Nat.le_of_ble_eq_true rfl) dX4_init_39 (fun q19 H hw => ?_)
  replace hw := uw_front hw
  replace hw : uw X ((q19, .inr (0, [.null, .null, .null, .null])) :: bc_X0_init_0 X q16 u17 ++ (bc_X0_init_0 X q13 u14 ++ (bc_X0_init_0 X q10 u11 ++ (bc_X0_init_0 X q7 u8 ++ (bc_X0_init_0 X q4 u5 ++ ((q2, .inl (X.2.1 2, 6, .inr (.inr (.inr (.inr (va_up (va_up (va_up (va_up (va_up (fun _ => none) 0 (some (q4))) 1 (some (q7))) 2 (some (q10))) 3 (some (q13))) 4 (some (q16)))))))) :: (q1, xrI X 7 (fun _ => 0)) :: (a, .inr (4, [.ref (q1), .ref (q2), .int ((0 : Int32))])) :: ws0)))))) s H locs := hw
  refine lv_dup C.1 C.2.1 dX4_init_42 rfl ?_
  refine u_gov hw (u_runIN (As := []) (rest := [.ref (q19), .int ((5 : Int32)), .ref (q2)]) (b := q19) C hw cI_X0_init rfl (List.mem_of_getElem? (i := 0) rfl) (i_X0_init_0 l X (bc_X0_init_0 X q16 u17 ++ (bc_X0_init_0 X q13 u14 ++ (bc_X0_init_0 X q10 u11 ++ (bc_X0_init_0 X q7 u8 ++ (bc_X0_init_0 X q4 u5 ++ ((q2, .inl (X.2.1 2, 6, .inr (.inr (.inr (.inr (va_up (va_up (va_up (va_up (va_up (fun _ => none) 0 (some (q4))) 1 (some (q7))) 2 (some (q10))) 3 (some (q13))) 4 (some (q16)))))))) :: (q1, xrI X 7 (fun _ => 0)) :: (a, .inr (4, [.ref (q1), .ref (q2), .int ((0 : Int32))])) :: ws0)))))) q19 ) ⟨(Nat.le_of_ble_eq_true rfl), (Nat.le_of_ble_eq_true rfl)⟩ rfl hl.1 rfl (Nat.le_of_ble_eq_true rfl) dX4_init_43 ⟨(Nat.le_of_ble_eq_true rfl), (Nat.le_of_ble_eq_true rfl)⟩) (fun u20 H locs hw => ?_)
  replace hw : uw X (bc_X0_init_0 X q19 u20 ++ (bc_X0_init_0 X q16 u17 ++ (bc_X0_init_0 X q13 u14 ++ (bc_X0_init_0 X q10 u11 ++ (bc_X0_init_0 X q7 u8 ++ (bc_X0_init_0 X q4 u5 ++ ((q2, .inl (X.2.1 2, 6, .inr (.inr (.inr (.inr (va_up (va_up (va_up (va_up (va_up (fun _ => none) 0 (some (q4))) 1 (some (q7))) 2 (some (q10))) 3 (some (q13))) 4 (some (q16)))))))) :: (q1, xrI X 7 (fun _ => 0)) :: (a, .inr (4, [.ref (q1), .ref (q2), .int ((0 : Int32))])) :: ws0))))))) s H locs := hw
  refine u_astq (Cn := "WordHedges$Border") (ci := 0) C hw 54 2 8 rfl rfl rfl rfl (inB_in (by decide)) dX4_init_46 (fun H locs hw => ?_)
  replace hw : uw X (bc_X0_init_0 X q19 u20 ++ (bc_X0_init_0 X q16 u17 ++ (bc_X0_init_0 X q13 u14 ++ (bc_X0_init_0 X q10 u11 ++ (bc_X0_init_0 X q7 u8 ++ (bc_X0_init_0 X q4 u5 ++ ((q2, .inl (X.2.1 2, 6, .inr (.inr (.inr (.inr (va_up (va_up (va_up (va_up (va_up (va_up (fun _ => none) 0 (some (q4))) 1 (some (q7))) 2 (some (q10))) 3 (some (q13))) 4 (some (q16))) 5 (some (q19)))))))) :: (q1, xrI X 7 (fun _ => 0)) :: (a, .inr (4, [.ref (q1), .ref (q2), .int ((0 : Int32))])) :: ws0))))))) s H locs := hw
  refine lv_iinc (v := (6 : Int32)) (lv' := [(1, .int ((6 : Int32))), (0, .ref (a))]) C.1 C.2.1 dX4_init_47 hl (k := 0) rfl (by decide) (by decide) rfl (fun ls hl => ?_)
  refine lv_goto (tgt := 28) C.1 C.2.1 dX4_init_50 (by decide) ?_
  refine lv_iload_n C.1 C.2.1 dX4_init_28 rfl (lv_at hl 0 rfl) ?_
  refine lv_bipush (v := (6 : Int32)) C.1 C.2.1 dX4_init_29 (by decide) ?_
  refine lv_icmp_ge (tgt := 53) C.1 C.2.1 dX4_init_31 (by decide) (fun c21 => ?_) (fun c21 => ?_)
  rotate_left
  · exact absurd (by decide) c21
  exact u_vret C (q1, q2, q4, u5, q7, u8, q10, u11, q13, u14, q16, u17, q19, u20) hw hr hk dX4_init_53
theorem kw_799 : Cond.methodLink RX3 3 Lib.objectInit ∈ gtbl := gm1 91 rfl rfl
abbrev rm_X3_init_3 : Room := { frames := 1, cells := 4, slots := 40, locals := 12 }
abbrev S_X3_init_3 : Type := Nat × Nat × Nat × Nat
def bc_X3_init_3 (X : XC) (a : Nat) (u : S_X3_init_3) : va_W := (u.2.2.2, xrI X 10 (fun _ => 0)) :: (u.2.2.1, xrI X 10 (fun _ => 0)) :: (u.2.1, xrI X 10 (fun _ => 0)) :: (u.1, xrI X 10 (fun _ => 0)) :: (a, .inr (3, [.ref (u.1), .ref (u.2.1), .ref (u.2.2.1), .ref (u.2.2.2), .int ((0 : Int32))])) :: []
set_option maxHeartbeats 8000000 in
set_option maxRecDepth 100000 in
theorem i_X3_init_3 (l : Launch) (X : XC) (ws0 : va_W) (a : Nat) : uM l X ((a, .inr (3, [.null, .null, .null, .null, .int 0])) :: ws0) yX3_init cX3_init 1 none rm_X3_init_3 [.ref a] (uQ X (fun u : S_X3_init_3 => bc_X3_init_3 X a u ++ ws0)) := by
  refine u_ent (by decide) (Nat.le_of_ble_eq_true rfl) ?_
  intro p e s m below meth c ls C hr hk hi hw hl
  replace hl : lv_has ls 1 [(0, .ref a)] := hl
  generalize hlo : ([] : List Loc) = locs at hw ⊢
  refine lv_aload_n C.1 C.2.1 dX3_init_0 rfl (lv_at hl 0 rfl) ?_
  refine W.objInit C.1 C.2.1 C.2.2.2.1 (C.2.2.2.2 _ kw_799) (C.2.2.2.2 _ kw_767) (C.2.2.2.2 _ kw_768) rfl (by rw [C.2.2.1]; exact hl.1) rfl dX3_init_1 (Nat.le_of_ble_eq_true rfl) (Nat.le_of_ble_eq_true rfl) ?_
  refine W.eq (g2 := F0 m 4 ls []) rfl ?_
  refine lv_aload_n C.1 C.2.1 dX3_init_4 rfl (lv_at hl 0 rfl) ?_
  refine lv_bipush (v := (10 : Int32)) C.1 C.2.1 dX3_init_5 (by decide) ?_
  refine u_newI C hw kw_790 10 (by decide) rfl (by decide) (Nat.le_of_ble_eq_true rfl) (Nat.le_of_ble_eq_true rfl) dX3_init_7 (fun q1 H hw => ?_)
  replace hw := uw_front hw
  replace hw : uw X ((q1, xrI X 10 (fun _ => 0)) :: (a, .inr (3, [.null, .null, .null, .null, .int 0])) :: ws0) s H locs := hw
  refine u_putF C hi hw 1 0 rfl rfl ixX3 tyX3 tyX3_ok nmX3 (by decide) kw_238 rfl rfl (tyX3_ok 0 (by decide)) rfl rfl (Nat.le_of_ble_eq_true rfl) dX3_init_9 (fun H locs hw => ?_)
  replace hw : uw X ((q1, xrI X 10 (fun _ => 0)) :: (a, .inr (3, [.ref (q1), .null, .null, .null, .int 0])) :: ws0) s H locs := hw
  refine lv_aload_n C.1 C.2.1 dX3_init_12 rfl (lv_at hl 0 rfl) ?_
  refine lv_bipush (v := (10 : Int32)) C.1 C.2.1 dX3_init_13 (by decide) ?_
  refine u_newI C hw kw_790 10 (by decide) rfl (by decide) (Nat.le_of_ble_eq_true rfl) (Nat.le_of_ble_eq_true rfl) dX3_init_15 (fun q2 H hw => ?_)
  replace hw := uw_front hw
  replace hw : uw X ((q2, xrI X 10 (fun _ => 0)) :: (q1, xrI X 10 (fun _ => 0)) :: (a, .inr (3, [.ref (q1), .null, .null, .null, .int 0])) :: ws0) s H locs := hw
  refine u_putF C hi hw 2 1 rfl rfl ixX3 tyX3 tyX3_ok nmX3 (by decide) kw_241 rfl rfl (tyX3_ok 1 (by decide)) rfl rfl (Nat.le_of_ble_eq_true rfl) dX3_init_17 (fun H locs hw => ?_)
  replace hw : uw X ((q2, xrI X 10 (fun _ => 0)) :: (q1, xrI X 10 (fun _ => 0)) :: (a, .inr (3, [.ref (q1), .ref (q2), .null, .null, .int 0])) :: ws0) s H locs := hw
  refine lv_aload_n C.1 C.2.1 dX3_init_20 rfl (lv_at hl 0 rfl) ?_
  refine lv_bipush (v := (10 : Int32)) C.1 C.2.1 dX3_init_21 (by decide) ?_
  refine u_newI C hw kw_790 10 (by decide) rfl (by decide) (Nat.le_of_ble_eq_true rfl) (Nat.le_of_ble_eq_true rfl) dX3_init_23 (fun q3 H hw => ?_)
  replace hw := uw_front hw
  replace hw : uw X ((q3, xrI X 10 (fun _ => 0)) :: (q2, xrI X 10 (fun _ => 0)) :: (q1, xrI X 10 (fun _ => 0)) :: (a, .inr (3, [.ref (q1), .ref (q2), .null, .null, .int 0])) :: ws0) s H locs := hw
  refine u_putF C hi hw 3 2 rfl rfl ixX3 tyX3 tyX3_ok nmX3 (by decide) kw_243 rfl rfl (tyX3_ok 2 (by decide)) rfl rfl (Nat.le_of_ble_eq_true rfl) dX3_init_25 (fun H locs hw => ?_)
  replace hw : uw X ((q3, xrI X 10 (fun _ => 0)) :: (q2, xrI X 10 (fun _ => 0)) :: (q1, xrI X 10 (fun _ => 0)) :: (a, .inr (3, [.ref (q1), .ref (q2), .ref (q3), .null, .int 0])) :: ws0) s H locs := hw
  refine lv_aload_n C.1 C.2.1 dX3_init_28 rfl (lv_at hl 0 rfl) ?_
  refine lv_bipush (v := (10 : Int32)) C.1 C.2.1 dX3_init_29 (by decide) ?_
  refine u_newI C hw kw_790 10 (by decide) rfl (by decide) (Nat.le_of_ble_eq_true rfl) (Nat.le_of_ble_eq_true rfl) dX3_init_31 (fun q4 H hw => ?_)
  replace hw := uw_front hw
  replace hw : uw X ((q4, xrI X 10 (fun _ => 0)) :: (q3, xrI X 10 (fun _ => 0)) :: (q2, xrI X 10 (fun _ => 0)) :: (q1, xrI X 10 (fun _ => 0)) :: (a, .inr (3, [.ref (q1), .ref (q2), .ref (q3), .null, .int 0])) :: ws0) s H locs := hw
  refine u_putF C hi hw 4 3 rfl rfl ixX3 tyX3 tyX3_ok nmX3 (by decide) kw_245 rfl rfl (tyX3_ok 3 (by decide)) rfl rfl (Nat.le_of_ble_eq_true rfl) dX3_init_33 (fun H locs hw => ?_)
  replace hw : uw X ((q4, xrI X 10 (fun _ => 0)) :: (q3, xrI X 10 (fun _ => 0)) :: (q2, xrI X 10 (fun _ => 0)) :: (q1, xrI X 10 (fun _ => 0)) :: (a, .inr (3, [.ref (q1), .ref (q2), .ref (q3), .ref (q4), .int 0])) :: ws0) s H locs := hw
  refine lv_aload_n C.1 C.2.1 dX3_init_36 rfl (lv_at hl 0 rfl) ?_
  refine lv_iconst (v := (0 : Int32)) C.1 C.2.1 dX3_init_37 (by decide) ?_
  refine u_put C hw 4 4 rfl rfl ixX3 tyX3 tyX3_ok nmX3 (by decide) kw_84 rfl (tyX3_ok 4 (by decide)) rfl rfl (Nat.le_of_ble_eq_true rfl) dX3_init_38 (fun H locs hw => ?_)
  replace hw : uw X ((q4, xrI X 10 (fun _ => 0)) :: (q3, xrI X 10 (fun _ => 0)) :: (q2, xrI X 10 (fun _ => 0)) :: (q1, xrI X 10 (fun _ => 0)) :: (a, .inr (3, [.ref (q1), .ref (q2), .ref (q3), .ref (q4), .int ((0 : Int32))])) :: ws0) s H locs := hw
  exact u_vret C (q1, q2, q3, q4) hw hr hk dX3_init_41
theorem kw_800 : Cond.methodLink RX7 1 Lib.objectInit ∈ gtbl := gm1 114 rfl rfl
abbrev rm_X7_init_6 : Room := { frames := 1, cells := 0, slots := 0, locals := 12 }
set_option maxHeartbeats 8000000 in
set_option maxRecDepth 100000 in
theorem i_X7_init_6 (l : Launch) (X : XC) (ws0 : va_W) (a : Nat) : uM l X ((a, .inr (6, [.int 0])) :: ws0) yX7_init cX7_init 1 none rm_X7_init_6 [.ref a] (uQ X (fun _ : Unit => (a, .inr (6, [.int ((0 : Int32))])) :: ws0)) := by
  refine u_ent (by decide) (Nat.le_of_ble_eq_true rfl) ?_
  intro p e s m below meth c ls C hr hk hi hw hl
  replace hl : lv_has ls 1 [(0, .ref a)] := hl
  generalize hlo : ([] : List Loc) = locs at hw ⊢
  refine lv_aload_n C.1 C.2.1 dX7_init_0 rfl (lv_at hl 0 rfl) ?_
  refine W.objInit C.1 C.2.1 C.2.2.2.1 (C.2.2.2.2 _ kw_800) (C.2.2.2.2 _ kw_767) (C.2.2.2.2 _ kw_768) rfl (by rw [C.2.2.1]; exact hl.1) rfl dX7_init_1 (Nat.le_of_ble_eq_true rfl) (Nat.le_of_ble_eq_true rfl) ?_
  refine W.eq (g2 := F0 m 4 ls []) rfl ?_
  refine lv_aload_n C.1 C.2.1 dX7_init_4 rfl (lv_at hl 0 rfl) ?_
  refine lv_iconst (v := (0 : Int32)) C.1 C.2.1 dX7_init_5 (by decide) ?_
  refine u_put C hw 0 0 rfl rfl ixX7 tyX7 tyX7_ok nmX7 (by decide) kw_419 rfl (tyX7_ok 0 (by decide)) rfl rfl (Nat.le_of_ble_eq_true rfl) dX7_init_6 (fun H locs hw => ?_)
  replace hw : uw X ((a, .inr (6, [.int ((0 : Int32))])) :: ws0) s H locs := hw
  exact u_vret C () hw hr hk dX7_init_9
theorem kw_801 : Cond.methodLink RX5 3 Lib.objectInit ∈ gtbl := gm1 126 rfl rfl
abbrev rm_X5_init_5 : Room := { frames := 1, cells := 1, slots := 60, locals := 12 }
abbrev S_X5_init_5 : Type := Nat
def bc_X5_init_5 (X : XC) (a : Nat) (u : S_X5_init_5) : va_W := (u, xrI X 60 (fun _ => 0)) :: (a, .inr (5, [.ref (u), .int ((-1 : Int32)), .int ((0 : Int32))])) :: []
set_option maxHeartbeats 8000000 in
set_option maxRecDepth 100000 in
theorem i_X5_init_5 (l : Launch) (X : XC) (ws0 : va_W) (a : Nat) : uM l X ((a, .inr (5, [.null, .int 0, .int 0])) :: ws0) yX5_init cX5_init 1 none rm_X5_init_5 [.ref a] (uQ X (fun u : S_X5_init_5 => bc_X5_init_5 X a u ++ ws0)) := by
  refine u_ent (by decide) (Nat.le_of_ble_eq_true rfl) ?_
  intro p e s m below meth c ls C hr hk hi hw hl
  replace hl : lv_has ls 1 [(0, .ref a)] := hl
  generalize hlo : ([] : List Loc) = locs at hw ⊢
  refine lv_aload_n C.1 C.2.1 dX5_init_0 rfl (lv_at hl 0 rfl) ?_
  refine W.objInit C.1 C.2.1 C.2.2.2.1 (C.2.2.2.2 _ kw_801) (C.2.2.2.2 _ kw_767) (C.2.2.2.2 _ kw_768) rfl (by rw [C.2.2.1]; exact hl.1) rfl dX5_init_1 (Nat.le_of_ble_eq_true rfl) (Nat.le_of_ble_eq_true rfl) ?_
  refine W.eq (g2 := F0 m 4 ls []) rfl ?_
  refine lv_aload_n C.1 C.2.1 dX5_init_4 rfl (lv_at hl 0 rfl) ?_
  refine lv_bipush (v := (60 : Int32)) C.1 C.2.1 dX5_init_5 (by decide) ?_
  refine u_newI C hw kw_790 60 (by decide) rfl (by decide) (Nat.le_of_ble_eq_true rfl) (Nat.le_of_ble_eq_true rfl) dX5_init_7 (fun q1 H hw => ?_)
  replace hw := uw_front hw
  replace hw : uw X ((q1, xrI X 60 (fun _ => 0)) :: (a, .inr (5, [.null, .int 0, .int 0])) :: ws0) s H locs := hw
  refine u_putF C hi hw 1 0 rfl rfl ixX5 tyX5 tyX5_ok nmX5 (by decide) kw_344 rfl rfl (tyX5_ok 0 (by decide)) rfl rfl (Nat.le_of_ble_eq_true rfl) dX5_init_9 (fun H locs hw => ?_)
  replace hw : uw X ((q1, xrI X 60 (fun _ => 0)) :: (a, .inr (5, [.ref (q1), .int 0, .int 0])) :: ws0) s H locs := hw
  refine lv_aload_n C.1 C.2.1 dX5_init_12 rfl (lv_at hl 0 rfl) ?_
  refine lv_iconst (v := (-1 : Int32)) C.1 C.2.1 dX5_init_13 (by decide) ?_
  refine u_put C hw 1 1 rfl rfl ixX5 tyX5 tyX5_ok nmX5 (by decide) kw_6 rfl (tyX5_ok 1 (by decide)) rfl rfl (Nat.le_of_ble_eq_true rfl) dX5_init_14 (fun H locs hw => ?_)
  replace hw : uw X ((q1, xrI X 60 (fun _ => 0)) :: (a, .inr (5, [.ref (q1), .int ((-1 : Int32)), .int 0])) :: ws0) s H locs := hw
  refine lv_aload_n C.1 C.2.1 dX5_init_17 rfl (lv_at hl 0 rfl) ?_
  refine lv_iconst (v := (0 : Int32)) C.1 C.2.1 dX5_init_18 (by decide) ?_
  refine u_put C hw 1 2 rfl rfl ixX5 tyX5 tyX5_ok nmX5 (by decide) kw_10 rfl (tyX5_ok 2 (by decide)) rfl rfl (Nat.le_of_ble_eq_true rfl) dX5_init_19 (fun H locs hw => ?_)
  replace hw : uw X ((q1, xrI X 60 (fun _ => 0)) :: (a, .inr (5, [.ref (q1), .int ((-1 : Int32)), .int ((0 : Int32))])) :: ws0) s H locs := hw
  exact u_vret C (q1) hw hr hk dX5_init_22
theorem kw_802 : Cond.methodLink RX9 3 Lib.objectInit ∈ gtbl := gm1 20 rfl rfl
theorem kw_803 : Cond.classLink RX9 9 RX4 ∈ gtbl := gm1 23 rfl rfl
theorem kw_804 : Cond.instantiable RX4 3 ∈ gtbl := gm1 24 rfl rfl
theorem kw_805 : Cond.code yX4_init cX4_init 2 none ∈ gtbl := gm1 27 rfl rfl
theorem kw_806 : Cond.instanceMethod yX4_init ∈ gtbl := gm1 26 rfl rfl
theorem nd_X4_init : (yX4_init).cls ≠ "java/lang/invoke/MethodHandle" ∧ (yX4_init).cls ≠ "java/lang/invoke/VarHandle" ∧ (parseMethodDescriptor (yX4_init).desc).map (fun d => d.parameters.length) = some 0 := by decide +kernel
theorem cI_X4_init : xc yX4_init cX4_init 2 none 0 ∧ Cond.instanceMethod yX4_init ∈ gtbl := ⟨⟨kw_805, kw_89, nd_X4_init⟩, kw_806⟩
theorem kw_809 : Cond.methodLink RX9 11 yX4_init ∈ gtbl := gm1 25 rfl rfl
theorem kw_810 : Cond.classLink RX9 18 RX3 ∈ gtbl := gm1 86 rfl rfl
theorem kw_811 : Cond.instantiable RX3 5 ∈ gtbl := gm1 87 rfl rfl
theorem kw_812 : Cond.code yX3_init cX3_init 1 none ∈ gtbl := gm1 90 rfl rfl
theorem kw_813 : Cond.instanceMethod yX3_init ∈ gtbl := gm1 89 rfl rfl
theorem nd_X3_init : (yX3_init).cls ≠ "java/lang/invoke/MethodHandle" ∧ (yX3_init).cls ≠ "java/lang/invoke/VarHandle" ∧ (parseMethodDescriptor (yX3_init).desc).map (fun d => d.parameters.length) = some 0 := by decide +kernel
theorem cI_X3_init : xc yX3_init cX3_init 1 none 0 ∧ Cond.instanceMethod yX3_init ∈ gtbl := ⟨⟨kw_812, kw_251, nd_X3_init⟩, kw_813⟩
theorem kw_816 : Cond.classLink RX9 25 RX7 ∈ gtbl := gm1 109 rfl rfl
theorem kw_817 : Cond.instantiable RX7 1 ∈ gtbl := gm1 110 rfl rfl
theorem kw_818 : Cond.code yX7_init cX7_init 1 none ∈ gtbl := gm1 113 rfl rfl
theorem kw_819 : Cond.instanceMethod yX7_init ∈ gtbl := gm1 112 rfl rfl
theorem nd_X7_init : (yX7_init).cls ≠ "java/lang/invoke/MethodHandle" ∧ (yX7_init).cls ≠ "java/lang/invoke/VarHandle" ∧ (parseMethodDescriptor (yX7_init).desc).map (fun d => d.parameters.length) = some 0 := by decide +kernel
theorem cI_X7_init : xc yX7_init cX7_init 1 none 0 ∧ Cond.instanceMethod yX7_init ∈ gtbl := ⟨⟨kw_818, kw_423, nd_X7_init⟩, kw_819⟩
theorem kw_822 : Cond.classLink RX9 32 "WordHedges$Sheet" ∈ gtbl := gm1 120 rfl rfl
theorem kw_823 : Cond.classLink RX9 32 RX5 ∈ gtbl := gm1 120 rfl rfl
theorem kw_824 : Cond.instantiable RX5 3 ∈ gtbl := gm1 122 rfl rfl
theorem kw_825 : Cond.code yX5_init cX5_init 1 none ∈ gtbl := gm1 125 rfl rfl
theorem kw_826 : Cond.instanceMethod yX5_init ∈ gtbl := gm1 124 rfl rfl
theorem nd_X5_init : (yX5_init).cls ≠ "java/lang/invoke/MethodHandle" ∧ (yX5_init).cls ≠ "java/lang/invoke/VarHandle" ∧ (parseMethodDescriptor (yX5_init).desc).map (fun d => d.parameters.length) = some 0 := by decide +kernel
theorem cI_X5_init : xc yX5_init cX5_init 1 none 0 ∧ Cond.instanceMethod yX5_init ∈ gtbl := ⟨⟨kw_825, kw_360, nd_X5_init⟩, kw_826⟩
abbrev rm_X9_init_8 : Room := { frames := 4, cells := 72, slots := 1290, locals := 75 }
abbrev S_X9_init_8 : Type := Nat × S_X4_init_4 × Nat × S_X3_init_3 × Nat × Nat × Nat × S_X5_init_5 × Nat × S_X5_init_5 × Nat × S_X5_init_5 × Nat × S_X5_init_5
def bc_X9_init_8 (X : XC) (a : Nat) (u : S_X9_init_8) : va_W := bc_X5_init_5 X u.2.2.2.2.2.2.2.2.2.2.2.2.1 u.2.2.2.2.2.2.2.2.2.2.2.2.2 ++ (bc_X5_init_5 X u.2.2.2.2.2.2.2.2.2.2.1 u.2.2.2.2.2.2.2.2.2.2.2.1 ++ (bc_X5_init_5 X u.2.2.2.2.2.2.2.2.1 u.2.2.2.2.2.2.2.2.2.1 ++ (bc_X5_init_5 X u.2.2.2.2.2.2.1 u.2.2.2.2.2.2.2.1 ++ ((u.2.2.2.2.2.1, .inl (X.2.1 3, 4, .inr (.inr (.inr (.inr (va_up (va_up (va_up (va_up (fun _ => none) 0 (some (u.2.2.2.2.2.2.1))) 1 (some (u.2.2.2.2.2.2.2.2.1))) 2 (some (u.2.2.2.2.2.2.2.2.2.2.1))) 3 (some (u.2.2.2.2.2.2.2.2.2.2.2.2.1)))))))) :: (u.2.2.2.2.1, .inr (6, [.int ((0 : Int32))])) :: bc_X3_init_3 X u.2.2.1 u.2.2.2.1 ++ (bc_X4_init_4 X u.1 u.2.1 ++ ((a, .inr (8, [.ref (u.1), .ref (u.2.2.1), .ref (u.2.2.2.2.1), .ref (u.2.2.2.2.2.1), .int ((0 : Int32))])) :: []))))))
set_option maxHeartbeats 8000000 in
set_option maxRecDepth 100000 in
theorem i_X9_init_8 (l : Launch) (X : XC) (ws0 : va_W) (a : Nat) : uM l X ((a, .inr (8, [.null, .null, .null, .null, .int 0])) :: ws0) yX9_init cX9_init 2 none rm_X9_init_8 [.ref a] (uQ X (fun u : S_X9_init_8 => bc_X9_init_8 X a u ++ ws0)) := by
  refine u_ent (by decide) (Nat.le_of_ble_eq_true rfl) ?_
  intro p e s m below meth c ls C hr hk hi hw hl
  replace hl : lv_has ls 2 [(0, .ref a)] := hl
  generalize hlo : ([] : List Loc) = locs at hw ⊢
  refine lv_aload_n C.1 C.2.1 dX9_init_0 rfl (lv_at hl 0 rfl) ?_
  refine W.objInit C.1 C.2.1 C.2.2.2.1 (C.2.2.2.2 _ kw_802) (C.2.2.2.2 _ kw_767) (C.2.2.2.2 _ kw_768) rfl (by rw [C.2.2.1]; exact hl.1) rfl dX9_init_1 (Nat.le_of_ble_eq_true rfl) (Nat.le_of_ble_eq_true rfl) ?_
  refine W.eq (g2 := F0 m 4 ls []) rfl ?_
  refine lv_aload_n C.1 C.2.1 dX9_init_4 rfl (lv_at hl 0 rfl) ?_
  refine u_new (ci := 4) (fs := [.null, .null, .int 0]) C hw rfl ixX4 tyX4 tyX4_ok kw_803 kw_804 kw_89 (by decide +kernel) (Nat.le_of_ble_eq_true rfl) (Nat.le_of_ble_eq_true rfl) dX9_init_5 (fun q1 H hw => ?_)
  replace hw := uw_front hw
  replace hw : uw X ((q1, .inr (4, [.null, .null, .int 0])) :: (a, .inr (8, [.null, .null, .null, .null, .int 0])) :: ws0) s H locs := hw
  refine lv_dup C.1 C.2.1 dX9_init_8 rfl ?_
  refine u_gov hw (u_runI (As := []) (rest := [.ref (q1), .ref (a)]) (b := q1) C hw cI_X4_init rfl kw_809 (i_X4_init_4 l X ((a, .inr (8, [.null, .null, .null, .null, .int 0])) :: ws0) q1 ) ⟨(Nat.le_of_ble_eq_true rfl), (Nat.le_of_ble_eq_true rfl)⟩ rfl hl.1 rfl (Nat.le_of_ble_eq_true rfl) dX9_init_9 ⟨(Nat.le_of_ble_eq_true rfl), (Nat.le_of_ble_eq_true rfl)⟩) (fun u2 H locs hw => ?_)
  replace hw : uw X (bc_X4_init_4 X q1 u2 ++ ((a, .inr (8, [.null, .null, .null, .null, .int 0])) :: ws0)) s H locs := hw
  refine u_putF C hi hw 57 0 rfl rfl ixX9 tyX9 tyX9_ok nmX9 (by decide) kw_86 rfl rfl (tyX9_ok 0 (by decide)) rfl rfl (Nat.le_of_ble_eq_true rfl) dX9_init_12 (fun H locs hw => ?_)
  replace hw : uw X (bc_X4_init_4 X q1 u2 ++ ((a, .inr (8, [.ref (q1), .null, .null, .null, .int 0])) :: ws0)) s H locs := hw
  refine lv_aload_n C.1 C.2.1 dX9_init_15 rfl (lv_at hl 0 rfl) ?_
  refine u_new (ci := 3) (fs := [.null, .null, .null, .null, .int 0]) C hw rfl ixX3 tyX3 tyX3_ok kw_810 kw_811 kw_251 (by decide +kernel) (Nat.le_of_ble_eq_true rfl) (Nat.le_of_ble_eq_true rfl) dX9_init_16 (fun q3 H hw => ?_)
  replace hw := uw_front hw
  replace hw : uw X ((q3, .inr (3, [.null, .null, .null, .null, .int 0])) :: bc_X4_init_4 X q1 u2 ++ ((a, .inr (8, [.ref (q1), .null, .null, .null, .int 0])) :: ws0)) s H locs := hw
  refine lv_dup C.1 C.2.1 dX9_init_19 rfl ?_
  refine u_gov hw (u_runIN (As := []) (rest := [.ref (q3), .ref (a)]) (b := q3) C hw cI_X3_init rfl (List.mem_of_getElem? (i := 1) rfl) (i_X3_init_3 l X (bc_X4_init_4 X q1 u2 ++ ((a, .inr (8, [.ref (q1), .null, .null, .null, .int 0])) :: ws0)) q3 ) ⟨(Nat.le_of_ble_eq_true rfl), (Nat.le_of_ble_eq_true rfl)⟩ rfl hl.1 rfl (Nat.le_of_ble_eq_true rfl) dX9_init_20 ⟨(Nat.le_of_ble_eq_true rfl), (Nat.le_of_ble_eq_true rfl)⟩) (fun u4 H locs hw => ?_)
  replace hw : uw X (bc_X3_init_3 X q3 u4 ++ (bc_X4_init_4 X q1 u2 ++ ((a, .inr (8, [.ref (q1), .null, .null, .null, .int 0])) :: ws0))) s H locs := hw
  refine u_putF C hi hw 62 1 rfl rfl ixX9 tyX9 tyX9_ok nmX9 (by decide) kw_247 rfl rfl (tyX9_ok 1 (by decide)) rfl rfl (Nat.le_of_ble_eq_true rfl) dX9_init_23 (fun H locs hw => ?_)
  replace hw : uw X (bc_X3_init_3 X q3 u4 ++ (bc_X4_init_4 X q1 u2 ++ ((a, .inr (8, [.ref (q1), .ref (q3), .null, .null, .int 0])) :: ws0))) s H locs := hw
  refine lv_aload_n C.1 C.2.1 dX9_init_26 rfl (lv_at hl 0 rfl) ?_
  refine u_new (ci := 6) (fs := [.int 0]) C hw rfl ixX7 tyX7 tyX7_ok kw_816 kw_817 kw_423 (by decide +kernel) (Nat.le_of_ble_eq_true rfl) (Nat.le_of_ble_eq_true rfl) dX9_init_27 (fun q5 H hw => ?_)
  replace hw := uw_front hw
  replace hw : uw X ((q5, .inr (6, [.int 0])) :: bc_X3_init_3 X q3 u4 ++ (bc_X4_init_4 X q1 u2 ++ ((a, .inr (8, [.ref (q1), .ref (q3), .null, .null, .int 0])) :: ws0))) s H locs := hw
  refine lv_dup C.1 C.2.1 dX9_init_30 rfl ?_
  refine u_gov hw (u_runIN (As := []) (rest := [.ref (q5), .ref (a)]) (b := q5) C hw cI_X7_init rfl (List.mem_of_getElem? (i := 2) rfl) (i_X7_init_6 l X (bc_X3_init_3 X q3 u4 ++ (bc_X4_init_4 X q1 u2 ++ ((a, .inr (8, [.ref (q1), .ref (q3), .null, .null, .int 0])) :: ws0))) q5 ) ⟨(Nat.le_of_ble_eq_true rfl), (Nat.le_of_ble_eq_true rfl)⟩ rfl hl.1 rfl (Nat.le_of_ble_eq_true rfl) dX9_init_31 ⟨(Nat.le_of_ble_eq_true rfl), (Nat.le_of_ble_eq_true rfl)⟩) (fun u6 H locs hw => ?_)
  replace hw : uw X ((q5, .inr (6, [.int ((0 : Int32))])) :: bc_X3_init_3 X q3 u4 ++ (bc_X4_init_4 X q1 u2 ++ ((a, .inr (8, [.ref (q1), .ref (q3), .null, .null, .int 0])) :: ws0))) s H locs := hw
  refine u_putF C hi hw 63 2 rfl rfl ixX9 tyX9 tyX9_ok nmX9 (by decide) kw_457 rfl rfl (tyX9_ok 2 (by decide)) rfl rfl (Nat.le_of_ble_eq_true rfl) dX9_init_34 (fun H locs hw => ?_)
  replace hw : uw X ((q5, .inr (6, [.int ((0 : Int32))])) :: bc_X3_init_3 X q3 u4 ++ (bc_X4_init_4 X q1 u2 ++ ((a, .inr (8, [.ref (q1), .ref (q3), .ref (q5), .null, .int 0])) :: ws0))) s H locs := hw
  refine lv_aload_n C.1 C.2.1 dX9_init_37 rfl (lv_at hl 0 rfl) ?_
  refine lv_iconst (v := (4 : Int32)) C.1 C.2.1 dX9_init_38 (by decide) ?_
  refine u_newq (Cn := "WordHedges$Sheet") C hw 3 rfl kw_822 hw.1.1.2.2.1 4 (by decide) rfl (by decide) (Nat.le_of_ble_eq_true rfl) (Nat.le_of_ble_eq_true rfl) dX9_init_39 (fun q7 H hw => ?_)
  replace hw := uw_front hw
  replace hw : uw X ((q7, .inl (X.2.1 3, 4, .inr (.inr (.inr (.inr (fun _ => none)))))) :: (q5, .inr (6, [.int ((0 : Int32))])) :: bc_X3_init_3 X q3 u4 ++ (bc_X4_init_4 X q1 u2 ++ ((a, .inr (8, [.ref (q1), .ref (q3), .ref (q5), .null, .int 0])) :: ws0))) s H locs := hw
  refine u_putF C hi hw 64 3 rfl rfl ixX9 tyX9 tyX9_ok nmX9 (by decide) kw_357 rfl rfl (tyX9_ok 3 (by decide)) rfl rfl (Nat.le_of_ble_eq_true rfl) dX9_init_42 (fun H locs hw => ?_)
  replace hw : uw X ((q7, .inl (X.2.1 3, 4, .inr (.inr (.inr (.inr (fun _ => none)))))) :: (q5, .inr (6, [.int ((0 : Int32))])) :: bc_X3_init_3 X q3 u4 ++ (bc_X4_init_4 X q1 u2 ++ ((a, .inr (8, [.ref (q1), .ref (q3), .ref (q5), .ref (q7), .int 0])) :: ws0))) s H locs := hw
  refine lv_aload_n C.1 C.2.1 dX9_init_45 rfl (lv_at hl 0 rfl) ?_
  refine lv_iconst (v := (0 : Int32)) C.1 C.2.1 dX9_init_46 (by decide) ?_
  refine u_put C hw 64 4 rfl rfl ixX9 tyX9 tyX9_ok nmX9 (by decide) kw_8 rfl (tyX9_ok 4 (by decide)) rfl rfl (Nat.le_of_ble_eq_true rfl) dX9_init_47 (fun H locs hw => ?_)
  replace hw : uw X ((q7, .inl (X.2.1 3, 4, .inr (.inr (.inr (.inr (fun _ => none)))))) :: (q5, .inr (6, [.int ((0 : Int32))])) :: bc_X3_init_3 X q3 u4 ++ (bc_X4_init_4 X q1 u2 ++ ((a, .inr (8, [.ref (q1), .ref (q3), .ref (q5), .ref (q7), .int ((0 : Int32))])) :: ws0))) s H locs := hw
  refine lv_iconst (v := (0 : Int32)) C.1 C.2.1 dX9_init_50 (by decide) ?_
  refine lv_istore_n (lv' := [(1, .int ((0 : Int32))), (0, .ref (a))]) C.1 C.2.1 dX9_init_51 rfl hl (by decide) rfl (fun ls hl => ?_)
  refine lv_iload_n C.1 C.2.1 dX9_init_52 rfl (lv_at hl 0 rfl) ?_
  refine lv_iconst (v := (4 : Int32)) C.1 C.2.1 dX9_init_53 (by decide) ?_
  refine lv_icmp_ge (tgt := 76) C.1 C.2.1 dX9_init_54 (by decide) (fun c8 => ?_) (fun c8 => ?_)
  · exact absurd c8 (by decide)
  refine lv_aload_n C.1 C.2.1 dX9_init_57 rfl (lv_at hl 1 rfl) ?_
  refine u_get (v := .ref (q7)) C hw 64 3 rfl rfl ixX9 (by decide) kw_357 rfl dX9_init_58 ?_
  refine lv_iload_n C.1 C.2.1 dX9_init_61 rfl (lv_at hl 0 rfl) ?_
  refine u_new (ci := 5) (fs := [.null, .int 0, .int 0]) C hw rfl ixX5 tyX5 tyX5_ok kw_823 kw_824 kw_360 (by decide +kernel) (Nat.le_of_ble_eq_true rfl) (Nat.le_of_ble_eq_true rfl) dX9_init_62 (fun q9 H hw => ?_)
  replace hw := uw_front hw
  replace hw : uw X ((q9, .inr (5, [.null, .int 0, .int 0])) :: (q7, .inl (X.2.1 3, 4, .inr (.inr (.inr (.inr (fun _ => none)))))) :: (q5, .inr (6, [.int ((0 : Int32))])) :: bc_X3_init_3 X q3 u4 ++ (bc_X4_init_4 X q1 u2 ++ ((a, .inr (8, [.ref (q1), .ref (q3), .ref (q5), .ref (q7), .int ((0 : Int32))])) :: ws0))) s H locs := hw
  refine lv_dup C.1 C.2.1 dX9_init_65 rfl ?_
  refine u_gov hw (u_runIN (As := []) (rest := [.ref (q9), .int ((0 : Int32)), .ref (q7)]) (b := q9) C hw cI_X5_init rfl (List.mem_of_getElem? (i := 3) rfl) (i_X5_init_5 l X ((q7, .inl (X.2.1 3, 4, .inr (.inr (.inr (.inr (fun _ => none)))))) :: (q5, .inr (6, [.int ((0 : Int32))])) :: bc_X3_init_3 X q3 u4 ++ (bc_X4_init_4 X q1 u2 ++ ((a, .inr (8, [.ref (q1), .ref (q3), .ref (q5), .ref (q7), .int ((0 : Int32))])) :: ws0))) q9 ) ⟨(Nat.le_of_ble_eq_true rfl), (Nat.le_of_ble_eq_true rfl)⟩ rfl hl.1 rfl (Nat.le_of_ble_eq_true rfl) dX9_init_66 ⟨(Nat.le_of_ble_eq_true rfl), (Nat.le_of_ble_eq_true rfl)⟩) (fun u10 H locs hw => ?_)
  replace hw : uw X (bc_X5_init_5 X q9 u10 ++ ((q7, .inl (X.2.1 3, 4, .inr (.inr (.inr (.inr (fun _ => none)))))) :: (q5, .inr (6, [.int ((0 : Int32))])) :: bc_X3_init_3 X q3 u4 ++ (bc_X4_init_4 X q1 u2 ++ ((a, .inr (8, [.ref (q1), .ref (q3), .ref (q5), .ref (q7), .int ((0 : Int32))])) :: ws0)))) s H locs := hw
  refine u_astq (Cn := "WordHedges$Sheet") (ci := 5) C hw 2 3 1 rfl rfl rfl rfl (inB_in (by decide)) dX9_init_69 (fun H locs hw => ?_)
  replace hw : uw X (bc_X5_init_5 X q9 u10 ++ ((q7, .inl (X.2.1 3, 4, .inr (.inr (.inr (.inr (va_up (fun _ => none) 0 (some (q9)))))))) :: (q5, .inr (6, [.int ((0 : Int32))])) :: bc_X3_init_3 X q3 u4 ++ (bc_X4_init_4 X q1 u2 ++ ((a, .inr (8, [.ref (q1), .ref (q3), .ref (q5), .ref (q7), .int ((0 : Int32))])) :: ws0)))) s H locs := hw
  refine lv_iinc (v := (1 : Int32)) (lv' := [(1, .int ((1 : Int32))), (0, .ref (a))]) C.1 C.2.1 dX9_init_70 hl (k := 0) rfl (by decide) (by decide) rfl (fun ls hl => ?_)
  refine lv_goto (tgt := 52) C.1 C.2.1 dX9_init_73 (by decide) ?_
  refine lv_iload_n C.1 C.2.1 dX9_init_52 rfl (lv_at hl 0 rfl) ?_
  refine lv_iconst (v := (4 : Int32)) C.1 C.2.1 dX9_init_53 (by decide) ?_
  refine lv_icmp_ge (tgt := 76) C.1 C.2.1 dX9_init_54 (by decide) (fun c11 => ?_) (fun c11 => ?_)
  · exact absurd c11 (by decide)
  refine lv_aload_n C.1 C.2.1 dX9_init_57 rfl (lv_at hl 1 rfl) ?_
  refine u_get (v := .ref (q7)) C hw 66 3 rfl rfl ixX9 (by decide) kw_357 rfl dX9_init_58 ?_
  refine lv_iload_n C.1 C.2.1 dX9_init_61 rfl (lv_at hl 0 rfl) ?_
  refine u_new (ci := 5) (fs := [.null, .int 0, .int 0]) C hw rfl ixX5 tyX5 tyX5_ok kw_823 kw_824 kw_360 (by decide +kernel) (Nat.le_of_ble_eq_true rfl) (Nat.le_of_ble_eq_true rfl) dX9_init_62 (fun q12 H hw => ?_)
  replace hw := uw_front hw
  replace hw : uw X ((q12, .inr (5, [.null, .int 0, .int 0])) :: bc_X5_init_5 X q9 u10 ++ ((q7, .inl (X.2.1 3, 4, .inr (.inr (.inr (.inr (va_up (fun _ => none) 0 (some (q9)))))))) :: (q5, .inr (6, [.int ((0 : Int32))])) :: bc_X3_init_3 X q3 u4 ++ (bc_X4_init_4 X q1 u2 ++ ((a, .inr (8, [.ref (q1), .ref (q3), .ref (q5), .ref (q7), .int ((0 : Int32))])) :: ws0)))) s H locs := hw
  refine lv_dup C.1 C.2.1 dX9_init_65 rfl ?_
  refine u_gov hw (u_runIN (As := []) (rest := [.ref (q12), .int ((1 : Int32)), .ref (q7)]) (b := q12) C hw cI_X5_init rfl (List.mem_of_getElem? (i := 3) rfl) (i_X5_init_5 l X (bc_X5_init_5 X q9 u10 ++ ((q7, .inl (X.2.1 3, 4, .inr (.inr (.inr (.inr (va_up (fun _ => none) 0 (some (q9)))))))) :: (q5, .inr (6, [.int ((0 : Int32))])) :: bc_X3_init_3 X q3 u4 ++ (bc_X4_init_4 X q1 u2 ++ ((a, .inr (8, [.ref (q1), .ref (q3), .ref (q5), .ref (q7), .int ((0 : Int32))])) :: ws0)))) q12 ) ⟨(Nat.le_of_ble_eq_true rfl), (Nat.le_of_ble_eq_true rfl)⟩ rfl hl.1 rfl (Nat.le_of_ble_eq_true rfl) dX9_init_66 ⟨(Nat.le_of_ble_eq_true rfl), (Nat.le_of_ble_eq_true rfl)⟩) (fun u13 H locs hw => ?_)
  replace hw : uw X (bc_X5_init_5 X q12 u13 ++ (bc_X5_init_5 X q9 u10 ++ ((q7, .inl (X.2.1 3, 4, .inr (.inr (.inr (.inr (va_up (fun _ => none) 0 (some (q9)))))))) :: (q5, .inr (6, [.int ((0 : Int32))])) :: bc_X3_init_3 X q3 u4 ++ (bc_X4_init_4 X q1 u2 ++ ((a, .inr (8, [.ref (q1), .ref (q3), .ref (q5), .ref (q7), .int ((0 : Int32))])) :: ws0))))) s H locs := hw
  refine u_astq (Cn := "WordHedges$Sheet") (ci := 5) C hw 4 3 1 rfl rfl rfl rfl (inB_in (by decide)) dX9_init_69 (fun H locs hw => ?_)
  replace hw : uw X (bc_X5_init_5 X q12 u13 ++ (bc_X5_init_5 X q9 u10 ++ ((q7, .inl (X.2.1 3, 4, .inr (.inr (.inr (.inr (va_up (va_up (fun _ => none) 0 (some (q9))) 1 (some (q12)))))))) :: (q5, .inr (6, [.int ((0 : Int32))])) :: bc_X3_init_3 X q3 u4 ++ (bc_X4_init_4 X q1 u2 ++ ((a, .inr (8, [.ref (q1), .ref (q3), .ref (q5), .ref (q7), .int ((0 : Int32))])) :: ws0))))) s H locs := hw
  refine lv_iinc (v := (2 : Int32)) (lv' := [(1, .int ((2 : Int32))), (0, .ref (a))]) C.1 C.2.1 dX9_init_70 hl (k := 0) rfl (by decide) (by decide) rfl (fun ls hl => ?_)
  refine lv_goto (tgt := 52) C.1 C.2.1 dX9_init_73 (by decide) ?_
  refine lv_iload_n C.1 C.2.1 dX9_init_52 rfl (lv_at hl 0 rfl) ?_
  refine lv_iconst (v := (4 : Int32)) C.1 C.2.1 dX9_init_53 (by decide) ?_
  refine lv_icmp_ge (tgt := 76) C.1 C.2.1 dX9_init_54 (by decide) (fun c14 => ?_) (fun c14 => ?_)
  · exact absurd c14 (by decide)
  refine lv_aload_n C.1 C.2.1 dX9_init_57 rfl (lv_at hl 1 rfl) ?_
  refine u_get (v := .ref (q7)) C hw 68 3 rfl rfl ixX9 (by decide) kw_357 rfl dX9_init_58 ?_
  refine lv_iload_n C.1 C.2.1 dX9_init_61 rfl (lv_at hl 0 rfl) ?_
  refine u_new (ci := 5) (fs := [.null, .int 0, .int 0]) C hw rfl ixX5 tyX5 tyX5_ok kw_823 kw_824 kw_360 (by decide +kernel) (Nat.le_of_ble_eq_true rfl) (Nat.le_of_ble_eq_true rfl) dX9_init_62 (fun q15 H hw => ?_)
  replace hw := uw_front hw
  replace hw : uw X ((q15, .inr (5, [.null, .int 0, .int 0])) :: bc_X5_init_5 X q12 u13 ++ (bc_X5_init_5 X q9 u10 ++ ((q7, .inl (X.2.1 3, 4, .inr (.inr (.inr (.inr (va_up (va_up (fun _ => none) 0 (some (q9))) 1 (some (q12)))))))) :: (q5, .inr (6, [.int ((0 : Int32))])) :: bc_X3_init_3 X q3 u4 ++ (bc_X4_init_4 X q1 u2 ++ ((a, .inr (8, [.ref (q1), .ref (q3), .ref (q5), .ref (q7), .int ((0 : Int32))])) :: ws0))))) s H locs := hw
  refine lv_dup C.1 C.2.1 dX9_init_65 rfl ?_
  refine u_gov hw (u_runIN (As := []) (rest := [.ref (q15), .int ((2 : Int32)), .ref (q7)]) (b := q15) C hw cI_X5_init rfl (List.mem_of_getElem? (i := 3) rfl) (i_X5_init_5 l X (bc_X5_init_5 X q12 u13 ++ (bc_X5_init_5 X q9 u10 ++ ((q7, .inl (X.2.1 3, 4, .inr (.inr (.inr (.inr (va_up (va_up (fun _ => none) 0 (some (q9))) 1 (some (q12)))))))) :: (q5, .inr (6, [.int ((0 : Int32))])) :: bc_X3_init_3 X q3 u4 ++ (bc_X4_init_4 X q1 u2 ++ ((a, .inr (8, [.ref (q1), .ref (q3), .ref (q5), .ref (q7), .int ((0 : Int32))])) :: ws0))))) q15 ) ⟨(Nat.le_of_ble_eq_true rfl), (Nat.le_of_ble_eq_true rfl)⟩ rfl hl.1 rfl (Nat.le_of_ble_eq_true rfl) dX9_init_66 ⟨(Nat.le_of_ble_eq_true rfl), (Nat.le_of_ble_eq_true rfl)⟩) (fun u16 H locs hw => ?_)
  replace hw : uw X (bc_X5_init_5 X q15 u16 ++ (bc_X5_init_5 X q12 u13 ++ (bc_X5_init_5 X q9 u10 ++ ((q7, .inl (X.2.1 3, 4, .inr (.inr (.inr (.inr (va_up (va_up (fun _ => none) 0 (some (q9))) 1 (some (q12)))))))) :: (q5, .inr (6, [.int ((0 : Int32))])) :: bc_X3_init_3 X q3 u4 ++ (bc_X4_init_4 X q1 u2 ++ ((a, .inr (8, [.ref (q1), .ref (q3), .ref (q5), .ref (q7), .int ((0 : Int32))])) :: ws0)))))) s H locs := hw
  refine u_astq (Cn := "WordHedges$Sheet") (ci := 5) C hw 6 3 1 rfl rfl rfl rfl (inB_in (by decide)) dX9_init_69 (fun H locs hw => ?_)
  replace hw : uw X (bc_X5_init_5 X q15 u16 ++ (bc_X5_init_5 X q12 u13 ++ (bc_X5_init_5 X q9 u10 ++ ((q7, .inl (X.2.1 3, 4, .inr (.inr (.inr (.inr (va_up (va_up (va_up (fun _ => none) 0 (some (q9))) 1 (some (q12))) 2 (some (q15)))))))) :: (q5, .inr (6, [.int ((0 : Int32))])) :: bc_X3_init_3 X q3 u4 ++ (bc_X4_init_4 X q1 u2 ++ ((a, .inr (8, [.ref (q1), .ref (q3), .ref (q5), .ref (q7), .int ((0 : Int32))])) :: ws0)))))) s H locs := hw
  refine lv_iinc (v := (3 : Int32)) (lv' := [(1, .int ((3 : Int32))), (0, .ref (a))]) C.1 C.2.1 dX9_init_70 hl (k := 0) rfl (by decide) (by decide) rfl (fun ls hl => ?_)
  refine lv_goto (tgt := 52) C.1 C.2.1 dX9_init_73 (by decide) ?_
  refine lv_iload_n C.1 C.2.1 dX9_init_52 rfl (lv_at hl 0 rfl) ?_
  refine lv_iconst (v := (4 : Int32)) C.1 C.2.1 dX9_init_53 (by decide) ?_
  refine lv_icmp_ge (tgt := 76) C.1 C.2.1 dX9_init_54 (by decide) (fun c17 => ?_) (fun c17 => ?_)
  · exact absurd c17 (by decide)
  refine lv_aload_n C.1 C.2.1 dX9_init_57 rfl (lv_at hl 1 rfl) ?_
  refine u_get (v := .ref (q7)) C hw 70 3 rfl rfl ixX9 (by decide) kw_357 rfl dX9_init_58 ?_
  refine lv_iload_n C.1 C.2.1 dX9_init_61 rfl (lv_at hl 0 rfl) ?_
  refine u_new (ci := 5) (fs := [.null, .int 0, .int 0]) C hw rfl ixX5 tyX5 tyX5_ok kw_823 kw_824 kw_360 (by decide +kernel) (Nat.le_of_ble_eq_true rfl) (Nat.le_of_ble_eq_true rfl) dX9_init_62 (fun q18 H hw => ?_)
  replace hw := uw_front hw
  replace hw : uw X ((q18, .inr (5, [.null, .int 0, .int 0])) :: bc_X5_init_5 X q15 u16 ++ (bc_X5_init_5 X q12 u13 ++ (bc_X5_init_5 X q9 u10 ++ ((q7, .inl (X.2.1 3, 4, .inr (.inr (.inr (.inr (va_up (va_up (va_up (fun _ => none) 0 (some (q9))) 1 (some (q12))) 2 (some (q15)))))))) :: (q5, .inr (6, [.int ((0 : Int32))])) :: bc_X3_init_3 X q3 u4 ++ (bc_X4_init_4 X q1 u2 ++ ((a, .inr (8, [.ref (q1), .ref (q3), .ref (q5), .ref (q7), .int ((0 : Int32))])) :: ws0)))))) s H locs := hw
  refine lv_dup C.1 C.2.1 dX9_init_65 rfl ?_
  refine u_gov hw (u_runIN (As := []) (rest := [.ref (q18), .int ((3 : Int32)), .ref (q7)]) (b := q18) C hw cI_X5_init rfl (List.mem_of_getElem? (i := 3) rfl) (i_X5_init_5 l X (bc_X5_init_5 X q15 u16 ++ (bc_X5_init_5 X q12 u13 ++ (bc_X5_init_5 X q9 u10 ++ ((q7, .inl (X.2.1 3, 4, .inr (.inr (.inr (.inr (va_up (va_up (va_up (fun _ => none) 0 (some (q9))) 1 (some (q12))) 2 (some (q15)))))))) :: (q5, .inr (6, [.int ((0 : Int32))])) :: bc_X3_init_3 X q3 u4 ++ (bc_X4_init_4 X q1 u2 ++ ((a, .inr (8, [.ref (q1), .ref (q3), .ref (q5), .ref (q7), .int ((0 : Int32))])) :: ws0)))))) q18 ) ⟨(Nat.le_of_ble_eq_true rfl), (Nat.le_of_ble_eq_true rfl)⟩ rfl hl.1 rfl (Nat.le_of_ble_eq_true rfl) dX9_init_66 ⟨(Nat.le_of_ble_eq_true rfl), (Nat.le_of_ble_eq_true rfl)⟩) (fun u19 H locs hw => ?_)
  replace hw : uw X (bc_X5_init_5 X q18 u19 ++ (bc_X5_init_5 X q15 u16 ++ (bc_X5_init_5 X q12 u13 ++ (bc_X5_init_5 X q9 u10 ++ ((q7, .inl (X.2.1 3, 4, .inr (.inr (.inr (.inr (va_up (va_up (va_up (fun _ => none) 0 (some (q9))) 1 (some (q12))) 2 (some (q15)))))))) :: (q5, .inr (6, [.int ((0 : Int32))])) :: bc_X3_init_3 X q3 u4 ++ (bc_X4_init_4 X q1 u2 ++ ((a, .inr (8, [.ref (q1), .ref (q3), .ref (q5), .ref (q7), .int ((0 : Int32))])) :: ws0))))))) s H locs := hw
  refine u_astq (Cn := "WordHedges$Sheet") (ci := 5) C hw 8 3 1 rfl rfl rfl rfl (inB_in (by decide)) dX9_init_69 (fun H locs hw => ?_)
  replace hw : uw X (bc_X5_init_5 X q18 u19 ++ (bc_X5_init_5 X q15 u16 ++ (bc_X5_init_5 X q12 u13 ++ (bc_X5_init_5 X q9 u10 ++ ((q7, .inl (X.2.1 3, 4, .inr (.inr (.inr (.inr (va_up (va_up (va_up (va_up (fun _ => none) 0 (some (q9))) 1 (some (q12))) 2 (some (q15))) 3 (some (q18)))))))) :: (q5, .inr (6, [.int ((0 : Int32))])) :: bc_X3_init_3 X q3 u4 ++ (bc_X4_init_4 X q1 u2 ++ ((a, .inr (8, [.ref (q1), .ref (q3), .ref (q5), .ref (q7), .int ((0 : Int32))])) :: ws0))))))) s H locs := hw
  refine lv_iinc (v := (4 : Int32)) (lv' := [(1, .int ((4 : Int32))), (0, .ref (a))]) C.1 C.2.1 dX9_init_70 hl (k := 0) rfl (by decide) (by decide) rfl (fun ls hl => ?_)
  refine lv_goto (tgt := 52) C.1 C.2.1 dX9_init_73 (by decide) ?_
  refine lv_iload_n C.1 C.2.1 dX9_init_52 rfl (lv_at hl 0 rfl) ?_
  refine lv_iconst (v := (4 : Int32)) C.1 C.2.1 dX9_init_53 (by decide) ?_
  refine lv_icmp_ge (tgt := 76) C.1 C.2.1 dX9_init_54 (by decide) (fun c20 => ?_) (fun c20 => ?_)
  rotate_left
  · exact absurd (by decide) c20
  exact u_vret C (q1, u2, q3, u4, q5, q7, q9, u10, q12, u13, q15, u16, q18, u19) hw hr hk dX9_init_76
theorem kw_829 : Cond.methodLink RX10 1 Lib.objectInit ∈ gtbl := gm3 127 rfl rfl
abbrev rm_X10_init_9 : Room := { frames := 1, cells := 17, slots := 1046, locals := 12 }
abbrev S_X10_init_9 : Type := Nat × Nat × Nat × Nat × Nat × Nat × Nat × Nat × Nat × Nat × Nat × Nat × Nat × Nat × Nat × Nat × Nat
def bc_X10_init_9 (X : XC) (a : Nat) (u : S_X10_init_9) : va_W := (u.2.2.2.2.2.2.2.2.2.2.2.2.2.2.2.2, xrI X 60 (fun _ => 0)) :: (u.2.2.2.2.2.2.2.2.2.2.2.2.2.2.2.1, xrI X 240 (fun _ => 0)) :: (u.2.2.2.2.2.2.2.2.2.2.2.2.2.2.1, xrI X 4 (fun _ => 0)) :: (u.2.2.2.2.2.2.2.2.2.2.2.2.2.1, xrI X 4 (upd (upd (upd (upd (fun _ => 0) 0 (-1 : Int32)) 1 (-1 : Int32)) 2 (-1 : Int32)) 3 (-1 : Int32))) :: (u.2.2.2.2.2.2.2.2.2.2.2.2.1, xrI X 60 (fun _ => 0)) :: (u.2.2.2.2.2.2.2.2.2.2.2.1, xrI X 10 (fun _ => 0)) :: (u.2.2.2.2.2.2.2.2.2.2.1, xrI X 10 (fun _ => 0)) :: (u.2.2.2.2.2.2.2.2.2.1, xrI X 10 (fun _ => 0)) :: (u.2.2.2.2.2.2.2.2.1, xrI X 10 (fun _ => 0)) :: (u.2.2.2.2.2.2.2.1, xrI X 6 (fun _ => 0)) :: (u.2.2.2.2.2.2.1, xrI X 6 (fun _ => 0)) :: (u.2.2.2.2.2.1, xrI X 7 (fun _ => 0)) :: (u.2.2.2.2.1, xrI X 180 (fun _ => 0)) :: (u.2.2.2.1, xrI X 420 (fun _ => 0)) :: (u.2.2.1, xrI X 6 (fun _ => 0)) :: (u.2.1, xrI X 6 (fun _ => 0)) :: (u.1, xrI X 7 (fun _ => 0)) :: (a, .inr (9, [.int 0, .int 0, .ref (u.1), .ref (u.2.1), .ref (u.2.2.1), .ref (u.2.2.2.1), .ref (u.2.2.2.2.1), .int 0, .int 0, .ref (u.2.2.2.2.2.1), .ref (u.2.2.2.2.2.2.1), .ref (u.2.2.2.2.2.2.2.1), .int 0, .ref (u.2.2.2.2.2.2.2.2.1), .ref (u.2.2.2.2.2.2.2.2.2.1), .ref (u.2.2.2.2.2.2.2.2.2.2.1), .ref (u.2.2.2.2.2.2.2.2.2.2.2.1), .ref (u.2.2.2.2.2.2.2.2.2.2.2.2.1), .ref (u.2.2.2.2.2.2.2.2.2.2.2.2.2.1), .ref (u.2.2.2.2.2.2.2.2.2.2.2.2.2.2.1), .ref (u.2.2.2.2.2.2.2.2.2.2.2.2.2.2.2.1), .ref (u.2.2.2.2.2.2.2.2.2.2.2.2.2.2.2.2), .int 0])) :: []
set_option maxHeartbeats 8000000 in
set_option maxRecDepth 100000 in
theorem i_X10_init_9 (l : Launch) (X : XC) (ws0 : va_W) (a : Nat) : uM l X ((a, .inr (9, [.int 0, .int 0, .null, .null, .null, .null, .null, .int 0, .int 0, .null, .null, .null, .int 0, .null, .null, .null, .null, .null, .null, .null, .null, .null, .int 0])) :: ws0) yX10_init cX10_init 2 none rm_X10_init_9 [.ref a] (uQ X (fun u : S_X10_init_9 => bc_X10_init_9 X a u ++ ws0)) := by
  refine u_ent (by decide) (Nat.le_of_ble_eq_true rfl) ?_
  intro p e s m below meth c ls C hr hk hi hw hl
  replace hl : lv_has ls 2 [(0, .ref a)] := hl
  generalize hlo : ([] : List Loc) = locs at hw ⊢
  refine lv_aload_n C.1 C.2.1 dX10_init_0 rfl (lv_at hl 0 rfl) ?_
  refine W.objInit C.1 C.2.1 C.2.2.2.1 (C.2.2.2.2 _ kw_829) (C.2.2.2.2 _ kw_767) (C.2.2.2.2 _ kw_768) rfl (by rw [C.2.2.1]; exact hl.1) rfl dX10_init_1 (Nat.le_of_ble_eq_true rfl) (Nat.le_of_ble_eq_true rfl) ?_
  refine W.eq (g2 := F0 m 4 ls []) rfl ?_
  refine lv_aload_n C.1 C.2.1 dX10_init_4 rfl (lv_at hl 0 rfl) ?_
  refine lv_bipush (v := (7 : Int32)) C.1 C.2.1 dX10_init_5 (by decide) ?_
  refine u_newI C hw kw_790 7 (by decide) rfl (by decide) (Nat.le_of_ble_eq_true rfl) (Nat.le_of_ble_eq_true rfl) dX10_init_7 (fun q1 H hw => ?_)
  replace hw := uw_front hw
  replace hw : uw X ((q1, xrI X 7 (fun _ => 0)) :: (a, .inr (9, [.int 0, .int 0, .null, .null, .null, .null, .null, .int 0, .int 0, .null, .null, .null, .int 0, .null, .null, .null, .null, .null, .null, .null, .null, .null, .int 0])) :: ws0) s H locs := hw
  refine u_putF C hi hw 1 2 rfl rfl ixX10 tyX10 tyX10_ok nmX10 (by decide) kw_581 rfl rfl (tyX10_ok 2 (by decide)) rfl rfl (Nat.le_of_ble_eq_true rfl) dX10_init_9 (fun H locs hw => ?_)
  replace hw : uw X ((q1, xrI X 7 (fun _ => 0)) :: (a, .inr (9, [.int 0, .int 0, .ref (q1), .null, .null, .null, .null, .int 0, .int 0, .null, .null, .null, .int 0, .null, .null, .null, .null, .null, .null, .null, .null, .null, .int 0])) :: ws0) s H locs := hw
  refine lv_aload_n C.1 C.2.1 dX10_init_12 rfl (lv_at hl 0 rfl) ?_
  refine lv_bipush (v := (6 : Int32)) C.1 C.2.1 dX10_init_13 (by decide) ?_
  refine u_newI C hw kw_790 6 (by decide) rfl (by decide) (Nat.le_of_ble_eq_true rfl) (Nat.le_of_ble_eq_true rfl) dX10_init_15 (fun q2 H hw => ?_)
  replace hw := uw_front hw
  replace hw : uw X ((q2, xrI X 6 (fun _ => 0)) :: (q1, xrI X 7 (fun _ => 0)) :: (a, .inr (9, [.int 0, .int 0, .ref (q1), .null, .null, .null, .null, .int 0, .int 0, .null, .null, .null, .int 0, .null, .null, .null, .null, .null, .null, .null, .null, .null, .int 0])) :: ws0) s H locs := hw
  refine u_putF C hi hw 2 3 rfl rfl ixX10 tyX10 tyX10_ok nmX10 (by decide) kw_577 rfl rfl (tyX10_ok 3 (by decide)) rfl rfl (Nat.le_of_ble_eq_true rfl) dX10_init_17 (fun H locs hw => ?_)
  replace hw : uw X ((q2, xrI X 6 (fun _ => 0)) :: (q1, xrI X 7 (fun _ => 0)) :: (a, .inr (9, [.int 0, .int 0, .ref (q1), .ref (q2), .null, .null, .null, .int 0, .int 0, .null, .null, .null, .int 0, .null, .null, .null, .null, .null, .null, .null, .null, .null, .int 0])) :: ws0) s H locs := hw
  refine lv_aload_n C.1 C.2.1 dX10_init_20 rfl (lv_at hl 0 rfl) ?_
  refine lv_bipush (v := (6 : Int32)) C.1 C.2.1 dX10_init_21 (by decide) ?_
  refine u_newI C hw kw_790 6 (by decide) rfl (by decide) (Nat.le_of_ble_eq_true rfl) (Nat.le_of_ble_eq_true rfl) dX10_init_23 (fun q3 H hw => ?_)
  replace hw := uw_front hw
  replace hw : uw X ((q3, xrI X 6 (fun _ => 0)) :: (q2, xrI X 6 (fun _ => 0)) :: (q1, xrI X 7 (fun _ => 0)) :: (a, .inr (9, [.int 0, .int 0, .ref (q1), .ref (q2), .null, .null, .null, .int 0, .int 0, .null, .null, .null, .int 0, .null, .null, .null, .null, .null, .null, .null, .null, .null, .int 0])) :: ws0) s H locs := hw
  refine u_putF C hi hw 3 4 rfl rfl ixX10 tyX10 tyX10_ok nmX10 (by decide) kw_579 rfl rfl (tyX10_ok 4 (by decide)) rfl rfl (Nat.le_of_ble_eq_true rfl) dX10_init_25 (fun H locs hw => ?_)
  replace hw : uw X ((q3, xrI X 6 (fun _ => 0)) :: (q2, xrI X 6 (fun _ => 0)) :: (q1, xrI X 7 (fun _ => 0)) :: (a, .inr (9, [.int 0, .int 0, .ref (q1), .ref (q2), .ref (q3), .null, .null, .int 0, .int 0, .null, .null, .null, .int 0, .null, .null, .null, .null, .null, .null, .null, .null, .null, .int 0])) :: ws0) s H locs := hw
  refine lv_aload_n C.1 C.2.1 dX10_init_28 rfl (lv_at hl 0 rfl) ?_
  refine lv_sipush (v := (420 : Int32)) C.1 C.2.1 dX10_init_29 (by decide) ?_
  refine u_newI C hw kw_790 420 (by decide) rfl (by decide) (Nat.le_of_ble_eq_true rfl) (Nat.le_of_ble_eq_true rfl) dX10_init_32 (fun q4 H hw => ?_)
  replace hw := uw_front hw
  replace hw : uw X ((q4, xrI X 420 (fun _ => 0)) :: (q3, xrI X 6 (fun _ => 0)) :: (q2, xrI X 6 (fun _ => 0)) :: (q1, xrI X 7 (fun _ => 0)) :: (a, .inr (9, [.int 0, .int 0, .ref (q1), .ref (q2), .ref (q3), .null, .null, .int 0, .int 0, .null, .null, .null, .int 0, .null, .null, .null, .null, .null, .null, .null, .null, .null, .int 0])) :: ws0) s H locs := hw
  refine u_putF C hi hw 4 5 rfl rfl ixX10 tyX10 tyX10_ok nmX10 (by decide) kw_575 rfl rfl (tyX10_ok 5 (by decide)) rfl rfl (Nat.le_of_ble_eq_true rfl) dX10_init_34 (fun H locs hw => ?_)
  replace hw : uw X ((q4, xrI X 420 (fun _ => 0)) :: (q3, xrI X 6 (fun _ => 0)) :: (q2, xrI X 6 (fun _ => 0)) :: (q1, xrI X 7 (fun _ => 0)) :: (a, .inr (9, [.int 0, .int 0, .ref (q1), .ref (q2), .ref (q3), .ref (q4), .null, .int 0, .int 0, .null, .null, .null, .int 0, .null, .null, .null, .null, .null, .null, .null, .null, .null, .int 0])) :: ws0) s H locs := hw
  refine lv_aload_n C.1 C.2.1 dX10_init_37 rfl (lv_at hl 0 rfl) ?_
  refine lv_sipush (v := (180 : Int32)) C.1 C.2.1 dX10_init_38 (by decide) ?_
  refine u_newI C hw kw_790 180 (by decide) rfl (by decide) (Nat.le_of_ble_eq_true rfl) (Nat.le_of_ble_eq_true rfl) dX10_init_41 (fun q5 H hw => ?_)
  replace hw := uw_front hw
  replace hw : uw X ((q5, xrI X 180 (fun _ => 0)) :: (q4, xrI X 420 (fun _ => 0)) :: (q3, xrI X 6 (fun _ => 0)) :: (q2, xrI X 6 (fun _ => 0)) :: (q1, xrI X 7 (fun _ => 0)) :: (a, .inr (9, [.int 0, .int 0, .ref (q1), .ref (q2), .ref (q3), .ref (q4), .null, .int 0, .int 0, .null, .null, .null, .int 0, .null, .null, .null, .null, .null, .null, .null, .null, .null, .int 0])) :: ws0) s H locs := hw
  refine u_putF C hi hw 5 6 rfl rfl ixX10 tyX10 tyX10_ok nmX10 (by decide) kw_573 rfl rfl (tyX10_ok 6 (by decide)) rfl rfl (Nat.le_of_ble_eq_true rfl) dX10_init_43 (fun H locs hw => ?_)
  replace hw : uw X ((q5, xrI X 180 (fun _ => 0)) :: (q4, xrI X 420 (fun _ => 0)) :: (q3, xrI X 6 (fun _ => 0)) :: (q2, xrI X 6 (fun _ => 0)) :: (q1, xrI X 7 (fun _ => 0)) :: (a, .inr (9, [.int 0, .int 0, .ref (q1), .ref (q2), .ref (q3), .ref (q4), .ref (q5), .int 0, .int 0, .null, .null, .null, .int 0, .null, .null, .null, .null, .null, .null, .null, .null, .null, .int 0])) :: ws0) s H locs := hw
  refine lv_aload_n C.1 C.2.1 dX10_init_46 rfl (lv_at hl 0 rfl) ?_
  refine lv_bipush (v := (7 : Int32)) C.1 C.2.1 dX10_init_47 (by decide) ?_
  refine u_newI C hw kw_790 7 (by decide) rfl (by decide) (Nat.le_of_ble_eq_true rfl) (Nat.le_of_ble_eq_true rfl) dX10_init_49 (fun q6 H hw => ?_)
  replace hw := uw_front hw
  replace hw : uw X ((q6, xrI X 7 (fun _ => 0)) :: (q5, xrI X 180 (fun _ => 0)) :: (q4, xrI X 420 (fun _ => 0)) :: (q3, xrI X 6 (fun _ => 0)) :: (q2, xrI X 6 (fun _ => 0)) :: (q1, xrI X 7 (fun _ => 0)) :: (a, .inr (9, [.int 0, .int 0, .ref (q1), .ref (q2), .ref (q3), .ref (q4), .ref (q5), .int 0, .int 0, .null, .null, .null, .int 0, .null, .null, .null, .null, .null, .null, .null, .null, .null, .int 0])) :: ws0) s H locs := hw
  refine u_putF C hi hw 6 9 rfl rfl ixX10 tyX10 tyX10_ok nmX10 (by decide) kw_535 rfl rfl (tyX10_ok 9 (by decide)) rfl rfl (Nat.le_of_ble_eq_true rfl) dX10_init_51 (fun H locs hw => ?_)
  replace hw : uw X ((q6, xrI X 7 (fun _ => 0)) :: (q5, xrI X 180 (fun _ => 0)) :: (q4, xrI X 420 (fun _ => 0)) :: (q3, xrI X 6 (fun _ => 0)) :: (q2, xrI X 6 (fun _ => 0)) :: (q1, xrI X 7 (fun _ => 0)) :: (a, .inr (9, [.int 0, .int 0, .ref (q1), .ref (q2), .ref (q3), .ref (q4), .ref (q5), .int 0, .int 0, .ref (q6), .null, .null, .int 0, .null, .null, .null, .null, .null, .null, .null, .null, .null, .int 0])) :: ws0) s H locs := hw
  refine lv_aload_n C.1 C.2.1 dX10_init_54 rfl (lv_at hl 0 rfl) ?_
  refine lv_bipush (v := (6 : Int32)) C.1 C.2.1 dX10_init_55 (by decide) ?_
  refine u_newI C hw kw_790 6 (by decide) rfl (by decide) (Nat.le_of_ble_eq_true rfl) (Nat.le_of_ble_eq_true rfl) dX10_init_57 (fun q7 H hw => ?_)
  replace hw := uw_front hw
  replace hw : uw X ((q7, xrI X 6 (fun _ => 0)) :: (q6, xrI X 7 (fun _ => 0)) :: (q5, xrI X 180 (fun _ => 0)) :: (q4, xrI X 420 (fun _ => 0)) :: (q3, xrI X 6 (fun _ => 0)) :: (q2, xrI X 6 (fun _ => 0)) :: (q1, xrI X 7 (fun _ => 0)) :: (a, .inr (9, [.int 0, .int 0, .ref (q1), .ref (q2), .ref (q3), .ref (q4), .ref (q5), .int 0, .int 0, .ref (q6), .null, .null, .int 0, .null, .null, .null, .null, .null, .null, .null, .null, .null, .int 0])) :: ws0) s H locs := hw
  refine u_putF C hi hw 7 10 rfl rfl ixX10 tyX10 tyX10_ok nmX10 (by decide) kw_531 rfl rfl (tyX10_ok 10 (by decide)) rfl rfl (Nat.le_of_ble_eq_true rfl) dX10_init_59 (fun H locs hw => ?_)
  replace hw : uw X ((q7, xrI X 6 (fun _ => 0)) :: (q6, xrI X 7 (fun _ => 0)) :: (q5, xrI X 180 (fun _ => 0)) :: (q4, xrI X 420 (fun _ => 0)) :: (q3, xrI X 6 (fun _ => 0)) :: (q2, xrI X 6 (fun _ => 0)) :: (q1, xrI X 7 (fun _ => 0)) :: (a, .inr (9, [.int 0, .int 0, .ref (q1), .ref (q2), .ref (q3), .ref (q4), .ref (q5), .int 0, .int 0, .ref (q6), .ref (q7), .null, .int 0, .null, .null, .null, .null, .null, .null, .null, .null, .null, .int 0])) :: ws0) s H locs := hw
  refine lv_aload_n C.1 C.2.1 dX10_init_62 rfl (lv_at hl 0 rfl) ?_
  refine lv_bipush (v := (6 : Int32)) C.1 C.2.1 dX10_init_63 (by decide) ?_
  refine u_newI C hw kw_790 6 (by decide) rfl (by decide) (Nat.le_of_ble_eq_true rfl) (Nat.le_of_ble_eq_true rfl) dX10_init_65 (fun q8 H hw => ?_)
  replace hw := uw_front hw
  replace hw : uw X ((q8, xrI X 6 (fun _ => 0)) :: (q7, xrI X 6 (fun _ => 0)) :: (q6, xrI X 7 (fun _ => 0)) :: (q5, xrI X 180 (fun _ => 0)) :: (q4, xrI X 420 (fun _ => 0)) :: (q3, xrI X 6 (fun _ => 0)) :: (q2, xrI X 6 (fun _ => 0)) :: (q1, xrI X 7 (fun _ => 0)) :: (a, .inr (9, [.int 0, .int 0, .ref (q1), .ref (q2), .ref (q3), .ref (q4), .ref (q5), .int 0, .int 0, .ref (q6), .ref (q7), .null, .int 0, .null, .null, .null, .null, .null, .null, .null, .null, .null, .int 0])) :: ws0) s H locs := hw
  refine u_putF C hi hw 8 11 rfl rfl ixX10 tyX10 tyX10_ok nmX10 (by decide) kw_533 rfl rfl (tyX10_ok 11 (by decide)) rfl rfl (Nat.le_of_ble_eq_true rfl) dX10_init_67 (fun H locs hw => ?_)
  replace hw : uw X ((q8, xrI X 6 (fun _ => 0)) :: (q7, xrI X 6 (fun _ => 0)) :: (q6, xrI X 7 (fun _ => 0)) :: (q5, xrI X 180 (fun _ => 0)) :: (q4, xrI X 420 (fun _ => 0)) :: (q3, xrI X 6 (fun _ => 0)) :: (q2, xrI X 6 (fun _ => 0)) :: (q1, xrI X 7 (fun _ => 0)) :: (a, .inr (9, [.int 0, .int 0, .ref (q1), .ref (q2), .ref (q3), .ref (q4), .ref (q5), .int 0, .int 0, .ref (q6), .ref (q7), .ref (q8), .int 0, .null, .null, .null, .null, .null, .null, .null, .null, .null, .int 0])) :: ws0) s H locs := hw
  refine lv_aload_n C.1 C.2.1 dX10_init_70 rfl (lv_at hl 0 rfl) ?_
  refine lv_bipush (v := (10 : Int32)) C.1 C.2.1 dX10_init_71 (by decide) ?_
  refine u_newI C hw kw_790 10 (by decide) rfl (by decide) (Nat.le_of_ble_eq_true rfl) (Nat.le_of_ble_eq_true rfl) dX10_init_73 (fun q9 H hw => ?_)
  replace hw := uw_front hw
  replace hw : uw X ((q9, xrI X 10 (fun _ => 0)) :: (q8, xrI X 6 (fun _ => 0)) :: (q7, xrI X 6 (fun _ => 0)) :: (q6, xrI X 7 (fun _ => 0)) :: (q5, xrI X 180 (fun _ => 0)) :: (q4, xrI X 420 (fun _ => 0)) :: (q3, xrI X 6 (fun _ => 0)) :: (q2, xrI X 6 (fun _ => 0)) :: (q1, xrI X 7 (fun _ => 0)) :: (a, .inr (9, [.int 0, .int 0, .ref (q1), .ref (q2), .ref (q3), .ref (q4), .ref (q5), .int 0, .int 0, .ref (q6), .ref (q7), .ref (q8), .int 0, .null, .null, .null, .null, .null, .null, .null, .null, .null, .int 0])) :: ws0) s H locs := hw
  refine u_putF C hi hw 9 13 rfl rfl ixX10 tyX10 tyX10_ok nmX10 (by decide) kw_692 rfl rfl (tyX10_ok 13 (by decide)) rfl rfl (Nat.le_of_ble_eq_true rfl) dX10_init_75 (fun H locs hw => ?_)
  replace hw : uw X ((q9, xrI X 10 (fun _ => 0)) :: (q8, xrI X 6 (fun _ => 0)) :: (q7, xrI X 6 (fun _ => 0)) :: (q6, xrI X 7 (fun _ => 0)) :: (q5, xrI X 180 (fun _ => 0)) :: (q4, xrI X 420 (fun _ => 0)) :: (q3, xrI X 6 (fun _ => 0)) :: (q2, xrI X 6 (fun _ => 0)) :: (q1, xrI X 7 (fun _ => 0)) :: (a, .inr (9, [.int 0, .int 0, .ref (q1), .ref (q2), .ref (q3), .ref (q4), .ref (q5), .int 0, .int 0, .ref (q6), .ref (q7), .ref (q8), .int 0, .ref (q9), .null, .null, .null, .null, .null, .null, .null, .null, .int 0])) :: ws0) s H locs := hw
  refine lv_aload_n C.1 C.2.1 dX10_init_78 rfl (lv_at hl 0 rfl) ?_
  refine lv_bipush (v := (10 : Int32)) C.1 C.2.1 dX10_init_79 (by decide) ?_
  refine u_newI C hw kw_790 10 (by decide) rfl (by decide) (Nat.le_of_ble_eq_true rfl) (Nat.le_of_ble_eq_true rfl) dX10_init_81 (fun q10 H hw => ?_)
  replace hw := uw_front hw
  replace hw : uw X ((q10, xrI X 10 (fun _ => 0)) :: (q9, xrI X 10 (fun _ => 0)) :: (q8, xrI X 6 (fun _ => 0)) :: (q7, xrI X 6 (fun _ => 0)) :: (q6, xrI X 7 (fun _ => 0)) :: (q5, xrI X 180 (fun _ => 0)) :: (q4, xrI X 420 (fun _ => 0)) :: (q3, xrI X 6 (fun _ => 0)) :: (q2, xrI X 6 (fun _ => 0)) :: (q1, xrI X 7 (fun _ => 0)) :: (a, .inr (9, [.int 0, .int 0, .ref (q1), .ref (q2), .ref (q3), .ref (q4), .ref (q5), .int 0, .int 0, .ref (q6), .ref (q7), .ref (q8), .int 0, .ref (q9), .null, .null, .null, .null, .null, .null, .null, .null, .int 0])) :: ws0) s H locs := hw
  refine u_putF C hi hw 10 14 rfl rfl ixX10 tyX10 tyX10_ok nmX10 (by decide) kw_694 rfl rfl (tyX10_ok 14 (by decide)) rfl rfl (Nat.le_of_ble_eq_true rfl) dX10_init_83 (fun H locs hw => ?_)
  replace hw : uw X ((q10, xrI X 10 (fun _ => 0)) :: (q9, xrI X 10 (fun _ => 0)) :: (q8, xrI X 6 (fun _ => 0)) :: (q7, xrI X 6 (fun _ => 0)) :: (q6, xrI X 7 (fun _ => 0)) :: (q5, xrI X 180 (fun _ => 0)) :: (q4, xrI X 420 (fun _ => 0)) :: (q3, xrI X 6 (fun _ => 0)) :: (q2, xrI X 6 (fun _ => 0)) :: (q1, xrI X 7 (fun _ => 0)) :: (a, .inr (9, [.int 0, .int 0, .ref (q1), .ref (q2), .ref (q3), .ref (q4), .ref (q5), .int 0, .int 0, .ref (q6), .ref (q7), .ref (q8), .int 0, .ref (q9), .ref (q10), .null, .null, .null, .null, .null, .null, .null, .int 0])) :: ws0) s H locs := hw
  refine lv_aload_n C.1 C.2.1 dX10_init_86 rfl (lv_at hl 0 rfl) ?_
  refine lv_bipush (v := (10 : Int32)) C.1 C.2.1 dX10_init_87 (by decide) ?_
  refine u_newI C hw kw_790 10 (by decide) rfl (by decide) (Nat.le_of_ble_eq_true rfl) (Nat.le_of_ble_eq_true rfl) dX10_init_89 (fun q11 H hw => ?_)
  replace hw := uw_front hw
  replace hw : uw X ((q11, xrI X 10 (fun _ => 0)) :: (q10, xrI X 10 (fun _ => 0)) :: (q9, xrI X 10 (fun _ => 0)) :: (q8, xrI X 6 (fun _ => 0)) :: (q7, xrI X 6 (fun _ => 0)) :: (q6, xrI X 7 (fun _ => 0)) :: (q5, xrI X 180 (fun _ => 0)) :: (q4, xrI X 420 (fun _ => 0)) :: (q3, xrI X 6 (fun _ => 0)) :: (q2, xrI X 6 (fun _ => 0)) :: (q1, xrI X 7 (fun _ => 0)) :: (a, .inr (9, [.int 0, .int 0, .ref (q1), .ref (q2), .ref (q3), .ref (q4), .ref (q5), .int 0, .int 0, .ref (q6), .ref (q7), .ref (q8), .int 0, .ref (q9), .ref (q10), .null, .null, .null, .null, .null, .null, .null, .int 0])) :: ws0) s H locs := hw
  refine u_putF C hi hw 11 15 rfl rfl ixX10 tyX10 tyX10_ok nmX10 (by decide) kw_696 rfl rfl (tyX10_ok 15 (by decide)) rfl rfl (Nat.le_of_ble_eq_true rfl) dX10_init_91 (fun H locs hw => ?_)
  replace hw : uw X ((q11, xrI X 10 (fun _ => 0)) :: (q10, xrI X 10 (fun _ => 0)) :: (q9, xrI X 10 (fun _ => 0)) :: (q8, xrI X 6 (fun _ => 0)) :: (q7, xrI X 6 (fun _ => 0)) :: (q6, xrI X 7 (fun _ => 0)) :: (q5, xrI X 180 (fun _ => 0)) :: (q4, xrI X 420 (fun _ => 0)) :: (q3, xrI X 6 (fun _ => 0)) :: (q2, xrI X 6 (fun _ => 0)) :: (q1, xrI X 7 (fun _ => 0)) :: (a, .inr (9, [.int 0, .int 0, .ref (q1), .ref (q2), .ref (q3), .ref (q4), .ref (q5), .int 0, .int 0, .ref (q6), .ref (q7), .ref (q8), .int 0, .ref (q9), .ref (q10), .ref (q11), .null, .null, .null, .null, .null, .null, .int 0])) :: ws0) s H locs := hw
  refine lv_aload_n C.1 C.2.1 dX10_init_94 rfl (lv_at hl 0 rfl) ?_
  refine lv_bipush (v := (10 : Int32)) C.1 C.2.1 dX10_init_95 (by decide) ?_
  refine u_newI C hw kw_790 10 (by decide) rfl (by decide) (Nat.le_of_ble_eq_true rfl) (Nat.le_of_ble_eq_true rfl) dX10_init_97 (fun q12 H hw => ?_)
  replace hw := uw_front hw
  replace hw : uw X ((q12, xrI X 10 (fun _ => 0)) :: (q11, xrI X 10 (fun _ => 0)) :: (q10, xrI X 10 (fun _ => 0)) :: (q9, xrI X 10 (fun _ => 0)) :: (q8, xrI X 6 (fun _ => 0)) :: (q7, xrI X 6 (fun _ => 0)) :: (q6, xrI X 7 (fun _ => 0)) :: (q5, xrI X 180 (fun _ => 0)) :: (q4, xrI X 420 (fun _ => 0)) :: (q3, xrI X 6 (fun _ => 0)) :: (q2, xrI X 6 (fun _ => 0)) :: (q1, xrI X 7 (fun _ => 0)) :: (a, .inr (9, [.int 0, .int 0, .ref (q1), .ref (q2), .ref (q3), .ref (q4), .ref (q5), .int 0, .int 0, .ref (q6), .ref (q7), .ref (q8), .int 0, .ref (q9), .ref (q10), .ref (q11), .null, .null, .null, .null, .null, .null, .int 0])) :: ws0) s H locs := hw
  refine u_putF C hi hw 12 16 rfl rfl ixX10 tyX10 tyX10_ok nmX10 (by decide) kw_698 rfl rfl (tyX10_ok 16 (by decide)) rfl rfl (Nat.le_of_ble_eq_true rfl) dX10_init_99 (fun H locs hw => ?_)
  replace hw : uw X ((q12, xrI X 10 (fun _ => 0)) :: (q11, xrI X 10 (fun _ => 0)) :: (q10, xrI X 10 (fun _ => 0)) :: (q9, xrI X 10 (fun _ => 0)) :: (q8, xrI X 6 (fun _ => 0)) :: (q7, xrI X 6 (fun _ => 0)) :: (q6, xrI X 7 (fun _ => 0)) :: (q5, xrI X 180 (fun _ => 0)) :: (q4, xrI X 420 (fun _ => 0)) :: (q3, xrI X 6 (fun _ => 0)) :: (q2, xrI X 6 (fun _ => 0)) :: (q1, xrI X 7 (fun _ => 0)) :: (a, .inr (9, [.int 0, .int 0, .ref (q1), .ref (q2), .ref (q3), .ref (q4), .ref (q5), .int 0, .int 0, .ref (q6), .ref (q7), .ref (q8), .int 0, .ref (q9), .ref (q10), .ref (q11), .ref (q12), .null, .null, .null, .null, .null, .int 0])) :: ws0) s H locs := hw
  refine lv_aload_n C.1 C.2.1 dX10_init_102 rfl (lv_at hl 0 rfl) ?_
  refine lv_bipush (v := (60 : Int32)) C.1 C.2.1 dX10_init_103 (by decide) ?_
  refine u_newI C hw kw_790 60 (by decide) rfl (by decide) (Nat.le_of_ble_eq_true rfl) (Nat.le_of_ble_eq_true rfl) dX10_init_105 (fun q13 H hw => ?_)
  replace hw := uw_front hw
  replace hw : uw X ((q13, xrI X 60 (fun _ => 0)) :: (q12, xrI X 10 (fun _ => 0)) :: (q11, xrI X 10 (fun _ => 0)) :: (q10, xrI X 10 (fun _ => 0)) :: (q9, xrI X 10 (fun _ => 0)) :: (q8, xrI X 6 (fun _ => 0)) :: (q7, xrI X 6 (fun _ => 0)) :: (q6, xrI X 7 (fun _ => 0)) :: (q5, xrI X 180 (fun _ => 0)) :: (q4, xrI X 420 (fun _ => 0)) :: (q3, xrI X 6 (fun _ => 0)) :: (q2, xrI X 6 (fun _ => 0)) :: (q1, xrI X 7 (fun _ => 0)) :: (a, .inr (9, [.int 0, .int 0, .ref (q1), .ref (q2), .ref (q3), .ref (q4), .ref (q5), .int 0, .int 0, .ref (q6), .ref (q7), .ref (q8), .int 0, .ref (q9), .ref (q10), .ref (q11), .ref (q12), .null, .null, .null, .null, .null, .int 0])) :: ws0) s H locs := hw
  refine u_putF C hi hw 13 17 rfl rfl ixX10 tyX10 tyX10_ok nmX10 (by decide) kw_706 rfl rfl (tyX10_ok 17 (by decide)) rfl rfl (Nat.le_of_ble_eq_true rfl) dX10_init_107 (fun H locs hw => ?_)
  replace hw : uw X ((q13, xrI X 60 (fun _ => 0)) :: (q12, xrI X 10 (fun _ => 0)) :: (q11, xrI X 10 (fun _ => 0)) :: (q10, xrI X 10 (fun _ => 0)) :: (q9, xrI X 10 (fun _ => 0)) :: (q8, xrI X 6 (fun _ => 0)) :: (q7, xrI X 6 (fun _ => 0)) :: (q6, xrI X 7 (fun _ => 0)) :: (q5, xrI X 180 (fun _ => 0)) :: (q4, xrI X 420 (fun _ => 0)) :: (q3, xrI X 6 (fun _ => 0)) :: (q2, xrI X 6 (fun _ => 0)) :: (q1, xrI X 7 (fun _ => 0)) :: (a, .inr (9, [.int 0, .int 0, .ref (q1), .ref (q2), .ref (q3), .ref (q4), .ref (q5), .int 0, .int 0, .ref (q6), .ref (q7), .ref (q8), .int 0, .ref (q9), .ref (q10), .ref (q11), .ref (q12), .ref (q13), .null, .null, .null, .null, .int 0])) :: ws0) s H locs := hw
  refine lv_aload_n C.1 C.2.1 dX10_init_110 rfl (lv_at hl 0 rfl) ?_
  refine lv_iconst (v := (4 : Int32)) C.1 C.2.1 dX10_init_111 (by decide) ?_
  refine u_newI C hw kw_790 4 (by decide) rfl (by decide) (Nat.le_of_ble_eq_true rfl) (Nat.le_of_ble_eq_true rfl) dX10_init_112 (fun q14 H hw => ?_)
  replace hw := uw_front hw
  replace hw : uw X ((q14, xrI X 4 (fun _ => 0)) :: (q13, xrI X 60 (fun _ => 0)) :: (q12, xrI X 10 (fun _ => 0)) :: (q11, xrI X 10 (fun _ => 0)) :: (q10, xrI X 10 (fun _ => 0)) :: (q9, xrI X 10 (fun _ => 0)) :: (q8, xrI X 6 (fun _ => 0)) :: (q7, xrI X 6 (fun _ => 0)) :: (q6, xrI X 7 (fun _ => 0)) :: (q5, xrI X 180 (fun _ => 0)) :: (q4, xrI X 420 (fun _ => 0)) :: (q3, xrI X 6 (fun _ => 0)) :: (q2, xrI X 6 (fun _ => 0)) :: (q1, xrI X 7 (fun _ => 0)) :: (a, .inr (9, [.int 0, .int 0, .ref (q1), .ref (q2), .ref (q3), .ref (q4), .ref (q5), .int 0, .int 0, .ref (q6), .ref (q7), .ref (q8), .int 0, .ref (q9), .ref (q10), .ref (q11), .ref (q12), .ref (q13), .null, .null, .null, .null, .int 0])) :: ws0) s H locs := hw
  refine u_putF C hi hw 14 18 rfl rfl ixX10 tyX10 tyX10_ok nmX10 (by decide) kw_551 rfl rfl (tyX10_ok 18 (by decide)) rfl rfl (Nat.le_of_ble_eq_true rfl) dX10_init_114 (fun H locs hw => ?_)
  replace hw : uw X ((q14, xrI X 4 (fun _ => 0)) :: (q13, xrI X 60 (fun _ => 0)) :: (q12, xrI X 10 (fun _ => 0)) :: (q11, xrI X 10 (fun _ => 0)) :: (q10, xrI X 10 (fun _ => 0)) :: (q9, xrI X 10 (fun _ => 0)) :: (q8, xrI X 6 (fun _ => 0)) :: (q7, xrI X 6 (fun _ => 0)) :: (q6, xrI X 7 (fun _ => 0)) :: (q5, xrI X 180 (fun _ => 0)) :: (q4, xrI X 420 (fun _ => 0)) :: (q3, xrI X 6 (fun _ => 0)) :: (q2, xrI X 6 (fun _ => 0)) :: (q1, xrI X 7 (fun _ => 0)) :: (a, .inr (9, [.int 0, .int 0, .ref (q1), .ref (q2), .ref (q3), .ref (q4), .ref (q5), .int 0, .int 0, .ref (q6), .ref (q7), .ref (q8), .int 0, .ref (q9), .ref (q10), .ref (q11), .ref (q12), .ref (q13), .ref (q14), .null, .null, .null, .int 0])) :: ws0) s H locs := hw
  refine lv_aload_n C.1 C.2.1 dX10_init_117 rfl (lv_at hl 0 rfl) ?_
  refine lv_iconst (v := (4 : Int32)) C.1 C.2.1 dX10_init_118 (by decide) ?_
  refine u_newI C hw kw_790 4 (by decide) rfl (by decide) (Nat.le_of_ble_eq_true rfl) (Nat.le_of_ble_eq_true rfl) dX10_init_119 (fun q15 H hw => ?_)
  replace hw := uw_front hw
  replace hw : uw X ((q15, xrI X 4 (fun _ => 0)) :: (q14, xrI X 4 (fun _ => 0)) :: (q13, xrI X 60 (fun _ => 0)) :: (q12, xrI X 10 (fun _ => 0)) :: (q11, xrI X 10 (fun _ => 0)) :: (q10, xrI X 10 (fun _ => 0)) :: (q9, xrI X 10 (fun _ => 0)) :: (q8, xrI X 6 (fun _ => 0)) :: (q7, xrI X 6 (fun _ => 0)) :: (q6, xrI X 7 (fun _ => 0)) :: (q5, xrI X 180 (fun _ => 0)) :: (q4, xrI X 420 (fun _ => 0)) :: (q3, xrI X 6 (fun _ => 0)) :: (q2, xrI X 6 (fun _ => 0)) :: (q1, xrI X 7 (fun _ => 0)) :: (a, .inr (9, [.int 0, .int 0, .ref (q1), .ref (q2), .ref (q3), .ref (q4), .ref (q5), .int 0, .int 0, .ref (q6), .ref (q7), .ref (q8), .int 0, .ref (q9), .ref (q10), .ref (q11), .ref (q12), .ref (q13), .ref (q14), .null, .null, .null, .int 0])) :: ws0) s H locs := hw
  refine u_putF C hi hw 15 19 rfl rfl ixX10 tyX10 tyX10_ok nmX10 (by decide) kw_589 rfl rfl (tyX10_ok 19 (by decide)) rfl rfl (Nat.le_of_ble_eq_true rfl) dX10_init_121 (fun H locs hw => ?_)
  replace hw : uw X ((q15, xrI X 4 (fun _ => 0)) :: (q14, xrI X 4 (fun _ => 0)) :: (q13, xrI X 60 (fun _ => 0)) :: (q12, xrI X 10 (fun _ => 0)) :: (q11, xrI X 10 (fun _ => 0)) :: (q10, xrI X 10 (fun _ => 0)) :: (q9, xrI X 10 (fun _ => 0)) :: (q8, xrI X 6 (fun _ => 0)) :: (q7, xrI X 6 (fun _ => 0)) :: (q6, xrI X 7 (fun _ => 0)) :: (q5, xrI X 180 (fun _ => 0)) :: (q4, xrI X 420 (fun _ => 0)) :: (q3, xrI X 6 (fun _ => 0)) :: (q2, xrI X 6 (fun _ => 0)) :: (q1, xrI X 7 (fun _ => 0)) :: (a, .inr (9, [.int 0, .int 0, .ref (q1), .ref (q2), .ref (q3), .ref (q4), .ref (q5), .int 0, .int 0, .ref (q6), .ref (q7), .ref (q8), .int 0, .ref (q9), .ref (q10), .ref (q11), .ref (q12), .ref (q13), .ref (q14), .ref (q15), .null, .null, .int 0])) :: ws0) s H locs := hw
  refine lv_aload_n C.1 C.2.1 dX10_init_124 rfl (lv_at hl 0 rfl) ?_
  refine lv_sipush (v := (240 : Int32)) C.1 C.2.1 dX10_init_125 (by decide) ?_
  refine u_newI C hw kw_790 240 (by decide) rfl (by decide) (Nat.le_of_ble_eq_true rfl) (Nat.le_of_ble_eq_true rfl) dX10_init_128 (fun q16 H hw => ?_)
  replace hw := uw_front hw
  replace hw : uw X ((q16, xrI X 240 (fun _ => 0)) :: (q15, xrI X 4 (fun _ => 0)) :: (q14, xrI X 4 (fun _ => 0)) :: (q13, xrI X 60 (fun _ => 0)) :: (q12, xrI X 10 (fun _ => 0)) :: (q11, xrI X 10 (fun _ => 0)) :: (q10, xrI X 10 (fun _ => 0)) :: (q9, xrI X 10 (fun _ => 0)) :: (q8, xrI X 6 (fun _ => 0)) :: (q7, xrI X 6 (fun _ => 0)) :: (q6, xrI X 7 (fun _ => 0)) :: (q5, xrI X 180 (fun _ => 0)) :: (q4, xrI X 420 (fun _ => 0)) :: (q3, xrI X 6 (fun _ => 0)) :: (q2, xrI X 6 (fun _ => 0)) :: (q1, xrI X 7 (fun _ => 0)) :: (a, .inr (9, [.int 0, .int 0, .ref (q1), .ref (q2), .ref (q3), .ref (q4), .ref (q5), .int 0, .int 0, .ref (q6), .ref (q7), .ref (q8), .int 0, .ref (q9), .ref (q10), .ref (q11), .ref (q12), .ref (q13), .ref (q14), .ref (q15), .null, .null, .int 0])) :: ws0) s H locs := hw
  refine u_putF C hi hw 16 20 rfl rfl ixX10 tyX10 tyX10_ok nmX10 (by decide) kw_513 rfl rfl (tyX10_ok 20 (by decide)) rfl rfl (Nat.le_of_ble_eq_true rfl) dX10_init_130 (fun H locs hw => ?_)
  replace hw : uw X ((q16, xrI X 240 (fun _ => 0)) :: (q15, xrI X 4 (fun _ => 0)) :: (q14, xrI X 4 (fun _ => 0)) :: (q13, xrI X 60 (fun _ => 0)) :: (q12, xrI X 10 (fun _ => 0)) :: (q11, xrI X 10 (fun _ => 0)) :: (q10, xrI X 10 (fun _ => 0)) :: (q9, xrI X 10 (fun _ => 0)) :: (q8, xrI X 6 (fun _ => 0)) :: (q7, xrI X 6 (fun _ => 0)) :: (q6, xrI X 7 (fun _ => 0)) :: (q5, xrI X 180 (fun _ => 0)) :: (q4, xrI X 420 (fun _ => 0)) :: (q3, xrI X 6 (fun _ => 0)) :: (q2, xrI X 6 (fun _ => 0)) :: (q1, xrI X 7 (fun _ => 0)) :: (a, .inr (9, [.int 0, .int 0, .ref (q1), .ref (q2), .ref (q3), .ref (q4), .ref (q5), .int 0, .int 0, .ref (q6), .ref (q7), .ref (q8), .int 0, .ref (q9), .ref (q10), .ref (q11), .ref (q12), .ref (q13), .ref (q14), .ref (q15), .ref (q16), .null, .int 0])) :: ws0) s H locs := hw
  refine lv_aload_n C.1 C.2.1 dX10_init_133 rfl (lv_at hl 0 rfl) ?_
  refine lv_bipush (v := (60 : Int32)) C.1 C.2.1 dX10_init_134 (by decide) ?_
  refine u_newI C hw kw_790 60 (by decide) rfl (by decide) (Nat.le_of_ble_eq_true rfl) (Nat.le_of_ble_eq_true rfl) dX10_init_136 (fun q17 H hw => ?_)
  replace hw := uw_front hw
  replace hw : uw X ((q17, xrI X 60 (fun _ => 0)) :: (q16, xrI X 240 (fun _ => 0)) :: (q15, xrI X 4 (fun _ => 0)) :: (q14, xrI X 4 (fun _ => 0)) :: (q13, xrI X 60 (fun _ => 0)) :: (q12, xrI X 10 (fun _ => 0)) :: (q11, xrI X 10 (fun _ => 0)) :: (q10, xrI X 10 (fun _ => 0)) :: (q9, xrI X 10 (fun _ => 0)) :: (q8, xrI X 6 (fun _ => 0)) :: (q7, xrI X 6 (fun _ => 0)) :: (q6, xrI X 7 (fun _ => 0)) :: (q5, xrI X 180 (fun _ => 0)) :: (q4, xrI X 420 (fun _ => 0)) :: (q3, xrI X 6 (fun _ => 0)) :: (q2, xrI X 6 (fun _ => 0)) :: (q1, xrI X 7 (fun _ => 0)) :: (a, .inr (9, [.int 0, .int 0, .ref (q1), .ref (q2), .ref (q3), .ref (q4), .ref (q5), .int 0, .int 0, .ref (q6), .ref (q7), .ref (q8), .int 0, .ref (q9), .ref (q10), .ref (q11), .ref (q12), .ref (q13), .ref (q14), .ref (q15), .ref (q16), .null, .int 0])) :: ws0) s H locs := hw
  refine u_putF C hi hw 17 21 rfl rfl ixX10 tyX10 tyX10_ok nmX10 (by decide) kw_754 rfl rfl (tyX10_ok 21 (by decide)) rfl rfl (Nat.le_of_ble_eq_true rfl) dX10_init_138 (fun H locs hw => ?_)
  replace hw : uw X ((q17, xrI X 60 (fun _ => 0)) :: (q16, xrI X 240 (fun _ => 0)) :: (q15, xrI X 4 (fun _ => 0)) :: (q14, xrI X 4 (fun _ => 0)) :: (q13, xrI X 60 (fun _ => 0)) :: (q12, xrI X 10 (fun _ => 0)) :: (q11, xrI X 10 (fun _ => 0)) :: (q10, xrI X 10 (fun _ => 0)) :: (q9, xrI X 10 (fun _ => 0)) :: (q8, xrI X 6 (fun _ => 0)) :: (q7, xrI X 6 (fun _ => 0)) :: (q6, xrI X 7 (fun _ => 0)) :: (q5, xrI X 180 (fun _ => 0)) :: (q4, xrI X 420 (fun _ => 0)) :: (q3, xrI X 6 (fun _ => 0)) :: (q2, xrI X 6 (fun _ => 0)) :: (q1, xrI X 7 (fun _ => 0)) :: (a, .inr (9, [.int 0, .int 0, .ref (q1), .ref (q2), .ref (q3), .ref (q4), .ref (q5), .int 0, .int 0, .ref (q6), .ref (q7), .ref (q8), .int 0, .ref (q9), .ref (q10), .ref (q11), .ref (q12), .ref (q13), .ref (q14), .ref (q15), .ref (q16), .ref (q17), .int 0])) :: ws0) s H locs := hw
  refine lv_iconst (v := (0 : Int32)) C.1 C.2.1 dX10_init_141 (by decide) ?_
  refine lv_istore_n (lv' := [(1, .int ((0 : Int32))), (0, .ref (a))]) C.1 C.2.1 dX10_init_142 rfl hl (by decide) rfl (fun ls hl => ?_)
  refine lv_iload_n C.1 C.2.1 dX10_init_143 rfl (lv_at hl 0 rfl) ?_
  refine lv_iconst (v := (4 : Int32)) C.1 C.2.1 dX10_init_144 (by decide) ?_
  refine lv_icmp_ge (tgt := 161) C.1 C.2.1 dX10_init_145 (by decide) (fun c18 => ?_) (fun c18 => ?_)
  · exact absurd c18 (by decide)
  refine lv_aload_n C.1 C.2.1 dX10_init_148 rfl (lv_at hl 1 rfl) ?_
  refine u_get (v := .ref (q14)) C hw 17 18 rfl rfl ixX10 (by decide) kw_551 rfl dX10_init_149 ?_
  refine lv_iload_n C.1 C.2.1 dX10_init_152 rfl (lv_at hl 0 rfl) ?_
  refine lv_iconst (v := (-1 : Int32)) C.1 C.2.1 dX10_init_153 (by decide) ?_
  refine u_iast C hw 3 rfl (inB_in (by decide)) dX10_init_154 (fun H locs hw => ?_)
  replace hw : uw X ((q17, xrI X 60 (fun _ => 0)) :: (q16, xrI X 240 (fun _ => 0)) :: (q15, xrI X 4 (fun _ => 0)) :: (q14, xrI X 4 (upd (fun _ => 0) 0 (-1 : Int32))) :: (q13, xrI X 60 (fun _ => 0)) :: (q12, xrI X 10 (fun _ => 0)) :: (q11, xrI X 10 (fun _ => 0)) :: (q10, xrI X 10 (fun _ => 0)) :: (q9, xrI X 10 (fun _ => 0)) :: (q8, xrI X 6 (fun _ => 0)) :: (q7, xrI X 6 (fun _ => 0)) :: (q6, xrI X 7 (fun _ => 0)) :: (q5, xrI X 180 (fun _ => 0)) :: (q4, xrI X 420 (fun _ => 0)) :: (q3, xrI X 6 (fun _ => 0)) :: (q2, xrI X 6 (fun _ => 0)) :: (q1, xrI X 7 (fun _ => 0)) :: (a, .inr (9, [.int 0, .int 0, .ref (q1), .ref (q2), .ref (q3), .ref (q4), .ref (q5), .int 0, .int 0, .ref (q6), .ref (q7), .ref (q8), .int 0, .ref (q9), .ref (q10), .ref (q11), .ref (q12), .ref (q13), .ref (q14), .ref (q15), .ref (q16), .ref (q17), .int 0])) :: ws0) s H locs := hw
  refine lv_iinc (v := (1 : Int32)) (lv' := [(1, .int ((1 : Int32))), (0, .ref (a))]) C.1 C.2.1 dX10_init_155 hl (k := 0) rfl (by decide) (by decide) rfl (fun ls hl => ?_)
  refine lv_goto (tgt := 143) C.1 C.2.1 dX10_init_158 (by decide) ?_
  refine lv_iload_n C.1 C.2.1 dX10_init_143 rfl (lv_at hl 0 rfl) ?_
  refine lv_iconst (v := (4 : Int32)) C.1 C.2.1 dX10_init_144 (by decide) ?_
  refine lv_icmp_ge (tgt := 161) C.1 C.2.1 dX10_init_145 (by decide) (fun c19 => ?_) (fun c19 => ?_)
  · exact absurd c19 (by decide)
  refine lv_aload_n C.1 C.2.1 dX10_init_148 rfl (lv_at hl 1 rfl) ?_
  refine u_get (v := .ref (q14)) C hw 17 18 rfl rfl ixX10 (by decide) kw_551 rfl dX10_init_149 ?_
  refine lv_iload_n C.1 C.2.1 dX10_init_152 rfl (lv_at hl 0 rfl) ?_
  refine lv_iconst (v := (-1 : Int32)) C.1 C.2.1 dX10_init_153 (by decide) ?_
  refine u_iast C hw 3 rfl (inB_in (by decide)) dX10_init_154 (fun H locs hw => ?_)
  replace hw : uw X ((q17, xrI X 60 (fun _ => 0)) :: (q16, xrI X 240 (fun _ => 0)) :: (q15, xrI X 4 (fun _ => 0)) :: (q14, xrI X 4 (upd (upd (fun _ => 0) 0 (-1 : Int32)) 1 (-1 : Int32))) :: (q13, xrI X 60 (fun _ => 0)) :: (q12, xrI X 10 (fun _ => 0)) :: (q11, xrI X 10 (fun _ => 0)) :: (q10, xrI X 10 (fun _ => 0)) :: (q9, xrI X 10 (fun _ => 0)) :: (q8, xrI X 6 (fun _ => 0)) :: (q7, xrI X 6 (fun _ => 0)) :: (q6, xrI X 7 (fun _ => 0)) :: (q5, xrI X 180 (fun _ => 0)) :: (q4, xrI X 420 (fun _ => 0)) :: (q3, xrI X 6 (fun _ => 0)) :: (q2, xrI X 6 (fun _ => 0)) :: (q1, xrI X 7 (fun _ => 0)) :: (a, .inr (9, [.int 0, .int 0, .ref (q1), .ref (q2), .ref (q3), .ref (q4), .ref (q5), .int 0, .int 0, .ref (q6), .ref (q7), .ref (q8), .int 0, .ref (q9), .ref (q10), .ref (q11), .ref (q12), .ref (q13), .ref (q14), .ref (q15), .ref (q16), .ref (q17), .int 0])) :: ws0) s H locs := hw
  refine lv_iinc (v := (2 : Int32)) (lv' := [(1, .int ((2 : Int32))), (0, .ref (a))]) C.1 C.2.1 dX10_init_155 hl (k := 0) rfl (by decide) (by decide) rfl (fun ls hl => ?_)
  refine lv_goto (tgt := 143) C.1 C.2.1 dX10_init_158 (by decide) ?_
  refine lv_iload_n C.1 C.2.1 dX10_init_143 rfl (lv_at hl 0 rfl) ?_
  refine lv_iconst (v := (4 : Int32)) C.1 C.2.1 dX10_init_144 (by decide) ?_
  refine lv_icmp_ge (tgt := 161) C.1 C.2.1 dX10_init_145 (by decide) (fun c20 => ?_) (fun c20 => ?_)
  · exact absurd c20 (by decide)
  refine lv_aload_n C.1 C.2.1 dX10_init_148 rfl (lv_at hl 1 rfl) ?_
  refine u_get (v := .ref (q14)) C hw 17 18 rfl rfl ixX10 (by decide) kw_551 rfl dX10_init_149 ?_
  refine lv_iload_n C.1 C.2.1 dX10_init_152 rfl (lv_at hl 0 rfl) ?_
  refine lv_iconst (v := (-1 : Int32)) C.1 C.2.1 dX10_init_153 (by decide) ?_
  refine u_iast C hw 3 rfl (inB_in (by decide)) dX10_init_154 (fun H locs hw => ?_)
  replace hw : uw X ((q17, xrI X 60 (fun _ => 0)) :: (q16, xrI X 240 (fun _ => 0)) :: (q15, xrI X 4 (fun _ => 0)) :: (q14, xrI X 4 (upd (upd (upd (fun _ => 0) 0 (-1 : Int32)) 1 (-1 : Int32)) 2 (-1 : Int32))) :: (q13, xrI X 60 (fun _ => 0)) :: (q12, xrI X 10 (fun _ => 0)) :: (q11, xrI X 10 (fun _ => 0)) :: (q10, xrI X 10 (fun _ => 0)) :: (q9, xrI X 10 (fun _ => 0)) :: (q8, xrI X 6 (fun _ => 0)) :: (q7, xrI X 6 (fun _ => 0)) :: (q6, xrI X 7 (fun _ => 0)) :: (q5, xrI X 180 (fun _ => 0)) :: (q4, xrI X 420 (fun _ => 0)) :: (q3, xrI X 6 (fun _ => 0)) :: (q2, xrI X 6 (fun _ => 0)) :: (q1, xrI X 7 (fun _ => 0)) :: (a, .inr (9, [.int 0, .int 0, .ref (q1), .ref (q2), .ref (q3), .ref (q4), .ref (q5), .int 0, .int 0, .ref (q6), .ref (q7), .ref (q8), .int 0, .ref (q9), .ref (q10), .ref (q11), .ref (q12), .ref (q13), .ref (q14), .ref (q15), .ref (q16), .ref (q17), .int 0])) :: ws0) s H locs := hw
  refine lv_iinc (v := (3 : Int32)) (lv' := [(1, .int ((3 : Int32))), (0, .ref (a))]) C.1 C.2.1 dX10_init_155 hl (k := 0) rfl (by decide) (by decide) rfl (fun ls hl => ?_)
  refine lv_goto (tgt := 143) C.1 C.2.1 dX10_init_158 (by decide) ?_
  refine lv_iload_n C.1 C.2.1 dX10_init_143 rfl (lv_at hl 0 rfl) ?_
  refine lv_iconst (v := (4 : Int32)) C.1 C.2.1 dX10_init_144 (by decide) ?_
  refine lv_icmp_ge (tgt := 161) C.1 C.2.1 dX10_init_145 (by decide) (fun c21 => ?_) (fun c21 => ?_)
  · exact absurd c21 (by decide)
  refine lv_aload_n C.1 C.2.1 dX10_init_148 rfl (lv_at hl 1 rfl) ?_
  refine u_get (v := .ref (q14)) C hw 17 18 rfl rfl ixX10 (by decide) kw_551 rfl dX10_init_149 ?_
  refine lv_iload_n C.1 C.2.1 dX10_init_152 rfl (lv_at hl 0 rfl) ?_
  refine lv_iconst (v := (-1 : Int32)) C.1 C.2.1 dX10_init_153 (by decide) ?_
  refine u_iast C hw 3 rfl (inB_in (by decide)) dX10_init_154 (fun H locs hw => ?_)
  replace hw : uw X ((q17, xrI X 60 (fun _ => 0)) :: (q16, xrI X 240 (fun _ => 0)) :: (q15, xrI X 4 (fun _ => 0)) :: (q14, xrI X 4 (upd (upd (upd (upd (fun _ => 0) 0 (-1 : Int32)) 1 (-1 : Int32)) 2 (-1 : Int32)) 3 (-1 : Int32))) :: (q13, xrI X 60 (fun _ => 0)) :: (q12, xrI X 10 (fun _ => 0)) :: (q11, xrI X 10 (fun _ => 0)) :: (q10, xrI X 10 (fun _ => 0)) :: (q9, xrI X 10 (fun _ => 0)) :: (q8, xrI X 6 (fun _ => 0)) :: (q7, xrI X 6 (fun _ => 0)) :: (q6, xrI X 7 (fun _ => 0)) :: (q5, xrI X 180 (fun _ => 0)) :: (q4, xrI X 420 (fun _ => 0)) :: (q3, xrI X 6 (fun _ => 0)) :: (q2, xrI X 6 (fun _ => 0)) :: (q1, xrI X 7 (fun _ => 0)) :: (a, .inr (9, [.int 0, .int 0, .ref (q1), .ref (q2), .ref (q3), .ref (q4), .ref (q5), .int 0, .int 0, .ref (q6), .ref (q7), .ref (q8), .int 0, .ref (q9), .ref (q10), .ref (q11), .ref (q12), .ref (q13), .ref (q14), .ref (q15), .ref (q16), .ref (q17), .int 0])) :: ws0) s H locs := hw
  refine lv_iinc (v := (4 : Int32)) (lv' := [(1, .int ((4 : Int32))), (0, .ref (a))]) C.1 C.2.1 dX10_init_155 hl (k := 0) rfl (by decide) (by decide) rfl (fun ls hl => ?_)
  refine lv_goto (tgt := 143) C.1 C.2.1 dX10_init_158 (by decide) ?_
  refine lv_iload_n C.1 C.2.1 dX10_init_143 rfl (lv_at hl 0 rfl) ?_
  refine lv_iconst (v := (4 : Int32)) C.1 C.2.1 dX10_init_144 (by decide) ?_
  refine lv_icmp_ge (tgt := 161) C.1 C.2.1 dX10_init_145 (by decide) (fun c22 => ?_) (fun c22 => ?_)
  rotate_left
  · exact absurd (by decide) c22
  exact u_vret C (q1, q2, q3, q4, q5, q6, q7, q8, q9, q10, q11, q12, q13, q14, q15, q16, q17) hw hr hk dX10_init_161
