theorem kw_0 : Cond.code yX9_isWithin cX9_isWithin 2 (some .boolean) ∈ gtbl := gm1 166 rfl rfl
theorem kw_1 : Cond.initialized RX9 ∈ gtbl := gm1 1 rfl rfl
theorem nd_X9_isWithin : (yX9_isWithin).cls ≠ "java/lang/invoke/MethodHandle" ∧ (yX9_isWithin).cls ≠ "java/lang/invoke/VarHandle" ∧ (parseMethodDescriptor (yX9_isWithin).desc).map (fun d => d.parameters.length) = some 2 := by decide +kernel
theorem kw_3 : Cond.static yX9_isWithin ∈ gtbl := gm1 165 rfl rfl
theorem cS_X9_isWithin : xcS yX9_isWithin cX9_isWithin 2 (some .boolean) 2 := ⟨⟨kw_0, kw_1, nd_X9_isWithin⟩, kw_3⟩
theorem kw_5 : Cond.methodLink RX9 47 yX9_isWithin ∈ gtbl := gm1 164 rfl rfl
theorem kw_6 : Cond.fieldLink RX5 15 (TX5 1).1 (TX5 1).2.1 (TX5 1).2.2.1 ∈ gtbl := gm1 131 rfl rfl
theorem gf_X5_1 {p : Program} {l : Launch} {e : Env} {R : Room} {s : State} {m : MethodId} {args : Array Value} {below : List Frame} {meth : Method} {c : Code} {H : Heap} {locs : List Loc} {cells slots : Nat} {Q : State → Prop} {cc : ByteArray} {pc nL index : Nat} {ls : Array Slot} {rest : List Value} {X : XC} {ex : va_W} {z : XS} {own : String} (C : CallFix p m c cc nL s args gtbl own) (hw : xw X ex z s H locs) {j : Nat} (hj : j < 4) (hlink : Cond.fieldLink own index (TX5 1).1 (TX5 1).2.1 (TX5 1).2.2.1 ∈ gtbl) (hdg : decode cc pc = .ok (.getfield index, 3)) (kk : W p l e R s m args below meth c H locs cells slots Q (F0 m (pc + 3) ls (.int (gS z 5 1 j) :: rest))) : W p l e R s m args below meth c H locs cells slots Q (F0 m pc ls (.ref (X.2.2.1 5 j) :: rest)) :=
  x_get (k := 5) (j := j) C hw hj 1 (v := .int (gS z 5 1 j)) rfl rfl ixX5 (by decide) hlink rfl hdg kk
theorem kw_8 : Cond.fieldLink RX9 38 (TX9 4).1 (TX9 4).2.1 (TX9 4).2.2.1 ∈ gtbl := gm1 145 rfl rfl
theorem pf_X9_4 {p : Program} {l : Launch} {e : Env} {R : Room} {s : State} {m : MethodId} {args : Array Value} {below : List Frame} {meth : Method} {c : Code} {H : Heap} {locs : List Loc} {cells slots : Nat} {Q : State → Prop} {cc : ByteArray} {pc nL index : Nat} {ls : Array Slot} {rest : List Value} {X : XC} {ex : va_W} {z : XS} {own : String} (C : CallFix p m c cc nL s args gtbl own) (hw : xw X ex z s H locs) {v : Int32} (hlink : Cond.fieldLink own index (TX9 4).1 (TX9 4).2.1 (TX9 4).2.2.1 ∈ gtbl) (hdg : decode cc pc = .ok (.putfield index, 3)) (kk : ∀ (H1 : Heap) (locs1 : List Loc), xw X ex (pS z 0 4 0 v) s H1 locs1 → W p l e R s m args below meth c H1 locs1 cells slots Q (F0 m (pc + 3) ls rest)) : W p l e R s m args below meth c H locs cells slots Q (F0 m pc ls (.int v :: .ref (X.2.2.1 0 0) :: rest)) :=
  x_put (k := 0) (j := 0) C hw (Nat.le_of_ble_eq_true rfl) 4 (v := v) rfl rfl rfl ixX9 tyX9 tyX9_ok nmX9 (by decide) hlink rfl (by decide +kernel) (Nat.le_of_ble_eq_true rfl) hdg kk
theorem kw_10 : Cond.fieldLink RX5 19 (TX5 2).1 (TX5 2).2.1 (TX5 2).2.2.1 ∈ gtbl := gm1 133 rfl rfl
theorem gf_X5_2 {p : Program} {l : Launch} {e : Env} {R : Room} {s : State} {m : MethodId} {args : Array Value} {below : List Frame} {meth : Method} {c : Code} {H : Heap} {locs : List Loc} {cells slots : Nat} {Q : State → Prop} {cc : ByteArray} {pc nL index : Nat} {ls : Array Slot} {rest : List Value} {X : XC} {ex : va_W} {z : XS} {own : String} (C : CallFix p m c cc nL s args gtbl own) (hw : xw X ex z s H locs) {j : Nat} (hj : j < 4) (hlink : Cond.fieldLink own index (TX5 2).1 (TX5 2).2.1 (TX5 2).2.2.1 ∈ gtbl) (hdg : decode cc pc = .ok (.getfield index, 3)) (kk : W p l e R s m args below meth c H locs cells slots Q (F0 m (pc + 3) ls (.int (gS z 5 2 j) :: rest))) : W p l e R s m args below meth c H locs cells slots Q (F0 m pc ls (.ref (X.2.2.1 5 j) :: rest)) :=
  x_get (k := 5) (j := j) C hw hj 2 (v := .int (gS z 5 2 j)) rfl rfl ixX5 (by decide) hlink rfl hdg kk
theorem kw_12 : Cond.code yX6_partAt cX6_partAt 1 (some .int) ∈ gtbl := gm1 191 rfl rfl
theorem kw_13 : Cond.initialized RX6 ∈ gtbl := gm1 9 rfl rfl
theorem nd_X6_partAt : (yX6_partAt).cls ≠ "java/lang/invoke/MethodHandle" ∧ (yX6_partAt).cls ≠ "java/lang/invoke/VarHandle" ∧ (parseMethodDescriptor (yX6_partAt).desc).map (fun d => d.parameters.length) = some 1 := by decide +kernel
theorem kw_15 : Cond.static yX6_partAt ∈ gtbl := gm1 190 rfl rfl
theorem cS_X6_partAt : xcS yX6_partAt cX6_partAt 1 (some .int) 1 := ⟨⟨kw_12, kw_13, nd_X6_partAt⟩, kw_15⟩
theorem kw_17 : Cond.methodLink RX6 25 yX6_partAt ∈ gtbl := gm1 189 rfl rfl
theorem kw_18 : Cond.code yX6_gardenAt cX6_gardenAt 1 (some .int) ∈ gtbl := gm1 194 rfl rfl
theorem nd_X6_gardenAt : (yX6_gardenAt).cls ≠ "java/lang/invoke/MethodHandle" ∧ (yX6_gardenAt).cls ≠ "java/lang/invoke/VarHandle" ∧ (parseMethodDescriptor (yX6_gardenAt).desc).map (fun d => d.parameters.length) = some 1 := by decide +kernel
theorem kw_20 : Cond.static yX6_gardenAt ∈ gtbl := gm1 193 rfl rfl
theorem cS_X6_gardenAt : xcS yX6_gardenAt cX6_gardenAt 1 (some .int) 1 := ⟨⟨kw_18, kw_13, nd_X6_gardenAt⟩, kw_20⟩
theorem kw_22 : Cond.methodLink RX6 29 yX6_gardenAt ∈ gtbl := gm1 192 rfl rfl
theorem kw_23 : Cond.code yX6_kindOf cX6_kindOf 1 (some .int) ∈ gtbl := gm1 197 rfl rfl
theorem nd_X6_kindOf : (yX6_kindOf).cls ≠ "java/lang/invoke/MethodHandle" ∧ (yX6_kindOf).cls ≠ "java/lang/invoke/VarHandle" ∧ (parseMethodDescriptor (yX6_kindOf).desc).map (fun d => d.parameters.length) = some 1 := by decide +kernel
theorem kw_25 : Cond.static yX6_kindOf ∈ gtbl := gm1 196 rfl rfl
theorem cS_X6_kindOf : xcS yX6_kindOf cX6_kindOf 1 (some .int) 1 := ⟨⟨kw_23, kw_13, nd_X6_kindOf⟩, kw_25⟩
theorem kw_27 : Cond.methodLink RX6 32 yX6_kindOf ∈ gtbl := gm1 195 rfl rfl
theorem kw_28 : Cond.code yX6_isWhole cX6_isWhole 1 (some .boolean) ∈ gtbl := gm1 200 rfl rfl
theorem nd_X6_isWhole : (yX6_isWhole).cls ≠ "java/lang/invoke/MethodHandle" ∧ (yX6_isWhole).cls ≠ "java/lang/invoke/VarHandle" ∧ (parseMethodDescriptor (yX6_isWhole).desc).map (fun d => d.parameters.length) = some 1 := by decide +kernel
theorem kw_30 : Cond.static yX6_isWhole ∈ gtbl := gm1 199 rfl rfl
theorem cS_X6_isWhole : xcS yX6_isWhole cX6_isWhole 1 (some .boolean) 1 := ⟨⟨kw_28, kw_13, nd_X6_isWhole⟩, kw_30⟩
theorem kw_32 : Cond.methodLink RX6 21 yX6_isWhole ∈ gtbl := gm1 198 rfl rfl
theorem gNf_X5_0 {p : Program} {l : Launch} {e : Env} {R : Room} {s : State} {m : MethodId} {args : Array Value} {below : List Frame} {meth : Method} {c : Code} {H : Heap} {locs : List Loc} {cells slots : Nat} {Q : State → Prop} {cc : ByteArray} {pc nL index : Nat} {ls : Array Slot} {rest : List Value} {X : XC} {ex : va_W} {z : XS} {own : String} (C : CallFix p m c cc nL s args gtbl own) (hw : xw X ex z s H locs) {j : Nat} (hj : j < 4) (hlink : (own, index, (TX5 0).1, (TX5 0).2.1, (TX5 0).2.2.1, "WordHedges") ∈ xnf) (hdg : decode cc pc = .ok (.getfield index, 3)) (kk : W p l e R s m args below meth c H locs cells slots Q (F0 m (pc + 3) ls (.ref (X.2.2.1 6 j) :: rest))) : W p l e R s m args below meth c H locs cells slots Q (F0 m pc ls (.ref (X.2.2.1 5 j) :: rest)) :=
  x_getN (k := 5) (j := j) C hw hj 0 (v := .ref (X.2.2.1 6 j)) rfl rfl ixX5 (by decide) hlink rfl hdg kk
theorem kw_34 : Cond.code yX6_goesOn cX6_goesOn 2 (some .boolean) ∈ gtbl := gm1 188 rfl rfl
theorem nd_X6_goesOn : (yX6_goesOn).cls ≠ "java/lang/invoke/MethodHandle" ∧ (yX6_goesOn).cls ≠ "java/lang/invoke/VarHandle" ∧ (parseMethodDescriptor (yX6_goesOn).desc).map (fun d => d.parameters.length) = some 2 := by decide +kernel
theorem kw_36 : Cond.static yX6_goesOn ∈ gtbl := gm1 187 rfl rfl
theorem cS_X6_goesOn : xcS yX6_goesOn cX6_goesOn 2 (some .boolean) 2 := ⟨⟨kw_34, kw_13, nd_X6_goesOn⟩, kw_36⟩
theorem kw_38 : Cond.methodLink RX6 15 yX6_goesOn ∈ gtbl := gm1 186 rfl rfl
theorem kw_39 : Cond.fieldLink RX4 21 (TX4 2).1 (TX4 2).2.1 (TX4 2).2.2.1 ∈ gtbl := gm1 77 rfl rfl
theorem gf_X4_2 {p : Program} {l : Launch} {e : Env} {R : Room} {s : State} {m : MethodId} {args : Array Value} {below : List Frame} {meth : Method} {c : Code} {H : Heap} {locs : List Loc} {cells slots : Nat} {Q : State → Prop} {cc : ByteArray} {pc nL index : Nat} {ls : Array Slot} {rest : List Value} {X : XC} {ex : va_W} {z : XS} {own : String} (C : CallFix p m c cc nL s args gtbl own) (hw : xw X ex z s H locs) (hlink : Cond.fieldLink own index (TX4 2).1 (TX4 2).2.1 (TX4 2).2.2.1 ∈ gtbl) (hdg : decode cc pc = .ok (.getfield index, 3)) (kk : W p l e R s m args below meth c H locs cells slots Q (F0 m (pc + 3) ls (.int (gS z 1 2 0) :: rest))) : W p l e R s m args below meth c H locs cells slots Q (F0 m pc ls (.ref (X.2.2.1 1 0) :: rest)) :=
  x_get (k := 1) (j := 0) C hw (Nat.le_of_ble_eq_true rfl) 2 (v := .int (gS z 1 2 0)) rfl rfl ixX4 (by decide) hlink rfl hdg kk
abbrev rm_X9_isWithin : Room := { frames := 0, cells := 0, slots := 0, locals := 0 }
def D_X9_isWithin (x0 : Int32) (x1 : Int32) (z : XS) : Option (Int32 × XS) :=
  (if x0 < 0 then some ((0 : Int32), z) else (if x1 < x0 then some ((0 : Int32), z) else some ((1 : Int32), z)))
set_option maxHeartbeats 4000000 in
set_option maxRecDepth 100000 in
theorem c_X9_isWithin (l : Launch) (X : XC) (ex : va_W) (x0 : Int32) (x1 : Int32) (z : XS) (R0 : Int32 × XS) (hD : D_X9_isWithin x0 x1 z = some R0) : xM l X ex yX9_isWithin cX9_isWithin 2 (some .boolean) rm_X9_isWithin [.int (x0), .int (x1)] z (xQi X ex R0.2 R0.1) := by
  refine x_ent (by decide) (Nat.le_of_ble_eq_true rfl) ?_
  intro p e s m below meth c ls C hr hk hw hl
  replace hl : lv_has ls 2 [(0, .int (x0)), (1, .int (x1))] := hl
  unfold D_X9_isWithin at hD
  refine lv_iload_n C.1 C.2.1 dX9_isWithin_0 rfl (lv_at hl 0 rfl) ?_
  refine lv_if_lt (tgt := 13) C.1 C.2.1 dX9_isWithin_1 (by decide) (fun c1 => ?_) (fun c1 => ?_)
  · replace hD := (if_pos c1).symm.trans hD
    refine lv_iconst (v := (0 : Int32)) C.1 C.2.1 dX9_isWithin_13 (by decide) ?_
    obtain rfl := Option.some.inj hD
    exact x_zret (v := (0 : Int32)) C hw hr hk nb0 dX9_isWithin_14
  · replace hD := (if_neg c1).symm.trans hD
    refine lv_iload_n C.1 C.2.1 dX9_isWithin_4 rfl (lv_at hl 0 rfl) ?_
    refine lv_iload_n C.1 C.2.1 dX9_isWithin_5 rfl (lv_at hl 1 rfl) ?_
    refine lv_icmp_gt (tgt := 13) C.1 C.2.1 dX9_isWithin_6 (by decide) (fun c2 => ?_) (fun c2 => ?_)
    · replace hD := (if_pos c2).symm.trans hD
      refine lv_iconst (v := (0 : Int32)) C.1 C.2.1 dX9_isWithin_13 (by decide) ?_
      obtain rfl := Option.some.inj hD
      exact x_zret (v := (0 : Int32)) C hw hr hk nb0 dX9_isWithin_14
    · replace hD := (if_neg c2).symm.trans hD
      refine lv_iconst (v := (1 : Int32)) C.1 C.2.1 dX9_isWithin_9 (by decide) ?_
      refine lv_goto (tgt := 14) C.1 C.2.1 dX9_isWithin_10 (by decide) ?_
      obtain rfl := Option.some.inj hD
      exact x_zret (v := (1 : Int32)) C hw hr hk nb1 dX9_isWithin_14
abbrev rm_X9_isSheet : Room := { frames := 1, cells := 0, slots := 0, locals := 21 }
def D_X9_isSheet (x0 : Int32) (z : XS) : Option (Int32 × XS) :=
  (D_X9_isWithin x0 (3 : Int32) z).bind fun q1 => (gd (isZ q1.1) (some (q1.1, q1.2)))
set_option maxHeartbeats 4000000 in
set_option maxRecDepth 100000 in
theorem c_X9_isSheet (l : Launch) (X : XC) (ex : va_W) (x0 : Int32) (z : XS) (R0 : Int32 × XS) (hD : D_X9_isSheet x0 z = some R0) : xM l X ex yX9_isSheet cX9_isSheet 1 (some .boolean) rm_X9_isSheet [.int (x0)] z (xQi X ex R0.2 R0.1) := by
  refine x_ent (by decide) (Nat.le_of_ble_eq_true rfl) ?_
  intro p e s m below meth c ls C hr hk hw hl
  replace hl : lv_has ls 1 [(0, .int (x0))] := hl
  unfold D_X9_isSheet at hD
  refine lv_iload_n C.1 C.2.1 dX9_isSheet_0 rfl (lv_at hl 0 rfl) ?_
  refine lv_iconst (v := (3 : Int32)) C.1 C.2.1 dX9_isSheet_1 (by decide) ?_
  obtain ⟨q1, hq1, hD⟩ := Option.bind_eq_some_iff.mp hD
  refine x_goi hw (x_runS (As := [.int (x0), .int ((3 : Int32))]) (rest := []) C hw cS_X9_isWithin kw_5 (c_X9_isWithin l X ex x0 (3 : Int32)  z q1 hq1) ⟨Nat.le_of_ble_eq_true rfl, Nat.le_of_ble_eq_true rfl⟩ rfl hl.1 rfl (Nat.le_of_ble_eq_true rfl) dX9_isSheet_2 ⟨Nat.le_of_ble_eq_true rfl, Nat.le_of_ble_eq_true rfl⟩) (fun H locs hw => ?_)
  obtain ⟨g2, hD⟩ := gd_some hD
  obtain rfl := Option.some.inj hD
  exact x_zret (v := q1.1) C hw hr hk (isZ_n g2) dX9_isSheet_5
abbrev rm_X5_isOfOtherLane : Room := { frames := 0, cells := 0, slots := 0, locals := 0 }
def D_X5_isOfOtherLane (j0 : Nat) (x1 : Int32) (z : XS) : Option (Int32 × XS) :=
  (if gS z 5 1 j0 = (-1 : Int32) then some ((0 : Int32), z) else (if gS z 5 1 j0 = x1 then some ((0 : Int32), z) else some ((1 : Int32), z)))
set_option maxHeartbeats 4000000 in
set_option maxRecDepth 100000 in
theorem c_X5_isOfOtherLane (l : Launch) (X : XC) (ex : va_W) (j0 : Nat) (x1 : Int32) (hj0 : j0 < 4) (z : XS) (R0 : Int32 × XS) (hD : D_X5_isOfOtherLane j0 x1 z = some R0) : xM l X ex yX5_isOfOtherLane cX5_isOfOtherLane 2 (some .boolean) rm_X5_isOfOtherLane [.ref (X.2.2.1 5 (j0)), .int (x1)] z (xQi X ex R0.2 R0.1) := by
  refine x_ent (by decide) (Nat.le_of_ble_eq_true rfl) ?_
  intro p e s m below meth c ls C hr hk hw hl
  replace hl : lv_has ls 2 [(0, .ref (X.2.2.1 5 (j0))), (1, .int (x1))] := hl
  unfold D_X5_isOfOtherLane at hD
  refine lv_aload_n C.1 C.2.1 dX5_isOfOtherLane_0 rfl (lv_at hl 0 rfl) ?_
  refine gf_X5_1 C hw (j := j0) hj0 kw_6 dX5_isOfOtherLane_1 ?_
  refine lv_iconst (v := (-1 : Int32)) C.1 C.2.1 dX5_isOfOtherLane_4 (by decide) ?_
  refine lv_icmp_eq (tgt := 20) C.1 C.2.1 dX5_isOfOtherLane_5 (by decide) (fun c1 => ?_) (fun c1 => ?_)
  · replace hD := (if_pos c1).symm.trans hD
    refine lv_iconst (v := (0 : Int32)) C.1 C.2.1 dX5_isOfOtherLane_20 (by decide) ?_
    obtain rfl := Option.some.inj hD
    exact x_zret (v := (0 : Int32)) C hw hr hk nb0 dX5_isOfOtherLane_21
  · replace hD := (if_neg c1).symm.trans hD
    refine lv_aload_n C.1 C.2.1 dX5_isOfOtherLane_8 rfl (lv_at hl 0 rfl) ?_
    refine gf_X5_1 C hw (j := j0) hj0 kw_6 dX5_isOfOtherLane_9 ?_
    refine lv_iload_n C.1 C.2.1 dX5_isOfOtherLane_12 rfl (lv_at hl 1 rfl) ?_
    refine lv_icmp_eq (tgt := 20) C.1 C.2.1 dX5_isOfOtherLane_13 (by decide) (fun c2 => ?_) (fun c2 => ?_)
    · replace hD := (if_pos c2).symm.trans hD
      refine lv_iconst (v := (0 : Int32)) C.1 C.2.1 dX5_isOfOtherLane_20 (by decide) ?_
      obtain rfl := Option.some.inj hD
      exact x_zret (v := (0 : Int32)) C hw hr hk nb0 dX5_isOfOtherLane_21
    · replace hD := (if_neg c2).symm.trans hD
      refine lv_iconst (v := (1 : Int32)) C.1 C.2.1 dX5_isOfOtherLane_16 (by decide) ?_
      refine lv_goto (tgt := 21) C.1 C.2.1 dX5_isOfOtherLane_17 (by decide) ?_
      obtain rfl := Option.some.inj hD
      exact x_zret (v := (1 : Int32)) C hw hr hk nb1 dX5_isOfOtherLane_21
abbrev rm_X9_faulted : Room := { frames := 0, cells := 0, slots := 0, locals := 0 }
def D_X9_faulted (x1 : Int32) (z : XS) : Option (Int32 × XS) :=
  (some (pS z 0 4 0 x1)).bind fun z1 => (some ((-10 : Int32) - x1, z1))
set_option maxHeartbeats 4000000 in
set_option maxRecDepth 100000 in
theorem c_X9_faulted (l : Launch) (X : XC) (ex : va_W) (x1 : Int32) (z : XS) (R0 : Int32 × XS) (hD : D_X9_faulted x1 z = some R0) : xM l X ex yX9_faulted cX9_faulted 2 (some .int) rm_X9_faulted [.ref (X.2.2.1 0 (0)), .int (x1)] z (xQi X ex R0.2 R0.1) := by
  refine x_ent (by decide) (Nat.le_of_ble_eq_true rfl) ?_
  intro p e s m below meth c ls C hr hk hw hl
  replace hl : lv_has ls 2 [(0, .ref (X.2.2.1 0 (0))), (1, .int (x1))] := hl
  unfold D_X9_faulted at hD
  refine lv_aload_n C.1 C.2.1 dX9_faulted_0 rfl (lv_at hl 0 rfl) ?_
  refine lv_iload_n C.1 C.2.1 dX9_faulted_1 rfl (lv_at hl 1 rfl) ?_
  obtain ⟨z1, hz1, hD⟩ := Option.bind_eq_some_iff.mp hD
  refine pf_X9_4 C hw kw_8 dX9_faulted_2 (fun H locs hw => ?_)
  replace hw := xw_eq hz1 hw
  refine lv_bipush (v := (-10 : Int32)) C.1 C.2.1 dX9_faulted_5 (by decide) ?_
  refine lv_iload_n C.1 C.2.1 dX9_faulted_7 rfl (lv_at hl 1 rfl) ?_
  refine lv_isub C.1 C.2.1 dX9_faulted_8 ?_
  obtain rfl := Option.some.inj hD
  exact x_iret C hw hr hk dX9_faulted_9
abbrev rm_X5_hasNothing : Room := { frames := 0, cells := 0, slots := 0, locals := 0 }
def D_X5_hasNothing (j0 : Nat) (z : XS) : Option (Int32 × XS) :=
  (if gS z 5 1 j0 = (-1 : Int32) then some ((1 : Int32), z) else some ((0 : Int32), z))
set_option maxHeartbeats 4000000 in
set_option maxRecDepth 100000 in
theorem c_X5_hasNothing (l : Launch) (X : XC) (ex : va_W) (j0 : Nat) (hj0 : j0 < 4) (z : XS) (R0 : Int32 × XS) (hD : D_X5_hasNothing j0 z = some R0) : xM l X ex yX5_hasNothing cX5_hasNothing 1 (some .boolean) rm_X5_hasNothing [.ref (X.2.2.1 5 (j0))] z (xQi X ex R0.2 R0.1) := by
  refine x_ent (by decide) (Nat.le_of_ble_eq_true rfl) ?_
  intro p e s m below meth c ls C hr hk hw hl
  replace hl : lv_has ls 1 [(0, .ref (X.2.2.1 5 (j0)))] := hl
  unfold D_X5_hasNothing at hD
  refine lv_aload_n C.1 C.2.1 dX5_hasNothing_0 rfl (lv_at hl 0 rfl) ?_
  refine gf_X5_1 C hw (j := j0) hj0 kw_6 dX5_hasNothing_1 ?_
  refine lv_iconst (v := (-1 : Int32)) C.1 C.2.1 dX5_hasNothing_4 (by decide) ?_
  refine lv_icmp_ne (tgt := 12) C.1 C.2.1 dX5_hasNothing_5 (by decide) (fun c1 => ?_) (fun c1 => ?_)
  · replace hD := (if_neg c1).symm.trans hD
    refine lv_iconst (v := (0 : Int32)) C.1 C.2.1 dX5_hasNothing_12 (by decide) ?_
    obtain rfl := Option.some.inj hD
    exact x_zret (v := (0 : Int32)) C hw hr hk nb0 dX5_hasNothing_13
  · replace hD := (if_pos c1).symm.trans hD
    refine lv_iconst (v := (1 : Int32)) C.1 C.2.1 dX5_hasNothing_8 (by decide) ?_
    refine lv_goto (tgt := 13) C.1 C.2.1 dX5_hasNothing_9 (by decide) ?_
    obtain rfl := Option.some.inj hD
    exact x_zret (v := (1 : Int32)) C hw hr hk nb1 dX5_hasNothing_13
abbrev rm_X5_holdsRun : Room := { frames := 0, cells := 0, slots := 0, locals := 0 }
def D_X5_holdsRun (j0 : Nat) (x1 : Int32) (x2 : Int32) (z : XS) : Option (Int32 × XS) :=
  (if x1 < 0 then some ((0 : Int32), z) else (if gS z 5 2 j0 < x1 then some ((0 : Int32), z) else (if x2 < 0 then some ((0 : Int32), z) else (if (gS z 5 2 j0) - x1 < x2 then some ((0 : Int32), z) else some ((1 : Int32), z)))))
set_option maxHeartbeats 4000000 in
set_option maxRecDepth 100000 in
theorem c_X5_holdsRun (l : Launch) (X : XC) (ex : va_W) (j0 : Nat) (x1 : Int32) (x2 : Int32) (hj0 : j0 < 4) (z : XS) (R0 : Int32 × XS) (hD : D_X5_holdsRun j0 x1 x2 z = some R0) : xM l X ex yX5_holdsRun cX5_holdsRun 3 (some .boolean) rm_X5_holdsRun [.ref (X.2.2.1 5 (j0)), .int (x1), .int (x2)] z (xQi X ex R0.2 R0.1) := by
  refine x_ent (by decide) (Nat.le_of_ble_eq_true rfl) ?_
  intro p e s m below meth c ls C hr hk hw hl
  replace hl : lv_has ls 3 [(0, .ref (X.2.2.1 5 (j0))), (1, .int (x1)), (2, .int (x2))] := hl
  unfold D_X5_holdsRun at hD
  refine lv_iload_n C.1 C.2.1 dX5_holdsRun_0 rfl (lv_at hl 1 rfl) ?_
  refine lv_if_lt (tgt := 30) C.1 C.2.1 dX5_holdsRun_1 (by decide) (fun c1 => ?_) (fun c1 => ?_)
  · replace hD := (if_pos c1).symm.trans hD
    refine lv_iconst (v := (0 : Int32)) C.1 C.2.1 dX5_holdsRun_30 (by decide) ?_
    obtain rfl := Option.some.inj hD
    exact x_zret (v := (0 : Int32)) C hw hr hk nb0 dX5_holdsRun_31
  · replace hD := (if_neg c1).symm.trans hD
    refine lv_iload_n C.1 C.2.1 dX5_holdsRun_4 rfl (lv_at hl 1 rfl) ?_
    refine lv_aload_n C.1 C.2.1 dX5_holdsRun_5 rfl (lv_at hl 0 rfl) ?_
    refine gf_X5_2 C hw (j := j0) hj0 kw_10 dX5_holdsRun_6 ?_
    refine lv_icmp_gt (tgt := 30) C.1 C.2.1 dX5_holdsRun_9 (by decide) (fun c2 => ?_) (fun c2 => ?_)
    · replace hD := (if_pos c2).symm.trans hD
      refine lv_iconst (v := (0 : Int32)) C.1 C.2.1 dX5_holdsRun_30 (by decide) ?_
      obtain rfl := Option.some.inj hD
      exact x_zret (v := (0 : Int32)) C hw hr hk nb0 dX5_holdsRun_31
    · replace hD := (if_neg c2).symm.trans hD
      refine lv_iload_n C.1 C.2.1 dX5_holdsRun_12 rfl (lv_at hl 2 rfl) ?_
      refine lv_if_lt (tgt := 30) C.1 C.2.1 dX5_holdsRun_13 (by decide) (fun c3 => ?_) (fun c3 => ?_)
      · replace hD := (if_pos c3).symm.trans hD
        refine lv_iconst (v := (0 : Int32)) C.1 C.2.1 dX5_holdsRun_30 (by decide) ?_
        obtain rfl := Option.some.inj hD
        exact x_zret (v := (0 : Int32)) C hw hr hk nb0 dX5_holdsRun_31
      · replace hD := (if_neg c3).symm.trans hD
        refine lv_iload_n C.1 C.2.1 dX5_holdsRun_16 rfl (lv_at hl 2 rfl) ?_
        refine lv_aload_n C.1 C.2.1 dX5_holdsRun_17 rfl (lv_at hl 0 rfl) ?_
        refine gf_X5_2 C hw (j := j0) hj0 kw_10 dX5_holdsRun_18 ?_
        refine lv_iload_n C.1 C.2.1 dX5_holdsRun_21 rfl (lv_at hl 1 rfl) ?_
        refine lv_isub C.1 C.2.1 dX5_holdsRun_22 ?_
        refine lv_icmp_gt (tgt := 30) C.1 C.2.1 dX5_holdsRun_23 (by decide) (fun c4 => ?_) (fun c4 => ?_)
        · replace hD := (if_pos c4).symm.trans hD
          refine lv_iconst (v := (0 : Int32)) C.1 C.2.1 dX5_holdsRun_30 (by decide) ?_
          obtain rfl := Option.some.inj hD
          exact x_zret (v := (0 : Int32)) C hw hr hk nb0 dX5_holdsRun_31
        · replace hD := (if_neg c4).symm.trans hD
          refine lv_iconst (v := (1 : Int32)) C.1 C.2.1 dX5_holdsRun_26 (by decide) ?_
          refine lv_goto (tgt := 31) C.1 C.2.1 dX5_holdsRun_27 (by decide) ?_
          obtain rfl := Option.some.inj hD
          exact x_zret (v := (1 : Int32)) C hw hr hk nb1 dX5_holdsRun_31
abbrev rm_X6_partAt : Room := { frames := 0, cells := 0, slots := 0, locals := 0 }
def D_X6_partAt (x0 : Int32) (z : XS) : Option (Int32 × XS) :=
  some ((x0 - (1 : Int32)) - (x0 - (1 : Int32)) / (3 : Int32) * (3 : Int32), z)
set_option maxHeartbeats 4000000 in
set_option maxRecDepth 100000 in
theorem c_X6_partAt (l : Launch) (X : XC) (ex : va_W) (x0 : Int32) (z : XS) (R0 : Int32 × XS) (hD : D_X6_partAt x0 z = some R0) : xM l X ex yX6_partAt cX6_partAt 1 (some .int) rm_X6_partAt [.int (x0)] z (xQi X ex R0.2 R0.1) := by
  refine x_ent (by decide) (Nat.le_of_ble_eq_true rfl) ?_
  intro p e s m below meth c ls C hr hk hw hl
  replace hl : lv_has ls 1 [(0, .int (x0))] := hl
  unfold D_X6_partAt at hD
  refine lv_iload_n C.1 C.2.1 dX6_partAt_0 rfl (lv_at hl 0 rfl) ?_
  refine lv_iconst (v := (1 : Int32)) C.1 C.2.1 dX6_partAt_1 (by decide) ?_
  refine lv_isub C.1 C.2.1 dX6_partAt_2 ?_
  refine lv_iconst (v := (3 : Int32)) C.1 C.2.1 dX6_partAt_3 (by decide) ?_
  refine lv_irem C.1 C.2.1 dX6_partAt_4 (by decide) ?_
  obtain rfl := Option.some.inj hD
  exact x_iret C hw hr hk dX6_partAt_5
abbrev rm_X6_gardenAt : Room := { frames := 0, cells := 0, slots := 0, locals := 0 }
def D_X6_gardenAt (x0 : Int32) (z : XS) : Option (Int32 × XS) :=
  some ((x0 - (1 : Int32)) / (3 : Int32), z)
set_option maxHeartbeats 4000000 in
set_option maxRecDepth 100000 in
theorem c_X6_gardenAt (l : Launch) (X : XC) (ex : va_W) (x0 : Int32) (z : XS) (R0 : Int32 × XS) (hD : D_X6_gardenAt x0 z = some R0) : xM l X ex yX6_gardenAt cX6_gardenAt 1 (some .int) rm_X6_gardenAt [.int (x0)] z (xQi X ex R0.2 R0.1) := by
  refine x_ent (by decide) (Nat.le_of_ble_eq_true rfl) ?_
  intro p e s m below meth c ls C hr hk hw hl
  replace hl : lv_has ls 1 [(0, .int (x0))] := hl
  unfold D_X6_gardenAt at hD
  refine lv_iload_n C.1 C.2.1 dX6_gardenAt_0 rfl (lv_at hl 0 rfl) ?_
  refine lv_iconst (v := (1 : Int32)) C.1 C.2.1 dX6_gardenAt_1 (by decide) ?_
  refine lv_isub C.1 C.2.1 dX6_gardenAt_2 ?_
  refine lv_iconst (v := (3 : Int32)) C.1 C.2.1 dX6_gardenAt_3 (by decide) ?_
  refine lv_idiv C.1 C.2.1 dX6_gardenAt_4 (by decide) ?_
  obtain rfl := Option.some.inj hD
  exact x_iret C hw hr hk dX6_gardenAt_5
abbrev rm_X6_kindOf : Room := { frames := 0, cells := 0, slots := 0, locals := 0 }
def D_X6_kindOf (x0 : Int32) (z : XS) : Option (Int32 × XS) :=
  (if x0 = (98 : Int32) then some ((2 : Int32), z) else (if x0 = (104 : Int32) then some ((0 : Int32), z) else (if x0 = (121 : Int32) then some ((1 : Int32), z) else some ((-1 : Int32), z))))
set_option maxHeartbeats 4000000 in
set_option maxRecDepth 100000 in
theorem c_X6_kindOf (l : Launch) (X : XC) (ex : va_W) (x0 : Int32) (z : XS) (R0 : Int32 × XS) (hD : D_X6_kindOf x0 z = some R0) : xM l X ex yX6_kindOf cX6_kindOf 1 (some .int) rm_X6_kindOf [.int (x0)] z (xQi X ex R0.2 R0.1) := by
  refine x_ent (by decide) (Nat.le_of_ble_eq_true rfl) ?_
  intro p e s m below meth c ls C hr hk hw hl
  replace hl : lv_has ls 1 [(0, .int (x0))] := hl
  unfold D_X6_kindOf at hD
  refine lv_iload_n C.1 C.2.1 dX6_kindOf_0 rfl (lv_at hl 0 rfl) ?_
  by_cases c1 : x0 = (98 : Int32)
  · replace hD := (if_pos c1).symm.trans hD
    refine lv_lookup (off := 39) (tgt := 40) C.1 C.2.1 dX6_kindOf_1 (by decide) (by rw [c1]; decide) (by decide) ?_
    refine lv_iconst (v := (2 : Int32)) C.1 C.2.1 dX6_kindOf_40 (by decide) ?_
    obtain rfl := Option.some.inj hD
    exact x_iret C hw hr hk dX6_kindOf_41
  · replace hD := (if_neg c1).symm.trans hD
    by_cases c2 : x0 = (104 : Int32)
    · replace hD := (if_pos c2).symm.trans hD
      refine lv_lookup (off := 35) (tgt := 36) C.1 C.2.1 dX6_kindOf_1 (by decide) (by rw [c2]; decide) (by decide) ?_
      refine lv_iconst (v := (0 : Int32)) C.1 C.2.1 dX6_kindOf_36 (by decide) ?_
      obtain rfl := Option.some.inj hD
      exact x_iret C hw hr hk dX6_kindOf_37
    · replace hD := (if_neg c2).symm.trans hD
      by_cases c3 : x0 = (121 : Int32)
      · replace hD := (if_pos c3).symm.trans hD
        refine lv_lookup (off := 37) (tgt := 38) C.1 C.2.1 dX6_kindOf_1 (by decide) (by rw [c3]; decide) (by decide) ?_
        refine lv_iconst (v := (1 : Int32)) C.1 C.2.1 dX6_kindOf_38 (by decide) ?_
        obtain rfl := Option.some.inj hD
        exact x_iret C hw hr hk dX6_kindOf_39
      · replace hD := (if_neg c3).symm.trans hD
        refine lv_lookup (off := 41) (tgt := 42) C.1 C.2.1 dX6_kindOf_1 (by decide) (by simp [Op.lookupswitch.offset, sw_ne (n := 98) (98 : Int32) rfl c1, sw_ne (n := 104) (104 : Int32) rfl c2, sw_ne (n := 121) (121 : Int32) rfl c3]) (by decide) ?_
        refine lv_iconst (v := (-1 : Int32)) C.1 C.2.1 dX6_kindOf_42 (by decide) ?_
        obtain rfl := Option.some.inj hD
        exact x_iret C hw hr hk dX6_kindOf_43
abbrev rm_X6_goesOn : Room := { frames := 1, cells := 0, slots := 0, locals := 20 }
def D_X6_goesOn (x0 : Int32) (x1 : Int32) (z : XS) : Option (Int32 × XS) :=
  (if x0 = 0 then (if x1 = (103 : Int32) then some ((1 : Int32), z) else some ((0 : Int32), z)) else (D_X6_partAt x0 z).bind fun q2 => ((if q2.1 = (1 : Int32) then (D_X6_gardenAt x0 q2.2).bind fun q6 => ((if (6 : Int32) ≤ q6.1 then some ((0 : Int32), q6.2) else (D_X6_kindOf x1 q6.2).bind fun q8 => ((if q8.1 < 0 then some ((0 : Int32), q8.2) else some ((1 : Int32), q8.2))))) else (if x1 < (48 : Int32) then some ((0 : Int32), q2.2) else (if (57 : Int32) < x1 then some ((0 : Int32), q2.2) else some ((1 : Int32), q2.2))))))
set_option maxHeartbeats 4000000 in
set_option maxRecDepth 100000 in
theorem c_X6_goesOn (l : Launch) (X : XC) (ex : va_W) (x0 : Int32) (x1 : Int32) (z : XS) (R0 : Int32 × XS) (hD : D_X6_goesOn x0 x1 z = some R0) : xM l X ex yX6_goesOn cX6_goesOn 2 (some .boolean) rm_X6_goesOn [.int (x0), .int (x1)] z (xQi X ex R0.2 R0.1) := by
  refine x_ent (by decide) (Nat.le_of_ble_eq_true rfl) ?_
  intro p e s m below meth c ls C hr hk hw hl
  replace hl : lv_has ls 2 [(0, .int (x0)), (1, .int (x1))] := hl
  unfold D_X6_goesOn at hD
  refine lv_iload_n C.1 C.2.1 dX6_goesOn_0 rfl (lv_at hl 0 rfl) ?_
  refine lv_if_ne (tgt := 16) C.1 C.2.1 dX6_goesOn_1 (by decide) (fun c1 => ?_) (fun c1 => ?_)
  · replace hD := (if_neg c1).symm.trans hD
    refine lv_iload_n C.1 C.2.1 dX6_goesOn_16 rfl (lv_at hl 0 rfl) ?_
    obtain ⟨q2, hq2, hD⟩ := Option.bind_eq_some_iff.mp hD
    refine x_goi hw (x_runS (As := [.int (x0)]) (rest := []) C hw cS_X6_partAt kw_17 (c_X6_partAt l X ex x0  z q2 hq2) ⟨Nat.le_of_ble_eq_true rfl, Nat.le_of_ble_eq_true rfl⟩ rfl hl.1 rfl (Nat.le_of_ble_eq_true rfl) dX6_goesOn_17 ⟨Nat.le_of_ble_eq_true rfl, Nat.le_of_ble_eq_true rfl⟩) (fun H locs hw => ?_)
    refine lv_iconst (v := (1 : Int32)) C.1 C.2.1 dX6_goesOn_20 (by decide) ?_
    refine lv_icmp_ne (tgt := 46) C.1 C.2.1 dX6_goesOn_21 (by decide) (fun c3 => ?_) (fun c3 => ?_)
    · replace hD := (if_neg c3).symm.trans hD
      refine lv_iload_n C.1 C.2.1 dX6_goesOn_46 rfl (lv_at hl 1 rfl) ?_
      refine lv_bipush (v := (48 : Int32)) C.1 C.2.1 dX6_goesOn_47 (by decide) ?_
      refine lv_icmp_lt (tgt := 62) C.1 C.2.1 dX6_goesOn_49 (by decide) (fun c4 => ?_) (fun c4 => ?_)
      · replace hD := (if_pos c4).symm.trans hD
        refine lv_iconst (v := (0 : Int32)) C.1 C.2.1 dX6_goesOn_62 (by decide) ?_
        obtain rfl := Option.some.inj hD
        exact x_zret (v := (0 : Int32)) C hw hr hk nb0 dX6_goesOn_63
      · replace hD := (if_neg c4).symm.trans hD
        refine lv_iload_n C.1 C.2.1 dX6_goesOn_52 rfl (lv_at hl 1 rfl) ?_
        refine lv_bipush (v := (57 : Int32)) C.1 C.2.1 dX6_goesOn_53 (by decide) ?_
        refine lv_icmp_gt (tgt := 62) C.1 C.2.1 dX6_goesOn_55 (by decide) (fun c5 => ?_) (fun c5 => ?_)
        · replace hD := (if_pos c5).symm.trans hD
          refine lv_iconst (v := (0 : Int32)) C.1 C.2.1 dX6_goesOn_62 (by decide) ?_
          obtain rfl := Option.some.inj hD
          exact x_zret (v := (0 : Int32)) C hw hr hk nb0 dX6_goesOn_63
        · replace hD := (if_neg c5).symm.trans hD
          refine lv_iconst (v := (1 : Int32)) C.1 C.2.1 dX6_goesOn_58 (by decide) ?_
          refine lv_goto (tgt := 63) C.1 C.2.1 dX6_goesOn_59 (by decide) ?_
          obtain rfl := Option.some.inj hD
          exact x_zret (v := (1 : Int32)) C hw hr hk nb1 dX6_goesOn_63
    · replace hD := (if_pos c3).symm.trans hD
      refine lv_iload_n C.1 C.2.1 dX6_goesOn_24 rfl (lv_at hl 0 rfl) ?_
      obtain ⟨q6, hq6, hD⟩ := Option.bind_eq_some_iff.mp hD
      refine x_goi hw (x_runS (As := [.int (x0)]) (rest := []) C hw cS_X6_gardenAt kw_22 (c_X6_gardenAt l X ex x0  q2.2 q6 hq6) ⟨Nat.le_of_ble_eq_true rfl, Nat.le_of_ble_eq_true rfl⟩ rfl hl.1 rfl (Nat.le_of_ble_eq_true rfl) dX6_goesOn_25 ⟨Nat.le_of_ble_eq_true rfl, Nat.le_of_ble_eq_true rfl⟩) (fun H locs hw => ?_)
      refine lv_bipush (v := (6 : Int32)) C.1 C.2.1 dX6_goesOn_28 (by decide) ?_
      refine lv_icmp_ge (tgt := 44) C.1 C.2.1 dX6_goesOn_30 (by decide) (fun c7 => ?_) (fun c7 => ?_)
      · replace hD := (if_pos c7).symm.trans hD
        refine lv_iconst (v := (0 : Int32)) C.1 C.2.1 dX6_goesOn_44 (by decide) ?_
        obtain rfl := Option.some.inj hD
        exact x_zret (v := (0 : Int32)) C hw hr hk nb0 dX6_goesOn_45
      · replace hD := (if_neg c7).symm.trans hD
        refine lv_iload_n C.1 C.2.1 dX6_goesOn_33 rfl (lv_at hl 1 rfl) ?_
        obtain ⟨q8, hq8, hD⟩ := Option.bind_eq_some_iff.mp hD
        refine x_goi hw (x_runS (As := [.int (x1)]) (rest := []) C hw cS_X6_kindOf kw_27 (c_X6_kindOf l X ex x1  q6.2 q8 hq8) ⟨Nat.le_of_ble_eq_true rfl, Nat.le_of_ble_eq_true rfl⟩ rfl hl.1 rfl (Nat.le_of_ble_eq_true rfl) dX6_goesOn_34 ⟨Nat.le_of_ble_eq_true rfl, Nat.le_of_ble_eq_true rfl⟩) (fun H locs hw => ?_)
        refine lv_if_lt (tgt := 44) C.1 C.2.1 dX6_goesOn_37 (by decide) (fun c9 => ?_) (fun c9 => ?_)
        · replace hD := (if_pos c9).symm.trans hD
          refine lv_iconst (v := (0 : Int32)) C.1 C.2.1 dX6_goesOn_44 (by decide) ?_
          obtain rfl := Option.some.inj hD
          exact x_zret (v := (0 : Int32)) C hw hr hk nb0 dX6_goesOn_45
        · replace hD := (if_neg c9).symm.trans hD
          refine lv_iconst (v := (1 : Int32)) C.1 C.2.1 dX6_goesOn_40 (by decide) ?_
          refine lv_goto (tgt := 45) C.1 C.2.1 dX6_goesOn_41 (by decide) ?_
          obtain rfl := Option.some.inj hD
          exact x_zret (v := (1 : Int32)) C hw hr hk nb1 dX6_goesOn_45
  · replace hD := (if_pos c1).symm.trans hD
    refine lv_iload_n C.1 C.2.1 dX6_goesOn_4 rfl (lv_at hl 1 rfl) ?_
    refine lv_bipush (v := (103 : Int32)) C.1 C.2.1 dX6_goesOn_5 (by decide) ?_
    refine lv_icmp_ne (tgt := 14) C.1 C.2.1 dX6_goesOn_7 (by decide) (fun c10 => ?_) (fun c10 => ?_)
    · replace hD := (if_neg c10).symm.trans hD
      refine lv_iconst (v := (0 : Int32)) C.1 C.2.1 dX6_goesOn_14 (by decide) ?_
      obtain rfl := Option.some.inj hD
      exact x_zret (v := (0 : Int32)) C hw hr hk nb0 dX6_goesOn_15
    · replace hD := (if_pos c10).symm.trans hD
      refine lv_iconst (v := (1 : Int32)) C.1 C.2.1 dX6_goesOn_10 (by decide) ?_
      refine lv_goto (tgt := 15) C.1 C.2.1 dX6_goesOn_11 (by decide) ?_
      obtain rfl := Option.some.inj hD
      exact x_zret (v := (1 : Int32)) C hw hr hk nb1 dX6_goesOn_15
abbrev rm_X6_isWhole : Room := { frames := 1, cells := 0, slots := 0, locals := 20 }
def D_X6_isWhole (x0 : Int32) (z : XS) : Option (Int32 × XS) :=
  (if x0 ≤ (1 : Int32) then some ((0 : Int32), z) else (D_X6_partAt (x0 - (1 : Int32)) z).bind fun q2 => ((if q2.1 = 0 then (D_X6_gardenAt (x0 - (1 : Int32)) q2.2).bind fun q4 => ((if q4.1 ≤ 0 then some ((0 : Int32), q4.2) else some ((1 : Int32), q4.2))) else some ((0 : Int32), q2.2))))
set_option maxHeartbeats 4000000 in
set_option maxRecDepth 100000 in
theorem c_X6_isWhole (l : Launch) (X : XC) (ex : va_W) (x0 : Int32) (z : XS) (R0 : Int32 × XS) (hD : D_X6_isWhole x0 z = some R0) : xM l X ex yX6_isWhole cX6_isWhole 1 (some .boolean) rm_X6_isWhole [.int (x0)] z (xQi X ex R0.2 R0.1) := by
  refine x_ent (by decide) (Nat.le_of_ble_eq_true rfl) ?_
  intro p e s m below meth c ls C hr hk hw hl
  replace hl : lv_has ls 1 [(0, .int (x0))] := hl
  unfold D_X6_isWhole at hD
  refine lv_iload_n C.1 C.2.1 dX6_isWhole_0 rfl (lv_at hl 0 rfl) ?_
  refine lv_iconst (v := (1 : Int32)) C.1 C.2.1 dX6_isWhole_1 (by decide) ?_
  refine lv_icmp_le (tgt := 27) C.1 C.2.1 dX6_isWhole_2 (by decide) (fun c1 => ?_) (fun c1 => ?_)
  · replace hD := (if_pos c1).symm.trans hD
    refine lv_iconst (v := (0 : Int32)) C.1 C.2.1 dX6_isWhole_27 (by decide) ?_
    obtain rfl := Option.some.inj hD
    exact x_zret (v := (0 : Int32)) C hw hr hk nb0 dX6_isWhole_28
  · replace hD := (if_neg c1).symm.trans hD
    refine lv_iload_n C.1 C.2.1 dX6_isWhole_5 rfl (lv_at hl 0 rfl) ?_
    refine lv_iconst (v := (1 : Int32)) C.1 C.2.1 dX6_isWhole_6 (by decide) ?_
    refine lv_isub C.1 C.2.1 dX6_isWhole_7 ?_
    obtain ⟨q2, hq2, hD⟩ := Option.bind_eq_some_iff.mp hD
    refine x_goi hw (x_runS (As := [.int (x0 - (1 : Int32))]) (rest := []) C hw cS_X6_partAt kw_17 (c_X6_partAt l X ex (x0 - (1 : Int32))  z q2 hq2) ⟨Nat.le_of_ble_eq_true rfl, Nat.le_of_ble_eq_true rfl⟩ rfl hl.1 rfl (Nat.le_of_ble_eq_true rfl) dX6_isWhole_8 ⟨Nat.le_of_ble_eq_true rfl, Nat.le_of_ble_eq_true rfl⟩) (fun H locs hw => ?_)
    refine lv_if_ne (tgt := 27) C.1 C.2.1 dX6_isWhole_11 (by decide) (fun c3 => ?_) (fun c3 => ?_)
    · replace hD := (if_neg c3).symm.trans hD
      refine lv_iconst (v := (0 : Int32)) C.1 C.2.1 dX6_isWhole_27 (by decide) ?_
      obtain rfl := Option.some.inj hD
      exact x_zret (v := (0 : Int32)) C hw hr hk nb0 dX6_isWhole_28
    · replace hD := (if_pos c3).symm.trans hD
      refine lv_iload_n C.1 C.2.1 dX6_isWhole_14 rfl (lv_at hl 0 rfl) ?_
      refine lv_iconst (v := (1 : Int32)) C.1 C.2.1 dX6_isWhole_15 (by decide) ?_
      refine lv_isub C.1 C.2.1 dX6_isWhole_16 ?_
      obtain ⟨q4, hq4, hD⟩ := Option.bind_eq_some_iff.mp hD
      refine x_goi hw (x_runS (As := [.int (x0 - (1 : Int32))]) (rest := []) C hw cS_X6_gardenAt kw_22 (c_X6_gardenAt l X ex (x0 - (1 : Int32))  q2.2 q4 hq4) ⟨Nat.le_of_ble_eq_true rfl, Nat.le_of_ble_eq_true rfl⟩ rfl hl.1 rfl (Nat.le_of_ble_eq_true rfl) dX6_isWhole_17 ⟨Nat.le_of_ble_eq_true rfl, Nat.le_of_ble_eq_true rfl⟩) (fun H locs hw => ?_)
      refine lv_if_le (tgt := 27) C.1 C.2.1 dX6_isWhole_20 (by decide) (fun c5 => ?_) (fun c5 => ?_)
      · replace hD := (if_pos c5).symm.trans hD
        refine lv_iconst (v := (0 : Int32)) C.1 C.2.1 dX6_isWhole_27 (by decide) ?_
        obtain rfl := Option.some.inj hD
        exact x_zret (v := (0 : Int32)) C hw hr hk nb0 dX6_isWhole_28
      · replace hD := (if_neg c5).symm.trans hD
        refine lv_iconst (v := (1 : Int32)) C.1 C.2.1 dX6_isWhole_23 (by decide) ?_
        refine lv_goto (tgt := 28) C.1 C.2.1 dX6_isWhole_24 (by decide) ?_
        obtain rfl := Option.some.inj hD
        exact x_zret (v := (1 : Int32)) C hw hr hk nb1 dX6_isWhole_28
abbrev rm_X6_firstFault : Room := { frames := 2, cells := 0, slots := 0, locals := 41 }
def B_X6_firstFault_2 (x0 : Nat) (x1 : Int32) (x2 : Int32) (k2_ : Int32 → XS → Option (Int32 × XS)) (y3 : Int32) (z : XS) : Option (Int32 × XS) :=
  (if x2 ≤ y3 then (D_X6_isWhole x2 z).bind fun q2 => ((if q2.1 = 0 then some (x2, q2.2) else some ((-1 : Int32), q2.2))) else gd (inB (x1 + y3) 60) ((D_X6_goesOn y3 (gA z 6 x0 (x1 + y3).toNatClampNeg) z).bind fun q5 => ((if q5.1 = 0 then some (y3, q5.2) else k2_ (y3 + 1) q5.2))))
def L_X6_firstFault_2 (x0 : Nat) (x1 : Int32) (x2 : Int32) : Nat → Int32 → XS → Option (Int32 × XS)
  | 0 => fun _ _ => none
  | n + 1 => B_X6_firstFault_2 x0 x1 x2  (L_X6_firstFault_2 x0 x1 x2  n)
set_option maxHeartbeats 4000000 in
set_option maxRecDepth 100000 in
theorem w_X6_firstFault_2 {p : Program} {l : Launch} {e : Env} {s : State} {m : MethodId} {below : List Frame} {meth : Method} {c : Code} {X : XC} {ex : va_W} (x0 : Nat) (x1 : Int32) (x2 : Int32) (hx0 : x0 < 4) (C : CallFix p m c cX6_firstFault 4 s (([.ref (X.2.2.1 5 (x0)), .int (x1), .int (x2)] : List Value).toArray) gtbl RX6) (hr : meth.sig.returnType = (some .int)) (hk : meth.locks = false) (R0 : Int32 × XS)  : ∀ (n : Nat), ∀ (y3 : Int32) (z : XS), L_X6_firstFault_2 x0 x1 x2  n y3 z = some R0 → ∀ (H : Heap) (locs : List Loc), xw X ex z s H locs → ∀ (ls : Array Slot), lv_has ls 4 [(0, .ref (X.2.2.1 5 (x0))), (1, .int (x1)), (2, .int (x2)), (3, .int (y3))] → W p l e rm_X6_firstFault s m (([.ref (X.2.2.1 5 (x0)), .int (x1), .int (x2)] : List Value).toArray) below meth c H locs 0 0 (MQ below (xQi X ex R0.2 R0.1) (([.ref (X.2.2.1 5 (x0)), .int (x1), .int (x2)] : List Value).toArray) s 0 0 (xA X)) (F0 m 2 ls []) := by
  intro n
  induction n with
  | zero =>
    intro y3 z  hD
    cases hD
  | succ n ih =>
    intro y3 z  hD H locs hw ls hl
    replace hD : B_X6_firstFault_2 x0 x1 x2  (L_X6_firstFault_2 x0 x1 x2  n) y3 z = some R0 := hD
    unfold B_X6_firstFault_2 at hD
    refine lv_iload_n C.1 C.2.1 dX6_firstFault_2 rfl (lv_at hl 3 rfl) ?_
    refine lv_iload_n C.1 C.2.1 dX6_firstFault_3 rfl (lv_at hl 2 rfl) ?_
    refine lv_icmp_ge (tgt := 30) C.1 C.2.1 dX6_firstFault_4 (by decide) (fun c1 => ?_) (fun c1 => ?_)
    · replace hD := (if_pos c1).symm.trans hD
      refine lv_iload_n C.1 C.2.1 dX6_firstFault_30 rfl (lv_at hl 2 rfl) ?_
      obtain ⟨q2, hq2, hD⟩ := Option.bind_eq_some_iff.mp hD
      refine x_goi hw (x_runS (As := [.int (x2)]) (rest := []) C hw cS_X6_isWhole kw_32 (c_X6_isWhole l X ex x2  z q2 hq2) ⟨Nat.le_of_ble_eq_true rfl, Nat.le_of_ble_eq_true rfl⟩ rfl hl.1 rfl (Nat.le_of_ble_eq_true rfl) dX6_firstFault_31 ⟨Nat.le_of_ble_eq_true rfl, Nat.le_of_ble_eq_true rfl⟩) (fun H locs hw => ?_)
      refine lv_if_eq (tgt := 41) C.1 C.2.1 dX6_firstFault_34 (by decide) (fun c3 => ?_) (fun c3 => ?_)
      · replace hD := (if_pos c3).symm.trans hD
        refine lv_iload_n C.1 C.2.1 dX6_firstFault_41 rfl (lv_at hl 2 rfl) ?_
        obtain rfl := Option.some.inj hD
        exact x_iret C hw hr hk dX6_firstFault_42
      · replace hD := (if_neg c3).symm.trans hD
        refine lv_iconst (v := (-1 : Int32)) C.1 C.2.1 dX6_firstFault_37 (by decide) ?_
        refine lv_goto (tgt := 42) C.1 C.2.1 dX6_firstFault_38 (by decide) ?_
        obtain rfl := Option.some.inj hD
        exact x_iret C hw hr hk dX6_firstFault_42
    · replace hD := (if_neg c1).symm.trans hD
      refine lv_iload_n C.1 C.2.1 dX6_firstFault_7 rfl (lv_at hl 3 rfl) ?_
      refine lv_aload_n C.1 C.2.1 dX6_firstFault_8 rfl (lv_at hl 0 rfl) ?_
      refine gNf_X5_0 C hw (j := x0) hx0 (List.mem_of_getElem? (i := 11) rfl) dX6_firstFault_9 ?_
      refine lv_iload_n C.1 C.2.1 dX6_firstFault_12 rfl (lv_at hl 1 rfl) ?_
      refine lv_iload_n C.1 C.2.1 dX6_firstFault_13 rfl (lv_at hl 3 rfl) ?_
      refine lv_iadd C.1 C.2.1 dX6_firstFault_14 ?_
      obtain ⟨g4, hD⟩ := gd_some hD
      refine x_iald (k := 6) (j := x0) C hw rfl hx0 (inB_in g4) dX6_firstFault_15 ?_
      obtain ⟨q5, hq5, hD⟩ := Option.bind_eq_some_iff.mp hD
      refine x_goi hw (x_runS (As := [.int (y3), .int (gA z 6 x0 (x1 + y3).toNatClampNeg)]) (rest := []) C hw cS_X6_goesOn kw_38 (c_X6_goesOn l X ex y3 (gA z 6 x0 (x1 + y3).toNatClampNeg)  z q5 hq5) ⟨Nat.le_of_ble_eq_true rfl, Nat.le_of_ble_eq_true rfl⟩ rfl hl.1 rfl (Nat.le_of_ble_eq_true rfl) dX6_firstFault_16 ⟨Nat.le_of_ble_eq_true rfl, Nat.le_of_ble_eq_true rfl⟩) (fun H locs hw => ?_)
      refine lv_if_ne (tgt := 24) C.1 C.2.1 dX6_firstFault_19 (by decide) (fun c6 => ?_) (fun c6 => ?_)
      · replace hD := (if_neg c6).symm.trans hD
        refine lv_iinc (v := y3 + 1) (lv' := [(3, .int (y3 + 1)), (0, .ref (X.2.2.1 5 (x0))), (1, .int (x1)), (2, .int (x2))]) C.1 C.2.1 dX6_firstFault_24 hl (k := 3) rfl rfl (by decide) rfl (fun ls hl => ?_)
        refine lv_goto (tgt := 2) C.1 C.2.1 dX6_firstFault_27 (by decide) ?_
        exact ih (y3 + 1) q5.2  hD _ _ hw _ (lv_sub hl [1, 2, 3, 0] rfl)
      · replace hD := (if_pos c6).symm.trans hD
        refine lv_iload_n C.1 C.2.1 dX6_firstFault_22 rfl (lv_at hl 3 rfl) ?_
        obtain rfl := Option.some.inj hD
        exact x_iret C hw hr hk dX6_firstFault_23
def D_X6_firstFault (x0 : Nat) (x1 : Int32) (x2 : Int32) (z : XS) : Option (Int32 × XS) :=
  L_X6_firstFault_2 x0 x1 x2  64 (0 : Int32) z
set_option maxHeartbeats 4000000 in
set_option maxRecDepth 100000 in
theorem c_X6_firstFault (l : Launch) (X : XC) (ex : va_W) (x0 : Nat) (x1 : Int32) (x2 : Int32) (hx0 : x0 < 4) (z : XS) (R0 : Int32 × XS) (hD : D_X6_firstFault x0 x1 x2 z = some R0) : xM l X ex yX6_firstFault cX6_firstFault 4 (some .int) rm_X6_firstFault [.ref (X.2.2.1 5 (x0)), .int (x1), .int (x2)] z (xQi X ex R0.2 R0.1) := by
  refine x_ent (by decide) (Nat.le_of_ble_eq_true rfl) ?_
  intro p e s m below meth c ls C hr hk hw hl
  replace hl : lv_has ls 4 [(0, .ref (X.2.2.1 5 (x0))), (1, .int (x1)), (2, .int (x2))] := hl
  unfold D_X6_firstFault at hD
  refine lv_iconst (v := (0 : Int32)) C.1 C.2.1 dX6_firstFault_0 (by decide) ?_
  refine lv_istore_n (lv' := [(3, .int ((0 : Int32))), (0, .ref (X.2.2.1 5 (x0))), (1, .int (x1)), (2, .int (x2))]) C.1 C.2.1 dX6_firstFault_1 rfl hl (by decide) rfl (fun ls hl => ?_)
  exact w_X6_firstFault_2 x0 x1 x2 hx0 C hr hk R0   64 (0 : Int32) z  hD _ _ hw _ (lv_sub hl [1, 2, 3, 0] rfl)
abbrev rm_X6_gardensOf : Room := { frames := 0, cells := 0, slots := 0, locals := 0 }
def D_X6_gardensOf (x0 : Int32) (z : XS) : Option (Int32 × XS) :=
  some ((x0 + (1 : Int32)) / (3 : Int32), z)
set_option maxHeartbeats 4000000 in
set_option maxRecDepth 100000 in
theorem c_X6_gardensOf (l : Launch) (X : XC) (ex : va_W) (x0 : Int32) (z : XS) (R0 : Int32 × XS) (hD : D_X6_gardensOf x0 z = some R0) : xM l X ex yX6_gardensOf cX6_gardensOf 1 (some .int) rm_X6_gardensOf [.int (x0)] z (xQi X ex R0.2 R0.1) := by
  refine x_ent (by decide) (Nat.le_of_ble_eq_true rfl) ?_
  intro p e s m below meth c ls C hr hk hw hl
  replace hl : lv_has ls 1 [(0, .int (x0))] := hl
  unfold D_X6_gardensOf at hD
  refine lv_iload_n C.1 C.2.1 dX6_gardensOf_0 rfl (lv_at hl 0 rfl) ?_
  refine lv_iconst (v := (1 : Int32)) C.1 C.2.1 dX6_gardensOf_1 (by decide) ?_
  refine lv_iadd C.1 C.2.1 dX6_gardensOf_2 ?_
  refine lv_iconst (v := (3 : Int32)) C.1 C.2.1 dX6_gardensOf_3 (by decide) ?_
  refine lv_idiv C.1 C.2.1 dX6_gardensOf_4 (by decide) ?_
  obtain rfl := Option.some.inj hD
  exact x_iret C hw hr hk dX6_gardensOf_5
abbrev rm_X4_isHedge : Room := { frames := 0, cells := 0, slots := 0, locals := 0 }
def D_X4_isHedge (x1 : Int32) (z : XS) : Option (Int32 × XS) :=
  (if x1 < 0 then some ((0 : Int32), z) else (if (gS z 1 2 0) - (1 : Int32) ≤ x1 then some ((0 : Int32), z) else some ((1 : Int32), z)))
set_option maxHeartbeats 4000000 in
set_option maxRecDepth 100000 in
theorem c_X4_isHedge (l : Launch) (X : XC) (ex : va_W) (x1 : Int32) (z : XS) (R0 : Int32 × XS) (hD : D_X4_isHedge x1 z = some R0) : xM l X ex yX4_isHedge cX4_isHedge 2 (some .boolean) rm_X4_isHedge [.ref (X.2.2.1 1 (0)), .int (x1)] z (xQi X ex R0.2 R0.1) := by
  refine x_ent (by decide) (Nat.le_of_ble_eq_true rfl) ?_
  intro p e s m below meth c ls C hr hk hw hl
  replace hl : lv_has ls 2 [(0, .ref (X.2.2.1 1 (0))), (1, .int (x1))] := hl
  unfold D_X4_isHedge at hD
  refine lv_iload_n C.1 C.2.1 dX4_isHedge_0 rfl (lv_at hl 1 rfl) ?_
  refine lv_if_lt (tgt := 18) C.1 C.2.1 dX4_isHedge_1 (by decide) (fun c1 => ?_) (fun c1 => ?_)
  · replace hD := (if_pos c1).symm.trans hD
    refine lv_iconst (v := (0 : Int32)) C.1 C.2.1 dX4_isHedge_18 (by decide) ?_
    obtain rfl := Option.some.inj hD
    exact x_zret (v := (0 : Int32)) C hw hr hk nb0 dX4_isHedge_19
  · replace hD := (if_neg c1).symm.trans hD
    refine lv_iload_n C.1 C.2.1 dX4_isHedge_4 rfl (lv_at hl 1 rfl) ?_
    refine lv_aload_n C.1 C.2.1 dX4_isHedge_5 rfl (lv_at hl 0 rfl) ?_
    refine gf_X4_2 C hw kw_39 dX4_isHedge_6 ?_
    refine lv_iconst (v := (1 : Int32)) C.1 C.2.1 dX4_isHedge_9 (by decide) ?_
    refine lv_isub C.1 C.2.1 dX4_isHedge_10 ?_
    refine lv_icmp_ge (tgt := 18) C.1 C.2.1 dX4_isHedge_11 (by decide) (fun c2 => ?_) (fun c2 => ?_)
    · replace hD := (if_pos c2).symm.trans hD
      refine lv_iconst (v := (0 : Int32)) C.1 C.2.1 dX4_isHedge_18 (by decide) ?_
      obtain rfl := Option.some.inj hD
      exact x_zret (v := (0 : Int32)) C hw hr hk nb0 dX4_isHedge_19
    · replace hD := (if_neg c2).symm.trans hD
      refine lv_iconst (v := (1 : Int32)) C.1 C.2.1 dX4_isHedge_14 (by decide) ?_
      refine lv_goto (tgt := 19) C.1 C.2.1 dX4_isHedge_15 (by decide) ?_
      obtain rfl := Option.some.inj hD
      exact x_zret (v := (1 : Int32)) C hw hr hk nb1 dX4_isHedge_19
