abbrev rm_X5_drop : Room := { frames := 0, cells := 0, slots := 0, locals := 0 }
def D_X5_drop (j0 : Nat) (z : XS) : Option (XS) :=
  (some (pS z 5 1 j0 (-1 : Int32))).bind fun z1 => ((some (pS z1 5 2 j0 (0 : Int32))).bind fun z2 => (some z2))
set_option maxHeartbeats 4000000 in
set_option maxRecDepth 100000 in
theorem c_X5_drop (l : Launch) (X : XC) (ex : va_W) (j0 : Nat) (hj0 : j0 < 4) (z : XS) (R0 : XS) (hD : D_X5_drop j0 z = some R0) : xM l X ex yX5_drop cX5_drop 1 none rm_X5_drop [.ref (X.2.2.1 5 (j0))] z (xQv X ex R0) := by
  refine x_ent (by decide) (Nat.le_of_ble_eq_true rfl) ?_
  intro p e s m below meth c ls C hr hk hw hl
  replace hl : lv_has ls 1 [(0, .ref (X.2.2.1 5 (j0)))] := hl
  unfold D_X5_drop at hD
  refine lv_aload_n C.1 C.2.1 dX5_drop_0 rfl (lv_at hl 0 rfl) ?_
  refine lv_iconst (v := (-1 : Int32)) C.1 C.2.1 dX5_drop_1 (by decide) ?_
  obtain ⟨z1, hz1, hD⟩ := Option.bind_eq_some_iff.mp hD
  refine pf_X5_1 C hw (j := j0) hj0 kw_6 dX5_drop_2 (fun H locs hw => ?_)
  replace hw := xw_eq hz1 hw
  refine lv_aload_n C.1 C.2.1 dX5_drop_5 rfl (lv_at hl 0 rfl) ?_
  refine lv_iconst (v := (0 : Int32)) C.1 C.2.1 dX5_drop_6 (by decide) ?_
  obtain ⟨z2, hz2, hD⟩ := Option.bind_eq_some_iff.mp hD
  refine pf_X5_2 C hw (j := j0) hj0 kw_10 dX5_drop_7 (fun H locs hw => ?_)
  replace hw := xw_eq hz2 hw
  obtain rfl := Option.some.inj hD
  exact x_vret C hw hr hk dX5_drop_10
theorem kw_372 : Cond.code yX5_hasNothing cX5_hasNothing 1 (some .boolean) ∈ gtbl := gm1 178 rfl rfl
theorem nd_X5_hasNothing : (yX5_hasNothing).cls ≠ "java/lang/invoke/MethodHandle" ∧ (yX5_hasNothing).cls ≠ "java/lang/invoke/VarHandle" ∧ (parseMethodDescriptor (yX5_hasNothing).desc).map (fun d => d.parameters.length) = some 0 := by decide +kernel
theorem kw_374 : Cond.instanceMethod yX5_hasNothing ∈ gtbl := gm1 176 rfl rfl
theorem kw_375 : Cond.selects RX5 yX5_hasNothing yX5_hasNothing ∈ gtbl := gm1 177 rfl rfl
theorem cV_X5_hasNothing : xcV yX5_hasNothing cX5_hasNothing 1 (some .boolean) 0 := ⟨⟨kw_372, kw_360, nd_X5_hasNothing⟩, kw_374, kw_375⟩
theorem kw_377 : Cond.methodLink RX9 58 yX5_hasNothing ∈ gtbl := gm1 175 rfl rfl
theorem kw_378 : Cond.code yX5_drop cX5_drop 1 none ∈ gtbl := gm3 34 rfl rfl
theorem nd_X5_drop : (yX5_drop).cls ≠ "java/lang/invoke/MethodHandle" ∧ (yX5_drop).cls ≠ "java/lang/invoke/VarHandle" ∧ (parseMethodDescriptor (yX5_drop).desc).map (fun d => d.parameters.length) = some 0 := by decide +kernel
theorem kw_380 : Cond.instanceMethod yX5_drop ∈ gtbl := gm3 32 rfl rfl
theorem kw_381 : Cond.selects RX5 yX5_drop yX5_drop ∈ gtbl := gm3 33 rfl rfl
theorem cV_X5_drop : xcV yX5_drop cX5_drop 1 none 0 := ⟨⟨kw_378, kw_360, nd_X5_drop⟩, kw_380, kw_381⟩
theorem kw_383 : Cond.methodLink RX9 200 yX5_drop ∈ gtbl := gm3 31 rfl rfl
abbrev rm_X9_lose : Room := { frames := 2, cells := 0, slots := 0, locals := 41 }
def D_X9_lose (x1 : Int32) (z : XS) : Option (Int32 × XS) :=
  (D_X9_isSheet x1 z).bind fun q1 => ((if q1.1 = 0 then some ((-1 : Int32), q1.2) else gd (inB x1 4) ((D_X5_hasNothing x1.toNatClampNeg q1.2).bind fun q4 => ((if q4.1 = 0 then gd (inB x1 4) ((D_X5_drop x1.toNatClampNeg q4.2).bind fun q7 => (some ((1 : Int32), q7))) else some ((0 : Int32), q4.2))))))
set_option maxHeartbeats 4000000 in
set_option maxRecDepth 100000 in
theorem c_X9_lose (l : Launch) (X : XC) (ex : va_W) (x1 : Int32) (z : XS) (R0 : Int32 × XS) (hD : D_X9_lose x1 z = some R0) : xM l X ex yX9_lose cX9_lose 2 (some .int) rm_X9_lose [.ref (X.2.2.1 0 (0)), .int (x1)] z (xQi X ex R0.2 R0.1) := by
  refine x_ent (by decide) (Nat.le_of_ble_eq_true rfl) ?_
  intro p e s m below meth c ls C hr hk hw hl
  replace hl : lv_has ls 2 [(0, .ref (X.2.2.1 0 (0))), (1, .int (x1))] := hl
  unfold D_X9_lose at hD
  refine lv_iload_n C.1 C.2.1 dX9_lose_0 rfl (lv_at hl 1 rfl) ?_
  obtain ⟨q1, hq1, hD⟩ := Option.bind_eq_some_iff.mp hD
  refine x_goi hw (x_runS (As := [.int (x1)]) (rest := []) C hw cS_X9_isSheet kw_356 (c_X9_isSheet l X ex x1  z q1 hq1) ⟨Nat.le_of_ble_eq_true rfl, Nat.le_of_ble_eq_true rfl⟩ rfl hl.1 rfl (Nat.le_of_ble_eq_true rfl) dX9_lose_1 ⟨Nat.le_of_ble_eq_true rfl, Nat.le_of_ble_eq_true rfl⟩) (fun H locs hw => ?_)
  refine lv_if_ne (tgt := 9) C.1 C.2.1 dX9_lose_4 (by decide) (fun c2 => ?_) (fun c2 => ?_)
  · replace hD := (if_neg c2).symm.trans hD
    refine lv_aload_n C.1 C.2.1 dX9_lose_9 rfl (lv_at hl 0 rfl) ?_
    refine gf_X9_3 C hw kw_357 dX9_lose_10 ?_
    refine lv_iload_n C.1 C.2.1 dX9_lose_13 rfl (lv_at hl 1 rfl) ?_
    obtain ⟨g3, hD⟩ := gd_some hD
    refine x_aald (k := 4) (j := 0) (f := fun i => X.2.2.1 5 i) C hw (Nat.le_of_ble_eq_true rfl) 3 rfl rfl rfl (inB_in g3) (a := X.2.2.1 5 (x1.toNatClampNeg)) rfl dX9_lose_14 ?_
    obtain ⟨q4, hq4, hD⟩ := Option.bind_eq_some_iff.mp hD
    refine x_goi hw (x_runV (As := []) (rest := []) (k := 5) (j := x1.toNatClampNeg) C hw (inB_lt g3) rfl rfl cV_X5_hasNothing kw_377 (c_X5_hasNothing l X ex x1.toNatClampNeg (inB_lt g3) q1.2 q4 hq4) ⟨Nat.le_of_ble_eq_true rfl, Nat.le_of_ble_eq_true rfl⟩ rfl hl.1 rfl (Nat.le_of_ble_eq_true rfl) dX9_lose_15 ⟨Nat.le_of_ble_eq_true rfl, Nat.le_of_ble_eq_true rfl⟩) (fun H locs hw => ?_)
    refine lv_if_eq (tgt := 23) C.1 C.2.1 dX9_lose_18 (by decide) (fun c5 => ?_) (fun c5 => ?_)
    · replace hD := (if_pos c5).symm.trans hD
      refine lv_aload_n C.1 C.2.1 dX9_lose_23 rfl (lv_at hl 0 rfl) ?_
      refine gf_X9_3 C hw kw_357 dX9_lose_24 ?_
      refine lv_iload_n C.1 C.2.1 dX9_lose_27 rfl (lv_at hl 1 rfl) ?_
      obtain ⟨g6, hD⟩ := gd_some hD
      refine x_aald (k := 4) (j := 0) (f := fun i => X.2.2.1 5 i) C hw (Nat.le_of_ble_eq_true rfl) 3 rfl rfl rfl (inB_in g6) (a := X.2.2.1 5 (x1.toNatClampNeg)) rfl dX9_lose_28 ?_
      obtain ⟨q7, hq7, hD⟩ := Option.bind_eq_some_iff.mp hD
      refine x_gov hw (x_runV (As := []) (rest := []) (k := 5) (j := x1.toNatClampNeg) C hw (inB_lt g6) rfl rfl cV_X5_drop kw_383 (c_X5_drop l X ex x1.toNatClampNeg (inB_lt g6) q4.2 q7 hq7) ⟨Nat.le_of_ble_eq_true rfl, Nat.le_of_ble_eq_true rfl⟩ rfl hl.1 rfl (Nat.le_of_ble_eq_true rfl) dX9_lose_29 ⟨Nat.le_of_ble_eq_true rfl, Nat.le_of_ble_eq_true rfl⟩) (fun H locs hw => ?_)
      refine lv_iconst (v := (1 : Int32)) C.1 C.2.1 dX9_lose_32 (by decide) ?_
      obtain rfl := Option.some.inj hD
      exact x_iret C hw hr hk dX9_lose_33
    · replace hD := (if_neg c5).symm.trans hD
      refine lv_iconst (v := (0 : Int32)) C.1 C.2.1 dX9_lose_21 (by decide) ?_
      obtain rfl := Option.some.inj hD
      exact x_iret C hw hr hk dX9_lose_22
  · replace hD := (if_pos c2).symm.trans hD
    refine lv_iconst (v := (-1 : Int32)) C.1 C.2.1 dX9_lose_7 (by decide) ?_
    obtain rfl := Option.some.inj hD
    exact x_iret C hw hr hk dX9_lose_8
abbrev rm_X5_holds : Room := { frames := 0, cells := 0, slots := 0, locals := 0 }
def D_X5_holds (j0 : Nat) (x1 : Int32) (z : XS) : Option (Int32 × XS) :=
  (if x1 < 0 then some ((0 : Int32), z) else (if gS z 5 2 j0 ≤ x1 then some ((0 : Int32), z) else some ((1 : Int32), z)))
set_option maxHeartbeats 4000000 in
set_option maxRecDepth 100000 in
theorem c_X5_holds (l : Launch) (X : XC) (ex : va_W) (j0 : Nat) (x1 : Int32) (hj0 : j0 < 4) (z : XS) (R0 : Int32 × XS) (hD : D_X5_holds j0 x1 z = some R0) : xM l X ex yX5_holds cX5_holds 2 (some .boolean) rm_X5_holds [.ref (X.2.2.1 5 (j0)), .int (x1)] z (xQi X ex R0.2 R0.1) := by
  refine x_ent (by decide) (Nat.le_of_ble_eq_true rfl) ?_
  intro p e s m below meth c ls C hr hk hw hl
  replace hl : lv_has ls 2 [(0, .ref (X.2.2.1 5 (j0))), (1, .int (x1))] := hl
  unfold D_X5_holds at hD
  refine lv_iload_n C.1 C.2.1 dX5_holds_0 rfl (lv_at hl 1 rfl) ?_
  refine lv_if_lt (tgt := 16) C.1 C.2.1 dX5_holds_1 (by decide) (fun c1 => ?_) (fun c1 => ?_)
  · replace hD := (if_pos c1).symm.trans hD
    refine lv_iconst (v := (0 : Int32)) C.1 C.2.1 dX5_holds_16 (by decide) ?_
    obtain rfl := Option.some.inj hD
    exact x_zret (v := (0 : Int32)) C hw hr hk nb0 dX5_holds_17
  · replace hD := (if_neg c1).symm.trans hD
    refine lv_iload_n C.1 C.2.1 dX5_holds_4 rfl (lv_at hl 1 rfl) ?_
    refine lv_aload_n C.1 C.2.1 dX5_holds_5 rfl (lv_at hl 0 rfl) ?_
    refine gf_X5_2 C hw (j := j0) hj0 kw_10 dX5_holds_6 ?_
    refine lv_icmp_ge (tgt := 16) C.1 C.2.1 dX5_holds_9 (by decide) (fun c2 => ?_) (fun c2 => ?_)
    · replace hD := (if_pos c2).symm.trans hD
      refine lv_iconst (v := (0 : Int32)) C.1 C.2.1 dX5_holds_16 (by decide) ?_
      obtain rfl := Option.some.inj hD
      exact x_zret (v := (0 : Int32)) C hw hr hk nb0 dX5_holds_17
    · replace hD := (if_neg c2).symm.trans hD
      refine lv_iconst (v := (1 : Int32)) C.1 C.2.1 dX5_holds_12 (by decide) ?_
      refine lv_goto (tgt := 17) C.1 C.2.1 dX5_holds_13 (by decide) ?_
      obtain rfl := Option.some.inj hD
      exact x_zret (v := (1 : Int32)) C hw hr hk nb1 dX5_holds_17
abbrev rm_X5_write : Room := { frames := 0, cells := 0, slots := 0, locals := 0 }
def D_X5_write (j0 : Nat) (x1 : Int32) (x2 : Int32) (z : XS) : Option (XS) :=
  (if gS z 5 1 j0 = 0 then gd (inB x1 60) ((some (pA z 6 j0 x1.toNatClampNeg x2.toInt8.toInt32)).bind fun z8 => (some z8)) else (if gS z 5 1 j0 = (1 : Int32) then gd (inB x1 60) ((some (pA z 6 j0 x1.toNatClampNeg x2.toInt16.toInt32)).bind fun z6 => (some z6)) else gd (inB x1 60) ((some (pA z 6 j0 x1.toNatClampNeg x2)).bind fun z4 => (some z4))))
set_option maxHeartbeats 4000000 in
set_option maxRecDepth 100000 in
theorem c_X5_write (l : Launch) (X : XC) (ex : va_W) (j0 : Nat) (x1 : Int32) (x2 : Int32) (hj0 : j0 < 4) (z : XS) (R0 : XS) (hD : D_X5_write j0 x1 x2 z = some R0) : xM l X ex yX5_write cX5_write 3 none rm_X5_write [.ref (X.2.2.1 5 (j0)), .int (x1), .int (x2)] z (xQv X ex R0) := by
  refine x_ent (by decide) (Nat.le_of_ble_eq_true rfl) ?_
  intro p e s m below meth c ls C hr hk hw hl
  replace hl : lv_has ls 3 [(0, .ref (X.2.2.1 5 (j0))), (1, .int (x1)), (2, .int (x2))] := hl
  unfold D_X5_write at hD
  refine lv_aload_n C.1 C.2.1 dX5_write_0 rfl (lv_at hl 0 rfl) ?_
  refine gf_X5_0 C hw (j := j0) hj0 kw_344 dX5_write_1 ?_
  refine lv_iload_n C.1 C.2.1 dX5_write_4 rfl (lv_at hl 1 rfl) ?_
  refine lv_aload_n C.1 C.2.1 dX5_write_5 rfl (lv_at hl 0 rfl) ?_
  refine gf_X5_1 C hw (j := j0) hj0 kw_6 dX5_write_6 ?_
  refine lv_if_ne (tgt := 17) C.1 C.2.1 dX5_write_9 (by decide) (fun c1 => ?_) (fun c1 => ?_)
  · replace hD := (if_neg c1).symm.trans hD
    refine lv_aload_n C.1 C.2.1 dX5_write_17 rfl (lv_at hl 0 rfl) ?_
    refine gf_X5_1 C hw (j := j0) hj0 kw_6 dX5_write_18 ?_
    refine lv_iconst (v := (1 : Int32)) C.1 C.2.1 dX5_write_21 (by decide) ?_
    refine lv_icmp_ne (tgt := 30) C.1 C.2.1 dX5_write_22 (by decide) (fun c2 => ?_) (fun c2 => ?_)
    · replace hD := (if_neg c2).symm.trans hD
      refine lv_iload_n C.1 C.2.1 dX5_write_30 rfl (lv_at hl 2 rfl) ?_
      obtain ⟨g3, hD⟩ := gd_some hD
      obtain ⟨z4, hz4, hD⟩ := Option.bind_eq_some_iff.mp hD
      refine x_iast (k := 6) (j := j0) C hw rfl hj0 (inB_in g3) dX5_write_31 (fun H locs hw => ?_)
      replace hw := xw_eq hz4 hw
      obtain rfl := Option.some.inj hD
      exact x_vret C hw hr hk dX5_write_32
    · replace hD := (if_pos c2).symm.trans hD
      refine lv_iload_n C.1 C.2.1 dX5_write_25 rfl (lv_at hl 2 rfl) ?_
      refine lv_i2s C.1 C.2.1 dX5_write_26 rfl ?_
      refine lv_goto (tgt := 31) C.1 C.2.1 dX5_write_27 (by decide) ?_
      obtain ⟨g5, hD⟩ := gd_some hD
      obtain ⟨z6, hz6, hD⟩ := Option.bind_eq_some_iff.mp hD
      refine x_iast (k := 6) (j := j0) C hw rfl hj0 (inB_in g5) dX5_write_31 (fun H locs hw => ?_)
      replace hw := xw_eq hz6 hw
      obtain rfl := Option.some.inj hD
      exact x_vret C hw hr hk dX5_write_32
  · replace hD := (if_pos c1).symm.trans hD
    refine lv_iload_n C.1 C.2.1 dX5_write_12 rfl (lv_at hl 2 rfl) ?_
    refine lv_i2b C.1 C.2.1 dX5_write_13 rfl ?_
    refine lv_goto (tgt := 31) C.1 C.2.1 dX5_write_14 (by decide) ?_
    obtain ⟨g7, hD⟩ := gd_some hD
    obtain ⟨z8, hz8, hD⟩ := Option.bind_eq_some_iff.mp hD
    refine x_iast (k := 6) (j := j0) C hw rfl hj0 (inB_in g7) dX5_write_31 (fun H locs hw => ?_)
    replace hw := xw_eq hz8 hw
    obtain rfl := Option.some.inj hD
    exact x_vret C hw hr hk dX5_write_32
theorem kw_384 : Cond.code yX5_holds cX5_holds 2 (some .boolean) ∈ gtbl := gm3 42 rfl rfl
theorem nd_X5_holds : (yX5_holds).cls ≠ "java/lang/invoke/MethodHandle" ∧ (yX5_holds).cls ≠ "java/lang/invoke/VarHandle" ∧ (parseMethodDescriptor (yX5_holds).desc).map (fun d => d.parameters.length) = some 1 := by decide +kernel
theorem kw_386 : Cond.instanceMethod yX5_holds ∈ gtbl := gm3 40 rfl rfl
theorem kw_387 : Cond.selects RX5 yX5_holds yX5_holds ∈ gtbl := gm3 41 rfl rfl
theorem cV_X5_holds : xcV yX5_holds cX5_holds 2 (some .boolean) 1 := ⟨⟨kw_384, kw_360, nd_X5_holds⟩, kw_386, kw_387⟩
theorem kw_389 : Cond.methodLink RX9 203 yX5_holds ∈ gtbl := gm3 39 rfl rfl
theorem kw_390 : Cond.code yX5_write cX5_write 3 none ∈ gtbl := gm3 46 rfl rfl
theorem nd_X5_write : (yX5_write).cls ≠ "java/lang/invoke/MethodHandle" ∧ (yX5_write).cls ≠ "java/lang/invoke/VarHandle" ∧ (parseMethodDescriptor (yX5_write).desc).map (fun d => d.parameters.length) = some 2 := by decide +kernel
theorem kw_392 : Cond.instanceMethod yX5_write ∈ gtbl := gm3 44 rfl rfl
theorem kw_393 : Cond.selects RX5 yX5_write yX5_write ∈ gtbl := gm3 45 rfl rfl
theorem cV_X5_write : xcV yX5_write cX5_write 3 none 2 := ⟨⟨kw_390, kw_360, nd_X5_write⟩, kw_392, kw_393⟩
theorem kw_395 : Cond.methodLink RX9 206 yX5_write ∈ gtbl := gm3 43 rfl rfl
abbrev rm_X9_put : Room := { frames := 2, cells := 0, slots := 0, locals := 41 }
def D_X9_put (x1 : Int32) (x2 : Int32) (x3 : Int32) (z : XS) : Option (Int32 × XS) :=
  (some (pS z 0 4 0 (0 : Int32))).bind fun z1 => ((D_X9_isSheet x1 z1).bind fun q2 => ((if q2.1 = 0 then some ((-1 : Int32), q2.2) else gd (inB x1 4) ((D_X5_hasNothing x1.toNatClampNeg q2.2).bind fun q5 => ((if q5.1 = 0 then gd (inB x1 4) ((D_X5_holds x1.toNatClampNeg x2 q5.2).bind fun q8 => ((if q8.1 = 0 then (D_X9_faulted (3 : Int32) q8.2).bind fun q12 => (some (q12.1, q12.2)) else gd (inB x1 4) ((D_X5_write x1.toNatClampNeg x2 x3 q8.2).bind fun q11 => (some ((1 : Int32), q11)))))) else (D_X9_faulted (1 : Int32) q5.2).bind fun q13 => (some (q13.1, q13.2))))))))
set_option maxHeartbeats 4000000 in
set_option maxRecDepth 100000 in
theorem c_X9_put (l : Launch) (X : XC) (ex : va_W) (x1 : Int32) (x2 : Int32) (x3 : Int32) (z : XS) (R0 : Int32 × XS) (hD : D_X9_put x1 x2 x3 z = some R0) : xM l X ex yX9_put cX9_put 4 (some .int) rm_X9_put [.ref (X.2.2.1 0 (0)), .int (x1), .int (x2), .int (x3)] z (xQi X ex R0.2 R0.1) := by
  refine x_ent (by decide) (Nat.le_of_ble_eq_true rfl) ?_
  intro p e s m below meth c ls C hr hk hw hl
  replace hl : lv_has ls 4 [(0, .ref (X.2.2.1 0 (0))), (1, .int (x1)), (2, .int (x2)), (3, .int (x3))] := hl
  unfold D_X9_put at hD
  refine lv_aload_n C.1 C.2.1 dX9_put_0 rfl (lv_at hl 0 rfl) ?_
  refine lv_iconst (v := (0 : Int32)) C.1 C.2.1 dX9_put_1 (by decide) ?_
  obtain ⟨z1, hz1, hD⟩ := Option.bind_eq_some_iff.mp hD
  refine pf_X9_4 C hw kw_8 dX9_put_2 (fun H locs hw => ?_)
  replace hw := xw_eq hz1 hw
  refine lv_iload_n C.1 C.2.1 dX9_put_5 rfl (lv_at hl 1 rfl) ?_
  obtain ⟨q2, hq2, hD⟩ := Option.bind_eq_some_iff.mp hD
  refine x_goi hw (x_runS (As := [.int (x1)]) (rest := []) C hw cS_X9_isSheet kw_356 (c_X9_isSheet l X ex x1  z1 q2 hq2) ⟨Nat.le_of_ble_eq_true rfl, Nat.le_of_ble_eq_true rfl⟩ rfl hl.1 rfl (Nat.le_of_ble_eq_true rfl) dX9_put_6 ⟨Nat.le_of_ble_eq_true rfl, Nat.le_of_ble_eq_true rfl⟩) (fun H locs hw => ?_)
  refine lv_if_ne (tgt := 14) C.1 C.2.1 dX9_put_9 (by decide) (fun c3 => ?_) (fun c3 => ?_)
  · replace hD := (if_neg c3).symm.trans hD
    refine lv_aload_n C.1 C.2.1 dX9_put_14 rfl (lv_at hl 0 rfl) ?_
    refine gf_X9_3 C hw kw_357 dX9_put_15 ?_
    refine lv_iload_n C.1 C.2.1 dX9_put_18 rfl (lv_at hl 1 rfl) ?_
    obtain ⟨g4, hD⟩ := gd_some hD
    refine x_aald (k := 4) (j := 0) (f := fun i => X.2.2.1 5 i) C hw (Nat.le_of_ble_eq_true rfl) 3 rfl rfl rfl (inB_in g4) (a := X.2.2.1 5 (x1.toNatClampNeg)) rfl dX9_put_19 ?_
    obtain ⟨q5, hq5, hD⟩ := Option.bind_eq_some_iff.mp hD
    refine x_goi hw (x_runV (As := []) (rest := []) (k := 5) (j := x1.toNatClampNeg) C hw (inB_lt g4) rfl rfl cV_X5_hasNothing kw_377 (c_X5_hasNothing l X ex x1.toNatClampNeg (inB_lt g4) q2.2 q5 hq5) ⟨Nat.le_of_ble_eq_true rfl, Nat.le_of_ble_eq_true rfl⟩ rfl hl.1 rfl (Nat.le_of_ble_eq_true rfl) dX9_put_20 ⟨Nat.le_of_ble_eq_true rfl, Nat.le_of_ble_eq_true rfl⟩) (fun H locs hw => ?_)
    refine lv_if_eq (tgt := 32) C.1 C.2.1 dX9_put_23 (by decide) (fun c6 => ?_) (fun c6 => ?_)
    · replace hD := (if_pos c6).symm.trans hD
      refine lv_aload_n C.1 C.2.1 dX9_put_32 rfl (lv_at hl 0 rfl) ?_
      refine gf_X9_3 C hw kw_357 dX9_put_33 ?_
      refine lv_iload_n C.1 C.2.1 dX9_put_36 rfl (lv_at hl 1 rfl) ?_
      obtain ⟨g7, hD⟩ := gd_some hD
      refine x_aald (k := 4) (j := 0) (f := fun i => X.2.2.1 5 i) C hw (Nat.le_of_ble_eq_true rfl) 3 rfl rfl rfl (inB_in g7) (a := X.2.2.1 5 (x1.toNatClampNeg)) rfl dX9_put_37 ?_
      refine lv_iload_n C.1 C.2.1 dX9_put_38 rfl (lv_at hl 2 rfl) ?_
      obtain ⟨q8, hq8, hD⟩ := Option.bind_eq_some_iff.mp hD
      refine x_goi hw (x_runV (As := [.int (x2)]) (rest := []) (k := 5) (j := x1.toNatClampNeg) C hw (inB_lt g7) rfl rfl cV_X5_holds kw_389 (c_X5_holds l X ex x1.toNatClampNeg x2 (inB_lt g7) q5.2 q8 hq8) ⟨Nat.le_of_ble_eq_true rfl, Nat.le_of_ble_eq_true rfl⟩ rfl hl.1 rfl (Nat.le_of_ble_eq_true rfl) dX9_put_39 ⟨Nat.le_of_ble_eq_true rfl, Nat.le_of_ble_eq_true rfl⟩) (fun H locs hw => ?_)
      refine lv_if_ne (tgt := 51) C.1 C.2.1 dX9_put_42 (by decide) (fun c9 => ?_) (fun c9 => ?_)
      · replace hD := (if_neg c9).symm.trans hD
        refine lv_aload_n C.1 C.2.1 dX9_put_51 rfl (lv_at hl 0 rfl) ?_
        refine gf_X9_3 C hw kw_357 dX9_put_52 ?_
        refine lv_iload_n C.1 C.2.1 dX9_put_55 rfl (lv_at hl 1 rfl) ?_
        obtain ⟨g10, hD⟩ := gd_some hD
        refine x_aald (k := 4) (j := 0) (f := fun i => X.2.2.1 5 i) C hw (Nat.le_of_ble_eq_true rfl) 3 rfl rfl rfl (inB_in g10) (a := X.2.2.1 5 (x1.toNatClampNeg)) rfl dX9_put_56 ?_
        refine lv_iload_n C.1 C.2.1 dX9_put_57 rfl (lv_at hl 2 rfl) ?_
        refine lv_iload_n C.1 C.2.1 dX9_put_58 rfl (lv_at hl 3 rfl) ?_
        obtain ⟨q11, hq11, hD⟩ := Option.bind_eq_some_iff.mp hD
        refine x_gov hw (x_runV (As := [.int (x2), .int (x3)]) (rest := []) (k := 5) (j := x1.toNatClampNeg) C hw (inB_lt g10) rfl rfl cV_X5_write kw_395 (c_X5_write l X ex x1.toNatClampNeg x2 x3 (inB_lt g10) q8.2 q11 hq11) ⟨Nat.le_of_ble_eq_true rfl, Nat.le_of_ble_eq_true rfl⟩ rfl hl.1 rfl (Nat.le_of_ble_eq_true rfl) dX9_put_59 ⟨Nat.le_of_ble_eq_true rfl, Nat.le_of_ble_eq_true rfl⟩) (fun H locs hw => ?_)
        refine lv_iconst (v := (1 : Int32)) C.1 C.2.1 dX9_put_62 (by decide) ?_
        obtain rfl := Option.some.inj hD
        exact x_iret C hw hr hk dX9_put_63
      · replace hD := (if_pos c9).symm.trans hD
        refine lv_aload_n C.1 C.2.1 dX9_put_45 rfl (lv_at hl 0 rfl) ?_
        refine lv_iconst (v := (3 : Int32)) C.1 C.2.1 dX9_put_46 (by decide) ?_
        obtain ⟨q12, hq12, hD⟩ := Option.bind_eq_some_iff.mp hD
        refine x_goi hw (x_runV (As := [.int ((3 : Int32))]) (rest := []) (k := 0) (j := 0) C hw (Nat.le_of_ble_eq_true rfl) rfl rfl cV_X9_faulted kw_371 (c_X9_faulted l X ex (3 : Int32)  q8.2 q12 hq12) ⟨Nat.le_of_ble_eq_true rfl, Nat.le_of_ble_eq_true rfl⟩ rfl hl.1 rfl (Nat.le_of_ble_eq_true rfl) dX9_put_47 ⟨Nat.le_of_ble_eq_true rfl, Nat.le_of_ble_eq_true rfl⟩) (fun H locs hw => ?_)
        obtain rfl := Option.some.inj hD
        exact x_iret C hw hr hk dX9_put_50
    · replace hD := (if_neg c6).symm.trans hD
      refine lv_aload_n C.1 C.2.1 dX9_put_26 rfl (lv_at hl 0 rfl) ?_
      refine lv_iconst (v := (1 : Int32)) C.1 C.2.1 dX9_put_27 (by decide) ?_
      obtain ⟨q13, hq13, hD⟩ := Option.bind_eq_some_iff.mp hD
      refine x_goi hw (x_runV (As := [.int ((1 : Int32))]) (rest := []) (k := 0) (j := 0) C hw (Nat.le_of_ble_eq_true rfl) rfl rfl cV_X9_faulted kw_371 (c_X9_faulted l X ex (1 : Int32)  q5.2 q13 hq13) ⟨Nat.le_of_ble_eq_true rfl, Nat.le_of_ble_eq_true rfl⟩ rfl hl.1 rfl (Nat.le_of_ble_eq_true rfl) dX9_put_28 ⟨Nat.le_of_ble_eq_true rfl, Nat.le_of_ble_eq_true rfl⟩) (fun H locs hw => ?_)
      obtain rfl := Option.some.inj hD
      exact x_iret C hw hr hk dX9_put_31
  · replace hD := (if_pos c3).symm.trans hD
    refine lv_iconst (v := (-1 : Int32)) C.1 C.2.1 dX9_put_12 (by decide) ?_
    obtain rfl := Option.some.inj hD
    exact x_iret C hw hr hk dX9_put_13
abbrev rm_X9_lostBy : Room := { frames := 0, cells := 0, slots := 0, locals := 0 }
def D_X9_lostBy (x1 : Int32) (z : XS) : Option (Int64 × XS) :=
  (some (pS z 0 4 0 x1)).bind fun z1 => (some ((-9223372036854775808 : Int64), z1))
set_option maxHeartbeats 4000000 in
set_option maxRecDepth 100000 in
theorem c_X9_lostBy (l : Launch) (X : XC) (ex : va_W) (x1 : Int32) (z : XS) (R0 : Int64 × XS) (hD : D_X9_lostBy x1 z = some R0) : xM l X ex yX9_lostBy cX9_lostBy 2 (some .long) rm_X9_lostBy [.ref (X.2.2.1 0 (0)), .int (x1)] z (xQl X ex R0.2 R0.1) := by
  refine x_ent (by decide) (Nat.le_of_ble_eq_true rfl) ?_
  intro p e s m below meth c ls C hr hk hw hl
  replace hl : lv_has ls 2 [(0, .ref (X.2.2.1 0 (0))), (1, .int (x1))] := hl
  unfold D_X9_lostBy at hD
  refine lv_aload_n C.1 C.2.1 dX9_lostBy_0 rfl (lv_at hl 0 rfl) ?_
  refine lv_iload_n C.1 C.2.1 dX9_lostBy_1 rfl (lv_at hl 1 rfl) ?_
  obtain ⟨z1, hz1, hD⟩ := Option.bind_eq_some_iff.mp hD
  refine pf_X9_4 C hw kw_8 dX9_lostBy_2 (fun H locs hw => ?_)
  replace hw := xw_eq hz1 hw
  refine lv_ldc2 (v := (-9223372036854775808 : Int64)) C.1 C.2.1 C.2.2.2.1 (C.2.2.2.2 _ kw_330) dX9_lostBy_5 ?_
  obtain rfl := Option.some.inj hD
  exact x_lret C hw hr hk dX9_lostBy_8
theorem kw_396 : Cond.code yX5_isOfOtherLane cX5_isOfOtherLane 2 (some .boolean) ∈ gtbl := gm1 170 rfl rfl
theorem nd_X5_isOfOtherLane : (yX5_isOfOtherLane).cls ≠ "java/lang/invoke/MethodHandle" ∧ (yX5_isOfOtherLane).cls ≠ "java/lang/invoke/VarHandle" ∧ (parseMethodDescriptor (yX5_isOfOtherLane).desc).map (fun d => d.parameters.length) = some 1 := by decide +kernel
theorem kw_398 : Cond.instanceMethod yX5_isOfOtherLane ∈ gtbl := gm1 168 rfl rfl
theorem kw_399 : Cond.selects RX5 yX5_isOfOtherLane yX5_isOfOtherLane ∈ gtbl := gm1 169 rfl rfl
theorem cV_X5_isOfOtherLane : xcV yX5_isOfOtherLane cX5_isOfOtherLane 2 (some .boolean) 1 := ⟨⟨kw_396, kw_360, nd_X5_isOfOtherLane⟩, kw_398, kw_399⟩
theorem kw_401 : Cond.methodLink RX9 51 yX5_isOfOtherLane ∈ gtbl := gm1 167 rfl rfl
theorem kw_402 : Cond.code yX9_lostBy cX9_lostBy 2 (some .long) ∈ gtbl := gm3 54 rfl rfl
theorem nd_X9_lostBy : (yX9_lostBy).cls ≠ "java/lang/invoke/MethodHandle" ∧ (yX9_lostBy).cls ≠ "java/lang/invoke/VarHandle" ∧ (parseMethodDescriptor (yX9_lostBy).desc).map (fun d => d.parameters.length) = some 1 := by decide +kernel
theorem kw_404 : Cond.instanceMethod yX9_lostBy ∈ gtbl := gm3 53 rfl rfl
theorem kw_405 : Cond.selects RX9 yX9_lostBy yX9_lostBy ∈ gtbl := gm0 6 rfl rfl
theorem cV_X9_lostBy : xcV yX9_lostBy cX9_lostBy 2 (some .long) 1 := ⟨⟨kw_402, kw_1, nd_X9_lostBy⟩, kw_404, kw_405⟩
theorem kw_407 : Cond.methodLink RX9 209 yX9_lostBy ∈ gtbl := gm3 51 rfl rfl
abbrev rm_X9_cell : Room := { frames := 2, cells := 0, slots := 0, locals := 41 }
def D_X9_cell (x1 : Int32) (x2 : Int32) (x3 : Int32) (z : XS) : Option (Int64 × XS) :=
  (some (pS z 0 4 0 (0 : Int32))).bind fun z1 => ((D_X9_isSheet x1 z1).bind fun q2 => ((if q2.1 = 0 then some ((-9223372036854775808 : Int64), q2.2) else (D_X9_isWithin x3 (2 : Int32) q2.2).bind fun q4 => ((if q4.1 = 0 then some ((-9223372036854775808 : Int64), q4.2) else gd (inB x1 4) ((D_X5_isOfOtherLane x1.toNatClampNeg x3 q4.2).bind fun q7 => ((if q7.1 = 0 then (D_X5_hasNothing x1.toNatClampNeg q7.2).bind fun q9 => ((if q9.1 = 0 then (D_X5_holds x1.toNatClampNeg x2 q9.2).bind fun q11 => ((if q11.1 = 0 then (D_X9_lostBy (3 : Int32) q11.2).bind fun q14 => (some (q14.1, q14.2)) else gd (inB x2 60) (some ((gA q11.2 6 x1.toNatClampNeg x2.toNatClampNeg).toInt64, q11.2)))) else (D_X9_lostBy (1 : Int32) q9.2).bind fun q15 => (some (q15.1, q15.2)))) else (D_X9_lostBy (2 : Int32) q7.2).bind fun q16 => (some (q16.1, q16.2))))))))))
set_option maxHeartbeats 4000000 in
set_option maxRecDepth 100000 in
theorem c_X9_cell (l : Launch) (X : XC) (ex : va_W) (x1 : Int32) (x2 : Int32) (x3 : Int32) (z : XS) (R0 : Int64 × XS) (hD : D_X9_cell x1 x2 x3 z = some R0) : xM l X ex yX9_cell cX9_cell 5 (some .long) rm_X9_cell [.ref (X.2.2.1 0 (0)), .int (x1), .int (x2), .int (x3)] z (xQl X ex R0.2 R0.1) := by
  refine x_ent (by decide) (Nat.le_of_ble_eq_true rfl) ?_
  intro p e s m below meth c ls C hr hk hw hl
  replace hl : lv_has ls 5 [(0, .ref (X.2.2.1 0 (0))), (1, .int (x1)), (2, .int (x2)), (3, .int (x3))] := hl
  unfold D_X9_cell at hD
  refine lv_aload_n C.1 C.2.1 dX9_cell_0 rfl (lv_at hl 0 rfl) ?_
  refine lv_iconst (v := (0 : Int32)) C.1 C.2.1 dX9_cell_1 (by decide) ?_
  obtain ⟨z1, hz1, hD⟩ := Option.bind_eq_some_iff.mp hD
  refine pf_X9_4 C hw kw_8 dX9_cell_2 (fun H locs hw => ?_)
  replace hw := xw_eq hz1 hw
  refine lv_iload_n C.1 C.2.1 dX9_cell_5 rfl (lv_at hl 1 rfl) ?_
  obtain ⟨q2, hq2, hD⟩ := Option.bind_eq_some_iff.mp hD
  refine x_goi hw (x_runS (As := [.int (x1)]) (rest := []) C hw cS_X9_isSheet kw_356 (c_X9_isSheet l X ex x1  z1 q2 hq2) ⟨Nat.le_of_ble_eq_true rfl, Nat.le_of_ble_eq_true rfl⟩ rfl hl.1 rfl (Nat.le_of_ble_eq_true rfl) dX9_cell_6 ⟨Nat.le_of_ble_eq_true rfl, Nat.le_of_ble_eq_true rfl⟩) (fun H locs hw => ?_)
  refine lv_if_eq (tgt := 20) C.1 C.2.1 dX9_cell_9 (by decide) (fun c3 => ?_) (fun c3 => ?_)
  · replace hD := (if_pos c3).symm.trans hD
    refine lv_ldc2 (v := (-9223372036854775808 : Int64)) C.1 C.2.1 C.2.2.2.1 (C.2.2.2.2 _ kw_330) dX9_cell_20 ?_
    obtain rfl := Option.some.inj hD
    exact x_lret C hw hr hk dX9_cell_23
  · replace hD := (if_neg c3).symm.trans hD
    refine lv_iload_n C.1 C.2.1 dX9_cell_12 rfl (lv_at hl 3 rfl) ?_
    refine lv_iconst (v := (2 : Int32)) C.1 C.2.1 dX9_cell_13 (by decide) ?_
    obtain ⟨q4, hq4, hD⟩ := Option.bind_eq_some_iff.mp hD
    refine x_goi hw (x_runS (As := [.int (x3), .int ((2 : Int32))]) (rest := []) C hw cS_X9_isWithin kw_5 (c_X9_isWithin l X ex x3 (2 : Int32)  q2.2 q4 hq4) ⟨Nat.le_of_ble_eq_true rfl, Nat.le_of_ble_eq_true rfl⟩ rfl hl.1 rfl (Nat.le_of_ble_eq_true rfl) dX9_cell_14 ⟨Nat.le_of_ble_eq_true rfl, Nat.le_of_ble_eq_true rfl⟩) (fun H locs hw => ?_)
    refine lv_if_ne (tgt := 24) C.1 C.2.1 dX9_cell_17 (by decide) (fun c5 => ?_) (fun c5 => ?_)
    · replace hD := (if_neg c5).symm.trans hD
      refine lv_aload_n C.1 C.2.1 dX9_cell_24 rfl (lv_at hl 0 rfl) ?_
      refine gf_X9_3 C hw kw_357 dX9_cell_25 ?_
      refine lv_iload_n C.1 C.2.1 dX9_cell_28 rfl (lv_at hl 1 rfl) ?_
      obtain ⟨g6, hD⟩ := gd_some hD
      refine x_aald (k := 4) (j := 0) (f := fun i => X.2.2.1 5 i) C hw (Nat.le_of_ble_eq_true rfl) 3 rfl rfl rfl (inB_in g6) (a := X.2.2.1 5 (x1.toNatClampNeg)) rfl dX9_cell_29 ?_
      refine lv_astore (lv' := [(4, .ref (X.2.2.1 5 (x1.toNatClampNeg))), (0, .ref (X.2.2.1 0 (0))), (1, .int (x1)), (2, .int (x2)), (3, .int (x3))]) C.1 C.2.1 dX9_cell_30 hl (by decide) rfl (fun ls hl => ?_)
      refine lv_aload C.1 C.2.1 dX9_cell_32 (lv_at hl 0 rfl) ?_
      refine lv_iload_n C.1 C.2.1 dX9_cell_34 rfl (lv_at hl 4 rfl) ?_
      obtain ⟨q7, hq7, hD⟩ := Option.bind_eq_some_iff.mp hD
      refine x_goi hw (x_runV (As := [.int (x3)]) (rest := []) (k := 5) (j := x1.toNatClampNeg) C hw (inB_lt g6) rfl rfl cV_X5_isOfOtherLane kw_401 (c_X5_isOfOtherLane l X ex x1.toNatClampNeg x3 (inB_lt g6) q4.2 q7 hq7) ⟨Nat.le_of_ble_eq_true rfl, Nat.le_of_ble_eq_true rfl⟩ rfl hl.1 rfl (Nat.le_of_ble_eq_true rfl) dX9_cell_35 ⟨Nat.le_of_ble_eq_true rfl, Nat.le_of_ble_eq_true rfl⟩) (fun H locs hw => ?_)
      refine lv_if_eq (tgt := 47) C.1 C.2.1 dX9_cell_38 (by decide) (fun c8 => ?_) (fun c8 => ?_)
      · replace hD := (if_pos c8).symm.trans hD
        refine lv_aload C.1 C.2.1 dX9_cell_47 (lv_at hl 0 rfl) ?_
        obtain ⟨q9, hq9, hD⟩ := Option.bind_eq_some_iff.mp hD
        refine x_goi hw (x_runV (As := []) (rest := []) (k := 5) (j := x1.toNatClampNeg) C hw (inB_lt g6) rfl rfl cV_X5_hasNothing kw_377 (c_X5_hasNothing l X ex x1.toNatClampNeg (inB_lt g6) q7.2 q9 hq9) ⟨Nat.le_of_ble_eq_true rfl, Nat.le_of_ble_eq_true rfl⟩ rfl hl.1 rfl (Nat.le_of_ble_eq_true rfl) dX9_cell_49 ⟨Nat.le_of_ble_eq_true rfl, Nat.le_of_ble_eq_true rfl⟩) (fun H locs hw => ?_)
        refine lv_if_eq (tgt := 61) C.1 C.2.1 dX9_cell_52 (by decide) (fun c10 => ?_) (fun c10 => ?_)
        · replace hD := (if_pos c10).symm.trans hD
          refine lv_aload C.1 C.2.1 dX9_cell_61 (lv_at hl 0 rfl) ?_
          refine lv_iload_n C.1 C.2.1 dX9_cell_63 rfl (lv_at hl 3 rfl) ?_
          obtain ⟨q11, hq11, hD⟩ := Option.bind_eq_some_iff.mp hD
          refine x_goi hw (x_runV (As := [.int (x2)]) (rest := []) (k := 5) (j := x1.toNatClampNeg) C hw (inB_lt g6) rfl rfl cV_X5_holds kw_389 (c_X5_holds l X ex x1.toNatClampNeg x2 (inB_lt g6) q9.2 q11 hq11) ⟨Nat.le_of_ble_eq_true rfl, Nat.le_of_ble_eq_true rfl⟩ rfl hl.1 rfl (Nat.le_of_ble_eq_true rfl) dX9_cell_64 ⟨Nat.le_of_ble_eq_true rfl, Nat.le_of_ble_eq_true rfl⟩) (fun H locs hw => ?_)
          refine lv_if_ne (tgt := 76) C.1 C.2.1 dX9_cell_67 (by decide) (fun c12 => ?_) (fun c12 => ?_)
          · replace hD := (if_neg c12).symm.trans hD
            refine lv_aload C.1 C.2.1 dX9_cell_76 (lv_at hl 0 rfl) ?_
            refine gNf_X5_0 C hw (j := x1.toNatClampNeg) (inB_lt g6) (List.mem_of_getElem? (i := 13) rfl) dX9_cell_78 ?_
            refine lv_iload_n C.1 C.2.1 dX9_cell_81 rfl (lv_at hl 3 rfl) ?_
            obtain ⟨g13, hD⟩ := gd_some hD
            refine x_iald (k := 6) (j := x1.toNatClampNeg) C hw rfl (inB_lt g6) (inB_in g13) dX9_cell_82 ?_
            refine lv_i2l C.1 C.2.1 dX9_cell_83 rfl ?_
            obtain rfl := Option.some.inj hD
            exact x_lret C hw hr hk dX9_cell_84
          · replace hD := (if_pos c12).symm.trans hD
            refine lv_aload_n C.1 C.2.1 dX9_cell_70 rfl (lv_at hl 1 rfl) ?_
            refine lv_iconst (v := (3 : Int32)) C.1 C.2.1 dX9_cell_71 (by decide) ?_
            obtain ⟨q14, hq14, hD⟩ := Option.bind_eq_some_iff.mp hD
            refine x_gol hw (x_runV (As := [.int ((3 : Int32))]) (rest := []) (k := 0) (j := 0) C hw (Nat.le_of_ble_eq_true rfl) rfl rfl cV_X9_lostBy kw_407 (c_X9_lostBy l X ex (3 : Int32)  q11.2 q14 hq14) ⟨Nat.le_of_ble_eq_true rfl, Nat.le_of_ble_eq_true rfl⟩ rfl hl.1 rfl (Nat.le_of_ble_eq_true rfl) dX9_cell_72 ⟨Nat.le_of_ble_eq_true rfl, Nat.le_of_ble_eq_true rfl⟩) (fun H locs hw => ?_)
            obtain rfl := Option.some.inj hD
            exact x_lret C hw hr hk dX9_cell_75
        · replace hD := (if_neg c10).symm.trans hD
          refine lv_aload_n C.1 C.2.1 dX9_cell_55 rfl (lv_at hl 1 rfl) ?_
          refine lv_iconst (v := (1 : Int32)) C.1 C.2.1 dX9_cell_56 (by decide) ?_
          obtain ⟨q15, hq15, hD⟩ := Option.bind_eq_some_iff.mp hD
          refine x_gol hw (x_runV (As := [.int ((1 : Int32))]) (rest := []) (k := 0) (j := 0) C hw (Nat.le_of_ble_eq_true rfl) rfl rfl cV_X9_lostBy kw_407 (c_X9_lostBy l X ex (1 : Int32)  q9.2 q15 hq15) ⟨Nat.le_of_ble_eq_true rfl, Nat.le_of_ble_eq_true rfl⟩ rfl hl.1 rfl (Nat.le_of_ble_eq_true rfl) dX9_cell_57 ⟨Nat.le_of_ble_eq_true rfl, Nat.le_of_ble_eq_true rfl⟩) (fun H locs hw => ?_)
          obtain rfl := Option.some.inj hD
          exact x_lret C hw hr hk dX9_cell_60
      · replace hD := (if_neg c8).symm.trans hD
        refine lv_aload_n C.1 C.2.1 dX9_cell_41 rfl (lv_at hl 1 rfl) ?_
        refine lv_iconst (v := (2 : Int32)) C.1 C.2.1 dX9_cell_42 (by decide) ?_
        obtain ⟨q16, hq16, hD⟩ := Option.bind_eq_some_iff.mp hD
        refine x_gol hw (x_runV (As := [.int ((2 : Int32))]) (rest := []) (k := 0) (j := 0) C hw (Nat.le_of_ble_eq_true rfl) rfl rfl cV_X9_lostBy kw_407 (c_X9_lostBy l X ex (2 : Int32)  q7.2 q16 hq16) ⟨Nat.le_of_ble_eq_true rfl, Nat.le_of_ble_eq_true rfl⟩ rfl hl.1 rfl (Nat.le_of_ble_eq_true rfl) dX9_cell_43 ⟨Nat.le_of_ble_eq_true rfl, Nat.le_of_ble_eq_true rfl⟩) (fun H locs hw => ?_)
        obtain rfl := Option.some.inj hD
        exact x_lret C hw hr hk dX9_cell_46
    · replace hD := (if_pos c5).symm.trans hD
      refine lv_ldc2 (v := (-9223372036854775808 : Int64)) C.1 C.2.1 C.2.2.2.1 (C.2.2.2.2 _ kw_330) dX9_cell_20 ?_
      obtain rfl := Option.some.inj hD
      exact x_lret C hw hr hk dX9_cell_23
theorem gNf_X5_1 {p : Program} {l : Launch} {e : Env} {R : Room} {s : State} {m : MethodId} {args : Array Value} {below : List Frame} {meth : Method} {c : Code} {H : Heap} {locs : List Loc} {cells slots : Nat} {Q : State → Prop} {cc : ByteArray} {pc nL index : Nat} {ls : Array Slot} {rest : List Value} {X : XC} {ex : va_W} {z : XS} {own : String} (C : CallFix p m c cc nL s args gtbl own) (hw : xw X ex z s H locs) {j : Nat} (hj : j < 4) (hlink : (own, index, (TX5 1).1, (TX5 1).2.1, (TX5 1).2.2.1, "WordHedges") ∈ xnf) (hdg : decode cc pc = .ok (.getfield index, 3)) (kk : W p l e R s m args below meth c H locs cells slots Q (F0 m (pc + 3) ls (.int (gS z 5 1 j) :: rest))) : W p l e R s m args below meth c H locs cells slots Q (F0 m pc ls (.ref (X.2.2.1 5 j) :: rest)) :=
  x_getN (k := 5) (j := j) C hw hj 1 (v := .int (gS z 5 1 j)) rfl rfl ixX5 (by decide) hlink rfl hdg kk
theorem kw_409 : Cond.code yX5_holdsRun cX5_holdsRun 3 (some .boolean) ∈ gtbl := gm1 182 rfl rfl
theorem nd_X5_holdsRun : (yX5_holdsRun).cls ≠ "java/lang/invoke/MethodHandle" ∧ (yX5_holdsRun).cls ≠ "java/lang/invoke/VarHandle" ∧ (parseMethodDescriptor (yX5_holdsRun).desc).map (fun d => d.parameters.length) = some 2 := by decide +kernel
theorem kw_411 : Cond.instanceMethod yX5_holdsRun ∈ gtbl := gm1 180 rfl rfl
theorem kw_412 : Cond.selects RX5 yX5_holdsRun yX5_holdsRun ∈ gtbl := gm1 181 rfl rfl
theorem cV_X5_holdsRun : xcV yX5_holdsRun cX5_holdsRun 3 (some .boolean) 2 := ⟨⟨kw_409, kw_360, nd_X5_holdsRun⟩, kw_411, kw_412⟩
theorem kw_414 : Cond.methodLink RX9 62 yX5_holdsRun ∈ gtbl := gm1 179 rfl rfl
theorem kw_415 : Cond.methodLink RX9 219 arraycopyName ∈ gtbl := gm3 59 rfl rfl
theorem kw_416 : Cond.native arraycopyName ∈ gtbl := gm3 61 rfl rfl
theorem kw_417 : Cond.static arraycopyName ∈ gtbl := gm3 60 rfl rfl
theorem kw_418 : Cond.initialized "java/lang/System" ∈ gtbl := gm1 14 rfl rfl
abbrev rm_X9_copy : Room := { frames := 2, cells := 0, slots := 0, locals := 41 }
def D_X9_copy (x1 : Int32) (x2 : Int32) (x3 : Int32) (x4 : Int32) (x5 : Int32) (z : XS) : Option (Int32 × XS) :=
  (some (pS z 0 4 0 (0 : Int32))).bind fun z1 => ((D_X9_isSheet x1 z1).bind fun q2 => ((if q2.1 = 0 then some ((-1 : Int32), q2.2) else (D_X9_isSheet x3 q2.2).bind fun q4 => ((if q4.1 = 0 then some ((-1 : Int32), q4.2) else gd (inB x1 4) (gd (inB x3 4) ((D_X5_hasNothing x1.toNatClampNeg q4.2).bind fun q8 => ((if q8.1 = 0 then (D_X5_hasNothing x3.toNatClampNeg q8.2).bind fun q11 => ((if q11.1 = 0 then (D_X5_isOfOtherLane x1.toNatClampNeg (gS q11.2 5 1 x3.toNatClampNeg) q11.2).bind fun q13 => ((if q13.1 = 0 then (D_X5_holdsRun x1.toNatClampNeg x2 x5 q13.2).bind fun q15 => ((if q15.1 = 0 then (D_X9_faulted (3 : Int32) q15.2).bind fun q17 => (some (q17.1, q17.2)) else (D_X5_holdsRun x3.toNatClampNeg x4 x5 q15.2).bind fun q18 => ((if q18.1 = 0 then (D_X9_faulted (3 : Int32) q18.2).bind fun q22 => (some (q22.1, q22.2)) else gd (cpB x2 x4 x5 60 60) ((some (pR q18.2 6 x3.toNatClampNeg (va_cpy (fun i => gA q18.2 6 x1.toNatClampNeg i) (fun i => gA q18.2 6 x3.toNatClampNeg i) x2.toNatClampNeg x4.toNatClampNeg x5.toNatClampNeg))).bind fun z21 => (some (x5, z21))))))) else (D_X9_faulted (2 : Int32) q13.2).bind fun q23 => (some (q23.1, q23.2)))) else (D_X9_faulted (1 : Int32) q11.2).bind fun q24 => (some (q24.1, q24.2)))) else (D_X9_faulted (1 : Int32) q8.2).bind fun q10 => (some (q10.1, q10.2)))))))))))
set_option maxHeartbeats 4000000 in
set_option maxRecDepth 100000 in
theorem c_X9_copy (l : Launch) (X : XC) (ex : va_W) (x1 : Int32) (x2 : Int32) (x3 : Int32) (x4 : Int32) (x5 : Int32) (z : XS) (R0 : Int32 × XS) (hD : D_X9_copy x1 x2 x3 x4 x5 z = some R0) : xM l X ex yX9_copy cX9_copy 8 (some .int) rm_X9_copy [.ref (X.2.2.1 0 (0)), .int (x1), .int (x2), .int (x3), .int (x4), .int (x5)] z (xQi X ex R0.2 R0.1) := by
  refine x_ent (by decide) (Nat.le_of_ble_eq_true rfl) ?_
  intro p e s m below meth c ls C hr hk hw hl
  replace hl : lv_has ls 8 [(0, .ref (X.2.2.1 0 (0))), (1, .int (x1)), (2, .int (x2)), (3, .int (x3)), (4, .int (x4)), (5, .int (x5))] := hl
  unfold D_X9_copy at hD
  refine lv_aload_n C.1 C.2.1 dX9_copy_0 rfl (lv_at hl 0 rfl) ?_
  refine lv_iconst (v := (0 : Int32)) C.1 C.2.1 dX9_copy_1 (by decide) ?_
  obtain ⟨z1, hz1, hD⟩ := Option.bind_eq_some_iff.mp hD
  refine pf_X9_4 C hw kw_8 dX9_copy_2 (fun H locs hw => ?_)
  replace hw := xw_eq hz1 hw
  refine lv_iload_n C.1 C.2.1 dX9_copy_5 rfl (lv_at hl 1 rfl) ?_
  obtain ⟨q2, hq2, hD⟩ := Option.bind_eq_some_iff.mp hD
  refine x_goi hw (x_runS (As := [.int (x1)]) (rest := []) C hw cS_X9_isSheet kw_356 (c_X9_isSheet l X ex x1  z1 q2 hq2) ⟨Nat.le_of_ble_eq_true rfl, Nat.le_of_ble_eq_true rfl⟩ rfl hl.1 rfl (Nat.le_of_ble_eq_true rfl) dX9_copy_6 ⟨Nat.le_of_ble_eq_true rfl, Nat.le_of_ble_eq_true rfl⟩) (fun H locs hw => ?_)
  refine lv_if_eq (tgt := 19) C.1 C.2.1 dX9_copy_9 (by decide) (fun c3 => ?_) (fun c3 => ?_)
  · replace hD := (if_pos c3).symm.trans hD
    refine lv_iconst (v := (-1 : Int32)) C.1 C.2.1 dX9_copy_19 (by decide) ?_
    obtain rfl := Option.some.inj hD
    exact x_iret C hw hr hk dX9_copy_20
  · replace hD := (if_neg c3).symm.trans hD
    refine lv_iload_n C.1 C.2.1 dX9_copy_12 rfl (lv_at hl 3 rfl) ?_
    obtain ⟨q4, hq4, hD⟩ := Option.bind_eq_some_iff.mp hD
    refine x_goi hw (x_runS (As := [.int (x3)]) (rest := []) C hw cS_X9_isSheet kw_356 (c_X9_isSheet l X ex x3  q2.2 q4 hq4) ⟨Nat.le_of_ble_eq_true rfl, Nat.le_of_ble_eq_true rfl⟩ rfl hl.1 rfl (Nat.le_of_ble_eq_true rfl) dX9_copy_13 ⟨Nat.le_of_ble_eq_true rfl, Nat.le_of_ble_eq_true rfl⟩) (fun H locs hw => ?_)
    refine lv_if_ne (tgt := 21) C.1 C.2.1 dX9_copy_16 (by decide) (fun c5 => ?_) (fun c5 => ?_)
    · replace hD := (if_neg c5).symm.trans hD
      refine lv_aload_n C.1 C.2.1 dX9_copy_21 rfl (lv_at hl 0 rfl) ?_
      refine gf_X9_3 C hw kw_357 dX9_copy_22 ?_
      refine lv_iload_n C.1 C.2.1 dX9_copy_25 rfl (lv_at hl 1 rfl) ?_
      obtain ⟨g6, hD⟩ := gd_some hD
      refine x_aald (k := 4) (j := 0) (f := fun i => X.2.2.1 5 i) C hw (Nat.le_of_ble_eq_true rfl) 3 rfl rfl rfl (inB_in g6) (a := X.2.2.1 5 (x1.toNatClampNeg)) rfl dX9_copy_26 ?_
      refine lv_astore (lv' := [(6, .ref (X.2.2.1 5 (x1.toNatClampNeg))), (0, .ref (X.2.2.1 0 (0))), (1, .int (x1)), (2, .int (x2)), (3, .int (x3)), (4, .int (x4)), (5, .int (x5))]) C.1 C.2.1 dX9_copy_27 hl (by decide) rfl (fun ls hl => ?_)
      refine lv_aload_n C.1 C.2.1 dX9_copy_29 rfl (lv_at hl 1 rfl) ?_
      refine gf_X9_3 C hw kw_357 dX9_copy_30 ?_
      refine lv_iload_n C.1 C.2.1 dX9_copy_33 rfl (lv_at hl 4 rfl) ?_
      obtain ⟨g7, hD⟩ := gd_some hD
      refine x_aald (k := 4) (j := 0) (f := fun i => X.2.2.1 5 i) C hw (Nat.le_of_ble_eq_true rfl) 3 rfl rfl rfl (inB_in g7) (a := X.2.2.1 5 (x3.toNatClampNeg)) rfl dX9_copy_34 ?_
      refine lv_astore (lv' := [(7, .ref (X.2.2.1 5 (x3.toNatClampNeg))), (6, .ref (X.2.2.1 5 (x1.toNatClampNeg))), (0, .ref (X.2.2.1 0 (0))), (1, .int (x1)), (2, .int (x2)), (3, .int (x3)), (4, .int (x4)), (5, .int (x5))]) C.1 C.2.1 dX9_copy_35 hl (by decide) rfl (fun ls hl => ?_)
      refine lv_aload C.1 C.2.1 dX9_copy_37 (lv_at hl 1 rfl) ?_
      obtain ⟨q8, hq8, hD⟩ := Option.bind_eq_some_iff.mp hD
      refine x_goi hw (x_runV (As := []) (rest := []) (k := 5) (j := x1.toNatClampNeg) C hw (inB_lt g6) rfl rfl cV_X5_hasNothing kw_377 (c_X5_hasNothing l X ex x1.toNatClampNeg (inB_lt g6) q4.2 q8 hq8) ⟨Nat.le_of_ble_eq_true rfl, Nat.le_of_ble_eq_true rfl⟩ rfl hl.1 rfl (Nat.le_of_ble_eq_true rfl) dX9_copy_39 ⟨Nat.le_of_ble_eq_true rfl, Nat.le_of_ble_eq_true rfl⟩) (fun H locs hw => ?_)
      refine lv_if_ne (tgt := 53) C.1 C.2.1 dX9_copy_42 (by decide) (fun c9 => ?_) (fun c9 => ?_)
      · replace hD := (if_neg c9).symm.trans hD
        refine lv_aload_n C.1 C.2.1 dX9_copy_53 rfl (lv_at hl 2 rfl) ?_
        refine lv_iconst (v := (1 : Int32)) C.1 C.2.1 dX9_copy_54 (by decide) ?_
        obtain ⟨q10, hq10, hD⟩ := Option.bind_eq_some_iff.mp hD
        refine x_goi hw (x_runV (As := [.int ((1 : Int32))]) (rest := []) (k := 0) (j := 0) C hw (Nat.le_of_ble_eq_true rfl) rfl rfl cV_X9_faulted kw_371 (c_X9_faulted l X ex (1 : Int32)  q8.2 q10 hq10) ⟨Nat.le_of_ble_eq_true rfl, Nat.le_of_ble_eq_true rfl⟩ rfl hl.1 rfl (Nat.le_of_ble_eq_true rfl) dX9_copy_55 ⟨Nat.le_of_ble_eq_true rfl, Nat.le_of_ble_eq_true rfl⟩) (fun H locs hw => ?_)
        obtain rfl := Option.some.inj hD
        exact x_iret C hw hr hk dX9_copy_58
      · replace hD := (if_pos c9).symm.trans hD
        refine lv_aload C.1 C.2.1 dX9_copy_45 (lv_at hl 0 rfl) ?_
        obtain ⟨q11, hq11, hD⟩ := Option.bind_eq_some_iff.mp hD
        refine x_goi hw (x_runV (As := []) (rest := []) (k := 5) (j := x3.toNatClampNeg) C hw (inB_lt g7) rfl rfl cV_X5_hasNothing kw_377 (c_X5_hasNothing l X ex x3.toNatClampNeg (inB_lt g7) q8.2 q11 hq11) ⟨Nat.le_of_ble_eq_true rfl, Nat.le_of_ble_eq_true rfl⟩ rfl hl.1 rfl (Nat.le_of_ble_eq_true rfl) dX9_copy_47 ⟨Nat.le_of_ble_eq_true rfl, Nat.le_of_ble_eq_true rfl⟩) (fun H locs hw => ?_)
        refine lv_if_eq (tgt := 59) C.1 C.2.1 dX9_copy_50 (by decide) (fun c12 => ?_) (fun c12 => ?_)
        · replace hD := (if_pos c12).symm.trans hD
          refine lv_aload C.1 C.2.1 dX9_copy_59 (lv_at hl 1 rfl) ?_
          refine lv_aload C.1 C.2.1 dX9_copy_61 (lv_at hl 0 rfl) ?_
          refine gNf_X5_1 C hw (j := x3.toNatClampNeg) (inB_lt g7) (List.mem_of_getElem? (i := 14) rfl) dX9_copy_63 ?_
          obtain ⟨q13, hq13, hD⟩ := Option.bind_eq_some_iff.mp hD
          refine x_goi hw (x_runV (As := [.int (gS q11.2 5 1 x3.toNatClampNeg)]) (rest := []) (k := 5) (j := x1.toNatClampNeg) C hw (inB_lt g6) rfl rfl cV_X5_isOfOtherLane kw_401 (c_X5_isOfOtherLane l X ex x1.toNatClampNeg (gS q11.2 5 1 x3.toNatClampNeg) (inB_lt g6) q11.2 q13 hq13) ⟨Nat.le_of_ble_eq_true rfl, Nat.le_of_ble_eq_true rfl⟩ rfl hl.1 rfl (Nat.le_of_ble_eq_true rfl) dX9_copy_66 ⟨Nat.le_of_ble_eq_true rfl, Nat.le_of_ble_eq_true rfl⟩) (fun H locs hw => ?_)
          refine lv_if_eq (tgt := 78) C.1 C.2.1 dX9_copy_69 (by decide) (fun c14 => ?_) (fun c14 => ?_)
          · replace hD := (if_pos c14).symm.trans hD
            refine lv_aload C.1 C.2.1 dX9_copy_78 (lv_at hl 1 rfl) ?_
            refine lv_iload_n C.1 C.2.1 dX9_copy_80 rfl (lv_at hl 4 rfl) ?_
            refine lv_iload C.1 C.2.1 dX9_copy_81 (lv_at hl 7 rfl) ?_
            obtain ⟨q15, hq15, hD⟩ := Option.bind_eq_some_iff.mp hD
            refine x_goi hw (x_runV (As := [.int (x2), .int (x5)]) (rest := []) (k := 5) (j := x1.toNatClampNeg) C hw (inB_lt g6) rfl rfl cV_X5_holdsRun kw_414 (c_X5_holdsRun l X ex x1.toNatClampNeg x2 x5 (inB_lt g6) q13.2 q15 hq15) ⟨Nat.le_of_ble_eq_true rfl, Nat.le_of_ble_eq_true rfl⟩ rfl hl.1 rfl (Nat.le_of_ble_eq_true rfl) dX9_copy_83 ⟨Nat.le_of_ble_eq_true rfl, Nat.le_of_ble_eq_true rfl⟩) (fun H locs hw => ?_)
            refine lv_if_eq (tgt := 101) C.1 C.2.1 dX9_copy_86 (by decide) (fun c16 => ?_) (fun c16 => ?_)
            · replace hD := (if_pos c16).symm.trans hD
              refine lv_aload_n C.1 C.2.1 dX9_copy_101 rfl (lv_at hl 2 rfl) ?_
              refine lv_iconst (v := (3 : Int32)) C.1 C.2.1 dX9_copy_102 (by decide) ?_
              obtain ⟨q17, hq17, hD⟩ := Option.bind_eq_some_iff.mp hD
              refine x_goi hw (x_runV (As := [.int ((3 : Int32))]) (rest := []) (k := 0) (j := 0) C hw (Nat.le_of_ble_eq_true rfl) rfl rfl cV_X9_faulted kw_371 (c_X9_faulted l X ex (3 : Int32)  q15.2 q17 hq17) ⟨Nat.le_of_ble_eq_true rfl, Nat.le_of_ble_eq_true rfl⟩ rfl hl.1 rfl (Nat.le_of_ble_eq_true rfl) dX9_copy_103 ⟨Nat.le_of_ble_eq_true rfl, Nat.le_of_ble_eq_true rfl⟩) (fun H locs hw => ?_)
              obtain rfl := Option.some.inj hD
              exact x_iret C hw hr hk dX9_copy_106
            · replace hD := (if_neg c16).symm.trans hD
              refine lv_aload C.1 C.2.1 dX9_copy_89 (lv_at hl 0 rfl) ?_
              refine lv_iload C.1 C.2.1 dX9_copy_91 (lv_at hl 6 rfl) ?_
              refine lv_iload C.1 C.2.1 dX9_copy_93 (lv_at hl 7 rfl) ?_
              obtain ⟨q18, hq18, hD⟩ := Option.bind_eq_some_iff.mp hD
              refine x_goi hw (x_runV (As := [.int (x4), .int (x5)]) (rest := []) (k := 5) (j := x3.toNatClampNeg) C hw (inB_lt g7) rfl rfl cV_X5_holdsRun kw_414 (c_X5_holdsRun l X ex x3.toNatClampNeg x4 x5 (inB_lt g7) q15.2 q18 hq18) ⟨Nat.le_of_ble_eq_true rfl, Nat.le_of_ble_eq_true rfl⟩ rfl hl.1 rfl (Nat.le_of_ble_eq_true rfl) dX9_copy_95 ⟨Nat.le_of_ble_eq_true rfl, Nat.le_of_ble_eq_true rfl⟩) (fun H locs hw => ?_)
              refine lv_if_ne (tgt := 107) C.1 C.2.1 dX9_copy_98 (by decide) (fun c19 => ?_) (fun c19 => ?_)
              · replace hD := (if_neg c19).symm.trans hD
                refine lv_aload C.1 C.2.1 dX9_copy_107 (lv_at hl 1 rfl) ?_
                refine gNf_X5_0 C hw (j := x1.toNatClampNeg) (inB_lt g6) (List.mem_of_getElem? (i := 13) rfl) dX9_copy_109 ?_
                refine lv_iload_n C.1 C.2.1 dX9_copy_112 rfl (lv_at hl 4 rfl) ?_
                refine lv_aload C.1 C.2.1 dX9_copy_113 (lv_at hl 0 rfl) ?_
                refine gNf_X5_0 C hw (j := x3.toNatClampNeg) (inB_lt g7) (List.mem_of_getElem? (i := 13) rfl) dX9_copy_115 ?_
                refine lv_iload C.1 C.2.1 dX9_copy_118 (lv_at hl 6 rfl) ?_
                refine lv_iload C.1 C.2.1 dX9_copy_120 (lv_at hl 7 rfl) ?_
                obtain ⟨g20, hD⟩ := gd_some hD
                obtain ⟨z21, hz21, hD⟩ := Option.bind_eq_some_iff.mp hD
                refine x_copy (k := 6) (j := x3.toNatClampNeg) (k0 := 6) (j0 := x1.toNatClampNeg) C hw kw_415 kw_416 kw_417 kw_418 hl.1 rfl (inB_lt g7) rfl (inB_lt g6) g20 (Nat.le_of_ble_eq_true rfl) (by decide) dX9_copy_122 (fun H locs hw => ?_)
                replace hw := xw_eq hz21 hw
                refine lv_iload C.1 C.2.1 dX9_copy_125 (lv_at hl 7 rfl) ?_
                obtain rfl := Option.some.inj hD
                exact x_iret C hw hr hk dX9_copy_127
              · replace hD := (if_pos c19).symm.trans hD
                refine lv_aload_n C.1 C.2.1 dX9_copy_101 rfl (lv_at hl 2 rfl) ?_
                refine lv_iconst (v := (3 : Int32)) C.1 C.2.1 dX9_copy_102 (by decide) ?_
                obtain ⟨q22, hq22, hD⟩ := Option.bind_eq_some_iff.mp hD
                refine x_goi hw (x_runV (As := [.int ((3 : Int32))]) (rest := []) (k := 0) (j := 0) C hw (Nat.le_of_ble_eq_true rfl) rfl rfl cV_X9_faulted kw_371 (c_X9_faulted l X ex (3 : Int32)  q18.2 q22 hq22) ⟨Nat.le_of_ble_eq_true rfl, Nat.le_of_ble_eq_true rfl⟩ rfl hl.1 rfl (Nat.le_of_ble_eq_true rfl) dX9_copy_103 ⟨Nat.le_of_ble_eq_true rfl, Nat.le_of_ble_eq_true rfl⟩) (fun H locs hw => ?_)
                obtain rfl := Option.some.inj hD
                exact x_iret C hw hr hk dX9_copy_106
          · replace hD := (if_neg c14).symm.trans hD
            refine lv_aload_n C.1 C.2.1 dX9_copy_72 rfl (lv_at hl 2 rfl) ?_
            refine lv_iconst (v := (2 : Int32)) C.1 C.2.1 dX9_copy_73 (by decide) ?_
            obtain ⟨q23, hq23, hD⟩ := Option.bind_eq_some_iff.mp hD
            refine x_goi hw (x_runV (As := [.int ((2 : Int32))]) (rest := []) (k := 0) (j := 0) C hw (Nat.le_of_ble_eq_true rfl) rfl rfl cV_X9_faulted kw_371 (c_X9_faulted l X ex (2 : Int32)  q13.2 q23 hq23) ⟨Nat.le_of_ble_eq_true rfl, Nat.le_of_ble_eq_true rfl⟩ rfl hl.1 rfl (Nat.le_of_ble_eq_true rfl) dX9_copy_74 ⟨Nat.le_of_ble_eq_true rfl, Nat.le_of_ble_eq_true rfl⟩) (fun H locs hw => ?_)
            obtain rfl := Option.some.inj hD
            exact x_iret C hw hr hk dX9_copy_77
        · replace hD := (if_neg c12).symm.trans hD
          refine lv_aload_n C.1 C.2.1 dX9_copy_53 rfl (lv_at hl 2 rfl) ?_
          refine lv_iconst (v := (1 : Int32)) C.1 C.2.1 dX9_copy_54 (by decide) ?_
          obtain ⟨q24, hq24, hD⟩ := Option.bind_eq_some_iff.mp hD
          refine x_goi hw (x_runV (As := [.int ((1 : Int32))]) (rest := []) (k := 0) (j := 0) C hw (Nat.le_of_ble_eq_true rfl) rfl rfl cV_X9_faulted kw_371 (c_X9_faulted l X ex (1 : Int32)  q11.2 q24 hq24) ⟨Nat.le_of_ble_eq_true rfl, Nat.le_of_ble_eq_true rfl⟩ rfl hl.1 rfl (Nat.le_of_ble_eq_true rfl) dX9_copy_55 ⟨Nat.le_of_ble_eq_true rfl, Nat.le_of_ble_eq_true rfl⟩) (fun H locs hw => ?_)
          obtain rfl := Option.some.inj hD
          exact x_iret C hw hr hk dX9_copy_58
    · replace hD := (if_pos c5).symm.trans hD
      refine lv_iconst (v := (-1 : Int32)) C.1 C.2.1 dX9_copy_19 (by decide) ?_
      obtain rfl := Option.some.inj hD
      exact x_iret C hw hr hk dX9_copy_20
theorem kw_419 : Cond.fieldLink RX7 7 (TX7 0).1 (TX7 0).2.1 (TX7 0).2.2.1 ∈ gtbl := gm1 115 rfl rfl
theorem gf_X7_0 {p : Program} {l : Launch} {e : Env} {R : Room} {s : State} {m : MethodId} {args : Array Value} {below : List Frame} {meth : Method} {c : Code} {H : Heap} {locs : List Loc} {cells slots : Nat} {Q : State → Prop} {cc : ByteArray} {pc nL index : Nat} {ls : Array Slot} {rest : List Value} {X : XC} {ex : va_W} {z : XS} {own : String} (C : CallFix p m c cc nL s args gtbl own) (hw : xw X ex z s H locs) (hlink : Cond.fieldLink own index (TX7 0).1 (TX7 0).2.1 (TX7 0).2.2.1 ∈ gtbl) (hdg : decode cc pc = .ok (.getfield index, 3)) (kk : W p l e R s m args below meth c H locs cells slots Q (F0 m (pc + 3) ls (.int (gS z 3 0 0) :: rest))) : W p l e R s m args below meth c H locs cells slots Q (F0 m pc ls (.ref (X.2.2.1 3 0) :: rest)) :=
  x_get (k := 3) (j := 0) C hw (Nat.le_of_ble_eq_true rfl) 0 (v := .int (gS z 3 0 0)) rfl rfl ixX7 (by decide) hlink rfl hdg kk
theorem pf_X7_0 {p : Program} {l : Launch} {e : Env} {R : Room} {s : State} {m : MethodId} {args : Array Value} {below : List Frame} {meth : Method} {c : Code} {H : Heap} {locs : List Loc} {cells slots : Nat} {Q : State → Prop} {cc : ByteArray} {pc nL index : Nat} {ls : Array Slot} {rest : List Value} {X : XC} {ex : va_W} {z : XS} {own : String} (C : CallFix p m c cc nL s args gtbl own) (hw : xw X ex z s H locs) {v : Int32} (hlink : Cond.fieldLink own index (TX7 0).1 (TX7 0).2.1 (TX7 0).2.2.1 ∈ gtbl) (hdg : decode cc pc = .ok (.putfield index, 3)) (kk : ∀ (H1 : Heap) (locs1 : List Loc), xw X ex (pS z 3 0 0 v) s H1 locs1 → W p l e R s m args below meth c H1 locs1 cells slots Q (F0 m (pc + 3) ls rest)) : W p l e R s m args below meth c H locs cells slots Q (F0 m pc ls (.int v :: .ref (X.2.2.1 3 0) :: rest)) :=
  x_put (k := 3) (j := 0) C hw (Nat.le_of_ble_eq_true rfl) 0 (v := v) rfl rfl rfl ixX7 tyX7 tyX7_ok nmX7 (by decide) hlink rfl (by decide +kernel) (Nat.le_of_ble_eq_true rfl) hdg kk
abbrev rm_X7_enter : Room := { frames := 0, cells := 0, slots := 0, locals := 0 }
def D_X7_enter (x1 : Int32) (z : XS) : Option (XS) :=
  (some (pS z 3 0 0 (((31 : Int32) * (gS z 3 0 0)) + x1))).bind fun z1 => (some z1)
set_option maxHeartbeats 4000000 in
set_option maxRecDepth 100000 in
theorem c_X7_enter (l : Launch) (X : XC) (ex : va_W) (x1 : Int32) (z : XS) (R0 : XS) (hD : D_X7_enter x1 z = some R0) : xM l X ex yX7_enter cX7_enter 2 none rm_X7_enter [.ref (X.2.2.1 3 (0)), .int (x1)] z (xQv X ex R0) := by
  refine x_ent (by decide) (Nat.le_of_ble_eq_true rfl) ?_
  intro p e s m below meth c ls C hr hk hw hl
  replace hl : lv_has ls 2 [(0, .ref (X.2.2.1 3 (0))), (1, .int (x1))] := hl
  unfold D_X7_enter at hD
  refine lv_aload_n C.1 C.2.1 dX7_enter_0 rfl (lv_at hl 0 rfl) ?_
  refine lv_bipush (v := (31 : Int32)) C.1 C.2.1 dX7_enter_1 (by decide) ?_
  refine lv_aload_n C.1 C.2.1 dX7_enter_3 rfl (lv_at hl 0 rfl) ?_
  refine gf_X7_0 C hw kw_419 dX7_enter_4 ?_
  refine lv_imul C.1 C.2.1 dX7_enter_7 ?_
  refine lv_iload_n C.1 C.2.1 dX7_enter_8 rfl (lv_at hl 1 rfl) ?_
  refine lv_iadd C.1 C.2.1 dX7_enter_9 ?_
  obtain ⟨z1, hz1, hD⟩ := Option.bind_eq_some_iff.mp hD
  refine pf_X7_0 C hw kw_419 dX7_enter_10 (fun H locs hw => ?_)
  replace hw := xw_eq hz1 hw
  obtain rfl := Option.some.inj hD
  exact x_vret C hw hr hk dX7_enter_13
theorem kw_422 : Cond.code yX7_enter cX7_enter 2 none ∈ gtbl := gm3 76 rfl rfl
theorem kw_423 : Cond.initialized RX7 ∈ gtbl := gm1 6 rfl rfl
theorem nd_X7_enter : (yX7_enter).cls ≠ "java/lang/invoke/MethodHandle" ∧ (yX7_enter).cls ≠ "java/lang/invoke/VarHandle" ∧ (parseMethodDescriptor (yX7_enter).desc).map (fun d => d.parameters.length) = some 1 := by decide +kernel
theorem kw_425 : Cond.instanceMethod yX7_enter ∈ gtbl := gm3 74 rfl rfl
theorem kw_426 : Cond.selects RX7 yX7_enter yX7_enter ∈ gtbl := gm3 75 rfl rfl
theorem cV_X7_enter : xcV yX7_enter cX7_enter 2 none 1 := ⟨⟨kw_422, kw_423, nd_X7_enter⟩, kw_425, kw_426⟩
theorem kw_428 : Cond.methodLink RX2 22 yX7_enter ∈ gtbl := gm3 88 rfl rfl
theorem kw_429 : Cond.fieldLink RX2 15 "WordHedges$Hedge" "high" "I" ∈ gtbl := gm1 43 rfl rfl
abbrev rm_X2_plainTelling : Room := { frames := 1, cells := 0, slots := 0, locals := 21 }
def D_X2_plainTelling (j0 : Nat) (z : XS) : Option (Int32 × XS) :=
  (D_X7_enter (1 : Int32) z).bind fun q1 => (gd (isH q1 (j0)) (some (gS q1 10 1 (j0), q1)))
set_option maxHeartbeats 4000000 in
set_option maxRecDepth 100000 in
theorem c_X2_plainTelling (l : Launch) (X : XC) (ex : va_W) (j0 : Nat) (hj0 : j0 < 6) (z : XS) (R0 : Int32 × XS) (hD : D_X2_plainTelling j0 z = some R0) : xM l X ex yX2_plainTelling cX2_plainTelling 2 (some .int) rm_X2_plainTelling [.ref (X.2.2.1 10 (j0)), .ref (X.2.2.1 3 (0))] z (xQi X ex R0.2 R0.1) := by
  refine x_ent (by decide) (Nat.le_of_ble_eq_true rfl) ?_
  intro p e s m below meth c ls C hr hk hw hl
  replace hl : lv_has ls 2 [(0, .ref (X.2.2.1 10 (j0))), (1, .ref (X.2.2.1 3 (0)))] := hl
  unfold D_X2_plainTelling at hD
  refine lv_aload_n C.1 C.2.1 dX2_plainTelling_0 rfl (lv_at hl 1 rfl) ?_
  refine lv_iconst (v := (1 : Int32)) C.1 C.2.1 dX2_plainTelling_1 (by decide) ?_
  obtain ⟨q1, hq1, hD⟩ := Option.bind_eq_some_iff.mp hD
  refine x_gov hw (x_runV (As := [.int ((1 : Int32))]) (rest := []) (k := 3) (j := 0) C hw (Nat.le_of_ble_eq_true rfl) rfl rfl cV_X7_enter kw_428 (c_X7_enter l X ex (1 : Int32)  z q1 hq1) ⟨Nat.le_of_ble_eq_true rfl, Nat.le_of_ble_eq_true rfl⟩ rfl hl.1 rfl (Nat.le_of_ble_eq_true rfl) dX2_plainTelling_2 ⟨Nat.le_of_ble_eq_true rfl, Nat.le_of_ble_eq_true rfl⟩) (fun H locs hw => ?_)
  refine lv_aload_n C.1 C.2.1 dX2_plainTelling_5 rfl (lv_at hl 0 rfl) ?_
  obtain ⟨g2, hD⟩ := gd_some hD
  refine x_getH (j := j0) C hw hj0 g2 1 (by decide) kw_429 dX2_plainTelling_6 ?_
  obtain rfl := Option.some.inj hD
  exact x_iret C hw hr hk dX2_plainTelling_9

theorem kw_431 : Cond.methodLink RX2 18 (⟨"WordHedges$Hedge", "plainTelling", "(LWordHedges$Trace;)I"⟩ : MethodName) ∈ gtbl := gm3 91 rfl rfl
theorem kw_432 : Cond.sameMethod "WordHedges$Hedge" "WordHedges$Hedge" "plainTelling" "(LWordHedges$Trace;)I" ∈ gtbl := gm4 229 rfl rfl
theorem kw_433 : Cond.instanceMethod (⟨"WordHedges$Hedge", "plainTelling", "(LWordHedges$Trace;)I"⟩ : MethodName) ∈ gtbl := gm3 86 rfl rfl
theorem kw_434 : Cond.code (⟨"WordHedges$Hedge", "plainTelling", "(LWordHedges$Trace;)I"⟩ : MethodName) cX2_plainTelling 2 (some .int) ∈ gtbl := gm3 87 rfl rfl
theorem kw_435 : Cond.code yX2_plainTelling cX2_plainTelling 2 (some .int) ∈ gtbl := gm3 87 rfl rfl
theorem kw_436 : Cond.instanceMethod yX2_plainTelling ∈ gtbl := gm3 86 rfl rfl
theorem kw_437 : Cond.selects RX1 (⟨"WordHedges$Hedge", "plainTelling", "(LWordHedges$Trace;)I"⟩ : MethodName) yX2_plainTelling ∈ gtbl := gm4 230 rfl rfl
theorem kw_438 : Cond.selects RX8 (⟨"WordHedges$Hedge", "plainTelling", "(LWordHedges$Trace;)I"⟩ : MethodName) yX2_plainTelling ∈ gtbl := gm4 232 rfl rfl
theorem kw_439 : Cond.selects RX2 (⟨"WordHedges$Hedge", "plainTelling", "(LWordHedges$Trace;)I"⟩ : MethodName) yX2_plainTelling ∈ gtbl := gm4 231 rfl rfl
def DV_plainTelling_X2_18 (j0 : Nat)  (z : XS) : Option (Int32 × XS) := if z.2.2 j0 = 1 then D_X2_plainTelling j0  z else if z.2.2 j0 = 7 then D_X2_plainTelling j0  z else if z.2.2 j0 = 2 then D_X2_plainTelling j0  z else none
set_option maxHeartbeats 4000000 in
theorem r_plainTelling_X2_18 {p : Program} {l : Launch} {e : Env} {R : Room} {s : State} {m : MethodId} {args : Array Value} {below : List Frame} {meth : Method} {c : Code} {H : Heap} {locs : List Loc} {cells slots : Nat} {Q : State → Prop} {cc : ByteArray} {pc nL : Nat} {ls : Array Slot} (rest : List Value) {X : XC} {ex : va_W} {z : XS} (C : CallFix p m c cc nL s args gtbl RX2) (hw : xw X ex z s H locs) (j0 : Nat) (hj0 : j0 < 6)  (q : Int32 × XS) (hq : DV_plainTelling_X2_18 j0  z = some q) (hF : 2 ≤ R.frames) (hL : 42 ≤ R.locals) (hsize : ls.size = nL) (hW : (rest.map fun v => v.category).sum ≤ 8) (hdg : decode cc pc = .ok (.invokevirtual 18, 3)) (hcs : cells ≤ R.cells ∧ slots ≤ R.slots) (kk : ∀ (H1 : Heap) (locs1 : List Loc), xw X ex q.2 s H1 locs1 → W p l e R s m args below meth c H1 locs1 cells slots Q (F0 m (pc + 3) ls (.int q.1 :: rest))) : W p l e R s m args below meth c H locs cells slots Q (F0 m pc ls (.ref (X.2.2.1 3 (0)) :: .ref (X.2.2.1 10 j0) :: rest)) := by
  unfold DV_plainTelling_X2_18 at hq
  by_cases h0 : z.2.2 j0 = 1
  · rw [if_pos h0] at hq
    exact x_goi hw (x_runD (n := 1) (x := (⟨"WordHedges$Hedge", "plainTelling", "(LWordHedges$Trace;)I"⟩ : MethodName)) (owner := "WordHedges$Hedge") (y := yX2_plainTelling) (As := [.ref (X.2.2.1 3 (0))]) (rest := rest) (k := 10) (j := j0) C hw hj0 (xct_H h0) rfl ⟨kw_435, kw_60, kw_436⟩ (by decide +kernel) kw_431 kw_432 kw_433 kw_434 kw_437 (c_X2_plainTelling l X ex j0  hj0 z q hq) ⟨Nat.le_trans (Nat.le_of_ble_eq_true rfl) hF, Nat.le_trans (Nat.le_of_ble_eq_true rfl) hL⟩ rfl hsize rfl hW hdg hcs) kk
  rw [if_neg h0] at hq
  by_cases h1 : z.2.2 j0 = 7
  · rw [if_pos h1] at hq
    exact x_goi hw (x_runD (n := 1) (x := (⟨"WordHedges$Hedge", "plainTelling", "(LWordHedges$Trace;)I"⟩ : MethodName)) (owner := "WordHedges$Hedge") (y := yX2_plainTelling) (As := [.ref (X.2.2.1 3 (0))]) (rest := rest) (k := 10) (j := j0) C hw hj0 (xct_H h1) rfl ⟨kw_435, kw_60, kw_436⟩ (by decide +kernel) kw_431 kw_432 kw_433 kw_434 kw_438 (c_X2_plainTelling l X ex j0  hj0 z q hq) ⟨Nat.le_trans (Nat.le_of_ble_eq_true rfl) hF, Nat.le_trans (Nat.le_of_ble_eq_true rfl) hL⟩ rfl hsize rfl hW hdg hcs) kk
  rw [if_neg h1] at hq
  by_cases h2 : z.2.2 j0 = 2
  · rw [if_pos h2] at hq
    exact x_goi hw (x_runD (n := 1) (x := (⟨"WordHedges$Hedge", "plainTelling", "(LWordHedges$Trace;)I"⟩ : MethodName)) (owner := "WordHedges$Hedge") (y := yX2_plainTelling) (As := [.ref (X.2.2.1 3 (0))]) (rest := rest) (k := 10) (j := j0) C hw hj0 (xct_H h2) rfl ⟨kw_435, kw_60, kw_436⟩ (by decide +kernel) kw_431 kw_432 kw_433 kw_434 kw_439 (c_X2_plainTelling l X ex j0  hj0 z q hq) ⟨Nat.le_trans (Nat.le_of_ble_eq_true rfl) hF, Nat.le_trans (Nat.le_of_ble_eq_true rfl) hL⟩ rfl hsize rfl hW hdg hcs) kk
  rw [if_neg h2] at hq
  cases hq

abbrev rm_X2_telling : Room := { frames := 2, cells := 0, slots := 0, locals := 42 }
def D_X2_telling (j0 : Nat) (z : XS) : Option (Int32 × XS) :=
  (DV_plainTelling_X2_18 j0  z).bind fun q1 => (some (q1.1, q1.2))
set_option maxHeartbeats 4000000 in
set_option maxRecDepth 100000 in
theorem c_X2_telling (l : Launch) (X : XC) (ex : va_W) (j0 : Nat) (hj0 : j0 < 6) (z : XS) (R0 : Int32 × XS) (hD : D_X2_telling j0 z = some R0) : xM l X ex yX2_telling cX2_telling 2 (some .int) rm_X2_telling [.ref (X.2.2.1 10 (j0)), .ref (X.2.2.1 3 (0))] z (xQi X ex R0.2 R0.1) := by
  refine x_ent (by decide) (Nat.le_of_ble_eq_true rfl) ?_
  intro p e s m below meth c ls C hr hk hw hl
  replace hl : lv_has ls 2 [(0, .ref (X.2.2.1 10 (j0))), (1, .ref (X.2.2.1 3 (0)))] := hl
  unfold D_X2_telling at hD
  refine lv_aload_n C.1 C.2.1 dX2_telling_0 rfl (lv_at hl 0 rfl) ?_
  refine lv_aload_n C.1 C.2.1 dX2_telling_1 rfl (lv_at hl 1 rfl) ?_
  obtain ⟨q1, hq1, hD⟩ := Option.bind_eq_some_iff.mp hD
  refine r_plainTelling_X2_18 [] C hw j0 hj0  q1 hq1 (Nat.le_of_ble_eq_true rfl) (Nat.le_of_ble_eq_true rfl) hl.1 (Nat.le_of_ble_eq_true rfl) dX2_telling_2 ⟨Nat.le_of_ble_eq_true rfl, Nat.le_of_ble_eq_true rfl⟩ (fun H locs hw => ?_)
  obtain rfl := Option.some.inj hD
  exact x_iret C hw hr hk dX2_telling_5
theorem kw_441 : Cond.methodLink RX8 9 yX7_enter ∈ gtbl := gm3 80 rfl rfl
theorem kw_442 : Cond.code yX2_telling cX2_telling 2 (some .int) ∈ gtbl := gm3 90 rfl rfl
theorem kw_443 : Cond.instanceMethod yX2_telling ∈ gtbl := gm3 67 rfl rfl
theorem kw_444 : Cond.methodLink RX8 15 yX2_telling ∈ gtbl := gm3 81 rfl rfl
theorem kw_445 : Cond.sameMethod "WordHedges$Hedge" "WordHedges$Hedge" "telling" "(LWordHedges$Trace;)I" ∈ gtbl := gm3 69 rfl rfl
theorem kw_446 : Cond.superclass RX8 RX2 ∈ gtbl := gm1 224 rfl rfl
abbrev rm_X8_telling : Room := { frames := 3, cells := 0, slots := 0, locals := 63 }
def D_X8_telling (j0 : Nat) (z : XS) : Option (Int32 × XS) :=
  (D_X7_enter (2 : Int32) z).bind fun q1 => (gd (isH q1 (j0)) ((D_X2_telling j0  q1).bind fun q3 => (some (q3.1 + (100 : Int32), q3.2))))
set_option maxHeartbeats 4000000 in
set_option maxRecDepth 100000 in
theorem c_X8_telling (l : Launch) (X : XC) (ex : va_W) (j0 : Nat) (hj0 : j0 < 6) (z : XS) (R0 : Int32 × XS) (hD : D_X8_telling j0 z = some R0) : xM l X ex yX8_telling cX8_telling 2 (some .int) rm_X8_telling [.ref (X.2.2.1 10 (j0)), .ref (X.2.2.1 3 (0))] z (xQi X ex R0.2 R0.1) := by
  refine x_ent (by decide) (Nat.le_of_ble_eq_true rfl) ?_
  intro p e s m below meth c ls C hr hk hw hl
  replace hl : lv_has ls 2 [(0, .ref (X.2.2.1 10 (j0))), (1, .ref (X.2.2.1 3 (0)))] := hl
  unfold D_X8_telling at hD
  refine lv_aload_n C.1 C.2.1 dX8_telling_0 rfl (lv_at hl 1 rfl) ?_
  refine lv_iconst (v := (2 : Int32)) C.1 C.2.1 dX8_telling_1 (by decide) ?_
  obtain ⟨q1, hq1, hD⟩ := Option.bind_eq_some_iff.mp hD
  refine x_gov hw (x_runV (As := [.int ((2 : Int32))]) (rest := []) (k := 3) (j := 0) C hw (Nat.le_of_ble_eq_true rfl) rfl rfl cV_X7_enter kw_441 (c_X7_enter l X ex (2 : Int32)  z q1 hq1) ⟨Nat.le_of_ble_eq_true rfl, Nat.le_of_ble_eq_true rfl⟩ rfl hl.1 rfl (Nat.le_of_ble_eq_true rfl) dX8_telling_2 ⟨Nat.le_of_ble_eq_true rfl, Nat.le_of_ble_eq_true rfl⟩) (fun H locs hw => ?_)
  refine lv_aload_n C.1 C.2.1 dX8_telling_5 rfl (lv_at hl 0 rfl) ?_
  refine lv_aload_n C.1 C.2.1 dX8_telling_6 rfl (lv_at hl 1 rfl) ?_
  obtain ⟨g2, hD⟩ := gd_some hD
  obtain ⟨q3, hq3, hD⟩ := Option.bind_eq_some_iff.mp hD
  refine x_goi hw (x_runSUH (n := 1) (y := yX2_telling) (As := [.ref (X.2.2.1 3 (0))]) (rest := []) (j := j0) C hw hj0 g2 ⟨kw_442, kw_60, kw_443⟩ (by decide +kernel) kw_444 kw_445 kw_446 (c_X2_telling l X ex j0  hj0 q1 q3 hq3) ⟨Nat.le_of_ble_eq_true rfl, Nat.le_of_ble_eq_true rfl⟩ rfl hl.1 rfl (Nat.le_of_ble_eq_true rfl) dX8_telling_7 ⟨Nat.le_of_ble_eq_true rfl, Nat.le_of_ble_eq_true rfl⟩) (fun H locs hw => ?_)
  refine lv_bipush (v := (100 : Int32)) C.1 C.2.1 dX8_telling_10 (by decide) ?_
  refine lv_iadd C.1 C.2.1 dX8_telling_12 ?_
  obtain rfl := Option.some.inj hD
  exact x_iret C hw hr hk dX8_telling_13
theorem kw_447 : Cond.methodLink RX1 11 yX7_enter ∈ gtbl := gm3 73 rfl rfl
theorem kw_448 : Cond.code yX8_telling cX8_telling 2 (some .int) ∈ gtbl := gm3 79 rfl rfl
theorem kw_449 : Cond.instanceMethod yX8_telling ∈ gtbl := gm3 78 rfl rfl
theorem kw_450 : Cond.methodLink RX1 17 yX8_telling ∈ gtbl := gm3 77 rfl rfl
theorem kw_451 : Cond.sameMethod "WordHedges$Yew" "WordHedges$Yew" "telling" "(LWordHedges$Trace;)I" ∈ gtbl := gm4 228 rfl rfl

theorem kw_453 : Cond.methodLink RX1 21 (⟨"WordHedges$Bramble", "plainTelling", "(LWordHedges$Trace;)I"⟩ : MethodName) ∈ gtbl := gm3 82 rfl rfl
theorem kw_454 : Cond.sameMethod "WordHedges$Bramble" "WordHedges$Hedge" "plainTelling" "(LWordHedges$Trace;)I" ∈ gtbl := gm3 83 rfl rfl
theorem kw_455 : Cond.selects RX1 (⟨"WordHedges$Bramble", "plainTelling", "(LWordHedges$Trace;)I"⟩ : MethodName) yX2_plainTelling ∈ gtbl := gm3 85 rfl rfl
def DV_plainTelling_X1_21 (j0 : Nat)  (z : XS) : Option (Int32 × XS) := if z.2.2 j0 = 1 then D_X2_plainTelling j0  z else none
set_option maxHeartbeats 4000000 in
theorem r_plainTelling_X1_21 {p : Program} {l : Launch} {e : Env} {R : Room} {s : State} {m : MethodId} {args : Array Value} {below : List Frame} {meth : Method} {c : Code} {H : Heap} {locs : List Loc} {cells slots : Nat} {Q : State → Prop} {cc : ByteArray} {pc nL : Nat} {ls : Array Slot} (rest : List Value) {X : XC} {ex : va_W} {z : XS} (C : CallFix p m c cc nL s args gtbl RX1) (hw : xw X ex z s H locs) (j0 : Nat) (hj0 : j0 < 6)  (q : Int32 × XS) (hq : DV_plainTelling_X1_21 j0  z = some q) (hF : 2 ≤ R.frames) (hL : 42 ≤ R.locals) (hsize : ls.size = nL) (hW : (rest.map fun v => v.category).sum ≤ 8) (hdg : decode cc pc = .ok (.invokevirtual 21, 3)) (hcs : cells ≤ R.cells ∧ slots ≤ R.slots) (kk : ∀ (H1 : Heap) (locs1 : List Loc), xw X ex q.2 s H1 locs1 → W p l e R s m args below meth c H1 locs1 cells slots Q (F0 m (pc + 3) ls (.int q.1 :: rest))) : W p l e R s m args below meth c H locs cells slots Q (F0 m pc ls (.ref (X.2.2.1 3 (0)) :: .ref (X.2.2.1 10 j0) :: rest)) := by
  unfold DV_plainTelling_X1_21 at hq
  by_cases h0 : z.2.2 j0 = 1
  · rw [if_pos h0] at hq
    exact x_goi hw (x_runD (n := 1) (x := (⟨"WordHedges$Bramble", "plainTelling", "(LWordHedges$Trace;)I"⟩ : MethodName)) (owner := "WordHedges$Hedge") (y := yX2_plainTelling) (As := [.ref (X.2.2.1 3 (0))]) (rest := rest) (k := 10) (j := j0) C hw hj0 (xct_H h0) rfl ⟨kw_435, kw_60, kw_436⟩ (by decide +kernel) kw_453 kw_454 kw_433 kw_434 kw_455 (c_X2_plainTelling l X ex j0  hj0 z q hq) ⟨Nat.le_trans (Nat.le_of_ble_eq_true rfl) hF, Nat.le_trans (Nat.le_of_ble_eq_true rfl) hL⟩ rfl hsize rfl hW hdg hcs) kk
  rw [if_neg h0] at hq
  cases hq

abbrev rm_X1_telling : Room := { frames := 4, cells := 0, slots := 0, locals := 84 }
def D_X1_telling (j0 : Nat) (z : XS) : Option (Int32 × XS) :=
  (D_X7_enter (3 : Int32) z).bind fun q1 => (gd (isH q1 (j0)) ((D_X8_telling j0  q1).bind fun q3 => ((DV_plainTelling_X1_21 j0  q3.2).bind fun q4 => (some (q3.1 + q4.1, q4.2)))))
set_option maxHeartbeats 4000000 in
set_option maxRecDepth 100000 in
theorem c_X1_telling (l : Launch) (X : XC) (ex : va_W) (j0 : Nat) (hj0 : j0 < 6) (z : XS) (R0 : Int32 × XS) (hD : D_X1_telling j0 z = some R0) : xM l X ex yX1_telling cX1_telling 3 (some .int) rm_X1_telling [.ref (X.2.2.1 10 (j0)), .ref (X.2.2.1 3 (0))] z (xQi X ex R0.2 R0.1) := by
  refine x_ent (by decide) (Nat.le_of_ble_eq_true rfl) ?_
  intro p e s m below meth c ls C hr hk hw hl
  replace hl : lv_has ls 3 [(0, .ref (X.2.2.1 10 (j0))), (1, .ref (X.2.2.1 3 (0)))] := hl
  unfold D_X1_telling at hD
  refine lv_aload_n C.1 C.2.1 dX1_telling_0 rfl (lv_at hl 1 rfl) ?_
  refine lv_iconst (v := (3 : Int32)) C.1 C.2.1 dX1_telling_1 (by decide) ?_
  obtain ⟨q1, hq1, hD⟩ := Option.bind_eq_some_iff.mp hD
  refine x_gov hw (x_runV (As := [.int ((3 : Int32))]) (rest := []) (k := 3) (j := 0) C hw (Nat.le_of_ble_eq_true rfl) rfl rfl cV_X7_enter kw_447 (c_X7_enter l X ex (3 : Int32)  z q1 hq1) ⟨Nat.le_of_ble_eq_true rfl, Nat.le_of_ble_eq_true rfl⟩ rfl hl.1 rfl (Nat.le_of_ble_eq_true rfl) dX1_telling_2 ⟨Nat.le_of_ble_eq_true rfl, Nat.le_of_ble_eq_true rfl⟩) (fun H locs hw => ?_)
  refine lv_aload_n C.1 C.2.1 dX1_telling_5 rfl (lv_at hl 0 rfl) ?_
  refine lv_aload_n C.1 C.2.1 dX1_telling_6 rfl (lv_at hl 1 rfl) ?_
  obtain ⟨g2, hD⟩ := gd_some hD
  obtain ⟨q3, hq3, hD⟩ := Option.bind_eq_some_iff.mp hD
  refine x_goi hw (x_runSUH (n := 1) (y := yX8_telling) (As := [.ref (X.2.2.1 3 (0))]) (rest := []) (j := j0) C hw hj0 g2 ⟨kw_448, kw_42, kw_449⟩ (by decide +kernel) kw_450 kw_451 kw_46 (c_X8_telling l X ex j0  hj0 q1 q3 hq3) ⟨Nat.le_of_ble_eq_true rfl, Nat.le_of_ble_eq_true rfl⟩ rfl hl.1 rfl (Nat.le_of_ble_eq_true rfl) dX1_telling_7 ⟨Nat.le_of_ble_eq_true rfl, Nat.le_of_ble_eq_true rfl⟩) (fun H locs hw => ?_)
  refine lv_istore_n (lv' := [(2, .int (q3.1)), (0, .ref (X.2.2.1 10 (j0))), (1, .ref (X.2.2.1 3 (0)))]) C.1 C.2.1 dX1_telling_10 rfl hl (by decide) rfl (fun ls hl => ?_)
  refine lv_iload_n C.1 C.2.1 dX1_telling_11 rfl (lv_at hl 0 rfl) ?_
  refine lv_aload_n C.1 C.2.1 dX1_telling_12 rfl (lv_at hl 1 rfl) ?_
  refine lv_aload_n C.1 C.2.1 dX1_telling_13 rfl (lv_at hl 2 rfl) ?_
  obtain ⟨q4, hq4, hD⟩ := Option.bind_eq_some_iff.mp hD
  refine r_plainTelling_X1_21 [.int (q3.1)] C hw j0 hj0  q4 hq4 (Nat.le_of_ble_eq_true rfl) (Nat.le_of_ble_eq_true rfl) hl.1 (Nat.le_of_ble_eq_true rfl) dX1_telling_14 ⟨Nat.le_of_ble_eq_true rfl, Nat.le_of_ble_eq_true rfl⟩ (fun H locs hw => ?_)
  refine lv_iadd C.1 C.2.1 dX1_telling_17 ?_
  obtain rfl := Option.some.inj hD
  exact x_iret C hw hr hk dX1_telling_18
theorem kw_457 : Cond.fieldLink RX9 28 (TX9 2).1 (TX9 2).2.1 (TX9 2).2.2.1 ∈ gtbl := gm1 143 rfl rfl
theorem gf_X9_2 {p : Program} {l : Launch} {e : Env} {R : Room} {s : State} {m : MethodId} {args : Array Value} {below : List Frame} {meth : Method} {c : Code} {H : Heap} {locs : List Loc} {cells slots : Nat} {Q : State → Prop} {cc : ByteArray} {pc nL index : Nat} {ls : Array Slot} {rest : List Value} {X : XC} {ex : va_W} {z : XS} {own : String} (C : CallFix p m c cc nL s args gtbl own) (hw : xw X ex z s H locs) (hlink : Cond.fieldLink own index (TX9 2).1 (TX9 2).2.1 (TX9 2).2.2.1 ∈ gtbl) (hdg : decode cc pc = .ok (.getfield index, 3)) (kk : W p l e R s m args below meth c H locs cells slots Q (F0 m (pc + 3) ls (.ref (X.2.2.1 3 0) :: rest))) : W p l e R s m args below meth c H locs cells slots Q (F0 m pc ls (.ref (X.2.2.1 0 0) :: rest)) :=
  x_get (k := 0) (j := 0) C hw (Nat.le_of_ble_eq_true rfl) 2 (v := .ref (X.2.2.1 3 0)) rfl rfl ixX9 (by decide) hlink rfl hdg kk

theorem kw_460 : Cond.methodLink RX9 225 (⟨"WordHedges$Hedge", "telling", "(LWordHedges$Trace;)I"⟩ : MethodName) ∈ gtbl := gm3 66 rfl rfl
theorem kw_461 : Cond.instanceMethod (⟨"WordHedges$Hedge", "telling", "(LWordHedges$Trace;)I"⟩ : MethodName) ∈ gtbl := gm3 67 rfl rfl
theorem kw_462 : Cond.code (⟨"WordHedges$Hedge", "telling", "(LWordHedges$Trace;)I"⟩ : MethodName) cX2_telling 2 (some .int) ∈ gtbl := gm3 90 rfl rfl
theorem kw_463 : Cond.code yX1_telling cX1_telling 3 (some .int) ∈ gtbl := gm3 72 rfl rfl
theorem kw_464 : Cond.instanceMethod yX1_telling ∈ gtbl := gm3 71 rfl rfl
theorem kw_465 : Cond.selects RX1 (⟨"WordHedges$Hedge", "telling", "(LWordHedges$Trace;)I"⟩ : MethodName) yX1_telling ∈ gtbl := gm3 70 rfl rfl
theorem kw_466 : Cond.selects RX8 (⟨"WordHedges$Hedge", "telling", "(LWordHedges$Trace;)I"⟩ : MethodName) yX8_telling ∈ gtbl := gm3 89 rfl rfl
theorem kw_467 : Cond.selects RX2 (⟨"WordHedges$Hedge", "telling", "(LWordHedges$Trace;)I"⟩ : MethodName) yX2_telling ∈ gtbl := gm3 68 rfl rfl
def DV_telling_X9_225 (j0 : Nat)  (z : XS) : Option (Int32 × XS) := if z.2.2 j0 = 1 then D_X1_telling j0  z else if z.2.2 j0 = 7 then D_X8_telling j0  z else if z.2.2 j0 = 2 then D_X2_telling j0  z else none
set_option maxHeartbeats 4000000 in
theorem r_telling_X9_225 {p : Program} {l : Launch} {e : Env} {R : Room} {s : State} {m : MethodId} {args : Array Value} {below : List Frame} {meth : Method} {c : Code} {H : Heap} {locs : List Loc} {cells slots : Nat} {Q : State → Prop} {cc : ByteArray} {pc nL : Nat} {ls : Array Slot} (rest : List Value) {X : XC} {ex : va_W} {z : XS} (C : CallFix p m c cc nL s args gtbl RX9) (hw : xw X ex z s H locs) (j0 : Nat) (hj0 : j0 < 6)  (q : Int32 × XS) (hq : DV_telling_X9_225 j0  z = some q) (hF : 5 ≤ R.frames) (hL : 106 ≤ R.locals) (hsize : ls.size = nL) (hW : (rest.map fun v => v.category).sum ≤ 8) (hdg : decode cc pc = .ok (.invokevirtual 225, 3)) (hcs : cells ≤ R.cells ∧ slots ≤ R.slots) (kk : ∀ (H1 : Heap) (locs1 : List Loc), xw X ex q.2 s H1 locs1 → W p l e R s m args below meth c H1 locs1 cells slots Q (F0 m (pc + 3) ls (.int q.1 :: rest))) : W p l e R s m args below meth c H locs cells slots Q (F0 m pc ls (.ref (X.2.2.1 3 (0)) :: .ref (X.2.2.1 10 j0) :: rest)) := by
  unfold DV_telling_X9_225 at hq
  by_cases h0 : z.2.2 j0 = 1
  · rw [if_pos h0] at hq
    exact x_goi hw (x_runD (n := 1) (x := (⟨"WordHedges$Hedge", "telling", "(LWordHedges$Trace;)I"⟩ : MethodName)) (owner := "WordHedges$Hedge") (y := yX1_telling) (As := [.ref (X.2.2.1 3 (0))]) (rest := rest) (k := 10) (j := j0) C hw hj0 (xct_H h0) rfl ⟨kw_463, kw_55, kw_464⟩ (by decide +kernel) kw_460 kw_445 kw_461 kw_462 kw_465 (c_X1_telling l X ex j0  hj0 z q hq) ⟨Nat.le_trans (Nat.le_of_ble_eq_true rfl) hF, Nat.le_trans (Nat.le_of_ble_eq_true rfl) hL⟩ rfl hsize rfl hW hdg hcs) kk
  rw [if_neg h0] at hq
  by_cases h1 : z.2.2 j0 = 7
  · rw [if_pos h1] at hq
    exact x_goi hw (x_runD (n := 1) (x := (⟨"WordHedges$Hedge", "telling", "(LWordHedges$Trace;)I"⟩ : MethodName)) (owner := "WordHedges$Hedge") (y := yX8_telling) (As := [.ref (X.2.2.1 3 (0))]) (rest := rest) (k := 10) (j := j0) C hw hj0 (xct_H h1) rfl ⟨kw_448, kw_42, kw_449⟩ (by decide +kernel) kw_460 kw_445 kw_461 kw_462 kw_466 (c_X8_telling l X ex j0  hj0 z q hq) ⟨Nat.le_trans (Nat.le_of_ble_eq_true rfl) hF, Nat.le_trans (Nat.le_of_ble_eq_true rfl) hL⟩ rfl hsize rfl hW hdg hcs) kk
  rw [if_neg h1] at hq
  by_cases h2 : z.2.2 j0 = 2
  · rw [if_pos h2] at hq
    exact x_goi hw (x_runD (n := 1) (x := (⟨"WordHedges$Hedge", "telling", "(LWordHedges$Trace;)I"⟩ : MethodName)) (owner := "WordHedges$Hedge") (y := yX2_telling) (As := [.ref (X.2.2.1 3 (0))]) (rest := rest) (k := 10) (j := j0) C hw hj0 (xct_H h2) rfl ⟨kw_442, kw_60, kw_443⟩ (by decide +kernel) kw_460 kw_445 kw_461 kw_462 kw_467 (c_X2_telling l X ex j0  hj0 z q hq) ⟨Nat.le_trans (Nat.le_of_ble_eq_true rfl) hF, Nat.le_trans (Nat.le_of_ble_eq_true rfl) hL⟩ rfl hsize rfl hW hdg hcs) kk
  rw [if_neg h2] at hq
  cases hq

abbrev rm_X9_tell : Room := { frames := 5, cells := 0, slots := 0, locals := 106 }
def D_X9_tell (x1 : Int32) (z : XS) : Option (Int32 × XS) :=
  (D_X4_isHedge x1 z).bind fun q1 => ((if q1.1 = 0 then some ((-1 : Int32), q1.2) else gd (inB x1 6) ((DV_telling_X9_225 x1.toNatClampNeg  q1.2).bind fun q4 => (some (q4.1, q4.2)))))
set_option maxHeartbeats 4000000 in
set_option maxRecDepth 100000 in
theorem c_X9_tell (l : Launch) (X : XC) (ex : va_W) (x1 : Int32) (z : XS) (R0 : Int32 × XS) (hD : D_X9_tell x1 z = some R0) : xM l X ex yX9_tell cX9_tell 2 (some .int) rm_X9_tell [.ref (X.2.2.1 0 (0)), .int (x1)] z (xQi X ex R0.2 R0.1) := by
  refine x_ent (by decide) (Nat.le_of_ble_eq_true rfl) ?_
  intro p e s m below meth c ls C hr hk hw hl
  replace hl : lv_has ls 2 [(0, .ref (X.2.2.1 0 (0))), (1, .int (x1))] := hl
  unfold D_X9_tell at hD
  refine lv_aload_n C.1 C.2.1 dX9_tell_0 rfl (lv_at hl 0 rfl) ?_
  refine gf_X9_0 C hw kw_86 dX9_tell_1 ?_
  refine lv_iload_n C.1 C.2.1 dX9_tell_4 rfl (lv_at hl 1 rfl) ?_
  obtain ⟨q1, hq1, hD⟩ := Option.bind_eq_some_iff.mp hD
  refine x_goi hw (x_runV (As := [.int (x1)]) (rest := []) (k := 1) (j := 0) C hw (Nat.le_of_ble_eq_true rfl) rfl rfl cV_X4_isHedge kw_101 (c_X4_isHedge l X ex x1  z q1 hq1) ⟨Nat.le_of_ble_eq_true rfl, Nat.le_of_ble_eq_true rfl⟩ rfl hl.1 rfl (Nat.le_of_ble_eq_true rfl) dX9_tell_5 ⟨Nat.le_of_ble_eq_true rfl, Nat.le_of_ble_eq_true rfl⟩) (fun H locs hw => ?_)
  refine lv_if_eq (tgt := 33) C.1 C.2.1 dX9_tell_8 (by decide) (fun c2 => ?_) (fun c2 => ?_)
  · replace hD := (if_pos c2).symm.trans hD
    refine lv_iconst (v := (-1 : Int32)) C.1 C.2.1 dX9_tell_33 (by decide) ?_
    obtain rfl := Option.some.inj hD
    exact x_iret C hw hr hk dX9_tell_34
  · replace hD := (if_neg c2).symm.trans hD
    refine lv_aload_n C.1 C.2.1 dX9_tell_11 rfl (lv_at hl 0 rfl) ?_
    refine gf_X9_0 C hw kw_86 dX9_tell_12 ?_
    refine gNf_X4_1 C hw (List.mem_of_getElem? (i := 7) rfl) dX9_tell_15 ?_
    refine lv_iload_n C.1 C.2.1 dX9_tell_18 rfl (lv_at hl 1 rfl) ?_
    obtain ⟨g3, hD⟩ := gd_some hD
    refine x_aald (k := 8) (j := 0) (f := fun i => X.2.2.1 9 i) C hw (Nat.le_of_ble_eq_true rfl) 2 rfl rfl rfl (inB_in g3) (a := X.2.2.1 9 (x1.toNatClampNeg)) rfl dX9_tell_19 ?_
    refine gNf_X0_0 C hw (j := x1.toNatClampNeg) (inB_lt g3) (List.mem_of_getElem? (i := 0) rfl) dX9_tell_20 ?_
    refine lv_aload_n C.1 C.2.1 dX9_tell_23 rfl (lv_at hl 0 rfl) ?_
    refine gf_X9_2 C hw kw_457 dX9_tell_24 ?_
    obtain ⟨q4, hq4, hD⟩ := Option.bind_eq_some_iff.mp hD
    refine r_telling_X9_225 [] C hw x1.toNatClampNeg (inB_lt g3)  q4 hq4 (Nat.le_of_ble_eq_true rfl) (Nat.le_of_ble_eq_true rfl) hl.1 (Nat.le_of_ble_eq_true rfl) dX9_tell_27 ⟨Nat.le_of_ble_eq_true rfl, Nat.le_of_ble_eq_true rfl⟩ (fun H locs hw => ?_)
    refine lv_goto (tgt := 34) C.1 C.2.1 dX9_tell_30 (by decide) ?_
    obtain rfl := Option.some.inj hD
    exact x_iret C hw hr hk dX9_tell_34
theorem kw_469 : Cond.fieldLink RX2 9 "WordHedges$Hedge" "number" "I" ∈ gtbl := gm1 42 rfl rfl
abbrev rm_X2_leaning : Room := { frames := 1, cells := 0, slots := 0, locals := 21 }
def D_X2_leaning (j0 : Nat) (z : XS) : Option (Int32 × XS) :=
  (D_X7_enter (4 : Int32) z).bind fun q1 => (gd (isH q1 (j0)) (some (gS q1 10 0 (j0), q1)))
set_option maxHeartbeats 4000000 in
set_option maxRecDepth 100000 in
theorem c_X2_leaning (l : Launch) (X : XC) (ex : va_W) (j0 : Nat) (hj0 : j0 < 6) (z : XS) (R0 : Int32 × XS) (hD : D_X2_leaning j0 z = some R0) : xM l X ex yX2_leaning cX2_leaning 2 (some .int) rm_X2_leaning [.ref (X.2.2.1 10 (j0)), .ref (X.2.2.1 3 (0))] z (xQi X ex R0.2 R0.1) := by
  refine x_ent (by decide) (Nat.le_of_ble_eq_true rfl) ?_
  intro p e s m below meth c ls C hr hk hw hl
  replace hl : lv_has ls 2 [(0, .ref (X.2.2.1 10 (j0))), (1, .ref (X.2.2.1 3 (0)))] := hl
  unfold D_X2_leaning at hD
  refine lv_aload_n C.1 C.2.1 dX2_leaning_0 rfl (lv_at hl 1 rfl) ?_
  refine lv_iconst (v := (4 : Int32)) C.1 C.2.1 dX2_leaning_1 (by decide) ?_
  obtain ⟨q1, hq1, hD⟩ := Option.bind_eq_some_iff.mp hD
  refine x_gov hw (x_runV (As := [.int ((4 : Int32))]) (rest := []) (k := 3) (j := 0) C hw (Nat.le_of_ble_eq_true rfl) rfl rfl cV_X7_enter kw_428 (c_X7_enter l X ex (4 : Int32)  z q1 hq1) ⟨Nat.le_of_ble_eq_true rfl, Nat.le_of_ble_eq_true rfl⟩ rfl hl.1 rfl (Nat.le_of_ble_eq_true rfl) dX2_leaning_2 ⟨Nat.le_of_ble_eq_true rfl, Nat.le_of_ble_eq_true rfl⟩) (fun H locs hw => ?_)
  refine lv_aload_n C.1 C.2.1 dX2_leaning_5 rfl (lv_at hl 0 rfl) ?_
  obtain ⟨g2, hD⟩ := gd_some hD
  refine x_getH (j := j0) C hw hj0 g2 0 (by decide) kw_469 dX2_leaning_6 ?_
  obtain rfl := Option.some.inj hD
  exact x_iret C hw hr hk dX2_leaning_9
abbrev rm_X1_leaning : Room := { frames := 1, cells := 0, slots := 0, locals := 21 }
def D_X1_leaning (j0 : Nat) (z : XS) : Option (Int32 × XS) :=
  (D_X7_enter (5 : Int32) z).bind fun q1 => (some ((20 : Int32), q1))
set_option maxHeartbeats 4000000 in
set_option maxRecDepth 100000 in
theorem c_X1_leaning (l : Launch) (X : XC) (ex : va_W) (j0 : Nat) (hj0 : j0 < 6) (z : XS) (R0 : Int32 × XS) (hD : D_X1_leaning j0 z = some R0) : xM l X ex yX1_leaning cX1_leaning 2 (some .int) rm_X1_leaning [.ref (X.2.2.1 10 (j0)), .ref (X.2.2.1 3 (0))] z (xQi X ex R0.2 R0.1) := by
  refine x_ent (by decide) (Nat.le_of_ble_eq_true rfl) ?_
  intro p e s m below meth c ls C hr hk hw hl
  replace hl : lv_has ls 2 [(0, .ref (X.2.2.1 10 (j0))), (1, .ref (X.2.2.1 3 (0)))] := hl
  unfold D_X1_leaning at hD
  refine lv_aload_n C.1 C.2.1 dX1_leaning_0 rfl (lv_at hl 1 rfl) ?_
  refine lv_iconst (v := (5 : Int32)) C.1 C.2.1 dX1_leaning_1 (by decide) ?_
  obtain ⟨q1, hq1, hD⟩ := Option.bind_eq_some_iff.mp hD
  refine x_gov hw (x_runV (As := [.int ((5 : Int32))]) (rest := []) (k := 3) (j := 0) C hw (Nat.le_of_ble_eq_true rfl) rfl rfl cV_X7_enter kw_447 (c_X7_enter l X ex (5 : Int32)  z q1 hq1) ⟨Nat.le_of_ble_eq_true rfl, Nat.le_of_ble_eq_true rfl⟩ rfl hl.1 rfl (Nat.le_of_ble_eq_true rfl) dX1_leaning_2 ⟨Nat.le_of_ble_eq_true rfl, Nat.le_of_ble_eq_true rfl⟩) (fun H locs hw => ?_)
  refine lv_bipush (v := (20 : Int32)) C.1 C.2.1 dX1_leaning_5 (by decide) ?_
  obtain rfl := Option.some.inj hD
  exact x_iret C hw hr hk dX1_leaning_7

theorem kw_471 : Cond.methodLink RX9 229 (⟨"WordHedges$Hedge", "leaning", "(LWordHedges$Trace;)I"⟩ : MethodName) ∈ gtbl := gm3 96 rfl rfl
theorem kw_472 : Cond.sameMethod "WordHedges$Hedge" "WordHedges$Hedge" "leaning" "(LWordHedges$Trace;)I" ∈ gtbl := gm3 99 rfl rfl
theorem kw_473 : Cond.instanceMethod (⟨"WordHedges$Hedge", "leaning", "(LWordHedges$Trace;)I"⟩ : MethodName) ∈ gtbl := gm3 97 rfl rfl
theorem kw_474 : Cond.code (⟨"WordHedges$Hedge", "leaning", "(LWordHedges$Trace;)I"⟩ : MethodName) cX2_leaning 2 (some .int) ∈ gtbl := gm3 104 rfl rfl
theorem kw_475 : Cond.code yX1_leaning cX1_leaning 2 (some .int) ∈ gtbl := gm3 102 rfl rfl
theorem kw_476 : Cond.instanceMethod yX1_leaning ∈ gtbl := gm3 101 rfl rfl
theorem kw_477 : Cond.selects RX1 (⟨"WordHedges$Hedge", "leaning", "(LWordHedges$Trace;)I"⟩ : MethodName) yX1_leaning ∈ gtbl := gm3 100 rfl rfl
theorem kw_478 : Cond.code yX2_leaning cX2_leaning 2 (some .int) ∈ gtbl := gm3 104 rfl rfl
theorem kw_479 : Cond.instanceMethod yX2_leaning ∈ gtbl := gm3 97 rfl rfl
theorem kw_480 : Cond.selects RX8 (⟨"WordHedges$Hedge", "leaning", "(LWordHedges$Trace;)I"⟩ : MethodName) yX2_leaning ∈ gtbl := gm3 103 rfl rfl
theorem kw_481 : Cond.selects RX2 (⟨"WordHedges$Hedge", "leaning", "(LWordHedges$Trace;)I"⟩ : MethodName) yX2_leaning ∈ gtbl := gm3 98 rfl rfl
def DV_leaning_X9_229 (j0 : Nat)  (z : XS) : Option (Int32 × XS) := if z.2.2 j0 = 1 then D_X1_leaning j0  z else if z.2.2 j0 = 7 then D_X2_leaning j0  z else if z.2.2 j0 = 2 then D_X2_leaning j0  z else none
set_option maxHeartbeats 4000000 in
theorem r_leaning_X9_229 {p : Program} {l : Launch} {e : Env} {R : Room} {s : State} {m : MethodId} {args : Array Value} {below : List Frame} {meth : Method} {c : Code} {H : Heap} {locs : List Loc} {cells slots : Nat} {Q : State → Prop} {cc : ByteArray} {pc nL : Nat} {ls : Array Slot} (rest : List Value) {X : XC} {ex : va_W} {z : XS} (C : CallFix p m c cc nL s args gtbl RX9) (hw : xw X ex z s H locs) (j0 : Nat) (hj0 : j0 < 6)  (q : Int32 × XS) (hq : DV_leaning_X9_229 j0  z = some q) (hF : 2 ≤ R.frames) (hL : 42 ≤ R.locals) (hsize : ls.size = nL) (hW : (rest.map fun v => v.category).sum ≤ 8) (hdg : decode cc pc = .ok (.invokevirtual 229, 3)) (hcs : cells ≤ R.cells ∧ slots ≤ R.slots) (kk : ∀ (H1 : Heap) (locs1 : List Loc), xw X ex q.2 s H1 locs1 → W p l e R s m args below meth c H1 locs1 cells slots Q (F0 m (pc + 3) ls (.int q.1 :: rest))) : W p l e R s m args below meth c H locs cells slots Q (F0 m pc ls (.ref (X.2.2.1 3 (0)) :: .ref (X.2.2.1 10 j0) :: rest)) := by
  unfold DV_leaning_X9_229 at hq
  by_cases h0 : z.2.2 j0 = 1
  · rw [if_pos h0] at hq
    exact x_goi hw (x_runD (n := 1) (x := (⟨"WordHedges$Hedge", "leaning", "(LWordHedges$Trace;)I"⟩ : MethodName)) (owner := "WordHedges$Hedge") (y := yX1_leaning) (As := [.ref (X.2.2.1 3 (0))]) (rest := rest) (k := 10) (j := j0) C hw hj0 (xct_H h0) rfl ⟨kw_475, kw_55, kw_476⟩ (by decide +kernel) kw_471 kw_472 kw_473 kw_474 kw_477 (c_X1_leaning l X ex j0  hj0 z q hq) ⟨Nat.le_trans (Nat.le_of_ble_eq_true rfl) hF, Nat.le_trans (Nat.le_of_ble_eq_true rfl) hL⟩ rfl hsize rfl hW hdg hcs) kk
  rw [if_neg h0] at hq
  by_cases h1 : z.2.2 j0 = 7
  · rw [if_pos h1] at hq
    exact x_goi hw (x_runD (n := 1) (x := (⟨"WordHedges$Hedge", "leaning", "(LWordHedges$Trace;)I"⟩ : MethodName)) (owner := "WordHedges$Hedge") (y := yX2_leaning) (As := [.ref (X.2.2.1 3 (0))]) (rest := rest) (k := 10) (j := j0) C hw hj0 (xct_H h1) rfl ⟨kw_478, kw_60, kw_479⟩ (by decide +kernel) kw_471 kw_472 kw_473 kw_474 kw_480 (c_X2_leaning l X ex j0  hj0 z q hq) ⟨Nat.le_trans (Nat.le_of_ble_eq_true rfl) hF, Nat.le_trans (Nat.le_of_ble_eq_true rfl) hL⟩ rfl hsize rfl hW hdg hcs) kk
  rw [if_neg h1] at hq
  by_cases h2 : z.2.2 j0 = 2
  · rw [if_pos h2] at hq
    exact x_goi hw (x_runD (n := 1) (x := (⟨"WordHedges$Hedge", "leaning", "(LWordHedges$Trace;)I"⟩ : MethodName)) (owner := "WordHedges$Hedge") (y := yX2_leaning) (As := [.ref (X.2.2.1 3 (0))]) (rest := rest) (k := 10) (j := j0) C hw hj0 (xct_H h2) rfl ⟨kw_478, kw_60, kw_479⟩ (by decide +kernel) kw_471 kw_472 kw_473 kw_474 kw_481 (c_X2_leaning l X ex j0  hj0 z q hq) ⟨Nat.le_trans (Nat.le_of_ble_eq_true rfl) hF, Nat.le_trans (Nat.le_of_ble_eq_true rfl) hL⟩ rfl hsize rfl hW hdg hcs) kk
  rw [if_neg h2] at hq
  cases hq

abbrev rm_X9_lean : Room := { frames := 2, cells := 0, slots := 0, locals := 42 }
def D_X9_lean (x1 : Int32) (z : XS) : Option (Int32 × XS) :=
  (D_X4_isHedge x1 z).bind fun q1 => ((if q1.1 = 0 then some ((-1 : Int32), q1.2) else gd (inB x1 6) ((DV_leaning_X9_229 x1.toNatClampNeg  q1.2).bind fun q4 => (some (q4.1, q4.2)))))
set_option maxHeartbeats 4000000 in
set_option maxRecDepth 100000 in
theorem c_X9_lean (l : Launch) (X : XC) (ex : va_W) (x1 : Int32) (z : XS) (R0 : Int32 × XS) (hD : D_X9_lean x1 z = some R0) : xM l X ex yX9_lean cX9_lean 2 (some .int) rm_X9_lean [.ref (X.2.2.1 0 (0)), .int (x1)] z (xQi X ex R0.2 R0.1) := by
  refine x_ent (by decide) (Nat.le_of_ble_eq_true rfl) ?_
  intro p e s m below meth c ls C hr hk hw hl
  replace hl : lv_has ls 2 [(0, .ref (X.2.2.1 0 (0))), (1, .int (x1))] := hl
  unfold D_X9_lean at hD
  refine lv_aload_n C.1 C.2.1 dX9_lean_0 rfl (lv_at hl 0 rfl) ?_
  refine gf_X9_0 C hw kw_86 dX9_lean_1 ?_
  refine lv_iload_n C.1 C.2.1 dX9_lean_4 rfl (lv_at hl 1 rfl) ?_
  obtain ⟨q1, hq1, hD⟩ := Option.bind_eq_some_iff.mp hD
  refine x_goi hw (x_runV (As := [.int (x1)]) (rest := []) (k := 1) (j := 0) C hw (Nat.le_of_ble_eq_true rfl) rfl rfl cV_X4_isHedge kw_101 (c_X4_isHedge l X ex x1  z q1 hq1) ⟨Nat.le_of_ble_eq_true rfl, Nat.le_of_ble_eq_true rfl⟩ rfl hl.1 rfl (Nat.le_of_ble_eq_true rfl) dX9_lean_5 ⟨Nat.le_of_ble_eq_true rfl, Nat.le_of_ble_eq_true rfl⟩) (fun H locs hw => ?_)
  refine lv_if_eq (tgt := 33) C.1 C.2.1 dX9_lean_8 (by decide) (fun c2 => ?_) (fun c2 => ?_)
  · replace hD := (if_pos c2).symm.trans hD
    refine lv_iconst (v := (-1 : Int32)) C.1 C.2.1 dX9_lean_33 (by decide) ?_
    obtain rfl := Option.some.inj hD
    exact x_iret C hw hr hk dX9_lean_34
  · replace hD := (if_neg c2).symm.trans hD
    refine lv_aload_n C.1 C.2.1 dX9_lean_11 rfl (lv_at hl 0 rfl) ?_
    refine gf_X9_0 C hw kw_86 dX9_lean_12 ?_
    refine gNf_X4_1 C hw (List.mem_of_getElem? (i := 7) rfl) dX9_lean_15 ?_
    refine lv_iload_n C.1 C.2.1 dX9_lean_18 rfl (lv_at hl 1 rfl) ?_
    obtain ⟨g3, hD⟩ := gd_some hD
    refine x_aald (k := 8) (j := 0) (f := fun i => X.2.2.1 9 i) C hw (Nat.le_of_ble_eq_true rfl) 2 rfl rfl rfl (inB_in g3) (a := X.2.2.1 9 (x1.toNatClampNeg)) rfl dX9_lean_19 ?_
    refine gNf_X0_0 C hw (j := x1.toNatClampNeg) (inB_lt g3) (List.mem_of_getElem? (i := 0) rfl) dX9_lean_20 ?_
    refine lv_aload_n C.1 C.2.1 dX9_lean_23 rfl (lv_at hl 0 rfl) ?_
    refine gf_X9_2 C hw kw_457 dX9_lean_24 ?_
    obtain ⟨q4, hq4, hD⟩ := Option.bind_eq_some_iff.mp hD
    refine r_leaning_X9_229 [] C hw x1.toNatClampNeg (inB_lt g3)  q4 hq4 (Nat.le_of_ble_eq_true rfl) (Nat.le_of_ble_eq_true rfl) hl.1 (Nat.le_of_ble_eq_true rfl) dX9_lean_27 ⟨Nat.le_of_ble_eq_true rfl, Nat.le_of_ble_eq_true rfl⟩ (fun H locs hw => ?_)
    refine lv_goto (tgt := 34) C.1 C.2.1 dX9_lean_30 (by decide) ?_
    obtain rfl := Option.some.inj hD
    exact x_iret C hw hr hk dX9_lean_34
abbrev rm_X9_as : Room := { frames := 1, cells := 0, slots := 0, locals := 21 }
def D_X9_as (x1 : Int32) (x2 : Int32) (z : XS) : Option (Int32 × XS) :=
  (some (pS z 0 4 0 (0 : Int32))).bind fun z1 => ((D_X4_isHedge x1 z1).bind fun q2 => ((if q2.1 = 0 then some ((-1 : Int32), q2.2) else (D_X9_isWithin x2 (2 : Int32) q2.2).bind fun q4 => ((if q4.1 = 0 then some ((-2 : Int32), q4.2) else gd (inB x1 6) ((DV_kind_X9_101 x1.toNatClampNeg  q4.2).bind fun q7 => ((if q7.1 < x2 then (D_X9_faulted (2 : Int32) q7.2).bind fun q9 => (some (q9.1, q9.2)) else some ((1 : Int32), q7.2)))))))))
set_option maxHeartbeats 4000000 in
set_option maxRecDepth 100000 in
theorem c_X9_as (l : Launch) (X : XC) (ex : va_W) (x1 : Int32) (x2 : Int32) (z : XS) (R0 : Int32 × XS) (hD : D_X9_as x1 x2 z = some R0) : xM l X ex yX9_as cX9_as 3 (some .int) rm_X9_as [.ref (X.2.2.1 0 (0)), .int (x1), .int (x2)] z (xQi X ex R0.2 R0.1) := by
  refine x_ent (by decide) (Nat.le_of_ble_eq_true rfl) ?_
  intro p e s m below meth c ls C hr hk hw hl
  replace hl : lv_has ls 3 [(0, .ref (X.2.2.1 0 (0))), (1, .int (x1)), (2, .int (x2))] := hl
  unfold D_X9_as at hD
  refine lv_aload_n C.1 C.2.1 dX9_as_0 rfl (lv_at hl 0 rfl) ?_
  refine lv_iconst (v := (0 : Int32)) C.1 C.2.1 dX9_as_1 (by decide) ?_
  obtain ⟨z1, hz1, hD⟩ := Option.bind_eq_some_iff.mp hD
  refine pf_X9_4 C hw kw_8 dX9_as_2 (fun H locs hw => ?_)
  replace hw := xw_eq hz1 hw
  refine lv_aload_n C.1 C.2.1 dX9_as_5 rfl (lv_at hl 0 rfl) ?_
  refine gf_X9_0 C hw kw_86 dX9_as_6 ?_
  refine lv_iload_n C.1 C.2.1 dX9_as_9 rfl (lv_at hl 1 rfl) ?_
  obtain ⟨q2, hq2, hD⟩ := Option.bind_eq_some_iff.mp hD
  refine x_goi hw (x_runV (As := [.int (x1)]) (rest := []) (k := 1) (j := 0) C hw (Nat.le_of_ble_eq_true rfl) rfl rfl cV_X4_isHedge kw_101 (c_X4_isHedge l X ex x1  z1 q2 hq2) ⟨Nat.le_of_ble_eq_true rfl, Nat.le_of_ble_eq_true rfl⟩ rfl hl.1 rfl (Nat.le_of_ble_eq_true rfl) dX9_as_10 ⟨Nat.le_of_ble_eq_true rfl, Nat.le_of_ble_eq_true rfl⟩) (fun H locs hw => ?_)
  refine lv_if_ne (tgt := 18) C.1 C.2.1 dX9_as_13 (by decide) (fun c3 => ?_) (fun c3 => ?_)
  · replace hD := (if_neg c3).symm.trans hD
    refine lv_iload_n C.1 C.2.1 dX9_as_18 rfl (lv_at hl 2 rfl) ?_
    refine lv_iconst (v := (2 : Int32)) C.1 C.2.1 dX9_as_19 (by decide) ?_
    obtain ⟨q4, hq4, hD⟩ := Option.bind_eq_some_iff.mp hD
    refine x_goi hw (x_runS (As := [.int (x2), .int ((2 : Int32))]) (rest := []) C hw cS_X9_isWithin kw_5 (c_X9_isWithin l X ex x2 (2 : Int32)  q2.2 q4 hq4) ⟨Nat.le_of_ble_eq_true rfl, Nat.le_of_ble_eq_true rfl⟩ rfl hl.1 rfl (Nat.le_of_ble_eq_true rfl) dX9_as_20 ⟨Nat.le_of_ble_eq_true rfl, Nat.le_of_ble_eq_true rfl⟩) (fun H locs hw => ?_)
    refine lv_if_ne (tgt := 29) C.1 C.2.1 dX9_as_23 (by decide) (fun c5 => ?_) (fun c5 => ?_)
    · replace hD := (if_neg c5).symm.trans hD
      refine lv_aload_n C.1 C.2.1 dX9_as_29 rfl (lv_at hl 0 rfl) ?_
      refine gf_X9_0 C hw kw_86 dX9_as_30 ?_
      refine gNf_X4_1 C hw (List.mem_of_getElem? (i := 7) rfl) dX9_as_33 ?_
      refine lv_iload_n C.1 C.2.1 dX9_as_36 rfl (lv_at hl 1 rfl) ?_
      obtain ⟨g6, hD⟩ := gd_some hD
      refine x_aald (k := 8) (j := 0) (f := fun i => X.2.2.1 9 i) C hw (Nat.le_of_ble_eq_true rfl) 2 rfl rfl rfl (inB_in g6) (a := X.2.2.1 9 (x1.toNatClampNeg)) rfl dX9_as_37 ?_
      refine gNf_X0_0 C hw (j := x1.toNatClampNeg) (inB_lt g6) (List.mem_of_getElem? (i := 0) rfl) dX9_as_38 ?_
      obtain ⟨q7, hq7, hD⟩ := Option.bind_eq_some_iff.mp hD
      refine r_kind_X9_101 [] C hw x1.toNatClampNeg (inB_lt g6)  q7 hq7 (Nat.le_of_ble_eq_true rfl) (Nat.le_of_ble_eq_true rfl) hl.1 (Nat.le_of_ble_eq_true rfl) dX9_as_41 ⟨Nat.le_of_ble_eq_true rfl, Nat.le_of_ble_eq_true rfl⟩ (fun H locs hw => ?_)
      refine lv_iload_n C.1 C.2.1 dX9_as_44 rfl (lv_at hl 2 rfl) ?_
      refine lv_icmp_lt (tgt := 52) C.1 C.2.1 dX9_as_45 (by decide) (fun c8 => ?_) (fun c8 => ?_)
      · replace hD := (if_pos c8).symm.trans hD
        refine lv_aload_n C.1 C.2.1 dX9_as_52 rfl (lv_at hl 0 rfl) ?_
        refine lv_iconst (v := (2 : Int32)) C.1 C.2.1 dX9_as_53 (by decide) ?_
        obtain ⟨q9, hq9, hD⟩ := Option.bind_eq_some_iff.mp hD
        refine x_goi hw (x_runV (As := [.int ((2 : Int32))]) (rest := []) (k := 0) (j := 0) C hw (Nat.le_of_ble_eq_true rfl) rfl rfl cV_X9_faulted kw_371 (c_X9_faulted l X ex (2 : Int32)  q7.2 q9 hq9) ⟨Nat.le_of_ble_eq_true rfl, Nat.le_of_ble_eq_true rfl⟩ rfl hl.1 rfl (Nat.le_of_ble_eq_true rfl) dX9_as_54 ⟨Nat.le_of_ble_eq_true rfl, Nat.le_of_ble_eq_true rfl⟩) (fun H locs hw => ?_)
        obtain rfl := Option.some.inj hD
        exact x_iret C hw hr hk dX9_as_57
      · replace hD := (if_neg c8).symm.trans hD
        refine lv_iconst (v := (1 : Int32)) C.1 C.2.1 dX9_as_48 (by decide) ?_
        refine lv_goto (tgt := 57) C.1 C.2.1 dX9_as_49 (by decide) ?_
        obtain rfl := Option.some.inj hD
        exact x_iret C hw hr hk dX9_as_57
    · replace hD := (if_pos c5).symm.trans hD
      refine lv_bipush (v := (-2 : Int32)) C.1 C.2.1 dX9_as_26 (by decide) ?_
      obtain rfl := Option.some.inj hD
      exact x_iret C hw hr hk dX9_as_28
  · replace hD := (if_pos c3).symm.trans hD
    refine lv_iconst (v := (-1 : Int32)) C.1 C.2.1 dX9_as_16 (by decide) ?_
    obtain rfl := Option.some.inj hD
    exact x_iret C hw hr hk dX9_as_17
theorem gNf_X7_0 {p : Program} {l : Launch} {e : Env} {R : Room} {s : State} {m : MethodId} {args : Array Value} {below : List Frame} {meth : Method} {c : Code} {H : Heap} {locs : List Loc} {cells slots : Nat} {Q : State → Prop} {cc : ByteArray} {pc nL index : Nat} {ls : Array Slot} {rest : List Value} {X : XC} {ex : va_W} {z : XS} {own : String} (C : CallFix p m c cc nL s args gtbl own) (hw : xw X ex z s H locs) (hlink : (own, index, (TX7 0).1, (TX7 0).2.1, (TX7 0).2.2.1, "WordHedges") ∈ xnf) (hdg : decode cc pc = .ok (.getfield index, 3)) (kk : W p l e R s m args below meth c H locs cells slots Q (F0 m (pc + 3) ls (.int (gS z 3 0 0) :: rest))) : W p l e R s m args below meth c H locs cells slots Q (F0 m pc ls (.ref (X.2.2.1 3 0) :: rest)) :=
  x_getN (k := 3) (j := 0) C hw (Nat.le_of_ble_eq_true rfl) 0 (v := .int (gS z 3 0 0)) rfl rfl ixX7 (by decide) hlink rfl hdg kk
abbrev rm_X9_trace : Room := { frames := 0, cells := 0, slots := 0, locals := 0 }
def D_X9_trace  (z : XS) : Option (Int32 × XS) :=
  some (gS z 3 0 0, z)
set_option maxHeartbeats 4000000 in
set_option maxRecDepth 100000 in
theorem c_X9_trace (l : Launch) (X : XC) (ex : va_W)  (z : XS) (R0 : Int32 × XS) (hD : D_X9_trace  z = some R0) : xM l X ex yX9_trace cX9_trace 1 (some .int) rm_X9_trace [.ref (X.2.2.1 0 (0))] z (xQi X ex R0.2 R0.1) := by
  refine x_ent (by decide) (Nat.le_of_ble_eq_true rfl) ?_
  intro p e s m below meth c ls C hr hk hw hl
  replace hl : lv_has ls 1 [(0, .ref (X.2.2.1 0 (0)))] := hl
  unfold D_X9_trace at hD
  refine lv_aload_n C.1 C.2.1 dX9_trace_0 rfl (lv_at hl 0 rfl) ?_
  refine gf_X9_2 C hw kw_457 dX9_trace_1 ?_
  refine gNf_X7_0 C hw (List.mem_of_getElem? (i := 10) rfl) dX9_trace_4 ?_
  obtain rfl := Option.some.inj hD
  exact x_iret C hw hr hk dX9_trace_7
theorem gf_X9_4 {p : Program} {l : Launch} {e : Env} {R : Room} {s : State} {m : MethodId} {args : Array Value} {below : List Frame} {meth : Method} {c : Code} {H : Heap} {locs : List Loc} {cells slots : Nat} {Q : State → Prop} {cc : ByteArray} {pc nL index : Nat} {ls : Array Slot} {rest : List Value} {X : XC} {ex : va_W} {z : XS} {own : String} (C : CallFix p m c cc nL s args gtbl own) (hw : xw X ex z s H locs) (hlink : Cond.fieldLink own index (TX9 4).1 (TX9 4).2.1 (TX9 4).2.2.1 ∈ gtbl) (hdg : decode cc pc = .ok (.getfield index, 3)) (kk : W p l e R s m args below meth c H locs cells slots Q (F0 m (pc + 3) ls (.int (gS z 0 4 0) :: rest))) : W p l e R s m args below meth c H locs cells slots Q (F0 m pc ls (.ref (X.2.2.1 0 0) :: rest)) :=
  x_get (k := 0) (j := 0) C hw (Nat.le_of_ble_eq_true rfl) 4 (v := .int (gS z 0 4 0)) rfl rfl ixX9 (by decide) hlink rfl hdg kk
abbrev rm_X9_fault : Room := { frames := 0, cells := 0, slots := 0, locals := 0 }
def D_X9_fault  (z : XS) : Option (Int32 × XS) :=
  some (gS z 0 4 0, z)
set_option maxHeartbeats 4000000 in
set_option maxRecDepth 100000 in
theorem c_X9_fault (l : Launch) (X : XC) (ex : va_W)  (z : XS) (R0 : Int32 × XS) (hD : D_X9_fault  z = some R0) : xM l X ex yX9_fault cX9_fault 1 (some .int) rm_X9_fault [.ref (X.2.2.1 0 (0))] z (xQi X ex R0.2 R0.1) := by
  refine x_ent (by decide) (Nat.le_of_ble_eq_true rfl) ?_
  intro p e s m below meth c ls C hr hk hw hl
  replace hl : lv_has ls 1 [(0, .ref (X.2.2.1 0 (0)))] := hl
  unfold D_X9_fault at hD
  refine lv_aload_n C.1 C.2.1 dX9_fault_0 rfl (lv_at hl 0 rfl) ?_
  refine gf_X9_4 C hw kw_8 dX9_fault_1 ?_
  obtain rfl := Option.some.inj hD
  exact x_iret C hw hr hk dX9_fault_4
theorem kw_485 : Cond.methodLink RX9 235 Lib.Math.max.name ∈ gtbl := gm3 121 rfl rfl
abbrev rm_X9_many : Room := { frames := 1, cells := 0, slots := 0, locals := 13 }
def D_X9_many (x1 : Int32) (z : XS) : Option (Int32 × XS) :=
  (if x1 = (0 : Int32) then some (gS z 1 2 0, z) else (if x1 = (1 : Int32) then some (if (0 : Int32) < (gS z 1 2 0) - (1 : Int32) then (gS z 1 2 0) - (1 : Int32) else (0 : Int32), z) else (if x1 = (2 : Int32) then some (gS z 2 4 0, z) else some ((-2 : Int32), z))))
set_option maxHeartbeats 4000000 in
set_option maxRecDepth 100000 in
theorem c_X9_many (l : Launch) (X : XC) (ex : va_W) (x1 : Int32) (z : XS) (R0 : Int32 × XS) (hD : D_X9_many x1 z = some R0) : xM l X ex yX9_many cX9_many 2 (some .int) rm_X9_many [.ref (X.2.2.1 0 (0)), .int (x1)] z (xQi X ex R0.2 R0.1) := by
  refine x_ent (by decide) (Nat.le_of_ble_eq_true rfl) ?_
  intro p e s m below meth c ls C hr hk hw hl
  replace hl : lv_has ls 2 [(0, .ref (X.2.2.1 0 (0))), (1, .int (x1))] := hl
  unfold D_X9_many at hD
  refine lv_iload_n C.1 C.2.1 dX9_many_0 rfl (lv_at hl 1 rfl) ?_
  by_cases c1 : x1 = (0 : Int32)
  · replace hD := (if_pos c1).symm.trans hD
    refine lv_tableIn (off := 27) (tgt := 28) C.1 C.2.1 dX9_many_1 (by rw [c1]; decide) (by rw [c1]; decide) (by rw [c1]; decide) (by decide) ?_
    refine lv_aload_n C.1 C.2.1 dX9_many_28 rfl (lv_at hl 0 rfl) ?_
    refine gf_X9_0 C hw kw_86 dX9_many_29 ?_
    refine gNf_X4_2 C hw (List.mem_of_getElem? (i := 8) rfl) dX9_many_32 ?_
    obtain rfl := Option.some.inj hD
    exact x_iret C hw hr hk dX9_many_35
  · replace hD := (if_neg c1).symm.trans hD
    by_cases c2 : x1 = (1 : Int32)
    · replace hD := (if_pos c2).symm.trans hD
      refine lv_tableIn (off := 35) (tgt := 36) C.1 C.2.1 dX9_many_1 (by rw [c2]; decide) (by rw [c2]; decide) (by rw [c2]; decide) (by decide) ?_
      refine lv_iconst (v := (0 : Int32)) C.1 C.2.1 dX9_many_36 (by decide) ?_
      refine lv_aload_n C.1 C.2.1 dX9_many_37 rfl (lv_at hl 0 rfl) ?_
      refine gf_X9_0 C hw kw_86 dX9_many_38 ?_
      refine gNf_X4_2 C hw (List.mem_of_getElem? (i := 8) rfl) dX9_many_41 ?_
      refine lv_iconst (v := (1 : Int32)) C.1 C.2.1 dX9_many_44 (by decide) ?_
      refine lv_isub C.1 C.2.1 dX9_many_45 ?_
      refine va_mmax C.1 C.2.1 (C.2.2.1.trans hl.1.symm) C.2.2.2.1 (C.2.2.2.2 _ kw_485) (C.2.2.2.2 _ kw_69) (C.2.2.2.2 _ kw_66) (C.2.2.2.2 _ kw_70) (Nat.le_of_ble_eq_true rfl) (Nat.le_of_ble_eq_true rfl) (Nat.le_of_ble_eq_true rfl) (Nat.le_of_ble_eq_true rfl) dX9_many_46 ?_
      obtain rfl := Option.some.inj hD
      exact x_iret C hw hr hk dX9_many_49
    · replace hD := (if_neg c2).symm.trans hD
      by_cases c3 : x1 = (2 : Int32)
      · replace hD := (if_pos c3).symm.trans hD
        refine lv_tableIn (off := 49) (tgt := 50) C.1 C.2.1 dX9_many_1 (by rw [c3]; decide) (by rw [c3]; decide) (by rw [c3]; decide) (by decide) ?_
        refine lv_aload_n C.1 C.2.1 dX9_many_50 rfl (lv_at hl 0 rfl) ?_
        refine gf_X9_1 C hw kw_247 dX9_many_51 ?_
        refine gNf_X3_4 C hw (List.mem_of_getElem? (i := 9) rfl) dX9_many_54 ?_
        obtain rfl := Option.some.inj hD
        exact x_iret C hw hr hk dX9_many_57
      · replace hD := (if_neg c3).symm.trans hD
        refine lv_tableOut (tgt := 58) C.1 C.2.1 dX9_many_1 (by have a0 := sw_ne (n := 0) (0 : Int32) rfl c1; have a1 := sw_ne (n := 1) (1 : Int32) rfl c2; have a2 := sw_ne (n := 2) (2 : Int32) rfl c3; omega) (by decide) ?_
        refine lv_bipush (v := (-2 : Int32)) C.1 C.2.1 dX9_many_58 (by decide) ?_
        obtain rfl := Option.some.inj hD
        exact x_iret C hw hr hk dX9_many_60
abbrev rm_X10_in : Room := { frames := 0, cells := 0, slots := 0, locals := 0 }
def D_X10_in (x0 : Int64) (x2 : Int64) (x4 : Int64) (z : XS) : Option (Int32 × XS) :=
  (if lg_cmp x0 x2 < 0 then some ((0 : Int32), z) else (if 0 < lg_cmp x0 x4 then some ((0 : Int32), z) else some ((1 : Int32), z)))
set_option maxHeartbeats 4000000 in
set_option maxRecDepth 100000 in
theorem c_X10_in (l : Launch) (X : XC) (ex : va_W) (x0 : Int64) (x2 : Int64) (x4 : Int64) (z : XS) (R0 : Int32 × XS) (hD : D_X10_in x0 x2 x4 z = some R0) : xM l X ex yX10_in cX10_in 6 (some .boolean) rm_X10_in [.long (x0), .long (x2), .long (x4)] z (xQi X ex R0.2 R0.1) := by
  refine x_ent (by decide) (Nat.le_of_ble_eq_true rfl) ?_
  intro p e s m below meth c ls C hr hk hw hl
  replace hl : lv_has ls 6 [(0, .long (x0)), (2, .long (x2)), (4, .long (x4))] := hl
  unfold D_X10_in at hD
  refine lv_lload_n C.1 C.2.1 dX10_in_0 rfl (lv_at hl 0 rfl) ?_
  refine lv_lload_n C.1 C.2.1 dX10_in_1 rfl (lv_at hl 1 rfl) ?_
  refine W.lcmp C.1 C.2.1 dX10_in_2 ?_
  refine lv_if_lt (tgt := 17) C.1 C.2.1 dX10_in_3 (by decide) (fun c1 => ?_) (fun c1 => ?_)
  · replace hD := (if_pos c1).symm.trans hD
    refine lv_iconst (v := (0 : Int32)) C.1 C.2.1 dX10_in_17 (by decide) ?_
    obtain rfl := Option.some.inj hD
    exact x_zret (v := (0 : Int32)) C hw hr hk nb0 dX10_in_18
  · replace hD := (if_neg c1).symm.trans hD
    refine lv_lload_n C.1 C.2.1 dX10_in_6 rfl (lv_at hl 0 rfl) ?_
    refine lv_lload C.1 C.2.1 dX10_in_7 (lv_at hl 2 rfl) ?_
    refine W.lcmp C.1 C.2.1 dX10_in_9 ?_
    refine lv_if_gt (tgt := 17) C.1 C.2.1 dX10_in_10 (by decide) (fun c2 => ?_) (fun c2 => ?_)
    · replace hD := (if_pos c2).symm.trans hD
      refine lv_iconst (v := (0 : Int32)) C.1 C.2.1 dX10_in_17 (by decide) ?_
      obtain rfl := Option.some.inj hD
      exact x_zret (v := (0 : Int32)) C hw hr hk nb0 dX10_in_18
    · replace hD := (if_neg c2).symm.trans hD
      refine lv_iconst (v := (1 : Int32)) C.1 C.2.1 dX10_in_13 (by decide) ?_
      refine lv_goto (tgt := 18) C.1 C.2.1 dX10_in_14 (by decide) ?_
      obtain rfl := Option.some.inj hD
      exact x_zret (v := (1 : Int32)) C hw hr hk nb1 dX10_in_18
theorem kw_486 : Cond.constantLong RX10 61 (-9223372036854775808 : Int64) ∈ gtbl := gm4 167 rfl rfl
abbrev rm_X10_lost : Room := { frames := 0, cells := 0, slots := 0, locals := 0 }
def D_X10_lost  (z : XS) : Option (Int64 × XS) :=
  some ((-9223372036854775808 : Int64), z)
set_option maxHeartbeats 4000000 in
set_option maxRecDepth 100000 in
theorem c_X10_lost (l : Launch) (X : XC) (ex : va_W)  (z : XS) (R0 : Int64 × XS) (hD : D_X10_lost  z = some R0) : xM l X ex yX10_lost cX10_lost 0 (some .long) rm_X10_lost [] z (xQl X ex R0.2 R0.1) := by
  refine x_ent (by decide) (Nat.le_of_ble_eq_true rfl) ?_
  intro p e s m below meth c ls C hr hk hw hl
  replace hl : lv_has ls 0 [] := hl
  unfold D_X10_lost at hD
  refine lv_ldc2 (v := (-9223372036854775808 : Int64)) C.1 C.2.1 C.2.2.2.1 (C.2.2.2.2 _ kw_486) dX10_lost_0 ?_
  obtain rfl := Option.some.inj hD
  exact x_lret C hw hr hk dX10_lost_3
abbrev rm_X10_lesser : Room := { frames := 0, cells := 0, slots := 0, locals := 0 }
def D_X10_lesser (x0 : Int32) (x1 : Int32) (z : XS) : Option (Int32 × XS) :=
  (if x1 ≤ x0 then some (x1, z) else some (x0, z))
set_option maxHeartbeats 4000000 in
set_option maxRecDepth 100000 in
theorem c_X10_lesser (l : Launch) (X : XC) (ex : va_W) (x0 : Int32) (x1 : Int32) (z : XS) (R0 : Int32 × XS) (hD : D_X10_lesser x0 x1 z = some R0) : xM l X ex yX10_lesser cX10_lesser 2 (some .int) rm_X10_lesser [.int (x0), .int (x1)] z (xQi X ex R0.2 R0.1) := by
  refine x_ent (by decide) (Nat.le_of_ble_eq_true rfl) ?_
  intro p e s m below meth c ls C hr hk hw hl
  replace hl : lv_has ls 2 [(0, .int (x0)), (1, .int (x1))] := hl
  unfold D_X10_lesser at hD
  refine lv_iload_n C.1 C.2.1 dX10_lesser_0 rfl (lv_at hl 0 rfl) ?_
  refine lv_iload_n C.1 C.2.1 dX10_lesser_1 rfl (lv_at hl 1 rfl) ?_
  refine lv_icmp_ge (tgt := 9) C.1 C.2.1 dX10_lesser_2 (by decide) (fun c1 => ?_) (fun c1 => ?_)
  · replace hD := (if_pos c1).symm.trans hD
    refine lv_iload_n C.1 C.2.1 dX10_lesser_9 rfl (lv_at hl 1 rfl) ?_
    obtain rfl := Option.some.inj hD
    exact x_iret C hw hr hk dX10_lesser_10
  · replace hD := (if_neg c1).symm.trans hD
    refine lv_iload_n C.1 C.2.1 dX10_lesser_5 rfl (lv_at hl 0 rfl) ?_
    refine lv_goto (tgt := 10) C.1 C.2.1 dX10_lesser_6 (by decide) ?_
    obtain rfl := Option.some.inj hD
    exact x_iret C hw hr hk dX10_lesser_10
abbrev rm_X10_told : Room := { frames := 0, cells := 0, slots := 0, locals := 0 }
def B_X10_told_6 (x0 : Int64) (x2 : Int64) (x4 : Int32) (k6_ : Int64 → Int64 → XS → Option (Int64 × XS)) (y5 : Int64) (y7 : Int64) (z : XS) : Option (Int64 × XS) :=
  (if lg_cmp y7 (0 : Int64) = 0 then (if x4 = 0 then gd (nzL y5) (some (x0 / y5, z)) else gd (nzL y5) (some (x2 / y5, z))) else gd (nzL y7) (k6_ y7 (y5 - y5 / y7 * y7) z))
def L_X10_told_6 (x0 : Int64) (x2 : Int64) (x4 : Int32) : Nat → Int64 → Int64 → XS → Option (Int64 × XS)
  | 0 => fun _ _ _ => none
  | n + 1 => B_X10_told_6 x0 x2 x4  (L_X10_told_6 x0 x2 x4  n)
set_option maxHeartbeats 4000000 in
set_option maxRecDepth 100000 in
theorem w_X10_told_6 {p : Program} {l : Launch} {e : Env} {s : State} {m : MethodId} {below : List Frame} {meth : Method} {c : Code} {X : XC} {ex : va_W} (x0 : Int64) (x2 : Int64) (x4 : Int32) (C : CallFix p m c cX10_told 11 s (([.long (x0), .long (x2), .int (x4)] : List Value).toArray) gtbl RX10) (hr : meth.sig.returnType = (some .long)) (hk : meth.locks = false) (R0 : Int64 × XS)  : ∀ (n : Nat), ∀ (y5 : Int64) (y7 : Int64) (z : XS), L_X10_told_6 x0 x2 x4  n y5 y7 z = some R0 → ∀ (H : Heap) (locs : List Loc), xw X ex z s H locs → ∀ (ls : Array Slot), lv_has ls 11 [(0, .long (x0)), (2, .long (x2)), (4, .int (x4)), (5, .long (y5)), (7, .long (y7))] → W p l e rm_X10_told s m (([.long (x0), .long (x2), .int (x4)] : List Value).toArray) below meth c H locs 0 0 (MQ below (xQl X ex R0.2 R0.1) (([.long (x0), .long (x2), .int (x4)] : List Value).toArray) s 0 0 (xA X)) (F0 m 6 ls []) := by
  intro n
  induction n with
  | zero =>
    intro y5 y7 z  hD
    cases hD
  | succ n ih =>
    intro y5 y7 z  hD H locs hw ls hl
    replace hD : B_X10_told_6 x0 x2 x4  (L_X10_told_6 x0 x2 x4  n) y5 y7 z = some R0 := hD
    unfold B_X10_told_6 at hD
    refine lv_lload C.1 C.2.1 dX10_told_6 (lv_at hl 4 rfl) ?_
    refine lv_lconst (v := (0 : Int64)) C.1 C.2.1 dX10_told_8 (by decide) ?_
    refine W.lcmp C.1 C.2.1 dX10_told_9 ?_
    refine lv_if_eq (tgt := 31) C.1 C.2.1 dX10_told_10 (by decide) (fun c1 => ?_) (fun c1 => ?_)
    · replace hD := (if_pos c1).symm.trans hD
      refine lv_iload C.1 C.2.1 dX10_told_31 (lv_at hl 2 rfl) ?_
      refine lv_if_ne (tgt := 40) C.1 C.2.1 dX10_told_33 (by decide) (fun c2 => ?_) (fun c2 => ?_)
      · replace hD := (if_neg c2).symm.trans hD
        refine lv_lload_n C.1 C.2.1 dX10_told_40 rfl (lv_at hl 1 rfl) ?_
        refine lv_lload C.1 C.2.1 dX10_told_41 (lv_at hl 3 rfl) ?_
        obtain ⟨g3, hD⟩ := gd_some hD
        refine lv_ldiv C.1 C.2.1 dX10_told_43 (nzL_of g3) ?_
        obtain rfl := Option.some.inj hD
        exact x_lret C hw hr hk dX10_told_44
      · replace hD := (if_pos c2).symm.trans hD
        refine lv_lload_n C.1 C.2.1 dX10_told_36 rfl (lv_at hl 0 rfl) ?_
        refine lv_goto (tgt := 41) C.1 C.2.1 dX10_told_37 (by decide) ?_
        refine lv_lload C.1 C.2.1 dX10_told_41 (lv_at hl 3 rfl) ?_
        obtain ⟨g4, hD⟩ := gd_some hD
        refine lv_ldiv C.1 C.2.1 dX10_told_43 (nzL_of g4) ?_
        obtain rfl := Option.some.inj hD
        exact x_lret C hw hr hk dX10_told_44
    · replace hD := (if_neg c1).symm.trans hD
      refine lv_lload C.1 C.2.1 dX10_told_13 (lv_at hl 3 rfl) ?_
      refine lv_lload C.1 C.2.1 dX10_told_15 (lv_at hl 4 rfl) ?_
      obtain ⟨g5, hD⟩ := gd_some hD
      refine lv_lrem C.1 C.2.1 dX10_told_17 (nzL_of g5) ?_
      refine lv_lstore (lv' := [(9, .long (y5 - y5 / y7 * y7)), (0, .long (x0)), (2, .long (x2)), (4, .int (x4)), (5, .long (y5)), (7, .long (y7))]) C.1 C.2.1 dX10_told_18 hl (by decide) rfl (fun ls hl => ?_)
      refine lv_lload C.1 C.2.1 dX10_told_20 (lv_at hl 5 rfl) ?_
      refine lv_lstore (lv' := [(5, .long (y7)), (9, .long (y5 - y5 / y7 * y7)), (0, .long (x0)), (2, .long (x2)), (4, .int (x4)), (7, .long (y7))]) C.1 C.2.1 dX10_told_22 hl (by decide) rfl (fun ls hl => ?_)
      refine lv_lload C.1 C.2.1 dX10_told_24 (lv_at hl 1 rfl) ?_
      refine lv_lstore (lv' := [(7, .long (y5 - y5 / y7 * y7)), (5, .long (y7)), (9, .long (y5 - y5 / y7 * y7)), (0, .long (x0)), (2, .long (x2)), (4, .int (x4))]) C.1 C.2.1 dX10_told_26 hl (by decide) rfl (fun ls hl => ?_)
      refine lv_goto (tgt := 6) C.1 C.2.1 dX10_told_28 (by decide) ?_
      exact ih y7 (y5 - y5 / y7 * y7) z  hD _ _ hw _ (lv_sub hl [3, 4, 5, 1, 0] rfl)
def D_X10_told (x0 : Int64) (x2 : Int64) (x4 : Int32) (z : XS) : Option (Int64 × XS) :=
  L_X10_told_6 x0 x2 x4  64 x0 x2 z
set_option maxHeartbeats 4000000 in
set_option maxRecDepth 100000 in
theorem c_X10_told (l : Launch) (X : XC) (ex : va_W) (x0 : Int64) (x2 : Int64) (x4 : Int32) (z : XS) (R0 : Int64 × XS) (hD : D_X10_told x0 x2 x4 z = some R0) : xM l X ex yX10_told cX10_told 11 (some .long) rm_X10_told [.long (x0), .long (x2), .int (x4)] z (xQl X ex R0.2 R0.1) := by
  refine x_ent (by decide) (Nat.le_of_ble_eq_true rfl) ?_
  intro p e s m below meth c ls C hr hk hw hl
  replace hl : lv_has ls 11 [(0, .long (x0)), (2, .long (x2)), (4, .int (x4))] := hl
  unfold D_X10_told at hD
  refine lv_lload_n C.1 C.2.1 dX10_told_0 rfl (lv_at hl 0 rfl) ?_
  refine lv_lstore (lv' := [(5, .long (x0)), (0, .long (x0)), (2, .long (x2)), (4, .int (x4))]) C.1 C.2.1 dX10_told_1 hl (by decide) rfl (fun ls hl => ?_)
  refine lv_lload_n C.1 C.2.1 dX10_told_3 rfl (lv_at hl 2 rfl) ?_
  refine lv_lstore (lv' := [(7, .long (x2)), (5, .long (x0)), (0, .long (x0)), (2, .long (x2)), (4, .int (x4))]) C.1 C.2.1 dX10_told_4 hl (by decide) rfl (fun ls hl => ?_)
  exact w_X10_told_6 x0 x2 x4  C hr hk R0   64 x0 x2 z  hD _ _ hw _ (lv_sub hl [2, 3, 4, 1, 0] rfl)
theorem kw_487 : Cond.fieldLink RX10 63 (TX10 0).1 (TX10 0).2.1 (TX10 0).2.2.1 ∈ gtbl := gm3 128 rfl rfl
theorem pf_X10_0 {p : Program} {l : Launch} {e : Env} {R : Room} {s : State} {m : MethodId} {args : Array Value} {below : List Frame} {meth : Method} {c : Code} {H : Heap} {locs : List Loc} {cells slots : Nat} {Q : State → Prop} {cc : ByteArray} {pc nL index : Nat} {ls : Array Slot} {rest : List Value} {X : XC} {ex : va_W} {z : XS} {own : String} (C : CallFix p m c cc nL s args gtbl own) (hw : xw X ex z s H locs) {v : Int32} (hlink : Cond.fieldLink own index (TX10 0).1 (TX10 0).2.1 (TX10 0).2.2.1 ∈ gtbl) (hdg : decode cc pc = .ok (.putfield index, 3)) (kk : ∀ (H1 : Heap) (locs1 : List Loc), xw X ex (pS z 17 0 0 v) s H1 locs1 → W p l e R s m args below meth c H1 locs1 cells slots Q (F0 m (pc + 3) ls rest)) : W p l e R s m args below meth c H locs cells slots Q (F0 m pc ls (.int v :: .ref (X.2.2.1 17 0) :: rest)) :=
  x_put (k := 17) (j := 0) C hw (Nat.le_of_ble_eq_true rfl) 0 (v := v) rfl rfl rfl ixX10 tyX10 tyX10_ok nmX10 (by decide) hlink rfl (by decide +kernel) (Nat.le_of_ble_eq_true rfl) hdg kk
abbrev rm_X10_refused : Room := { frames := 0, cells := 0, slots := 0, locals := 0 }
def D_X10_refused (x1 : Int32) (z : XS) : Option (Int32 × XS) :=
  (some (pS z 17 0 0 (0 : Int32))).bind fun z1 => (some (x1, z1))
set_option maxHeartbeats 4000000 in
set_option maxRecDepth 100000 in
theorem c_X10_refused (l : Launch) (X : XC) (ex : va_W) (x1 : Int32) (z : XS) (R0 : Int32 × XS) (hD : D_X10_refused x1 z = some R0) : xM l X ex yX10_refused cX10_refused 2 (some .int) rm_X10_refused [.ref (X.2.2.1 17 (0)), .int (x1)] z (xQi X ex R0.2 R0.1) := by
  refine x_ent (by decide) (Nat.le_of_ble_eq_true rfl) ?_
  intro p e s m below meth c ls C hr hk hw hl
  replace hl : lv_has ls 2 [(0, .ref (X.2.2.1 17 (0))), (1, .int (x1))] := hl
  unfold D_X10_refused at hD
  refine lv_aload_n C.1 C.2.1 dX10_refused_0 rfl (lv_at hl 0 rfl) ?_
  refine lv_iconst (v := (0 : Int32)) C.1 C.2.1 dX10_refused_1 (by decide) ?_
  obtain ⟨z1, hz1, hD⟩ := Option.bind_eq_some_iff.mp hD
  refine pf_X10_0 C hw kw_487 dX10_refused_2 (fun H locs hw => ?_)
  replace hw := xw_eq hz1 hw
  refine lv_iload_n C.1 C.2.1 dX10_refused_5 rfl (lv_at hl 1 rfl) ?_
  obtain rfl := Option.some.inj hD
  exact x_iret C hw hr hk dX10_refused_6
abbrev rm_X10_failed : Room := { frames := 0, cells := 0, slots := 0, locals := 0 }
def D_X10_failed (x1 : Int32) (z : XS) : Option (Int32 × XS) :=
  (some (pS z 17 0 0 x1)).bind fun z1 => (some ((-10 : Int32) - x1, z1))
set_option maxHeartbeats 4000000 in
set_option maxRecDepth 100000 in
theorem c_X10_failed (l : Launch) (X : XC) (ex : va_W) (x1 : Int32) (z : XS) (R0 : Int32 × XS) (hD : D_X10_failed x1 z = some R0) : xM l X ex yX10_failed cX10_failed 2 (some .int) rm_X10_failed [.ref (X.2.2.1 17 (0)), .int (x1)] z (xQi X ex R0.2 R0.1) := by
  refine x_ent (by decide) (Nat.le_of_ble_eq_true rfl) ?_
  intro p e s m below meth c ls C hr hk hw hl
  replace hl : lv_has ls 2 [(0, .ref (X.2.2.1 17 (0))), (1, .int (x1))] := hl
  unfold D_X10_failed at hD
  refine lv_aload_n C.1 C.2.1 dX10_failed_0 rfl (lv_at hl 0 rfl) ?_
  refine lv_iload_n C.1 C.2.1 dX10_failed_1 rfl (lv_at hl 1 rfl) ?_
  obtain ⟨z1, hz1, hD⟩ := Option.bind_eq_some_iff.mp hD
  refine pf_X10_0 C hw kw_487 dX10_failed_2 (fun H locs hw => ?_)
  replace hw := xw_eq hz1 hw
  refine lv_bipush (v := (-10 : Int32)) C.1 C.2.1 dX10_failed_5 (by decide) ?_
  refine lv_iload_n C.1 C.2.1 dX10_failed_7 rfl (lv_at hl 1 rfl) ?_
  refine lv_isub C.1 C.2.1 dX10_failed_8 ?_
  obtain rfl := Option.some.inj hD
  exact x_iret C hw hr hk dX10_failed_9
theorem kw_489 : Cond.code yX10_lost cX10_lost 0 (some .long) ∈ gtbl := gm4 166 rfl rfl
theorem kw_490 : Cond.initialized RX10 ∈ gtbl := gm1 8 rfl rfl
theorem nd_X10_lost : (yX10_lost).cls ≠ "java/lang/invoke/MethodHandle" ∧ (yX10_lost).cls ≠ "java/lang/invoke/VarHandle" ∧ (parseMethodDescriptor (yX10_lost).desc).map (fun d => d.parameters.length) = some 0 := by decide +kernel
theorem kw_492 : Cond.static yX10_lost ∈ gtbl := gm4 165 rfl rfl
theorem cS_X10_lost : xcS yX10_lost cX10_lost 0 (some .long) 0 := ⟨⟨kw_489, kw_490, nd_X10_lost⟩, kw_492⟩
theorem kw_494 : Cond.methodLink RX10 67 yX10_lost ∈ gtbl := gm4 164 rfl rfl
abbrev rm_X10_failedLong : Room := { frames := 1, cells := 0, slots := 0, locals := 19 }
def D_X10_failedLong (x1 : Int32) (z : XS) : Option (Int64 × XS) :=
  (some (pS z 17 0 0 x1)).bind fun z1 => ((D_X10_lost  z1).bind fun q2 => (some (q2.1, q2.2)))
set_option maxHeartbeats 4000000 in
set_option maxRecDepth 100000 in
theorem c_X10_failedLong (l : Launch) (X : XC) (ex : va_W) (x1 : Int32) (z : XS) (R0 : Int64 × XS) (hD : D_X10_failedLong x1 z = some R0) : xM l X ex yX10_failedLong cX10_failedLong 2 (some .long) rm_X10_failedLong [.ref (X.2.2.1 17 (0)), .int (x1)] z (xQl X ex R0.2 R0.1) := by
  refine x_ent (by decide) (Nat.le_of_ble_eq_true rfl) ?_
  intro p e s m below meth c ls C hr hk hw hl
  replace hl : lv_has ls 2 [(0, .ref (X.2.2.1 17 (0))), (1, .int (x1))] := hl
  unfold D_X10_failedLong at hD
  refine lv_aload_n C.1 C.2.1 dX10_failedLong_0 rfl (lv_at hl 0 rfl) ?_
  refine lv_iload_n C.1 C.2.1 dX10_failedLong_1 rfl (lv_at hl 1 rfl) ?_
  obtain ⟨z1, hz1, hD⟩ := Option.bind_eq_some_iff.mp hD
  refine pf_X10_0 C hw kw_487 dX10_failedLong_2 (fun H locs hw => ?_)
  replace hw := xw_eq hz1 hw
  obtain ⟨q2, hq2, hD⟩ := Option.bind_eq_some_iff.mp hD
  refine x_gol hw (x_runS (As := []) (rest := []) C hw cS_X10_lost kw_494 (c_X10_lost l X ex   z1 q2 hq2) ⟨Nat.le_of_ble_eq_true rfl, Nat.le_of_ble_eq_true rfl⟩ rfl hl.1 rfl (Nat.le_of_ble_eq_true rfl) dX10_failedLong_5 ⟨Nat.le_of_ble_eq_true rfl, Nat.le_of_ble_eq_true rfl⟩) (fun H locs hw => ?_)
  obtain rfl := Option.some.inj hD
  exact x_lret C hw hr hk dX10_failedLong_8
theorem kw_495 : Cond.fieldLink RX10 71 (TX10 1).1 (TX10 1).2.1 (TX10 1).2.2.1 ∈ gtbl := gm3 129 rfl rfl
theorem gf_X10_1 {p : Program} {l : Launch} {e : Env} {R : Room} {s : State} {m : MethodId} {args : Array Value} {below : List Frame} {meth : Method} {c : Code} {H : Heap} {locs : List Loc} {cells slots : Nat} {Q : State → Prop} {cc : ByteArray} {pc nL index : Nat} {ls : Array Slot} {rest : List Value} {X : XC} {ex : va_W} {z : XS} {own : String} (C : CallFix p m c cc nL s args gtbl own) (hw : xw X ex z s H locs) (hlink : Cond.fieldLink own index (TX10 1).1 (TX10 1).2.1 (TX10 1).2.2.1 ∈ gtbl) (hdg : decode cc pc = .ok (.getfield index, 3)) (kk : W p l e R s m args below meth c H locs cells slots Q (F0 m (pc + 3) ls (.int (gS z 17 1 0) :: rest))) : W p l e R s m args below meth c H locs cells slots Q (F0 m pc ls (.ref (X.2.2.1 17 0) :: rest)) :=
  x_get (k := 17) (j := 0) C hw (Nat.le_of_ble_eq_true rfl) 1 (v := .int (gS z 17 1 0)) rfl rfl ixX10 (by decide) hlink rfl hdg kk
abbrev rm_X10_hedges : Room := { frames := 0, cells := 0, slots := 0, locals := 0 }
def D_X10_hedges  (z : XS) : Option (Int32 × XS) :=
  (if gS z 17 1 0 ≤ 0 then some ((0 : Int32), z) else some ((gS z 17 1 0) - (1 : Int32), z))
set_option maxHeartbeats 4000000 in
set_option maxRecDepth 100000 in
theorem c_X10_hedges (l : Launch) (X : XC) (ex : va_W)  (z : XS) (R0 : Int32 × XS) (hD : D_X10_hedges  z = some R0) : xM l X ex yX10_hedges cX10_hedges 1 (some .int) rm_X10_hedges [.ref (X.2.2.1 17 (0))] z (xQi X ex R0.2 R0.1) := by
  refine x_ent (by decide) (Nat.le_of_ble_eq_true rfl) ?_
  intro p e s m below meth c ls C hr hk hw hl
  replace hl : lv_has ls 1 [(0, .ref (X.2.2.1 17 (0)))] := hl
  unfold D_X10_hedges at hD
  refine lv_aload_n C.1 C.2.1 dX10_hedges_0 rfl (lv_at hl 0 rfl) ?_
  refine gf_X10_1 C hw kw_495 dX10_hedges_1 ?_
  refine lv_if_le (tgt := 16) C.1 C.2.1 dX10_hedges_4 (by decide) (fun c1 => ?_) (fun c1 => ?_)
  · replace hD := (if_pos c1).symm.trans hD
    refine lv_iconst (v := (0 : Int32)) C.1 C.2.1 dX10_hedges_16 (by decide) ?_
    obtain rfl := Option.some.inj hD
    exact x_iret C hw hr hk dX10_hedges_17
  · replace hD := (if_neg c1).symm.trans hD
    refine lv_aload_n C.1 C.2.1 dX10_hedges_7 rfl (lv_at hl 0 rfl) ?_
    refine gf_X10_1 C hw kw_495 dX10_hedges_8 ?_
    refine lv_iconst (v := (1 : Int32)) C.1 C.2.1 dX10_hedges_11 (by decide) ?_
    refine lv_isub C.1 C.2.1 dX10_hedges_12 ?_
    refine lv_goto (tgt := 17) C.1 C.2.1 dX10_hedges_13 (by decide) ?_
    obtain rfl := Option.some.inj hD
    exact x_iret C hw hr hk dX10_hedges_17
