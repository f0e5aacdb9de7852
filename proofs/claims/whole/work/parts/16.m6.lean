theorem kw_597 : Cond.code yX10_noHedge cX10_noHedge 2 (some .boolean) ∈ gtbl := gm4 17 rfl rfl
theorem nd_X10_noHedge : (yX10_noHedge).cls ≠ "java/lang/invoke/MethodHandle" ∧ (yX10_noHedge).cls ≠ "java/lang/invoke/VarHandle" ∧ (parseMethodDescriptor (yX10_noHedge).desc).map (fun d => d.parameters.length) = some 1 := by decide +kernel
theorem kw_599 : Cond.instanceMethod yX10_noHedge ∈ gtbl := gm4 16 rfl rfl
theorem kw_600 : Cond.selects RX10 yX10_noHedge yX10_noHedge ∈ gtbl := gm0 15 rfl rfl
theorem cV_X10_noHedge : xcV yX10_noHedge cX10_noHedge 2 (some .boolean) 1 := ⟨⟨kw_597, kw_490, nd_X10_noHedge⟩, kw_599, kw_600⟩
theorem kw_602 : Cond.methodLink RX10 133 yX10_noHedge ∈ gtbl := gm4 14 rfl rfl
abbrev rm_X10_ofHedge : Room := { frames := 2, cells := 0, slots := 0, locals := 46 }
def D_X10_ofHedge (x1 : Int32) (x2 : Int32) (z : XS) : Option (Int32 × XS) :=
  (D_X10_noHedge x1 z).bind fun q1 => ((if q1.1 = 0 then (if x2 = 0 then gd (inB x1 6) (some (gA q1.2 18 1 x1.toNatClampNeg, q1.2)) else (if x2 = (1 : Int32) then gd (inB x1 6) (some (gA q1.2 18 2 x1.toNatClampNeg, q1.2)) else some ((-2 : Int32), q1.2))) else some ((-1 : Int32), q1.2)))
set_option maxHeartbeats 4000000 in
set_option maxRecDepth 100000 in
theorem c_X10_ofHedge (l : Launch) (X : XC) (ex : va_W) (x1 : Int32) (x2 : Int32) (z : XS) (R0 : Int32 × XS) (hD : D_X10_ofHedge x1 x2 z = some R0) : xM l X ex yX10_ofHedge cX10_ofHedge 3 (some .int) rm_X10_ofHedge [.ref (X.2.2.1 17 (0)), .int (x1), .int (x2)] z (xQi X ex R0.2 R0.1) := by
  refine x_ent (by decide) (Nat.le_of_ble_eq_true rfl) ?_
  intro p e s m below meth c ls C hr hk hw hl
  replace hl : lv_has ls 3 [(0, .ref (X.2.2.1 17 (0))), (1, .int (x1)), (2, .int (x2))] := hl
  unfold D_X10_ofHedge at hD
  refine lv_aload_n C.1 C.2.1 dX10_ofHedge_0 rfl (lv_at hl 0 rfl) ?_
  refine lv_iload_n C.1 C.2.1 dX10_ofHedge_1 rfl (lv_at hl 1 rfl) ?_
  obtain ⟨q1, hq1, hD⟩ := Option.bind_eq_some_iff.mp hD
  refine x_goi hw (x_runV (As := [.int (x1)]) (rest := []) (k := 17) (j := 0) C hw (Nat.le_of_ble_eq_true rfl) rfl rfl cV_X10_noHedge kw_602 (c_X10_noHedge l X ex x1  z q1 hq1) ⟨Nat.le_of_ble_eq_true rfl, Nat.le_of_ble_eq_true rfl⟩ rfl hl.1 rfl (Nat.le_of_ble_eq_true rfl) dX10_ofHedge_2 ⟨Nat.le_of_ble_eq_true rfl, Nat.le_of_ble_eq_true rfl⟩) (fun H locs hw => ?_)
  refine lv_if_eq (tgt := 10) C.1 C.2.1 dX10_ofHedge_5 (by decide) (fun c2 => ?_) (fun c2 => ?_)
  · replace hD := (if_pos c2).symm.trans hD
    refine lv_iload_n C.1 C.2.1 dX10_ofHedge_10 rfl (lv_at hl 2 rfl) ?_
    refine lv_if_ne (tgt := 23) C.1 C.2.1 dX10_ofHedge_11 (by decide) (fun c3 => ?_) (fun c3 => ?_)
    · replace hD := (if_neg c3).symm.trans hD
      refine lv_iload_n C.1 C.2.1 dX10_ofHedge_23 rfl (lv_at hl 2 rfl) ?_
      refine lv_iconst (v := (1 : Int32)) C.1 C.2.1 dX10_ofHedge_24 (by decide) ?_
      refine lv_icmp_ne (tgt := 37) C.1 C.2.1 dX10_ofHedge_25 (by decide) (fun c4 => ?_) (fun c4 => ?_)
      · replace hD := (if_neg c4).symm.trans hD
        refine lv_bipush (v := (-2 : Int32)) C.1 C.2.1 dX10_ofHedge_37 (by decide) ?_
        obtain rfl := Option.some.inj hD
        exact x_iret C hw hr hk dX10_ofHedge_39
      · replace hD := (if_pos c4).symm.trans hD
        refine lv_aload_n C.1 C.2.1 dX10_ofHedge_28 rfl (lv_at hl 0 rfl) ?_
        refine gf_X10_4 C hw kw_579 dX10_ofHedge_29 ?_
        refine lv_iload_n C.1 C.2.1 dX10_ofHedge_32 rfl (lv_at hl 1 rfl) ?_
        obtain ⟨g5, hD⟩ := gd_some hD
        refine x_iald (k := 18) (j := 2) C hw rfl (Nat.le_of_ble_eq_true rfl) (inB_in g5) dX10_ofHedge_33 ?_
        refine lv_goto (tgt := 39) C.1 C.2.1 dX10_ofHedge_34 (by decide) ?_
        obtain rfl := Option.some.inj hD
        exact x_iret C hw hr hk dX10_ofHedge_39
    · replace hD := (if_pos c3).symm.trans hD
      refine lv_aload_n C.1 C.2.1 dX10_ofHedge_14 rfl (lv_at hl 0 rfl) ?_
      refine gf_X10_3 C hw kw_577 dX10_ofHedge_15 ?_
      refine lv_iload_n C.1 C.2.1 dX10_ofHedge_18 rfl (lv_at hl 1 rfl) ?_
      obtain ⟨g6, hD⟩ := gd_some hD
      refine x_iald (k := 18) (j := 1) C hw rfl (Nat.le_of_ble_eq_true rfl) (inB_in g6) dX10_ofHedge_19 ?_
      refine lv_goto (tgt := 39) C.1 C.2.1 dX10_ofHedge_20 (by decide) ?_
      obtain rfl := Option.some.inj hD
      exact x_iret C hw hr hk dX10_ofHedge_39
  · replace hD := (if_neg c2).symm.trans hD
    refine lv_iconst (v := (-1 : Int32)) C.1 C.2.1 dX10_ofHedge_8 (by decide) ?_
    obtain rfl := Option.some.inj hD
    exact x_iret C hw hr hk dX10_ofHedge_9
abbrev rm_X10_placeOf : Room := { frames := 0, cells := 0, slots := 0, locals := 0 }
def D_X10_placeOf (x0 : Int32) (x1 : Int32) (x2 : Int32) (z : XS) : Option (Int32 × XS) :=
  some ((((60 : Int32) * x0) + ((30 : Int32) * x1)) + x2, z)
set_option maxHeartbeats 4000000 in
set_option maxRecDepth 100000 in
theorem c_X10_placeOf (l : Launch) (X : XC) (ex : va_W) (x0 : Int32) (x1 : Int32) (x2 : Int32) (z : XS) (R0 : Int32 × XS) (hD : D_X10_placeOf x0 x1 x2 z = some R0) : xM l X ex yX10_placeOf cX10_placeOf 3 (some .int) rm_X10_placeOf [.int (x0), .int (x1), .int (x2)] z (xQi X ex R0.2 R0.1) := by
  refine x_ent (by decide) (Nat.le_of_ble_eq_true rfl) ?_
  intro p e s m below meth c ls C hr hk hw hl
  replace hl : lv_has ls 3 [(0, .int (x0)), (1, .int (x1)), (2, .int (x2))] := hl
  unfold D_X10_placeOf at hD
  refine lv_bipush (v := (60 : Int32)) C.1 C.2.1 dX10_placeOf_0 (by decide) ?_
  refine lv_iload_n C.1 C.2.1 dX10_placeOf_2 rfl (lv_at hl 0 rfl) ?_
  refine lv_imul C.1 C.2.1 dX10_placeOf_3 ?_
  refine lv_bipush (v := (30 : Int32)) C.1 C.2.1 dX10_placeOf_4 (by decide) ?_
  refine lv_iload_n C.1 C.2.1 dX10_placeOf_6 rfl (lv_at hl 1 rfl) ?_
  refine lv_imul C.1 C.2.1 dX10_placeOf_7 ?_
  refine lv_iadd C.1 C.2.1 dX10_placeOf_8 ?_
  refine lv_iload_n C.1 C.2.1 dX10_placeOf_9 rfl (lv_at hl 2 rfl) ?_
  refine lv_iadd C.1 C.2.1 dX10_placeOf_10 ?_
  obtain rfl := Option.some.inj hD
  exact x_iret C hw hr hk dX10_placeOf_11
abbrev rm_X10_hedgeAt : Room := { frames := 0, cells := 0, slots := 0, locals := 0 }
def D_X10_hedgeAt (x0 : Int32) (x1 : Int32) (z : XS) : Option (Int32 × XS) :=
  (if x1 = 0 then some (x0 - (1 : Int32), z) else some (x0, z))
set_option maxHeartbeats 4000000 in
set_option maxRecDepth 100000 in
theorem c_X10_hedgeAt (l : Launch) (X : XC) (ex : va_W) (x0 : Int32) (x1 : Int32) (z : XS) (R0 : Int32 × XS) (hD : D_X10_hedgeAt x0 x1 z = some R0) : xM l X ex yX10_hedgeAt cX10_hedgeAt 2 (some .int) rm_X10_hedgeAt [.int (x0), .int (x1)] z (xQi X ex R0.2 R0.1) := by
  refine x_ent (by decide) (Nat.le_of_ble_eq_true rfl) ?_
  intro p e s m below meth c ls C hr hk hw hl
  replace hl : lv_has ls 2 [(0, .int (x0)), (1, .int (x1))] := hl
  unfold D_X10_hedgeAt at hD
  refine lv_iload_n C.1 C.2.1 dX10_hedgeAt_0 rfl (lv_at hl 1 rfl) ?_
  refine lv_if_ne (tgt := 10) C.1 C.2.1 dX10_hedgeAt_1 (by decide) (fun c1 => ?_) (fun c1 => ?_)
  · replace hD := (if_neg c1).symm.trans hD
    refine lv_iload_n C.1 C.2.1 dX10_hedgeAt_10 rfl (lv_at hl 0 rfl) ?_
    obtain rfl := Option.some.inj hD
    exact x_iret C hw hr hk dX10_hedgeAt_11
  · replace hD := (if_pos c1).symm.trans hD
    refine lv_iload_n C.1 C.2.1 dX10_hedgeAt_4 rfl (lv_at hl 0 rfl) ?_
    refine lv_iconst (v := (1 : Int32)) C.1 C.2.1 dX10_hedgeAt_5 (by decide) ?_
    refine lv_isub C.1 C.2.1 dX10_hedgeAt_6 ?_
    refine lv_goto (tgt := 11) C.1 C.2.1 dX10_hedgeAt_7 (by decide) ?_
    obtain rfl := Option.some.inj hD
    exact x_iret C hw hr hk dX10_hedgeAt_11
theorem kw_603 : Cond.code yX10_isSide cX10_isSide 1 (some .boolean) ∈ gtbl := gm4 24 rfl rfl
theorem nd_X10_isSide : (yX10_isSide).cls ≠ "java/lang/invoke/MethodHandle" ∧ (yX10_isSide).cls ≠ "java/lang/invoke/VarHandle" ∧ (parseMethodDescriptor (yX10_isSide).desc).map (fun d => d.parameters.length) = some 1 := by decide +kernel
theorem kw_605 : Cond.static yX10_isSide ∈ gtbl := gm4 23 rfl rfl
theorem cS_X10_isSide : xcS yX10_isSide cX10_isSide 1 (some .boolean) 1 := ⟨⟨kw_603, kw_490, nd_X10_isSide⟩, kw_605⟩
theorem kw_607 : Cond.methodLink RX10 136 yX10_isSide ∈ gtbl := gm4 22 rfl rfl
theorem kw_608 : Cond.code yX10_isDay cX10_isDay 1 (some .boolean) ∈ gtbl := gm4 27 rfl rfl
theorem nd_X10_isDay : (yX10_isDay).cls ≠ "java/lang/invoke/MethodHandle" ∧ (yX10_isDay).cls ≠ "java/lang/invoke/VarHandle" ∧ (parseMethodDescriptor (yX10_isDay).desc).map (fun d => d.parameters.length) = some 1 := by decide +kernel
theorem kw_610 : Cond.static yX10_isDay ∈ gtbl := gm4 26 rfl rfl
theorem cS_X10_isDay : xcS yX10_isDay cX10_isDay 1 (some .boolean) 1 := ⟨⟨kw_608, kw_490, nd_X10_isDay⟩, kw_610⟩
theorem kw_612 : Cond.methodLink RX10 139 yX10_isDay ∈ gtbl := gm4 25 rfl rfl
theorem kw_613 : Cond.constantLong RX10 142 (-3 : Int64) ∈ gtbl := gm4 29 rfl rfl
theorem kw_614 : Cond.code yX10_hedgeAt cX10_hedgeAt 2 (some .int) ∈ gtbl := gm4 32 rfl rfl
theorem nd_X10_hedgeAt : (yX10_hedgeAt).cls ≠ "java/lang/invoke/MethodHandle" ∧ (yX10_hedgeAt).cls ≠ "java/lang/invoke/VarHandle" ∧ (parseMethodDescriptor (yX10_hedgeAt).desc).map (fun d => d.parameters.length) = some 2 := by decide +kernel
theorem kw_616 : Cond.static yX10_hedgeAt ∈ gtbl := gm4 31 rfl rfl
theorem cS_X10_hedgeAt : xcS yX10_hedgeAt cX10_hedgeAt 2 (some .int) 2 := ⟨⟨kw_614, kw_490, nd_X10_hedgeAt⟩, kw_616⟩
theorem kw_618 : Cond.methodLink RX10 146 yX10_hedgeAt ∈ gtbl := gm4 30 rfl rfl
theorem kw_619 : Cond.code yX10_placeOf cX10_placeOf 3 (some .int) ∈ gtbl := gm4 35 rfl rfl
theorem nd_X10_placeOf : (yX10_placeOf).cls ≠ "java/lang/invoke/MethodHandle" ∧ (yX10_placeOf).cls ≠ "java/lang/invoke/VarHandle" ∧ (parseMethodDescriptor (yX10_placeOf).desc).map (fun d => d.parameters.length) = some 3 := by decide +kernel
theorem kw_621 : Cond.static yX10_placeOf ∈ gtbl := gm4 34 rfl rfl
theorem cS_X10_placeOf : xcS yX10_placeOf cX10_placeOf 3 (some .int) 3 := ⟨⟨kw_619, kw_490, nd_X10_placeOf⟩, kw_621⟩
theorem kw_623 : Cond.methodLink RX10 149 yX10_placeOf ∈ gtbl := gm4 33 rfl rfl
abbrev rm_X10_say : Room := { frames := 2, cells := 0, slots := 0, locals := 46 }
def D_X10_say (x1 : Int32) (x2 : Int32) (x3 : Int32) (x4 : Int32) (z : XS) : Option (Int32 × XS) :=
  (D_X10_noGarden x1 z).bind fun q1 => ((if q1.1 = 0 then (D_X10_isSide x2 q1.2).bind fun q3 => ((if q3.1 = 0 then some ((-2 : Int32), q3.2) else (D_X10_isDay x3 q3.2).bind fun q5 => ((if q5.1 = 0 then some ((-2 : Int32), q5.2) else (D_X10_in x4.toInt64 (-3 : Int64) (3 : Int64) q5.2).bind fun q7 => ((if q7.1 = 0 then some ((-2 : Int32), q7.2) else (D_X10_hedgeAt x1 x2 q7.2).bind fun q9 => ((D_X10_noHedge q9.1 q9.2).bind fun q10 => ((if q10.1 = 0 then (D_X10_placeOf x1 x2 x3 q10.2).bind fun q12 => (gd (inB q12.1 420) ((D_X10_placeOf x1 x2 x3 q12.2).bind fun q14 => (gd (inB q14.1 420) ((some (pA q14.2 18 3 q14.1.toNatClampNeg x4)).bind fun z16 => (some ((gA q12.2 18 3 q12.1.toNatClampNeg) + (10 : Int32), z16)))))) else some ((-1 : Int32), q10.2)))))))))) else some ((-1 : Int32), q1.2)))
set_option maxHeartbeats 4000000 in
set_option maxRecDepth 100000 in
theorem c_X10_say (l : Launch) (X : XC) (ex : va_W) (x1 : Int32) (x2 : Int32) (x3 : Int32) (x4 : Int32) (z : XS) (R0 : Int32 × XS) (hD : D_X10_say x1 x2 x3 x4 z = some R0) : xM l X ex yX10_say cX10_say 6 (some .int) rm_X10_say [.ref (X.2.2.1 17 (0)), .int (x1), .int (x2), .int (x3), .int (x4)] z (xQi X ex R0.2 R0.1) := by
  refine x_ent (by decide) (Nat.le_of_ble_eq_true rfl) ?_
  intro p e s m below meth c ls C hr hk hw hl
  replace hl : lv_has ls 6 [(0, .ref (X.2.2.1 17 (0))), (1, .int (x1)), (2, .int (x2)), (3, .int (x3)), (4, .int (x4))] := hl
  unfold D_X10_say at hD
  refine lv_aload_n C.1 C.2.1 dX10_say_0 rfl (lv_at hl 0 rfl) ?_
  refine lv_iload_n C.1 C.2.1 dX10_say_1 rfl (lv_at hl 1 rfl) ?_
  obtain ⟨q1, hq1, hD⟩ := Option.bind_eq_some_iff.mp hD
  refine x_goi hw (x_runV (As := [.int (x1)]) (rest := []) (k := 17) (j := 0) C hw (Nat.le_of_ble_eq_true rfl) rfl rfl cV_X10_noGarden kw_596 (c_X10_noGarden l X ex x1  z q1 hq1) ⟨Nat.le_of_ble_eq_true rfl, Nat.le_of_ble_eq_true rfl⟩ rfl hl.1 rfl (Nat.le_of_ble_eq_true rfl) dX10_say_2 ⟨Nat.le_of_ble_eq_true rfl, Nat.le_of_ble_eq_true rfl⟩) (fun H locs hw => ?_)
  refine lv_if_eq (tgt := 10) C.1 C.2.1 dX10_say_5 (by decide) (fun c2 => ?_) (fun c2 => ?_)
  · replace hD := (if_pos c2).symm.trans hD
    refine lv_iload_n C.1 C.2.1 dX10_say_10 rfl (lv_at hl 2 rfl) ?_
    obtain ⟨q3, hq3, hD⟩ := Option.bind_eq_some_iff.mp hD
    refine x_goi hw (x_runS (As := [.int (x2)]) (rest := []) C hw cS_X10_isSide kw_607 (c_X10_isSide l X ex x2  q1.2 q3 hq3) ⟨Nat.le_of_ble_eq_true rfl, Nat.le_of_ble_eq_true rfl⟩ rfl hl.1 rfl (Nat.le_of_ble_eq_true rfl) dX10_say_11 ⟨Nat.le_of_ble_eq_true rfl, Nat.le_of_ble_eq_true rfl⟩) (fun H locs hw => ?_)
    refine lv_if_eq (tgt := 39) C.1 C.2.1 dX10_say_14 (by decide) (fun c4 => ?_) (fun c4 => ?_)
    · replace hD := (if_pos c4).symm.trans hD
      refine lv_bipush (v := (-2 : Int32)) C.1 C.2.1 dX10_say_39 (by decide) ?_
      obtain rfl := Option.some.inj hD
      exact x_iret C hw hr hk dX10_say_41
    · replace hD := (if_neg c4).symm.trans hD
      refine lv_iload_n C.1 C.2.1 dX10_say_17 rfl (lv_at hl 3 rfl) ?_
      obtain ⟨q5, hq5, hD⟩ := Option.bind_eq_some_iff.mp hD
      refine x_goi hw (x_runS (As := [.int (x3)]) (rest := []) C hw cS_X10_isDay kw_612 (c_X10_isDay l X ex x3  q3.2 q5 hq5) ⟨Nat.le_of_ble_eq_true rfl, Nat.le_of_ble_eq_true rfl⟩ rfl hl.1 rfl (Nat.le_of_ble_eq_true rfl) dX10_say_18 ⟨Nat.le_of_ble_eq_true rfl, Nat.le_of_ble_eq_true rfl⟩) (fun H locs hw => ?_)
      refine lv_if_eq (tgt := 39) C.1 C.2.1 dX10_say_21 (by decide) (fun c6 => ?_) (fun c6 => ?_)
      · replace hD := (if_pos c6).symm.trans hD
        refine lv_bipush (v := (-2 : Int32)) C.1 C.2.1 dX10_say_39 (by decide) ?_
        obtain rfl := Option.some.inj hD
        exact x_iret C hw hr hk dX10_say_41
      · replace hD := (if_neg c6).symm.trans hD
        refine lv_iload C.1 C.2.1 dX10_say_24 (lv_at hl 4 rfl) ?_
        refine lv_i2l C.1 C.2.1 dX10_say_26 rfl ?_
        refine lv_ldc2 (v := (-3 : Int64)) C.1 C.2.1 C.2.2.2.1 (C.2.2.2.2 _ kw_613) dX10_say_27 ?_
        refine lv_ldc2 (v := (3 : Int64)) C.1 C.2.1 C.2.2.2.1 (C.2.2.2.2 _ kw_544) dX10_say_30 ?_
        obtain ⟨q7, hq7, hD⟩ := Option.bind_eq_some_iff.mp hD
        refine x_goi hw (x_runS (As := [.long (x4.toInt64), .long ((-3 : Int64)), .long ((3 : Int64))]) (rest := []) C hw cS_X10_in kw_501 (c_X10_in l X ex x4.toInt64 (-3 : Int64) (3 : Int64)  q5.2 q7 hq7) ⟨Nat.le_of_ble_eq_true rfl, Nat.le_of_ble_eq_true rfl⟩ rfl hl.1 rfl (Nat.le_of_ble_eq_true rfl) dX10_say_33 ⟨Nat.le_of_ble_eq_true rfl, Nat.le_of_ble_eq_true rfl⟩) (fun H locs hw => ?_)
        refine lv_if_ne (tgt := 42) C.1 C.2.1 dX10_say_36 (by decide) (fun c8 => ?_) (fun c8 => ?_)
        · replace hD := (if_neg c8).symm.trans hD
          refine lv_aload_n C.1 C.2.1 dX10_say_42 rfl (lv_at hl 0 rfl) ?_
          refine lv_iload_n C.1 C.2.1 dX10_say_43 rfl (lv_at hl 1 rfl) ?_
          refine lv_iload_n C.1 C.2.1 dX10_say_44 rfl (lv_at hl 2 rfl) ?_
          obtain ⟨q9, hq9, hD⟩ := Option.bind_eq_some_iff.mp hD
          refine x_goi hw (x_runS (As := [.int (x1), .int (x2)]) (rest := [.ref (X.2.2.1 17 (0))]) C hw cS_X10_hedgeAt kw_618 (c_X10_hedgeAt l X ex x1 x2  q7.2 q9 hq9) ⟨Nat.le_of_ble_eq_true rfl, Nat.le_of_ble_eq_true rfl⟩ rfl hl.1 rfl (Nat.le_of_ble_eq_true rfl) dX10_say_45 ⟨Nat.le_of_ble_eq_true rfl, Nat.le_of_ble_eq_true rfl⟩) (fun H locs hw => ?_)
          obtain ⟨q10, hq10, hD⟩ := Option.bind_eq_some_iff.mp hD
          refine x_goi hw (x_runV (As := [.int (q9.1)]) (rest := []) (k := 17) (j := 0) C hw (Nat.le_of_ble_eq_true rfl) rfl rfl cV_X10_noHedge kw_602 (c_X10_noHedge l X ex q9.1  q9.2 q10 hq10) ⟨Nat.le_of_ble_eq_true rfl, Nat.le_of_ble_eq_true rfl⟩ rfl hl.1 rfl (Nat.le_of_ble_eq_true rfl) dX10_say_48 ⟨Nat.le_of_ble_eq_true rfl, Nat.le_of_ble_eq_true rfl⟩) (fun H locs hw => ?_)
          refine lv_if_eq (tgt := 56) C.1 C.2.1 dX10_say_51 (by decide) (fun c11 => ?_) (fun c11 => ?_)
          · replace hD := (if_pos c11).symm.trans hD
            refine lv_aload_n C.1 C.2.1 dX10_say_56 rfl (lv_at hl 0 rfl) ?_
            refine gf_X10_5 C hw kw_575 dX10_say_57 ?_
            refine lv_iload_n C.1 C.2.1 dX10_say_60 rfl (lv_at hl 1 rfl) ?_
            refine lv_iload_n C.1 C.2.1 dX10_say_61 rfl (lv_at hl 2 rfl) ?_
            refine lv_iload_n C.1 C.2.1 dX10_say_62 rfl (lv_at hl 3 rfl) ?_
            obtain ⟨q12, hq12, hD⟩ := Option.bind_eq_some_iff.mp hD
            refine x_goi hw (x_runS (As := [.int (x1), .int (x2), .int (x3)]) (rest := [.ref (X.2.2.1 18 (3))]) C hw cS_X10_placeOf kw_623 (c_X10_placeOf l X ex x1 x2 x3  q10.2 q12 hq12) ⟨Nat.le_of_ble_eq_true rfl, Nat.le_of_ble_eq_true rfl⟩ rfl hl.1 rfl (Nat.le_of_ble_eq_true rfl) dX10_say_63 ⟨Nat.le_of_ble_eq_true rfl, Nat.le_of_ble_eq_true rfl⟩) (fun H locs hw => ?_)
            obtain ⟨g13, hD⟩ := gd_some hD
            refine x_iald (k := 18) (j := 3) C hw rfl (Nat.le_of_ble_eq_true rfl) (inB_in g13) dX10_say_66 ?_
            refine lv_istore (lv' := [(5, .int (gA q12.2 18 3 q12.1.toNatClampNeg)), (0, .ref (X.2.2.1 17 (0))), (1, .int (x1)), (2, .int (x2)), (3, .int (x3)), (4, .int (x4))]) C.1 C.2.1 dX10_say_67 hl (by decide) rfl (fun ls hl => ?_)
            refine lv_aload_n C.1 C.2.1 dX10_say_69 rfl (lv_at hl 1 rfl) ?_
            refine gf_X10_5 C hw kw_575 dX10_say_70 ?_
            refine lv_iload_n C.1 C.2.1 dX10_say_73 rfl (lv_at hl 2 rfl) ?_
            refine lv_iload_n C.1 C.2.1 dX10_say_74 rfl (lv_at hl 3 rfl) ?_
            refine lv_iload_n C.1 C.2.1 dX10_say_75 rfl (lv_at hl 4 rfl) ?_
            obtain ⟨q14, hq14, hD⟩ := Option.bind_eq_some_iff.mp hD
            refine x_goi hw (x_runS (As := [.int (x1), .int (x2), .int (x3)]) (rest := [.ref (X.2.2.1 18 (3))]) C hw cS_X10_placeOf kw_623 (c_X10_placeOf l X ex x1 x2 x3  q12.2 q14 hq14) ⟨Nat.le_of_ble_eq_true rfl, Nat.le_of_ble_eq_true rfl⟩ rfl hl.1 rfl (Nat.le_of_ble_eq_true rfl) dX10_say_76 ⟨Nat.le_of_ble_eq_true rfl, Nat.le_of_ble_eq_true rfl⟩) (fun H locs hw => ?_)
            refine lv_iload C.1 C.2.1 dX10_say_79 (lv_at hl 5 rfl) ?_
            obtain ⟨g15, hD⟩ := gd_some hD
            obtain ⟨z16, hz16, hD⟩ := Option.bind_eq_some_iff.mp hD
            refine x_iast (k := 18) (j := 3) C hw rfl (Nat.le_of_ble_eq_true rfl) (inB_in g15) dX10_say_81 (fun H locs hw => ?_)
            replace hw := xw_eq hz16 hw
            refine lv_iload C.1 C.2.1 dX10_say_82 (lv_at hl 0 rfl) ?_
            refine lv_bipush (v := (10 : Int32)) C.1 C.2.1 dX10_say_84 (by decide) ?_
            refine lv_iadd C.1 C.2.1 dX10_say_86 ?_
            obtain rfl := Option.some.inj hD
            exact x_iret C hw hr hk dX10_say_87
          · replace hD := (if_neg c11).symm.trans hD
            refine lv_iconst (v := (-1 : Int32)) C.1 C.2.1 dX10_say_54 (by decide) ?_
            obtain rfl := Option.some.inj hD
            exact x_iret C hw hr hk dX10_say_55
        · replace hD := (if_pos c8).symm.trans hD
          refine lv_bipush (v := (-2 : Int32)) C.1 C.2.1 dX10_say_39 (by decide) ?_
          obtain rfl := Option.some.inj hD
          exact x_iret C hw hr hk dX10_say_41
  · replace hD := (if_neg c2).symm.trans hD
    refine lv_iconst (v := (-1 : Int32)) C.1 C.2.1 dX10_say_8 (by decide) ?_
    obtain rfl := Option.some.inj hD
    exact x_iret C hw hr hk dX10_say_9
theorem kw_624 : Cond.code yX10_isFeet cX10_isFeet 1 (some .boolean) ∈ gtbl := gm4 42 rfl rfl
theorem nd_X10_isFeet : (yX10_isFeet).cls ≠ "java/lang/invoke/MethodHandle" ∧ (yX10_isFeet).cls ≠ "java/lang/invoke/VarHandle" ∧ (parseMethodDescriptor (yX10_isFeet).desc).map (fun d => d.parameters.length) = some 1 := by decide +kernel
theorem kw_626 : Cond.static yX10_isFeet ∈ gtbl := gm4 41 rfl rfl
theorem cS_X10_isFeet : xcS yX10_isFeet cX10_isFeet 1 (some .boolean) 1 := ⟨⟨kw_624, kw_490, nd_X10_isFeet⟩, kw_626⟩
theorem kw_628 : Cond.methodLink RX10 153 yX10_isFeet ∈ gtbl := gm4 40 rfl rfl
abbrev rm_X10_clip : Room := { frames := 2, cells := 0, slots := 0, locals := 46 }
def J_X10_clip_33 (x1 : Int32) (x2 : Int32) (x3 : Int32)  (z : XS) : Option (Int32 × XS) :=
  gd (inB (((30 : Int32) * x1) + x2) 180) (gd (inB (((30 : Int32) * x1) + x2) 180) ((some (pA z 18 4 (((30 : Int32) * x1) + x2).toNatClampNeg x3)).bind fun z8 => (some (gA z 18 4 (((30 : Int32) * x1) + x2).toNatClampNeg, z8))))
set_option maxHeartbeats 4000000 in
set_option maxRecDepth 100000 in
theorem w_X10_clip_33 {p : Program} {l : Launch} {e : Env} {s : State} {m : MethodId} {below : List Frame} {meth : Method} {c : Code} {X : XC} {ex : va_W} (x1 : Int32) (x2 : Int32) (x3 : Int32) (C : CallFix p m c cX10_clip 5 s (([.ref (X.2.2.1 17 (0)), .int (x1), .int (x2), .int (x3)] : List Value).toArray) gtbl RX10) (hr : meth.sig.returnType = (some .int)) (hk : meth.locks = false) (R0 : Int32 × XS)  : ∀  (z : XS), J_X10_clip_33 x1 x2 x3   z = some R0 → ∀ (H : Heap) (locs : List Loc), xw X ex z s H locs → ∀ (ls : Array Slot), lv_has ls 5 [(0, .ref (X.2.2.1 17 (0))), (1, .int (x1)), (2, .int (x2)), (3, .int (x3))] → W p l e rm_X10_clip s m (([.ref (X.2.2.1 17 (0)), .int (x1), .int (x2), .int (x3)] : List Value).toArray) below meth c H locs 0 0 (MQ below (xQi X ex R0.2 R0.1) (([.ref (X.2.2.1 17 (0)), .int (x1), .int (x2), .int (x3)] : List Value).toArray) s 0 0 (xA X)) (F0 m 33 ls []) := by
  intro  z  hD H locs hw ls hl
  unfold J_X10_clip_33 at hD
  refine lv_aload_n C.1 C.2.1 dX10_clip_33 rfl (lv_at hl 0 rfl) ?_
  refine gf_X10_6 C hw kw_573 dX10_clip_34 ?_
  refine lv_bipush (v := (30 : Int32)) C.1 C.2.1 dX10_clip_37 (by decide) ?_
  refine lv_iload_n C.1 C.2.1 dX10_clip_39 rfl (lv_at hl 1 rfl) ?_
  refine lv_imul C.1 C.2.1 dX10_clip_40 ?_
  refine lv_iload_n C.1 C.2.1 dX10_clip_41 rfl (lv_at hl 2 rfl) ?_
  refine lv_iadd C.1 C.2.1 dX10_clip_42 ?_
  obtain ⟨g6, hD⟩ := gd_some hD
  refine x_iald (k := 18) (j := 4) C hw rfl (Nat.le_of_ble_eq_true rfl) (inB_in g6) dX10_clip_43 ?_
  refine lv_istore (lv' := [(4, .int (gA z 18 4 (((30 : Int32) * x1) + x2).toNatClampNeg)), (0, .ref (X.2.2.1 17 (0))), (1, .int (x1)), (2, .int (x2)), (3, .int (x3))]) C.1 C.2.1 dX10_clip_44 hl (by decide) rfl (fun ls hl => ?_)
  refine lv_aload_n C.1 C.2.1 dX10_clip_46 rfl (lv_at hl 1 rfl) ?_
  refine gf_X10_6 C hw kw_573 dX10_clip_47 ?_
  refine lv_bipush (v := (30 : Int32)) C.1 C.2.1 dX10_clip_50 (by decide) ?_
  refine lv_iload_n C.1 C.2.1 dX10_clip_52 rfl (lv_at hl 2 rfl) ?_
  refine lv_imul C.1 C.2.1 dX10_clip_53 ?_
  refine lv_iload_n C.1 C.2.1 dX10_clip_54 rfl (lv_at hl 3 rfl) ?_
  refine lv_iadd C.1 C.2.1 dX10_clip_55 ?_
  refine lv_iload_n C.1 C.2.1 dX10_clip_56 rfl (lv_at hl 4 rfl) ?_
  obtain ⟨g7, hD⟩ := gd_some hD
  obtain ⟨z8, hz8, hD⟩ := Option.bind_eq_some_iff.mp hD
  refine x_iast (k := 18) (j := 4) C hw rfl (Nat.le_of_ble_eq_true rfl) (inB_in g7) dX10_clip_57 (fun H locs hw => ?_)
  replace hw := xw_eq hz8 hw
  refine lv_iload C.1 C.2.1 dX10_clip_58 (lv_at hl 0 rfl) ?_
  obtain rfl := Option.some.inj hD
  exact x_iret C hw hr hk dX10_clip_60
def D_X10_clip (x1 : Int32) (x2 : Int32) (x3 : Int32) (z : XS) : Option (Int32 × XS) :=
  (D_X10_noHedge x1 z).bind fun q1 => ((if q1.1 = 0 then (D_X10_isDay x2 q1.2).bind fun q3 => ((if q3.1 = 0 then some ((-2 : Int32), q3.2) else (if x3 = (-9 : Int32) then J_X10_clip_33 x1 x2 x3   q3.2 else (D_X10_isFeet x3 q3.2).bind fun q9 => ((if q9.1 = 0 then some ((-2 : Int32), q9.2) else J_X10_clip_33 x1 x2 x3   q9.2))))) else some ((-1 : Int32), q1.2)))
set_option maxHeartbeats 4000000 in
set_option maxRecDepth 100000 in
theorem c_X10_clip (l : Launch) (X : XC) (ex : va_W) (x1 : Int32) (x2 : Int32) (x3 : Int32) (z : XS) (R0 : Int32 × XS) (hD : D_X10_clip x1 x2 x3 z = some R0) : xM l X ex yX10_clip cX10_clip 5 (some .int) rm_X10_clip [.ref (X.2.2.1 17 (0)), .int (x1), .int (x2), .int (x3)] z (xQi X ex R0.2 R0.1) := by
  refine x_ent (by decide) (Nat.le_of_ble_eq_true rfl) ?_
  intro p e s m below meth c ls C hr hk hw hl
  replace hl : lv_has ls 5 [(0, .ref (X.2.2.1 17 (0))), (1, .int (x1)), (2, .int (x2)), (3, .int (x3))] := hl
  unfold D_X10_clip at hD
  refine lv_aload_n C.1 C.2.1 dX10_clip_0 rfl (lv_at hl 0 rfl) ?_
  refine lv_iload_n C.1 C.2.1 dX10_clip_1 rfl (lv_at hl 1 rfl) ?_
  obtain ⟨q1, hq1, hD⟩ := Option.bind_eq_some_iff.mp hD
  refine x_goi hw (x_runV (As := [.int (x1)]) (rest := []) (k := 17) (j := 0) C hw (Nat.le_of_ble_eq_true rfl) rfl rfl cV_X10_noHedge kw_602 (c_X10_noHedge l X ex x1  z q1 hq1) ⟨Nat.le_of_ble_eq_true rfl, Nat.le_of_ble_eq_true rfl⟩ rfl hl.1 rfl (Nat.le_of_ble_eq_true rfl) dX10_clip_2 ⟨Nat.le_of_ble_eq_true rfl, Nat.le_of_ble_eq_true rfl⟩) (fun H locs hw => ?_)
  refine lv_if_eq (tgt := 10) C.1 C.2.1 dX10_clip_5 (by decide) (fun c2 => ?_) (fun c2 => ?_)
  · replace hD := (if_pos c2).symm.trans hD
    refine lv_iload_n C.1 C.2.1 dX10_clip_10 rfl (lv_at hl 2 rfl) ?_
    obtain ⟨q3, hq3, hD⟩ := Option.bind_eq_some_iff.mp hD
    refine x_goi hw (x_runS (As := [.int (x2)]) (rest := []) C hw cS_X10_isDay kw_612 (c_X10_isDay l X ex x2  q1.2 q3 hq3) ⟨Nat.le_of_ble_eq_true rfl, Nat.le_of_ble_eq_true rfl⟩ rfl hl.1 rfl (Nat.le_of_ble_eq_true rfl) dX10_clip_11 ⟨Nat.le_of_ble_eq_true rfl, Nat.le_of_ble_eq_true rfl⟩) (fun H locs hw => ?_)
    refine lv_if_eq (tgt := 30) C.1 C.2.1 dX10_clip_14 (by decide) (fun c4 => ?_) (fun c4 => ?_)
    · replace hD := (if_pos c4).symm.trans hD
      refine lv_bipush (v := (-2 : Int32)) C.1 C.2.1 dX10_clip_30 (by decide) ?_
      obtain rfl := Option.some.inj hD
      exact x_iret C hw hr hk dX10_clip_32
    · replace hD := (if_neg c4).symm.trans hD
      refine lv_iload_n C.1 C.2.1 dX10_clip_17 rfl (lv_at hl 3 rfl) ?_
      refine lv_bipush (v := (-9 : Int32)) C.1 C.2.1 dX10_clip_18 (by decide) ?_
      refine lv_icmp_eq (tgt := 33) C.1 C.2.1 dX10_clip_20 (by decide) (fun c5 => ?_) (fun c5 => ?_)
      · replace hD := (if_pos c5).symm.trans hD
        exact w_X10_clip_33 x1 x2 x3  C hr hk R0    q3.2  hD _ _ hw _ (lv_sub hl [0, 1, 2, 3] rfl)
      · replace hD := (if_neg c5).symm.trans hD
        refine lv_iload_n C.1 C.2.1 dX10_clip_23 rfl (lv_at hl 3 rfl) ?_
        obtain ⟨q9, hq9, hD⟩ := Option.bind_eq_some_iff.mp hD
        refine x_goi hw (x_runS (As := [.int (x3)]) (rest := []) C hw cS_X10_isFeet kw_628 (c_X10_isFeet l X ex x3  q3.2 q9 hq9) ⟨Nat.le_of_ble_eq_true rfl, Nat.le_of_ble_eq_true rfl⟩ rfl hl.1 rfl (Nat.le_of_ble_eq_true rfl) dX10_clip_24 ⟨Nat.le_of_ble_eq_true rfl, Nat.le_of_ble_eq_true rfl⟩) (fun H locs hw => ?_)
        refine lv_if_ne (tgt := 33) C.1 C.2.1 dX10_clip_27 (by decide) (fun c10 => ?_) (fun c10 => ?_)
        · replace hD := (if_neg c10).symm.trans hD
          exact w_X10_clip_33 x1 x2 x3  C hr hk R0    q9.2  hD _ _ hw _ (lv_sub hl [0, 1, 2, 3] rfl)
        · replace hD := (if_pos c10).symm.trans hD
          refine lv_bipush (v := (-2 : Int32)) C.1 C.2.1 dX10_clip_30 (by decide) ?_
          obtain rfl := Option.some.inj hD
          exact x_iret C hw hr hk dX10_clip_32
  · replace hD := (if_neg c2).symm.trans hD
    refine lv_iconst (v := (-1 : Int32)) C.1 C.2.1 dX10_clip_8 (by decide) ?_
    obtain rfl := Option.some.inj hD
    exact x_iret C hw hr hk dX10_clip_9
abbrev rm_X10_heardAt : Room := { frames := 1, cells := 0, slots := 0, locals := 22 }
def D_X10_heardAt (x0 : Int32) (x1 : Int32) (x2 : Int32) (z : XS) : Option (Int32 × XS) :=
  (if x1 = 0 then (D_X10_placeOf x0 (1 : Int32) x2 z).bind fun q3 => (some (q3.1, q3.2)) else (D_X10_placeOf (x0 + (1 : Int32)) (0 : Int32) x2 z).bind fun q2 => (some (q2.1, q2.2)))
set_option maxHeartbeats 4000000 in
set_option maxRecDepth 100000 in
theorem c_X10_heardAt (l : Launch) (X : XC) (ex : va_W) (x0 : Int32) (x1 : Int32) (x2 : Int32) (z : XS) (R0 : Int32 × XS) (hD : D_X10_heardAt x0 x1 x2 z = some R0) : xM l X ex yX10_heardAt cX10_heardAt 3 (some .int) rm_X10_heardAt [.int (x0), .int (x1), .int (x2)] z (xQi X ex R0.2 R0.1) := by
  refine x_ent (by decide) (Nat.le_of_ble_eq_true rfl) ?_
  intro p e s m below meth c ls C hr hk hw hl
  replace hl : lv_has ls 3 [(0, .int (x0)), (1, .int (x1)), (2, .int (x2))] := hl
  unfold D_X10_heardAt at hD
  refine lv_iload_n C.1 C.2.1 dX10_heardAt_0 rfl (lv_at hl 1 rfl) ?_
  refine lv_if_ne (tgt := 13) C.1 C.2.1 dX10_heardAt_1 (by decide) (fun c1 => ?_) (fun c1 => ?_)
  · replace hD := (if_neg c1).symm.trans hD
    refine lv_iload_n C.1 C.2.1 dX10_heardAt_13 rfl (lv_at hl 0 rfl) ?_
    refine lv_iconst (v := (1 : Int32)) C.1 C.2.1 dX10_heardAt_14 (by decide) ?_
    refine lv_iadd C.1 C.2.1 dX10_heardAt_15 ?_
    refine lv_iconst (v := (0 : Int32)) C.1 C.2.1 dX10_heardAt_16 (by decide) ?_
    refine lv_iload_n C.1 C.2.1 dX10_heardAt_17 rfl (lv_at hl 2 rfl) ?_
    obtain ⟨q2, hq2, hD⟩ := Option.bind_eq_some_iff.mp hD
    refine x_goi hw (x_runS (As := [.int (x0 + (1 : Int32)), .int ((0 : Int32)), .int (x2)]) (rest := []) C hw cS_X10_placeOf kw_623 (c_X10_placeOf l X ex (x0 + (1 : Int32)) (0 : Int32) x2  z q2 hq2) ⟨Nat.le_of_ble_eq_true rfl, Nat.le_of_ble_eq_true rfl⟩ rfl hl.1 rfl (Nat.le_of_ble_eq_true rfl) dX10_heardAt_18 ⟨Nat.le_of_ble_eq_true rfl, Nat.le_of_ble_eq_true rfl⟩) (fun H locs hw => ?_)
    obtain rfl := Option.some.inj hD
    exact x_iret C hw hr hk dX10_heardAt_21
  · replace hD := (if_pos c1).symm.trans hD
    refine lv_iload_n C.1 C.2.1 dX10_heardAt_4 rfl (lv_at hl 0 rfl) ?_
    refine lv_iconst (v := (1 : Int32)) C.1 C.2.1 dX10_heardAt_5 (by decide) ?_
    refine lv_iload_n C.1 C.2.1 dX10_heardAt_6 rfl (lv_at hl 2 rfl) ?_
    obtain ⟨q3, hq3, hD⟩ := Option.bind_eq_some_iff.mp hD
    refine x_goi hw (x_runS (As := [.int (x0), .int ((1 : Int32)), .int (x2)]) (rest := []) C hw cS_X10_placeOf kw_623 (c_X10_placeOf l X ex x0 (1 : Int32) x2  z q3 hq3) ⟨Nat.le_of_ble_eq_true rfl, Nat.le_of_ble_eq_true rfl⟩ rfl hl.1 rfl (Nat.le_of_ble_eq_true rfl) dX10_heardAt_7 ⟨Nat.le_of_ble_eq_true rfl, Nat.le_of_ble_eq_true rfl⟩) (fun H locs hw => ?_)
    refine lv_goto (tgt := 21) C.1 C.2.1 dX10_heardAt_10 (by decide) ?_
    obtain rfl := Option.some.inj hD
    exact x_iret C hw hr hk dX10_heardAt_21
abbrev rm_X10_bounded : Room := { frames := 0, cells := 0, slots := 0, locals := 0 }
def D_X10_bounded (x0 : Int32) (z : XS) : Option (Int32 × XS) :=
  (if 0 ≤ x0 then (if x0 ≤ (240 : Int32) then some (x0, z) else some ((240 : Int32), z)) else some ((0 : Int32), z))
set_option maxHeartbeats 4000000 in
set_option maxRecDepth 100000 in
theorem c_X10_bounded (l : Launch) (X : XC) (ex : va_W) (x0 : Int32) (z : XS) (R0 : Int32 × XS) (hD : D_X10_bounded x0 z = some R0) : xM l X ex yX10_bounded cX10_bounded 1 (some .int) rm_X10_bounded [.int (x0)] z (xQi X ex R0.2 R0.1) := by
  refine x_ent (by decide) (Nat.le_of_ble_eq_true rfl) ?_
  intro p e s m below meth c ls C hr hk hw hl
  replace hl : lv_has ls 1 [(0, .int (x0))] := hl
  unfold D_X10_bounded at hD
  refine lv_iload_n C.1 C.2.1 dX10_bounded_0 rfl (lv_at hl 0 rfl) ?_
  refine lv_if_ge (tgt := 8) C.1 C.2.1 dX10_bounded_1 (by decide) (fun c1 => ?_) (fun c1 => ?_)
  · replace hD := (if_pos c1).symm.trans hD
    refine lv_iload_n C.1 C.2.1 dX10_bounded_8 rfl (lv_at hl 0 rfl) ?_
    refine lv_sipush (v := (240 : Int32)) C.1 C.2.1 dX10_bounded_9 (by decide) ?_
    refine lv_icmp_le (tgt := 21) C.1 C.2.1 dX10_bounded_12 (by decide) (fun c2 => ?_) (fun c2 => ?_)
    · replace hD := (if_pos c2).symm.trans hD
      refine lv_iload_n C.1 C.2.1 dX10_bounded_21 rfl (lv_at hl 0 rfl) ?_
      obtain rfl := Option.some.inj hD
      exact x_iret C hw hr hk dX10_bounded_22
    · replace hD := (if_neg c2).symm.trans hD
      refine lv_sipush (v := (240 : Int32)) C.1 C.2.1 dX10_bounded_15 (by decide) ?_
      refine lv_goto (tgt := 22) C.1 C.2.1 dX10_bounded_18 (by decide) ?_
      obtain rfl := Option.some.inj hD
      exact x_iret C hw hr hk dX10_bounded_22
  · replace hD := (if_neg c1).symm.trans hD
    refine lv_iconst (v := (0 : Int32)) C.1 C.2.1 dX10_bounded_4 (by decide) ?_
    refine lv_goto (tgt := 22) C.1 C.2.1 dX10_bounded_5 (by decide) ?_
    obtain rfl := Option.some.inj hD
    exact x_iret C hw hr hk dX10_bounded_22
abbrev rm_X10_grows : Room := { frames := 0, cells := 0, slots := 0, locals := 0 }
def D_X10_grows (x0 : Int32) (x1 : Int32) (z : XS) : Option (Int32 × XS) :=
  (if x1 ≤ 0 then (if x0 = (2 : Int32) then (if x1 = 0 then some ((-6 : Int32), z) else some ((0 : Int32), z)) else some ((3 : Int32) * x1, z)) else (if x0 = 0 then some ((12 : Int32) * x1, z) else some ((6 : Int32) * x1, z)))
set_option maxHeartbeats 4000000 in
set_option maxRecDepth 100000 in
theorem c_X10_grows (l : Launch) (X : XC) (ex : va_W) (x0 : Int32) (x1 : Int32) (z : XS) (R0 : Int32 × XS) (hD : D_X10_grows x0 x1 z = some R0) : xM l X ex yX10_grows cX10_grows 2 (some .int) rm_X10_grows [.int (x0), .int (x1)] z (xQi X ex R0.2 R0.1) := by
  refine x_ent (by decide) (Nat.le_of_ble_eq_true rfl) ?_
  intro p e s m below meth c ls C hr hk hw hl
  replace hl : lv_has ls 2 [(0, .int (x0)), (1, .int (x1))] := hl
  unfold D_X10_grows at hD
  refine lv_iload_n C.1 C.2.1 dX10_grows_0 rfl (lv_at hl 1 rfl) ?_
  refine lv_if_le (tgt := 20) C.1 C.2.1 dX10_grows_1 (by decide) (fun c1 => ?_) (fun c1 => ?_)
  · replace hD := (if_pos c1).symm.trans hD
    refine lv_iload_n C.1 C.2.1 dX10_grows_20 rfl (lv_at hl 0 rfl) ?_
    refine lv_iconst (v := (2 : Int32)) C.1 C.2.1 dX10_grows_21 (by decide) ?_
    refine lv_icmp_ne (tgt := 36) C.1 C.2.1 dX10_grows_22 (by decide) (fun c2 => ?_) (fun c2 => ?_)
    · replace hD := (if_neg c2).symm.trans hD
      refine lv_iconst (v := (3 : Int32)) C.1 C.2.1 dX10_grows_36 (by decide) ?_
      refine lv_iload_n C.1 C.2.1 dX10_grows_37 rfl (lv_at hl 1 rfl) ?_
      refine lv_imul C.1 C.2.1 dX10_grows_38 ?_
      obtain rfl := Option.some.inj hD
      exact x_iret C hw hr hk dX10_grows_39
    · replace hD := (if_pos c2).symm.trans hD
      refine lv_iload_n C.1 C.2.1 dX10_grows_25 rfl (lv_at hl 1 rfl) ?_
      refine lv_if_ne (tgt := 34) C.1 C.2.1 dX10_grows_26 (by decide) (fun c3 => ?_) (fun c3 => ?_)
      · replace hD := (if_neg c3).symm.trans hD
        refine lv_iconst (v := (0 : Int32)) C.1 C.2.1 dX10_grows_34 (by decide) ?_
        obtain rfl := Option.some.inj hD
        exact x_iret C hw hr hk dX10_grows_35
      · replace hD := (if_pos c3).symm.trans hD
        refine lv_bipush (v := (-6 : Int32)) C.1 C.2.1 dX10_grows_29 (by decide) ?_
        refine lv_goto (tgt := 35) C.1 C.2.1 dX10_grows_31 (by decide) ?_
        obtain rfl := Option.some.inj hD
        exact x_iret C hw hr hk dX10_grows_35
  · replace hD := (if_neg c1).symm.trans hD
    refine lv_iload_n C.1 C.2.1 dX10_grows_4 rfl (lv_at hl 0 rfl) ?_
    refine lv_if_ne (tgt := 15) C.1 C.2.1 dX10_grows_5 (by decide) (fun c4 => ?_) (fun c4 => ?_)
    · replace hD := (if_neg c4).symm.trans hD
      refine lv_bipush (v := (6 : Int32)) C.1 C.2.1 dX10_grows_15 (by decide) ?_
      refine lv_iload_n C.1 C.2.1 dX10_grows_17 rfl (lv_at hl 1 rfl) ?_
      refine lv_imul C.1 C.2.1 dX10_grows_18 ?_
      obtain rfl := Option.some.inj hD
      exact x_iret C hw hr hk dX10_grows_19
    · replace hD := (if_pos c4).symm.trans hD
      refine lv_bipush (v := (12 : Int32)) C.1 C.2.1 dX10_grows_8 (by decide) ?_
      refine lv_iload_n C.1 C.2.1 dX10_grows_10 rfl (lv_at hl 1 rfl) ?_
      refine lv_imul C.1 C.2.1 dX10_grows_11 ?_
      refine lv_goto (tgt := 19) C.1 C.2.1 dX10_grows_12 (by decide) ?_
      obtain rfl := Option.some.inj hD
      exact x_iret C hw hr hk dX10_grows_19
theorem kw_629 : Cond.code yX10_heardAt cX10_heardAt 3 (some .int) ∈ gtbl := gm4 58 rfl rfl
theorem nd_X10_heardAt : (yX10_heardAt).cls ≠ "java/lang/invoke/MethodHandle" ∧ (yX10_heardAt).cls ≠ "java/lang/invoke/VarHandle" ∧ (parseMethodDescriptor (yX10_heardAt).desc).map (fun d => d.parameters.length) = some 3 := by decide +kernel
theorem kw_631 : Cond.static yX10_heardAt ∈ gtbl := gm4 57 rfl rfl
theorem cS_X10_heardAt : xcS yX10_heardAt cX10_heardAt 3 (some .int) 3 := ⟨⟨kw_629, kw_490, nd_X10_heardAt⟩, kw_631⟩
theorem kw_633 : Cond.methodLink RX10 156 yX10_heardAt ∈ gtbl := gm4 56 rfl rfl
theorem kw_634 : Cond.code yX10_grows cX10_grows 2 (some .int) ∈ gtbl := gm4 61 rfl rfl
theorem nd_X10_grows : (yX10_grows).cls ≠ "java/lang/invoke/MethodHandle" ∧ (yX10_grows).cls ≠ "java/lang/invoke/VarHandle" ∧ (parseMethodDescriptor (yX10_grows).desc).map (fun d => d.parameters.length) = some 2 := by decide +kernel
theorem kw_636 : Cond.static yX10_grows ∈ gtbl := gm4 60 rfl rfl
theorem cS_X10_grows : xcS yX10_grows cX10_grows 2 (some .int) 2 := ⟨⟨kw_634, kw_490, nd_X10_grows⟩, kw_636⟩
theorem kw_638 : Cond.methodLink RX10 159 yX10_grows ∈ gtbl := gm4 59 rfl rfl
theorem kw_639 : Cond.code yX10_bounded cX10_bounded 1 (some .int) ∈ gtbl := gm4 64 rfl rfl
theorem nd_X10_bounded : (yX10_bounded).cls ≠ "java/lang/invoke/MethodHandle" ∧ (yX10_bounded).cls ≠ "java/lang/invoke/VarHandle" ∧ (parseMethodDescriptor (yX10_bounded).desc).map (fun d => d.parameters.length) = some 1 := by decide +kernel
theorem kw_641 : Cond.static yX10_bounded ∈ gtbl := gm4 63 rfl rfl
theorem cS_X10_bounded : xcS yX10_bounded cX10_bounded 1 (some .int) 1 := ⟨⟨kw_639, kw_490, nd_X10_bounded⟩, kw_641⟩
theorem kw_643 : Cond.methodLink RX10 162 yX10_bounded ∈ gtbl := gm4 62 rfl rfl
theorem kw_644 : Cond.code yX10_lesser cX10_lesser 2 (some .int) ∈ gtbl := gm4 67 rfl rfl
theorem nd_X10_lesser : (yX10_lesser).cls ≠ "java/lang/invoke/MethodHandle" ∧ (yX10_lesser).cls ≠ "java/lang/invoke/VarHandle" ∧ (parseMethodDescriptor (yX10_lesser).desc).map (fun d => d.parameters.length) = some 2 := by decide +kernel
theorem kw_646 : Cond.static yX10_lesser ∈ gtbl := gm4 66 rfl rfl
theorem cS_X10_lesser : xcS yX10_lesser cX10_lesser 2 (some .int) 2 := ⟨⟨kw_644, kw_490, nd_X10_lesser⟩, kw_646⟩
theorem kw_648 : Cond.methodLink RX10 165 yX10_lesser ∈ gtbl := gm4 65 rfl rfl
abbrev rm_X10_faceAt : Room := { frames := 2, cells := 0, slots := 0, locals := 44 }
def B_X10_faceAt_14 (x1 : Int32) (x2 : Int32) (x3 : Int32) (k14_ : Int32 → Int32 → XS → Option (Int32 × XS)) (y4 : Int32) (y5 : Int32) (z : XS) : Option (Int32 × XS) :=
  (if x3 ≤ y5 then some (y4, z) else gd (inB x1 6) ((D_X10_heardAt x1 x2 y5 z).bind fun q4 => (gd (inB q4.1 420) ((D_X10_grows (gA z 18 1 x1.toNatClampNeg) (gA q4.2 18 3 q4.1.toNatClampNeg) q4.2).bind fun q6 => ((D_X10_bounded (y4 + q6.1) q6.2).bind fun q7 => (gd (inB (((30 : Int32) * x1) + y5) 180) ((if gA q7.2 18 4 (((30 : Int32) * x1) + y5).toNatClampNeg < 0 then k14_ q7.1 (y5 + 1) q7.2 else (D_X10_lesser q7.1 ((12 : Int32) * (gA q7.2 18 4 (((30 : Int32) * x1) + y5).toNatClampNeg)) q7.2).bind fun q10 => (k14_ q10.1 (y5 + 1) q10.2)))))))))
def L_X10_faceAt_14 (x1 : Int32) (x2 : Int32) (x3 : Int32) : Nat → Int32 → Int32 → XS → Option (Int32 × XS)
  | 0 => fun _ _ _ => none
  | n + 1 => B_X10_faceAt_14 x1 x2 x3  (L_X10_faceAt_14 x1 x2 x3  n)
set_option maxHeartbeats 4000000 in
set_option maxRecDepth 100000 in
theorem w_X10_faceAt_14 {p : Program} {l : Launch} {e : Env} {s : State} {m : MethodId} {below : List Frame} {meth : Method} {c : Code} {X : XC} {ex : va_W} (x1 : Int32) (x2 : Int32) (x3 : Int32) (C : CallFix p m c cX10_faceAt 7 s (([.ref (X.2.2.1 17 (0)), .int (x1), .int (x2), .int (x3)] : List Value).toArray) gtbl RX10) (hr : meth.sig.returnType = (some .int)) (hk : meth.locks = false) (R0 : Int32 × XS)  : ∀ (n : Nat), ∀ (y4 : Int32) (y5 : Int32) (z : XS), L_X10_faceAt_14 x1 x2 x3  n y4 y5 z = some R0 → ∀ (H : Heap) (locs : List Loc), xw X ex z s H locs → ∀ (ls : Array Slot), lv_has ls 7 [(0, .ref (X.2.2.1 17 (0))), (1, .int (x1)), (2, .int (x2)), (3, .int (x3)), (4, .int (y4)), (5, .int (y5))] → W p l e rm_X10_faceAt s m (([.ref (X.2.2.1 17 (0)), .int (x1), .int (x2), .int (x3)] : List Value).toArray) below meth c H locs 0 0 (MQ below (xQi X ex R0.2 R0.1) (([.ref (X.2.2.1 17 (0)), .int (x1), .int (x2), .int (x3)] : List Value).toArray) s 0 0 (xA X)) (F0 m 14 ls []) := by
  intro n
  induction n with
  | zero =>
    intro y4 y5 z  hD
    cases hD
  | succ n ih =>
    intro y4 y5 z  hD H locs hw ls hl
    replace hD : B_X10_faceAt_14 x1 x2 x3  (L_X10_faceAt_14 x1 x2 x3  n) y4 y5 z = some R0 := hD
    unfold B_X10_faceAt_14 at hD
    refine lv_iload C.1 C.2.1 dX10_faceAt_14 (lv_at hl 5 rfl) ?_
    refine lv_iload_n C.1 C.2.1 dX10_faceAt_16 rfl (lv_at hl 3 rfl) ?_
    refine lv_icmp_ge (tgt := 91) C.1 C.2.1 dX10_faceAt_17 (by decide) (fun c2 => ?_) (fun c2 => ?_)
    · replace hD := (if_pos c2).symm.trans hD
      refine lv_iload C.1 C.2.1 dX10_faceAt_91 (lv_at hl 4 rfl) ?_
      obtain rfl := Option.some.inj hD
      exact x_iret C hw hr hk dX10_faceAt_93
    · replace hD := (if_neg c2).symm.trans hD
      refine lv_iload C.1 C.2.1 dX10_faceAt_20 (lv_at hl 4 rfl) ?_
      refine lv_aload_n C.1 C.2.1 dX10_faceAt_22 rfl (lv_at hl 0 rfl) ?_
      refine gf_X10_3 C hw kw_577 dX10_faceAt_23 ?_
      refine lv_iload_n C.1 C.2.1 dX10_faceAt_26 rfl (lv_at hl 1 rfl) ?_
      obtain ⟨g3, hD⟩ := gd_some hD
      refine x_iald (k := 18) (j := 1) C hw rfl (Nat.le_of_ble_eq_true rfl) (inB_in g3) dX10_faceAt_27 ?_
      refine lv_aload_n C.1 C.2.1 dX10_faceAt_28 rfl (lv_at hl 0 rfl) ?_
      refine gf_X10_5 C hw kw_575 dX10_faceAt_29 ?_
      refine lv_iload_n C.1 C.2.1 dX10_faceAt_32 rfl (lv_at hl 1 rfl) ?_
      refine lv_iload_n C.1 C.2.1 dX10_faceAt_33 rfl (lv_at hl 2 rfl) ?_
      refine lv_iload C.1 C.2.1 dX10_faceAt_34 (lv_at hl 5 rfl) ?_
      obtain ⟨q4, hq4, hD⟩ := Option.bind_eq_some_iff.mp hD
      refine x_goi hw (x_runS (As := [.int (x1), .int (x2), .int (y5)]) (rest := [.ref (X.2.2.1 18 (3)), .int (gA z 18 1 x1.toNatClampNeg), .int (y4)]) C hw cS_X10_heardAt kw_633 (c_X10_heardAt l X ex x1 x2 y5  z q4 hq4) ⟨Nat.le_of_ble_eq_true rfl, Nat.le_of_ble_eq_true rfl⟩ rfl hl.1 rfl (Nat.le_of_ble_eq_true rfl) dX10_faceAt_36 ⟨Nat.le_of_ble_eq_true rfl, Nat.le_of_ble_eq_true rfl⟩) (fun H locs hw => ?_)
      obtain ⟨g5, hD⟩ := gd_some hD
      refine x_iald (k := 18) (j := 3) C hw rfl (Nat.le_of_ble_eq_true rfl) (inB_in g5) dX10_faceAt_39 ?_
      obtain ⟨q6, hq6, hD⟩ := Option.bind_eq_some_iff.mp hD
      refine x_goi hw (x_runS (As := [.int (gA z 18 1 x1.toNatClampNeg), .int (gA q4.2 18 3 q4.1.toNatClampNeg)]) (rest := [.int (y4)]) C hw cS_X10_grows kw_638 (c_X10_grows l X ex (gA z 18 1 x1.toNatClampNeg) (gA q4.2 18 3 q4.1.toNatClampNeg)  q4.2 q6 hq6) ⟨Nat.le_of_ble_eq_true rfl, Nat.le_of_ble_eq_true rfl⟩ rfl hl.1 rfl (Nat.le_of_ble_eq_true rfl) dX10_faceAt_40 ⟨Nat.le_of_ble_eq_true rfl, Nat.le_of_ble_eq_true rfl⟩) (fun H locs hw => ?_)
      refine lv_iadd C.1 C.2.1 dX10_faceAt_43 ?_
      obtain ⟨q7, hq7, hD⟩ := Option.bind_eq_some_iff.mp hD
      refine x_goi hw (x_runS (As := [.int (y4 + q6.1)]) (rest := []) C hw cS_X10_bounded kw_643 (c_X10_bounded l X ex (y4 + q6.1)  q6.2 q7 hq7) ⟨Nat.le_of_ble_eq_true rfl, Nat.le_of_ble_eq_true rfl⟩ rfl hl.1 rfl (Nat.le_of_ble_eq_true rfl) dX10_faceAt_44 ⟨Nat.le_of_ble_eq_true rfl, Nat.le_of_ble_eq_true rfl⟩) (fun H locs hw => ?_)
      refine lv_istore (lv' := [(4, .int (q7.1)), (0, .ref (X.2.2.1 17 (0))), (1, .int (x1)), (2, .int (x2)), (3, .int (x3)), (5, .int (y5))]) C.1 C.2.1 dX10_faceAt_47 hl (by decide) rfl (fun ls hl => ?_)
      refine lv_aload_n C.1 C.2.1 dX10_faceAt_49 rfl (lv_at hl 1 rfl) ?_
      refine gf_X10_6 C hw kw_573 dX10_faceAt_50 ?_
      refine lv_bipush (v := (30 : Int32)) C.1 C.2.1 dX10_faceAt_53 (by decide) ?_
      refine lv_iload_n C.1 C.2.1 dX10_faceAt_55 rfl (lv_at hl 2 rfl) ?_
      refine lv_imul C.1 C.2.1 dX10_faceAt_56 ?_
      refine lv_iload C.1 C.2.1 dX10_faceAt_57 (lv_at hl 5 rfl) ?_
      refine lv_iadd C.1 C.2.1 dX10_faceAt_59 ?_
      obtain ⟨g8, hD⟩ := gd_some hD
      refine x_iald (k := 18) (j := 4) C hw rfl (Nat.le_of_ble_eq_true rfl) (inB_in g8) dX10_faceAt_60 ?_
      refine lv_istore (lv' := [(6, .int (gA q7.2 18 4 (((30 : Int32) * x1) + y5).toNatClampNeg)), (4, .int (q7.1)), (0, .ref (X.2.2.1 17 (0))), (1, .int (x1)), (2, .int (x2)), (3, .int (x3)), (5, .int (y5))]) C.1 C.2.1 dX10_faceAt_61 hl (by decide) rfl (fun ls hl => ?_)
      refine lv_iload C.1 C.2.1 dX10_faceAt_63 (lv_at hl 0 rfl) ?_
      refine lv_if_lt (tgt := 81) C.1 C.2.1 dX10_faceAt_65 (by decide) (fun c9 => ?_) (fun c9 => ?_)
      · replace hD := (if_pos c9).symm.trans hD
        refine lv_iload C.1 C.2.1 dX10_faceAt_81 (lv_at hl 1 rfl) ?_
        refine lv_istore (lv' := [(4, .int (q7.1)), (6, .int (gA q7.2 18 4 (((30 : Int32) * x1) + y5).toNatClampNeg)), (0, .ref (X.2.2.1 17 (0))), (1, .int (x1)), (2, .int (x2)), (3, .int (x3)), (5, .int (y5))]) C.1 C.2.1 dX10_faceAt_83 hl (by decide) rfl (fun ls hl => ?_)
        refine lv_iinc (v := y5 + 1) (lv' := [(5, .int (y5 + 1)), (4, .int (q7.1)), (6, .int (gA q7.2 18 4 (((30 : Int32) * x1) + y5).toNatClampNeg)), (0, .ref (X.2.2.1 17 (0))), (1, .int (x1)), (2, .int (x2)), (3, .int (x3))]) C.1 C.2.1 dX10_faceAt_85 hl (k := 6) rfl rfl (by decide) rfl (fun ls hl => ?_)
        refine lv_goto (tgt := 14) C.1 C.2.1 dX10_faceAt_88 (by decide) ?_
        exact ih q7.1 (y5 + 1) q7.2  hD _ _ hw _ (lv_sub hl [3, 4, 5, 6, 1, 0] rfl)
      · replace hD := (if_neg c9).symm.trans hD
        refine lv_iload C.1 C.2.1 dX10_faceAt_68 (lv_at hl 1 rfl) ?_
        refine lv_bipush (v := (12 : Int32)) C.1 C.2.1 dX10_faceAt_70 (by decide) ?_
        refine lv_iload C.1 C.2.1 dX10_faceAt_72 (lv_at hl 0 rfl) ?_
        refine lv_imul C.1 C.2.1 dX10_faceAt_74 ?_
        obtain ⟨q10, hq10, hD⟩ := Option.bind_eq_some_iff.mp hD
        refine x_goi hw (x_runS (As := [.int (q7.1), .int ((12 : Int32) * (gA q7.2 18 4 (((30 : Int32) * x1) + y5).toNatClampNeg))]) (rest := []) C hw cS_X10_lesser kw_648 (c_X10_lesser l X ex q7.1 ((12 : Int32) * (gA q7.2 18 4 (((30 : Int32) * x1) + y5).toNatClampNeg))  q7.2 q10 hq10) ⟨Nat.le_of_ble_eq_true rfl, Nat.le_of_ble_eq_true rfl⟩ rfl hl.1 rfl (Nat.le_of_ble_eq_true rfl) dX10_faceAt_75 ⟨Nat.le_of_ble_eq_true rfl, Nat.le_of_ble_eq_true rfl⟩) (fun H locs hw => ?_)
        refine lv_goto (tgt := 83) C.1 C.2.1 dX10_faceAt_78 (by decide) ?_
        refine lv_istore (lv' := [(4, .int (q10.1)), (6, .int (gA q7.2 18 4 (((30 : Int32) * x1) + y5).toNatClampNeg)), (0, .ref (X.2.2.1 17 (0))), (1, .int (x1)), (2, .int (x2)), (3, .int (x3)), (5, .int (y5))]) C.1 C.2.1 dX10_faceAt_83 hl (by decide) rfl (fun ls hl => ?_)
        refine lv_iinc (v := y5 + 1) (lv' := [(5, .int (y5 + 1)), (4, .int (q10.1)), (6, .int (gA q7.2 18 4 (((30 : Int32) * x1) + y5).toNatClampNeg)), (0, .ref (X.2.2.1 17 (0))), (1, .int (x1)), (2, .int (x2)), (3, .int (x3))]) C.1 C.2.1 dX10_faceAt_85 hl (k := 6) rfl rfl (by decide) rfl (fun ls hl => ?_)
        refine lv_goto (tgt := 14) C.1 C.2.1 dX10_faceAt_88 (by decide) ?_
        exact ih q10.1 (y5 + 1) q10.2  hD _ _ hw _ (lv_sub hl [3, 4, 5, 6, 1, 0] rfl)
def D_X10_faceAt (x1 : Int32) (x2 : Int32) (x3 : Int32) (z : XS) : Option (Int32 × XS) :=
  gd (inB x1 6) (L_X10_faceAt_14 x1 x2 x3  64 ((12 : Int32) * (gA z 18 2 x1.toNatClampNeg)) (0 : Int32) z)
set_option maxHeartbeats 4000000 in
set_option maxRecDepth 100000 in
theorem c_X10_faceAt (l : Launch) (X : XC) (ex : va_W) (x1 : Int32) (x2 : Int32) (x3 : Int32) (z : XS) (R0 : Int32 × XS) (hD : D_X10_faceAt x1 x2 x3 z = some R0) : xM l X ex yX10_faceAt cX10_faceAt 7 (some .int) rm_X10_faceAt [.ref (X.2.2.1 17 (0)), .int (x1), .int (x2), .int (x3)] z (xQi X ex R0.2 R0.1) := by
  refine x_ent (by decide) (Nat.le_of_ble_eq_true rfl) ?_
  intro p e s m below meth c ls C hr hk hw hl
  replace hl : lv_has ls 7 [(0, .ref (X.2.2.1 17 (0))), (1, .int (x1)), (2, .int (x2)), (3, .int (x3))] := hl
  unfold D_X10_faceAt at hD
  refine lv_bipush (v := (12 : Int32)) C.1 C.2.1 dX10_faceAt_0 (by decide) ?_
  refine lv_aload_n C.1 C.2.1 dX10_faceAt_2 rfl (lv_at hl 0 rfl) ?_
  refine gf_X10_4 C hw kw_579 dX10_faceAt_3 ?_
  refine lv_iload_n C.1 C.2.1 dX10_faceAt_6 rfl (lv_at hl 1 rfl) ?_
  obtain ⟨g1, hD⟩ := gd_some hD
  refine x_iald (k := 18) (j := 2) C hw rfl (Nat.le_of_ble_eq_true rfl) (inB_in g1) dX10_faceAt_7 ?_
  refine lv_imul C.1 C.2.1 dX10_faceAt_8 ?_
  refine lv_istore (lv' := [(4, .int ((12 : Int32) * (gA z 18 2 x1.toNatClampNeg))), (0, .ref (X.2.2.1 17 (0))), (1, .int (x1)), (2, .int (x2)), (3, .int (x3))]) C.1 C.2.1 dX10_faceAt_9 hl (by decide) rfl (fun ls hl => ?_)
  refine lv_iconst (v := (0 : Int32)) C.1 C.2.1 dX10_faceAt_11 (by decide) ?_
  refine lv_istore (lv' := [(5, .int ((0 : Int32))), (4, .int ((12 : Int32) * (gA z 18 2 x1.toNatClampNeg))), (0, .ref (X.2.2.1 17 (0))), (1, .int (x1)), (2, .int (x2)), (3, .int (x3))]) C.1 C.2.1 dX10_faceAt_12 hl (by decide) rfl (fun ls hl => ?_)
  exact w_X10_faceAt_14 x1 x2 x3  C hr hk R0   64 ((12 : Int32) * (gA z 18 2 x1.toNatClampNeg)) (0 : Int32) z  hD _ _ hw _ (lv_sub hl [2, 3, 4, 5, 1, 0] rfl)
theorem kw_649 : Cond.code yX10_isDawn cX10_isDawn 1 (some .boolean) ∈ gtbl := gm4 50 rfl rfl
theorem nd_X10_isDawn : (yX10_isDawn).cls ≠ "java/lang/invoke/MethodHandle" ∧ (yX10_isDawn).cls ≠ "java/lang/invoke/VarHandle" ∧ (parseMethodDescriptor (yX10_isDawn).desc).map (fun d => d.parameters.length) = some 1 := by decide +kernel
theorem kw_651 : Cond.static yX10_isDawn ∈ gtbl := gm4 49 rfl rfl
theorem cS_X10_isDawn : xcS yX10_isDawn cX10_isDawn 1 (some .boolean) 1 := ⟨⟨kw_649, kw_490, nd_X10_isDawn⟩, kw_651⟩
theorem kw_653 : Cond.methodLink RX10 168 yX10_isDawn ∈ gtbl := gm4 48 rfl rfl
theorem kw_654 : Cond.code yX10_faceAt cX10_faceAt 7 (some .int) ∈ gtbl := gm4 55 rfl rfl
theorem nd_X10_faceAt : (yX10_faceAt).cls ≠ "java/lang/invoke/MethodHandle" ∧ (yX10_faceAt).cls ≠ "java/lang/invoke/VarHandle" ∧ (parseMethodDescriptor (yX10_faceAt).desc).map (fun d => d.parameters.length) = some 3 := by decide +kernel
theorem kw_656 : Cond.instanceMethod yX10_faceAt ∈ gtbl := gm4 54 rfl rfl
theorem kw_657 : Cond.selects RX10 yX10_faceAt yX10_faceAt ∈ gtbl := gm0 16 rfl rfl
theorem cV_X10_faceAt : xcV yX10_faceAt cX10_faceAt 7 (some .int) 3 := ⟨⟨kw_654, kw_490, nd_X10_faceAt⟩, kw_656, kw_657⟩
theorem kw_659 : Cond.methodLink RX10 171 yX10_faceAt ∈ gtbl := gm4 52 rfl rfl
abbrev rm_X10_face : Room := { frames := 3, cells := 0, slots := 0, locals := 70 }
def D_X10_face (x1 : Int32) (x2 : Int32) (x3 : Int32) (z : XS) : Option (Int32 × XS) :=
  (D_X10_noHedge x1 z).bind fun q1 => ((if q1.1 = 0 then (D_X10_isSide x2 q1.2).bind fun q3 => ((if q3.1 = 0 then some ((-2 : Int32), q3.2) else (D_X10_isDawn x3 q3.2).bind fun q5 => ((if q5.1 = 0 then some ((-2 : Int32), q5.2) else (D_X10_faceAt x1 x2 x3 q5.2).bind fun q7 => (some (q7.1, q7.2)))))) else some ((-1 : Int32), q1.2)))
set_option maxHeartbeats 4000000 in
set_option maxRecDepth 100000 in
theorem c_X10_face (l : Launch) (X : XC) (ex : va_W) (x1 : Int32) (x2 : Int32) (x3 : Int32) (z : XS) (R0 : Int32 × XS) (hD : D_X10_face x1 x2 x3 z = some R0) : xM l X ex yX10_face cX10_face 4 (some .int) rm_X10_face [.ref (X.2.2.1 17 (0)), .int (x1), .int (x2), .int (x3)] z (xQi X ex R0.2 R0.1) := by
  refine x_ent (by decide) (Nat.le_of_ble_eq_true rfl) ?_
  intro p e s m below meth c ls C hr hk hw hl
  replace hl : lv_has ls 4 [(0, .ref (X.2.2.1 17 (0))), (1, .int (x1)), (2, .int (x2)), (3, .int (x3))] := hl
  unfold D_X10_face at hD
  refine lv_aload_n C.1 C.2.1 dX10_face_0 rfl (lv_at hl 0 rfl) ?_
  refine lv_iload_n C.1 C.2.1 dX10_face_1 rfl (lv_at hl 1 rfl) ?_
  obtain ⟨q1, hq1, hD⟩ := Option.bind_eq_some_iff.mp hD
  refine x_goi hw (x_runV (As := [.int (x1)]) (rest := []) (k := 17) (j := 0) C hw (Nat.le_of_ble_eq_true rfl) rfl rfl cV_X10_noHedge kw_602 (c_X10_noHedge l X ex x1  z q1 hq1) ⟨Nat.le_of_ble_eq_true rfl, Nat.le_of_ble_eq_true rfl⟩ rfl hl.1 rfl (Nat.le_of_ble_eq_true rfl) dX10_face_2 ⟨Nat.le_of_ble_eq_true rfl, Nat.le_of_ble_eq_true rfl⟩) (fun H locs hw => ?_)
  refine lv_if_eq (tgt := 10) C.1 C.2.1 dX10_face_5 (by decide) (fun c2 => ?_) (fun c2 => ?_)
  · replace hD := (if_pos c2).symm.trans hD
    refine lv_iload_n C.1 C.2.1 dX10_face_10 rfl (lv_at hl 2 rfl) ?_
    obtain ⟨q3, hq3, hD⟩ := Option.bind_eq_some_iff.mp hD
    refine x_goi hw (x_runS (As := [.int (x2)]) (rest := []) C hw cS_X10_isSide kw_607 (c_X10_isSide l X ex x2  q1.2 q3 hq3) ⟨Nat.le_of_ble_eq_true rfl, Nat.le_of_ble_eq_true rfl⟩ rfl hl.1 rfl (Nat.le_of_ble_eq_true rfl) dX10_face_11 ⟨Nat.le_of_ble_eq_true rfl, Nat.le_of_ble_eq_true rfl⟩) (fun H locs hw => ?_)
    refine lv_if_eq (tgt := 34) C.1 C.2.1 dX10_face_14 (by decide) (fun c4 => ?_) (fun c4 => ?_)
    · replace hD := (if_pos c4).symm.trans hD
      refine lv_bipush (v := (-2 : Int32)) C.1 C.2.1 dX10_face_34 (by decide) ?_
      obtain rfl := Option.some.inj hD
      exact x_iret C hw hr hk dX10_face_36
    · replace hD := (if_neg c4).symm.trans hD
      refine lv_iload_n C.1 C.2.1 dX10_face_17 rfl (lv_at hl 3 rfl) ?_
      obtain ⟨q5, hq5, hD⟩ := Option.bind_eq_some_iff.mp hD
      refine x_goi hw (x_runS (As := [.int (x3)]) (rest := []) C hw cS_X10_isDawn kw_653 (c_X10_isDawn l X ex x3  q3.2 q5 hq5) ⟨Nat.le_of_ble_eq_true rfl, Nat.le_of_ble_eq_true rfl⟩ rfl hl.1 rfl (Nat.le_of_ble_eq_true rfl) dX10_face_18 ⟨Nat.le_of_ble_eq_true rfl, Nat.le_of_ble_eq_true rfl⟩) (fun H locs hw => ?_)
      refine lv_if_eq (tgt := 34) C.1 C.2.1 dX10_face_21 (by decide) (fun c6 => ?_) (fun c6 => ?_)
      · replace hD := (if_pos c6).symm.trans hD
        refine lv_bipush (v := (-2 : Int32)) C.1 C.2.1 dX10_face_34 (by decide) ?_
        obtain rfl := Option.some.inj hD
        exact x_iret C hw hr hk dX10_face_36
      · replace hD := (if_neg c6).symm.trans hD
        refine lv_aload_n C.1 C.2.1 dX10_face_24 rfl (lv_at hl 0 rfl) ?_
        refine lv_iload_n C.1 C.2.1 dX10_face_25 rfl (lv_at hl 1 rfl) ?_
        refine lv_iload_n C.1 C.2.1 dX10_face_26 rfl (lv_at hl 2 rfl) ?_
        refine lv_iload_n C.1 C.2.1 dX10_face_27 rfl (lv_at hl 3 rfl) ?_
        obtain ⟨q7, hq7, hD⟩ := Option.bind_eq_some_iff.mp hD
        refine x_goi hw (x_runV (As := [.int (x1), .int (x2), .int (x3)]) (rest := []) (k := 17) (j := 0) C hw (Nat.le_of_ble_eq_true rfl) rfl rfl cV_X10_faceAt kw_659 (c_X10_faceAt l X ex x1 x2 x3  q5.2 q7 hq7) ⟨Nat.le_of_ble_eq_true rfl, Nat.le_of_ble_eq_true rfl⟩ rfl hl.1 rfl (Nat.le_of_ble_eq_true rfl) dX10_face_28 ⟨Nat.le_of_ble_eq_true rfl, Nat.le_of_ble_eq_true rfl⟩) (fun H locs hw => ?_)
        refine lv_goto (tgt := 36) C.1 C.2.1 dX10_face_31 (by decide) ?_
        obtain rfl := Option.some.inj hD
        exact x_iret C hw hr hk dX10_face_36
  · replace hD := (if_neg c2).symm.trans hD
    refine lv_iconst (v := (-1 : Int32)) C.1 C.2.1 dX10_face_8 (by decide) ?_
    obtain rfl := Option.some.inj hD
    exact x_iret C hw hr hk dX10_face_9
abbrev rm_X10_heightAt : Room := { frames := 3, cells := 0, slots := 0, locals := 70 }
def D_X10_heightAt (x1 : Int32) (x2 : Int32) (z : XS) : Option (Int32 × XS) :=
  (D_X10_faceAt x1 (0 : Int32) x2 z).bind fun q1 => ((D_X10_faceAt x1 (1 : Int32) x2 q1.2).bind fun q2 => ((D_X10_lesser q1.1 q2.1 q2.2).bind fun q3 => (some (q3.1, q3.2))))
set_option maxHeartbeats 4000000 in
set_option maxRecDepth 100000 in
theorem c_X10_heightAt (l : Launch) (X : XC) (ex : va_W) (x1 : Int32) (x2 : Int32) (z : XS) (R0 : Int32 × XS) (hD : D_X10_heightAt x1 x2 z = some R0) : xM l X ex yX10_heightAt cX10_heightAt 3 (some .int) rm_X10_heightAt [.ref (X.2.2.1 17 (0)), .int (x1), .int (x2)] z (xQi X ex R0.2 R0.1) := by
  refine x_ent (by decide) (Nat.le_of_ble_eq_true rfl) ?_
  intro p e s m below meth c ls C hr hk hw hl
  replace hl : lv_has ls 3 [(0, .ref (X.2.2.1 17 (0))), (1, .int (x1)), (2, .int (x2))] := hl
  unfold D_X10_heightAt at hD
  refine lv_aload_n C.1 C.2.1 dX10_heightAt_0 rfl (lv_at hl 0 rfl) ?_
  refine lv_iload_n C.1 C.2.1 dX10_heightAt_1 rfl (lv_at hl 1 rfl) ?_
  refine lv_iconst (v := (0 : Int32)) C.1 C.2.1 dX10_heightAt_2 (by decide) ?_
  refine lv_iload_n C.1 C.2.1 dX10_heightAt_3 rfl (lv_at hl 2 rfl) ?_
  obtain ⟨q1, hq1, hD⟩ := Option.bind_eq_some_iff.mp hD
  refine x_goi hw (x_runV (As := [.int (x1), .int ((0 : Int32)), .int (x2)]) (rest := []) (k := 17) (j := 0) C hw (Nat.le_of_ble_eq_true rfl) rfl rfl cV_X10_faceAt kw_659 (c_X10_faceAt l X ex x1 (0 : Int32) x2  z q1 hq1) ⟨Nat.le_of_ble_eq_true rfl, Nat.le_of_ble_eq_true rfl⟩ rfl hl.1 rfl (Nat.le_of_ble_eq_true rfl) dX10_heightAt_4 ⟨Nat.le_of_ble_eq_true rfl, Nat.le_of_ble_eq_true rfl⟩) (fun H locs hw => ?_)
  refine lv_aload_n C.1 C.2.1 dX10_heightAt_7 rfl (lv_at hl 0 rfl) ?_
  refine lv_iload_n C.1 C.2.1 dX10_heightAt_8 rfl (lv_at hl 1 rfl) ?_
  refine lv_iconst (v := (1 : Int32)) C.1 C.2.1 dX10_heightAt_9 (by decide) ?_
  refine lv_iload_n C.1 C.2.1 dX10_heightAt_10 rfl (lv_at hl 2 rfl) ?_
  obtain ⟨q2, hq2, hD⟩ := Option.bind_eq_some_iff.mp hD
  refine x_goi hw (x_runV (As := [.int (x1), .int ((1 : Int32)), .int (x2)]) (rest := [.int (q1.1)]) (k := 17) (j := 0) C hw (Nat.le_of_ble_eq_true rfl) rfl rfl cV_X10_faceAt kw_659 (c_X10_faceAt l X ex x1 (1 : Int32) x2  q1.2 q2 hq2) ⟨Nat.le_of_ble_eq_true rfl, Nat.le_of_ble_eq_true rfl⟩ rfl hl.1 rfl (Nat.le_of_ble_eq_true rfl) dX10_heightAt_11 ⟨Nat.le_of_ble_eq_true rfl, Nat.le_of_ble_eq_true rfl⟩) (fun H locs hw => ?_)
  obtain ⟨q3, hq3, hD⟩ := Option.bind_eq_some_iff.mp hD
  refine x_goi hw (x_runS (As := [.int (q1.1), .int (q2.1)]) (rest := []) C hw cS_X10_lesser kw_648 (c_X10_lesser l X ex q1.1 q2.1  q2.2 q3 hq3) ⟨Nat.le_of_ble_eq_true rfl, Nat.le_of_ble_eq_true rfl⟩ rfl hl.1 rfl (Nat.le_of_ble_eq_true rfl) dX10_heightAt_14 ⟨Nat.le_of_ble_eq_true rfl, Nat.le_of_ble_eq_true rfl⟩) (fun H locs hw => ?_)
  obtain rfl := Option.some.inj hD
  exact x_iret C hw hr hk dX10_heightAt_17
theorem kw_660 : Cond.code yX10_heightAt cX10_heightAt 3 (some .int) ∈ gtbl := gm4 75 rfl rfl
theorem nd_X10_heightAt : (yX10_heightAt).cls ≠ "java/lang/invoke/MethodHandle" ∧ (yX10_heightAt).cls ≠ "java/lang/invoke/VarHandle" ∧ (parseMethodDescriptor (yX10_heightAt).desc).map (fun d => d.parameters.length) = some 2 := by decide +kernel
theorem kw_662 : Cond.instanceMethod yX10_heightAt ∈ gtbl := gm4 74 rfl rfl
theorem kw_663 : Cond.selects RX10 yX10_heightAt yX10_heightAt ∈ gtbl := gm0 17 rfl rfl
theorem cV_X10_heightAt : xcV yX10_heightAt cX10_heightAt 3 (some .int) 2 := ⟨⟨kw_660, kw_490, nd_X10_heightAt⟩, kw_662, kw_663⟩
theorem kw_665 : Cond.methodLink RX10 174 yX10_heightAt ∈ gtbl := gm4 72 rfl rfl
abbrev rm_X10_height : Room := { frames := 4, cells := 0, slots := 0, locals := 92 }
def D_X10_height (x1 : Int32) (x2 : Int32) (x3 : Int32) (z : XS) : Option (Int32 × XS) :=
  (D_X10_noHedge x1 z).bind fun q1 => ((if q1.1 = 0 then (D_X10_isDawn x2 q1.2).bind fun q3 => ((if q3.1 = 0 then some ((-2 : Int32), q3.2) else (D_X10_in x3.toInt64 (0 : Int64) (1 : Int64) q3.2).bind fun q5 => ((if q5.1 = 0 then some ((-2 : Int32), q5.2) else (if x3 = 0 then (D_X10_heightAt x1 x2 q5.2).bind fun q10 => (some (q10.1, q10.2)) else (D_X10_faceAt x1 (0 : Int32) x2 q5.2).bind fun q8 => ((D_X10_faceAt x1 (1 : Int32) x2 q8.2).bind fun q9 => (some ((q8.1 - q9.1) + (1000 : Int32), q9.2)))))))) else some ((-1 : Int32), q1.2)))
set_option maxHeartbeats 4000000 in
set_option maxRecDepth 100000 in
theorem c_X10_height (l : Launch) (X : XC) (ex : va_W) (x1 : Int32) (x2 : Int32) (x3 : Int32) (z : XS) (R0 : Int32 × XS) (hD : D_X10_height x1 x2 x3 z = some R0) : xM l X ex yX10_height cX10_height 4 (some .int) rm_X10_height [.ref (X.2.2.1 17 (0)), .int (x1), .int (x2), .int (x3)] z (xQi X ex R0.2 R0.1) := by
  refine x_ent (by decide) (Nat.le_of_ble_eq_true rfl) ?_
  intro p e s m below meth c ls C hr hk hw hl
  replace hl : lv_has ls 4 [(0, .ref (X.2.2.1 17 (0))), (1, .int (x1)), (2, .int (x2)), (3, .int (x3))] := hl
  unfold D_X10_height at hD
  refine lv_aload_n C.1 C.2.1 dX10_height_0 rfl (lv_at hl 0 rfl) ?_
  refine lv_iload_n C.1 C.2.1 dX10_height_1 rfl (lv_at hl 1 rfl) ?_
  obtain ⟨q1, hq1, hD⟩ := Option.bind_eq_some_iff.mp hD
  refine x_goi hw (x_runV (As := [.int (x1)]) (rest := []) (k := 17) (j := 0) C hw (Nat.le_of_ble_eq_true rfl) rfl rfl cV_X10_noHedge kw_602 (c_X10_noHedge l X ex x1  z q1 hq1) ⟨Nat.le_of_ble_eq_true rfl, Nat.le_of_ble_eq_true rfl⟩ rfl hl.1 rfl (Nat.le_of_ble_eq_true rfl) dX10_height_2 ⟨Nat.le_of_ble_eq_true rfl, Nat.le_of_ble_eq_true rfl⟩) (fun H locs hw => ?_)
  refine lv_if_eq (tgt := 10) C.1 C.2.1 dX10_height_5 (by decide) (fun c2 => ?_) (fun c2 => ?_)
  · replace hD := (if_pos c2).symm.trans hD
    refine lv_iload_n C.1 C.2.1 dX10_height_10 rfl (lv_at hl 2 rfl) ?_
    obtain ⟨q3, hq3, hD⟩ := Option.bind_eq_some_iff.mp hD
    refine x_goi hw (x_runS (As := [.int (x2)]) (rest := []) C hw cS_X10_isDawn kw_653 (c_X10_isDawn l X ex x2  q1.2 q3 hq3) ⟨Nat.le_of_ble_eq_true rfl, Nat.le_of_ble_eq_true rfl⟩ rfl hl.1 rfl (Nat.le_of_ble_eq_true rfl) dX10_height_11 ⟨Nat.le_of_ble_eq_true rfl, Nat.le_of_ble_eq_true rfl⟩) (fun H locs hw => ?_)
    refine lv_if_eq (tgt := 27) C.1 C.2.1 dX10_height_14 (by decide) (fun c4 => ?_) (fun c4 => ?_)
    · replace hD := (if_pos c4).symm.trans hD
      refine lv_bipush (v := (-2 : Int32)) C.1 C.2.1 dX10_height_27 (by decide) ?_
      obtain rfl := Option.some.inj hD
      exact x_iret C hw hr hk dX10_height_29
    · replace hD := (if_neg c4).symm.trans hD
      refine lv_iload_n C.1 C.2.1 dX10_height_17 rfl (lv_at hl 3 rfl) ?_
      refine lv_i2l C.1 C.2.1 dX10_height_18 rfl ?_
      refine lv_lconst (v := (0 : Int64)) C.1 C.2.1 dX10_height_19 (by decide) ?_
      refine lv_lconst (v := (1 : Int64)) C.1 C.2.1 dX10_height_20 (by decide) ?_
      obtain ⟨q5, hq5, hD⟩ := Option.bind_eq_some_iff.mp hD
      refine x_goi hw (x_runS (As := [.long (x3.toInt64), .long ((0 : Int64)), .long ((1 : Int64))]) (rest := []) C hw cS_X10_in kw_501 (c_X10_in l X ex x3.toInt64 (0 : Int64) (1 : Int64)  q3.2 q5 hq5) ⟨Nat.le_of_ble_eq_true rfl, Nat.le_of_ble_eq_true rfl⟩ rfl hl.1 rfl (Nat.le_of_ble_eq_true rfl) dX10_height_21 ⟨Nat.le_of_ble_eq_true rfl, Nat.le_of_ble_eq_true rfl⟩) (fun H locs hw => ?_)
      refine lv_if_ne (tgt := 30) C.1 C.2.1 dX10_height_24 (by decide) (fun c6 => ?_) (fun c6 => ?_)
      · replace hD := (if_neg c6).symm.trans hD
        refine lv_iload_n C.1 C.2.1 dX10_height_30 rfl (lv_at hl 3 rfl) ?_
        refine lv_if_ne (tgt := 43) C.1 C.2.1 dX10_height_31 (by decide) (fun c7 => ?_) (fun c7 => ?_)
        · replace hD := (if_neg c7).symm.trans hD
          refine lv_aload_n C.1 C.2.1 dX10_height_43 rfl (lv_at hl 0 rfl) ?_
          refine lv_iload_n C.1 C.2.1 dX10_height_44 rfl (lv_at hl 1 rfl) ?_
          refine lv_iconst (v := (0 : Int32)) C.1 C.2.1 dX10_height_45 (by decide) ?_
          refine lv_iload_n C.1 C.2.1 dX10_height_46 rfl (lv_at hl 2 rfl) ?_
          obtain ⟨q8, hq8, hD⟩ := Option.bind_eq_some_iff.mp hD
          refine x_goi hw (x_runV (As := [.int (x1), .int ((0 : Int32)), .int (x2)]) (rest := []) (k := 17) (j := 0) C hw (Nat.le_of_ble_eq_true rfl) rfl rfl cV_X10_faceAt kw_659 (c_X10_faceAt l X ex x1 (0 : Int32) x2  q5.2 q8 hq8) ⟨Nat.le_of_ble_eq_true rfl, Nat.le_of_ble_eq_true rfl⟩ rfl hl.1 rfl (Nat.le_of_ble_eq_true rfl) dX10_height_47 ⟨Nat.le_of_ble_eq_true rfl, Nat.le_of_ble_eq_true rfl⟩) (fun H locs hw => ?_)
          refine lv_aload_n C.1 C.2.1 dX10_height_50 rfl (lv_at hl 0 rfl) ?_
          refine lv_iload_n C.1 C.2.1 dX10_height_51 rfl (lv_at hl 1 rfl) ?_
          refine lv_iconst (v := (1 : Int32)) C.1 C.2.1 dX10_height_52 (by decide) ?_
          refine lv_iload_n C.1 C.2.1 dX10_height_53 rfl (lv_at hl 2 rfl) ?_
          obtain ⟨q9, hq9, hD⟩ := Option.bind_eq_some_iff.mp hD
          refine x_goi hw (x_runV (As := [.int (x1), .int ((1 : Int32)), .int (x2)]) (rest := [.int (q8.1)]) (k := 17) (j := 0) C hw (Nat.le_of_ble_eq_true rfl) rfl rfl cV_X10_faceAt kw_659 (c_X10_faceAt l X ex x1 (1 : Int32) x2  q8.2 q9 hq9) ⟨Nat.le_of_ble_eq_true rfl, Nat.le_of_ble_eq_true rfl⟩ rfl hl.1 rfl (Nat.le_of_ble_eq_true rfl) dX10_height_54 ⟨Nat.le_of_ble_eq_true rfl, Nat.le_of_ble_eq_true rfl⟩) (fun H locs hw => ?_)
          refine lv_isub C.1 C.2.1 dX10_height_57 ?_
          refine lv_sipush (v := (1000 : Int32)) C.1 C.2.1 dX10_height_58 (by decide) ?_
          refine lv_iadd C.1 C.2.1 dX10_height_61 ?_
          obtain rfl := Option.some.inj hD
          exact x_iret C hw hr hk dX10_height_62
        · replace hD := (if_pos c7).symm.trans hD
          refine lv_aload_n C.1 C.2.1 dX10_height_34 rfl (lv_at hl 0 rfl) ?_
          refine lv_iload_n C.1 C.2.1 dX10_height_35 rfl (lv_at hl 1 rfl) ?_
          refine lv_iload_n C.1 C.2.1 dX10_height_36 rfl (lv_at hl 2 rfl) ?_
          obtain ⟨q10, hq10, hD⟩ := Option.bind_eq_some_iff.mp hD
          refine x_goi hw (x_runV (As := [.int (x1), .int (x2)]) (rest := []) (k := 17) (j := 0) C hw (Nat.le_of_ble_eq_true rfl) rfl rfl cV_X10_heightAt kw_665 (c_X10_heightAt l X ex x1 x2  q5.2 q10 hq10) ⟨Nat.le_of_ble_eq_true rfl, Nat.le_of_ble_eq_true rfl⟩ rfl hl.1 rfl (Nat.le_of_ble_eq_true rfl) dX10_height_37 ⟨Nat.le_of_ble_eq_true rfl, Nat.le_of_ble_eq_true rfl⟩) (fun H locs hw => ?_)
          refine lv_goto (tgt := 62) C.1 C.2.1 dX10_height_40 (by decide) ?_
          obtain rfl := Option.some.inj hD
          exact x_iret C hw hr hk dX10_height_62
      · replace hD := (if_pos c6).symm.trans hD
        refine lv_bipush (v := (-2 : Int32)) C.1 C.2.1 dX10_height_27 (by decide) ?_
        obtain rfl := Option.some.inj hD
        exact x_iret C hw hr hk dX10_height_29
  · replace hD := (if_neg c2).symm.trans hD
    refine lv_iconst (v := (-1 : Int32)) C.1 C.2.1 dX10_height_8 (by decide) ?_
    obtain rfl := Option.some.inj hD
    exact x_iret C hw hr hk dX10_height_9
abbrev rm_X10_lightAt : Room := { frames := 4, cells := 0, slots := 0, locals := 92 }
def B_X10_lightAt_6 (x1 : Int32) (x2 : Int32) (k6_ : Int32 → Int32 → XS → Option (Int32 × XS)) (y3 : Int32) (y4 : Int32) (z : XS) : Option (Int32 × XS) :=
  (if (2 : Int32) ≤ y4 then (if 0 ≤ y3 then some (y3, z) else some ((0 : Int32), z)) else (D_X10_hedgeAt x1 y4 z).bind fun q3 => ((D_X10_noHedge q3.1 q3.2).bind fun q4 => ((if q4.1 = 0 then (D_X10_heightAt q3.1 x2 q4.2).bind fun q6 => (k6_ (y3 - (q6.1 / (12 : Int32))) (y4 + 1) q6.2) else k6_ (y3 - (0 : Int32)) (y4 + 1) q4.2))))
def L_X10_lightAt_6 (x1 : Int32) (x2 : Int32) : Nat → Int32 → Int32 → XS → Option (Int32 × XS)
  | 0 => fun _ _ _ => none
  | n + 1 => B_X10_lightAt_6 x1 x2  (L_X10_lightAt_6 x1 x2  n)
set_option maxHeartbeats 4000000 in
set_option maxRecDepth 100000 in
theorem w_X10_lightAt_6 {p : Program} {l : Launch} {e : Env} {s : State} {m : MethodId} {below : List Frame} {meth : Method} {c : Code} {X : XC} {ex : va_W} (x1 : Int32) (x2 : Int32) (C : CallFix p m c cX10_lightAt 6 s (([.ref (X.2.2.1 17 (0)), .int (x1), .int (x2)] : List Value).toArray) gtbl RX10) (hr : meth.sig.returnType = (some .int)) (hk : meth.locks = false) (R0 : Int32 × XS)  : ∀ (n : Nat), ∀ (y3 : Int32) (y4 : Int32) (z : XS), L_X10_lightAt_6 x1 x2  n y3 y4 z = some R0 → ∀ (H : Heap) (locs : List Loc), xw X ex z s H locs → ∀ (ls : Array Slot), lv_has ls 6 [(0, .ref (X.2.2.1 17 (0))), (1, .int (x1)), (2, .int (x2)), (3, .int (y3)), (4, .int (y4))] → W p l e rm_X10_lightAt s m (([.ref (X.2.2.1 17 (0)), .int (x1), .int (x2)] : List Value).toArray) below meth c H locs 0 0 (MQ below (xQi X ex R0.2 R0.1) (([.ref (X.2.2.1 17 (0)), .int (x1), .int (x2)] : List Value).toArray) s 0 0 (xA X)) (F0 m 6 ls []) := by
  intro n
  induction n with
  | zero =>
    intro y3 y4 z  hD
    cases hD
  | succ n ih =>
    intro y3 y4 z  hD H locs hw ls hl
    replace hD : B_X10_lightAt_6 x1 x2  (L_X10_lightAt_6 x1 x2  n) y3 y4 z = some R0 := hD
    unfold B_X10_lightAt_6 at hD
    refine lv_iload C.1 C.2.1 dX10_lightAt_6 (lv_at hl 4 rfl) ?_
    refine lv_iconst (v := (2 : Int32)) C.1 C.2.1 dX10_lightAt_8 (by decide) ?_
    refine lv_icmp_ge (tgt := 52) C.1 C.2.1 dX10_lightAt_9 (by decide) (fun c1 => ?_) (fun c1 => ?_)
    · replace hD := (if_pos c1).symm.trans hD
      refine lv_iload_n C.1 C.2.1 dX10_lightAt_52 rfl (lv_at hl 3 rfl) ?_
      refine lv_if_ge (tgt := 60) C.1 C.2.1 dX10_lightAt_53 (by decide) (fun c2 => ?_) (fun c2 => ?_)
      · replace hD := (if_pos c2).symm.trans hD
        refine lv_iload_n C.1 C.2.1 dX10_lightAt_60 rfl (lv_at hl 3 rfl) ?_
        obtain rfl := Option.some.inj hD
        exact x_iret C hw hr hk dX10_lightAt_61
      · replace hD := (if_neg c2).symm.trans hD
        refine lv_iconst (v := (0 : Int32)) C.1 C.2.1 dX10_lightAt_56 (by decide) ?_
        refine lv_goto (tgt := 61) C.1 C.2.1 dX10_lightAt_57 (by decide) ?_
        obtain rfl := Option.some.inj hD
        exact x_iret C hw hr hk dX10_lightAt_61
    · replace hD := (if_neg c1).symm.trans hD
      refine lv_iload_n C.1 C.2.1 dX10_lightAt_12 rfl (lv_at hl 1 rfl) ?_
      refine lv_iload C.1 C.2.1 dX10_lightAt_13 (lv_at hl 4 rfl) ?_
      obtain ⟨q3, hq3, hD⟩ := Option.bind_eq_some_iff.mp hD
      refine x_goi hw (x_runS (As := [.int (x1), .int (y4)]) (rest := []) C hw cS_X10_hedgeAt kw_618 (c_X10_hedgeAt l X ex x1 y4  z q3 hq3) ⟨Nat.le_of_ble_eq_true rfl, Nat.le_of_ble_eq_true rfl⟩ rfl hl.1 rfl (Nat.le_of_ble_eq_true rfl) dX10_lightAt_15 ⟨Nat.le_of_ble_eq_true rfl, Nat.le_of_ble_eq_true rfl⟩) (fun H locs hw => ?_)
      refine lv_istore (lv' := [(5, .int (q3.1)), (0, .ref (X.2.2.1 17 (0))), (1, .int (x1)), (2, .int (x2)), (3, .int (y3)), (4, .int (y4))]) C.1 C.2.1 dX10_lightAt_18 hl (by decide) rfl (fun ls hl => ?_)
      refine lv_iload_n C.1 C.2.1 dX10_lightAt_20 rfl (lv_at hl 4 rfl) ?_
      refine lv_aload_n C.1 C.2.1 dX10_lightAt_21 rfl (lv_at hl 1 rfl) ?_
      refine lv_iload C.1 C.2.1 dX10_lightAt_22 (lv_at hl 0 rfl) ?_
      obtain ⟨q4, hq4, hD⟩ := Option.bind_eq_some_iff.mp hD
      refine x_goi hw (x_runV (As := [.int (q3.1)]) (rest := [.int (y3)]) (k := 17) (j := 0) C hw (Nat.le_of_ble_eq_true rfl) rfl rfl cV_X10_noHedge kw_602 (c_X10_noHedge l X ex q3.1  q3.2 q4 hq4) ⟨Nat.le_of_ble_eq_true rfl, Nat.le_of_ble_eq_true rfl⟩ rfl hl.1 rfl (Nat.le_of_ble_eq_true rfl) dX10_lightAt_24 ⟨Nat.le_of_ble_eq_true rfl, Nat.le_of_ble_eq_true rfl⟩) (fun H locs hw => ?_)
      refine lv_if_eq (tgt := 34) C.1 C.2.1 dX10_lightAt_27 (by decide) (fun c5 => ?_) (fun c5 => ?_)
      · replace hD := (if_pos c5).symm.trans hD
        refine lv_aload_n C.1 C.2.1 dX10_lightAt_34 rfl (lv_at hl 1 rfl) ?_
        refine lv_iload C.1 C.2.1 dX10_lightAt_35 (lv_at hl 0 rfl) ?_
        refine lv_iload_n C.1 C.2.1 dX10_lightAt_37 rfl (lv_at hl 3 rfl) ?_
        obtain ⟨q6, hq6, hD⟩ := Option.bind_eq_some_iff.mp hD
        refine x_goi hw (x_runV (As := [.int (q3.1), .int (x2)]) (rest := [.int (y3)]) (k := 17) (j := 0) C hw (Nat.le_of_ble_eq_true rfl) rfl rfl cV_X10_heightAt kw_665 (c_X10_heightAt l X ex q3.1 x2  q4.2 q6 hq6) ⟨Nat.le_of_ble_eq_true rfl, Nat.le_of_ble_eq_true rfl⟩ rfl hl.1 rfl (Nat.le_of_ble_eq_true rfl) dX10_lightAt_38 ⟨Nat.le_of_ble_eq_true rfl, Nat.le_of_ble_eq_true rfl⟩) (fun H locs hw => ?_)
        refine lv_bipush (v := (12 : Int32)) C.1 C.2.1 dX10_lightAt_41 (by decide) ?_
        refine lv_idiv C.1 C.2.1 dX10_lightAt_43 (by decide) ?_
        refine lv_isub C.1 C.2.1 dX10_lightAt_44 ?_
        refine lv_istore_n (lv' := [(3, .int (y3 - (q6.1 / (12 : Int32)))), (5, .int (q3.1)), (0, .ref (X.2.2.1 17 (0))), (1, .int (x1)), (2, .int (x2)), (4, .int (y4))]) C.1 C.2.1 dX10_lightAt_45 rfl hl (by decide) rfl (fun ls hl => ?_)
        refine lv_iinc (v := y4 + 1) (lv' := [(4, .int (y4 + 1)), (3, .int (y3 - (q6.1 / (12 : Int32)))), (5, .int (q3.1)), (0, .ref (X.2.2.1 17 (0))), (1, .int (x1)), (2, .int (x2))]) C.1 C.2.1 dX10_lightAt_46 hl (k := 5) rfl rfl (by decide) rfl (fun ls hl => ?_)
        refine lv_goto (tgt := 6) C.1 C.2.1 dX10_lightAt_49 (by decide) ?_
        exact ih (y3 - (q6.1 / (12 : Int32))) (y4 + 1) q6.2  hD _ _ hw _ (lv_sub hl [3, 4, 5, 1, 0] rfl)
      · replace hD := (if_neg c5).symm.trans hD
        refine lv_iconst (v := (0 : Int32)) C.1 C.2.1 dX10_lightAt_30 (by decide) ?_
        refine lv_goto (tgt := 44) C.1 C.2.1 dX10_lightAt_31 (by decide) ?_
        refine lv_isub C.1 C.2.1 dX10_lightAt_44 ?_
        refine lv_istore_n (lv' := [(3, .int (y3 - (0 : Int32))), (5, .int (q3.1)), (0, .ref (X.2.2.1 17 (0))), (1, .int (x1)), (2, .int (x2)), (4, .int (y4))]) C.1 C.2.1 dX10_lightAt_45 rfl hl (by decide) rfl (fun ls hl => ?_)
        refine lv_iinc (v := y4 + 1) (lv' := [(4, .int (y4 + 1)), (3, .int (y3 - (0 : Int32))), (5, .int (q3.1)), (0, .ref (X.2.2.1 17 (0))), (1, .int (x1)), (2, .int (x2))]) C.1 C.2.1 dX10_lightAt_46 hl (k := 5) rfl rfl (by decide) rfl (fun ls hl => ?_)
        refine lv_goto (tgt := 6) C.1 C.2.1 dX10_lightAt_49 (by decide) ?_
        exact ih (y3 - (0 : Int32)) (y4 + 1) q4.2  hD _ _ hw _ (lv_sub hl [3, 4, 5, 1, 0] rfl)
def D_X10_lightAt (x1 : Int32) (x2 : Int32) (z : XS) : Option (Int32 × XS) :=
  L_X10_lightAt_6 x1 x2  64 (20 : Int32) (0 : Int32) z
set_option maxHeartbeats 4000000 in
set_option maxRecDepth 100000 in
theorem c_X10_lightAt (l : Launch) (X : XC) (ex : va_W) (x1 : Int32) (x2 : Int32) (z : XS) (R0 : Int32 × XS) (hD : D_X10_lightAt x1 x2 z = some R0) : xM l X ex yX10_lightAt cX10_lightAt 6 (some .int) rm_X10_lightAt [.ref (X.2.2.1 17 (0)), .int (x1), .int (x2)] z (xQi X ex R0.2 R0.1) := by
  refine x_ent (by decide) (Nat.le_of_ble_eq_true rfl) ?_
  intro p e s m below meth c ls C hr hk hw hl
  replace hl : lv_has ls 6 [(0, .ref (X.2.2.1 17 (0))), (1, .int (x1)), (2, .int (x2))] := hl
  unfold D_X10_lightAt at hD
  refine lv_bipush (v := (20 : Int32)) C.1 C.2.1 dX10_lightAt_0 (by decide) ?_
  refine lv_istore_n (lv' := [(3, .int ((20 : Int32))), (0, .ref (X.2.2.1 17 (0))), (1, .int (x1)), (2, .int (x2))]) C.1 C.2.1 dX10_lightAt_2 rfl hl (by decide) rfl (fun ls hl => ?_)
  refine lv_iconst (v := (0 : Int32)) C.1 C.2.1 dX10_lightAt_3 (by decide) ?_
  refine lv_istore (lv' := [(4, .int ((0 : Int32))), (3, .int ((20 : Int32))), (0, .ref (X.2.2.1 17 (0))), (1, .int (x1)), (2, .int (x2))]) C.1 C.2.1 dX10_lightAt_4 hl (by decide) rfl (fun ls hl => ?_)
  exact w_X10_lightAt_6 x1 x2  C hr hk R0   64 (20 : Int32) (0 : Int32) z  hD _ _ hw _ (lv_sub hl [2, 3, 4, 1, 0] rfl)
theorem kw_666 : Cond.code yX10_lightAt cX10_lightAt 6 (some .int) ∈ gtbl := gm4 83 rfl rfl
theorem nd_X10_lightAt : (yX10_lightAt).cls ≠ "java/lang/invoke/MethodHandle" ∧ (yX10_lightAt).cls ≠ "java/lang/invoke/VarHandle" ∧ (parseMethodDescriptor (yX10_lightAt).desc).map (fun d => d.parameters.length) = some 2 := by decide +kernel
theorem kw_668 : Cond.instanceMethod yX10_lightAt ∈ gtbl := gm4 82 rfl rfl
theorem kw_669 : Cond.selects RX10 yX10_lightAt yX10_lightAt ∈ gtbl := gm0 18 rfl rfl
theorem cV_X10_lightAt : xcV yX10_lightAt cX10_lightAt 6 (some .int) 2 := ⟨⟨kw_666, kw_490, nd_X10_lightAt⟩, kw_668, kw_669⟩
theorem kw_671 : Cond.methodLink RX10 177 yX10_lightAt ∈ gtbl := gm4 80 rfl rfl
abbrev rm_X10_light : Room := { frames := 5, cells := 0, slots := 0, locals := 117 }
def D_X10_light (x1 : Int32) (x2 : Int32) (z : XS) : Option (Int32 × XS) :=
  (D_X10_noGarden x1 z).bind fun q1 => ((if q1.1 = 0 then (D_X10_isDawn x2 q1.2).bind fun q3 => ((if q3.1 = 0 then some ((-2 : Int32), q3.2) else (D_X10_lightAt x1 x2 q3.2).bind fun q5 => (some (q5.1, q5.2)))) else some ((-1 : Int32), q1.2)))
set_option maxHeartbeats 4000000 in
set_option maxRecDepth 100000 in
theorem c_X10_light (l : Launch) (X : XC) (ex : va_W) (x1 : Int32) (x2 : Int32) (z : XS) (R0 : Int32 × XS) (hD : D_X10_light x1 x2 z = some R0) : xM l X ex yX10_light cX10_light 3 (some .int) rm_X10_light [.ref (X.2.2.1 17 (0)), .int (x1), .int (x2)] z (xQi X ex R0.2 R0.1) := by
  refine x_ent (by decide) (Nat.le_of_ble_eq_true rfl) ?_
  intro p e s m below meth c ls C hr hk hw hl
  replace hl : lv_has ls 3 [(0, .ref (X.2.2.1 17 (0))), (1, .int (x1)), (2, .int (x2))] := hl
  unfold D_X10_light at hD
  refine lv_aload_n C.1 C.2.1 dX10_light_0 rfl (lv_at hl 0 rfl) ?_
  refine lv_iload_n C.1 C.2.1 dX10_light_1 rfl (lv_at hl 1 rfl) ?_
  obtain ⟨q1, hq1, hD⟩ := Option.bind_eq_some_iff.mp hD
  refine x_goi hw (x_runV (As := [.int (x1)]) (rest := []) (k := 17) (j := 0) C hw (Nat.le_of_ble_eq_true rfl) rfl rfl cV_X10_noGarden kw_596 (c_X10_noGarden l X ex x1  z q1 hq1) ⟨Nat.le_of_ble_eq_true rfl, Nat.le_of_ble_eq_true rfl⟩ rfl hl.1 rfl (Nat.le_of_ble_eq_true rfl) dX10_light_2 ⟨Nat.le_of_ble_eq_true rfl, Nat.le_of_ble_eq_true rfl⟩) (fun H locs hw => ?_)
  refine lv_if_eq (tgt := 10) C.1 C.2.1 dX10_light_5 (by decide) (fun c2 => ?_) (fun c2 => ?_)
  · replace hD := (if_pos c2).symm.trans hD
    refine lv_iload_n C.1 C.2.1 dX10_light_10 rfl (lv_at hl 2 rfl) ?_
    obtain ⟨q3, hq3, hD⟩ := Option.bind_eq_some_iff.mp hD
    refine x_goi hw (x_runS (As := [.int (x2)]) (rest := []) C hw cS_X10_isDawn kw_653 (c_X10_isDawn l X ex x2  q1.2 q3 hq3) ⟨Nat.le_of_ble_eq_true rfl, Nat.le_of_ble_eq_true rfl⟩ rfl hl.1 rfl (Nat.le_of_ble_eq_true rfl) dX10_light_11 ⟨Nat.le_of_ble_eq_true rfl, Nat.le_of_ble_eq_true rfl⟩) (fun H locs hw => ?_)
    refine lv_if_eq (tgt := 26) C.1 C.2.1 dX10_light_14 (by decide) (fun c4 => ?_) (fun c4 => ?_)
    · replace hD := (if_pos c4).symm.trans hD
      refine lv_bipush (v := (-2 : Int32)) C.1 C.2.1 dX10_light_26 (by decide) ?_
      obtain rfl := Option.some.inj hD
      exact x_iret C hw hr hk dX10_light_28
    · replace hD := (if_neg c4).symm.trans hD
      refine lv_aload_n C.1 C.2.1 dX10_light_17 rfl (lv_at hl 0 rfl) ?_
      refine lv_iload_n C.1 C.2.1 dX10_light_18 rfl (lv_at hl 1 rfl) ?_
      refine lv_iload_n C.1 C.2.1 dX10_light_19 rfl (lv_at hl 2 rfl) ?_
      obtain ⟨q5, hq5, hD⟩ := Option.bind_eq_some_iff.mp hD
      refine x_goi hw (x_runV (As := [.int (x1), .int (x2)]) (rest := []) (k := 17) (j := 0) C hw (Nat.le_of_ble_eq_true rfl) rfl rfl cV_X10_lightAt kw_671 (c_X10_lightAt l X ex x1 x2  q3.2 q5 hq5) ⟨Nat.le_of_ble_eq_true rfl, Nat.le_of_ble_eq_true rfl⟩ rfl hl.1 rfl (Nat.le_of_ble_eq_true rfl) dX10_light_20 ⟨Nat.le_of_ble_eq_true rfl, Nat.le_of_ble_eq_true rfl⟩) (fun H locs hw => ?_)
      refine lv_goto (tgt := 28) C.1 C.2.1 dX10_light_23 (by decide) ?_
      obtain rfl := Option.some.inj hD
      exact x_iret C hw hr hk dX10_light_28
  · replace hD := (if_neg c2).symm.trans hD
    refine lv_iconst (v := (-1 : Int32)) C.1 C.2.1 dX10_light_8 (by decide) ?_
    obtain rfl := Option.some.inj hD
    exact x_iret C hw hr hk dX10_light_9
abbrev rm_X10_doGoatsCome : Room := { frames := 4, cells := 0, slots := 0, locals := 92 }
def B_X10_doGoatsCome_5 (x1 : Int32) (x2 : Int32) (k5_ : Int32 → Int32 → XS → Option (Int32 × XS)) (y3 : Int32) (y4 : Int32) (z : XS) : Option (Int32 × XS) :=
  (if x1 ≤ y4 then gd (isZ y3) (some (y3, z)) else (if y3 = 0 then gd (isZ y3) (some (y3, z)) else (D_X10_heightAt y4 x2 z).bind fun q5 => ((if (36 : Int32) ≤ q5.1 then k5_ (0 : Int32) (y4 + 1) q5.2 else k5_ (1 : Int32) (y4 + 1) q5.2))))
def L_X10_doGoatsCome_5 (x1 : Int32) (x2 : Int32) : Nat → Int32 → Int32 → XS → Option (Int32 × XS)
  | 0 => fun _ _ _ => none
  | n + 1 => B_X10_doGoatsCome_5 x1 x2  (L_X10_doGoatsCome_5 x1 x2  n)
set_option maxHeartbeats 4000000 in
set_option maxRecDepth 100000 in
theorem w_X10_doGoatsCome_5 {p : Program} {l : Launch} {e : Env} {s : State} {m : MethodId} {below : List Frame} {meth : Method} {c : Code} {X : XC} {ex : va_W} (x1 : Int32) (x2 : Int32) (C : CallFix p m c cX10_doGoatsCome 5 s (([.ref (X.2.2.1 17 (0)), .int (x1), .int (x2)] : List Value).toArray) gtbl RX10) (hr : meth.sig.returnType = (some .boolean)) (hk : meth.locks = false) (R0 : Int32 × XS)  : ∀ (n : Nat), ∀ (y3 : Int32) (y4 : Int32) (z : XS), L_X10_doGoatsCome_5 x1 x2  n y3 y4 z = some R0 → ∀ (H : Heap) (locs : List Loc), xw X ex z s H locs → ∀ (ls : Array Slot), lv_has ls 5 [(0, .ref (X.2.2.1 17 (0))), (1, .int (x1)), (2, .int (x2)), (3, .int (y3)), (4, .int (y4))] → W p l e rm_X10_doGoatsCome s m (([.ref (X.2.2.1 17 (0)), .int (x1), .int (x2)] : List Value).toArray) below meth c H locs 0 0 (MQ below (xQi X ex R0.2 R0.1) (([.ref (X.2.2.1 17 (0)), .int (x1), .int (x2)] : List Value).toArray) s 0 0 (xA X)) (F0 m 5 ls []) := by
  intro n
  induction n with
  | zero =>
    intro y3 y4 z  hD
    cases hD
  | succ n ih =>
    intro y3 y4 z  hD H locs hw ls hl
    replace hD : B_X10_doGoatsCome_5 x1 x2  (L_X10_doGoatsCome_5 x1 x2  n) y3 y4 z = some R0 := hD
    unfold B_X10_doGoatsCome_5 at hD
    refine lv_iload C.1 C.2.1 dX10_doGoatsCome_5 (lv_at hl 4 rfl) ?_
    refine lv_iload_n C.1 C.2.1 dX10_doGoatsCome_7 rfl (lv_at hl 1 rfl) ?_
    refine lv_icmp_ge (tgt := 39) C.1 C.2.1 dX10_doGoatsCome_8 (by decide) (fun c1 => ?_) (fun c1 => ?_)
    · replace hD := (if_pos c1).symm.trans hD
      refine lv_iload_n C.1 C.2.1 dX10_doGoatsCome_39 rfl (lv_at hl 3 rfl) ?_
      obtain ⟨g2, hD⟩ := gd_some hD
      obtain rfl := Option.some.inj hD
      exact x_zret (v := y3) C hw hr hk (isZ_n g2) dX10_doGoatsCome_40
    · replace hD := (if_neg c1).symm.trans hD
      refine lv_iload_n C.1 C.2.1 dX10_doGoatsCome_11 rfl (lv_at hl 3 rfl) ?_
      refine lv_if_eq (tgt := 39) C.1 C.2.1 dX10_doGoatsCome_12 (by decide) (fun c3 => ?_) (fun c3 => ?_)
      · replace hD := (if_pos c3).symm.trans hD
        refine lv_iload_n C.1 C.2.1 dX10_doGoatsCome_39 rfl (lv_at hl 3 rfl) ?_
        obtain ⟨g4, hD⟩ := gd_some hD
        obtain rfl := Option.some.inj hD
        exact x_zret (v := y3) C hw hr hk (isZ_n g4) dX10_doGoatsCome_40
      · replace hD := (if_neg c3).symm.trans hD
        refine lv_aload_n C.1 C.2.1 dX10_doGoatsCome_15 rfl (lv_at hl 0 rfl) ?_
        refine lv_iload C.1 C.2.1 dX10_doGoatsCome_16 (lv_at hl 4 rfl) ?_
        refine lv_iload_n C.1 C.2.1 dX10_doGoatsCome_18 rfl (lv_at hl 2 rfl) ?_
        obtain ⟨q5, hq5, hD⟩ := Option.bind_eq_some_iff.mp hD
        refine x_goi hw (x_runV (As := [.int (y4), .int (x2)]) (rest := []) (k := 17) (j := 0) C hw (Nat.le_of_ble_eq_true rfl) rfl rfl cV_X10_heightAt kw_665 (c_X10_heightAt l X ex y4 x2  z q5 hq5) ⟨Nat.le_of_ble_eq_true rfl, Nat.le_of_ble_eq_true rfl⟩ rfl hl.1 rfl (Nat.le_of_ble_eq_true rfl) dX10_doGoatsCome_19 ⟨Nat.le_of_ble_eq_true rfl, Nat.le_of_ble_eq_true rfl⟩) (fun H locs hw => ?_)
        refine lv_bipush (v := (36 : Int32)) C.1 C.2.1 dX10_doGoatsCome_22 (by decide) ?_
        refine lv_icmp_ge (tgt := 31) C.1 C.2.1 dX10_doGoatsCome_24 (by decide) (fun c6 => ?_) (fun c6 => ?_)
        · replace hD := (if_pos c6).symm.trans hD
          refine lv_iconst (v := (0 : Int32)) C.1 C.2.1 dX10_doGoatsCome_31 (by decide) ?_
          refine lv_istore_n (lv' := [(3, .int ((0 : Int32))), (0, .ref (X.2.2.1 17 (0))), (1, .int (x1)), (2, .int (x2)), (4, .int (y4))]) C.1 C.2.1 dX10_doGoatsCome_32 rfl hl (by decide) rfl (fun ls hl => ?_)
          refine lv_iinc (v := y4 + 1) (lv' := [(4, .int (y4 + 1)), (3, .int ((0 : Int32))), (0, .ref (X.2.2.1 17 (0))), (1, .int (x1)), (2, .int (x2))]) C.1 C.2.1 dX10_doGoatsCome_33 hl (k := 4) rfl rfl (by decide) rfl (fun ls hl => ?_)
          refine lv_goto (tgt := 5) C.1 C.2.1 dX10_doGoatsCome_36 (by decide) ?_
          exact ih (0 : Int32) (y4 + 1) q5.2  hD _ _ hw _ (lv_sub hl [2, 3, 4, 1, 0] rfl)
        · replace hD := (if_neg c6).symm.trans hD
          refine lv_iconst (v := (1 : Int32)) C.1 C.2.1 dX10_doGoatsCome_27 (by decide) ?_
          refine lv_goto (tgt := 32) C.1 C.2.1 dX10_doGoatsCome_28 (by decide) ?_
          refine lv_istore_n (lv' := [(3, .int ((1 : Int32))), (0, .ref (X.2.2.1 17 (0))), (1, .int (x1)), (2, .int (x2)), (4, .int (y4))]) C.1 C.2.1 dX10_doGoatsCome_32 rfl hl (by decide) rfl (fun ls hl => ?_)
          refine lv_iinc (v := y4 + 1) (lv' := [(4, .int (y4 + 1)), (3, .int ((1 : Int32))), (0, .ref (X.2.2.1 17 (0))), (1, .int (x1)), (2, .int (x2))]) C.1 C.2.1 dX10_doGoatsCome_33 hl (k := 4) rfl rfl (by decide) rfl (fun ls hl => ?_)
          refine lv_goto (tgt := 5) C.1 C.2.1 dX10_doGoatsCome_36 (by decide) ?_
          exact ih (1 : Int32) (y4 + 1) q5.2  hD _ _ hw _ (lv_sub hl [2, 3, 4, 1, 0] rfl)
def D_X10_doGoatsCome (x1 : Int32) (x2 : Int32) (z : XS) : Option (Int32 × XS) :=
  L_X10_doGoatsCome_5 x1 x2  64 (1 : Int32) (0 : Int32) z
set_option maxHeartbeats 4000000 in
set_option maxRecDepth 100000 in
theorem c_X10_doGoatsCome (l : Launch) (X : XC) (ex : va_W) (x1 : Int32) (x2 : Int32) (z : XS) (R0 : Int32 × XS) (hD : D_X10_doGoatsCome x1 x2 z = some R0) : xM l X ex yX10_doGoatsCome cX10_doGoatsCome 5 (some .boolean) rm_X10_doGoatsCome [.ref (X.2.2.1 17 (0)), .int (x1), .int (x2)] z (xQi X ex R0.2 R0.1) := by
  refine x_ent (by decide) (Nat.le_of_ble_eq_true rfl) ?_
  intro p e s m below meth c ls C hr hk hw hl
  replace hl : lv_has ls 5 [(0, .ref (X.2.2.1 17 (0))), (1, .int (x1)), (2, .int (x2))] := hl
  unfold D_X10_doGoatsCome at hD
  refine lv_iconst (v := (1 : Int32)) C.1 C.2.1 dX10_doGoatsCome_0 (by decide) ?_
  refine lv_istore_n (lv' := [(3, .int ((1 : Int32))), (0, .ref (X.2.2.1 17 (0))), (1, .int (x1)), (2, .int (x2))]) C.1 C.2.1 dX10_doGoatsCome_1 rfl hl (by decide) rfl (fun ls hl => ?_)
  refine lv_iconst (v := (0 : Int32)) C.1 C.2.1 dX10_doGoatsCome_2 (by decide) ?_
  refine lv_istore (lv' := [(4, .int ((0 : Int32))), (3, .int ((1 : Int32))), (0, .ref (X.2.2.1 17 (0))), (1, .int (x1)), (2, .int (x2))]) C.1 C.2.1 dX10_doGoatsCome_3 hl (by decide) rfl (fun ls hl => ?_)
  exact w_X10_doGoatsCome_5 x1 x2  C hr hk R0   64 (1 : Int32) (0 : Int32) z  hD _ _ hw _ (lv_sub hl [2, 3, 4, 1, 0] rfl)
theorem kw_672 : Cond.code yX10_doGoatsCome cX10_doGoatsCome 5 (some .boolean) ∈ gtbl := gm4 91 rfl rfl
theorem nd_X10_doGoatsCome : (yX10_doGoatsCome).cls ≠ "java/lang/invoke/MethodHandle" ∧ (yX10_doGoatsCome).cls ≠ "java/lang/invoke/VarHandle" ∧ (parseMethodDescriptor (yX10_doGoatsCome).desc).map (fun d => d.parameters.length) = some 2 := by decide +kernel
theorem kw_674 : Cond.instanceMethod yX10_doGoatsCome ∈ gtbl := gm4 90 rfl rfl
theorem kw_675 : Cond.selects RX10 yX10_doGoatsCome yX10_doGoatsCome ∈ gtbl := gm0 19 rfl rfl
theorem cV_X10_doGoatsCome : xcV yX10_doGoatsCome cX10_doGoatsCome 5 (some .boolean) 2 := ⟨⟨kw_672, kw_490, nd_X10_doGoatsCome⟩, kw_674, kw_675⟩
theorem kw_677 : Cond.methodLink RX10 180 yX10_doGoatsCome ∈ gtbl := gm4 88 rfl rfl
abbrev rm_X10_goats : Room := { frames := 5, cells := 0, slots := 0, locals := 116 }
def B_X10_goats_24 (x1 : Int32) (k24_ : Int32 → Int32 → XS → Option (Int32 × XS)) (y2 : Int32) (y3 : Int32) (z : XS) : Option (Int32 × XS) :=
  (if gS z 17 1 0 ≤ y3 then some (y2, z) else (D_X10_doGoatsCome y3 x1 z).bind fun q5 => ((if q5.1 = 0 then k24_ (y2 ||| (0 : Int32)) (y3 + 1) q5.2 else k24_ (y2 ||| ((1 : Int32) <<< (y3 &&& 31))) (y3 + 1) q5.2)))
def L_X10_goats_24 (x1 : Int32) : Nat → Int32 → Int32 → XS → Option (Int32 × XS)
  | 0 => fun _ _ _ => none
  | n + 1 => B_X10_goats_24 x1  (L_X10_goats_24 x1  n)
set_option maxHeartbeats 4000000 in
set_option maxRecDepth 100000 in
theorem w_X10_goats_24 {p : Program} {l : Launch} {e : Env} {s : State} {m : MethodId} {below : List Frame} {meth : Method} {c : Code} {X : XC} {ex : va_W} (x1 : Int32) (C : CallFix p m c cX10_goats 4 s (([.ref (X.2.2.1 17 (0)), .int (x1)] : List Value).toArray) gtbl RX10) (hr : meth.sig.returnType = (some .int)) (hk : meth.locks = false) (R0 : Int32 × XS)  : ∀ (n : Nat), ∀ (y2 : Int32) (y3 : Int32) (z : XS), L_X10_goats_24 x1  n y2 y3 z = some R0 → ∀ (H : Heap) (locs : List Loc), xw X ex z s H locs → ∀ (ls : Array Slot), lv_has ls 4 [(0, .ref (X.2.2.1 17 (0))), (1, .int (x1)), (2, .int (y2)), (3, .int (y3))] → W p l e rm_X10_goats s m (([.ref (X.2.2.1 17 (0)), .int (x1)] : List Value).toArray) below meth c H locs 0 0 (MQ below (xQi X ex R0.2 R0.1) (([.ref (X.2.2.1 17 (0)), .int (x1)] : List Value).toArray) s 0 0 (xA X)) (F0 m 24 ls []) := by
  intro n
  induction n with
  | zero =>
    intro y2 y3 z  hD
    cases hD
  | succ n ih =>
    intro y2 y3 z  hD H locs hw ls hl
    replace hD : B_X10_goats_24 x1  (L_X10_goats_24 x1  n) y2 y3 z = some R0 := hD
    unfold B_X10_goats_24 at hD
    refine lv_iload_n C.1 C.2.1 dX10_goats_24 rfl (lv_at hl 3 rfl) ?_
    refine lv_aload_n C.1 C.2.1 dX10_goats_25 rfl (lv_at hl 0 rfl) ?_
    refine gf_X10_1 C hw kw_495 dX10_goats_26 ?_
    refine lv_icmp_ge (tgt := 57) C.1 C.2.1 dX10_goats_29 (by decide) (fun c4 => ?_) (fun c4 => ?_)
    · replace hD := (if_pos c4).symm.trans hD
      refine lv_iload_n C.1 C.2.1 dX10_goats_57 rfl (lv_at hl 2 rfl) ?_
      obtain rfl := Option.some.inj hD
      exact x_iret C hw hr hk dX10_goats_58
    · replace hD := (if_neg c4).symm.trans hD
      refine lv_iload_n C.1 C.2.1 dX10_goats_32 rfl (lv_at hl 2 rfl) ?_
      refine lv_aload_n C.1 C.2.1 dX10_goats_33 rfl (lv_at hl 0 rfl) ?_
      refine lv_iload_n C.1 C.2.1 dX10_goats_34 rfl (lv_at hl 3 rfl) ?_
      refine lv_iload_n C.1 C.2.1 dX10_goats_35 rfl (lv_at hl 1 rfl) ?_
      obtain ⟨q5, hq5, hD⟩ := Option.bind_eq_some_iff.mp hD
      refine x_goi hw (x_runV (As := [.int (y3), .int (x1)]) (rest := [.int (y2)]) (k := 17) (j := 0) C hw (Nat.le_of_ble_eq_true rfl) rfl rfl cV_X10_doGoatsCome kw_677 (c_X10_doGoatsCome l X ex y3 x1  z q5 hq5) ⟨Nat.le_of_ble_eq_true rfl, Nat.le_of_ble_eq_true rfl⟩ rfl hl.1 rfl (Nat.le_of_ble_eq_true rfl) dX10_goats_36 ⟨Nat.le_of_ble_eq_true rfl, Nat.le_of_ble_eq_true rfl⟩) (fun H locs hw => ?_)
      refine lv_if_eq (tgt := 48) C.1 C.2.1 dX10_goats_39 (by decide) (fun c6 => ?_) (fun c6 => ?_)
      · replace hD := (if_pos c6).symm.trans hD
        refine lv_iconst (v := (0 : Int32)) C.1 C.2.1 dX10_goats_48 (by decide) ?_
        refine lv_ior C.1 C.2.1 dX10_goats_49 ?_
        refine lv_istore_n (lv' := [(2, .int (y2 ||| (0 : Int32))), (0, .ref (X.2.2.1 17 (0))), (1, .int (x1)), (3, .int (y3))]) C.1 C.2.1 dX10_goats_50 rfl hl (by decide) rfl (fun ls hl => ?_)
        refine lv_iinc (v := y3 + 1) (lv' := [(3, .int (y3 + 1)), (2, .int (y2 ||| (0 : Int32))), (0, .ref (X.2.2.1 17 (0))), (1, .int (x1))]) C.1 C.2.1 dX10_goats_51 hl (k := 3) rfl rfl (by decide) rfl (fun ls hl => ?_)
        refine lv_goto (tgt := 24) C.1 C.2.1 dX10_goats_54 (by decide) ?_
        exact ih (y2 ||| (0 : Int32)) (y3 + 1) q5.2  hD _ _ hw _ (lv_sub hl [2, 3, 1, 0] rfl)
      · replace hD := (if_neg c6).symm.trans hD
        refine lv_iconst (v := (1 : Int32)) C.1 C.2.1 dX10_goats_42 (by decide) ?_
        refine lv_iload_n C.1 C.2.1 dX10_goats_43 rfl (lv_at hl 3 rfl) ?_
        refine lv_ishl C.1 C.2.1 dX10_goats_44 ?_
        refine lv_goto (tgt := 49) C.1 C.2.1 dX10_goats_45 (by decide) ?_
        refine lv_ior C.1 C.2.1 dX10_goats_49 ?_
        refine lv_istore_n (lv' := [(2, .int (y2 ||| ((1 : Int32) <<< (y3 &&& 31)))), (0, .ref (X.2.2.1 17 (0))), (1, .int (x1)), (3, .int (y3))]) C.1 C.2.1 dX10_goats_50 rfl hl (by decide) rfl (fun ls hl => ?_)
        refine lv_iinc (v := y3 + 1) (lv' := [(3, .int (y3 + 1)), (2, .int (y2 ||| ((1 : Int32) <<< (y3 &&& 31)))), (0, .ref (X.2.2.1 17 (0))), (1, .int (x1))]) C.1 C.2.1 dX10_goats_51 hl (k := 3) rfl rfl (by decide) rfl (fun ls hl => ?_)
        refine lv_goto (tgt := 24) C.1 C.2.1 dX10_goats_54 (by decide) ?_
        exact ih (y2 ||| ((1 : Int32) <<< (y3 &&& 31))) (y3 + 1) q5.2  hD _ _ hw _ (lv_sub hl [2, 3, 1, 0] rfl)
def D_X10_goats (x1 : Int32) (z : XS) : Option (Int32 × XS) :=
  (D_X10_isDawn x1 z).bind fun q1 => ((if q1.1 = 0 then some ((-2 : Int32), q1.2) else (if gS q1.2 17 1 0 = 0 then some ((-3 : Int32), q1.2) else L_X10_goats_24 x1  64 (0 : Int32) (0 : Int32) q1.2)))
set_option maxHeartbeats 4000000 in
set_option maxRecDepth 100000 in
theorem c_X10_goats (l : Launch) (X : XC) (ex : va_W) (x1 : Int32) (z : XS) (R0 : Int32 × XS) (hD : D_X10_goats x1 z = some R0) : xM l X ex yX10_goats cX10_goats 4 (some .int) rm_X10_goats [.ref (X.2.2.1 17 (0)), .int (x1)] z (xQi X ex R0.2 R0.1) := by
  refine x_ent (by decide) (Nat.le_of_ble_eq_true rfl) ?_
  intro p e s m below meth c ls C hr hk hw hl
  replace hl : lv_has ls 4 [(0, .ref (X.2.2.1 17 (0))), (1, .int (x1))] := hl
  unfold D_X10_goats at hD
  refine lv_iload_n C.1 C.2.1 dX10_goats_0 rfl (lv_at hl 1 rfl) ?_
  obtain ⟨q1, hq1, hD⟩ := Option.bind_eq_some_iff.mp hD
  refine x_goi hw (x_runS (As := [.int (x1)]) (rest := []) C hw cS_X10_isDawn kw_653 (c_X10_isDawn l X ex x1  z q1 hq1) ⟨Nat.le_of_ble_eq_true rfl, Nat.le_of_ble_eq_true rfl⟩ rfl hl.1 rfl (Nat.le_of_ble_eq_true rfl) dX10_goats_1 ⟨Nat.le_of_ble_eq_true rfl, Nat.le_of_ble_eq_true rfl⟩) (fun H locs hw => ?_)
  refine lv_if_ne (tgt := 10) C.1 C.2.1 dX10_goats_4 (by decide) (fun c2 => ?_) (fun c2 => ?_)
  · replace hD := (if_neg c2).symm.trans hD
    refine lv_aload_n C.1 C.2.1 dX10_goats_10 rfl (lv_at hl 0 rfl) ?_
    refine gf_X10_1 C hw kw_495 dX10_goats_11 ?_
    refine lv_if_ne (tgt := 20) C.1 C.2.1 dX10_goats_14 (by decide) (fun c3 => ?_) (fun c3 => ?_)
    · replace hD := (if_neg c3).symm.trans hD
      refine lv_iconst (v := (0 : Int32)) C.1 C.2.1 dX10_goats_20 (by decide) ?_
      refine lv_istore_n (lv' := [(2, .int ((0 : Int32))), (0, .ref (X.2.2.1 17 (0))), (1, .int (x1))]) C.1 C.2.1 dX10_goats_21 rfl hl (by decide) rfl (fun ls hl => ?_)
      refine lv_iconst (v := (0 : Int32)) C.1 C.2.1 dX10_goats_22 (by decide) ?_
      refine lv_istore_n (lv' := [(3, .int ((0 : Int32))), (2, .int ((0 : Int32))), (0, .ref (X.2.2.1 17 (0))), (1, .int (x1))]) C.1 C.2.1 dX10_goats_23 rfl hl (by decide) rfl (fun ls hl => ?_)
      exact w_X10_goats_24 x1  C hr hk R0   64 (0 : Int32) (0 : Int32) q1.2  hD _ _ hw _ (lv_sub hl [2, 3, 1, 0] rfl)
    · replace hD := (if_pos c3).symm.trans hD
      refine lv_bipush (v := (-3 : Int32)) C.1 C.2.1 dX10_goats_17 (by decide) ?_
      obtain rfl := Option.some.inj hD
      exact x_iret C hw hr hk dX10_goats_19
  · replace hD := (if_pos c2).symm.trans hD
    refine lv_bipush (v := (-2 : Int32)) C.1 C.2.1 dX10_goats_7 (by decide) ?_
    obtain rfl := Option.some.inj hD
    exact x_iret C hw hr hk dX10_goats_9
abbrev rm_X10_offAt : Room := { frames := 5, cells := 0, slots := 0, locals := 117 }
def J_X10_offAt_20 (x1 : Int32) (x2 : Int32) (t0 : Int32) (z : XS) : Option (Int32 × XS) :=
  (D_X10_doGoatsCome x1 x2 z).bind fun q4 => ((if q4.1 = 0 then some (t0 + (1 : Int32), q4.2) else some (t0, q4.2)))
set_option maxHeartbeats 4000000 in
set_option maxRecDepth 100000 in
theorem w_X10_offAt_20 {p : Program} {l : Launch} {e : Env} {s : State} {m : MethodId} {below : List Frame} {meth : Method} {c : Code} {X : XC} {ex : va_W} (x1 : Int32) (x2 : Int32) (C : CallFix p m c cX10_offAt 4 s (([.ref (X.2.2.1 17 (0)), .int (x1), .int (x2)] : List Value).toArray) gtbl RX10) (hr : meth.sig.returnType = (some .int)) (hk : meth.locks = false) (R0 : Int32 × XS)  : ∀ (t0 : Int32) (z : XS), J_X10_offAt_20 x1 x2  t0 z = some R0 → ∀ (H : Heap) (locs : List Loc), xw X ex z s H locs → ∀ (ls : Array Slot), lv_has ls 4 [(0, .ref (X.2.2.1 17 (0))), (1, .int (x1)), (2, .int (x2))] → W p l e rm_X10_offAt s m (([.ref (X.2.2.1 17 (0)), .int (x1), .int (x2)] : List Value).toArray) below meth c H locs 0 0 (MQ below (xQi X ex R0.2 R0.1) (([.ref (X.2.2.1 17 (0)), .int (x1), .int (x2)] : List Value).toArray) s 0 0 (xA X)) (F0 m 20 ls [.int (t0)]) := by
  intro t0 z  hD H locs hw ls hl
  unfold J_X10_offAt_20 at hD
  refine lv_istore_n (lv' := [(3, .int (t0)), (0, .ref (X.2.2.1 17 (0))), (1, .int (x1)), (2, .int (x2))]) C.1 C.2.1 dX10_offAt_20 rfl hl (by decide) rfl (fun ls hl => ?_)
  refine lv_aload_n C.1 C.2.1 dX10_offAt_21 rfl (lv_at hl 1 rfl) ?_
  refine lv_iload_n C.1 C.2.1 dX10_offAt_22 rfl (lv_at hl 2 rfl) ?_
  refine lv_iload_n C.1 C.2.1 dX10_offAt_23 rfl (lv_at hl 3 rfl) ?_
  obtain ⟨q4, hq4, hD⟩ := Option.bind_eq_some_iff.mp hD
  refine x_goi hw (x_runV (As := [.int (x1), .int (x2)]) (rest := []) (k := 17) (j := 0) C hw (Nat.le_of_ble_eq_true rfl) rfl rfl cV_X10_doGoatsCome kw_677 (c_X10_doGoatsCome l X ex x1 x2  z q4 hq4) ⟨Nat.le_of_ble_eq_true rfl, Nat.le_of_ble_eq_true rfl⟩ rfl hl.1 rfl (Nat.le_of_ble_eq_true rfl) dX10_offAt_24 ⟨Nat.le_of_ble_eq_true rfl, Nat.le_of_ble_eq_true rfl⟩) (fun H locs hw => ?_)
  refine lv_if_eq (tgt := 34) C.1 C.2.1 dX10_offAt_27 (by decide) (fun c5 => ?_) (fun c5 => ?_)
  · replace hD := (if_pos c5).symm.trans hD
    refine lv_iload_n C.1 C.2.1 dX10_offAt_34 rfl (lv_at hl 0 rfl) ?_
    refine lv_iconst (v := (1 : Int32)) C.1 C.2.1 dX10_offAt_35 (by decide) ?_
    refine lv_iadd C.1 C.2.1 dX10_offAt_36 ?_
    obtain rfl := Option.some.inj hD
    exact x_iret C hw hr hk dX10_offAt_37
  · replace hD := (if_neg c5).symm.trans hD
    refine lv_iload_n C.1 C.2.1 dX10_offAt_30 rfl (lv_at hl 0 rfl) ?_
    refine lv_goto (tgt := 37) C.1 C.2.1 dX10_offAt_31 (by decide) ?_
    obtain rfl := Option.some.inj hD
    exact x_iret C hw hr hk dX10_offAt_37
def D_X10_offAt (x1 : Int32) (x2 : Int32) (z : XS) : Option (Int32 × XS) :=
  (D_X10_lightAt x1 x2 z).bind fun q1 => (gd (inB x1 7) ((if q1.1 < gA q1.2 18 0 x1.toNatClampNeg then J_X10_offAt_20 x1 x2  (0 : Int32) q1.2 else J_X10_offAt_20 x1 x2  (1 : Int32) q1.2)))
set_option maxHeartbeats 4000000 in
set_option maxRecDepth 100000 in
theorem c_X10_offAt (l : Launch) (X : XC) (ex : va_W) (x1 : Int32) (x2 : Int32) (z : XS) (R0 : Int32 × XS) (hD : D_X10_offAt x1 x2 z = some R0) : xM l X ex yX10_offAt cX10_offAt 4 (some .int) rm_X10_offAt [.ref (X.2.2.1 17 (0)), .int (x1), .int (x2)] z (xQi X ex R0.2 R0.1) := by
  refine x_ent (by decide) (Nat.le_of_ble_eq_true rfl) ?_
  intro p e s m below meth c ls C hr hk hw hl
  replace hl : lv_has ls 4 [(0, .ref (X.2.2.1 17 (0))), (1, .int (x1)), (2, .int (x2))] := hl
  unfold D_X10_offAt at hD
  refine lv_aload_n C.1 C.2.1 dX10_offAt_0 rfl (lv_at hl 0 rfl) ?_
  refine lv_iload_n C.1 C.2.1 dX10_offAt_1 rfl (lv_at hl 1 rfl) ?_
  refine lv_iload_n C.1 C.2.1 dX10_offAt_2 rfl (lv_at hl 2 rfl) ?_
  obtain ⟨q1, hq1, hD⟩ := Option.bind_eq_some_iff.mp hD
  refine x_goi hw (x_runV (As := [.int (x1), .int (x2)]) (rest := []) (k := 17) (j := 0) C hw (Nat.le_of_ble_eq_true rfl) rfl rfl cV_X10_lightAt kw_671 (c_X10_lightAt l X ex x1 x2  z q1 hq1) ⟨Nat.le_of_ble_eq_true rfl, Nat.le_of_ble_eq_true rfl⟩ rfl hl.1 rfl (Nat.le_of_ble_eq_true rfl) dX10_offAt_3 ⟨Nat.le_of_ble_eq_true rfl, Nat.le_of_ble_eq_true rfl⟩) (fun H locs hw => ?_)
  refine lv_aload_n C.1 C.2.1 dX10_offAt_6 rfl (lv_at hl 0 rfl) ?_
  refine gf_X10_2 C hw kw_581 dX10_offAt_7 ?_
  refine lv_iload_n C.1 C.2.1 dX10_offAt_10 rfl (lv_at hl 1 rfl) ?_
  obtain ⟨g2, hD⟩ := gd_some hD
  refine x_iald (k := 18) (j := 0) C hw rfl (Nat.le_of_ble_eq_true rfl) (inB_in g2) dX10_offAt_11 ?_
  refine lv_icmp_lt (tgt := 19) C.1 C.2.1 dX10_offAt_12 (by decide) (fun c3 => ?_) (fun c3 => ?_)
  · replace hD := (if_pos c3).symm.trans hD
    refine lv_iconst (v := (0 : Int32)) C.1 C.2.1 dX10_offAt_19 (by decide) ?_
    exact w_X10_offAt_20 x1 x2  C hr hk R0   (0 : Int32) q1.2  hD _ _ hw _ (lv_sub hl [0, 1, 2] rfl)
  · replace hD := (if_neg c3).symm.trans hD
    refine lv_iconst (v := (1 : Int32)) C.1 C.2.1 dX10_offAt_15 (by decide) ?_
    refine lv_goto (tgt := 20) C.1 C.2.1 dX10_offAt_16 (by decide) ?_
    exact w_X10_offAt_20 x1 x2  C hr hk R0   (1 : Int32) q1.2  hD _ _ hw _ (lv_sub hl [0, 1, 2] rfl)
