theorem kw_497 : Cond.code yX10_in cX10_in 6 (some .boolean) ∈ gtbl := gm3 208 rfl rfl
theorem nd_X10_in : (yX10_in).cls ≠ "java/lang/invoke/MethodHandle" ∧ (yX10_in).cls ≠ "java/lang/invoke/VarHandle" ∧ (parseMethodDescriptor (yX10_in).desc).map (fun d => d.parameters.length) = some 3 := by decide +kernel
theorem kw_499 : Cond.static yX10_in ∈ gtbl := gm3 207 rfl rfl
theorem cS_X10_in : xcS yX10_in cX10_in 6 (some .boolean) 3 := ⟨⟨kw_497, kw_490, nd_X10_in⟩, kw_499⟩
theorem kw_501 : Cond.methodLink RX10 74 yX10_in ∈ gtbl := gm3 206 rfl rfl
abbrev rm_X10_noGarden : Room := { frames := 1, cells := 0, slots := 0, locals := 25 }
def D_X10_noGarden (x1 : Int32) (z : XS) : Option (Int32 × XS) :=
  (D_X10_in x1.toInt64 (0 : Int64) (((gS z 17 1 0).toInt64) - (1 : Int64)) z).bind fun q1 => ((if q1.1 = 0 then some ((1 : Int32), q1.2) else some ((0 : Int32), q1.2)))
set_option maxHeartbeats 4000000 in
set_option maxRecDepth 100000 in
theorem c_X10_noGarden (l : Launch) (X : XC) (ex : va_W) (x1 : Int32) (z : XS) (R0 : Int32 × XS) (hD : D_X10_noGarden x1 z = some R0) : xM l X ex yX10_noGarden cX10_noGarden 2 (some .boolean) rm_X10_noGarden [.ref (X.2.2.1 17 (0)), .int (x1)] z (xQi X ex R0.2 R0.1) := by
  refine x_ent (by decide) (Nat.le_of_ble_eq_true rfl) ?_
  intro p e s m below meth c ls C hr hk hw hl
  replace hl : lv_has ls 2 [(0, .ref (X.2.2.1 17 (0))), (1, .int (x1))] := hl
  unfold D_X10_noGarden at hD
  refine lv_iload_n C.1 C.2.1 dX10_noGarden_0 rfl (lv_at hl 1 rfl) ?_
  refine lv_i2l C.1 C.2.1 dX10_noGarden_1 rfl ?_
  refine lv_lconst (v := (0 : Int64)) C.1 C.2.1 dX10_noGarden_2 (by decide) ?_
  refine lv_aload_n C.1 C.2.1 dX10_noGarden_3 rfl (lv_at hl 0 rfl) ?_
  refine gf_X10_1 C hw kw_495 dX10_noGarden_4 ?_
  refine lv_i2l C.1 C.2.1 dX10_noGarden_7 rfl ?_
  refine lv_lconst (v := (1 : Int64)) C.1 C.2.1 dX10_noGarden_8 (by decide) ?_
  refine lv_lsub C.1 C.2.1 dX10_noGarden_9 ?_
  obtain ⟨q1, hq1, hD⟩ := Option.bind_eq_some_iff.mp hD
  refine x_goi hw (x_runS (As := [.long (x1.toInt64), .long ((0 : Int64)), .long (((gS z 17 1 0).toInt64) - (1 : Int64))]) (rest := []) C hw cS_X10_in kw_501 (c_X10_in l X ex x1.toInt64 (0 : Int64) (((gS z 17 1 0).toInt64) - (1 : Int64))  z q1 hq1) ⟨Nat.le_of_ble_eq_true rfl, Nat.le_of_ble_eq_true rfl⟩ rfl hl.1 rfl (Nat.le_of_ble_eq_true rfl) dX10_noGarden_10 ⟨Nat.le_of_ble_eq_true rfl, Nat.le_of_ble_eq_true rfl⟩) (fun H locs hw => ?_)
  refine lv_if_ne (tgt := 20) C.1 C.2.1 dX10_noGarden_13 (by decide) (fun c2 => ?_) (fun c2 => ?_)
  · replace hD := (if_neg c2).symm.trans hD
    refine lv_iconst (v := (0 : Int32)) C.1 C.2.1 dX10_noGarden_20 (by decide) ?_
    obtain rfl := Option.some.inj hD
    exact x_zret (v := (0 : Int32)) C hw hr hk nb0 dX10_noGarden_21
  · replace hD := (if_pos c2).symm.trans hD
    refine lv_iconst (v := (1 : Int32)) C.1 C.2.1 dX10_noGarden_16 (by decide) ?_
    refine lv_goto (tgt := 21) C.1 C.2.1 dX10_noGarden_17 (by decide) ?_
    obtain rfl := Option.some.inj hD
    exact x_zret (v := (1 : Int32)) C hw hr hk nb1 dX10_noGarden_21
theorem kw_502 : Cond.code yX10_hedges cX10_hedges 1 (some .int) ∈ gtbl := gm4 1 rfl rfl
theorem nd_X10_hedges : (yX10_hedges).cls ≠ "java/lang/invoke/MethodHandle" ∧ (yX10_hedges).cls ≠ "java/lang/invoke/VarHandle" ∧ (parseMethodDescriptor (yX10_hedges).desc).map (fun d => d.parameters.length) = some 0 := by decide +kernel
theorem kw_504 : Cond.instanceMethod yX10_hedges ∈ gtbl := gm4 0 rfl rfl
theorem kw_505 : Cond.selects RX10 yX10_hedges yX10_hedges ∈ gtbl := gm0 13 rfl rfl
theorem cV_X10_hedges : xcV yX10_hedges cX10_hedges 1 (some .int) 0 := ⟨⟨kw_502, kw_490, nd_X10_hedges⟩, kw_504, kw_505⟩
theorem kw_507 : Cond.methodLink RX10 78 yX10_hedges ∈ gtbl := gm3 238 rfl rfl
abbrev rm_X10_noHedge : Room := { frames := 1, cells := 0, slots := 0, locals := 25 }
def D_X10_noHedge (x1 : Int32) (z : XS) : Option (Int32 × XS) :=
  (D_X10_hedges  z).bind fun q1 => ((D_X10_in x1.toInt64 (0 : Int64) (q1.1.toInt64 - (1 : Int64)) q1.2).bind fun q2 => ((if q2.1 = 0 then some ((1 : Int32), q2.2) else some ((0 : Int32), q2.2))))
set_option maxHeartbeats 4000000 in
set_option maxRecDepth 100000 in
theorem c_X10_noHedge (l : Launch) (X : XC) (ex : va_W) (x1 : Int32) (z : XS) (R0 : Int32 × XS) (hD : D_X10_noHedge x1 z = some R0) : xM l X ex yX10_noHedge cX10_noHedge 2 (some .boolean) rm_X10_noHedge [.ref (X.2.2.1 17 (0)), .int (x1)] z (xQi X ex R0.2 R0.1) := by
  refine x_ent (by decide) (Nat.le_of_ble_eq_true rfl) ?_
  intro p e s m below meth c ls C hr hk hw hl
  replace hl : lv_has ls 2 [(0, .ref (X.2.2.1 17 (0))), (1, .int (x1))] := hl
  unfold D_X10_noHedge at hD
  refine lv_iload_n C.1 C.2.1 dX10_noHedge_0 rfl (lv_at hl 1 rfl) ?_
  refine lv_i2l C.1 C.2.1 dX10_noHedge_1 rfl ?_
  refine lv_lconst (v := (0 : Int64)) C.1 C.2.1 dX10_noHedge_2 (by decide) ?_
  refine lv_aload_n C.1 C.2.1 dX10_noHedge_3 rfl (lv_at hl 0 rfl) ?_
  obtain ⟨q1, hq1, hD⟩ := Option.bind_eq_some_iff.mp hD
  refine x_goi hw (x_runV (As := []) (rest := [.long ((0 : Int64)), .long (x1.toInt64)]) (k := 17) (j := 0) C hw (Nat.le_of_ble_eq_true rfl) rfl rfl cV_X10_hedges kw_507 (c_X10_hedges l X ex   z q1 hq1) ⟨Nat.le_of_ble_eq_true rfl, Nat.le_of_ble_eq_true rfl⟩ rfl hl.1 rfl (Nat.le_of_ble_eq_true rfl) dX10_noHedge_4 ⟨Nat.le_of_ble_eq_true rfl, Nat.le_of_ble_eq_true rfl⟩) (fun H locs hw => ?_)
  refine lv_i2l C.1 C.2.1 dX10_noHedge_7 rfl ?_
  refine lv_lconst (v := (1 : Int64)) C.1 C.2.1 dX10_noHedge_8 (by decide) ?_
  refine lv_lsub C.1 C.2.1 dX10_noHedge_9 ?_
  obtain ⟨q2, hq2, hD⟩ := Option.bind_eq_some_iff.mp hD
  refine x_goi hw (x_runS (As := [.long (x1.toInt64), .long ((0 : Int64)), .long (q1.1.toInt64 - (1 : Int64))]) (rest := []) C hw cS_X10_in kw_501 (c_X10_in l X ex x1.toInt64 (0 : Int64) (q1.1.toInt64 - (1 : Int64))  q1.2 q2 hq2) ⟨Nat.le_of_ble_eq_true rfl, Nat.le_of_ble_eq_true rfl⟩ rfl hl.1 rfl (Nat.le_of_ble_eq_true rfl) dX10_noHedge_10 ⟨Nat.le_of_ble_eq_true rfl, Nat.le_of_ble_eq_true rfl⟩) (fun H locs hw => ?_)
  refine lv_if_ne (tgt := 20) C.1 C.2.1 dX10_noHedge_13 (by decide) (fun c3 => ?_) (fun c3 => ?_)
  · replace hD := (if_neg c3).symm.trans hD
    refine lv_iconst (v := (0 : Int32)) C.1 C.2.1 dX10_noHedge_20 (by decide) ?_
    obtain rfl := Option.some.inj hD
    exact x_zret (v := (0 : Int32)) C hw hr hk nb0 dX10_noHedge_21
  · replace hD := (if_pos c3).symm.trans hD
    refine lv_iconst (v := (1 : Int32)) C.1 C.2.1 dX10_noHedge_16 (by decide) ?_
    refine lv_goto (tgt := 21) C.1 C.2.1 dX10_noHedge_17 (by decide) ?_
    obtain rfl := Option.some.inj hD
    exact x_zret (v := (1 : Int32)) C hw hr hk nb1 dX10_noHedge_21
theorem kw_508 : Cond.constantLong RX10 82 (29 : Int64) ∈ gtbl := gm4 28 rfl rfl
abbrev rm_X10_isDay : Room := { frames := 1, cells := 0, slots := 0, locals := 25 }
def D_X10_isDay (x0 : Int32) (z : XS) : Option (Int32 × XS) :=
  (D_X10_in x0.toInt64 (0 : Int64) (29 : Int64) z).bind fun q1 => (gd (isZ q1.1) (some (q1.1, q1.2)))
set_option maxHeartbeats 4000000 in
set_option maxRecDepth 100000 in
theorem c_X10_isDay (l : Launch) (X : XC) (ex : va_W) (x0 : Int32) (z : XS) (R0 : Int32 × XS) (hD : D_X10_isDay x0 z = some R0) : xM l X ex yX10_isDay cX10_isDay 1 (some .boolean) rm_X10_isDay [.int (x0)] z (xQi X ex R0.2 R0.1) := by
  refine x_ent (by decide) (Nat.le_of_ble_eq_true rfl) ?_
  intro p e s m below meth c ls C hr hk hw hl
  replace hl : lv_has ls 1 [(0, .int (x0))] := hl
  unfold D_X10_isDay at hD
  refine lv_iload_n C.1 C.2.1 dX10_isDay_0 rfl (lv_at hl 0 rfl) ?_
  refine lv_i2l C.1 C.2.1 dX10_isDay_1 rfl ?_
  refine lv_lconst (v := (0 : Int64)) C.1 C.2.1 dX10_isDay_2 (by decide) ?_
  refine lv_ldc2 (v := (29 : Int64)) C.1 C.2.1 C.2.2.2.1 (C.2.2.2.2 _ kw_508) dX10_isDay_3 ?_
  obtain ⟨q1, hq1, hD⟩ := Option.bind_eq_some_iff.mp hD
  refine x_goi hw (x_runS (As := [.long (x0.toInt64), .long ((0 : Int64)), .long ((29 : Int64))]) (rest := []) C hw cS_X10_in kw_501 (c_X10_in l X ex x0.toInt64 (0 : Int64) (29 : Int64)  z q1 hq1) ⟨Nat.le_of_ble_eq_true rfl, Nat.le_of_ble_eq_true rfl⟩ rfl hl.1 rfl (Nat.le_of_ble_eq_true rfl) dX10_isDay_6 ⟨Nat.le_of_ble_eq_true rfl, Nat.le_of_ble_eq_true rfl⟩) (fun H locs hw => ?_)
  obtain ⟨g2, hD⟩ := gd_some hD
  obtain rfl := Option.some.inj hD
  exact x_zret (v := q1.1) C hw hr hk (isZ_n g2) dX10_isDay_9
theorem kw_509 : Cond.constantLong RX10 84 (30 : Int64) ∈ gtbl := gm4 51 rfl rfl
abbrev rm_X10_isDawn : Room := { frames := 1, cells := 0, slots := 0, locals := 25 }
def D_X10_isDawn (x0 : Int32) (z : XS) : Option (Int32 × XS) :=
  (D_X10_in x0.toInt64 (0 : Int64) (30 : Int64) z).bind fun q1 => (gd (isZ q1.1) (some (q1.1, q1.2)))
set_option maxHeartbeats 4000000 in
set_option maxRecDepth 100000 in
theorem c_X10_isDawn (l : Launch) (X : XC) (ex : va_W) (x0 : Int32) (z : XS) (R0 : Int32 × XS) (hD : D_X10_isDawn x0 z = some R0) : xM l X ex yX10_isDawn cX10_isDawn 1 (some .boolean) rm_X10_isDawn [.int (x0)] z (xQi X ex R0.2 R0.1) := by
  refine x_ent (by decide) (Nat.le_of_ble_eq_true rfl) ?_
  intro p e s m below meth c ls C hr hk hw hl
  replace hl : lv_has ls 1 [(0, .int (x0))] := hl
  unfold D_X10_isDawn at hD
  refine lv_iload_n C.1 C.2.1 dX10_isDawn_0 rfl (lv_at hl 0 rfl) ?_
  refine lv_i2l C.1 C.2.1 dX10_isDawn_1 rfl ?_
  refine lv_lconst (v := (0 : Int64)) C.1 C.2.1 dX10_isDawn_2 (by decide) ?_
  refine lv_ldc2 (v := (30 : Int64)) C.1 C.2.1 C.2.2.2.1 (C.2.2.2.2 _ kw_509) dX10_isDawn_3 ?_
  obtain ⟨q1, hq1, hD⟩ := Option.bind_eq_some_iff.mp hD
  refine x_goi hw (x_runS (As := [.long (x0.toInt64), .long ((0 : Int64)), .long ((30 : Int64))]) (rest := []) C hw cS_X10_in kw_501 (c_X10_in l X ex x0.toInt64 (0 : Int64) (30 : Int64)  z q1 hq1) ⟨Nat.le_of_ble_eq_true rfl, Nat.le_of_ble_eq_true rfl⟩ rfl hl.1 rfl (Nat.le_of_ble_eq_true rfl) dX10_isDawn_6 ⟨Nat.le_of_ble_eq_true rfl, Nat.le_of_ble_eq_true rfl⟩) (fun H locs hw => ?_)
  obtain ⟨g2, hD⟩ := gd_some hD
  obtain rfl := Option.some.inj hD
  exact x_zret (v := q1.1) C hw hr hk (isZ_n g2) dX10_isDawn_9
abbrev rm_X10_isSide : Room := { frames := 1, cells := 0, slots := 0, locals := 25 }
def D_X10_isSide (x0 : Int32) (z : XS) : Option (Int32 × XS) :=
  (D_X10_in x0.toInt64 (0 : Int64) (1 : Int64) z).bind fun q1 => (gd (isZ q1.1) (some (q1.1, q1.2)))
set_option maxHeartbeats 4000000 in
set_option maxRecDepth 100000 in
theorem c_X10_isSide (l : Launch) (X : XC) (ex : va_W) (x0 : Int32) (z : XS) (R0 : Int32 × XS) (hD : D_X10_isSide x0 z = some R0) : xM l X ex yX10_isSide cX10_isSide 1 (some .boolean) rm_X10_isSide [.int (x0)] z (xQi X ex R0.2 R0.1) := by
  refine x_ent (by decide) (Nat.le_of_ble_eq_true rfl) ?_
  intro p e s m below meth c ls C hr hk hw hl
  replace hl : lv_has ls 1 [(0, .int (x0))] := hl
  unfold D_X10_isSide at hD
  refine lv_iload_n C.1 C.2.1 dX10_isSide_0 rfl (lv_at hl 0 rfl) ?_
  refine lv_i2l C.1 C.2.1 dX10_isSide_1 rfl ?_
  refine lv_lconst (v := (0 : Int64)) C.1 C.2.1 dX10_isSide_2 (by decide) ?_
  refine lv_lconst (v := (1 : Int64)) C.1 C.2.1 dX10_isSide_3 (by decide) ?_
  obtain ⟨q1, hq1, hD⟩ := Option.bind_eq_some_iff.mp hD
  refine x_goi hw (x_runS (As := [.long (x0.toInt64), .long ((0 : Int64)), .long ((1 : Int64))]) (rest := []) C hw cS_X10_in kw_501 (c_X10_in l X ex x0.toInt64 (0 : Int64) (1 : Int64)  z q1 hq1) ⟨Nat.le_of_ble_eq_true rfl, Nat.le_of_ble_eq_true rfl⟩ rfl hl.1 rfl (Nat.le_of_ble_eq_true rfl) dX10_isSide_4 ⟨Nat.le_of_ble_eq_true rfl, Nat.le_of_ble_eq_true rfl⟩) (fun H locs hw => ?_)
  obtain ⟨g2, hD⟩ := gd_some hD
  obtain rfl := Option.some.inj hD
  exact x_zret (v := q1.1) C hw hr hk (isZ_n g2) dX10_isSide_7
theorem kw_510 : Cond.constantLong RX10 86 (20 : Int64) ∈ gtbl := gm4 43 rfl rfl
abbrev rm_X10_isFeet : Room := { frames := 1, cells := 0, slots := 0, locals := 25 }
def D_X10_isFeet (x0 : Int32) (z : XS) : Option (Int32 × XS) :=
  (D_X10_in x0.toInt64 (0 : Int64) (20 : Int64) z).bind fun q1 => (gd (isZ q1.1) (some (q1.1, q1.2)))
set_option maxHeartbeats 4000000 in
set_option maxRecDepth 100000 in
theorem c_X10_isFeet (l : Launch) (X : XC) (ex : va_W) (x0 : Int32) (z : XS) (R0 : Int32 × XS) (hD : D_X10_isFeet x0 z = some R0) : xM l X ex yX10_isFeet cX10_isFeet 1 (some .boolean) rm_X10_isFeet [.int (x0)] z (xQi X ex R0.2 R0.1) := by
  refine x_ent (by decide) (Nat.le_of_ble_eq_true rfl) ?_
  intro p e s m below meth c ls C hr hk hw hl
  replace hl : lv_has ls 1 [(0, .int (x0))] := hl
  unfold D_X10_isFeet at hD
  refine lv_iload_n C.1 C.2.1 dX10_isFeet_0 rfl (lv_at hl 0 rfl) ?_
  refine lv_i2l C.1 C.2.1 dX10_isFeet_1 rfl ?_
  refine lv_lconst (v := (0 : Int64)) C.1 C.2.1 dX10_isFeet_2 (by decide) ?_
  refine lv_ldc2 (v := (20 : Int64)) C.1 C.2.1 C.2.2.2.1 (C.2.2.2.2 _ kw_510) dX10_isFeet_3 ?_
  obtain ⟨q1, hq1, hD⟩ := Option.bind_eq_some_iff.mp hD
  refine x_goi hw (x_runS (As := [.long (x0.toInt64), .long ((0 : Int64)), .long ((20 : Int64))]) (rest := []) C hw cS_X10_in kw_501 (c_X10_in l X ex x0.toInt64 (0 : Int64) (20 : Int64)  z q1 hq1) ⟨Nat.le_of_ble_eq_true rfl, Nat.le_of_ble_eq_true rfl⟩ rfl hl.1 rfl (Nat.le_of_ble_eq_true rfl) dX10_isFeet_6 ⟨Nat.le_of_ble_eq_true rfl, Nat.le_of_ble_eq_true rfl⟩) (fun H locs hw => ?_)
  obtain ⟨g2, hD⟩ := gd_some hD
  obtain rfl := Option.some.inj hD
  exact x_zret (v := q1.1) C hw hr hk (isZ_n g2) dX10_isFeet_9
theorem kw_511 : Cond.fieldLink RX10 88 (TX10 7).1 (TX10 7).2.1 (TX10 7).2.2.1 ∈ gtbl := gm3 135 rfl rfl
theorem gf_X10_7 {p : Program} {l : Launch} {e : Env} {R : Room} {s : State} {m : MethodId} {args : Array Value} {below : List Frame} {meth : Method} {c : Code} {H : Heap} {locs : List Loc} {cells slots : Nat} {Q : State → Prop} {cc : ByteArray} {pc nL index : Nat} {ls : Array Slot} {rest : List Value} {X : XC} {ex : va_W} {z : XS} {own : String} (C : CallFix p m c cc nL s args gtbl own) (hw : xw X ex z s H locs) (hlink : Cond.fieldLink own index (TX10 7).1 (TX10 7).2.1 (TX10 7).2.2.1 ∈ gtbl) (hdg : decode cc pc = .ok (.getfield index, 3)) (kk : W p l e R s m args below meth c H locs cells slots Q (F0 m (pc + 3) ls (.int (gS z 17 7 0) :: rest))) : W p l e R s m args below meth c H locs cells slots Q (F0 m pc ls (.ref (X.2.2.1 17 0) :: rest)) :=
  x_get (k := 17) (j := 0) C hw (Nat.le_of_ble_eq_true rfl) 7 (v := .int (gS z 17 7 0)) rfl rfl ixX10 (by decide) hlink rfl hdg kk
theorem kw_513 : Cond.fieldLink RX10 55 (TX10 20).1 (TX10 20).2.1 (TX10 20).2.2.1 ∈ gtbl := gm3 148 rfl rfl
theorem gf_X10_20 {p : Program} {l : Launch} {e : Env} {R : Room} {s : State} {m : MethodId} {args : Array Value} {below : List Frame} {meth : Method} {c : Code} {H : Heap} {locs : List Loc} {cells slots : Nat} {Q : State → Prop} {cc : ByteArray} {pc nL index : Nat} {ls : Array Slot} {rest : List Value} {X : XC} {ex : va_W} {z : XS} {own : String} (C : CallFix p m c cc nL s args gtbl own) (hw : xw X ex z s H locs) (hlink : Cond.fieldLink own index (TX10 20).1 (TX10 20).2.1 (TX10 20).2.2.1 ∈ gtbl) (hdg : decode cc pc = .ok (.getfield index, 3)) (kk : W p l e R s m args below meth c H locs cells slots Q (F0 m (pc + 3) ls (.ref (X.2.2.1 18 15) :: rest))) : W p l e R s m args below meth c H locs cells slots Q (F0 m pc ls (.ref (X.2.2.1 17 0) :: rest)) :=
  x_get (k := 17) (j := 0) C hw (Nat.le_of_ble_eq_true rfl) 20 (v := .ref (X.2.2.1 18 15)) rfl rfl ixX10 (by decide) hlink rfl hdg kk
abbrev rm_X10_codeAt : Room := { frames := 0, cells := 0, slots := 0, locals := 0 }
def D_X10_codeAt (x1 : Int32) (x2 : Int32) (z : XS) : Option (Int32 × XS) :=
  (if x2 ≤ gS z 17 7 0 then some ((-9 : Int32), z) else gd (inB (x1 + (gS z 17 7 0)) 240) (some (gA z 18 15 (x1 + (gS z 17 7 0)).toNatClampNeg, z)))
set_option maxHeartbeats 4000000 in
set_option maxRecDepth 100000 in
theorem c_X10_codeAt (l : Launch) (X : XC) (ex : va_W) (x1 : Int32) (x2 : Int32) (z : XS) (R0 : Int32 × XS) (hD : D_X10_codeAt x1 x2 z = some R0) : xM l X ex yX10_codeAt cX10_codeAt 3 (some .int) rm_X10_codeAt [.ref (X.2.2.1 17 (0)), .int (x1), .int (x2)] z (xQi X ex R0.2 R0.1) := by
  refine x_ent (by decide) (Nat.le_of_ble_eq_true rfl) ?_
  intro p e s m below meth c ls C hr hk hw hl
  replace hl : lv_has ls 3 [(0, .ref (X.2.2.1 17 (0))), (1, .int (x1)), (2, .int (x2))] := hl
  unfold D_X10_codeAt at hD
  refine lv_aload_n C.1 C.2.1 dX10_codeAt_0 rfl (lv_at hl 0 rfl) ?_
  refine gf_X10_7 C hw kw_511 dX10_codeAt_1 ?_
  refine lv_iload_n C.1 C.2.1 dX10_codeAt_4 rfl (lv_at hl 2 rfl) ?_
  refine lv_icmp_ge (tgt := 22) C.1 C.2.1 dX10_codeAt_5 (by decide) (fun c1 => ?_) (fun c1 => ?_)
  · replace hD := (if_pos c1).symm.trans hD
    refine lv_bipush (v := (-9 : Int32)) C.1 C.2.1 dX10_codeAt_22 (by decide) ?_
    obtain rfl := Option.some.inj hD
    exact x_iret C hw hr hk dX10_codeAt_24
  · replace hD := (if_neg c1).symm.trans hD
    refine lv_aload_n C.1 C.2.1 dX10_codeAt_8 rfl (lv_at hl 0 rfl) ?_
    refine gf_X10_20 C hw kw_513 dX10_codeAt_9 ?_
    refine lv_iload_n C.1 C.2.1 dX10_codeAt_12 rfl (lv_at hl 1 rfl) ?_
    refine lv_aload_n C.1 C.2.1 dX10_codeAt_13 rfl (lv_at hl 0 rfl) ?_
    refine gf_X10_7 C hw kw_511 dX10_codeAt_14 ?_
    refine lv_iadd C.1 C.2.1 dX10_codeAt_17 ?_
    obtain ⟨g2, hD⟩ := gd_some hD
    refine x_iald (k := 18) (j := 15) C hw rfl (Nat.le_of_ble_eq_true rfl) (inB_in g2) dX10_codeAt_18 ?_
    refine lv_goto (tgt := 24) C.1 C.2.1 dX10_codeAt_19 (by decide) ?_
    obtain rfl := Option.some.inj hD
    exact x_iret C hw hr hk dX10_codeAt_24
theorem kw_515 : Cond.code yX10_codeAt cX10_codeAt 3 (some .int) ∈ gtbl := gm3 228 rfl rfl
theorem nd_X10_codeAt : (yX10_codeAt).cls ≠ "java/lang/invoke/MethodHandle" ∧ (yX10_codeAt).cls ≠ "java/lang/invoke/VarHandle" ∧ (parseMethodDescriptor (yX10_codeAt).desc).map (fun d => d.parameters.length) = some 2 := by decide +kernel
theorem kw_517 : Cond.instanceMethod yX10_codeAt ∈ gtbl := gm3 227 rfl rfl
theorem kw_518 : Cond.selects RX10 yX10_codeAt yX10_codeAt ∈ gtbl := gm0 10 rfl rfl
theorem cV_X10_codeAt : xcV yX10_codeAt cX10_codeAt 3 (some .int) 2 := ⟨⟨kw_515, kw_490, nd_X10_codeAt⟩, kw_517, kw_518⟩
theorem kw_520 : Cond.methodLink RX10 91 yX10_codeAt ∈ gtbl := gm3 225 rfl rfl
theorem kw_521 : Cond.constantLong RX10 95 (9 : Int64) ∈ gtbl := gm3 233 rfl rfl
theorem pf_X10_7 {p : Program} {l : Launch} {e : Env} {R : Room} {s : State} {m : MethodId} {args : Array Value} {below : List Frame} {meth : Method} {c : Code} {H : Heap} {locs : List Loc} {cells slots : Nat} {Q : State → Prop} {cc : ByteArray} {pc nL index : Nat} {ls : Array Slot} {rest : List Value} {X : XC} {ex : va_W} {z : XS} {own : String} (C : CallFix p m c cc nL s args gtbl own) (hw : xw X ex z s H locs) {v : Int32} (hlink : Cond.fieldLink own index (TX10 7).1 (TX10 7).2.1 (TX10 7).2.2.1 ∈ gtbl) (hdg : decode cc pc = .ok (.putfield index, 3)) (kk : ∀ (H1 : Heap) (locs1 : List Loc), xw X ex (pS z 17 7 0 v) s H1 locs1 → W p l e R s m args below meth c H1 locs1 cells slots Q (F0 m (pc + 3) ls rest)) : W p l e R s m args below meth c H locs cells slots Q (F0 m pc ls (.int v :: .ref (X.2.2.1 17 0) :: rest)) :=
  x_put (k := 17) (j := 0) C hw (Nat.le_of_ble_eq_true rfl) 7 (v := v) rfl rfl rfl ixX10 tyX10 tyX10_ok nmX10 (by decide) hlink rfl (by decide +kernel) (Nat.le_of_ble_eq_true rfl) hdg kk
abbrev rm_X10_figure : Room := { frames := 1, cells := 0, slots := 0, locals := 25 }
def J_X10_figure_36 (x1 : Int32) (x2 : Int32) (y3 : Int32) (y4 : Int32) (t0 : Int32) (t1 : Int32) (z : XS) : Option (Int32 × XS) :=
  (some (pS z 17 7 0 (t1 + t0))).bind fun z4 => ((if y4 = 0 then some ((-9 : Int32), z4) else some (y3, z4)))
set_option maxHeartbeats 4000000 in
set_option maxRecDepth 100000 in
theorem w_X10_figure_36 {p : Program} {l : Launch} {e : Env} {s : State} {m : MethodId} {below : List Frame} {meth : Method} {c : Code} {X : XC} {ex : va_W} (x1 : Int32) (x2 : Int32) (C : CallFix p m c cX10_figure 5 s (([.ref (X.2.2.1 17 (0)), .int (x1), .int (x2)] : List Value).toArray) gtbl RX10) (hr : meth.sig.returnType = (some .int)) (hk : meth.locks = false) (R0 : Int32 × XS)  : ∀ (y3 : Int32) (y4 : Int32) (t0 : Int32) (t1 : Int32) (z : XS), J_X10_figure_36 x1 x2  y3 y4 t0 t1 z = some R0 → ∀ (H : Heap) (locs : List Loc), xw X ex z s H locs → ∀ (ls : Array Slot), lv_has ls 5 [(3, .int (y3)), (4, .int (y4))] → W p l e rm_X10_figure s m (([.ref (X.2.2.1 17 (0)), .int (x1), .int (x2)] : List Value).toArray) below meth c H locs 0 0 (MQ below (xQi X ex R0.2 R0.1) (([.ref (X.2.2.1 17 (0)), .int (x1), .int (x2)] : List Value).toArray) s 0 0 (xA X)) (F0 m 36 ls [.int (t0), .int (t1), .ref (X.2.2.1 17 (0))]) := by
  intro y3 y4 t0 t1 z  hD H locs hw ls hl
  unfold J_X10_figure_36 at hD
  refine lv_iadd C.1 C.2.1 dX10_figure_36 ?_
  obtain ⟨z4, hz4, hD⟩ := Option.bind_eq_some_iff.mp hD
  refine pf_X10_7 C hw kw_511 dX10_figure_37 (fun H locs hw => ?_)
  replace hw := xw_eq hz4 hw
  refine lv_iload C.1 C.2.1 dX10_figure_40 (lv_at hl 1 rfl) ?_
  refine lv_if_eq (tgt := 49) C.1 C.2.1 dX10_figure_42 (by decide) (fun c5 => ?_) (fun c5 => ?_)
  · replace hD := (if_pos c5).symm.trans hD
    refine lv_bipush (v := (-9 : Int32)) C.1 C.2.1 dX10_figure_49 (by decide) ?_
    obtain rfl := Option.some.inj hD
    exact x_iret C hw hr hk dX10_figure_51
  · replace hD := (if_neg c5).symm.trans hD
    refine lv_iload_n C.1 C.2.1 dX10_figure_45 rfl (lv_at hl 0 rfl) ?_
    refine lv_goto (tgt := 51) C.1 C.2.1 dX10_figure_46 (by decide) ?_
    obtain rfl := Option.some.inj hD
    exact x_iret C hw hr hk dX10_figure_51
def D_X10_figure (x1 : Int32) (x2 : Int32) (z : XS) : Option (Int32 × XS) :=
  (D_X10_codeAt x1 x2 z).bind fun q1 => ((D_X10_in ((q1.1 - (48 : Int32)).toInt64) (0 : Int64) (9 : Int64) q1.2).bind fun q2 => ((if q2.1 = 0 then J_X10_figure_36 x1 x2  (q1.1 - (48 : Int32)) q2.1 (0 : Int32) (gS q2.2 17 7 0) q2.2 else J_X10_figure_36 x1 x2  (q1.1 - (48 : Int32)) q2.1 (1 : Int32) (gS q2.2 17 7 0) q2.2)))
set_option maxHeartbeats 4000000 in
set_option maxRecDepth 100000 in
theorem c_X10_figure (l : Launch) (X : XC) (ex : va_W) (x1 : Int32) (x2 : Int32) (z : XS) (R0 : Int32 × XS) (hD : D_X10_figure x1 x2 z = some R0) : xM l X ex yX10_figure cX10_figure 5 (some .int) rm_X10_figure [.ref (X.2.2.1 17 (0)), .int (x1), .int (x2)] z (xQi X ex R0.2 R0.1) := by
  refine x_ent (by decide) (Nat.le_of_ble_eq_true rfl) ?_
  intro p e s m below meth c ls C hr hk hw hl
  replace hl : lv_has ls 5 [(0, .ref (X.2.2.1 17 (0))), (1, .int (x1)), (2, .int (x2))] := hl
  unfold D_X10_figure at hD
  refine lv_aload_n C.1 C.2.1 dX10_figure_0 rfl (lv_at hl 0 rfl) ?_
  refine lv_iload_n C.1 C.2.1 dX10_figure_1 rfl (lv_at hl 1 rfl) ?_
  refine lv_iload_n C.1 C.2.1 dX10_figure_2 rfl (lv_at hl 2 rfl) ?_
  obtain ⟨q1, hq1, hD⟩ := Option.bind_eq_some_iff.mp hD
  refine x_goi hw (x_runV (As := [.int (x1), .int (x2)]) (rest := []) (k := 17) (j := 0) C hw (Nat.le_of_ble_eq_true rfl) rfl rfl cV_X10_codeAt kw_520 (c_X10_codeAt l X ex x1 x2  z q1 hq1) ⟨Nat.le_of_ble_eq_true rfl, Nat.le_of_ble_eq_true rfl⟩ rfl hl.1 rfl (Nat.le_of_ble_eq_true rfl) dX10_figure_3 ⟨Nat.le_of_ble_eq_true rfl, Nat.le_of_ble_eq_true rfl⟩) (fun H locs hw => ?_)
  refine lv_bipush (v := (48 : Int32)) C.1 C.2.1 dX10_figure_6 (by decide) ?_
  refine lv_isub C.1 C.2.1 dX10_figure_8 ?_
  refine lv_istore_n (lv' := [(3, .int (q1.1 - (48 : Int32))), (0, .ref (X.2.2.1 17 (0))), (1, .int (x1)), (2, .int (x2))]) C.1 C.2.1 dX10_figure_9 rfl hl (by decide) rfl (fun ls hl => ?_)
  refine lv_iload_n C.1 C.2.1 dX10_figure_10 rfl (lv_at hl 0 rfl) ?_
  refine lv_i2l C.1 C.2.1 dX10_figure_11 rfl ?_
  refine lv_lconst (v := (0 : Int64)) C.1 C.2.1 dX10_figure_12 (by decide) ?_
  refine lv_ldc2 (v := (9 : Int64)) C.1 C.2.1 C.2.2.2.1 (C.2.2.2.2 _ kw_521) dX10_figure_13 ?_
  obtain ⟨q2, hq2, hD⟩ := Option.bind_eq_some_iff.mp hD
  refine x_goi hw (x_runS (As := [.long ((q1.1 - (48 : Int32)).toInt64), .long ((0 : Int64)), .long ((9 : Int64))]) (rest := []) C hw cS_X10_in kw_501 (c_X10_in l X ex ((q1.1 - (48 : Int32)).toInt64) (0 : Int64) (9 : Int64)  q1.2 q2 hq2) ⟨Nat.le_of_ble_eq_true rfl, Nat.le_of_ble_eq_true rfl⟩ rfl hl.1 rfl (Nat.le_of_ble_eq_true rfl) dX10_figure_16 ⟨Nat.le_of_ble_eq_true rfl, Nat.le_of_ble_eq_true rfl⟩) (fun H locs hw => ?_)
  refine lv_istore (lv' := [(4, .int (q2.1)), (3, .int (q1.1 - (48 : Int32))), (0, .ref (X.2.2.1 17 (0))), (1, .int (x1)), (2, .int (x2))]) C.1 C.2.1 dX10_figure_19 hl (by decide) rfl (fun ls hl => ?_)
  refine lv_aload_n C.1 C.2.1 dX10_figure_21 rfl (lv_at hl 2 rfl) ?_
  refine lv_dup C.1 C.2.1 dX10_figure_22 rfl ?_
  refine gf_X10_7 C hw kw_511 dX10_figure_23 ?_
  refine lv_iload C.1 C.2.1 dX10_figure_26 (lv_at hl 0 rfl) ?_
  refine lv_if_eq (tgt := 35) C.1 C.2.1 dX10_figure_28 (by decide) (fun c3 => ?_) (fun c3 => ?_)
  · replace hD := (if_pos c3).symm.trans hD
    refine lv_iconst (v := (0 : Int32)) C.1 C.2.1 dX10_figure_35 (by decide) ?_
    exact w_X10_figure_36 x1 x2  C hr hk R0   (q1.1 - (48 : Int32)) q2.1 (0 : Int32) (gS q2.2 17 7 0) q2.2  hD _ _ hw _ (lv_sub hl [1, 0] rfl)
  · replace hD := (if_neg c3).symm.trans hD
    refine lv_iconst (v := (1 : Int32)) C.1 C.2.1 dX10_figure_31 (by decide) ?_
    refine lv_goto (tgt := 36) C.1 C.2.1 dX10_figure_32 (by decide) ?_
    exact w_X10_figure_36 x1 x2  C hr hk R0   (q1.1 - (48 : Int32)) q2.1 (1 : Int32) (gS q2.2 17 7 0) q2.2  hD _ _ hw _ (lv_sub hl [1, 0] rfl)
theorem kw_523 : Cond.fieldLink RX10 97 (TX10 8).1 (TX10 8).2.1 (TX10 8).2.2.1 ∈ gtbl := gm3 136 rfl rfl
theorem gf_X10_8 {p : Program} {l : Launch} {e : Env} {R : Room} {s : State} {m : MethodId} {args : Array Value} {below : List Frame} {meth : Method} {c : Code} {H : Heap} {locs : List Loc} {cells slots : Nat} {Q : State → Prop} {cc : ByteArray} {pc nL index : Nat} {ls : Array Slot} {rest : List Value} {X : XC} {ex : va_W} {z : XS} {own : String} (C : CallFix p m c cc nL s args gtbl own) (hw : xw X ex z s H locs) (hlink : Cond.fieldLink own index (TX10 8).1 (TX10 8).2.1 (TX10 8).2.2.1 ∈ gtbl) (hdg : decode cc pc = .ok (.getfield index, 3)) (kk : W p l e R s m args below meth c H locs cells slots Q (F0 m (pc + 3) ls (.int (gS z 17 8 0) :: rest))) : W p l e R s m args below meth c H locs cells slots Q (F0 m pc ls (.ref (X.2.2.1 17 0) :: rest)) :=
  x_get (k := 17) (j := 0) C hw (Nat.le_of_ble_eq_true rfl) 8 (v := .int (gS z 17 8 0)) rfl rfl ixX10 (by decide) hlink rfl hdg kk
theorem kw_525 : Cond.code yX10_figure cX10_figure 5 (some .int) ∈ gtbl := gm3 232 rfl rfl
theorem nd_X10_figure : (yX10_figure).cls ≠ "java/lang/invoke/MethodHandle" ∧ (yX10_figure).cls ≠ "java/lang/invoke/VarHandle" ∧ (parseMethodDescriptor (yX10_figure).desc).map (fun d => d.parameters.length) = some 2 := by decide +kernel
theorem kw_527 : Cond.instanceMethod yX10_figure ∈ gtbl := gm3 231 rfl rfl
theorem kw_528 : Cond.selects RX10 yX10_figure yX10_figure ∈ gtbl := gm0 11 rfl rfl
theorem cV_X10_figure : xcV yX10_figure cX10_figure 5 (some .int) 2 := ⟨⟨kw_525, kw_490, nd_X10_figure⟩, kw_527, kw_528⟩
theorem kw_530 : Cond.methodLink RX10 100 yX10_figure ∈ gtbl := gm3 229 rfl rfl
theorem kw_531 : Cond.fieldLink RX10 28 (TX10 10).1 (TX10 10).2.1 (TX10 10).2.2.1 ∈ gtbl := gm3 138 rfl rfl
theorem gf_X10_10 {p : Program} {l : Launch} {e : Env} {R : Room} {s : State} {m : MethodId} {args : Array Value} {below : List Frame} {meth : Method} {c : Code} {H : Heap} {locs : List Loc} {cells slots : Nat} {Q : State → Prop} {cc : ByteArray} {pc nL index : Nat} {ls : Array Slot} {rest : List Value} {X : XC} {ex : va_W} {z : XS} {own : String} (C : CallFix p m c cc nL s args gtbl own) (hw : xw X ex z s H locs) (hlink : Cond.fieldLink own index (TX10 10).1 (TX10 10).2.1 (TX10 10).2.2.1 ∈ gtbl) (hdg : decode cc pc = .ok (.getfield index, 3)) (kk : W p l e R s m args below meth c H locs cells slots Q (F0 m (pc + 3) ls (.ref (X.2.2.1 18 6) :: rest))) : W p l e R s m args below meth c H locs cells slots Q (F0 m pc ls (.ref (X.2.2.1 17 0) :: rest)) :=
  x_get (k := 17) (j := 0) C hw (Nat.le_of_ble_eq_true rfl) 10 (v := .ref (X.2.2.1 18 6)) rfl rfl ixX10 (by decide) hlink rfl hdg kk
theorem kw_533 : Cond.fieldLink RX10 31 (TX10 11).1 (TX10 11).2.1 (TX10 11).2.2.1 ∈ gtbl := gm3 139 rfl rfl
theorem gf_X10_11 {p : Program} {l : Launch} {e : Env} {R : Room} {s : State} {m : MethodId} {args : Array Value} {below : List Frame} {meth : Method} {c : Code} {H : Heap} {locs : List Loc} {cells slots : Nat} {Q : State → Prop} {cc : ByteArray} {pc nL index : Nat} {ls : Array Slot} {rest : List Value} {X : XC} {ex : va_W} {z : XS} {own : String} (C : CallFix p m c cc nL s args gtbl own) (hw : xw X ex z s H locs) (hlink : Cond.fieldLink own index (TX10 11).1 (TX10 11).2.1 (TX10 11).2.2.1 ∈ gtbl) (hdg : decode cc pc = .ok (.getfield index, 3)) (kk : W p l e R s m args below meth c H locs cells slots Q (F0 m (pc + 3) ls (.ref (X.2.2.1 18 7) :: rest))) : W p l e R s m args below meth c H locs cells slots Q (F0 m pc ls (.ref (X.2.2.1 17 0) :: rest)) :=
  x_get (k := 17) (j := 0) C hw (Nat.le_of_ble_eq_true rfl) 11 (v := .ref (X.2.2.1 18 7)) rfl rfl ixX10 (by decide) hlink rfl hdg kk
theorem kw_535 : Cond.fieldLink RX10 25 (TX10 9).1 (TX10 9).2.1 (TX10 9).2.2.1 ∈ gtbl := gm3 137 rfl rfl
theorem gf_X10_9 {p : Program} {l : Launch} {e : Env} {R : Room} {s : State} {m : MethodId} {args : Array Value} {below : List Frame} {meth : Method} {c : Code} {H : Heap} {locs : List Loc} {cells slots : Nat} {Q : State → Prop} {cc : ByteArray} {pc nL index : Nat} {ls : Array Slot} {rest : List Value} {X : XC} {ex : va_W} {z : XS} {own : String} (C : CallFix p m c cc nL s args gtbl own) (hw : xw X ex z s H locs) (hlink : Cond.fieldLink own index (TX10 9).1 (TX10 9).2.1 (TX10 9).2.2.1 ∈ gtbl) (hdg : decode cc pc = .ok (.getfield index, 3)) (kk : W p l e R s m args below meth c H locs cells slots Q (F0 m (pc + 3) ls (.ref (X.2.2.1 18 5) :: rest))) : W p l e R s m args below meth c H locs cells slots Q (F0 m pc ls (.ref (X.2.2.1 17 0) :: rest)) :=
  x_get (k := 17) (j := 0) C hw (Nat.le_of_ble_eq_true rfl) 9 (v := .ref (X.2.2.1 18 5)) rfl rfl ixX10 (by decide) hlink rfl hdg kk
theorem pf_X10_8 {p : Program} {l : Launch} {e : Env} {R : Room} {s : State} {m : MethodId} {args : Array Value} {below : List Frame} {meth : Method} {c : Code} {H : Heap} {locs : List Loc} {cells slots : Nat} {Q : State → Prop} {cc : ByteArray} {pc nL index : Nat} {ls : Array Slot} {rest : List Value} {X : XC} {ex : va_W} {z : XS} {own : String} (C : CallFix p m c cc nL s args gtbl own) (hw : xw X ex z s H locs) {v : Int32} (hlink : Cond.fieldLink own index (TX10 8).1 (TX10 8).2.1 (TX10 8).2.2.1 ∈ gtbl) (hdg : decode cc pc = .ok (.putfield index, 3)) (kk : ∀ (H1 : Heap) (locs1 : List Loc), xw X ex (pS z 17 8 0 v) s H1 locs1 → W p l e R s m args below meth c H1 locs1 cells slots Q (F0 m (pc + 3) ls rest)) : W p l e R s m args below meth c H locs cells slots Q (F0 m pc ls (.int v :: .ref (X.2.2.1 17 0) :: rest)) :=
  x_put (k := 17) (j := 0) C hw (Nat.le_of_ble_eq_true rfl) 8 (v := v) rfl rfl rfl ixX10 tyX10 tyX10_ok nmX10 (by decide) hlink rfl (by decide +kernel) (Nat.le_of_ble_eq_true rfl) hdg kk
abbrev rm_X10_readsMore : Room := { frames := 2, cells := 0, slots := 0, locals := 49 }
def J_X10_readsMore_110 (x1 : Int32) (x2 : Int32) (y4 : Int32) (y5 : Int32) (t0 : Int32) (t1 : Int32) (z : XS) : Option (Int32 × XS) :=
  gd (inB t1 6) ((some (pA z 18 6 t1.toNatClampNeg t0)).bind fun z12 => (gd (inB ((gS z12 17 8 0) - (1 : Int32)) 6) ((some (pA z12 18 7 ((gS z12 17 8 0) - (1 : Int32)).toNatClampNeg y4)).bind fun z14 => (gd (inB (gS z14 17 8 0) 7) ((some (pA z14 18 5 (gS z14 17 8 0).toNatClampNeg y5)).bind fun z16 => ((some (pS z16 17 8 0 ((gS z16 17 8 0) + (1 : Int32)))).bind fun z17 => (some ((1 : Int32), z17))))))))
set_option maxHeartbeats 4000000 in
set_option maxRecDepth 100000 in
theorem w_X10_readsMore_110 {p : Program} {l : Launch} {e : Env} {s : State} {m : MethodId} {below : List Frame} {meth : Method} {c : Code} {X : XC} {ex : va_W} (x1 : Int32) (x2 : Int32) (C : CallFix p m c cX10_readsMore 6 s (([.ref (X.2.2.1 17 (0)), .int (x1), .int (x2)] : List Value).toArray) gtbl RX10) (hr : meth.sig.returnType = (some .boolean)) (hk : meth.locks = false) (R0 : Int32 × XS)  : ∀ (y4 : Int32) (y5 : Int32) (t0 : Int32) (t1 : Int32) (z : XS), J_X10_readsMore_110 x1 x2  y4 y5 t0 t1 z = some R0 → ∀ (H : Heap) (locs : List Loc), xw X ex z s H locs → ∀ (ls : Array Slot), lv_has ls 6 [(0, .ref (X.2.2.1 17 (0))), (4, .int (y4)), (5, .int (y5))] → W p l e rm_X10_readsMore s m (([.ref (X.2.2.1 17 (0)), .int (x1), .int (x2)] : List Value).toArray) below meth c H locs 0 0 (MQ below (xQi X ex R0.2 R0.1) (([.ref (X.2.2.1 17 (0)), .int (x1), .int (x2)] : List Value).toArray) s 0 0 (xA X)) (F0 m 110 ls [.int (t0), .int (t1), .ref (X.2.2.1 18 (6))]) := by
  intro y4 y5 t0 t1 z  hD H locs hw ls hl
  unfold J_X10_readsMore_110 at hD
  obtain ⟨g11, hD⟩ := gd_some hD
  obtain ⟨z12, hz12, hD⟩ := Option.bind_eq_some_iff.mp hD
  refine x_iast (k := 18) (j := 6) C hw rfl (Nat.le_of_ble_eq_true rfl) (inB_in g11) dX10_readsMore_110 (fun H locs hw => ?_)
  replace hw := xw_eq hz12 hw
  refine lv_aload_n C.1 C.2.1 dX10_readsMore_111 rfl (lv_at hl 0 rfl) ?_
  refine gf_X10_11 C hw kw_533 dX10_readsMore_112 ?_
  refine lv_aload_n C.1 C.2.1 dX10_readsMore_115 rfl (lv_at hl 0 rfl) ?_
  refine gf_X10_8 C hw kw_523 dX10_readsMore_116 ?_
  refine lv_iconst (v := (1 : Int32)) C.1 C.2.1 dX10_readsMore_119 (by decide) ?_
  refine lv_isub C.1 C.2.1 dX10_readsMore_120 ?_
  refine lv_iload C.1 C.2.1 dX10_readsMore_121 (lv_at hl 1 rfl) ?_
  obtain ⟨g13, hD⟩ := gd_some hD
  obtain ⟨z14, hz14, hD⟩ := Option.bind_eq_some_iff.mp hD
  refine x_iast (k := 18) (j := 7) C hw rfl (Nat.le_of_ble_eq_true rfl) (inB_in g13) dX10_readsMore_123 (fun H locs hw => ?_)
  replace hw := xw_eq hz14 hw
  refine lv_aload_n C.1 C.2.1 dX10_readsMore_124 rfl (lv_at hl 0 rfl) ?_
  refine gf_X10_9 C hw kw_535 dX10_readsMore_125 ?_
  refine lv_aload_n C.1 C.2.1 dX10_readsMore_128 rfl (lv_at hl 0 rfl) ?_
  refine gf_X10_8 C hw kw_523 dX10_readsMore_129 ?_
  refine lv_iload C.1 C.2.1 dX10_readsMore_132 (lv_at hl 2 rfl) ?_
  obtain ⟨g15, hD⟩ := gd_some hD
  obtain ⟨z16, hz16, hD⟩ := Option.bind_eq_some_iff.mp hD
  refine x_iast (k := 18) (j := 5) C hw rfl (Nat.le_of_ble_eq_true rfl) (inB_in g15) dX10_readsMore_134 (fun H locs hw => ?_)
  replace hw := xw_eq hz16 hw
  refine lv_aload_n C.1 C.2.1 dX10_readsMore_135 rfl (lv_at hl 0 rfl) ?_
  refine lv_dup C.1 C.2.1 dX10_readsMore_136 rfl ?_
  refine gf_X10_8 C hw kw_523 dX10_readsMore_137 ?_
  refine lv_iconst (v := (1 : Int32)) C.1 C.2.1 dX10_readsMore_140 (by decide) ?_
  refine lv_iadd C.1 C.2.1 dX10_readsMore_141 ?_
  obtain ⟨z17, hz17, hD⟩ := Option.bind_eq_some_iff.mp hD
  refine pf_X10_8 C hw kw_523 dX10_readsMore_142 (fun H locs hw => ?_)
  replace hw := xw_eq hz17 hw
  refine lv_iconst (v := (1 : Int32)) C.1 C.2.1 dX10_readsMore_145 (by decide) ?_
  obtain rfl := Option.some.inj hD
  exact x_zret (v := (1 : Int32)) C hw hr hk nb1 dX10_readsMore_146
def J_X10_readsMore_70 (x1 : Int32) (x2 : Int32) (y3 : Int32) (y4 : Int32) (t0 : Int32) (z : XS) : Option (Int32 × XS) :=
  (if 0 ≤ t0 then (if y3 = (104 : Int32) then J_X10_readsMore_110 x1 x2  y4 t0 (0 : Int32) ((gS z 17 8 0) - (1 : Int32)) z else (if y3 = (121 : Int32) then J_X10_readsMore_110 x1 x2  y4 t0 (1 : Int32) ((gS z 17 8 0) - (1 : Int32)) z else J_X10_readsMore_110 x1 x2  y4 t0 (2 : Int32) ((gS z 17 8 0) - (1 : Int32)) z)) else some ((0 : Int32), z))
set_option maxHeartbeats 4000000 in
set_option maxRecDepth 100000 in
theorem w_X10_readsMore_70 {p : Program} {l : Launch} {e : Env} {s : State} {m : MethodId} {below : List Frame} {meth : Method} {c : Code} {X : XC} {ex : va_W} (x1 : Int32) (x2 : Int32) (C : CallFix p m c cX10_readsMore 6 s (([.ref (X.2.2.1 17 (0)), .int (x1), .int (x2)] : List Value).toArray) gtbl RX10) (hr : meth.sig.returnType = (some .boolean)) (hk : meth.locks = false) (R0 : Int32 × XS)  : ∀ (y3 : Int32) (y4 : Int32) (t0 : Int32) (z : XS), J_X10_readsMore_70 x1 x2  y3 y4 t0 z = some R0 → ∀ (H : Heap) (locs : List Loc), xw X ex z s H locs → ∀ (ls : Array Slot), lv_has ls 6 [(0, .ref (X.2.2.1 17 (0))), (3, .int (y3)), (4, .int (y4))] → W p l e rm_X10_readsMore s m (([.ref (X.2.2.1 17 (0)), .int (x1), .int (x2)] : List Value).toArray) below meth c H locs 0 0 (MQ below (xQi X ex R0.2 R0.1) (([.ref (X.2.2.1 17 (0)), .int (x1), .int (x2)] : List Value).toArray) s 0 0 (xA X)) (F0 m 70 ls [.int (t0)]) := by
  intro y3 y4 t0 z  hD H locs hw ls hl
  unfold J_X10_readsMore_70 at hD
  refine lv_istore (lv' := [(5, .int (t0)), (0, .ref (X.2.2.1 17 (0))), (3, .int (y3)), (4, .int (y4))]) C.1 C.2.1 dX10_readsMore_70 hl (by decide) rfl (fun ls hl => ?_)
  refine lv_iload C.1 C.2.1 dX10_readsMore_72 (lv_at hl 0 rfl) ?_
  refine lv_if_ge (tgt := 79) C.1 C.2.1 dX10_readsMore_74 (by decide) (fun c8 => ?_) (fun c8 => ?_)
  · replace hD := (if_pos c8).symm.trans hD
    refine lv_aload_n C.1 C.2.1 dX10_readsMore_79 rfl (lv_at hl 1 rfl) ?_
    refine gf_X10_10 C hw kw_531 dX10_readsMore_80 ?_
    refine lv_aload_n C.1 C.2.1 dX10_readsMore_83 rfl (lv_at hl 1 rfl) ?_
    refine gf_X10_8 C hw kw_523 dX10_readsMore_84 ?_
    refine lv_iconst (v := (1 : Int32)) C.1 C.2.1 dX10_readsMore_87 (by decide) ?_
    refine lv_isub C.1 C.2.1 dX10_readsMore_88 ?_
    refine lv_iload_n C.1 C.2.1 dX10_readsMore_89 rfl (lv_at hl 2 rfl) ?_
    refine lv_bipush (v := (104 : Int32)) C.1 C.2.1 dX10_readsMore_90 (by decide) ?_
    refine lv_icmp_ne (tgt := 99) C.1 C.2.1 dX10_readsMore_92 (by decide) (fun c9 => ?_) (fun c9 => ?_)
    · replace hD := (if_neg c9).symm.trans hD
      refine lv_iload_n C.1 C.2.1 dX10_readsMore_99 rfl (lv_at hl 2 rfl) ?_
      refine lv_bipush (v := (121 : Int32)) C.1 C.2.1 dX10_readsMore_100 (by decide) ?_
      refine lv_icmp_ne (tgt := 109) C.1 C.2.1 dX10_readsMore_102 (by decide) (fun c10 => ?_) (fun c10 => ?_)
      · replace hD := (if_neg c10).symm.trans hD
        refine lv_iconst (v := (2 : Int32)) C.1 C.2.1 dX10_readsMore_109 (by decide) ?_
        exact w_X10_readsMore_110 x1 x2  C hr hk R0   y4 t0 (2 : Int32) ((gS z 17 8 0) - (1 : Int32)) z  hD _ _ hw _ (lv_sub hl [1, 3, 0] rfl)
      · replace hD := (if_pos c10).symm.trans hD
        refine lv_iconst (v := (1 : Int32)) C.1 C.2.1 dX10_readsMore_105 (by decide) ?_
        refine lv_goto (tgt := 110) C.1 C.2.1 dX10_readsMore_106 (by decide) ?_
        exact w_X10_readsMore_110 x1 x2  C hr hk R0   y4 t0 (1 : Int32) ((gS z 17 8 0) - (1 : Int32)) z  hD _ _ hw _ (lv_sub hl [1, 3, 0] rfl)
    · replace hD := (if_pos c9).symm.trans hD
      refine lv_iconst (v := (0 : Int32)) C.1 C.2.1 dX10_readsMore_95 (by decide) ?_
      refine lv_goto (tgt := 110) C.1 C.2.1 dX10_readsMore_96 (by decide) ?_
      exact w_X10_readsMore_110 x1 x2  C hr hk R0   y4 t0 (0 : Int32) ((gS z 17 8 0) - (1 : Int32)) z  hD _ _ hw _ (lv_sub hl [1, 3, 0] rfl)
  · replace hD := (if_neg c8).symm.trans hD
    refine lv_iconst (v := (0 : Int32)) C.1 C.2.1 dX10_readsMore_77 (by decide) ?_
    obtain rfl := Option.some.inj hD
    exact x_zret (v := (0 : Int32)) C hw hr hk nb0 dX10_readsMore_78
def J_X10_readsMore_36 (x1 : Int32) (x2 : Int32) (y3 : Int32) (z : XS) : Option (Int32 × XS) :=
  (some (pS z 17 7 0 ((gS z 17 7 0) + (1 : Int32)))).bind fun z4 => ((D_X10_figure x1 x2 z4).bind fun q5 => ((if 0 ≤ q5.1 then (D_X10_figure x1 x2 q5.2).bind fun q7 => (J_X10_readsMore_70 x1 x2  y3 q5.1 q7.1 q7.2) else J_X10_readsMore_70 x1 x2  y3 q5.1 (-9 : Int32) q5.2)))
set_option maxHeartbeats 4000000 in
set_option maxRecDepth 100000 in
theorem w_X10_readsMore_36 {p : Program} {l : Launch} {e : Env} {s : State} {m : MethodId} {below : List Frame} {meth : Method} {c : Code} {X : XC} {ex : va_W} (x1 : Int32) (x2 : Int32) (C : CallFix p m c cX10_readsMore 6 s (([.ref (X.2.2.1 17 (0)), .int (x1), .int (x2)] : List Value).toArray) gtbl RX10) (hr : meth.sig.returnType = (some .boolean)) (hk : meth.locks = false) (R0 : Int32 × XS)  : ∀ (y3 : Int32) (z : XS), J_X10_readsMore_36 x1 x2  y3 z = some R0 → ∀ (H : Heap) (locs : List Loc), xw X ex z s H locs → ∀ (ls : Array Slot), lv_has ls 6 [(0, .ref (X.2.2.1 17 (0))), (1, .int (x1)), (2, .int (x2)), (3, .int (y3))] → W p l e rm_X10_readsMore s m (([.ref (X.2.2.1 17 (0)), .int (x1), .int (x2)] : List Value).toArray) below meth c H locs 0 0 (MQ below (xQi X ex R0.2 R0.1) (([.ref (X.2.2.1 17 (0)), .int (x1), .int (x2)] : List Value).toArray) s 0 0 (xA X)) (F0 m 36 ls []) := by
  intro y3 z  hD H locs hw ls hl
  unfold J_X10_readsMore_36 at hD
  refine lv_aload_n C.1 C.2.1 dX10_readsMore_36 rfl (lv_at hl 0 rfl) ?_
  refine lv_dup C.1 C.2.1 dX10_readsMore_37 rfl ?_
  refine gf_X10_7 C hw kw_511 dX10_readsMore_38 ?_
  refine lv_iconst (v := (1 : Int32)) C.1 C.2.1 dX10_readsMore_41 (by decide) ?_
  refine lv_iadd C.1 C.2.1 dX10_readsMore_42 ?_
  obtain ⟨z4, hz4, hD⟩ := Option.bind_eq_some_iff.mp hD
  refine pf_X10_7 C hw kw_511 dX10_readsMore_43 (fun H locs hw => ?_)
  replace hw := xw_eq hz4 hw
  refine lv_aload_n C.1 C.2.1 dX10_readsMore_46 rfl (lv_at hl 0 rfl) ?_
  refine lv_iload_n C.1 C.2.1 dX10_readsMore_47 rfl (lv_at hl 1 rfl) ?_
  refine lv_iload_n C.1 C.2.1 dX10_readsMore_48 rfl (lv_at hl 2 rfl) ?_
  obtain ⟨q5, hq5, hD⟩ := Option.bind_eq_some_iff.mp hD
  refine x_goi hw (x_runV (As := [.int (x1), .int (x2)]) (rest := []) (k := 17) (j := 0) C hw (Nat.le_of_ble_eq_true rfl) rfl rfl cV_X10_figure kw_530 (c_X10_figure l X ex x1 x2  z4 q5 hq5) ⟨Nat.le_of_ble_eq_true rfl, Nat.le_of_ble_eq_true rfl⟩ rfl hl.1 rfl (Nat.le_of_ble_eq_true rfl) dX10_readsMore_49 ⟨Nat.le_of_ble_eq_true rfl, Nat.le_of_ble_eq_true rfl⟩) (fun H locs hw => ?_)
  refine lv_istore (lv' := [(4, .int (q5.1)), (0, .ref (X.2.2.1 17 (0))), (1, .int (x1)), (2, .int (x2)), (3, .int (y3))]) C.1 C.2.1 dX10_readsMore_52 hl (by decide) rfl (fun ls hl => ?_)
  refine lv_iload C.1 C.2.1 dX10_readsMore_54 (lv_at hl 0 rfl) ?_
  refine lv_if_ge (tgt := 64) C.1 C.2.1 dX10_readsMore_56 (by decide) (fun c6 => ?_) (fun c6 => ?_)
  · replace hD := (if_pos c6).symm.trans hD
    refine lv_aload_n C.1 C.2.1 dX10_readsMore_64 rfl (lv_at hl 1 rfl) ?_
    refine lv_iload_n C.1 C.2.1 dX10_readsMore_65 rfl (lv_at hl 2 rfl) ?_
    refine lv_iload_n C.1 C.2.1 dX10_readsMore_66 rfl (lv_at hl 3 rfl) ?_
    obtain ⟨q7, hq7, hD⟩ := Option.bind_eq_some_iff.mp hD
    refine x_goi hw (x_runV (As := [.int (x1), .int (x2)]) (rest := []) (k := 17) (j := 0) C hw (Nat.le_of_ble_eq_true rfl) rfl rfl cV_X10_figure kw_530 (c_X10_figure l X ex x1 x2  q5.2 q7 hq7) ⟨Nat.le_of_ble_eq_true rfl, Nat.le_of_ble_eq_true rfl⟩ rfl hl.1 rfl (Nat.le_of_ble_eq_true rfl) dX10_readsMore_67 ⟨Nat.le_of_ble_eq_true rfl, Nat.le_of_ble_eq_true rfl⟩) (fun H locs hw => ?_)
    exact w_X10_readsMore_70 x1 x2  C hr hk R0   y3 q5.1 q7.1 q7.2  hD _ _ hw _ (lv_sub hl [1, 4, 0] rfl)
  · replace hD := (if_neg c6).symm.trans hD
    refine lv_bipush (v := (-9 : Int32)) C.1 C.2.1 dX10_readsMore_59 (by decide) ?_
    refine lv_goto (tgt := 70) C.1 C.2.1 dX10_readsMore_61 (by decide) ?_
    exact w_X10_readsMore_70 x1 x2  C hr hk R0   y3 q5.1 (-9 : Int32) q5.2  hD _ _ hw _ (lv_sub hl [1, 4, 0] rfl)
def D_X10_readsMore (x1 : Int32) (x2 : Int32) (z : XS) : Option (Int32 × XS) :=
  (D_X10_codeAt x1 x2 z).bind fun q1 => ((if gS q1.2 17 8 0 = (7 : Int32) then some ((0 : Int32), q1.2) else (if q1.1 = (104 : Int32) then J_X10_readsMore_36 x1 x2  q1.1 q1.2 else (if q1.1 = (121 : Int32) then J_X10_readsMore_36 x1 x2  q1.1 q1.2 else (if q1.1 = (98 : Int32) then J_X10_readsMore_36 x1 x2  q1.1 q1.2 else some ((0 : Int32), q1.2))))))
set_option maxHeartbeats 4000000 in
set_option maxRecDepth 100000 in
theorem c_X10_readsMore (l : Launch) (X : XC) (ex : va_W) (x1 : Int32) (x2 : Int32) (z : XS) (R0 : Int32 × XS) (hD : D_X10_readsMore x1 x2 z = some R0) : xM l X ex yX10_readsMore cX10_readsMore 6 (some .boolean) rm_X10_readsMore [.ref (X.2.2.1 17 (0)), .int (x1), .int (x2)] z (xQi X ex R0.2 R0.1) := by
  refine x_ent (by decide) (Nat.le_of_ble_eq_true rfl) ?_
  intro p e s m below meth c ls C hr hk hw hl
  replace hl : lv_has ls 6 [(0, .ref (X.2.2.1 17 (0))), (1, .int (x1)), (2, .int (x2))] := hl
  unfold D_X10_readsMore at hD
  refine lv_aload_n C.1 C.2.1 dX10_readsMore_0 rfl (lv_at hl 0 rfl) ?_
  refine lv_iload_n C.1 C.2.1 dX10_readsMore_1 rfl (lv_at hl 1 rfl) ?_
  refine lv_iload_n C.1 C.2.1 dX10_readsMore_2 rfl (lv_at hl 2 rfl) ?_
  obtain ⟨q1, hq1, hD⟩ := Option.bind_eq_some_iff.mp hD
  refine x_goi hw (x_runV (As := [.int (x1), .int (x2)]) (rest := []) (k := 17) (j := 0) C hw (Nat.le_of_ble_eq_true rfl) rfl rfl cV_X10_codeAt kw_520 (c_X10_codeAt l X ex x1 x2  z q1 hq1) ⟨Nat.le_of_ble_eq_true rfl, Nat.le_of_ble_eq_true rfl⟩ rfl hl.1 rfl (Nat.le_of_ble_eq_true rfl) dX10_readsMore_3 ⟨Nat.le_of_ble_eq_true rfl, Nat.le_of_ble_eq_true rfl⟩) (fun H locs hw => ?_)
  refine lv_istore_n (lv' := [(3, .int (q1.1)), (0, .ref (X.2.2.1 17 (0))), (1, .int (x1)), (2, .int (x2))]) C.1 C.2.1 dX10_readsMore_6 rfl hl (by decide) rfl (fun ls hl => ?_)
  refine lv_aload_n C.1 C.2.1 dX10_readsMore_7 rfl (lv_at hl 1 rfl) ?_
  refine gf_X10_8 C hw kw_523 dX10_readsMore_8 ?_
  refine lv_bipush (v := (7 : Int32)) C.1 C.2.1 dX10_readsMore_11 (by decide) ?_
  refine lv_icmp_eq (tgt := 34) C.1 C.2.1 dX10_readsMore_13 (by decide) (fun c2 => ?_) (fun c2 => ?_)
  · replace hD := (if_pos c2).symm.trans hD
    refine lv_iconst (v := (0 : Int32)) C.1 C.2.1 dX10_readsMore_34 (by decide) ?_
    obtain rfl := Option.some.inj hD
    exact x_zret (v := (0 : Int32)) C hw hr hk nb0 dX10_readsMore_35
  · replace hD := (if_neg c2).symm.trans hD
    refine lv_iload_n C.1 C.2.1 dX10_readsMore_16 rfl (lv_at hl 0 rfl) ?_
    refine lv_bipush (v := (104 : Int32)) C.1 C.2.1 dX10_readsMore_17 (by decide) ?_
    refine lv_icmp_eq (tgt := 36) C.1 C.2.1 dX10_readsMore_19 (by decide) (fun c3 => ?_) (fun c3 => ?_)
    · replace hD := (if_pos c3).symm.trans hD
      exact w_X10_readsMore_36 x1 x2  C hr hk R0   q1.1 q1.2  hD _ _ hw _ (lv_sub hl [1, 2, 3, 0] rfl)
    · replace hD := (if_neg c3).symm.trans hD
      refine lv_iload_n C.1 C.2.1 dX10_readsMore_22 rfl (lv_at hl 0 rfl) ?_
      refine lv_bipush (v := (121 : Int32)) C.1 C.2.1 dX10_readsMore_23 (by decide) ?_
      refine lv_icmp_eq (tgt := 36) C.1 C.2.1 dX10_readsMore_25 (by decide) (fun c18 => ?_) (fun c18 => ?_)
      · replace hD := (if_pos c18).symm.trans hD
        exact w_X10_readsMore_36 x1 x2  C hr hk R0   q1.1 q1.2  hD _ _ hw _ (lv_sub hl [1, 2, 3, 0] rfl)
      · replace hD := (if_neg c18).symm.trans hD
        refine lv_iload_n C.1 C.2.1 dX10_readsMore_28 rfl (lv_at hl 0 rfl) ?_
        refine lv_bipush (v := (98 : Int32)) C.1 C.2.1 dX10_readsMore_29 (by decide) ?_
        refine lv_icmp_eq (tgt := 36) C.1 C.2.1 dX10_readsMore_31 (by decide) (fun c19 => ?_) (fun c19 => ?_)
        · replace hD := (if_pos c19).symm.trans hD
          exact w_X10_readsMore_36 x1 x2  C hr hk R0   q1.1 q1.2  hD _ _ hw _ (lv_sub hl [1, 2, 3, 0] rfl)
        · replace hD := (if_neg c19).symm.trans hD
          refine lv_iconst (v := (0 : Int32)) C.1 C.2.1 dX10_readsMore_34 (by decide) ?_
          obtain rfl := Option.some.inj hD
          exact x_zret (v := (0 : Int32)) C hw hr hk nb0 dX10_readsMore_35
theorem kw_538 : Cond.code yX10_readsMore cX10_readsMore 6 (some .boolean) ∈ gtbl := gm3 237 rfl rfl
theorem nd_X10_readsMore : (yX10_readsMore).cls ≠ "java/lang/invoke/MethodHandle" ∧ (yX10_readsMore).cls ≠ "java/lang/invoke/VarHandle" ∧ (parseMethodDescriptor (yX10_readsMore).desc).map (fun d => d.parameters.length) = some 2 := by decide +kernel
theorem kw_540 : Cond.instanceMethod yX10_readsMore ∈ gtbl := gm3 236 rfl rfl
theorem kw_541 : Cond.selects RX10 yX10_readsMore yX10_readsMore ∈ gtbl := gm0 12 rfl rfl
theorem cV_X10_readsMore : xcV yX10_readsMore cX10_readsMore 6 (some .boolean) 2 := ⟨⟨kw_538, kw_490, nd_X10_readsMore⟩, kw_540, kw_541⟩
theorem kw_543 : Cond.methodLink RX10 103 yX10_readsMore ∈ gtbl := gm3 234 rfl rfl
abbrev rm_X10_readsAll : Room := { frames := 3, cells := 0, slots := 0, locals := 74 }
def B_X10_readsAll_69 (x1 : Int32) (x2 : Int32) (k69_ : Int32 → XS → Option (Int32 × XS)) (y3 : Int32) (z : XS) : Option (Int32 × XS) :=
  (if y3 = 0 then gd (isZ y3) (some (y3, z)) else (if x2 ≤ gS z 17 7 0 then gd (isZ y3) (some (y3, z)) else (D_X10_readsMore x1 x2 z).bind fun q15 => (k69_ q15.1 q15.2)))
def L_X10_readsAll_69 (x1 : Int32) (x2 : Int32) : Nat → Int32 → XS → Option (Int32 × XS)
  | 0 => fun _ _ => none
  | n + 1 => B_X10_readsAll_69 x1 x2  (L_X10_readsAll_69 x1 x2  n)
set_option maxHeartbeats 4000000 in
set_option maxRecDepth 100000 in
theorem w_X10_readsAll_69 {p : Program} {l : Launch} {e : Env} {s : State} {m : MethodId} {below : List Frame} {meth : Method} {c : Code} {X : XC} {ex : va_W} (x1 : Int32) (x2 : Int32) (C : CallFix p m c cX10_readsAll 4 s (([.ref (X.2.2.1 17 (0)), .int (x1), .int (x2)] : List Value).toArray) gtbl RX10) (hr : meth.sig.returnType = (some .boolean)) (hk : meth.locks = false) (R0 : Int32 × XS)  : ∀ (n : Nat), ∀ (y3 : Int32) (z : XS), L_X10_readsAll_69 x1 x2  n y3 z = some R0 → ∀ (H : Heap) (locs : List Loc), xw X ex z s H locs → ∀ (ls : Array Slot), lv_has ls 4 [(0, .ref (X.2.2.1 17 (0))), (1, .int (x1)), (2, .int (x2)), (3, .int (y3))] → W p l e rm_X10_readsAll s m (([.ref (X.2.2.1 17 (0)), .int (x1), .int (x2)] : List Value).toArray) below meth c H locs 0 0 (MQ below (xQi X ex R0.2 R0.1) (([.ref (X.2.2.1 17 (0)), .int (x1), .int (x2)] : List Value).toArray) s 0 0 (xA X)) (F0 m 69 ls []) := by
  intro n
  induction n with
  | zero =>
    intro y3 z  hD
    cases hD
  | succ n ih =>
    intro y3 z  hD H locs hw ls hl
    replace hD : B_X10_readsAll_69 x1 x2  (L_X10_readsAll_69 x1 x2  n) y3 z = some R0 := hD
    unfold B_X10_readsAll_69 at hD
    refine lv_iload_n C.1 C.2.1 dX10_readsAll_69 rfl (lv_at hl 3 rfl) ?_
    refine lv_if_eq (tgt := 91) C.1 C.2.1 dX10_readsAll_70 (by decide) (fun c11 => ?_) (fun c11 => ?_)
    · replace hD := (if_pos c11).symm.trans hD
      refine lv_iload_n C.1 C.2.1 dX10_readsAll_91 rfl (lv_at hl 3 rfl) ?_
      obtain ⟨g12, hD⟩ := gd_some hD
      obtain rfl := Option.some.inj hD
      exact x_zret (v := y3) C hw hr hk (isZ_n g12) dX10_readsAll_92
    · replace hD := (if_neg c11).symm.trans hD
      refine lv_aload_n C.1 C.2.1 dX10_readsAll_73 rfl (lv_at hl 0 rfl) ?_
      refine gf_X10_7 C hw kw_511 dX10_readsAll_74 ?_
      refine lv_iload_n C.1 C.2.1 dX10_readsAll_77 rfl (lv_at hl 2 rfl) ?_
      refine lv_icmp_ge (tgt := 91) C.1 C.2.1 dX10_readsAll_78 (by decide) (fun c13 => ?_) (fun c13 => ?_)
      · replace hD := (if_pos c13).symm.trans hD
        refine lv_iload_n C.1 C.2.1 dX10_readsAll_91 rfl (lv_at hl 3 rfl) ?_
        obtain ⟨g14, hD⟩ := gd_some hD
        obtain rfl := Option.some.inj hD
        exact x_zret (v := y3) C hw hr hk (isZ_n g14) dX10_readsAll_92
      · replace hD := (if_neg c13).symm.trans hD
        refine lv_aload_n C.1 C.2.1 dX10_readsAll_81 rfl (lv_at hl 0 rfl) ?_
        refine lv_iload_n C.1 C.2.1 dX10_readsAll_82 rfl (lv_at hl 1 rfl) ?_
        refine lv_iload_n C.1 C.2.1 dX10_readsAll_83 rfl (lv_at hl 2 rfl) ?_
        obtain ⟨q15, hq15, hD⟩ := Option.bind_eq_some_iff.mp hD
        refine x_goi hw (x_runV (As := [.int (x1), .int (x2)]) (rest := []) (k := 17) (j := 0) C hw (Nat.le_of_ble_eq_true rfl) rfl rfl cV_X10_readsMore kw_543 (c_X10_readsMore l X ex x1 x2  z q15 hq15) ⟨Nat.le_of_ble_eq_true rfl, Nat.le_of_ble_eq_true rfl⟩ rfl hl.1 rfl (Nat.le_of_ble_eq_true rfl) dX10_readsAll_84 ⟨Nat.le_of_ble_eq_true rfl, Nat.le_of_ble_eq_true rfl⟩) (fun H locs hw => ?_)
        refine lv_istore_n (lv' := [(3, .int (q15.1)), (0, .ref (X.2.2.1 17 (0))), (1, .int (x1)), (2, .int (x2))]) C.1 C.2.1 dX10_readsAll_87 rfl hl (by decide) rfl (fun ls hl => ?_)
        refine lv_goto (tgt := 69) C.1 C.2.1 dX10_readsAll_88 (by decide) ?_
        exact ih q15.1 q15.2  hD _ _ hw _ (lv_sub hl [1, 2, 3, 0] rfl)
def D_X10_readsAll (x1 : Int32) (x2 : Int32) (z : XS) : Option (Int32 × XS) :=
  (some (pS z 17 7 0 (0 : Int32))).bind fun z1 => ((some (pS z1 17 8 0 (1 : Int32))).bind fun z2 => ((D_X10_codeAt x1 x2 z2).bind fun q3 => ((if q3.1 = (103 : Int32) then (some (pS q3.2 17 7 0 ((gS q3.2 17 7 0) + (1 : Int32)))).bind fun z5 => ((D_X10_figure x1 x2 z5).bind fun q6 => (gd (inB (0 : Int32) 7) ((some (pA q6.2 18 5 (0 : Int32).toNatClampNeg q6.1)).bind fun z8 => (gd (inB (0 : Int32) 7) ((if gA z8 18 5 (0 : Int32).toNatClampNeg < 0 then L_X10_readsAll_69 x1 x2  64 (0 : Int32) z8 else (D_X10_readsMore x1 x2 z8).bind fun q16 => ((if q16.1 = 0 then L_X10_readsAll_69 x1 x2  64 (0 : Int32) q16.2 else L_X10_readsAll_69 x1 x2  64 (1 : Int32) q16.2)))))))) else some ((0 : Int32), q3.2)))))
set_option maxHeartbeats 4000000 in
set_option maxRecDepth 100000 in
theorem c_X10_readsAll (l : Launch) (X : XC) (ex : va_W) (x1 : Int32) (x2 : Int32) (z : XS) (R0 : Int32 × XS) (hD : D_X10_readsAll x1 x2 z = some R0) : xM l X ex yX10_readsAll cX10_readsAll 4 (some .boolean) rm_X10_readsAll [.ref (X.2.2.1 17 (0)), .int (x1), .int (x2)] z (xQi X ex R0.2 R0.1) := by
  refine x_ent (by decide) (Nat.le_of_ble_eq_true rfl) ?_
  intro p e s m below meth c ls C hr hk hw hl
  replace hl : lv_has ls 4 [(0, .ref (X.2.2.1 17 (0))), (1, .int (x1)), (2, .int (x2))] := hl
  unfold D_X10_readsAll at hD
  refine lv_aload_n C.1 C.2.1 dX10_readsAll_0 rfl (lv_at hl 0 rfl) ?_
  refine lv_iconst (v := (0 : Int32)) C.1 C.2.1 dX10_readsAll_1 (by decide) ?_
  obtain ⟨z1, hz1, hD⟩ := Option.bind_eq_some_iff.mp hD
  refine pf_X10_7 C hw kw_511 dX10_readsAll_2 (fun H locs hw => ?_)
  replace hw := xw_eq hz1 hw
  refine lv_aload_n C.1 C.2.1 dX10_readsAll_5 rfl (lv_at hl 0 rfl) ?_
  refine lv_iconst (v := (1 : Int32)) C.1 C.2.1 dX10_readsAll_6 (by decide) ?_
  obtain ⟨z2, hz2, hD⟩ := Option.bind_eq_some_iff.mp hD
  refine pf_X10_8 C hw kw_523 dX10_readsAll_7 (fun H locs hw => ?_)
  replace hw := xw_eq hz2 hw
  refine lv_aload_n C.1 C.2.1 dX10_readsAll_10 rfl (lv_at hl 0 rfl) ?_
  refine lv_iload_n C.1 C.2.1 dX10_readsAll_11 rfl (lv_at hl 1 rfl) ?_
  refine lv_iload_n C.1 C.2.1 dX10_readsAll_12 rfl (lv_at hl 2 rfl) ?_
  obtain ⟨q3, hq3, hD⟩ := Option.bind_eq_some_iff.mp hD
  refine x_goi hw (x_runV (As := [.int (x1), .int (x2)]) (rest := []) (k := 17) (j := 0) C hw (Nat.le_of_ble_eq_true rfl) rfl rfl cV_X10_codeAt kw_520 (c_X10_codeAt l X ex x1 x2  z2 q3 hq3) ⟨Nat.le_of_ble_eq_true rfl, Nat.le_of_ble_eq_true rfl⟩ rfl hl.1 rfl (Nat.le_of_ble_eq_true rfl) dX10_readsAll_13 ⟨Nat.le_of_ble_eq_true rfl, Nat.le_of_ble_eq_true rfl⟩) (fun H locs hw => ?_)
  refine lv_bipush (v := (103 : Int32)) C.1 C.2.1 dX10_readsAll_16 (by decide) ?_
  refine lv_icmp_eq (tgt := 23) C.1 C.2.1 dX10_readsAll_18 (by decide) (fun c4 => ?_) (fun c4 => ?_)
  · replace hD := (if_pos c4).symm.trans hD
    refine lv_aload_n C.1 C.2.1 dX10_readsAll_23 rfl (lv_at hl 0 rfl) ?_
    refine lv_dup C.1 C.2.1 dX10_readsAll_24 rfl ?_
    refine gf_X10_7 C hw kw_511 dX10_readsAll_25 ?_
    refine lv_iconst (v := (1 : Int32)) C.1 C.2.1 dX10_readsAll_28 (by decide) ?_
    refine lv_iadd C.1 C.2.1 dX10_readsAll_29 ?_
    obtain ⟨z5, hz5, hD⟩ := Option.bind_eq_some_iff.mp hD
    refine pf_X10_7 C hw kw_511 dX10_readsAll_30 (fun H locs hw => ?_)
    replace hw := xw_eq hz5 hw
    refine lv_aload_n C.1 C.2.1 dX10_readsAll_33 rfl (lv_at hl 0 rfl) ?_
    refine gf_X10_9 C hw kw_535 dX10_readsAll_34 ?_
    refine lv_iconst (v := (0 : Int32)) C.1 C.2.1 dX10_readsAll_37 (by decide) ?_
    refine lv_aload_n C.1 C.2.1 dX10_readsAll_38 rfl (lv_at hl 0 rfl) ?_
    refine lv_iload_n C.1 C.2.1 dX10_readsAll_39 rfl (lv_at hl 1 rfl) ?_
    refine lv_iload_n C.1 C.2.1 dX10_readsAll_40 rfl (lv_at hl 2 rfl) ?_
    obtain ⟨q6, hq6, hD⟩ := Option.bind_eq_some_iff.mp hD
    refine x_goi hw (x_runV (As := [.int (x1), .int (x2)]) (rest := [.int ((0 : Int32)), .ref (X.2.2.1 18 (5))]) (k := 17) (j := 0) C hw (Nat.le_of_ble_eq_true rfl) rfl rfl cV_X10_figure kw_530 (c_X10_figure l X ex x1 x2  z5 q6 hq6) ⟨Nat.le_of_ble_eq_true rfl, Nat.le_of_ble_eq_true rfl⟩ rfl hl.1 rfl (Nat.le_of_ble_eq_true rfl) dX10_readsAll_41 ⟨Nat.le_of_ble_eq_true rfl, Nat.le_of_ble_eq_true rfl⟩) (fun H locs hw => ?_)
    obtain ⟨g7, hD⟩ := gd_some hD
    obtain ⟨z8, hz8, hD⟩ := Option.bind_eq_some_iff.mp hD
    refine x_iast (k := 18) (j := 5) C hw rfl (Nat.le_of_ble_eq_true rfl) (inB_in g7) dX10_readsAll_44 (fun H locs hw => ?_)
    replace hw := xw_eq hz8 hw
    refine lv_aload_n C.1 C.2.1 dX10_readsAll_45 rfl (lv_at hl 0 rfl) ?_
    refine gf_X10_9 C hw kw_535 dX10_readsAll_46 ?_
    refine lv_iconst (v := (0 : Int32)) C.1 C.2.1 dX10_readsAll_49 (by decide) ?_
    obtain ⟨g9, hD⟩ := gd_some hD
    refine x_iald (k := 18) (j := 5) C hw rfl (Nat.le_of_ble_eq_true rfl) (inB_in g9) dX10_readsAll_50 ?_
    refine lv_if_lt (tgt := 67) C.1 C.2.1 dX10_readsAll_51 (by decide) (fun c10 => ?_) (fun c10 => ?_)
    · replace hD := (if_pos c10).symm.trans hD
      refine lv_iconst (v := (0 : Int32)) C.1 C.2.1 dX10_readsAll_67 (by decide) ?_
      refine lv_istore_n (lv' := [(3, .int ((0 : Int32))), (0, .ref (X.2.2.1 17 (0))), (1, .int (x1)), (2, .int (x2))]) C.1 C.2.1 dX10_readsAll_68 rfl hl (by decide) rfl (fun ls hl => ?_)
      exact w_X10_readsAll_69 x1 x2  C hr hk R0   64 (0 : Int32) z8  hD _ _ hw _ (lv_sub hl [1, 2, 3, 0] rfl)
    · replace hD := (if_neg c10).symm.trans hD
      refine lv_aload_n C.1 C.2.1 dX10_readsAll_54 rfl (lv_at hl 0 rfl) ?_
      refine lv_iload_n C.1 C.2.1 dX10_readsAll_55 rfl (lv_at hl 1 rfl) ?_
      refine lv_iload_n C.1 C.2.1 dX10_readsAll_56 rfl (lv_at hl 2 rfl) ?_
      obtain ⟨q16, hq16, hD⟩ := Option.bind_eq_some_iff.mp hD
      refine x_goi hw (x_runV (As := [.int (x1), .int (x2)]) (rest := []) (k := 17) (j := 0) C hw (Nat.le_of_ble_eq_true rfl) rfl rfl cV_X10_readsMore kw_543 (c_X10_readsMore l X ex x1 x2  z8 q16 hq16) ⟨Nat.le_of_ble_eq_true rfl, Nat.le_of_ble_eq_true rfl⟩ rfl hl.1 rfl (Nat.le_of_ble_eq_true rfl) dX10_readsAll_57 ⟨Nat.le_of_ble_eq_true rfl, Nat.le_of_ble_eq_true rfl⟩) (fun H locs hw => ?_)
      refine lv_if_eq (tgt := 67) C.1 C.2.1 dX10_readsAll_60 (by decide) (fun c17 => ?_) (fun c17 => ?_)
      · replace hD := (if_pos c17).symm.trans hD
        refine lv_iconst (v := (0 : Int32)) C.1 C.2.1 dX10_readsAll_67 (by decide) ?_
        refine lv_istore_n (lv' := [(3, .int ((0 : Int32))), (0, .ref (X.2.2.1 17 (0))), (1, .int (x1)), (2, .int (x2))]) C.1 C.2.1 dX10_readsAll_68 rfl hl (by decide) rfl (fun ls hl => ?_)
        exact w_X10_readsAll_69 x1 x2  C hr hk R0   64 (0 : Int32) q16.2  hD _ _ hw _ (lv_sub hl [1, 2, 3, 0] rfl)
      · replace hD := (if_neg c17).symm.trans hD
        refine lv_iconst (v := (1 : Int32)) C.1 C.2.1 dX10_readsAll_63 (by decide) ?_
        refine lv_goto (tgt := 68) C.1 C.2.1 dX10_readsAll_64 (by decide) ?_
        refine lv_istore_n (lv' := [(3, .int ((1 : Int32))), (0, .ref (X.2.2.1 17 (0))), (1, .int (x1)), (2, .int (x2))]) C.1 C.2.1 dX10_readsAll_68 rfl hl (by decide) rfl (fun ls hl => ?_)
        exact w_X10_readsAll_69 x1 x2  C hr hk R0   64 (1 : Int32) q16.2  hD _ _ hw _ (lv_sub hl [1, 2, 3, 0] rfl)
  · replace hD := (if_neg c4).symm.trans hD
    refine lv_iconst (v := (0 : Int32)) C.1 C.2.1 dX10_readsAll_21 (by decide) ?_
    obtain rfl := Option.some.inj hD
    exact x_zret (v := (0 : Int32)) C hw hr hk nb0 dX10_readsAll_22
theorem kw_544 : Cond.constantLong RX10 144 (3 : Int64) ∈ gtbl := gm3 205 rfl rfl
abbrev rm_X10_noSheet : Room := { frames := 1, cells := 0, slots := 0, locals := 25 }
def D_X10_noSheet (x0 : Int32) (z : XS) : Option (Int32 × XS) :=
  (D_X10_in x0.toInt64 (0 : Int64) (3 : Int64) z).bind fun q1 => ((if q1.1 = 0 then some ((1 : Int32), q1.2) else some ((0 : Int32), q1.2)))
set_option maxHeartbeats 4000000 in
set_option maxRecDepth 100000 in
theorem c_X10_noSheet (l : Launch) (X : XC) (ex : va_W) (x0 : Int32) (z : XS) (R0 : Int32 × XS) (hD : D_X10_noSheet x0 z = some R0) : xM l X ex yX10_noSheet cX10_noSheet 1 (some .boolean) rm_X10_noSheet [.int (x0)] z (xQi X ex R0.2 R0.1) := by
  refine x_ent (by decide) (Nat.le_of_ble_eq_true rfl) ?_
  intro p e s m below meth c ls C hr hk hw hl
  replace hl : lv_has ls 1 [(0, .int (x0))] := hl
  unfold D_X10_noSheet at hD
  refine lv_iload_n C.1 C.2.1 dX10_noSheet_0 rfl (lv_at hl 0 rfl) ?_
  refine lv_i2l C.1 C.2.1 dX10_noSheet_1 rfl ?_
  refine lv_lconst (v := (0 : Int64)) C.1 C.2.1 dX10_noSheet_2 (by decide) ?_
  refine lv_ldc2 (v := (3 : Int64)) C.1 C.2.1 C.2.2.2.1 (C.2.2.2.2 _ kw_544) dX10_noSheet_3 ?_
  obtain ⟨q1, hq1, hD⟩ := Option.bind_eq_some_iff.mp hD
  refine x_goi hw (x_runS (As := [.long (x0.toInt64), .long ((0 : Int64)), .long ((3 : Int64))]) (rest := []) C hw cS_X10_in kw_501 (c_X10_in l X ex x0.toInt64 (0 : Int64) (3 : Int64)  z q1 hq1) ⟨Nat.le_of_ble_eq_true rfl, Nat.le_of_ble_eq_true rfl⟩ rfl hl.1 rfl (Nat.le_of_ble_eq_true rfl) dX10_noSheet_6 ⟨Nat.le_of_ble_eq_true rfl, Nat.le_of_ble_eq_true rfl⟩) (fun H locs hw => ?_)
  refine lv_if_ne (tgt := 16) C.1 C.2.1 dX10_noSheet_9 (by decide) (fun c2 => ?_) (fun c2 => ?_)
  · replace hD := (if_neg c2).symm.trans hD
    refine lv_iconst (v := (0 : Int32)) C.1 C.2.1 dX10_noSheet_16 (by decide) ?_
    obtain rfl := Option.some.inj hD
    exact x_zret (v := (0 : Int32)) C hw hr hk nb0 dX10_noSheet_17
  · replace hD := (if_pos c2).symm.trans hD
    refine lv_iconst (v := (1 : Int32)) C.1 C.2.1 dX10_noSheet_12 (by decide) ?_
    refine lv_goto (tgt := 17) C.1 C.2.1 dX10_noSheet_13 (by decide) ?_
    obtain rfl := Option.some.inj hD
    exact x_zret (v := (1 : Int32)) C hw hr hk nb1 dX10_noSheet_17
abbrev rm_X10_isBeyond : Room := { frames := 0, cells := 0, slots := 0, locals := 0 }
def D_X10_isBeyond (x0 : Int32) (x1 : Int64) (x3 : Int32) (z : XS) : Option (Int32 × XS) :=
  (if x0 < 0 then some ((1 : Int32), z) else (if lg_cmp x1 (0 : Int64) < 0 then some ((1 : Int32), z) else (if lg_cmp (x0.toInt64 + x1) x3.toInt64 ≤ 0 then some ((0 : Int32), z) else some ((1 : Int32), z))))
set_option maxHeartbeats 4000000 in
set_option maxRecDepth 100000 in
theorem c_X10_isBeyond (l : Launch) (X : XC) (ex : va_W) (x0 : Int32) (x1 : Int64) (x3 : Int32) (z : XS) (R0 : Int32 × XS) (hD : D_X10_isBeyond x0 x1 x3 z = some R0) : xM l X ex yX10_isBeyond cX10_isBeyond 4 (some .boolean) rm_X10_isBeyond [.int (x0), .long (x1), .int (x3)] z (xQi X ex R0.2 R0.1) := by
  refine x_ent (by decide) (Nat.le_of_ble_eq_true rfl) ?_
  intro p e s m below meth c ls C hr hk hw hl
  replace hl : lv_has ls 4 [(0, .int (x0)), (1, .long (x1)), (3, .int (x3))] := hl
  unfold D_X10_isBeyond at hD
  refine lv_iload_n C.1 C.2.1 dX10_isBeyond_0 rfl (lv_at hl 0 rfl) ?_
  refine lv_if_lt (tgt := 20) C.1 C.2.1 dX10_isBeyond_1 (by decide) (fun c1 => ?_) (fun c1 => ?_)
  · replace hD := (if_pos c1).symm.trans hD
    refine lv_iconst (v := (1 : Int32)) C.1 C.2.1 dX10_isBeyond_20 (by decide) ?_
    refine lv_goto (tgt := 25) C.1 C.2.1 dX10_isBeyond_21 (by decide) ?_
    obtain rfl := Option.some.inj hD
    exact x_zret (v := (1 : Int32)) C hw hr hk nb1 dX10_isBeyond_25
  · replace hD := (if_neg c1).symm.trans hD
    refine lv_lload_n C.1 C.2.1 dX10_isBeyond_4 rfl (lv_at hl 1 rfl) ?_
    refine lv_lconst (v := (0 : Int64)) C.1 C.2.1 dX10_isBeyond_5 (by decide) ?_
    refine W.lcmp C.1 C.2.1 dX10_isBeyond_6 ?_
    refine lv_if_lt (tgt := 20) C.1 C.2.1 dX10_isBeyond_7 (by decide) (fun c2 => ?_) (fun c2 => ?_)
    · replace hD := (if_pos c2).symm.trans hD
      refine lv_iconst (v := (1 : Int32)) C.1 C.2.1 dX10_isBeyond_20 (by decide) ?_
      refine lv_goto (tgt := 25) C.1 C.2.1 dX10_isBeyond_21 (by decide) ?_
      obtain rfl := Option.some.inj hD
      exact x_zret (v := (1 : Int32)) C hw hr hk nb1 dX10_isBeyond_25
    · replace hD := (if_neg c2).symm.trans hD
      refine lv_iload_n C.1 C.2.1 dX10_isBeyond_10 rfl (lv_at hl 0 rfl) ?_
      refine lv_i2l C.1 C.2.1 dX10_isBeyond_11 rfl ?_
      refine lv_lload_n C.1 C.2.1 dX10_isBeyond_12 rfl (lv_at hl 1 rfl) ?_
      refine lv_ladd C.1 C.2.1 dX10_isBeyond_13 ?_
      refine lv_iload_n C.1 C.2.1 dX10_isBeyond_14 rfl (lv_at hl 2 rfl) ?_
      refine lv_i2l C.1 C.2.1 dX10_isBeyond_15 rfl ?_
      refine W.lcmp C.1 C.2.1 dX10_isBeyond_16 ?_
      refine lv_if_le (tgt := 24) C.1 C.2.1 dX10_isBeyond_17 (by decide) (fun c3 => ?_) (fun c3 => ?_)
      · replace hD := (if_pos c3).symm.trans hD
        refine lv_iconst (v := (0 : Int32)) C.1 C.2.1 dX10_isBeyond_24 (by decide) ?_
        obtain rfl := Option.some.inj hD
        exact x_zret (v := (0 : Int32)) C hw hr hk nb0 dX10_isBeyond_25
      · replace hD := (if_neg c3).symm.trans hD
        refine lv_iconst (v := (1 : Int32)) C.1 C.2.1 dX10_isBeyond_20 (by decide) ?_
        refine lv_goto (tgt := 25) C.1 C.2.1 dX10_isBeyond_21 (by decide) ?_
        obtain rfl := Option.some.inj hD
        exact x_zret (v := (1 : Int32)) C hw hr hk nb1 dX10_isBeyond_25
theorem kw_545 : Cond.code yX10_noSheet cX10_noSheet 1 (some .boolean) ∈ gtbl := gm3 204 rfl rfl
theorem nd_X10_noSheet : (yX10_noSheet).cls ≠ "java/lang/invoke/MethodHandle" ∧ (yX10_noSheet).cls ≠ "java/lang/invoke/VarHandle" ∧ (parseMethodDescriptor (yX10_noSheet).desc).map (fun d => d.parameters.length) = some 1 := by decide +kernel
theorem kw_547 : Cond.static yX10_noSheet ∈ gtbl := gm3 203 rfl rfl
theorem cS_X10_noSheet : xcS yX10_noSheet cX10_noSheet 1 (some .boolean) 1 := ⟨⟨kw_545, kw_490, nd_X10_noSheet⟩, kw_547⟩
theorem kw_549 : Cond.methodLink RX10 107 yX10_noSheet ∈ gtbl := gm3 202 rfl rfl
theorem kw_550 : Cond.constantLong RX10 115 (2 : Int64) ∈ gtbl := gm3 213 rfl rfl
theorem kw_551 : Cond.fieldLink RX10 49 (TX10 18).1 (TX10 18).2.1 (TX10 18).2.2.1 ∈ gtbl := gm3 146 rfl rfl
theorem gf_X10_18 {p : Program} {l : Launch} {e : Env} {R : Room} {s : State} {m : MethodId} {args : Array Value} {below : List Frame} {meth : Method} {c : Code} {H : Heap} {locs : List Loc} {cells slots : Nat} {Q : State → Prop} {cc : ByteArray} {pc nL index : Nat} {ls : Array Slot} {rest : List Value} {X : XC} {ex : va_W} {z : XS} {own : String} (C : CallFix p m c cc nL s args gtbl own) (hw : xw X ex z s H locs) (hlink : Cond.fieldLink own index (TX10 18).1 (TX10 18).2.1 (TX10 18).2.2.1 ∈ gtbl) (hdg : decode cc pc = .ok (.getfield index, 3)) (kk : W p l e R s m args below meth c H locs cells slots Q (F0 m (pc + 3) ls (.ref (X.2.2.1 18 13) :: rest))) : W p l e R s m args below meth c H locs cells slots Q (F0 m pc ls (.ref (X.2.2.1 17 0) :: rest)) :=
  x_get (k := 17) (j := 0) C hw (Nat.le_of_ble_eq_true rfl) 18 (v := .ref (X.2.2.1 18 13)) rfl rfl ixX10 (by decide) hlink rfl hdg kk
theorem kw_553 : Cond.code yX10_isBeyond cX10_isBeyond 4 (some .boolean) ∈ gtbl := gm3 220 rfl rfl
theorem nd_X10_isBeyond : (yX10_isBeyond).cls ≠ "java/lang/invoke/MethodHandle" ∧ (yX10_isBeyond).cls ≠ "java/lang/invoke/VarHandle" ∧ (parseMethodDescriptor (yX10_isBeyond).desc).map (fun d => d.parameters.length) = some 3 := by decide +kernel
theorem kw_555 : Cond.static yX10_isBeyond ∈ gtbl := gm3 219 rfl rfl
theorem cS_X10_isBeyond : xcS yX10_isBeyond cX10_isBeyond 4 (some .boolean) 3 := ⟨⟨kw_553, kw_490, nd_X10_isBeyond⟩, kw_555⟩
theorem kw_557 : Cond.methodLink RX10 120 yX10_isBeyond ∈ gtbl := gm3 218 rfl rfl
theorem kw_558 : Cond.code yX10_readsAll cX10_readsAll 4 (some .boolean) ∈ gtbl := gm3 224 rfl rfl
theorem nd_X10_readsAll : (yX10_readsAll).cls ≠ "java/lang/invoke/MethodHandle" ∧ (yX10_readsAll).cls ≠ "java/lang/invoke/VarHandle" ∧ (parseMethodDescriptor (yX10_readsAll).desc).map (fun d => d.parameters.length) = some 2 := by decide +kernel
theorem kw_560 : Cond.instanceMethod yX10_readsAll ∈ gtbl := gm3 223 rfl rfl
theorem kw_561 : Cond.selects RX10 yX10_readsAll yX10_readsAll ∈ gtbl := gm0 9 rfl rfl
theorem cV_X10_readsAll : xcV yX10_readsAll cX10_readsAll 4 (some .boolean) 2 := ⟨⟨kw_558, kw_490, nd_X10_readsAll⟩, kw_560, kw_561⟩
theorem kw_563 : Cond.methodLink RX10 124 yX10_readsAll ∈ gtbl := gm3 221 rfl rfl
theorem pf_X10_1 {p : Program} {l : Launch} {e : Env} {R : Room} {s : State} {m : MethodId} {args : Array Value} {below : List Frame} {meth : Method} {c : Code} {H : Heap} {locs : List Loc} {cells slots : Nat} {Q : State → Prop} {cc : ByteArray} {pc nL index : Nat} {ls : Array Slot} {rest : List Value} {X : XC} {ex : va_W} {z : XS} {own : String} (C : CallFix p m c cc nL s args gtbl own) (hw : xw X ex z s H locs) {v : Int32} (hlink : Cond.fieldLink own index (TX10 1).1 (TX10 1).2.1 (TX10 1).2.2.1 ∈ gtbl) (hdg : decode cc pc = .ok (.putfield index, 3)) (kk : ∀ (H1 : Heap) (locs1 : List Loc), xw X ex (pS z 17 1 0 v) s H1 locs1 → W p l e R s m args below meth c H1 locs1 cells slots Q (F0 m (pc + 3) ls rest)) : W p l e R s m args below meth c H locs cells slots Q (F0 m pc ls (.int v :: .ref (X.2.2.1 17 0) :: rest)) :=
  x_put (k := 17) (j := 0) C hw (Nat.le_of_ble_eq_true rfl) 1 (v := v) rfl rfl rfl ixX10 tyX10 tyX10_ok nmX10 (by decide) hlink rfl (by decide +kernel) (Nat.le_of_ble_eq_true rfl) hdg kk
theorem kw_565 : Cond.fieldLink RX10 127 (TX10 12).1 (TX10 12).2.1 (TX10 12).2.2.1 ∈ gtbl := gm3 140 rfl rfl
theorem pf_X10_12 {p : Program} {l : Launch} {e : Env} {R : Room} {s : State} {m : MethodId} {args : Array Value} {below : List Frame} {meth : Method} {c : Code} {H : Heap} {locs : List Loc} {cells slots : Nat} {Q : State → Prop} {cc : ByteArray} {pc nL index : Nat} {ls : Array Slot} {rest : List Value} {X : XC} {ex : va_W} {z : XS} {own : String} (C : CallFix p m c cc nL s args gtbl own) (hw : xw X ex z s H locs) {v : Int32} (hlink : Cond.fieldLink own index (TX10 12).1 (TX10 12).2.1 (TX10 12).2.2.1 ∈ gtbl) (hdg : decode cc pc = .ok (.putfield index, 3)) (kk : ∀ (H1 : Heap) (locs1 : List Loc), xw X ex (pS z 17 12 0 v) s H1 locs1 → W p l e R s m args below meth c H1 locs1 cells slots Q (F0 m (pc + 3) ls rest)) : W p l e R s m args below meth c H locs cells slots Q (F0 m pc ls (.int v :: .ref (X.2.2.1 17 0) :: rest)) :=
  x_put (k := 17) (j := 0) C hw (Nat.le_of_ble_eq_true rfl) 12 (v := v) rfl rfl rfl ixX10 tyX10 tyX10_ok nmX10 (by decide) hlink rfl (by decide +kernel) (Nat.le_of_ble_eq_true rfl) hdg kk
theorem kw_567 : Cond.code yX10_refused cX10_refused 2 (some .int) ∈ gtbl := gm3 212 rfl rfl
theorem nd_X10_refused : (yX10_refused).cls ≠ "java/lang/invoke/MethodHandle" ∧ (yX10_refused).cls ≠ "java/lang/invoke/VarHandle" ∧ (parseMethodDescriptor (yX10_refused).desc).map (fun d => d.parameters.length) = some 1 := by decide +kernel
theorem kw_569 : Cond.instanceMethod yX10_refused ∈ gtbl := gm3 211 rfl rfl
theorem kw_570 : Cond.selects RX10 yX10_refused yX10_refused ∈ gtbl := gm0 7 rfl rfl
theorem cV_X10_refused : xcV yX10_refused cX10_refused 2 (some .int) 1 := ⟨⟨kw_567, kw_490, nd_X10_refused⟩, kw_569, kw_570⟩
theorem kw_572 : Cond.methodLink RX10 111 yX10_refused ∈ gtbl := gm3 209 rfl rfl
theorem kw_573 : Cond.fieldLink RX10 22 (TX10 6).1 (TX10 6).2.1 (TX10 6).2.2.1 ∈ gtbl := gm3 134 rfl rfl
theorem gf_X10_6 {p : Program} {l : Launch} {e : Env} {R : Room} {s : State} {m : MethodId} {args : Array Value} {below : List Frame} {meth : Method} {c : Code} {H : Heap} {locs : List Loc} {cells slots : Nat} {Q : State → Prop} {cc : ByteArray} {pc nL index : Nat} {ls : Array Slot} {rest : List Value} {X : XC} {ex : va_W} {z : XS} {own : String} (C : CallFix p m c cc nL s args gtbl own) (hw : xw X ex z s H locs) (hlink : Cond.fieldLink own index (TX10 6).1 (TX10 6).2.1 (TX10 6).2.2.1 ∈ gtbl) (hdg : decode cc pc = .ok (.getfield index, 3)) (kk : W p l e R s m args below meth c H locs cells slots Q (F0 m (pc + 3) ls (.ref (X.2.2.1 18 4) :: rest))) : W p l e R s m args below meth c H locs cells slots Q (F0 m pc ls (.ref (X.2.2.1 17 0) :: rest)) :=
  x_get (k := 17) (j := 0) C hw (Nat.le_of_ble_eq_true rfl) 6 (v := .ref (X.2.2.1 18 4)) rfl rfl ixX10 (by decide) hlink rfl hdg kk
theorem kw_575 : Cond.fieldLink RX10 19 (TX10 5).1 (TX10 5).2.1 (TX10 5).2.2.1 ∈ gtbl := gm3 133 rfl rfl
theorem gf_X10_5 {p : Program} {l : Launch} {e : Env} {R : Room} {s : State} {m : MethodId} {args : Array Value} {below : List Frame} {meth : Method} {c : Code} {H : Heap} {locs : List Loc} {cells slots : Nat} {Q : State → Prop} {cc : ByteArray} {pc nL index : Nat} {ls : Array Slot} {rest : List Value} {X : XC} {ex : va_W} {z : XS} {own : String} (C : CallFix p m c cc nL s args gtbl own) (hw : xw X ex z s H locs) (hlink : Cond.fieldLink own index (TX10 5).1 (TX10 5).2.1 (TX10 5).2.2.1 ∈ gtbl) (hdg : decode cc pc = .ok (.getfield index, 3)) (kk : W p l e R s m args below meth c H locs cells slots Q (F0 m (pc + 3) ls (.ref (X.2.2.1 18 3) :: rest))) : W p l e R s m args below meth c H locs cells slots Q (F0 m pc ls (.ref (X.2.2.1 17 0) :: rest)) :=
  x_get (k := 17) (j := 0) C hw (Nat.le_of_ble_eq_true rfl) 5 (v := .ref (X.2.2.1 18 3)) rfl rfl ixX10 (by decide) hlink rfl hdg kk
theorem kw_577 : Cond.fieldLink RX10 13 (TX10 3).1 (TX10 3).2.1 (TX10 3).2.2.1 ∈ gtbl := gm3 131 rfl rfl
theorem gf_X10_3 {p : Program} {l : Launch} {e : Env} {R : Room} {s : State} {m : MethodId} {args : Array Value} {below : List Frame} {meth : Method} {c : Code} {H : Heap} {locs : List Loc} {cells slots : Nat} {Q : State → Prop} {cc : ByteArray} {pc nL index : Nat} {ls : Array Slot} {rest : List Value} {X : XC} {ex : va_W} {z : XS} {own : String} (C : CallFix p m c cc nL s args gtbl own) (hw : xw X ex z s H locs) (hlink : Cond.fieldLink own index (TX10 3).1 (TX10 3).2.1 (TX10 3).2.2.1 ∈ gtbl) (hdg : decode cc pc = .ok (.getfield index, 3)) (kk : W p l e R s m args below meth c H locs cells slots Q (F0 m (pc + 3) ls (.ref (X.2.2.1 18 1) :: rest))) : W p l e R s m args below meth c H locs cells slots Q (F0 m pc ls (.ref (X.2.2.1 17 0) :: rest)) :=
  x_get (k := 17) (j := 0) C hw (Nat.le_of_ble_eq_true rfl) 3 (v := .ref (X.2.2.1 18 1)) rfl rfl ixX10 (by decide) hlink rfl hdg kk
theorem kw_579 : Cond.fieldLink RX10 16 (TX10 4).1 (TX10 4).2.1 (TX10 4).2.2.1 ∈ gtbl := gm3 132 rfl rfl
theorem gf_X10_4 {p : Program} {l : Launch} {e : Env} {R : Room} {s : State} {m : MethodId} {args : Array Value} {below : List Frame} {meth : Method} {c : Code} {H : Heap} {locs : List Loc} {cells slots : Nat} {Q : State → Prop} {cc : ByteArray} {pc nL index : Nat} {ls : Array Slot} {rest : List Value} {X : XC} {ex : va_W} {z : XS} {own : String} (C : CallFix p m c cc nL s args gtbl own) (hw : xw X ex z s H locs) (hlink : Cond.fieldLink own index (TX10 4).1 (TX10 4).2.1 (TX10 4).2.2.1 ∈ gtbl) (hdg : decode cc pc = .ok (.getfield index, 3)) (kk : W p l e R s m args below meth c H locs cells slots Q (F0 m (pc + 3) ls (.ref (X.2.2.1 18 2) :: rest))) : W p l e R s m args below meth c H locs cells slots Q (F0 m pc ls (.ref (X.2.2.1 17 0) :: rest)) :=
  x_get (k := 17) (j := 0) C hw (Nat.le_of_ble_eq_true rfl) 4 (v := .ref (X.2.2.1 18 2)) rfl rfl ixX10 (by decide) hlink rfl hdg kk
theorem kw_581 : Cond.fieldLink RX10 7 (TX10 2).1 (TX10 2).2.1 (TX10 2).2.2.1 ∈ gtbl := gm3 130 rfl rfl
theorem gf_X10_2 {p : Program} {l : Launch} {e : Env} {R : Room} {s : State} {m : MethodId} {args : Array Value} {below : List Frame} {meth : Method} {c : Code} {H : Heap} {locs : List Loc} {cells slots : Nat} {Q : State → Prop} {cc : ByteArray} {pc nL index : Nat} {ls : Array Slot} {rest : List Value} {X : XC} {ex : va_W} {z : XS} {own : String} (C : CallFix p m c cc nL s args gtbl own) (hw : xw X ex z s H locs) (hlink : Cond.fieldLink own index (TX10 2).1 (TX10 2).2.1 (TX10 2).2.2.1 ∈ gtbl) (hdg : decode cc pc = .ok (.getfield index, 3)) (kk : W p l e R s m args below meth c H locs cells slots Q (F0 m (pc + 3) ls (.ref (X.2.2.1 18 0) :: rest))) : W p l e R s m args below meth c H locs cells slots Q (F0 m pc ls (.ref (X.2.2.1 17 0) :: rest)) :=
  x_get (k := 17) (j := 0) C hw (Nat.le_of_ble_eq_true rfl) 2 (v := .ref (X.2.2.1 18 0)) rfl rfl ixX10 (by decide) hlink rfl hdg kk
theorem kw_583 : Cond.code yX10_failed cX10_failed 2 (some .int) ∈ gtbl := gm3 217 rfl rfl
theorem nd_X10_failed : (yX10_failed).cls ≠ "java/lang/invoke/MethodHandle" ∧ (yX10_failed).cls ≠ "java/lang/invoke/VarHandle" ∧ (parseMethodDescriptor (yX10_failed).desc).map (fun d => d.parameters.length) = some 1 := by decide +kernel
theorem kw_585 : Cond.instanceMethod yX10_failed ∈ gtbl := gm3 216 rfl rfl
theorem kw_586 : Cond.selects RX10 yX10_failed yX10_failed ∈ gtbl := gm0 8 rfl rfl
theorem cV_X10_failed : xcV yX10_failed cX10_failed 2 (some .int) 1 := ⟨⟨kw_583, kw_490, nd_X10_failed⟩, kw_585, kw_586⟩
theorem kw_588 : Cond.methodLink RX10 117 yX10_failed ∈ gtbl := gm3 214 rfl rfl
theorem kw_589 : Cond.fieldLink RX10 52 (TX10 19).1 (TX10 19).2.1 (TX10 19).2.2.1 ∈ gtbl := gm3 147 rfl rfl
theorem gf_X10_19 {p : Program} {l : Launch} {e : Env} {R : Room} {s : State} {m : MethodId} {args : Array Value} {below : List Frame} {meth : Method} {c : Code} {H : Heap} {locs : List Loc} {cells slots : Nat} {Q : State → Prop} {cc : ByteArray} {pc nL index : Nat} {ls : Array Slot} {rest : List Value} {X : XC} {ex : va_W} {z : XS} {own : String} (C : CallFix p m c cc nL s args gtbl own) (hw : xw X ex z s H locs) (hlink : Cond.fieldLink own index (TX10 19).1 (TX10 19).2.1 (TX10 19).2.2.1 ∈ gtbl) (hdg : decode cc pc = .ok (.getfield index, 3)) (kk : W p l e R s m args below meth c H locs cells slots Q (F0 m (pc + 3) ls (.ref (X.2.2.1 18 14) :: rest))) : W p l e R s m args below meth c H locs cells slots Q (F0 m pc ls (.ref (X.2.2.1 17 0) :: rest)) :=
  x_get (k := 17) (j := 0) C hw (Nat.le_of_ble_eq_true rfl) 19 (v := .ref (X.2.2.1 18 14)) rfl rfl ixX10 (by decide) hlink rfl hdg kk
abbrev rm_X10_gardens : Room := { frames := 4, cells := 0, slots := 0, locals := 97 }
def B_X10_gardens_246 (x1 : Int32) (x2 : Int32) (x3 : Int32) (x4 : Int32) (k246_ : Int32 → XS → Option (Int32 × XS)) (y5 : Int32) (z : XS) : Option (Int32 × XS) :=
  (if (180 : Int32) ≤ y5 then (some (pS z 17 12 0 (0 : Int32))).bind fun z21 => ((D_X10_refused (gS z21 17 1 0) z21).bind fun q22 => (some (q22.1, q22.2))) else gd (inB y5 180) ((some (pA z 18 4 y5.toNatClampNeg (-9 : Int32))).bind fun z24 => (k246_ (y5 + 1) z24)))
def L_X10_gardens_246 (x1 : Int32) (x2 : Int32) (x3 : Int32) (x4 : Int32) : Nat → Int32 → XS → Option (Int32 × XS)
  | 0 => fun _ _ => none
  | n + 1 => B_X10_gardens_246 x1 x2 x3 x4  (L_X10_gardens_246 x1 x2 x3 x4  n)
set_option maxHeartbeats 4000000 in
set_option maxRecDepth 100000 in
theorem w_X10_gardens_246 {p : Program} {l : Launch} {e : Env} {s : State} {m : MethodId} {below : List Frame} {meth : Method} {c : Code} {X : XC} {ex : va_W} (x1 : Int32) (x2 : Int32) (x3 : Int32) (x4 : Int32) (C : CallFix p m c cX10_gardens 6 s (([.ref (X.2.2.1 17 (0)), .int (x1), .int (x2), .int (x3), .int (x4)] : List Value).toArray) gtbl RX10) (hr : meth.sig.returnType = (some .int)) (hk : meth.locks = false) (R0 : Int32 × XS)  : ∀ (n : Nat), ∀ (y5 : Int32) (z : XS), L_X10_gardens_246 x1 x2 x3 x4  n y5 z = some R0 → ∀ (H : Heap) (locs : List Loc), xw X ex z s H locs → ∀ (ls : Array Slot), lv_has ls 6 [(0, .ref (X.2.2.1 17 (0))), (5, .int (y5))] → W p l e rm_X10_gardens s m (([.ref (X.2.2.1 17 (0)), .int (x1), .int (x2), .int (x3), .int (x4)] : List Value).toArray) below meth c H locs 0 0 (MQ below (xQi X ex R0.2 R0.1) (([.ref (X.2.2.1 17 (0)), .int (x1), .int (x2), .int (x3), .int (x4)] : List Value).toArray) s 0 0 (xA X)) (F0 m 246 ls []) := by
  intro n
  induction n with
  | zero =>
    intro y5 z  hD
    cases hD
  | succ n ih =>
    intro y5 z  hD H locs hw ls hl
    replace hD : B_X10_gardens_246 x1 x2 x3 x4  (L_X10_gardens_246 x1 x2 x3 x4  n) y5 z = some R0 := hD
    unfold B_X10_gardens_246 at hD
    refine lv_iload C.1 C.2.1 dX10_gardens_246 (lv_at hl 1 rfl) ?_
    refine lv_sipush (v := (180 : Int32)) C.1 C.2.1 dX10_gardens_248 (by decide) ?_
    refine lv_icmp_ge (tgt := 269) C.1 C.2.1 dX10_gardens_251 (by decide) (fun c20 => ?_) (fun c20 => ?_)
    · replace hD := (if_pos c20).symm.trans hD
      refine lv_aload_n C.1 C.2.1 dX10_gardens_269 rfl (lv_at hl 0 rfl) ?_
      refine lv_iconst (v := (0 : Int32)) C.1 C.2.1 dX10_gardens_270 (by decide) ?_
      obtain ⟨z21, hz21, hD⟩ := Option.bind_eq_some_iff.mp hD
      refine pf_X10_12 C hw kw_565 dX10_gardens_271 (fun H locs hw => ?_)
      replace hw := xw_eq hz21 hw
      refine lv_aload_n C.1 C.2.1 dX10_gardens_274 rfl (lv_at hl 0 rfl) ?_
      refine lv_aload_n C.1 C.2.1 dX10_gardens_275 rfl (lv_at hl 0 rfl) ?_
      refine gf_X10_1 C hw kw_495 dX10_gardens_276 ?_
      obtain ⟨q22, hq22, hD⟩ := Option.bind_eq_some_iff.mp hD
      refine x_goi hw (x_runV (As := [.int (gS z21 17 1 0)]) (rest := []) (k := 17) (j := 0) C hw (Nat.le_of_ble_eq_true rfl) rfl rfl cV_X10_refused kw_572 (c_X10_refused l X ex (gS z21 17 1 0)  z21 q22 hq22) ⟨Nat.le_of_ble_eq_true rfl, Nat.le_of_ble_eq_true rfl⟩ rfl hl.1 rfl (Nat.le_of_ble_eq_true rfl) dX10_gardens_279 ⟨Nat.le_of_ble_eq_true rfl, Nat.le_of_ble_eq_true rfl⟩) (fun H locs hw => ?_)
      obtain rfl := Option.some.inj hD
      exact x_iret C hw hr hk dX10_gardens_282
    · replace hD := (if_neg c20).symm.trans hD
      refine lv_aload_n C.1 C.2.1 dX10_gardens_254 rfl (lv_at hl 0 rfl) ?_
      refine gf_X10_6 C hw kw_573 dX10_gardens_255 ?_
      refine lv_iload C.1 C.2.1 dX10_gardens_258 (lv_at hl 1 rfl) ?_
      refine lv_bipush (v := (-9 : Int32)) C.1 C.2.1 dX10_gardens_260 (by decide) ?_
      obtain ⟨g23, hD⟩ := gd_some hD
      obtain ⟨z24, hz24, hD⟩ := Option.bind_eq_some_iff.mp hD
      refine x_iast (k := 18) (j := 4) C hw rfl (Nat.le_of_ble_eq_true rfl) (inB_in g23) dX10_gardens_262 (fun H locs hw => ?_)
      replace hw := xw_eq hz24 hw
      refine lv_iinc (v := y5 + 1) (lv' := [(5, .int (y5 + 1)), (0, .ref (X.2.2.1 17 (0)))]) C.1 C.2.1 dX10_gardens_263 hl (k := 1) rfl rfl (by decide) rfl (fun ls hl => ?_)
      refine lv_goto (tgt := 246) C.1 C.2.1 dX10_gardens_266 (by decide) ?_
      exact ih (y5 + 1) z24  hD _ _ hw _ (lv_sub hl [1, 0] rfl)
def B_X10_gardens_221 (x1 : Int32) (x2 : Int32) (x3 : Int32) (x4 : Int32) (k221_ : Int32 → XS → Option (Int32 × XS)) (y5 : Int32) (z : XS) : Option (Int32 × XS) :=
  (if (420 : Int32) ≤ y5 then L_X10_gardens_246 x1 x2 x3 x4  200 (0 : Int32) z else gd (inB y5 420) ((some (pA z 18 3 y5.toNatClampNeg (0 : Int32))).bind fun z26 => (k221_ (y5 + 1) z26)))
def L_X10_gardens_221 (x1 : Int32) (x2 : Int32) (x3 : Int32) (x4 : Int32) : Nat → Int32 → XS → Option (Int32 × XS)
  | 0 => fun _ _ => none
  | n + 1 => B_X10_gardens_221 x1 x2 x3 x4  (L_X10_gardens_221 x1 x2 x3 x4  n)
set_option maxHeartbeats 4000000 in
set_option maxRecDepth 100000 in
theorem w_X10_gardens_221 {p : Program} {l : Launch} {e : Env} {s : State} {m : MethodId} {below : List Frame} {meth : Method} {c : Code} {X : XC} {ex : va_W} (x1 : Int32) (x2 : Int32) (x3 : Int32) (x4 : Int32) (C : CallFix p m c cX10_gardens 6 s (([.ref (X.2.2.1 17 (0)), .int (x1), .int (x2), .int (x3), .int (x4)] : List Value).toArray) gtbl RX10) (hr : meth.sig.returnType = (some .int)) (hk : meth.locks = false) (R0 : Int32 × XS)  : ∀ (n : Nat), ∀ (y5 : Int32) (z : XS), L_X10_gardens_221 x1 x2 x3 x4  n y5 z = some R0 → ∀ (H : Heap) (locs : List Loc), xw X ex z s H locs → ∀ (ls : Array Slot), lv_has ls 6 [(0, .ref (X.2.2.1 17 (0))), (5, .int (y5))] → W p l e rm_X10_gardens s m (([.ref (X.2.2.1 17 (0)), .int (x1), .int (x2), .int (x3), .int (x4)] : List Value).toArray) below meth c H locs 0 0 (MQ below (xQi X ex R0.2 R0.1) (([.ref (X.2.2.1 17 (0)), .int (x1), .int (x2), .int (x3), .int (x4)] : List Value).toArray) s 0 0 (xA X)) (F0 m 221 ls []) := by
  intro n
  induction n with
  | zero =>
    intro y5 z  hD
    cases hD
  | succ n ih =>
    intro y5 z  hD H locs hw ls hl
    replace hD : B_X10_gardens_221 x1 x2 x3 x4  (L_X10_gardens_221 x1 x2 x3 x4  n) y5 z = some R0 := hD
    unfold B_X10_gardens_221 at hD
    refine lv_iload C.1 C.2.1 dX10_gardens_221 (lv_at hl 1 rfl) ?_
    refine lv_sipush (v := (420 : Int32)) C.1 C.2.1 dX10_gardens_223 (by decide) ?_
    refine lv_icmp_ge (tgt := 243) C.1 C.2.1 dX10_gardens_226 (by decide) (fun c19 => ?_) (fun c19 => ?_)
    · replace hD := (if_pos c19).symm.trans hD
      refine lv_iconst (v := (0 : Int32)) C.1 C.2.1 dX10_gardens_243 (by decide) ?_
      refine lv_istore (lv' := [(5, .int ((0 : Int32))), (0, .ref (X.2.2.1 17 (0)))]) C.1 C.2.1 dX10_gardens_244 hl (by decide) rfl (fun ls hl => ?_)
      exact w_X10_gardens_246 x1 x2 x3 x4  C hr hk R0   200 (0 : Int32) z  hD _ _ hw _ (lv_sub hl [1, 0] rfl)
    · replace hD := (if_neg c19).symm.trans hD
      refine lv_aload_n C.1 C.2.1 dX10_gardens_229 rfl (lv_at hl 0 rfl) ?_
      refine gf_X10_5 C hw kw_575 dX10_gardens_230 ?_
      refine lv_iload C.1 C.2.1 dX10_gardens_233 (lv_at hl 1 rfl) ?_
      refine lv_iconst (v := (0 : Int32)) C.1 C.2.1 dX10_gardens_235 (by decide) ?_
      obtain ⟨g25, hD⟩ := gd_some hD
      obtain ⟨z26, hz26, hD⟩ := Option.bind_eq_some_iff.mp hD
      refine x_iast (k := 18) (j := 3) C hw rfl (Nat.le_of_ble_eq_true rfl) (inB_in g25) dX10_gardens_236 (fun H locs hw => ?_)
      replace hw := xw_eq hz26 hw
      refine lv_iinc (v := y5 + 1) (lv' := [(5, .int (y5 + 1)), (0, .ref (X.2.2.1 17 (0)))]) C.1 C.2.1 dX10_gardens_237 hl (k := 1) rfl rfl (by decide) rfl (fun ls hl => ?_)
      refine lv_goto (tgt := 221) C.1 C.2.1 dX10_gardens_240 (by decide) ?_
      exact ih (y5 + 1) z26  hD _ _ hw _ (lv_sub hl [1, 0] rfl)
def B_X10_gardens_175 (x1 : Int32) (x2 : Int32) (x3 : Int32) (x4 : Int32) (k175_ : Int32 → XS → Option (Int32 × XS)) (y5 : Int32) (z : XS) : Option (Int32 × XS) :=
  (D_X10_hedges  z).bind fun q17 => ((if q17.1 ≤ y5 then L_X10_gardens_221 x1 x2 x3 x4  450 (0 : Int32) q17.2 else gd (inB y5 6) (gd (inB y5 6) ((some (pA q17.2 18 1 y5.toNatClampNeg (gA q17.2 18 6 y5.toNatClampNeg))).bind fun z29 => (gd (inB y5 6) (gd (inB y5 6) ((some (pA z29 18 2 y5.toNatClampNeg (gA z29 18 7 y5.toNatClampNeg))).bind fun z32 => (k175_ (y5 + 1) z32))))))))
def L_X10_gardens_175 (x1 : Int32) (x2 : Int32) (x3 : Int32) (x4 : Int32) : Nat → Int32 → XS → Option (Int32 × XS)
  | 0 => fun _ _ => none
  | n + 1 => B_X10_gardens_175 x1 x2 x3 x4  (L_X10_gardens_175 x1 x2 x3 x4  n)
set_option maxHeartbeats 4000000 in
set_option maxRecDepth 100000 in
theorem w_X10_gardens_175 {p : Program} {l : Launch} {e : Env} {s : State} {m : MethodId} {below : List Frame} {meth : Method} {c : Code} {X : XC} {ex : va_W} (x1 : Int32) (x2 : Int32) (x3 : Int32) (x4 : Int32) (C : CallFix p m c cX10_gardens 6 s (([.ref (X.2.2.1 17 (0)), .int (x1), .int (x2), .int (x3), .int (x4)] : List Value).toArray) gtbl RX10) (hr : meth.sig.returnType = (some .int)) (hk : meth.locks = false) (R0 : Int32 × XS)  : ∀ (n : Nat), ∀ (y5 : Int32) (z : XS), L_X10_gardens_175 x1 x2 x3 x4  n y5 z = some R0 → ∀ (H : Heap) (locs : List Loc), xw X ex z s H locs → ∀ (ls : Array Slot), lv_has ls 6 [(0, .ref (X.2.2.1 17 (0))), (5, .int (y5))] → W p l e rm_X10_gardens s m (([.ref (X.2.2.1 17 (0)), .int (x1), .int (x2), .int (x3), .int (x4)] : List Value).toArray) below meth c H locs 0 0 (MQ below (xQi X ex R0.2 R0.1) (([.ref (X.2.2.1 17 (0)), .int (x1), .int (x2), .int (x3), .int (x4)] : List Value).toArray) s 0 0 (xA X)) (F0 m 175 ls []) := by
  intro n
  induction n with
  | zero =>
    intro y5 z  hD
    cases hD
  | succ n ih =>
    intro y5 z  hD H locs hw ls hl
    replace hD : B_X10_gardens_175 x1 x2 x3 x4  (L_X10_gardens_175 x1 x2 x3 x4  n) y5 z = some R0 := hD
    unfold B_X10_gardens_175 at hD
    refine lv_iload C.1 C.2.1 dX10_gardens_175 (lv_at hl 1 rfl) ?_
    refine lv_aload_n C.1 C.2.1 dX10_gardens_177 rfl (lv_at hl 0 rfl) ?_
    obtain ⟨q17, hq17, hD⟩ := Option.bind_eq_some_iff.mp hD
    refine x_goi hw (x_runV (As := []) (rest := [.int (y5)]) (k := 17) (j := 0) C hw (Nat.le_of_ble_eq_true rfl) rfl rfl cV_X10_hedges kw_507 (c_X10_hedges l X ex   z q17 hq17) ⟨Nat.le_of_ble_eq_true rfl, Nat.le_of_ble_eq_true rfl⟩ rfl hl.1 rfl (Nat.le_of_ble_eq_true rfl) dX10_gardens_178 ⟨Nat.le_of_ble_eq_true rfl, Nat.le_of_ble_eq_true rfl⟩) (fun H locs hw => ?_)
    refine lv_icmp_ge (tgt := 218) C.1 C.2.1 dX10_gardens_181 (by decide) (fun c18 => ?_) (fun c18 => ?_)
    · replace hD := (if_pos c18).symm.trans hD
      refine lv_iconst (v := (0 : Int32)) C.1 C.2.1 dX10_gardens_218 (by decide) ?_
      refine lv_istore (lv' := [(5, .int ((0 : Int32))), (0, .ref (X.2.2.1 17 (0)))]) C.1 C.2.1 dX10_gardens_219 hl (by decide) rfl (fun ls hl => ?_)
      exact w_X10_gardens_221 x1 x2 x3 x4  C hr hk R0   450 (0 : Int32) q17.2  hD _ _ hw _ (lv_sub hl [1, 0] rfl)
    · replace hD := (if_neg c18).symm.trans hD
      refine lv_aload_n C.1 C.2.1 dX10_gardens_184 rfl (lv_at hl 0 rfl) ?_
      refine gf_X10_3 C hw kw_577 dX10_gardens_185 ?_
      refine lv_iload C.1 C.2.1 dX10_gardens_188 (lv_at hl 1 rfl) ?_
      refine lv_aload_n C.1 C.2.1 dX10_gardens_190 rfl (lv_at hl 0 rfl) ?_
      refine gf_X10_10 C hw kw_531 dX10_gardens_191 ?_
      refine lv_iload C.1 C.2.1 dX10_gardens_194 (lv_at hl 1 rfl) ?_
      obtain ⟨g27, hD⟩ := gd_some hD
      refine x_iald (k := 18) (j := 6) C hw rfl (Nat.le_of_ble_eq_true rfl) (inB_in g27) dX10_gardens_196 ?_
      obtain ⟨g28, hD⟩ := gd_some hD
      obtain ⟨z29, hz29, hD⟩ := Option.bind_eq_some_iff.mp hD
      refine x_iast (k := 18) (j := 1) C hw rfl (Nat.le_of_ble_eq_true rfl) (inB_in g28) dX10_gardens_197 (fun H locs hw => ?_)
      replace hw := xw_eq hz29 hw
      refine lv_aload_n C.1 C.2.1 dX10_gardens_198 rfl (lv_at hl 0 rfl) ?_
      refine gf_X10_4 C hw kw_579 dX10_gardens_199 ?_
      refine lv_iload C.1 C.2.1 dX10_gardens_202 (lv_at hl 1 rfl) ?_
      refine lv_aload_n C.1 C.2.1 dX10_gardens_204 rfl (lv_at hl 0 rfl) ?_
      refine gf_X10_11 C hw kw_533 dX10_gardens_205 ?_
      refine lv_iload C.1 C.2.1 dX10_gardens_208 (lv_at hl 1 rfl) ?_
      obtain ⟨g30, hD⟩ := gd_some hD
      refine x_iald (k := 18) (j := 7) C hw rfl (Nat.le_of_ble_eq_true rfl) (inB_in g30) dX10_gardens_210 ?_
      obtain ⟨g31, hD⟩ := gd_some hD
      obtain ⟨z32, hz32, hD⟩ := Option.bind_eq_some_iff.mp hD
      refine x_iast (k := 18) (j := 2) C hw rfl (Nat.le_of_ble_eq_true rfl) (inB_in g31) dX10_gardens_211 (fun H locs hw => ?_)
      replace hw := xw_eq hz32 hw
      refine lv_iinc (v := y5 + 1) (lv' := [(5, .int (y5 + 1)), (0, .ref (X.2.2.1 17 (0)))]) C.1 C.2.1 dX10_gardens_212 hl (k := 1) rfl rfl (by decide) rfl (fun ls hl => ?_)
      refine lv_goto (tgt := 175) C.1 C.2.1 dX10_gardens_215 (by decide) ?_
      exact ih (y5 + 1) z32  hD _ _ hw _ (lv_sub hl [1, 0] rfl)
def B_X10_gardens_143 (x1 : Int32) (x2 : Int32) (x3 : Int32) (x4 : Int32) (k143_ : Int32 → XS → Option (Int32 × XS)) (y5 : Int32) (z : XS) : Option (Int32 × XS) :=
  (if gS z 17 1 0 ≤ y5 then L_X10_gardens_175 x1 x2 x3 x4  64 (0 : Int32) z else gd (inB y5 7) (gd (inB y5 7) ((some (pA z 18 0 y5.toNatClampNeg (gA z 18 5 y5.toNatClampNeg))).bind fun z35 => (k143_ (y5 + 1) z35))))
def L_X10_gardens_143 (x1 : Int32) (x2 : Int32) (x3 : Int32) (x4 : Int32) : Nat → Int32 → XS → Option (Int32 × XS)
  | 0 => fun _ _ => none
  | n + 1 => B_X10_gardens_143 x1 x2 x3 x4  (L_X10_gardens_143 x1 x2 x3 x4  n)
set_option maxHeartbeats 4000000 in
set_option maxRecDepth 100000 in
theorem w_X10_gardens_143 {p : Program} {l : Launch} {e : Env} {s : State} {m : MethodId} {below : List Frame} {meth : Method} {c : Code} {X : XC} {ex : va_W} (x1 : Int32) (x2 : Int32) (x3 : Int32) (x4 : Int32) (C : CallFix p m c cX10_gardens 6 s (([.ref (X.2.2.1 17 (0)), .int (x1), .int (x2), .int (x3), .int (x4)] : List Value).toArray) gtbl RX10) (hr : meth.sig.returnType = (some .int)) (hk : meth.locks = false) (R0 : Int32 × XS)  : ∀ (n : Nat), ∀ (y5 : Int32) (z : XS), L_X10_gardens_143 x1 x2 x3 x4  n y5 z = some R0 → ∀ (H : Heap) (locs : List Loc), xw X ex z s H locs → ∀ (ls : Array Slot), lv_has ls 6 [(0, .ref (X.2.2.1 17 (0))), (5, .int (y5))] → W p l e rm_X10_gardens s m (([.ref (X.2.2.1 17 (0)), .int (x1), .int (x2), .int (x3), .int (x4)] : List Value).toArray) below meth c H locs 0 0 (MQ below (xQi X ex R0.2 R0.1) (([.ref (X.2.2.1 17 (0)), .int (x1), .int (x2), .int (x3), .int (x4)] : List Value).toArray) s 0 0 (xA X)) (F0 m 143 ls []) := by
  intro n
  induction n with
  | zero =>
    intro y5 z  hD
    cases hD
  | succ n ih =>
    intro y5 z  hD H locs hw ls hl
    replace hD : B_X10_gardens_143 x1 x2 x3 x4  (L_X10_gardens_143 x1 x2 x3 x4  n) y5 z = some R0 := hD
    unfold B_X10_gardens_143 at hD
    refine lv_iload C.1 C.2.1 dX10_gardens_143 (lv_at hl 1 rfl) ?_
    refine lv_aload_n C.1 C.2.1 dX10_gardens_145 rfl (lv_at hl 0 rfl) ?_
    refine gf_X10_1 C hw kw_495 dX10_gardens_146 ?_
    refine lv_icmp_ge (tgt := 172) C.1 C.2.1 dX10_gardens_149 (by decide) (fun c16 => ?_) (fun c16 => ?_)
    · replace hD := (if_pos c16).symm.trans hD
      refine lv_iconst (v := (0 : Int32)) C.1 C.2.1 dX10_gardens_172 (by decide) ?_
      refine lv_istore (lv' := [(5, .int ((0 : Int32))), (0, .ref (X.2.2.1 17 (0)))]) C.1 C.2.1 dX10_gardens_173 hl (by decide) rfl (fun ls hl => ?_)
      exact w_X10_gardens_175 x1 x2 x3 x4  C hr hk R0   64 (0 : Int32) z  hD _ _ hw _ (lv_sub hl [1, 0] rfl)
    · replace hD := (if_neg c16).symm.trans hD
      refine lv_aload_n C.1 C.2.1 dX10_gardens_152 rfl (lv_at hl 0 rfl) ?_
      refine gf_X10_2 C hw kw_581 dX10_gardens_153 ?_
      refine lv_iload C.1 C.2.1 dX10_gardens_156 (lv_at hl 1 rfl) ?_
      refine lv_aload_n C.1 C.2.1 dX10_gardens_158 rfl (lv_at hl 0 rfl) ?_
      refine gf_X10_9 C hw kw_535 dX10_gardens_159 ?_
      refine lv_iload C.1 C.2.1 dX10_gardens_162 (lv_at hl 1 rfl) ?_
      obtain ⟨g33, hD⟩ := gd_some hD
      refine x_iald (k := 18) (j := 5) C hw rfl (Nat.le_of_ble_eq_true rfl) (inB_in g33) dX10_gardens_164 ?_
      obtain ⟨g34, hD⟩ := gd_some hD
      obtain ⟨z35, hz35, hD⟩ := Option.bind_eq_some_iff.mp hD
      refine x_iast (k := 18) (j := 0) C hw rfl (Nat.le_of_ble_eq_true rfl) (inB_in g34) dX10_gardens_165 (fun H locs hw => ?_)
      replace hw := xw_eq hz35 hw
      refine lv_iinc (v := y5 + 1) (lv' := [(5, .int (y5 + 1)), (0, .ref (X.2.2.1 17 (0)))]) C.1 C.2.1 dX10_gardens_166 hl (k := 1) rfl rfl (by decide) rfl (fun ls hl => ?_)
      refine lv_goto (tgt := 143) C.1 C.2.1 dX10_gardens_169 (by decide) ?_
      exact ih (y5 + 1) z35  hD _ _ hw _ (lv_sub hl [1, 0] rfl)
def J_X10_gardens_57 (x1 : Int32) (x2 : Int32) (x3 : Int32) (x4 : Int32)  (z : XS) : Option (Int32 × XS) :=
  gd (inB x1 4) ((if 0 ≤ gA z 18 13 x1.toNatClampNeg then (if 0 ≤ x4 then gd (inB x1 4) ((D_X10_isBeyond x3 x4.toInt64 (gA z 18 13 x1.toNatClampNeg) z).bind fun q11 => ((if q11.1 = 0 then (D_X10_readsAll (((60 : Int32) * x1) + x3) x4 q11.2).bind fun q13 => ((if q13.1 = 0 then (D_X10_refused ((-100 : Int32) - (gS q13.2 17 7 0)) q13.2).bind fun q36 => (some (q36.1, q36.2)) else (some (pS q13.2 17 1 0 (gS q13.2 17 8 0))).bind fun z15 => (L_X10_gardens_143 x1 x2 x3 x4  64 (0 : Int32) z15))) else (D_X10_failed (3 : Int32) q11.2).bind fun q37 => (some (q37.1, q37.2))))) else (D_X10_failed (4 : Int32) z).bind fun q38 => (some (q38.1, q38.2))) else (D_X10_failed (1 : Int32) z).bind fun q39 => (some (q39.1, q39.2))))
set_option maxHeartbeats 4000000 in
set_option maxRecDepth 100000 in
theorem w_X10_gardens_57 {p : Program} {l : Launch} {e : Env} {s : State} {m : MethodId} {below : List Frame} {meth : Method} {c : Code} {X : XC} {ex : va_W} (x1 : Int32) (x2 : Int32) (x3 : Int32) (x4 : Int32) (C : CallFix p m c cX10_gardens 6 s (([.ref (X.2.2.1 17 (0)), .int (x1), .int (x2), .int (x3), .int (x4)] : List Value).toArray) gtbl RX10) (hr : meth.sig.returnType = (some .int)) (hk : meth.locks = false) (R0 : Int32 × XS)  : ∀  (z : XS), J_X10_gardens_57 x1 x2 x3 x4   z = some R0 → ∀ (H : Heap) (locs : List Loc), xw X ex z s H locs → ∀ (ls : Array Slot), lv_has ls 6 [(0, .ref (X.2.2.1 17 (0))), (1, .int (x1)), (3, .int (x3)), (4, .int (x4))] → W p l e rm_X10_gardens s m (([.ref (X.2.2.1 17 (0)), .int (x1), .int (x2), .int (x3), .int (x4)] : List Value).toArray) below meth c H locs 0 0 (MQ below (xQi X ex R0.2 R0.1) (([.ref (X.2.2.1 17 (0)), .int (x1), .int (x2), .int (x3), .int (x4)] : List Value).toArray) s 0 0 (xA X)) (F0 m 57 ls []) := by
  intro  z  hD H locs hw ls hl
  unfold J_X10_gardens_57 at hD
  refine lv_aload_n C.1 C.2.1 dX10_gardens_57 rfl (lv_at hl 0 rfl) ?_
  refine gf_X10_18 C hw kw_551 dX10_gardens_58 ?_
  refine lv_iload_n C.1 C.2.1 dX10_gardens_61 rfl (lv_at hl 1 rfl) ?_
  obtain ⟨g7, hD⟩ := gd_some hD
  refine x_iald (k := 18) (j := 13) C hw rfl (Nat.le_of_ble_eq_true rfl) (inB_in g7) dX10_gardens_62 ?_
  refine lv_if_ge (tgt := 72) C.1 C.2.1 dX10_gardens_63 (by decide) (fun c8 => ?_) (fun c8 => ?_)
  · replace hD := (if_pos c8).symm.trans hD
    refine lv_iload C.1 C.2.1 dX10_gardens_72 (lv_at hl 3 rfl) ?_
    refine lv_if_ge (tgt := 83) C.1 C.2.1 dX10_gardens_74 (by decide) (fun c9 => ?_) (fun c9 => ?_)
    · replace hD := (if_pos c9).symm.trans hD
      refine lv_iload_n C.1 C.2.1 dX10_gardens_83 rfl (lv_at hl 2 rfl) ?_
      refine lv_iload C.1 C.2.1 dX10_gardens_84 (lv_at hl 3 rfl) ?_
      refine lv_i2l C.1 C.2.1 dX10_gardens_86 rfl ?_
      refine lv_aload_n C.1 C.2.1 dX10_gardens_87 rfl (lv_at hl 0 rfl) ?_
      refine gf_X10_18 C hw kw_551 dX10_gardens_88 ?_
      refine lv_iload_n C.1 C.2.1 dX10_gardens_91 rfl (lv_at hl 1 rfl) ?_
      obtain ⟨g10, hD⟩ := gd_some hD
      refine x_iald (k := 18) (j := 13) C hw rfl (Nat.le_of_ble_eq_true rfl) (inB_in g10) dX10_gardens_92 ?_
      obtain ⟨q11, hq11, hD⟩ := Option.bind_eq_some_iff.mp hD
      refine x_goi hw (x_runS (As := [.int (x3), .long (x4.toInt64), .int (gA z 18 13 x1.toNatClampNeg)]) (rest := []) C hw cS_X10_isBeyond kw_557 (c_X10_isBeyond l X ex x3 x4.toInt64 (gA z 18 13 x1.toNatClampNeg)  z q11 hq11) ⟨Nat.le_of_ble_eq_true rfl, Nat.le_of_ble_eq_true rfl⟩ rfl hl.1 rfl (Nat.le_of_ble_eq_true rfl) dX10_gardens_93 ⟨Nat.le_of_ble_eq_true rfl, Nat.le_of_ble_eq_true rfl⟩) (fun H locs hw => ?_)
      refine lv_if_eq (tgt := 105) C.1 C.2.1 dX10_gardens_96 (by decide) (fun c12 => ?_) (fun c12 => ?_)
      · replace hD := (if_pos c12).symm.trans hD
        refine lv_aload_n C.1 C.2.1 dX10_gardens_105 rfl (lv_at hl 0 rfl) ?_
        refine lv_bipush (v := (60 : Int32)) C.1 C.2.1 dX10_gardens_106 (by decide) ?_
        refine lv_iload_n C.1 C.2.1 dX10_gardens_108 rfl (lv_at hl 1 rfl) ?_
        refine lv_imul C.1 C.2.1 dX10_gardens_109 ?_
        refine lv_iload_n C.1 C.2.1 dX10_gardens_110 rfl (lv_at hl 2 rfl) ?_
        refine lv_iadd C.1 C.2.1 dX10_gardens_111 ?_
        refine lv_iload C.1 C.2.1 dX10_gardens_112 (lv_at hl 3 rfl) ?_
        obtain ⟨q13, hq13, hD⟩ := Option.bind_eq_some_iff.mp hD
        refine x_goi hw (x_runV (As := [.int (((60 : Int32) * x1) + x3), .int (x4)]) (rest := []) (k := 17) (j := 0) C hw (Nat.le_of_ble_eq_true rfl) rfl rfl cV_X10_readsAll kw_563 (c_X10_readsAll l X ex (((60 : Int32) * x1) + x3) x4  q11.2 q13 hq13) ⟨Nat.le_of_ble_eq_true rfl, Nat.le_of_ble_eq_true rfl⟩ rfl hl.1 rfl (Nat.le_of_ble_eq_true rfl) dX10_gardens_114 ⟨Nat.le_of_ble_eq_true rfl, Nat.le_of_ble_eq_true rfl⟩) (fun H locs hw => ?_)
        refine lv_if_ne (tgt := 132) C.1 C.2.1 dX10_gardens_117 (by decide) (fun c14 => ?_) (fun c14 => ?_)
        · replace hD := (if_neg c14).symm.trans hD
          refine lv_aload_n C.1 C.2.1 dX10_gardens_132 rfl (lv_at hl 0 rfl) ?_
          refine lv_aload_n C.1 C.2.1 dX10_gardens_133 rfl (lv_at hl 0 rfl) ?_
          refine gf_X10_8 C hw kw_523 dX10_gardens_134 ?_
          obtain ⟨z15, hz15, hD⟩ := Option.bind_eq_some_iff.mp hD
          refine pf_X10_1 C hw kw_495 dX10_gardens_137 (fun H locs hw => ?_)
          replace hw := xw_eq hz15 hw
          refine lv_iconst (v := (0 : Int32)) C.1 C.2.1 dX10_gardens_140 (by decide) ?_
          refine lv_istore (lv' := [(5, .int ((0 : Int32))), (0, .ref (X.2.2.1 17 (0))), (1, .int (x1)), (3, .int (x3)), (4, .int (x4))]) C.1 C.2.1 dX10_gardens_141 hl (by decide) rfl (fun ls hl => ?_)
          exact w_X10_gardens_143 x1 x2 x3 x4  C hr hk R0   64 (0 : Int32) z15  hD _ _ hw _ (lv_sub hl [1, 0] rfl)
        · replace hD := (if_pos c14).symm.trans hD
          refine lv_aload_n C.1 C.2.1 dX10_gardens_120 rfl (lv_at hl 0 rfl) ?_
          refine lv_bipush (v := (-100 : Int32)) C.1 C.2.1 dX10_gardens_121 (by decide) ?_
          refine lv_aload_n C.1 C.2.1 dX10_gardens_123 rfl (lv_at hl 0 rfl) ?_
          refine gf_X10_7 C hw kw_511 dX10_gardens_124 ?_
          refine lv_isub C.1 C.2.1 dX10_gardens_127 ?_
          obtain ⟨q36, hq36, hD⟩ := Option.bind_eq_some_iff.mp hD
          refine x_goi hw (x_runV (As := [.int ((-100 : Int32) - (gS q13.2 17 7 0))]) (rest := []) (k := 17) (j := 0) C hw (Nat.le_of_ble_eq_true rfl) rfl rfl cV_X10_refused kw_572 (c_X10_refused l X ex ((-100 : Int32) - (gS q13.2 17 7 0))  q13.2 q36 hq36) ⟨Nat.le_of_ble_eq_true rfl, Nat.le_of_ble_eq_true rfl⟩ rfl hl.1 rfl (Nat.le_of_ble_eq_true rfl) dX10_gardens_128 ⟨Nat.le_of_ble_eq_true rfl, Nat.le_of_ble_eq_true rfl⟩) (fun H locs hw => ?_)
          obtain rfl := Option.some.inj hD
          exact x_iret C hw hr hk dX10_gardens_131
      · replace hD := (if_neg c12).symm.trans hD
        refine lv_aload_n C.1 C.2.1 dX10_gardens_99 rfl (lv_at hl 0 rfl) ?_
        refine lv_iconst (v := (3 : Int32)) C.1 C.2.1 dX10_gardens_100 (by decide) ?_
        obtain ⟨q37, hq37, hD⟩ := Option.bind_eq_some_iff.mp hD
        refine x_goi hw (x_runV (As := [.int ((3 : Int32))]) (rest := []) (k := 17) (j := 0) C hw (Nat.le_of_ble_eq_true rfl) rfl rfl cV_X10_failed kw_588 (c_X10_failed l X ex (3 : Int32)  q11.2 q37 hq37) ⟨Nat.le_of_ble_eq_true rfl, Nat.le_of_ble_eq_true rfl⟩ rfl hl.1 rfl (Nat.le_of_ble_eq_true rfl) dX10_gardens_101 ⟨Nat.le_of_ble_eq_true rfl, Nat.le_of_ble_eq_true rfl⟩) (fun H locs hw => ?_)
        obtain rfl := Option.some.inj hD
        exact x_iret C hw hr hk dX10_gardens_104
    · replace hD := (if_neg c9).symm.trans hD
      refine lv_aload_n C.1 C.2.1 dX10_gardens_77 rfl (lv_at hl 0 rfl) ?_
      refine lv_iconst (v := (4 : Int32)) C.1 C.2.1 dX10_gardens_78 (by decide) ?_
      obtain ⟨q38, hq38, hD⟩ := Option.bind_eq_some_iff.mp hD
      refine x_goi hw (x_runV (As := [.int ((4 : Int32))]) (rest := []) (k := 17) (j := 0) C hw (Nat.le_of_ble_eq_true rfl) rfl rfl cV_X10_failed kw_588 (c_X10_failed l X ex (4 : Int32)  z q38 hq38) ⟨Nat.le_of_ble_eq_true rfl, Nat.le_of_ble_eq_true rfl⟩ rfl hl.1 rfl (Nat.le_of_ble_eq_true rfl) dX10_gardens_79 ⟨Nat.le_of_ble_eq_true rfl, Nat.le_of_ble_eq_true rfl⟩) (fun H locs hw => ?_)
      obtain rfl := Option.some.inj hD
      exact x_iret C hw hr hk dX10_gardens_82
  · replace hD := (if_neg c8).symm.trans hD
    refine lv_aload_n C.1 C.2.1 dX10_gardens_66 rfl (lv_at hl 0 rfl) ?_
    refine lv_iconst (v := (1 : Int32)) C.1 C.2.1 dX10_gardens_67 (by decide) ?_
    obtain ⟨q39, hq39, hD⟩ := Option.bind_eq_some_iff.mp hD
    refine x_goi hw (x_runV (As := [.int ((1 : Int32))]) (rest := []) (k := 17) (j := 0) C hw (Nat.le_of_ble_eq_true rfl) rfl rfl cV_X10_failed kw_588 (c_X10_failed l X ex (1 : Int32)  z q39 hq39) ⟨Nat.le_of_ble_eq_true rfl, Nat.le_of_ble_eq_true rfl⟩ rfl hl.1 rfl (Nat.le_of_ble_eq_true rfl) dX10_gardens_68 ⟨Nat.le_of_ble_eq_true rfl, Nat.le_of_ble_eq_true rfl⟩) (fun H locs hw => ?_)
    obtain rfl := Option.some.inj hD
    exact x_iret C hw hr hk dX10_gardens_71
def D_X10_gardens (x1 : Int32) (x2 : Int32) (x3 : Int32) (x4 : Int32) (z : XS) : Option (Int32 × XS) :=
  (D_X10_noSheet x1 z).bind fun q1 => ((if q1.1 = 0 then (D_X10_in x2.toInt64 (0 : Int64) (2 : Int64) q1.2).bind fun q3 => ((if q3.1 = 0 then (D_X10_refused (-2 : Int32) q3.2).bind fun q43 => (some (q43.1, q43.2)) else gd (inB x1 4) ((if gA q3.2 18 13 x1.toNatClampNeg < 0 then J_X10_gardens_57 x1 x2 x3 x4   q3.2 else gd (inB x1 4) ((if gA q3.2 18 14 x1.toNatClampNeg = x2 then J_X10_gardens_57 x1 x2 x3 x4   q3.2 else (D_X10_failed (2 : Int32) q3.2).bind fun q42 => (some (q42.1, q42.2)))))))) else (D_X10_refused (-1 : Int32) q1.2).bind fun q44 => (some (q44.1, q44.2))))
set_option maxHeartbeats 4000000 in
set_option maxRecDepth 100000 in
theorem c_X10_gardens (l : Launch) (X : XC) (ex : va_W) (x1 : Int32) (x2 : Int32) (x3 : Int32) (x4 : Int32) (z : XS) (R0 : Int32 × XS) (hD : D_X10_gardens x1 x2 x3 x4 z = some R0) : xM l X ex yX10_gardens cX10_gardens 6 (some .int) rm_X10_gardens [.ref (X.2.2.1 17 (0)), .int (x1), .int (x2), .int (x3), .int (x4)] z (xQi X ex R0.2 R0.1) := by
  refine x_ent (by decide) (Nat.le_of_ble_eq_true rfl) ?_
  intro p e s m below meth c ls C hr hk hw hl
  replace hl : lv_has ls 6 [(0, .ref (X.2.2.1 17 (0))), (1, .int (x1)), (2, .int (x2)), (3, .int (x3)), (4, .int (x4))] := hl
  unfold D_X10_gardens at hD
  refine lv_iload_n C.1 C.2.1 dX10_gardens_0 rfl (lv_at hl 1 rfl) ?_
  obtain ⟨q1, hq1, hD⟩ := Option.bind_eq_some_iff.mp hD
  refine x_goi hw (x_runS (As := [.int (x1)]) (rest := []) C hw cS_X10_noSheet kw_549 (c_X10_noSheet l X ex x1  z q1 hq1) ⟨Nat.le_of_ble_eq_true rfl, Nat.le_of_ble_eq_true rfl⟩ rfl hl.1 rfl (Nat.le_of_ble_eq_true rfl) dX10_gardens_1 ⟨Nat.le_of_ble_eq_true rfl, Nat.le_of_ble_eq_true rfl⟩) (fun H locs hw => ?_)
  refine lv_if_eq (tgt := 13) C.1 C.2.1 dX10_gardens_4 (by decide) (fun c2 => ?_) (fun c2 => ?_)
  · replace hD := (if_pos c2).symm.trans hD
    refine lv_iload_n C.1 C.2.1 dX10_gardens_13 rfl (lv_at hl 2 rfl) ?_
    refine lv_i2l C.1 C.2.1 dX10_gardens_14 rfl ?_
    refine lv_lconst (v := (0 : Int64)) C.1 C.2.1 dX10_gardens_15 (by decide) ?_
    refine lv_ldc2 (v := (2 : Int64)) C.1 C.2.1 C.2.2.2.1 (C.2.2.2.2 _ kw_550) dX10_gardens_16 ?_
    obtain ⟨q3, hq3, hD⟩ := Option.bind_eq_some_iff.mp hD
    refine x_goi hw (x_runS (As := [.long (x2.toInt64), .long ((0 : Int64)), .long ((2 : Int64))]) (rest := []) C hw cS_X10_in kw_501 (c_X10_in l X ex x2.toInt64 (0 : Int64) (2 : Int64)  q1.2 q3 hq3) ⟨Nat.le_of_ble_eq_true rfl, Nat.le_of_ble_eq_true rfl⟩ rfl hl.1 rfl (Nat.le_of_ble_eq_true rfl) dX10_gardens_19 ⟨Nat.le_of_ble_eq_true rfl, Nat.le_of_ble_eq_true rfl⟩) (fun H locs hw => ?_)
    refine lv_if_ne (tgt := 32) C.1 C.2.1 dX10_gardens_22 (by decide) (fun c4 => ?_) (fun c4 => ?_)
    · replace hD := (if_neg c4).symm.trans hD
      refine lv_aload_n C.1 C.2.1 dX10_gardens_32 rfl (lv_at hl 0 rfl) ?_
      refine gf_X10_18 C hw kw_551 dX10_gardens_33 ?_
      refine lv_iload_n C.1 C.2.1 dX10_gardens_36 rfl (lv_at hl 1 rfl) ?_
      obtain ⟨g5, hD⟩ := gd_some hD
      refine x_iald (k := 18) (j := 13) C hw rfl (Nat.le_of_ble_eq_true rfl) (inB_in g5) dX10_gardens_37 ?_
      refine lv_if_lt (tgt := 57) C.1 C.2.1 dX10_gardens_38 (by decide) (fun c6 => ?_) (fun c6 => ?_)
      · replace hD := (if_pos c6).symm.trans hD
        exact w_X10_gardens_57 x1 x2 x3 x4  C hr hk R0    q3.2  hD _ _ hw _ (lv_sub hl [0, 1, 3, 4] rfl)
      · replace hD := (if_neg c6).symm.trans hD
        refine lv_aload_n C.1 C.2.1 dX10_gardens_41 rfl (lv_at hl 0 rfl) ?_
        refine gf_X10_19 C hw kw_589 dX10_gardens_42 ?_
        refine lv_iload_n C.1 C.2.1 dX10_gardens_45 rfl (lv_at hl 1 rfl) ?_
        obtain ⟨g40, hD⟩ := gd_some hD
        refine x_iald (k := 18) (j := 14) C hw rfl (Nat.le_of_ble_eq_true rfl) (inB_in g40) dX10_gardens_46 ?_
        refine lv_iload_n C.1 C.2.1 dX10_gardens_47 rfl (lv_at hl 2 rfl) ?_
        refine lv_icmp_eq (tgt := 57) C.1 C.2.1 dX10_gardens_48 (by decide) (fun c41 => ?_) (fun c41 => ?_)
        · replace hD := (if_pos c41).symm.trans hD
          exact w_X10_gardens_57 x1 x2 x3 x4  C hr hk R0    q3.2  hD _ _ hw _ (lv_sub hl [0, 1, 3, 4] rfl)
        · replace hD := (if_neg c41).symm.trans hD
          refine lv_aload_n C.1 C.2.1 dX10_gardens_51 rfl (lv_at hl 0 rfl) ?_
          refine lv_iconst (v := (2 : Int32)) C.1 C.2.1 dX10_gardens_52 (by decide) ?_
          obtain ⟨q42, hq42, hD⟩ := Option.bind_eq_some_iff.mp hD
          refine x_goi hw (x_runV (As := [.int ((2 : Int32))]) (rest := []) (k := 17) (j := 0) C hw (Nat.le_of_ble_eq_true rfl) rfl rfl cV_X10_failed kw_588 (c_X10_failed l X ex (2 : Int32)  q3.2 q42 hq42) ⟨Nat.le_of_ble_eq_true rfl, Nat.le_of_ble_eq_true rfl⟩ rfl hl.1 rfl (Nat.le_of_ble_eq_true rfl) dX10_gardens_53 ⟨Nat.le_of_ble_eq_true rfl, Nat.le_of_ble_eq_true rfl⟩) (fun H locs hw => ?_)
          obtain rfl := Option.some.inj hD
          exact x_iret C hw hr hk dX10_gardens_56
    · replace hD := (if_pos c4).symm.trans hD
      refine lv_aload_n C.1 C.2.1 dX10_gardens_25 rfl (lv_at hl 0 rfl) ?_
      refine lv_bipush (v := (-2 : Int32)) C.1 C.2.1 dX10_gardens_26 (by decide) ?_
      obtain ⟨q43, hq43, hD⟩ := Option.bind_eq_some_iff.mp hD
      refine x_goi hw (x_runV (As := [.int ((-2 : Int32))]) (rest := []) (k := 17) (j := 0) C hw (Nat.le_of_ble_eq_true rfl) rfl rfl cV_X10_refused kw_572 (c_X10_refused l X ex (-2 : Int32)  q3.2 q43 hq43) ⟨Nat.le_of_ble_eq_true rfl, Nat.le_of_ble_eq_true rfl⟩ rfl hl.1 rfl (Nat.le_of_ble_eq_true rfl) dX10_gardens_28 ⟨Nat.le_of_ble_eq_true rfl, Nat.le_of_ble_eq_true rfl⟩) (fun H locs hw => ?_)
      obtain rfl := Option.some.inj hD
      exact x_iret C hw hr hk dX10_gardens_31
  · replace hD := (if_neg c2).symm.trans hD
    refine lv_aload_n C.1 C.2.1 dX10_gardens_7 rfl (lv_at hl 0 rfl) ?_
    refine lv_iconst (v := (-1 : Int32)) C.1 C.2.1 dX10_gardens_8 (by decide) ?_
    obtain ⟨q44, hq44, hD⟩ := Option.bind_eq_some_iff.mp hD
    refine x_goi hw (x_runV (As := [.int ((-1 : Int32))]) (rest := []) (k := 17) (j := 0) C hw (Nat.le_of_ble_eq_true rfl) rfl rfl cV_X10_refused kw_572 (c_X10_refused l X ex (-1 : Int32)  q1.2 q44 hq44) ⟨Nat.le_of_ble_eq_true rfl, Nat.le_of_ble_eq_true rfl⟩ rfl hl.1 rfl (Nat.le_of_ble_eq_true rfl) dX10_gardens_9 ⟨Nat.le_of_ble_eq_true rfl, Nat.le_of_ble_eq_true rfl⟩) (fun H locs hw => ?_)
    obtain rfl := Option.some.inj hD
    exact x_iret C hw hr hk dX10_gardens_12
theorem kw_591 : Cond.code yX10_noGarden cX10_noGarden 2 (some .boolean) ∈ gtbl := gm4 9 rfl rfl
theorem nd_X10_noGarden : (yX10_noGarden).cls ≠ "java/lang/invoke/MethodHandle" ∧ (yX10_noGarden).cls ≠ "java/lang/invoke/VarHandle" ∧ (parseMethodDescriptor (yX10_noGarden).desc).map (fun d => d.parameters.length) = some 1 := by decide +kernel
theorem kw_593 : Cond.instanceMethod yX10_noGarden ∈ gtbl := gm4 8 rfl rfl
theorem kw_594 : Cond.selects RX10 yX10_noGarden yX10_noGarden ∈ gtbl := gm0 14 rfl rfl
theorem cV_X10_noGarden : xcV yX10_noGarden cX10_noGarden 2 (some .boolean) 1 := ⟨⟨kw_591, kw_490, nd_X10_noGarden⟩, kw_593, kw_594⟩
theorem kw_596 : Cond.methodLink RX10 130 yX10_noGarden ∈ gtbl := gm4 6 rfl rfl
abbrev rm_X10_wants : Room := { frames := 2, cells := 0, slots := 0, locals := 46 }
def D_X10_wants (x1 : Int32) (z : XS) : Option (Int32 × XS) :=
  (D_X10_noGarden x1 z).bind fun q1 => ((if q1.1 = 0 then gd (inB x1 7) (some (gA q1.2 18 0 x1.toNatClampNeg, q1.2)) else some ((-1 : Int32), q1.2)))
set_option maxHeartbeats 4000000 in
set_option maxRecDepth 100000 in
theorem c_X10_wants (l : Launch) (X : XC) (ex : va_W) (x1 : Int32) (z : XS) (R0 : Int32 × XS) (hD : D_X10_wants x1 z = some R0) : xM l X ex yX10_wants cX10_wants 2 (some .int) rm_X10_wants [.ref (X.2.2.1 17 (0)), .int (x1)] z (xQi X ex R0.2 R0.1) := by
  refine x_ent (by decide) (Nat.le_of_ble_eq_true rfl) ?_
  intro p e s m below meth c ls C hr hk hw hl
  replace hl : lv_has ls 2 [(0, .ref (X.2.2.1 17 (0))), (1, .int (x1))] := hl
  unfold D_X10_wants at hD
  refine lv_aload_n C.1 C.2.1 dX10_wants_0 rfl (lv_at hl 0 rfl) ?_
  refine lv_iload_n C.1 C.2.1 dX10_wants_1 rfl (lv_at hl 1 rfl) ?_
  obtain ⟨q1, hq1, hD⟩ := Option.bind_eq_some_iff.mp hD
  refine x_goi hw (x_runV (As := [.int (x1)]) (rest := []) (k := 17) (j := 0) C hw (Nat.le_of_ble_eq_true rfl) rfl rfl cV_X10_noGarden kw_596 (c_X10_noGarden l X ex x1  z q1 hq1) ⟨Nat.le_of_ble_eq_true rfl, Nat.le_of_ble_eq_true rfl⟩ rfl hl.1 rfl (Nat.le_of_ble_eq_true rfl) dX10_wants_2 ⟨Nat.le_of_ble_eq_true rfl, Nat.le_of_ble_eq_true rfl⟩) (fun H locs hw => ?_)
  refine lv_if_eq (tgt := 12) C.1 C.2.1 dX10_wants_5 (by decide) (fun c2 => ?_) (fun c2 => ?_)
  · replace hD := (if_pos c2).symm.trans hD
    refine lv_aload_n C.1 C.2.1 dX10_wants_12 rfl (lv_at hl 0 rfl) ?_
    refine gf_X10_2 C hw kw_581 dX10_wants_13 ?_
    refine lv_iload_n C.1 C.2.1 dX10_wants_16 rfl (lv_at hl 1 rfl) ?_
    obtain ⟨g3, hD⟩ := gd_some hD
    refine x_iald (k := 18) (j := 0) C hw rfl (Nat.le_of_ble_eq_true rfl) (inB_in g3) dX10_wants_17 ?_
    obtain rfl := Option.some.inj hD
    exact x_iret C hw hr hk dX10_wants_18
  · replace hD := (if_neg c2).symm.trans hD
    refine lv_iconst (v := (-1 : Int32)) C.1 C.2.1 dX10_wants_8 (by decide) ?_
    refine lv_goto (tgt := 18) C.1 C.2.1 dX10_wants_9 (by decide) ?_
    obtain rfl := Option.some.inj hD
    exact x_iret C hw hr hk dX10_wants_18
