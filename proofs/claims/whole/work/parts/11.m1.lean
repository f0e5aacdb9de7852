abbrev rm_X9_isFeet : Room := { frames := 1, cells := 0, slots := 0, locals := 21 }
def D_X9_isFeet (x0 : Int32) (z : XS) : Option (Int32 × XS) :=
  (D_X9_isWithin x0 (20 : Int32) z).bind fun q1 => (gd (isZ q1.1) (some (q1.1, q1.2)))
set_option maxHeartbeats 4000000 in
set_option maxRecDepth 100000 in
theorem c_X9_isFeet (l : Launch) (X : XC) (ex : va_W) (x0 : Int32) (z : XS) (R0 : Int32 × XS) (hD : D_X9_isFeet x0 z = some R0) : xM l X ex yX9_isFeet cX9_isFeet 1 (some .boolean) rm_X9_isFeet [.int (x0)] z (xQi X ex R0.2 R0.1) := by
  refine x_ent (by decide) (Nat.le_of_ble_eq_true rfl) ?_
  intro p e s m below meth c ls C hr hk hw hl
  replace hl : lv_has ls 1 [(0, .int (x0))] := hl
  unfold D_X9_isFeet at hD
  refine lv_iload_n C.1 C.2.1 dX9_isFeet_0 rfl (lv_at hl 0 rfl) ?_
  refine lv_bipush (v := (20 : Int32)) C.1 C.2.1 dX9_isFeet_1 (by decide) ?_
  obtain ⟨q1, hq1, hD⟩ := Option.bind_eq_some_iff.mp hD
  refine x_goi hw (x_runS (As := [.int (x0), .int ((20 : Int32))]) (rest := []) C hw cS_X9_isWithin kw_5 (c_X9_isWithin l X ex x0 (20 : Int32)  z q1 hq1) ⟨Nat.le_of_ble_eq_true rfl, Nat.le_of_ble_eq_true rfl⟩ rfl hl.1 rfl (Nat.le_of_ble_eq_true rfl) dX9_isFeet_3 ⟨Nat.le_of_ble_eq_true rfl, Nat.le_of_ble_eq_true rfl⟩) (fun H locs hw => ?_)
  obtain ⟨g2, hD⟩ := gd_some hD
  obtain rfl := Option.some.inj hD
  exact x_zret (v := q1.1) C hw hr hk (isZ_n g2) dX9_isFeet_6
abbrev rm_X0_cutBack : Room := { frames := 4, cells := 0, slots := 0, locals := 91 }
def D_X0_cutBack (j0 : Nat) (x1 : Int32) (x2 : Int32) (z : XS) : Option (Int32 × XS) :=
  gd (inB x1 30) (gd (inB x1 30) ((some (pA z 15 j0 x1.toNatClampNeg x2)).bind fun z3 => ((D_X0_growFrom j0 (0 : Int32) x1 z3).bind fun q4 => ((D_X0_growFrom j0 (1 : Int32) x1 q4).bind fun q5 => (some (gA z 15 j0 x1.toNatClampNeg, q5))))))
set_option maxHeartbeats 4000000 in
set_option maxRecDepth 100000 in
theorem c_X0_cutBack (l : Launch) (X : XC) (ex : va_W) (j0 : Nat) (x1 : Int32) (x2 : Int32) (hj0 : j0 < 6) (z : XS) (R0 : Int32 × XS) (hD : D_X0_cutBack j0 x1 x2 z = some R0) : xM l X ex yX0_cutBack cX0_cutBack 4 (some .int) rm_X0_cutBack [.ref (X.2.2.1 9 (j0)), .int (x1), .int (x2)] z (xQi X ex R0.2 R0.1) := by
  refine x_ent (by decide) (Nat.le_of_ble_eq_true rfl) ?_
  intro p e s m below meth c ls C hr hk hw hl
  replace hl : lv_has ls 4 [(0, .ref (X.2.2.1 9 (j0))), (1, .int (x1)), (2, .int (x2))] := hl
  unfold D_X0_cutBack at hD
  refine lv_aload_n C.1 C.2.1 dX0_cutBack_0 rfl (lv_at hl 0 rfl) ?_
  refine gf_X0_3 C hw (j := j0) hj0 kw_71 dX0_cutBack_1 ?_
  refine lv_iload_n C.1 C.2.1 dX0_cutBack_4 rfl (lv_at hl 1 rfl) ?_
  obtain ⟨g1, hD⟩ := gd_some hD
  refine x_iald (k := 15) (j := j0) C hw rfl hj0 (inB_in g1) dX0_cutBack_5 ?_
  refine lv_istore_n (lv' := [(3, .int (gA z 15 j0 x1.toNatClampNeg)), (0, .ref (X.2.2.1 9 (j0))), (1, .int (x1)), (2, .int (x2))]) C.1 C.2.1 dX0_cutBack_6 rfl hl (by decide) rfl (fun ls hl => ?_)
  refine lv_aload_n C.1 C.2.1 dX0_cutBack_7 rfl (lv_at hl 1 rfl) ?_
  refine gf_X0_3 C hw (j := j0) hj0 kw_71 dX0_cutBack_8 ?_
  refine lv_iload_n C.1 C.2.1 dX0_cutBack_11 rfl (lv_at hl 2 rfl) ?_
  refine lv_iload_n C.1 C.2.1 dX0_cutBack_12 rfl (lv_at hl 3 rfl) ?_
  obtain ⟨g2, hD⟩ := gd_some hD
  obtain ⟨z3, hz3, hD⟩ := Option.bind_eq_some_iff.mp hD
  refine x_iast (k := 15) (j := j0) C hw rfl hj0 (inB_in g2) dX0_cutBack_13 (fun H locs hw => ?_)
  replace hw := xw_eq hz3 hw
  refine lv_aload_n C.1 C.2.1 dX0_cutBack_14 rfl (lv_at hl 1 rfl) ?_
  refine lv_iconst (v := (0 : Int32)) C.1 C.2.1 dX0_cutBack_15 (by decide) ?_
  refine lv_iload_n C.1 C.2.1 dX0_cutBack_16 rfl (lv_at hl 2 rfl) ?_
  obtain ⟨q4, hq4, hD⟩ := Option.bind_eq_some_iff.mp hD
  refine x_gov hw (x_runV (As := [.int ((0 : Int32)), .int (x1)]) (rest := []) (k := 9) (j := j0) C hw hj0 rfl rfl cV_X0_growFrom kw_125 (c_X0_growFrom l X ex j0 (0 : Int32) x1 hj0 z3 q4 hq4) ⟨Nat.le_of_ble_eq_true rfl, Nat.le_of_ble_eq_true rfl⟩ rfl hl.1 rfl (Nat.le_of_ble_eq_true rfl) dX0_cutBack_17 ⟨Nat.le_of_ble_eq_true rfl, Nat.le_of_ble_eq_true rfl⟩) (fun H locs hw => ?_)
  refine lv_aload_n C.1 C.2.1 dX0_cutBack_20 rfl (lv_at hl 1 rfl) ?_
  refine lv_iconst (v := (1 : Int32)) C.1 C.2.1 dX0_cutBack_21 (by decide) ?_
  refine lv_iload_n C.1 C.2.1 dX0_cutBack_22 rfl (lv_at hl 2 rfl) ?_
  obtain ⟨q5, hq5, hD⟩ := Option.bind_eq_some_iff.mp hD
  refine x_gov hw (x_runV (As := [.int ((1 : Int32)), .int (x1)]) (rest := []) (k := 9) (j := j0) C hw hj0 rfl rfl cV_X0_growFrom kw_125 (c_X0_growFrom l X ex j0 (1 : Int32) x1 hj0 q4 q5 hq5) ⟨Nat.le_of_ble_eq_true rfl, Nat.le_of_ble_eq_true rfl⟩ rfl hl.1 rfl (Nat.le_of_ble_eq_true rfl) dX0_cutBack_23 ⟨Nat.le_of_ble_eq_true rfl, Nat.le_of_ble_eq_true rfl⟩) (fun H locs hw => ?_)
  refine lv_iload_n C.1 C.2.1 dX0_cutBack_26 rfl (lv_at hl 0 rfl) ?_
  obtain rfl := Option.some.inj hD
  exact x_iret C hw hr hk dX0_cutBack_27
theorem kw_155 : Cond.code yX0_cutBack cX0_cutBack 4 (some .int) ∈ gtbl := gm2 90 rfl rfl
theorem nd_X0_cutBack : (yX0_cutBack).cls ≠ "java/lang/invoke/MethodHandle" ∧ (yX0_cutBack).cls ≠ "java/lang/invoke/VarHandle" ∧ (parseMethodDescriptor (yX0_cutBack).desc).map (fun d => d.parameters.length) = some 2 := by decide +kernel
theorem kw_157 : Cond.instanceMethod yX0_cutBack ∈ gtbl := gm2 88 rfl rfl
theorem kw_158 : Cond.selects RX0 yX0_cutBack yX0_cutBack ∈ gtbl := gm2 89 rfl rfl
theorem cV_X0_cutBack : xcV yX0_cutBack cX0_cutBack 4 (some .int) 2 := ⟨⟨kw_155, kw_78, nd_X0_cutBack⟩, kw_157, kw_158⟩
theorem kw_160 : Cond.methodLink RX9 135 yX0_cutBack ∈ gtbl := gm2 87 rfl rfl
theorem kw_161 : Cond.code yX9_isFeet cX9_isFeet 1 (some .boolean) ∈ gtbl := gm2 86 rfl rfl
theorem nd_X9_isFeet : (yX9_isFeet).cls ≠ "java/lang/invoke/MethodHandle" ∧ (yX9_isFeet).cls ≠ "java/lang/invoke/VarHandle" ∧ (parseMethodDescriptor (yX9_isFeet).desc).map (fun d => d.parameters.length) = some 1 := by decide +kernel
theorem kw_163 : Cond.static yX9_isFeet ∈ gtbl := gm2 85 rfl rfl
theorem cS_X9_isFeet : xcS yX9_isFeet cX9_isFeet 1 (some .boolean) 1 := ⟨⟨kw_161, kw_1, nd_X9_isFeet⟩, kw_163⟩
theorem kw_165 : Cond.methodLink RX9 132 yX9_isFeet ∈ gtbl := gm2 84 rfl rfl
abbrev rm_X9_clip : Room := { frames := 5, cells := 0, slots := 0, locals := 114 }
def J_X9_clip_36 (x1 : Int32) (x2 : Int32) (x3 : Int32)  (z : XS) : Option (Int32 × XS) :=
  gd (inB x1 6) ((D_X0_cutBack x1.toNatClampNeg x2 x3 z).bind fun q7 => (some (q7.1, q7.2)))
set_option maxHeartbeats 4000000 in
set_option maxRecDepth 100000 in
theorem w_X9_clip_36 {p : Program} {l : Launch} {e : Env} {s : State} {m : MethodId} {below : List Frame} {meth : Method} {c : Code} {X : XC} {ex : va_W} (x1 : Int32) (x2 : Int32) (x3 : Int32) (C : CallFix p m c cX9_clip 4 s (([.ref (X.2.2.1 0 (0)), .int (x1), .int (x2), .int (x3)] : List Value).toArray) gtbl RX9) (hr : meth.sig.returnType = (some .int)) (hk : meth.locks = false) (R0 : Int32 × XS)  : ∀  (z : XS), J_X9_clip_36 x1 x2 x3   z = some R0 → ∀ (H : Heap) (locs : List Loc), xw X ex z s H locs → ∀ (ls : Array Slot), lv_has ls 4 [(0, .ref (X.2.2.1 0 (0))), (1, .int (x1)), (2, .int (x2)), (3, .int (x3))] → W p l e rm_X9_clip s m (([.ref (X.2.2.1 0 (0)), .int (x1), .int (x2), .int (x3)] : List Value).toArray) below meth c H locs 0 0 (MQ below (xQi X ex R0.2 R0.1) (([.ref (X.2.2.1 0 (0)), .int (x1), .int (x2), .int (x3)] : List Value).toArray) s 0 0 (xA X)) (F0 m 36 ls []) := by
  intro  z  hD H locs hw ls hl
  unfold J_X9_clip_36 at hD
  refine lv_aload_n C.1 C.2.1 dX9_clip_36 rfl (lv_at hl 0 rfl) ?_
  refine gf_X9_0 C hw kw_86 dX9_clip_37 ?_
  refine gNf_X4_1 C hw (List.mem_of_getElem? (i := 7) rfl) dX9_clip_40 ?_
  refine lv_iload_n C.1 C.2.1 dX9_clip_43 rfl (lv_at hl 1 rfl) ?_
  obtain ⟨g6, hD⟩ := gd_some hD
  refine x_aald (k := 8) (j := 0) (f := fun i => X.2.2.1 9 i) C hw (Nat.le_of_ble_eq_true rfl) 2 rfl rfl rfl (inB_in g6) (a := X.2.2.1 9 (x1.toNatClampNeg)) rfl dX9_clip_44 ?_
  refine lv_iload_n C.1 C.2.1 dX9_clip_45 rfl (lv_at hl 2 rfl) ?_
  refine lv_iload_n C.1 C.2.1 dX9_clip_46 rfl (lv_at hl 3 rfl) ?_
  obtain ⟨q7, hq7, hD⟩ := Option.bind_eq_some_iff.mp hD
  refine x_goi hw (x_runV (As := [.int (x2), .int (x3)]) (rest := []) (k := 9) (j := x1.toNatClampNeg) C hw (inB_lt g6) rfl rfl cV_X0_cutBack kw_160 (c_X0_cutBack l X ex x1.toNatClampNeg x2 x3 (inB_lt g6) z q7 hq7) ⟨Nat.le_of_ble_eq_true rfl, Nat.le_of_ble_eq_true rfl⟩ rfl hl.1 rfl (Nat.le_of_ble_eq_true rfl) dX9_clip_47 ⟨Nat.le_of_ble_eq_true rfl, Nat.le_of_ble_eq_true rfl⟩) (fun H locs hw => ?_)
  obtain rfl := Option.some.inj hD
  exact x_iret C hw hr hk dX9_clip_50
def D_X9_clip (x1 : Int32) (x2 : Int32) (x3 : Int32) (z : XS) : Option (Int32 × XS) :=
  (D_X4_isHedge x1 z).bind fun q1 => ((if q1.1 = 0 then some ((-1 : Int32), q1.2) else (D_X9_isDay x2 q1.2).bind fun q3 => ((if q3.1 = 0 then some ((-2 : Int32), q3.2) else (if x3 = (-9 : Int32) then J_X9_clip_36 x1 x2 x3   q3.2 else (D_X9_isFeet x3 q3.2).bind fun q8 => ((if q8.1 = 0 then some ((-2 : Int32), q8.2) else J_X9_clip_36 x1 x2 x3   q8.2)))))))
set_option maxHeartbeats 4000000 in
set_option maxRecDepth 100000 in
theorem c_X9_clip (l : Launch) (X : XC) (ex : va_W) (x1 : Int32) (x2 : Int32) (x3 : Int32) (z : XS) (R0 : Int32 × XS) (hD : D_X9_clip x1 x2 x3 z = some R0) : xM l X ex yX9_clip cX9_clip 4 (some .int) rm_X9_clip [.ref (X.2.2.1 0 (0)), .int (x1), .int (x2), .int (x3)] z (xQi X ex R0.2 R0.1) := by
  refine x_ent (by decide) (Nat.le_of_ble_eq_true rfl) ?_
  intro p e s m below meth c ls C hr hk hw hl
  replace hl : lv_has ls 4 [(0, .ref (X.2.2.1 0 (0))), (1, .int (x1)), (2, .int (x2)), (3, .int (x3))] := hl
  unfold D_X9_clip at hD
  refine lv_aload_n C.1 C.2.1 dX9_clip_0 rfl (lv_at hl 0 rfl) ?_
  refine gf_X9_0 C hw kw_86 dX9_clip_1 ?_
  refine lv_iload_n C.1 C.2.1 dX9_clip_4 rfl (lv_at hl 1 rfl) ?_
  obtain ⟨q1, hq1, hD⟩ := Option.bind_eq_some_iff.mp hD
  refine x_goi hw (x_runV (As := [.int (x1)]) (rest := []) (k := 1) (j := 0) C hw (Nat.le_of_ble_eq_true rfl) rfl rfl cV_X4_isHedge kw_101 (c_X4_isHedge l X ex x1  z q1 hq1) ⟨Nat.le_of_ble_eq_true rfl, Nat.le_of_ble_eq_true rfl⟩ rfl hl.1 rfl (Nat.le_of_ble_eq_true rfl) dX9_clip_5 ⟨Nat.le_of_ble_eq_true rfl, Nat.le_of_ble_eq_true rfl⟩) (fun H locs hw => ?_)
  refine lv_if_ne (tgt := 13) C.1 C.2.1 dX9_clip_8 (by decide) (fun c2 => ?_) (fun c2 => ?_)
  · replace hD := (if_neg c2).symm.trans hD
    refine lv_iload_n C.1 C.2.1 dX9_clip_13 rfl (lv_at hl 2 rfl) ?_
    obtain ⟨q3, hq3, hD⟩ := Option.bind_eq_some_iff.mp hD
    refine x_goi hw (x_runS (As := [.int (x2)]) (rest := []) C hw cS_X9_isDay kw_135 (c_X9_isDay l X ex x2  q1.2 q3 hq3) ⟨Nat.le_of_ble_eq_true rfl, Nat.le_of_ble_eq_true rfl⟩ rfl hl.1 rfl (Nat.le_of_ble_eq_true rfl) dX9_clip_14 ⟨Nat.le_of_ble_eq_true rfl, Nat.le_of_ble_eq_true rfl⟩) (fun H locs hw => ?_)
    refine lv_if_eq (tgt := 33) C.1 C.2.1 dX9_clip_17 (by decide) (fun c4 => ?_) (fun c4 => ?_)
    · replace hD := (if_pos c4).symm.trans hD
      refine lv_bipush (v := (-2 : Int32)) C.1 C.2.1 dX9_clip_33 (by decide) ?_
      obtain rfl := Option.some.inj hD
      exact x_iret C hw hr hk dX9_clip_35
    · replace hD := (if_neg c4).symm.trans hD
      refine lv_iload_n C.1 C.2.1 dX9_clip_20 rfl (lv_at hl 3 rfl) ?_
      refine lv_bipush (v := (-9 : Int32)) C.1 C.2.1 dX9_clip_21 (by decide) ?_
      refine lv_icmp_eq (tgt := 36) C.1 C.2.1 dX9_clip_23 (by decide) (fun c5 => ?_) (fun c5 => ?_)
      · replace hD := (if_pos c5).symm.trans hD
        exact w_X9_clip_36 x1 x2 x3  C hr hk R0    q3.2  hD _ _ hw _ (lv_sub hl [0, 1, 2, 3] rfl)
      · replace hD := (if_neg c5).symm.trans hD
        refine lv_iload_n C.1 C.2.1 dX9_clip_26 rfl (lv_at hl 3 rfl) ?_
        obtain ⟨q8, hq8, hD⟩ := Option.bind_eq_some_iff.mp hD
        refine x_goi hw (x_runS (As := [.int (x3)]) (rest := []) C hw cS_X9_isFeet kw_165 (c_X9_isFeet l X ex x3  q3.2 q8 hq8) ⟨Nat.le_of_ble_eq_true rfl, Nat.le_of_ble_eq_true rfl⟩ rfl hl.1 rfl (Nat.le_of_ble_eq_true rfl) dX9_clip_27 ⟨Nat.le_of_ble_eq_true rfl, Nat.le_of_ble_eq_true rfl⟩) (fun H locs hw => ?_)
        refine lv_if_ne (tgt := 36) C.1 C.2.1 dX9_clip_30 (by decide) (fun c9 => ?_) (fun c9 => ?_)
        · replace hD := (if_neg c9).symm.trans hD
          exact w_X9_clip_36 x1 x2 x3  C hr hk R0    q8.2  hD _ _ hw _ (lv_sub hl [0, 1, 2, 3] rfl)
        · replace hD := (if_pos c9).symm.trans hD
          refine lv_bipush (v := (-2 : Int32)) C.1 C.2.1 dX9_clip_33 (by decide) ?_
          obtain rfl := Option.some.inj hD
          exact x_iret C hw hr hk dX9_clip_35
  · replace hD := (if_pos c2).symm.trans hD
    refine lv_iconst (v := (-1 : Int32)) C.1 C.2.1 dX9_clip_11 (by decide) ?_
    obtain rfl := Option.some.inj hD
    exact x_iret C hw hr hk dX9_clip_12
abbrev rm_X9_isDawn : Room := { frames := 1, cells := 0, slots := 0, locals := 21 }
def D_X9_isDawn (x0 : Int32) (z : XS) : Option (Int32 × XS) :=
  (D_X9_isWithin x0 (30 : Int32) z).bind fun q1 => (gd (isZ q1.1) (some (q1.1, q1.2)))
set_option maxHeartbeats 4000000 in
set_option maxRecDepth 100000 in
theorem c_X9_isDawn (l : Launch) (X : XC) (ex : va_W) (x0 : Int32) (z : XS) (R0 : Int32 × XS) (hD : D_X9_isDawn x0 z = some R0) : xM l X ex yX9_isDawn cX9_isDawn 1 (some .boolean) rm_X9_isDawn [.int (x0)] z (xQi X ex R0.2 R0.1) := by
  refine x_ent (by decide) (Nat.le_of_ble_eq_true rfl) ?_
  intro p e s m below meth c ls C hr hk hw hl
  replace hl : lv_has ls 1 [(0, .int (x0))] := hl
  unfold D_X9_isDawn at hD
  refine lv_iload_n C.1 C.2.1 dX9_isDawn_0 rfl (lv_at hl 0 rfl) ?_
  refine lv_bipush (v := (30 : Int32)) C.1 C.2.1 dX9_isDawn_1 (by decide) ?_
  obtain ⟨q1, hq1, hD⟩ := Option.bind_eq_some_iff.mp hD
  refine x_goi hw (x_runS (As := [.int (x0), .int ((30 : Int32))]) (rest := []) C hw cS_X9_isWithin kw_5 (c_X9_isWithin l X ex x0 (30 : Int32)  z q1 hq1) ⟨Nat.le_of_ble_eq_true rfl, Nat.le_of_ble_eq_true rfl⟩ rfl hl.1 rfl (Nat.le_of_ble_eq_true rfl) dX9_isDawn_3 ⟨Nat.le_of_ble_eq_true rfl, Nat.le_of_ble_eq_true rfl⟩) (fun H locs hw => ?_)
  obtain ⟨g2, hD⟩ := gd_some hD
  obtain rfl := Option.some.inj hD
  exact x_zret (v := q1.1) C hw hr hk (isZ_n g2) dX9_isDawn_6
theorem kw_166 : Cond.code yX9_isDawn cX9_isDawn 1 (some .boolean) ∈ gtbl := gm2 97 rfl rfl
theorem nd_X9_isDawn : (yX9_isDawn).cls ≠ "java/lang/invoke/MethodHandle" ∧ (yX9_isDawn).cls ≠ "java/lang/invoke/VarHandle" ∧ (parseMethodDescriptor (yX9_isDawn).desc).map (fun d => d.parameters.length) = some 1 := by decide +kernel
theorem kw_168 : Cond.static yX9_isDawn ∈ gtbl := gm2 96 rfl rfl
theorem cS_X9_isDawn : xcS yX9_isDawn cX9_isDawn 1 (some .boolean) 1 := ⟨⟨kw_166, kw_1, nd_X9_isDawn⟩, kw_168⟩
theorem kw_170 : Cond.methodLink RX9 138 yX9_isDawn ∈ gtbl := gm2 95 rfl rfl
theorem gNf_X0_2 {p : Program} {l : Launch} {e : Env} {R : Room} {s : State} {m : MethodId} {args : Array Value} {below : List Frame} {meth : Method} {c : Code} {H : Heap} {locs : List Loc} {cells slots : Nat} {Q : State → Prop} {cc : ByteArray} {pc nL index : Nat} {ls : Array Slot} {rest : List Value} {X : XC} {ex : va_W} {z : XS} {own : String} (C : CallFix p m c cc nL s args gtbl own) (hw : xw X ex z s H locs) {j : Nat} (hj : j < 6) (hlink : (own, index, (TX0 2).1, (TX0 2).2.1, (TX0 2).2.2.1, "WordHedges") ∈ xnf) (hdg : decode cc pc = .ok (.getfield index, 3)) (kk : W p l e R s m args below meth c H locs cells slots Q (F0 m (pc + 3) ls (.ref (X.2.2.1 13 j) :: rest))) : W p l e R s m args below meth c H locs cells slots Q (F0 m pc ls (.ref (X.2.2.1 9 j) :: rest)) :=
  x_getN (k := 9) (j := j) C hw hj 2 (v := .ref (X.2.2.1 13 j)) rfl rfl ixX0 (by decide) hlink rfl hdg kk
abbrev rm_X9_face : Room := { frames := 2, cells := 0, slots := 0, locals := 41 }
def D_X9_face (x1 : Int32) (x2 : Int32) (x3 : Int32) (z : XS) : Option (Int32 × XS) :=
  (D_X4_isHedge x1 z).bind fun q1 => ((if q1.1 = 0 then some ((-1 : Int32), q1.2) else (D_X9_isSide x2 q1.2).bind fun q3 => ((if q3.1 = 0 then some ((-2 : Int32), q3.2) else (D_X9_isDawn x3 q3.2).bind fun q5 => ((if q5.1 = 0 then some ((-2 : Int32), q5.2) else gd (inB x1 6) (gd (inB x2 2) (gd (inB x3 31) (some (gA q5.2 14 (2 * x1.toNatClampNeg + x2.toNatClampNeg) x3.toNatClampNeg, q5.2))))))))))
set_option maxHeartbeats 4000000 in
set_option maxRecDepth 100000 in
theorem c_X9_face (l : Launch) (X : XC) (ex : va_W) (x1 : Int32) (x2 : Int32) (x3 : Int32) (z : XS) (R0 : Int32 × XS) (hD : D_X9_face x1 x2 x3 z = some R0) : xM l X ex yX9_face cX9_face 4 (some .int) rm_X9_face [.ref (X.2.2.1 0 (0)), .int (x1), .int (x2), .int (x3)] z (xQi X ex R0.2 R0.1) := by
  refine x_ent (by decide) (Nat.le_of_ble_eq_true rfl) ?_
  intro p e s m below meth c ls C hr hk hw hl
  replace hl : lv_has ls 4 [(0, .ref (X.2.2.1 0 (0))), (1, .int (x1)), (2, .int (x2)), (3, .int (x3))] := hl
  unfold D_X9_face at hD
  refine lv_aload_n C.1 C.2.1 dX9_face_0 rfl (lv_at hl 0 rfl) ?_
  refine gf_X9_0 C hw kw_86 dX9_face_1 ?_
  refine lv_iload_n C.1 C.2.1 dX9_face_4 rfl (lv_at hl 1 rfl) ?_
  obtain ⟨q1, hq1, hD⟩ := Option.bind_eq_some_iff.mp hD
  refine x_goi hw (x_runV (As := [.int (x1)]) (rest := []) (k := 1) (j := 0) C hw (Nat.le_of_ble_eq_true rfl) rfl rfl cV_X4_isHedge kw_101 (c_X4_isHedge l X ex x1  z q1 hq1) ⟨Nat.le_of_ble_eq_true rfl, Nat.le_of_ble_eq_true rfl⟩ rfl hl.1 rfl (Nat.le_of_ble_eq_true rfl) dX9_face_5 ⟨Nat.le_of_ble_eq_true rfl, Nat.le_of_ble_eq_true rfl⟩) (fun H locs hw => ?_)
  refine lv_if_ne (tgt := 13) C.1 C.2.1 dX9_face_8 (by decide) (fun c2 => ?_) (fun c2 => ?_)
  · replace hD := (if_neg c2).symm.trans hD
    refine lv_iload_n C.1 C.2.1 dX9_face_13 rfl (lv_at hl 2 rfl) ?_
    obtain ⟨q3, hq3, hD⟩ := Option.bind_eq_some_iff.mp hD
    refine x_goi hw (x_runS (As := [.int (x2)]) (rest := []) C hw cS_X9_isSide kw_130 (c_X9_isSide l X ex x2  q1.2 q3 hq3) ⟨Nat.le_of_ble_eq_true rfl, Nat.le_of_ble_eq_true rfl⟩ rfl hl.1 rfl (Nat.le_of_ble_eq_true rfl) dX9_face_14 ⟨Nat.le_of_ble_eq_true rfl, Nat.le_of_ble_eq_true rfl⟩) (fun H locs hw => ?_)
    refine lv_if_eq (tgt := 27) C.1 C.2.1 dX9_face_17 (by decide) (fun c4 => ?_) (fun c4 => ?_)
    · replace hD := (if_pos c4).symm.trans hD
      refine lv_bipush (v := (-2 : Int32)) C.1 C.2.1 dX9_face_27 (by decide) ?_
      obtain rfl := Option.some.inj hD
      exact x_iret C hw hr hk dX9_face_29
    · replace hD := (if_neg c4).symm.trans hD
      refine lv_iload_n C.1 C.2.1 dX9_face_20 rfl (lv_at hl 3 rfl) ?_
      obtain ⟨q5, hq5, hD⟩ := Option.bind_eq_some_iff.mp hD
      refine x_goi hw (x_runS (As := [.int (x3)]) (rest := []) C hw cS_X9_isDawn kw_170 (c_X9_isDawn l X ex x3  q3.2 q5 hq5) ⟨Nat.le_of_ble_eq_true rfl, Nat.le_of_ble_eq_true rfl⟩ rfl hl.1 rfl (Nat.le_of_ble_eq_true rfl) dX9_face_21 ⟨Nat.le_of_ble_eq_true rfl, Nat.le_of_ble_eq_true rfl⟩) (fun H locs hw => ?_)
      refine lv_if_ne (tgt := 30) C.1 C.2.1 dX9_face_24 (by decide) (fun c6 => ?_) (fun c6 => ?_)
      · replace hD := (if_neg c6).symm.trans hD
        refine lv_aload_n C.1 C.2.1 dX9_face_30 rfl (lv_at hl 0 rfl) ?_
        refine gf_X9_0 C hw kw_86 dX9_face_31 ?_
        refine gNf_X4_1 C hw (List.mem_of_getElem? (i := 7) rfl) dX9_face_34 ?_
        refine lv_iload_n C.1 C.2.1 dX9_face_37 rfl (lv_at hl 1 rfl) ?_
        obtain ⟨g7, hD⟩ := gd_some hD
        refine x_aald (k := 8) (j := 0) (f := fun i => X.2.2.1 9 i) C hw (Nat.le_of_ble_eq_true rfl) 2 rfl rfl rfl (inB_in g7) (a := X.2.2.1 9 (x1.toNatClampNeg)) rfl dX9_face_38 ?_
        refine gNf_X0_2 C hw (j := x1.toNatClampNeg) (inB_lt g7) (List.mem_of_getElem? (i := 3) rfl) dX9_face_39 ?_
        refine lv_iload_n C.1 C.2.1 dX9_face_42 rfl (lv_at hl 2 rfl) ?_
        obtain ⟨g8, hD⟩ := gd_some hD
        refine x_aald (k := 13) (j := x1.toNatClampNeg) (f := fun i => X.2.2.1 14 (2 * x1.toNatClampNeg + i)) C hw (inB_lt g7) 1 rfl rfl rfl (inB_in g8) (a := X.2.2.1 14 (2 * x1.toNatClampNeg + x2.toNatClampNeg)) rfl dX9_face_43 ?_
        refine lv_iload_n C.1 C.2.1 dX9_face_44 rfl (lv_at hl 3 rfl) ?_
        obtain ⟨g9, hD⟩ := gd_some hD
        refine x_iald (k := 14) (j := 2 * x1.toNatClampNeg + x2.toNatClampNeg) C hw rfl (x_lt2 (inB_lt g7) (inB_lt g8)) (inB_in g9) dX9_face_45 ?_
        obtain rfl := Option.some.inj hD
        exact x_iret C hw hr hk dX9_face_46
      · replace hD := (if_pos c6).symm.trans hD
        refine lv_bipush (v := (-2 : Int32)) C.1 C.2.1 dX9_face_27 (by decide) ?_
        obtain rfl := Option.some.inj hD
        exact x_iret C hw hr hk dX9_face_29
  · replace hD := (if_pos c2).symm.trans hD
    refine lv_iconst (v := (-1 : Int32)) C.1 C.2.1 dX9_face_11 (by decide) ?_
    obtain rfl := Option.some.inj hD
    exact x_iret C hw hr hk dX9_face_12
abbrev rm_X0_heightAt : Room := { frames := 0, cells := 0, slots := 0, locals := 0 }
def D_X0_heightAt (j0 : Nat) (x1 : Int32) (z : XS) : Option (Int32 × XS) :=
  gd (inB (0 : Int32) 2) (gd (inB x1 31) (gd (inB (1 : Int32) 2) (gd (inB x1 31) ((if gA z 14 (2 * j0 + (1 : Int32).toNatClampNeg) x1.toNatClampNeg ≤ gA z 14 (2 * j0 + (0 : Int32).toNatClampNeg) x1.toNatClampNeg then some (gA z 14 (2 * j0 + (1 : Int32).toNatClampNeg) x1.toNatClampNeg, z) else some (gA z 14 (2 * j0 + (0 : Int32).toNatClampNeg) x1.toNatClampNeg, z))))))
set_option maxHeartbeats 4000000 in
set_option maxRecDepth 100000 in
theorem c_X0_heightAt (l : Launch) (X : XC) (ex : va_W) (j0 : Nat) (x1 : Int32) (hj0 : j0 < 6) (z : XS) (R0 : Int32 × XS) (hD : D_X0_heightAt j0 x1 z = some R0) : xM l X ex yX0_heightAt cX0_heightAt 4 (some .int) rm_X0_heightAt [.ref (X.2.2.1 9 (j0)), .int (x1)] z (xQi X ex R0.2 R0.1) := by
  refine x_ent (by decide) (Nat.le_of_ble_eq_true rfl) ?_
  intro p e s m below meth c ls C hr hk hw hl
  replace hl : lv_has ls 4 [(0, .ref (X.2.2.1 9 (j0))), (1, .int (x1))] := hl
  unfold D_X0_heightAt at hD
  refine lv_aload_n C.1 C.2.1 dX0_heightAt_0 rfl (lv_at hl 0 rfl) ?_
  refine gf_X0_2 C hw (j := j0) hj0 kw_75 dX0_heightAt_1 ?_
  refine lv_iconst (v := (0 : Int32)) C.1 C.2.1 dX0_heightAt_4 (by decide) ?_
  obtain ⟨g1, hD⟩ := gd_some hD
  refine x_aald (k := 13) (j := j0) (f := fun i => X.2.2.1 14 (2 * j0 + i)) C hw hj0 1 rfl rfl rfl (inB_in g1) (a := X.2.2.1 14 (2 * j0 + (0 : Int32).toNatClampNeg)) rfl dX0_heightAt_5 ?_
  refine lv_iload_n C.1 C.2.1 dX0_heightAt_6 rfl (lv_at hl 1 rfl) ?_
  obtain ⟨g2, hD⟩ := gd_some hD
  refine x_iald (k := 14) (j := 2 * j0 + (0 : Int32).toNatClampNeg) C hw rfl (x_lt2 hj0 (inB_lt g1)) (inB_in g2) dX0_heightAt_7 ?_
  refine lv_istore_n (lv' := [(2, .int (gA z 14 (2 * j0 + (0 : Int32).toNatClampNeg) x1.toNatClampNeg)), (0, .ref (X.2.2.1 9 (j0))), (1, .int (x1))]) C.1 C.2.1 dX0_heightAt_8 rfl hl (by decide) rfl (fun ls hl => ?_)
  refine lv_aload_n C.1 C.2.1 dX0_heightAt_9 rfl (lv_at hl 1 rfl) ?_
  refine gf_X0_2 C hw (j := j0) hj0 kw_75 dX0_heightAt_10 ?_
  refine lv_iconst (v := (1 : Int32)) C.1 C.2.1 dX0_heightAt_13 (by decide) ?_
  obtain ⟨g3, hD⟩ := gd_some hD
  refine x_aald (k := 13) (j := j0) (f := fun i => X.2.2.1 14 (2 * j0 + i)) C hw hj0 1 rfl rfl rfl (inB_in g3) (a := X.2.2.1 14 (2 * j0 + (1 : Int32).toNatClampNeg)) rfl dX0_heightAt_14 ?_
  refine lv_iload_n C.1 C.2.1 dX0_heightAt_15 rfl (lv_at hl 2 rfl) ?_
  obtain ⟨g4, hD⟩ := gd_some hD
  refine x_iald (k := 14) (j := 2 * j0 + (1 : Int32).toNatClampNeg) C hw rfl (x_lt2 hj0 (inB_lt g3)) (inB_in g4) dX0_heightAt_16 ?_
  refine lv_istore_n (lv' := [(3, .int (gA z 14 (2 * j0 + (1 : Int32).toNatClampNeg) x1.toNatClampNeg)), (2, .int (gA z 14 (2 * j0 + (0 : Int32).toNatClampNeg) x1.toNatClampNeg)), (0, .ref (X.2.2.1 9 (j0))), (1, .int (x1))]) C.1 C.2.1 dX0_heightAt_17 rfl hl (by decide) rfl (fun ls hl => ?_)
  refine lv_iload_n C.1 C.2.1 dX0_heightAt_18 rfl (lv_at hl 1 rfl) ?_
  refine lv_iload_n C.1 C.2.1 dX0_heightAt_19 rfl (lv_at hl 0 rfl) ?_
  refine lv_icmp_ge (tgt := 27) C.1 C.2.1 dX0_heightAt_20 (by decide) (fun c5 => ?_) (fun c5 => ?_)
  · replace hD := (if_pos c5).symm.trans hD
    refine lv_iload_n C.1 C.2.1 dX0_heightAt_27 rfl (lv_at hl 0 rfl) ?_
    obtain rfl := Option.some.inj hD
    exact x_iret C hw hr hk dX0_heightAt_28
  · replace hD := (if_neg c5).symm.trans hD
    refine lv_iload_n C.1 C.2.1 dX0_heightAt_23 rfl (lv_at hl 1 rfl) ?_
    refine lv_goto (tgt := 28) C.1 C.2.1 dX0_heightAt_24 (by decide) ?_
    obtain rfl := Option.some.inj hD
    exact x_iret C hw hr hk dX0_heightAt_28
abbrev rm_X0_leanAt : Room := { frames := 0, cells := 0, slots := 0, locals := 0 }
def D_X0_leanAt (j0 : Nat) (x1 : Int32) (z : XS) : Option (Int32 × XS) :=
  gd (inB (0 : Int32) 2) (gd (inB x1 31) (gd (inB (1 : Int32) 2) (gd (inB x1 31) (some ((gA z 14 (2 * j0 + (0 : Int32).toNatClampNeg) x1.toNatClampNeg) - (gA z 14 (2 * j0 + (1 : Int32).toNatClampNeg) x1.toNatClampNeg), z)))))
set_option maxHeartbeats 4000000 in
set_option maxRecDepth 100000 in
theorem c_X0_leanAt (l : Launch) (X : XC) (ex : va_W) (j0 : Nat) (x1 : Int32) (hj0 : j0 < 6) (z : XS) (R0 : Int32 × XS) (hD : D_X0_leanAt j0 x1 z = some R0) : xM l X ex yX0_leanAt cX0_leanAt 2 (some .int) rm_X0_leanAt [.ref (X.2.2.1 9 (j0)), .int (x1)] z (xQi X ex R0.2 R0.1) := by
  refine x_ent (by decide) (Nat.le_of_ble_eq_true rfl) ?_
  intro p e s m below meth c ls C hr hk hw hl
  replace hl : lv_has ls 2 [(0, .ref (X.2.2.1 9 (j0))), (1, .int (x1))] := hl
  unfold D_X0_leanAt at hD
  refine lv_aload_n C.1 C.2.1 dX0_leanAt_0 rfl (lv_at hl 0 rfl) ?_
  refine gf_X0_2 C hw (j := j0) hj0 kw_75 dX0_leanAt_1 ?_
  refine lv_iconst (v := (0 : Int32)) C.1 C.2.1 dX0_leanAt_4 (by decide) ?_
  obtain ⟨g1, hD⟩ := gd_some hD
  refine x_aald (k := 13) (j := j0) (f := fun i => X.2.2.1 14 (2 * j0 + i)) C hw hj0 1 rfl rfl rfl (inB_in g1) (a := X.2.2.1 14 (2 * j0 + (0 : Int32).toNatClampNeg)) rfl dX0_leanAt_5 ?_
  refine lv_iload_n C.1 C.2.1 dX0_leanAt_6 rfl (lv_at hl 1 rfl) ?_
  obtain ⟨g2, hD⟩ := gd_some hD
  refine x_iald (k := 14) (j := 2 * j0 + (0 : Int32).toNatClampNeg) C hw rfl (x_lt2 hj0 (inB_lt g1)) (inB_in g2) dX0_leanAt_7 ?_
  refine lv_aload_n C.1 C.2.1 dX0_leanAt_8 rfl (lv_at hl 0 rfl) ?_
  refine gf_X0_2 C hw (j := j0) hj0 kw_75 dX0_leanAt_9 ?_
  refine lv_iconst (v := (1 : Int32)) C.1 C.2.1 dX0_leanAt_12 (by decide) ?_
  obtain ⟨g3, hD⟩ := gd_some hD
  refine x_aald (k := 13) (j := j0) (f := fun i => X.2.2.1 14 (2 * j0 + i)) C hw hj0 1 rfl rfl rfl (inB_in g3) (a := X.2.2.1 14 (2 * j0 + (1 : Int32).toNatClampNeg)) rfl dX0_leanAt_13 ?_
  refine lv_iload_n C.1 C.2.1 dX0_leanAt_14 rfl (lv_at hl 1 rfl) ?_
  obtain ⟨g4, hD⟩ := gd_some hD
  refine x_iald (k := 14) (j := 2 * j0 + (1 : Int32).toNatClampNeg) C hw rfl (x_lt2 hj0 (inB_lt g3)) (inB_in g4) dX0_leanAt_15 ?_
  refine lv_isub C.1 C.2.1 dX0_leanAt_16 ?_
  obtain rfl := Option.some.inj hD
  exact x_iret C hw hr hk dX0_leanAt_17
theorem kw_172 : Cond.code yX0_leanAt cX0_leanAt 2 (some .int) ∈ gtbl := gm2 109 rfl rfl
theorem nd_X0_leanAt : (yX0_leanAt).cls ≠ "java/lang/invoke/MethodHandle" ∧ (yX0_leanAt).cls ≠ "java/lang/invoke/VarHandle" ∧ (parseMethodDescriptor (yX0_leanAt).desc).map (fun d => d.parameters.length) = some 1 := by decide +kernel
theorem kw_174 : Cond.instanceMethod yX0_leanAt ∈ gtbl := gm2 107 rfl rfl
theorem kw_175 : Cond.selects RX0 yX0_leanAt yX0_leanAt ∈ gtbl := gm2 108 rfl rfl
theorem cV_X0_leanAt : xcV yX0_leanAt cX0_leanAt 2 (some .int) 1 := ⟨⟨kw_172, kw_78, nd_X0_leanAt⟩, kw_174, kw_175⟩
theorem kw_177 : Cond.methodLink RX9 148 yX0_leanAt ∈ gtbl := gm2 106 rfl rfl
theorem kw_178 : Cond.code yX0_heightAt cX0_heightAt 4 (some .int) ∈ gtbl := gm2 105 rfl rfl
theorem nd_X0_heightAt : (yX0_heightAt).cls ≠ "java/lang/invoke/MethodHandle" ∧ (yX0_heightAt).cls ≠ "java/lang/invoke/VarHandle" ∧ (parseMethodDescriptor (yX0_heightAt).desc).map (fun d => d.parameters.length) = some 1 := by decide +kernel
theorem kw_180 : Cond.instanceMethod yX0_heightAt ∈ gtbl := gm2 103 rfl rfl
theorem kw_181 : Cond.selects RX0 yX0_heightAt yX0_heightAt ∈ gtbl := gm2 104 rfl rfl
theorem cV_X0_heightAt : xcV yX0_heightAt cX0_heightAt 4 (some .int) 1 := ⟨⟨kw_178, kw_78, nd_X0_heightAt⟩, kw_180, kw_181⟩
theorem kw_183 : Cond.methodLink RX9 145 yX0_heightAt ∈ gtbl := gm2 102 rfl rfl
abbrev rm_X9_height : Room := { frames := 2, cells := 0, slots := 0, locals := 41 }
def D_X9_height (x1 : Int32) (x2 : Int32) (x3 : Int32) (z : XS) : Option (Int32 × XS) :=
  (D_X4_isHedge x1 z).bind fun q1 => ((if q1.1 = 0 then some ((-1 : Int32), q1.2) else (D_X9_isDawn x2 q1.2).bind fun q3 => ((if q3.1 = 0 then some ((-2 : Int32), q3.2) else (D_X9_isWithin x3 (1 : Int32) q3.2).bind fun q5 => ((if q5.1 = 0 then some ((-2 : Int32), q5.2) else gd (inB x1 6) ((if x3 = 0 then (D_X0_heightAt x1.toNatClampNeg x2 q5.2).bind fun q10 => (some (q10.1, q10.2)) else (D_X0_leanAt x1.toNatClampNeg x2 q5.2).bind fun q9 => (some (q9.1 + (1000 : Int32), q9.2))))))))))
set_option maxHeartbeats 4000000 in
set_option maxRecDepth 100000 in
theorem c_X9_height (l : Launch) (X : XC) (ex : va_W) (x1 : Int32) (x2 : Int32) (x3 : Int32) (z : XS) (R0 : Int32 × XS) (hD : D_X9_height x1 x2 x3 z = some R0) : xM l X ex yX9_height cX9_height 5 (some .int) rm_X9_height [.ref (X.2.2.1 0 (0)), .int (x1), .int (x2), .int (x3)] z (xQi X ex R0.2 R0.1) := by
  refine x_ent (by decide) (Nat.le_of_ble_eq_true rfl) ?_
  intro p e s m below meth c ls C hr hk hw hl
  replace hl : lv_has ls 5 [(0, .ref (X.2.2.1 0 (0))), (1, .int (x1)), (2, .int (x2)), (3, .int (x3))] := hl
  unfold D_X9_height at hD
  refine lv_aload_n C.1 C.2.1 dX9_height_0 rfl (lv_at hl 0 rfl) ?_
  refine gf_X9_0 C hw kw_86 dX9_height_1 ?_
  refine lv_iload_n C.1 C.2.1 dX9_height_4 rfl (lv_at hl 1 rfl) ?_
  obtain ⟨q1, hq1, hD⟩ := Option.bind_eq_some_iff.mp hD
  refine x_goi hw (x_runV (As := [.int (x1)]) (rest := []) (k := 1) (j := 0) C hw (Nat.le_of_ble_eq_true rfl) rfl rfl cV_X4_isHedge kw_101 (c_X4_isHedge l X ex x1  z q1 hq1) ⟨Nat.le_of_ble_eq_true rfl, Nat.le_of_ble_eq_true rfl⟩ rfl hl.1 rfl (Nat.le_of_ble_eq_true rfl) dX9_height_5 ⟨Nat.le_of_ble_eq_true rfl, Nat.le_of_ble_eq_true rfl⟩) (fun H locs hw => ?_)
  refine lv_if_ne (tgt := 13) C.1 C.2.1 dX9_height_8 (by decide) (fun c2 => ?_) (fun c2 => ?_)
  · replace hD := (if_neg c2).symm.trans hD
    refine lv_iload_n C.1 C.2.1 dX9_height_13 rfl (lv_at hl 2 rfl) ?_
    obtain ⟨q3, hq3, hD⟩ := Option.bind_eq_some_iff.mp hD
    refine x_goi hw (x_runS (As := [.int (x2)]) (rest := []) C hw cS_X9_isDawn kw_170 (c_X9_isDawn l X ex x2  q1.2 q3 hq3) ⟨Nat.le_of_ble_eq_true rfl, Nat.le_of_ble_eq_true rfl⟩ rfl hl.1 rfl (Nat.le_of_ble_eq_true rfl) dX9_height_14 ⟨Nat.le_of_ble_eq_true rfl, Nat.le_of_ble_eq_true rfl⟩) (fun H locs hw => ?_)
    refine lv_if_eq (tgt := 28) C.1 C.2.1 dX9_height_17 (by decide) (fun c4 => ?_) (fun c4 => ?_)
    · replace hD := (if_pos c4).symm.trans hD
      refine lv_bipush (v := (-2 : Int32)) C.1 C.2.1 dX9_height_28 (by decide) ?_
      obtain rfl := Option.some.inj hD
      exact x_iret C hw hr hk dX9_height_30
    · replace hD := (if_neg c4).symm.trans hD
      refine lv_iload_n C.1 C.2.1 dX9_height_20 rfl (lv_at hl 3 rfl) ?_
      refine lv_iconst (v := (1 : Int32)) C.1 C.2.1 dX9_height_21 (by decide) ?_
      obtain ⟨q5, hq5, hD⟩ := Option.bind_eq_some_iff.mp hD
      refine x_goi hw (x_runS (As := [.int (x3), .int ((1 : Int32))]) (rest := []) C hw cS_X9_isWithin kw_5 (c_X9_isWithin l X ex x3 (1 : Int32)  q3.2 q5 hq5) ⟨Nat.le_of_ble_eq_true rfl, Nat.le_of_ble_eq_true rfl⟩ rfl hl.1 rfl (Nat.le_of_ble_eq_true rfl) dX9_height_22 ⟨Nat.le_of_ble_eq_true rfl, Nat.le_of_ble_eq_true rfl⟩) (fun H locs hw => ?_)
      refine lv_if_ne (tgt := 31) C.1 C.2.1 dX9_height_25 (by decide) (fun c6 => ?_) (fun c6 => ?_)
      · replace hD := (if_neg c6).symm.trans hD
        refine lv_aload_n C.1 C.2.1 dX9_height_31 rfl (lv_at hl 0 rfl) ?_
        refine gf_X9_0 C hw kw_86 dX9_height_32 ?_
        refine gNf_X4_1 C hw (List.mem_of_getElem? (i := 7) rfl) dX9_height_35 ?_
        refine lv_iload_n C.1 C.2.1 dX9_height_38 rfl (lv_at hl 1 rfl) ?_
        obtain ⟨g7, hD⟩ := gd_some hD
        refine x_aald (k := 8) (j := 0) (f := fun i => X.2.2.1 9 i) C hw (Nat.le_of_ble_eq_true rfl) 2 rfl rfl rfl (inB_in g7) (a := X.2.2.1 9 (x1.toNatClampNeg)) rfl dX9_height_39 ?_
        refine lv_astore (lv' := [(4, .ref (X.2.2.1 9 (x1.toNatClampNeg))), (0, .ref (X.2.2.1 0 (0))), (1, .int (x1)), (2, .int (x2)), (3, .int (x3))]) C.1 C.2.1 dX9_height_40 hl (by decide) rfl (fun ls hl => ?_)
        refine lv_iload_n C.1 C.2.1 dX9_height_42 rfl (lv_at hl 4 rfl) ?_
        refine lv_if_ne (tgt := 55) C.1 C.2.1 dX9_height_43 (by decide) (fun c8 => ?_) (fun c8 => ?_)
        · replace hD := (if_neg c8).symm.trans hD
          refine lv_aload C.1 C.2.1 dX9_height_55 (lv_at hl 0 rfl) ?_
          refine lv_iload_n C.1 C.2.1 dX9_height_57 rfl (lv_at hl 3 rfl) ?_
          obtain ⟨q9, hq9, hD⟩ := Option.bind_eq_some_iff.mp hD
          refine x_goi hw (x_runV (As := [.int (x2)]) (rest := []) (k := 9) (j := x1.toNatClampNeg) C hw (inB_lt g7) rfl rfl cV_X0_leanAt kw_177 (c_X0_leanAt l X ex x1.toNatClampNeg x2 (inB_lt g7) q5.2 q9 hq9) ⟨Nat.le_of_ble_eq_true rfl, Nat.le_of_ble_eq_true rfl⟩ rfl hl.1 rfl (Nat.le_of_ble_eq_true rfl) dX9_height_58 ⟨Nat.le_of_ble_eq_true rfl, Nat.le_of_ble_eq_true rfl⟩) (fun H locs hw => ?_)
          refine lv_sipush (v := (1000 : Int32)) C.1 C.2.1 dX9_height_61 (by decide) ?_
          refine lv_iadd C.1 C.2.1 dX9_height_64 ?_
          obtain rfl := Option.some.inj hD
          exact x_iret C hw hr hk dX9_height_65
        · replace hD := (if_pos c8).symm.trans hD
          refine lv_aload C.1 C.2.1 dX9_height_46 (lv_at hl 0 rfl) ?_
          refine lv_iload_n C.1 C.2.1 dX9_height_48 rfl (lv_at hl 3 rfl) ?_
          obtain ⟨q10, hq10, hD⟩ := Option.bind_eq_some_iff.mp hD
          refine x_goi hw (x_runV (As := [.int (x2)]) (rest := []) (k := 9) (j := x1.toNatClampNeg) C hw (inB_lt g7) rfl rfl cV_X0_heightAt kw_183 (c_X0_heightAt l X ex x1.toNatClampNeg x2 (inB_lt g7) q5.2 q10 hq10) ⟨Nat.le_of_ble_eq_true rfl, Nat.le_of_ble_eq_true rfl⟩ rfl hl.1 rfl (Nat.le_of_ble_eq_true rfl) dX9_height_49 ⟨Nat.le_of_ble_eq_true rfl, Nat.le_of_ble_eq_true rfl⟩) (fun H locs hw => ?_)
          refine lv_goto (tgt := 65) C.1 C.2.1 dX9_height_52 (by decide) ?_
          obtain rfl := Option.some.inj hD
          exact x_iret C hw hr hk dX9_height_65
      · replace hD := (if_pos c6).symm.trans hD
        refine lv_bipush (v := (-2 : Int32)) C.1 C.2.1 dX9_height_28 (by decide) ?_
        obtain rfl := Option.some.inj hD
        exact x_iret C hw hr hk dX9_height_30
  · replace hD := (if_pos c2).symm.trans hD
    refine lv_iconst (v := (-1 : Int32)) C.1 C.2.1 dX9_height_11 (by decide) ?_
    obtain rfl := Option.some.inj hD
    exact x_iret C hw hr hk dX9_height_12
theorem kw_184 : Cond.fieldLink RX4 17 (TX4 1).1 (TX4 1).2.1 (TX4 1).2.2.1 ∈ gtbl := gm1 74 rfl rfl
theorem gf_X4_1 {p : Program} {l : Launch} {e : Env} {R : Room} {s : State} {m : MethodId} {args : Array Value} {below : List Frame} {meth : Method} {c : Code} {H : Heap} {locs : List Loc} {cells slots : Nat} {Q : State → Prop} {cc : ByteArray} {pc nL index : Nat} {ls : Array Slot} {rest : List Value} {X : XC} {ex : va_W} {z : XS} {own : String} (C : CallFix p m c cc nL s args gtbl own) (hw : xw X ex z s H locs) (hlink : Cond.fieldLink own index (TX4 1).1 (TX4 1).2.1 (TX4 1).2.2.1 ∈ gtbl) (hdg : decode cc pc = .ok (.getfield index, 3)) (kk : W p l e R s m args below meth c H locs cells slots Q (F0 m (pc + 3) ls (.ref (X.2.2.1 8 0) :: rest))) : W p l e R s m args below meth c H locs cells slots Q (F0 m pc ls (.ref (X.2.2.1 1 0) :: rest)) :=
  x_get (k := 1) (j := 0) C hw (Nat.le_of_ble_eq_true rfl) 1 (v := .ref (X.2.2.1 8 0)) rfl rfl ixX4 (by decide) hlink rfl hdg kk
theorem kw_186 : Cond.methodLink RX4 63 yX0_heightAt ∈ gtbl := gm2 122 rfl rfl
abbrev rm_X4_heightOrIf : Room := { frames := 1, cells := 0, slots := 0, locals := 23 }
def D_X4_heightOrIf (x1 : Int32) (x2 : Int32) (x3 : Int32) (x4 : Int32) (z : XS) : Option (Int32 × XS) :=
  (if x1 = x3 then some (x4, z) else gd (inB x1 6) ((D_X0_heightAt x1.toNatClampNeg x2 z).bind fun q3 => (some (q3.1, q3.2))))
set_option maxHeartbeats 4000000 in
set_option maxRecDepth 100000 in
theorem c_X4_heightOrIf (l : Launch) (X : XC) (ex : va_W) (x1 : Int32) (x2 : Int32) (x3 : Int32) (x4 : Int32) (z : XS) (R0 : Int32 × XS) (hD : D_X4_heightOrIf x1 x2 x3 x4 z = some R0) : xM l X ex yX4_heightOrIf cX4_heightOrIf 5 (some .int) rm_X4_heightOrIf [.ref (X.2.2.1 1 (0)), .int (x1), .int (x2), .int (x3), .int (x4)] z (xQi X ex R0.2 R0.1) := by
  refine x_ent (by decide) (Nat.le_of_ble_eq_true rfl) ?_
  intro p e s m below meth c ls C hr hk hw hl
  replace hl : lv_has ls 5 [(0, .ref (X.2.2.1 1 (0))), (1, .int (x1)), (2, .int (x2)), (3, .int (x3)), (4, .int (x4))] := hl
  unfold D_X4_heightOrIf at hD
  refine lv_iload_n C.1 C.2.1 dX4_heightOrIf_0 rfl (lv_at hl 1 rfl) ?_
  refine lv_iload_n C.1 C.2.1 dX4_heightOrIf_1 rfl (lv_at hl 3 rfl) ?_
  refine lv_icmp_ne (tgt := 10) C.1 C.2.1 dX4_heightOrIf_2 (by decide) (fun c1 => ?_) (fun c1 => ?_)
  · replace hD := (if_neg c1).symm.trans hD
    refine lv_aload_n C.1 C.2.1 dX4_heightOrIf_10 rfl (lv_at hl 0 rfl) ?_
    refine gf_X4_1 C hw kw_184 dX4_heightOrIf_11 ?_
    refine lv_iload_n C.1 C.2.1 dX4_heightOrIf_14 rfl (lv_at hl 1 rfl) ?_
    obtain ⟨g2, hD⟩ := gd_some hD
    refine x_aald (k := 8) (j := 0) (f := fun i => X.2.2.1 9 i) C hw (Nat.le_of_ble_eq_true rfl) 2 rfl rfl rfl (inB_in g2) (a := X.2.2.1 9 (x1.toNatClampNeg)) rfl dX4_heightOrIf_15 ?_
    refine lv_iload_n C.1 C.2.1 dX4_heightOrIf_16 rfl (lv_at hl 2 rfl) ?_
    obtain ⟨q3, hq3, hD⟩ := Option.bind_eq_some_iff.mp hD
    refine x_goi hw (x_runV (As := [.int (x2)]) (rest := []) (k := 9) (j := x1.toNatClampNeg) C hw (inB_lt g2) rfl rfl cV_X0_heightAt kw_186 (c_X0_heightAt l X ex x1.toNatClampNeg x2 (inB_lt g2) z q3 hq3) ⟨Nat.le_of_ble_eq_true rfl, Nat.le_of_ble_eq_true rfl⟩ rfl hl.1 rfl (Nat.le_of_ble_eq_true rfl) dX4_heightOrIf_17 ⟨Nat.le_of_ble_eq_true rfl, Nat.le_of_ble_eq_true rfl⟩) (fun H locs hw => ?_)
    obtain rfl := Option.some.inj hD
    exact x_iret C hw hr hk dX4_heightOrIf_20
  · replace hD := (if_pos c1).symm.trans hD
    refine lv_iload C.1 C.2.1 dX4_heightOrIf_5 (lv_at hl 4 rfl) ?_
    refine lv_goto (tgt := 20) C.1 C.2.1 dX4_heightOrIf_7 (by decide) ?_
    obtain rfl := Option.some.inj hD
    exact x_iret C hw hr hk dX4_heightOrIf_20
theorem kw_187 : Cond.methodLink RX4 37 yX4_isHedge ∈ gtbl := gm1 208 rfl rfl
theorem kw_188 : Cond.methodLink RX4 70 Lib.Math.max.name ∈ gtbl := gm2 123 rfl rfl
theorem kw_189 : Cond.code yX4_heightOrIf cX4_heightOrIf 5 (some .int) ∈ gtbl := gm2 121 rfl rfl
theorem nd_X4_heightOrIf : (yX4_heightOrIf).cls ≠ "java/lang/invoke/MethodHandle" ∧ (yX4_heightOrIf).cls ≠ "java/lang/invoke/VarHandle" ∧ (parseMethodDescriptor (yX4_heightOrIf).desc).map (fun d => d.parameters.length) = some 4 := by decide +kernel
theorem kw_191 : Cond.instanceMethod yX4_heightOrIf ∈ gtbl := gm2 120 rfl rfl
theorem kw_192 : Cond.selects RX4 yX4_heightOrIf yX4_heightOrIf ∈ gtbl := gm0 2 rfl rfl
theorem cV_X4_heightOrIf : xcV yX4_heightOrIf cX4_heightOrIf 5 (some .int) 4 := ⟨⟨kw_189, kw_89, nd_X4_heightOrIf⟩, kw_191, kw_192⟩
theorem kw_194 : Cond.methodLink RX4 66 yX4_heightOrIf ∈ gtbl := gm2 118 rfl rfl
abbrev rm_X4_lightIf : Room := { frames := 2, cells := 0, slots := 0, locals := 47 }
def J_X4_lightIf_33 (x1 : Int32) (x2 : Int32) (x3 : Int32) (x4 : Int32) (y5 : Int32) (z : XS) : Option (Int32 × XS) :=
  (D_X4_isHedge x1 z).bind fun q3 => ((if q3.1 = 0 then some (if (0 : Int32) < y5 then y5 else (0 : Int32), q3.2) else (D_X4_heightOrIf x1 x2 x3 x4 q3.2).bind fun q5 => (some (if (0 : Int32) < y5 - (q5.1 / (12 : Int32)) then y5 - (q5.1 / (12 : Int32)) else (0 : Int32), q5.2))))
set_option maxHeartbeats 4000000 in
set_option maxRecDepth 100000 in
theorem w_X4_lightIf_33 {p : Program} {l : Launch} {e : Env} {s : State} {m : MethodId} {below : List Frame} {meth : Method} {c : Code} {X : XC} {ex : va_W} (x1 : Int32) (x2 : Int32) (x3 : Int32) (x4 : Int32) (C : CallFix p m c cX4_lightIf 6 s (([.ref (X.2.2.1 1 (0)), .int (x1), .int (x2), .int (x3), .int (x4)] : List Value).toArray) gtbl RX4) (hr : meth.sig.returnType = (some .int)) (hk : meth.locks = false) (R0 : Int32 × XS)  : ∀ (y5 : Int32) (z : XS), J_X4_lightIf_33 x1 x2 x3 x4  y5 z = some R0 → ∀ (H : Heap) (locs : List Loc), xw X ex z s H locs → ∀ (ls : Array Slot), lv_has ls 6 [(0, .ref (X.2.2.1 1 (0))), (1, .int (x1)), (2, .int (x2)), (3, .int (x3)), (4, .int (x4)), (5, .int (y5))] → W p l e rm_X4_lightIf s m (([.ref (X.2.2.1 1 (0)), .int (x1), .int (x2), .int (x3), .int (x4)] : List Value).toArray) below meth c H locs 0 0 (MQ below (xQi X ex R0.2 R0.1) (([.ref (X.2.2.1 1 (0)), .int (x1), .int (x2), .int (x3), .int (x4)] : List Value).toArray) s 0 0 (xA X)) (F0 m 33 ls []) := by
  intro y5 z  hD H locs hw ls hl
  unfold J_X4_lightIf_33 at hD
  refine lv_aload_n C.1 C.2.1 dX4_lightIf_33 rfl (lv_at hl 0 rfl) ?_
  refine lv_iload_n C.1 C.2.1 dX4_lightIf_34 rfl (lv_at hl 1 rfl) ?_
  obtain ⟨q3, hq3, hD⟩ := Option.bind_eq_some_iff.mp hD
  refine x_goi hw (x_runV (As := [.int (x1)]) (rest := []) (k := 1) (j := 0) C hw (Nat.le_of_ble_eq_true rfl) rfl rfl cV_X4_isHedge kw_187 (c_X4_isHedge l X ex x1  z q3 hq3) ⟨Nat.le_of_ble_eq_true rfl, Nat.le_of_ble_eq_true rfl⟩ rfl hl.1 rfl (Nat.le_of_ble_eq_true rfl) dX4_lightIf_35 ⟨Nat.le_of_ble_eq_true rfl, Nat.le_of_ble_eq_true rfl⟩) (fun H locs hw => ?_)
  refine lv_if_eq (tgt := 58) C.1 C.2.1 dX4_lightIf_38 (by decide) (fun c4 => ?_) (fun c4 => ?_)
  · replace hD := (if_pos c4).symm.trans hD
    refine lv_iconst (v := (0 : Int32)) C.1 C.2.1 dX4_lightIf_58 (by decide) ?_
    refine lv_iload C.1 C.2.1 dX4_lightIf_59 (lv_at hl 5 rfl) ?_
    refine va_mmax C.1 C.2.1 (C.2.2.1.trans hl.1.symm) C.2.2.2.1 (C.2.2.2.2 _ kw_188) (C.2.2.2.2 _ kw_69) (C.2.2.2.2 _ kw_66) (C.2.2.2.2 _ kw_70) (Nat.le_of_ble_eq_true rfl) (Nat.le_of_ble_eq_true rfl) (Nat.le_of_ble_eq_true rfl) (Nat.le_of_ble_eq_true rfl) dX4_lightIf_61 ?_
    obtain rfl := Option.some.inj hD
    exact x_iret C hw hr hk dX4_lightIf_64
  · replace hD := (if_neg c4).symm.trans hD
    refine lv_iload C.1 C.2.1 dX4_lightIf_41 (lv_at hl 5 rfl) ?_
    refine lv_aload_n C.1 C.2.1 dX4_lightIf_43 rfl (lv_at hl 0 rfl) ?_
    refine lv_iload_n C.1 C.2.1 dX4_lightIf_44 rfl (lv_at hl 1 rfl) ?_
    refine lv_iload_n C.1 C.2.1 dX4_lightIf_45 rfl (lv_at hl 2 rfl) ?_
    refine lv_iload_n C.1 C.2.1 dX4_lightIf_46 rfl (lv_at hl 3 rfl) ?_
    refine lv_iload C.1 C.2.1 dX4_lightIf_47 (lv_at hl 4 rfl) ?_
    obtain ⟨q5, hq5, hD⟩ := Option.bind_eq_some_iff.mp hD
    refine x_goi hw (x_runV (As := [.int (x1), .int (x2), .int (x3), .int (x4)]) (rest := [.int (y5)]) (k := 1) (j := 0) C hw (Nat.le_of_ble_eq_true rfl) rfl rfl cV_X4_heightOrIf kw_194 (c_X4_heightOrIf l X ex x1 x2 x3 x4  q3.2 q5 hq5) ⟨Nat.le_of_ble_eq_true rfl, Nat.le_of_ble_eq_true rfl⟩ rfl hl.1 rfl (Nat.le_of_ble_eq_true rfl) dX4_lightIf_49 ⟨Nat.le_of_ble_eq_true rfl, Nat.le_of_ble_eq_true rfl⟩) (fun H locs hw => ?_)
    refine lv_bipush (v := (12 : Int32)) C.1 C.2.1 dX4_lightIf_52 (by decide) ?_
    refine lv_idiv C.1 C.2.1 dX4_lightIf_54 (by decide) ?_
    refine lv_isub C.1 C.2.1 dX4_lightIf_55 ?_
    refine lv_istore (lv' := [(5, .int (y5 - (q5.1 / (12 : Int32)))), (0, .ref (X.2.2.1 1 (0))), (1, .int (x1)), (2, .int (x2)), (3, .int (x3)), (4, .int (x4))]) C.1 C.2.1 dX4_lightIf_56 hl (by decide) rfl (fun ls hl => ?_)
    refine lv_iconst (v := (0 : Int32)) C.1 C.2.1 dX4_lightIf_58 (by decide) ?_
    refine lv_iload C.1 C.2.1 dX4_lightIf_59 (lv_at hl 0 rfl) ?_
    refine va_mmax C.1 C.2.1 (C.2.2.1.trans hl.1.symm) C.2.2.2.1 (C.2.2.2.2 _ kw_188) (C.2.2.2.2 _ kw_69) (C.2.2.2.2 _ kw_66) (C.2.2.2.2 _ kw_70) (Nat.le_of_ble_eq_true rfl) (Nat.le_of_ble_eq_true rfl) (Nat.le_of_ble_eq_true rfl) (Nat.le_of_ble_eq_true rfl) dX4_lightIf_61 ?_
    obtain rfl := Option.some.inj hD
    exact x_iret C hw hr hk dX4_lightIf_64
def D_X4_lightIf (x1 : Int32) (x2 : Int32) (x3 : Int32) (x4 : Int32) (z : XS) : Option (Int32 × XS) :=
  (D_X4_isHedge (x1 - (1 : Int32)) z).bind fun q1 => ((if q1.1 = 0 then J_X4_lightIf_33 x1 x2 x3 x4  (20 : Int32) q1.2 else (D_X4_heightOrIf (x1 - (1 : Int32)) x2 x3 x4 q1.2).bind fun q6 => (J_X4_lightIf_33 x1 x2 x3 x4  ((20 : Int32) - (q6.1 / (12 : Int32))) q6.2)))
set_option maxHeartbeats 4000000 in
set_option maxRecDepth 100000 in
theorem c_X4_lightIf (l : Launch) (X : XC) (ex : va_W) (x1 : Int32) (x2 : Int32) (x3 : Int32) (x4 : Int32) (z : XS) (R0 : Int32 × XS) (hD : D_X4_lightIf x1 x2 x3 x4 z = some R0) : xM l X ex yX4_lightIf cX4_lightIf 6 (some .int) rm_X4_lightIf [.ref (X.2.2.1 1 (0)), .int (x1), .int (x2), .int (x3), .int (x4)] z (xQi X ex R0.2 R0.1) := by
  refine x_ent (by decide) (Nat.le_of_ble_eq_true rfl) ?_
  intro p e s m below meth c ls C hr hk hw hl
  replace hl : lv_has ls 6 [(0, .ref (X.2.2.1 1 (0))), (1, .int (x1)), (2, .int (x2)), (3, .int (x3)), (4, .int (x4))] := hl
  unfold D_X4_lightIf at hD
  refine lv_bipush (v := (20 : Int32)) C.1 C.2.1 dX4_lightIf_0 (by decide) ?_
  refine lv_istore (lv' := [(5, .int ((20 : Int32))), (0, .ref (X.2.2.1 1 (0))), (1, .int (x1)), (2, .int (x2)), (3, .int (x3)), (4, .int (x4))]) C.1 C.2.1 dX4_lightIf_2 hl (by decide) rfl (fun ls hl => ?_)
  refine lv_aload_n C.1 C.2.1 dX4_lightIf_4 rfl (lv_at hl 1 rfl) ?_
  refine lv_iload_n C.1 C.2.1 dX4_lightIf_5 rfl (lv_at hl 2 rfl) ?_
  refine lv_iconst (v := (1 : Int32)) C.1 C.2.1 dX4_lightIf_6 (by decide) ?_
  refine lv_isub C.1 C.2.1 dX4_lightIf_7 ?_
  obtain ⟨q1, hq1, hD⟩ := Option.bind_eq_some_iff.mp hD
  refine x_goi hw (x_runV (As := [.int (x1 - (1 : Int32))]) (rest := []) (k := 1) (j := 0) C hw (Nat.le_of_ble_eq_true rfl) rfl rfl cV_X4_isHedge kw_187 (c_X4_isHedge l X ex (x1 - (1 : Int32))  z q1 hq1) ⟨Nat.le_of_ble_eq_true rfl, Nat.le_of_ble_eq_true rfl⟩ rfl hl.1 rfl (Nat.le_of_ble_eq_true rfl) dX4_lightIf_8 ⟨Nat.le_of_ble_eq_true rfl, Nat.le_of_ble_eq_true rfl⟩) (fun H locs hw => ?_)
  refine lv_if_eq (tgt := 33) C.1 C.2.1 dX4_lightIf_11 (by decide) (fun c2 => ?_) (fun c2 => ?_)
  · replace hD := (if_pos c2).symm.trans hD
    exact w_X4_lightIf_33 x1 x2 x3 x4  C hr hk R0   (20 : Int32) q1.2  hD _ _ hw _ (lv_sub hl [1, 2, 3, 4, 5, 0] rfl)
  · replace hD := (if_neg c2).symm.trans hD
    refine lv_iload C.1 C.2.1 dX4_lightIf_14 (lv_at hl 0 rfl) ?_
    refine lv_aload_n C.1 C.2.1 dX4_lightIf_16 rfl (lv_at hl 1 rfl) ?_
    refine lv_iload_n C.1 C.2.1 dX4_lightIf_17 rfl (lv_at hl 2 rfl) ?_
    refine lv_iconst (v := (1 : Int32)) C.1 C.2.1 dX4_lightIf_18 (by decide) ?_
    refine lv_isub C.1 C.2.1 dX4_lightIf_19 ?_
    refine lv_iload_n C.1 C.2.1 dX4_lightIf_20 rfl (lv_at hl 3 rfl) ?_
    refine lv_iload_n C.1 C.2.1 dX4_lightIf_21 rfl (lv_at hl 4 rfl) ?_
    refine lv_iload C.1 C.2.1 dX4_lightIf_22 (lv_at hl 5 rfl) ?_
    obtain ⟨q6, hq6, hD⟩ := Option.bind_eq_some_iff.mp hD
    refine x_goi hw (x_runV (As := [.int (x1 - (1 : Int32)), .int (x2), .int (x3), .int (x4)]) (rest := [.int ((20 : Int32))]) (k := 1) (j := 0) C hw (Nat.le_of_ble_eq_true rfl) rfl rfl cV_X4_heightOrIf kw_194 (c_X4_heightOrIf l X ex (x1 - (1 : Int32)) x2 x3 x4  q1.2 q6 hq6) ⟨Nat.le_of_ble_eq_true rfl, Nat.le_of_ble_eq_true rfl⟩ rfl hl.1 rfl (Nat.le_of_ble_eq_true rfl) dX4_lightIf_24 ⟨Nat.le_of_ble_eq_true rfl, Nat.le_of_ble_eq_true rfl⟩) (fun H locs hw => ?_)
    refine lv_bipush (v := (12 : Int32)) C.1 C.2.1 dX4_lightIf_27 (by decide) ?_
    refine lv_idiv C.1 C.2.1 dX4_lightIf_29 (by decide) ?_
    refine lv_isub C.1 C.2.1 dX4_lightIf_30 ?_
    refine lv_istore (lv' := [(5, .int ((20 : Int32) - (q6.1 / (12 : Int32)))), (0, .ref (X.2.2.1 1 (0))), (1, .int (x1)), (2, .int (x2)), (3, .int (x3)), (4, .int (x4))]) C.1 C.2.1 dX4_lightIf_31 hl (by decide) rfl (fun ls hl => ?_)
    exact w_X4_lightIf_33 x1 x2 x3 x4  C hr hk R0   ((20 : Int32) - (q6.1 / (12 : Int32))) q6.2  hD _ _ hw _ (lv_sub hl [1, 2, 3, 4, 5, 0] rfl)
theorem kw_195 : Cond.code yX4_lightIf cX4_lightIf 6 (some .int) ∈ gtbl := gm2 117 rfl rfl
theorem nd_X4_lightIf : (yX4_lightIf).cls ≠ "java/lang/invoke/MethodHandle" ∧ (yX4_lightIf).cls ≠ "java/lang/invoke/VarHandle" ∧ (parseMethodDescriptor (yX4_lightIf).desc).map (fun d => d.parameters.length) = some 4 := by decide +kernel
theorem kw_197 : Cond.instanceMethod yX4_lightIf ∈ gtbl := gm2 115 rfl rfl
theorem kw_198 : Cond.selects RX4 yX4_lightIf yX4_lightIf ∈ gtbl := gm2 116 rfl rfl
theorem cV_X4_lightIf : xcV yX4_lightIf cX4_lightIf 6 (some .int) 4 := ⟨⟨kw_195, kw_89, nd_X4_lightIf⟩, kw_197, kw_198⟩
theorem kw_200 : Cond.methodLink RX9 151 yX4_lightIf ∈ gtbl := gm2 114 rfl rfl
abbrev rm_X9_light : Room := { frames := 3, cells := 0, slots := 0, locals := 72 }
def D_X9_light (x1 : Int32) (x2 : Int32) (z : XS) : Option (Int32 × XS) :=
  (D_X4_isGarden x1 z).bind fun q1 => ((if q1.1 = 0 then some ((-1 : Int32), q1.2) else (D_X9_isDawn x2 q1.2).bind fun q3 => ((if q3.1 = 0 then some ((-2 : Int32), q3.2) else (D_X4_lightIf x1 x2 (-1 : Int32) (0 : Int32) q3.2).bind fun q5 => (some (q5.1, q5.2))))))
set_option maxHeartbeats 4000000 in
set_option maxRecDepth 100000 in
theorem c_X9_light (l : Launch) (X : XC) (ex : va_W) (x1 : Int32) (x2 : Int32) (z : XS) (R0 : Int32 × XS) (hD : D_X9_light x1 x2 z = some R0) : xM l X ex yX9_light cX9_light 3 (some .int) rm_X9_light [.ref (X.2.2.1 0 (0)), .int (x1), .int (x2)] z (xQi X ex R0.2 R0.1) := by
  refine x_ent (by decide) (Nat.le_of_ble_eq_true rfl) ?_
  intro p e s m below meth c ls C hr hk hw hl
  replace hl : lv_has ls 3 [(0, .ref (X.2.2.1 0 (0))), (1, .int (x1)), (2, .int (x2))] := hl
  unfold D_X9_light at hD
  refine lv_aload_n C.1 C.2.1 dX9_light_0 rfl (lv_at hl 0 rfl) ?_
  refine gf_X9_0 C hw kw_86 dX9_light_1 ?_
  refine lv_iload_n C.1 C.2.1 dX9_light_4 rfl (lv_at hl 1 rfl) ?_
  obtain ⟨q1, hq1, hD⟩ := Option.bind_eq_some_iff.mp hD
  refine x_goi hw (x_runV (As := [.int (x1)]) (rest := []) (k := 1) (j := 0) C hw (Nat.le_of_ble_eq_true rfl) rfl rfl cV_X4_isGarden kw_94 (c_X4_isGarden l X ex x1  z q1 hq1) ⟨Nat.le_of_ble_eq_true rfl, Nat.le_of_ble_eq_true rfl⟩ rfl hl.1 rfl (Nat.le_of_ble_eq_true rfl) dX9_light_5 ⟨Nat.le_of_ble_eq_true rfl, Nat.le_of_ble_eq_true rfl⟩) (fun H locs hw => ?_)
  refine lv_if_ne (tgt := 13) C.1 C.2.1 dX9_light_8 (by decide) (fun c2 => ?_) (fun c2 => ?_)
  · replace hD := (if_neg c2).symm.trans hD
    refine lv_iload_n C.1 C.2.1 dX9_light_13 rfl (lv_at hl 2 rfl) ?_
    obtain ⟨q3, hq3, hD⟩ := Option.bind_eq_some_iff.mp hD
    refine x_goi hw (x_runS (As := [.int (x2)]) (rest := []) C hw cS_X9_isDawn kw_170 (c_X9_isDawn l X ex x2  q1.2 q3 hq3) ⟨Nat.le_of_ble_eq_true rfl, Nat.le_of_ble_eq_true rfl⟩ rfl hl.1 rfl (Nat.le_of_ble_eq_true rfl) dX9_light_14 ⟨Nat.le_of_ble_eq_true rfl, Nat.le_of_ble_eq_true rfl⟩) (fun H locs hw => ?_)
    refine lv_if_ne (tgt := 23) C.1 C.2.1 dX9_light_17 (by decide) (fun c4 => ?_) (fun c4 => ?_)
    · replace hD := (if_neg c4).symm.trans hD
      refine lv_aload_n C.1 C.2.1 dX9_light_23 rfl (lv_at hl 0 rfl) ?_
      refine gf_X9_0 C hw kw_86 dX9_light_24 ?_
      refine lv_iload_n C.1 C.2.1 dX9_light_27 rfl (lv_at hl 1 rfl) ?_
      refine lv_iload_n C.1 C.2.1 dX9_light_28 rfl (lv_at hl 2 rfl) ?_
      refine lv_iconst (v := (-1 : Int32)) C.1 C.2.1 dX9_light_29 (by decide) ?_
      refine lv_iconst (v := (0 : Int32)) C.1 C.2.1 dX9_light_30 (by decide) ?_
      obtain ⟨q5, hq5, hD⟩ := Option.bind_eq_some_iff.mp hD
      refine x_goi hw (x_runV (As := [.int (x1), .int (x2), .int ((-1 : Int32)), .int ((0 : Int32))]) (rest := []) (k := 1) (j := 0) C hw (Nat.le_of_ble_eq_true rfl) rfl rfl cV_X4_lightIf kw_200 (c_X4_lightIf l X ex x1 x2 (-1 : Int32) (0 : Int32)  q3.2 q5 hq5) ⟨Nat.le_of_ble_eq_true rfl, Nat.le_of_ble_eq_true rfl⟩ rfl hl.1 rfl (Nat.le_of_ble_eq_true rfl) dX9_light_31 ⟨Nat.le_of_ble_eq_true rfl, Nat.le_of_ble_eq_true rfl⟩) (fun H locs hw => ?_)
      obtain rfl := Option.some.inj hD
      exact x_iret C hw hr hk dX9_light_34
    · replace hD := (if_pos c4).symm.trans hD
      refine lv_bipush (v := (-2 : Int32)) C.1 C.2.1 dX9_light_20 (by decide) ?_
      obtain rfl := Option.some.inj hD
      exact x_iret C hw hr hk dX9_light_22
  · replace hD := (if_pos c2).symm.trans hD
    refine lv_iconst (v := (-1 : Int32)) C.1 C.2.1 dX9_light_11 (by decide) ?_
    obtain rfl := Option.some.inj hD
    exact x_iret C hw hr hk dX9_light_12
abbrev rm_X4_goatsReachIf : Room := { frames := 2, cells := 0, slots := 0, locals := 47 }
def B_X4_goatsReachIf_3 (x1 : Int32) (x2 : Int32) (x3 : Int32) (k3_ : Int32 → XS → Option (Int32 × XS)) (y4 : Int32) (z : XS) : Option (Int32 × XS) :=
  (if (gS z 1 2 0) - (1 : Int32) ≤ y4 then some ((gS z 1 2 0) - (1 : Int32), z) else (D_X4_heightOrIf y4 x1 x2 x3 z).bind fun q2 => ((if q2.1 < (36 : Int32) then k3_ (y4 + 1) q2.2 else some (y4, q2.2))))
def L_X4_goatsReachIf_3 (x1 : Int32) (x2 : Int32) (x3 : Int32) : Nat → Int32 → XS → Option (Int32 × XS)
  | 0 => fun _ _ => none
  | n + 1 => B_X4_goatsReachIf_3 x1 x2 x3  (L_X4_goatsReachIf_3 x1 x2 x3  n)
set_option maxHeartbeats 4000000 in
set_option maxRecDepth 100000 in
theorem w_X4_goatsReachIf_3 {p : Program} {l : Launch} {e : Env} {s : State} {m : MethodId} {below : List Frame} {meth : Method} {c : Code} {X : XC} {ex : va_W} (x1 : Int32) (x2 : Int32) (x3 : Int32) (C : CallFix p m c cX4_goatsReachIf 5 s (([.ref (X.2.2.1 1 (0)), .int (x1), .int (x2), .int (x3)] : List Value).toArray) gtbl RX4) (hr : meth.sig.returnType = (some .int)) (hk : meth.locks = false) (R0 : Int32 × XS)  : ∀ (n : Nat), ∀ (y4 : Int32) (z : XS), L_X4_goatsReachIf_3 x1 x2 x3  n y4 z = some R0 → ∀ (H : Heap) (locs : List Loc), xw X ex z s H locs → ∀ (ls : Array Slot), lv_has ls 5 [(0, .ref (X.2.2.1 1 (0))), (1, .int (x1)), (2, .int (x2)), (3, .int (x3)), (4, .int (y4))] → W p l e rm_X4_goatsReachIf s m (([.ref (X.2.2.1 1 (0)), .int (x1), .int (x2), .int (x3)] : List Value).toArray) below meth c H locs 0 0 (MQ below (xQi X ex R0.2 R0.1) (([.ref (X.2.2.1 1 (0)), .int (x1), .int (x2), .int (x3)] : List Value).toArray) s 0 0 (xA X)) (F0 m 3 ls []) := by
  intro n
  induction n with
  | zero =>
    intro y4 z  hD
    cases hD
  | succ n ih =>
    intro y4 z  hD H locs hw ls hl
    replace hD : B_X4_goatsReachIf_3 x1 x2 x3  (L_X4_goatsReachIf_3 x1 x2 x3  n) y4 z = some R0 := hD
    unfold B_X4_goatsReachIf_3 at hD
    refine lv_iload C.1 C.2.1 dX4_goatsReachIf_3 (lv_at hl 4 rfl) ?_
    refine lv_aload_n C.1 C.2.1 dX4_goatsReachIf_5 rfl (lv_at hl 0 rfl) ?_
    refine gf_X4_2 C hw kw_39 dX4_goatsReachIf_6 ?_
    refine lv_iconst (v := (1 : Int32)) C.1 C.2.1 dX4_goatsReachIf_9 (by decide) ?_
    refine lv_isub C.1 C.2.1 dX4_goatsReachIf_10 ?_
    refine lv_icmp_ge (tgt := 37) C.1 C.2.1 dX4_goatsReachIf_11 (by decide) (fun c1 => ?_) (fun c1 => ?_)
    · replace hD := (if_pos c1).symm.trans hD
      refine lv_aload_n C.1 C.2.1 dX4_goatsReachIf_37 rfl (lv_at hl 0 rfl) ?_
      refine gf_X4_2 C hw kw_39 dX4_goatsReachIf_38 ?_
      refine lv_iconst (v := (1 : Int32)) C.1 C.2.1 dX4_goatsReachIf_41 (by decide) ?_
      refine lv_isub C.1 C.2.1 dX4_goatsReachIf_42 ?_
      obtain rfl := Option.some.inj hD
      exact x_iret C hw hr hk dX4_goatsReachIf_43
    · replace hD := (if_neg c1).symm.trans hD
      refine lv_aload_n C.1 C.2.1 dX4_goatsReachIf_14 rfl (lv_at hl 0 rfl) ?_
      refine lv_iload C.1 C.2.1 dX4_goatsReachIf_15 (lv_at hl 4 rfl) ?_
      refine lv_iload_n C.1 C.2.1 dX4_goatsReachIf_17 rfl (lv_at hl 1 rfl) ?_
      refine lv_iload_n C.1 C.2.1 dX4_goatsReachIf_18 rfl (lv_at hl 2 rfl) ?_
      refine lv_iload_n C.1 C.2.1 dX4_goatsReachIf_19 rfl (lv_at hl 3 rfl) ?_
      obtain ⟨q2, hq2, hD⟩ := Option.bind_eq_some_iff.mp hD
      refine x_goi hw (x_runV (As := [.int (y4), .int (x1), .int (x2), .int (x3)]) (rest := []) (k := 1) (j := 0) C hw (Nat.le_of_ble_eq_true rfl) rfl rfl cV_X4_heightOrIf kw_194 (c_X4_heightOrIf l X ex y4 x1 x2 x3  z q2 hq2) ⟨Nat.le_of_ble_eq_true rfl, Nat.le_of_ble_eq_true rfl⟩ rfl hl.1 rfl (Nat.le_of_ble_eq_true rfl) dX4_goatsReachIf_20 ⟨Nat.le_of_ble_eq_true rfl, Nat.le_of_ble_eq_true rfl⟩) (fun H locs hw => ?_)
      refine lv_bipush (v := (36 : Int32)) C.1 C.2.1 dX4_goatsReachIf_23 (by decide) ?_
      refine lv_icmp_lt (tgt := 31) C.1 C.2.1 dX4_goatsReachIf_25 (by decide) (fun c3 => ?_) (fun c3 => ?_)
      · replace hD := (if_pos c3).symm.trans hD
        refine lv_iinc (v := y4 + 1) (lv' := [(4, .int (y4 + 1)), (0, .ref (X.2.2.1 1 (0))), (1, .int (x1)), (2, .int (x2)), (3, .int (x3))]) C.1 C.2.1 dX4_goatsReachIf_31 hl (k := 4) rfl rfl (by decide) rfl (fun ls hl => ?_)
        refine lv_goto (tgt := 3) C.1 C.2.1 dX4_goatsReachIf_34 (by decide) ?_
        exact ih (y4 + 1) q2.2  hD _ _ hw _ (lv_sub hl [1, 2, 3, 4, 0] rfl)
      · replace hD := (if_neg c3).symm.trans hD
        refine lv_iload C.1 C.2.1 dX4_goatsReachIf_28 (lv_at hl 4 rfl) ?_
        obtain rfl := Option.some.inj hD
        exact x_iret C hw hr hk dX4_goatsReachIf_30
def D_X4_goatsReachIf (x1 : Int32) (x2 : Int32) (x3 : Int32) (z : XS) : Option (Int32 × XS) :=
  L_X4_goatsReachIf_3 x1 x2 x3  64 (0 : Int32) z
set_option maxHeartbeats 4000000 in
set_option maxRecDepth 100000 in
theorem c_X4_goatsReachIf (l : Launch) (X : XC) (ex : va_W) (x1 : Int32) (x2 : Int32) (x3 : Int32) (z : XS) (R0 : Int32 × XS) (hD : D_X4_goatsReachIf x1 x2 x3 z = some R0) : xM l X ex yX4_goatsReachIf cX4_goatsReachIf 5 (some .int) rm_X4_goatsReachIf [.ref (X.2.2.1 1 (0)), .int (x1), .int (x2), .int (x3)] z (xQi X ex R0.2 R0.1) := by
  refine x_ent (by decide) (Nat.le_of_ble_eq_true rfl) ?_
  intro p e s m below meth c ls C hr hk hw hl
  replace hl : lv_has ls 5 [(0, .ref (X.2.2.1 1 (0))), (1, .int (x1)), (2, .int (x2)), (3, .int (x3))] := hl
  unfold D_X4_goatsReachIf at hD
  refine lv_iconst (v := (0 : Int32)) C.1 C.2.1 dX4_goatsReachIf_0 (by decide) ?_
  refine lv_istore (lv' := [(4, .int ((0 : Int32))), (0, .ref (X.2.2.1 1 (0))), (1, .int (x1)), (2, .int (x2)), (3, .int (x3))]) C.1 C.2.1 dX4_goatsReachIf_1 hl (by decide) rfl (fun ls hl => ?_)
  exact w_X4_goatsReachIf_3 x1 x2 x3  C hr hk R0   64 (0 : Int32) z  hD _ _ hw _ (lv_sub hl [1, 2, 3, 4, 0] rfl)
theorem gNf_X4_2 {p : Program} {l : Launch} {e : Env} {R : Room} {s : State} {m : MethodId} {args : Array Value} {below : List Frame} {meth : Method} {c : Code} {H : Heap} {locs : List Loc} {cells slots : Nat} {Q : State → Prop} {cc : ByteArray} {pc nL index : Nat} {ls : Array Slot} {rest : List Value} {X : XC} {ex : va_W} {z : XS} {own : String} (C : CallFix p m c cc nL s args gtbl own) (hw : xw X ex z s H locs) (hlink : (own, index, (TX4 2).1, (TX4 2).2.1, (TX4 2).2.2.1, "WordHedges") ∈ xnf) (hdg : decode cc pc = .ok (.getfield index, 3)) (kk : W p l e R s m args below meth c H locs cells slots Q (F0 m (pc + 3) ls (.int (gS z 1 2 0) :: rest))) : W p l e R s m args below meth c H locs cells slots Q (F0 m pc ls (.ref (X.2.2.1 1 0) :: rest)) :=
  x_getN (k := 1) (j := 0) C hw (Nat.le_of_ble_eq_true rfl) 2 (v := .int (gS z 1 2 0)) rfl rfl ixX4 (by decide) hlink rfl hdg kk
theorem kw_202 : Cond.code yX4_goatsReachIf cX4_goatsReachIf 5 (some .int) ∈ gtbl := gm2 131 rfl rfl
theorem nd_X4_goatsReachIf : (yX4_goatsReachIf).cls ≠ "java/lang/invoke/MethodHandle" ∧ (yX4_goatsReachIf).cls ≠ "java/lang/invoke/VarHandle" ∧ (parseMethodDescriptor (yX4_goatsReachIf).desc).map (fun d => d.parameters.length) = some 3 := by decide +kernel
theorem kw_204 : Cond.instanceMethod yX4_goatsReachIf ∈ gtbl := gm2 129 rfl rfl
theorem kw_205 : Cond.selects RX4 yX4_goatsReachIf yX4_goatsReachIf ∈ gtbl := gm2 130 rfl rfl
theorem cV_X4_goatsReachIf : xcV yX4_goatsReachIf cX4_goatsReachIf 5 (some .int) 3 := ⟨⟨kw_202, kw_89, nd_X4_goatsReachIf⟩, kw_204, kw_205⟩
theorem kw_207 : Cond.methodLink RX9 155 yX4_goatsReachIf ∈ gtbl := gm2 128 rfl rfl
abbrev rm_X9_goats : Room := { frames := 3, cells := 0, slots := 0, locals := 71 }
def D_X9_goats (x1 : Int32) (z : XS) : Option (Int32 × XS) :=
  (D_X9_isDawn x1 z).bind fun q1 => ((if q1.1 = 0 then some ((-2 : Int32), q1.2) else (if gS q1.2 1 2 0 = 0 then some ((-3 : Int32), q1.2) else (D_X4_goatsReachIf x1 (-1 : Int32) (0 : Int32) q1.2).bind fun q4 => (some (((2 : Int32) <<< (q4.1 &&& 31)) - (1 : Int32), q4.2)))))
set_option maxHeartbeats 4000000 in
set_option maxRecDepth 100000 in
theorem c_X9_goats (l : Launch) (X : XC) (ex : va_W) (x1 : Int32) (z : XS) (R0 : Int32 × XS) (hD : D_X9_goats x1 z = some R0) : xM l X ex yX9_goats cX9_goats 2 (some .int) rm_X9_goats [.ref (X.2.2.1 0 (0)), .int (x1)] z (xQi X ex R0.2 R0.1) := by
  refine x_ent (by decide) (Nat.le_of_ble_eq_true rfl) ?_
  intro p e s m below meth c ls C hr hk hw hl
  replace hl : lv_has ls 2 [(0, .ref (X.2.2.1 0 (0))), (1, .int (x1))] := hl
  unfold D_X9_goats at hD
  refine lv_iload_n C.1 C.2.1 dX9_goats_0 rfl (lv_at hl 1 rfl) ?_
  obtain ⟨q1, hq1, hD⟩ := Option.bind_eq_some_iff.mp hD
  refine x_goi hw (x_runS (As := [.int (x1)]) (rest := []) C hw cS_X9_isDawn kw_170 (c_X9_isDawn l X ex x1  z q1 hq1) ⟨Nat.le_of_ble_eq_true rfl, Nat.le_of_ble_eq_true rfl⟩ rfl hl.1 rfl (Nat.le_of_ble_eq_true rfl) dX9_goats_1 ⟨Nat.le_of_ble_eq_true rfl, Nat.le_of_ble_eq_true rfl⟩) (fun H locs hw => ?_)
  refine lv_if_ne (tgt := 10) C.1 C.2.1 dX9_goats_4 (by decide) (fun c2 => ?_) (fun c2 => ?_)
  · replace hD := (if_neg c2).symm.trans hD
    refine lv_aload_n C.1 C.2.1 dX9_goats_10 rfl (lv_at hl 0 rfl) ?_
    refine gf_X9_0 C hw kw_86 dX9_goats_11 ?_
    refine gNf_X4_2 C hw (List.mem_of_getElem? (i := 8) rfl) dX9_goats_14 ?_
    refine lv_if_ne (tgt := 23) C.1 C.2.1 dX9_goats_17 (by decide) (fun c3 => ?_) (fun c3 => ?_)
    · replace hD := (if_neg c3).symm.trans hD
      refine lv_iconst (v := (2 : Int32)) C.1 C.2.1 dX9_goats_23 (by decide) ?_
      refine lv_aload_n C.1 C.2.1 dX9_goats_24 rfl (lv_at hl 0 rfl) ?_
      refine gf_X9_0 C hw kw_86 dX9_goats_25 ?_
      refine lv_iload_n C.1 C.2.1 dX9_goats_28 rfl (lv_at hl 1 rfl) ?_
      refine lv_iconst (v := (-1 : Int32)) C.1 C.2.1 dX9_goats_29 (by decide) ?_
      refine lv_iconst (v := (0 : Int32)) C.1 C.2.1 dX9_goats_30 (by decide) ?_
      obtain ⟨q4, hq4, hD⟩ := Option.bind_eq_some_iff.mp hD
      refine x_goi hw (x_runV (As := [.int (x1), .int ((-1 : Int32)), .int ((0 : Int32))]) (rest := [.int ((2 : Int32))]) (k := 1) (j := 0) C hw (Nat.le_of_ble_eq_true rfl) rfl rfl cV_X4_goatsReachIf kw_207 (c_X4_goatsReachIf l X ex x1 (-1 : Int32) (0 : Int32)  q1.2 q4 hq4) ⟨Nat.le_of_ble_eq_true rfl, Nat.le_of_ble_eq_true rfl⟩ rfl hl.1 rfl (Nat.le_of_ble_eq_true rfl) dX9_goats_31 ⟨Nat.le_of_ble_eq_true rfl, Nat.le_of_ble_eq_true rfl⟩) (fun H locs hw => ?_)
      refine lv_ishl C.1 C.2.1 dX9_goats_34 ?_
      refine lv_iconst (v := (1 : Int32)) C.1 C.2.1 dX9_goats_35 (by decide) ?_
      refine lv_isub C.1 C.2.1 dX9_goats_36 ?_
      obtain rfl := Option.some.inj hD
      exact x_iret C hw hr hk dX9_goats_37
    · replace hD := (if_pos c3).symm.trans hD
      refine lv_bipush (v := (-3 : Int32)) C.1 C.2.1 dX9_goats_20 (by decide) ?_
      obtain rfl := Option.some.inj hD
      exact x_iret C hw hr hk dX9_goats_22
  · replace hD := (if_pos c2).symm.trans hD
    refine lv_bipush (v := (-2 : Int32)) C.1 C.2.1 dX9_goats_7 (by decide) ?_
    obtain rfl := Option.some.inj hD
    exact x_iret C hw hr hk dX9_goats_9
theorem kw_208 : Cond.methodLink RX4 76 yX4_lightIf ∈ gtbl := gm2 140 rfl rfl
theorem kw_209 : Cond.fieldLink RX4 9 (TX4 0).1 (TX4 0).2.1 (TX4 0).2.2.1 ∈ gtbl := gm1 72 rfl rfl
theorem gf_X4_0 {p : Program} {l : Launch} {e : Env} {R : Room} {s : State} {m : MethodId} {args : Array Value} {below : List Frame} {meth : Method} {c : Code} {H : Heap} {locs : List Loc} {cells slots : Nat} {Q : State → Prop} {cc : ByteArray} {pc nL index : Nat} {ls : Array Slot} {rest : List Value} {X : XC} {ex : va_W} {z : XS} {own : String} (C : CallFix p m c cc nL s args gtbl own) (hw : xw X ex z s H locs) (hlink : Cond.fieldLink own index (TX4 0).1 (TX4 0).2.1 (TX4 0).2.2.1 ∈ gtbl) (hdg : decode cc pc = .ok (.getfield index, 3)) (kk : W p l e R s m args below meth c H locs cells slots Q (F0 m (pc + 3) ls (.ref (X.2.2.1 7 0) :: rest))) : W p l e R s m args below meth c H locs cells slots Q (F0 m pc ls (.ref (X.2.2.1 1 0) :: rest)) :=
  x_get (k := 1) (j := 0) C hw (Nat.le_of_ble_eq_true rfl) 0 (v := .ref (X.2.2.1 7 0)) rfl rfl ixX4 (by decide) hlink rfl hdg kk
theorem kw_211 : Cond.methodLink RX4 79 yX4_goatsReachIf ∈ gtbl := gm2 141 rfl rfl
abbrev rm_X4_betterOffIf : Room := { frames := 3, cells := 0, slots := 0, locals := 72 }
def J_X4_betterOffIf_24 (x1 : Int32) (x2 : Int32) (x3 : Int32) (x4 : Int32) (y5 : Int32) (z : XS) : Option (Int32 × XS) :=
  (D_X4_goatsReachIf x2 x3 x4 z).bind fun q4 => ((if x1 ≤ q4.1 then some (y5, q4.2) else some (y5 + 1, q4.2)))
set_option maxHeartbeats 4000000 in
set_option maxRecDepth 100000 in
theorem w_X4_betterOffIf_24 {p : Program} {l : Launch} {e : Env} {s : State} {m : MethodId} {below : List Frame} {meth : Method} {c : Code} {X : XC} {ex : va_W} (x1 : Int32) (x2 : Int32) (x3 : Int32) (x4 : Int32) (C : CallFix p m c cX4_betterOffIf 6 s (([.ref (X.2.2.1 1 (0)), .int (x1), .int (x2), .int (x3), .int (x4)] : List Value).toArray) gtbl RX4) (hr : meth.sig.returnType = (some .int)) (hk : meth.locks = false) (R0 : Int32 × XS)  : ∀ (y5 : Int32) (z : XS), J_X4_betterOffIf_24 x1 x2 x3 x4  y5 z = some R0 → ∀ (H : Heap) (locs : List Loc), xw X ex z s H locs → ∀ (ls : Array Slot), lv_has ls 6 [(0, .ref (X.2.2.1 1 (0))), (1, .int (x1)), (2, .int (x2)), (3, .int (x3)), (4, .int (x4)), (5, .int (y5))] → W p l e rm_X4_betterOffIf s m (([.ref (X.2.2.1 1 (0)), .int (x1), .int (x2), .int (x3), .int (x4)] : List Value).toArray) below meth c H locs 0 0 (MQ below (xQi X ex R0.2 R0.1) (([.ref (X.2.2.1 1 (0)), .int (x1), .int (x2), .int (x3), .int (x4)] : List Value).toArray) s 0 0 (xA X)) (F0 m 24 ls []) := by
  intro y5 z  hD H locs hw ls hl
  unfold J_X4_betterOffIf_24 at hD
  refine lv_iload_n C.1 C.2.1 dX4_betterOffIf_24 rfl (lv_at hl 1 rfl) ?_
  refine lv_aload_n C.1 C.2.1 dX4_betterOffIf_25 rfl (lv_at hl 0 rfl) ?_
  refine lv_iload_n C.1 C.2.1 dX4_betterOffIf_26 rfl (lv_at hl 2 rfl) ?_
  refine lv_iload_n C.1 C.2.1 dX4_betterOffIf_27 rfl (lv_at hl 3 rfl) ?_
  refine lv_iload C.1 C.2.1 dX4_betterOffIf_28 (lv_at hl 4 rfl) ?_
  obtain ⟨q4, hq4, hD⟩ := Option.bind_eq_some_iff.mp hD
  refine x_goi hw (x_runV (As := [.int (x2), .int (x3), .int (x4)]) (rest := [.int (x1)]) (k := 1) (j := 0) C hw (Nat.le_of_ble_eq_true rfl) rfl rfl cV_X4_goatsReachIf kw_211 (c_X4_goatsReachIf l X ex x2 x3 x4  z q4 hq4) ⟨Nat.le_of_ble_eq_true rfl, Nat.le_of_ble_eq_true rfl⟩ rfl hl.1 rfl (Nat.le_of_ble_eq_true rfl) dX4_betterOffIf_30 ⟨Nat.le_of_ble_eq_true rfl, Nat.le_of_ble_eq_true rfl⟩) (fun H locs hw => ?_)
  refine lv_icmp_le (tgt := 39) C.1 C.2.1 dX4_betterOffIf_33 (by decide) (fun c5 => ?_) (fun c5 => ?_)
  · replace hD := (if_pos c5).symm.trans hD
    refine lv_iload C.1 C.2.1 dX4_betterOffIf_39 (lv_at hl 5 rfl) ?_
    obtain rfl := Option.some.inj hD
    exact x_iret C hw hr hk dX4_betterOffIf_41
  · replace hD := (if_neg c5).symm.trans hD
    refine lv_iinc (v := y5 + 1) (lv' := [(5, .int (y5 + 1)), (0, .ref (X.2.2.1 1 (0))), (1, .int (x1)), (2, .int (x2)), (3, .int (x3)), (4, .int (x4))]) C.1 C.2.1 dX4_betterOffIf_36 hl (k := 5) rfl rfl (by decide) rfl (fun ls hl => ?_)
    refine lv_iload C.1 C.2.1 dX4_betterOffIf_39 (lv_at hl 0 rfl) ?_
    obtain rfl := Option.some.inj hD
    exact x_iret C hw hr hk dX4_betterOffIf_41
def D_X4_betterOffIf (x1 : Int32) (x2 : Int32) (x3 : Int32) (x4 : Int32) (z : XS) : Option (Int32 × XS) :=
  (D_X4_lightIf x1 x2 x3 x4 z).bind fun q1 => (gd (inB x1 7) ((if q1.1 < gA q1.2 7 0 x1.toNatClampNeg then J_X4_betterOffIf_24 x1 x2 x3 x4  (0 : Int32) q1.2 else J_X4_betterOffIf_24 x1 x2 x3 x4  ((0 : Int32) + 1) q1.2)))
set_option maxHeartbeats 4000000 in
set_option maxRecDepth 100000 in
theorem c_X4_betterOffIf (l : Launch) (X : XC) (ex : va_W) (x1 : Int32) (x2 : Int32) (x3 : Int32) (x4 : Int32) (z : XS) (R0 : Int32 × XS) (hD : D_X4_betterOffIf x1 x2 x3 x4 z = some R0) : xM l X ex yX4_betterOffIf cX4_betterOffIf 6 (some .int) rm_X4_betterOffIf [.ref (X.2.2.1 1 (0)), .int (x1), .int (x2), .int (x3), .int (x4)] z (xQi X ex R0.2 R0.1) := by
  refine x_ent (by decide) (Nat.le_of_ble_eq_true rfl) ?_
  intro p e s m below meth c ls C hr hk hw hl
  replace hl : lv_has ls 6 [(0, .ref (X.2.2.1 1 (0))), (1, .int (x1)), (2, .int (x2)), (3, .int (x3)), (4, .int (x4))] := hl
  unfold D_X4_betterOffIf at hD
  refine lv_iconst (v := (0 : Int32)) C.1 C.2.1 dX4_betterOffIf_0 (by decide) ?_
  refine lv_istore (lv' := [(5, .int ((0 : Int32))), (0, .ref (X.2.2.1 1 (0))), (1, .int (x1)), (2, .int (x2)), (3, .int (x3)), (4, .int (x4))]) C.1 C.2.1 dX4_betterOffIf_1 hl (by decide) rfl (fun ls hl => ?_)
  refine lv_aload_n C.1 C.2.1 dX4_betterOffIf_3 rfl (lv_at hl 1 rfl) ?_
  refine lv_iload_n C.1 C.2.1 dX4_betterOffIf_4 rfl (lv_at hl 2 rfl) ?_
  refine lv_iload_n C.1 C.2.1 dX4_betterOffIf_5 rfl (lv_at hl 3 rfl) ?_
  refine lv_iload_n C.1 C.2.1 dX4_betterOffIf_6 rfl (lv_at hl 4 rfl) ?_
  refine lv_iload C.1 C.2.1 dX4_betterOffIf_7 (lv_at hl 5 rfl) ?_
  obtain ⟨q1, hq1, hD⟩ := Option.bind_eq_some_iff.mp hD
  refine x_goi hw (x_runV (As := [.int (x1), .int (x2), .int (x3), .int (x4)]) (rest := []) (k := 1) (j := 0) C hw (Nat.le_of_ble_eq_true rfl) rfl rfl cV_X4_lightIf kw_208 (c_X4_lightIf l X ex x1 x2 x3 x4  z q1 hq1) ⟨Nat.le_of_ble_eq_true rfl, Nat.le_of_ble_eq_true rfl⟩ rfl hl.1 rfl (Nat.le_of_ble_eq_true rfl) dX4_betterOffIf_9 ⟨Nat.le_of_ble_eq_true rfl, Nat.le_of_ble_eq_true rfl⟩) (fun H locs hw => ?_)
  refine lv_aload_n C.1 C.2.1 dX4_betterOffIf_12 rfl (lv_at hl 1 rfl) ?_
  refine gf_X4_0 C hw kw_209 dX4_betterOffIf_13 ?_
  refine lv_iload_n C.1 C.2.1 dX4_betterOffIf_16 rfl (lv_at hl 2 rfl) ?_
  obtain ⟨g2, hD⟩ := gd_some hD
  refine x_iald (k := 7) (j := 0) C hw rfl (Nat.le_of_ble_eq_true rfl) (inB_in g2) dX4_betterOffIf_17 ?_
  refine lv_icmp_lt (tgt := 24) C.1 C.2.1 dX4_betterOffIf_18 (by decide) (fun c3 => ?_) (fun c3 => ?_)
  · replace hD := (if_pos c3).symm.trans hD
    exact w_X4_betterOffIf_24 x1 x2 x3 x4  C hr hk R0   (0 : Int32) q1.2  hD _ _ hw _ (lv_sub hl [1, 2, 3, 4, 5, 0] rfl)
  · replace hD := (if_neg c3).symm.trans hD
    refine lv_iinc (v := (0 : Int32) + 1) (lv' := [(5, .int ((0 : Int32) + 1)), (0, .ref (X.2.2.1 1 (0))), (1, .int (x1)), (2, .int (x2)), (3, .int (x3)), (4, .int (x4))]) C.1 C.2.1 dX4_betterOffIf_21 hl (k := 0) rfl rfl (by decide) rfl (fun ls hl => ?_)
    exact w_X4_betterOffIf_24 x1 x2 x3 x4  C hr hk R0   ((0 : Int32) + 1) q1.2  hD _ _ hw _ (lv_sub hl [1, 2, 3, 4, 5, 0] rfl)
theorem kw_212 : Cond.code yX4_betterOffIf cX4_betterOffIf 6 (some .int) ∈ gtbl := gm2 139 rfl rfl
theorem nd_X4_betterOffIf : (yX4_betterOffIf).cls ≠ "java/lang/invoke/MethodHandle" ∧ (yX4_betterOffIf).cls ≠ "java/lang/invoke/VarHandle" ∧ (parseMethodDescriptor (yX4_betterOffIf).desc).map (fun d => d.parameters.length) = some 4 := by decide +kernel
theorem kw_214 : Cond.instanceMethod yX4_betterOffIf ∈ gtbl := gm2 137 rfl rfl
theorem kw_215 : Cond.selects RX4 yX4_betterOffIf yX4_betterOffIf ∈ gtbl := gm2 138 rfl rfl
theorem cV_X4_betterOffIf : xcV yX4_betterOffIf cX4_betterOffIf 6 (some .int) 4 := ⟨⟨kw_212, kw_89, nd_X4_betterOffIf⟩, kw_214, kw_215⟩
theorem kw_217 : Cond.methodLink RX9 158 yX4_betterOffIf ∈ gtbl := gm2 136 rfl rfl
abbrev rm_X9_off : Room := { frames := 4, cells := 0, slots := 0, locals := 97 }
def D_X9_off (x1 : Int32) (x2 : Int32) (z : XS) : Option (Int32 × XS) :=
  (D_X4_isGarden x1 z).bind fun q1 => ((if q1.1 = 0 then some ((-1 : Int32), q1.2) else (D_X9_isDawn x2 q1.2).bind fun q3 => ((if q3.1 = 0 then some ((-2 : Int32), q3.2) else (D_X4_betterOffIf x1 x2 (-1 : Int32) (0 : Int32) q3.2).bind fun q5 => (some (q5.1, q5.2))))))
set_option maxHeartbeats 4000000 in
set_option maxRecDepth 100000 in
theorem c_X9_off (l : Launch) (X : XC) (ex : va_W) (x1 : Int32) (x2 : Int32) (z : XS) (R0 : Int32 × XS) (hD : D_X9_off x1 x2 z = some R0) : xM l X ex yX9_off cX9_off 3 (some .int) rm_X9_off [.ref (X.2.2.1 0 (0)), .int (x1), .int (x2)] z (xQi X ex R0.2 R0.1) := by
  refine x_ent (by decide) (Nat.le_of_ble_eq_true rfl) ?_
  intro p e s m below meth c ls C hr hk hw hl
  replace hl : lv_has ls 3 [(0, .ref (X.2.2.1 0 (0))), (1, .int (x1)), (2, .int (x2))] := hl
  unfold D_X9_off at hD
  refine lv_aload_n C.1 C.2.1 dX9_off_0 rfl (lv_at hl 0 rfl) ?_
  refine gf_X9_0 C hw kw_86 dX9_off_1 ?_
  refine lv_iload_n C.1 C.2.1 dX9_off_4 rfl (lv_at hl 1 rfl) ?_
  obtain ⟨q1, hq1, hD⟩ := Option.bind_eq_some_iff.mp hD
  refine x_goi hw (x_runV (As := [.int (x1)]) (rest := []) (k := 1) (j := 0) C hw (Nat.le_of_ble_eq_true rfl) rfl rfl cV_X4_isGarden kw_94 (c_X4_isGarden l X ex x1  z q1 hq1) ⟨Nat.le_of_ble_eq_true rfl, Nat.le_of_ble_eq_true rfl⟩ rfl hl.1 rfl (Nat.le_of_ble_eq_true rfl) dX9_off_5 ⟨Nat.le_of_ble_eq_true rfl, Nat.le_of_ble_eq_true rfl⟩) (fun H locs hw => ?_)
  refine lv_if_ne (tgt := 13) C.1 C.2.1 dX9_off_8 (by decide) (fun c2 => ?_) (fun c2 => ?_)
  · replace hD := (if_neg c2).symm.trans hD
    refine lv_iload_n C.1 C.2.1 dX9_off_13 rfl (lv_at hl 2 rfl) ?_
    obtain ⟨q3, hq3, hD⟩ := Option.bind_eq_some_iff.mp hD
    refine x_goi hw (x_runS (As := [.int (x2)]) (rest := []) C hw cS_X9_isDawn kw_170 (c_X9_isDawn l X ex x2  q1.2 q3 hq3) ⟨Nat.le_of_ble_eq_true rfl, Nat.le_of_ble_eq_true rfl⟩ rfl hl.1 rfl (Nat.le_of_ble_eq_true rfl) dX9_off_14 ⟨Nat.le_of_ble_eq_true rfl, Nat.le_of_ble_eq_true rfl⟩) (fun H locs hw => ?_)
    refine lv_if_ne (tgt := 23) C.1 C.2.1 dX9_off_17 (by decide) (fun c4 => ?_) (fun c4 => ?_)
    · replace hD := (if_neg c4).symm.trans hD
      refine lv_aload_n C.1 C.2.1 dX9_off_23 rfl (lv_at hl 0 rfl) ?_
      refine gf_X9_0 C hw kw_86 dX9_off_24 ?_
      refine lv_iload_n C.1 C.2.1 dX9_off_27 rfl (lv_at hl 1 rfl) ?_
      refine lv_iload_n C.1 C.2.1 dX9_off_28 rfl (lv_at hl 2 rfl) ?_
      refine lv_iconst (v := (-1 : Int32)) C.1 C.2.1 dX9_off_29 (by decide) ?_
      refine lv_iconst (v := (0 : Int32)) C.1 C.2.1 dX9_off_30 (by decide) ?_
      obtain ⟨q5, hq5, hD⟩ := Option.bind_eq_some_iff.mp hD
      refine x_goi hw (x_runV (As := [.int (x1), .int (x2), .int ((-1 : Int32)), .int ((0 : Int32))]) (rest := []) (k := 1) (j := 0) C hw (Nat.le_of_ble_eq_true rfl) rfl rfl cV_X4_betterOffIf kw_217 (c_X4_betterOffIf l X ex x1 x2 (-1 : Int32) (0 : Int32)  q3.2 q5 hq5) ⟨Nat.le_of_ble_eq_true rfl, Nat.le_of_ble_eq_true rfl⟩ rfl hl.1 rfl (Nat.le_of_ble_eq_true rfl) dX9_off_31 ⟨Nat.le_of_ble_eq_true rfl, Nat.le_of_ble_eq_true rfl⟩) (fun H locs hw => ?_)
      obtain rfl := Option.some.inj hD
      exact x_iret C hw hr hk dX9_off_34
    · replace hD := (if_pos c4).symm.trans hD
      refine lv_bipush (v := (-2 : Int32)) C.1 C.2.1 dX9_off_20 (by decide) ?_
      obtain rfl := Option.some.inj hD
      exact x_iret C hw hr hk dX9_off_22
  · replace hD := (if_pos c2).symm.trans hD
    refine lv_iconst (v := (-1 : Int32)) C.1 C.2.1 dX9_off_11 (by decide) ?_
    obtain rfl := Option.some.inj hD
    exact x_iret C hw hr hk dX9_off_12
abbrev rm_X0_inchesIf : Room := { frames := 3, cells := 0, slots := 0, locals := 66 }
def B_X0_inchesIf_36 (j0 : Nat) (x1 : Int32) (x2 : Int32) (x3 : Int32) (x4 : Int32) (k36_ : Int32 → Int32 → XS → Option (Int32 × XS)) (y5 : Int32) (y6 : Int32) (z : XS) : Option (Int32 × XS) :=
  (if x2 ≤ y6 then some (y5, z) else gd (inB x1 2) (gd (inB y6 30) ((D_X0_dayOver j0 y5 y6 (gA z 12 (2 * j0 + x1.toNatClampNeg) y6.toNatClampNeg) z).bind fun q8 => (k36_ q8.1 (y6 + 1) q8.2))))
def L_X0_inchesIf_36 (j0 : Nat) (x1 : Int32) (x2 : Int32) (x3 : Int32) (x4 : Int32) : Nat → Int32 → Int32 → XS → Option (Int32 × XS)
  | 0 => fun _ _ _ => none
  | n + 1 => B_X0_inchesIf_36 j0 x1 x2 x3 x4  (L_X0_inchesIf_36 j0 x1 x2 x3 x4  n)
set_option maxHeartbeats 4000000 in
set_option maxRecDepth 100000 in
theorem w_X0_inchesIf_36 {p : Program} {l : Launch} {e : Env} {s : State} {m : MethodId} {below : List Frame} {meth : Method} {c : Code} {X : XC} {ex : va_W} (j0 : Nat) (x1 : Int32) (x2 : Int32) (x3 : Int32) (x4 : Int32) (hj0 : j0 < 6) (C : CallFix p m c cX0_inchesIf 7 s (([.ref (X.2.2.1 9 (j0)), .int (x1), .int (x2), .int (x3), .int (x4)] : List Value).toArray) gtbl RX0) (hr : meth.sig.returnType = (some .int)) (hk : meth.locks = false) (R0 : Int32 × XS)  : ∀ (n : Nat), ∀ (y5 : Int32) (y6 : Int32) (z : XS), L_X0_inchesIf_36 j0 x1 x2 x3 x4  n y5 y6 z = some R0 → ∀ (H : Heap) (locs : List Loc), xw X ex z s H locs → ∀ (ls : Array Slot), lv_has ls 7 [(0, .ref (X.2.2.1 9 (j0))), (1, .int (x1)), (2, .int (x2)), (5, .int (y5)), (6, .int (y6))] → W p l e rm_X0_inchesIf s m (([.ref (X.2.2.1 9 (j0)), .int (x1), .int (x2), .int (x3), .int (x4)] : List Value).toArray) below meth c H locs 0 0 (MQ below (xQi X ex R0.2 R0.1) (([.ref (X.2.2.1 9 (j0)), .int (x1), .int (x2), .int (x3), .int (x4)] : List Value).toArray) s 0 0 (xA X)) (F0 m 36 ls []) := by
  intro n
  induction n with
  | zero =>
    intro y5 y6 z  hD
    cases hD
  | succ n ih =>
    intro y5 y6 z  hD H locs hw ls hl
    replace hD : B_X0_inchesIf_36 j0 x1 x2 x3 x4  (L_X0_inchesIf_36 j0 x1 x2 x3 x4  n) y5 y6 z = some R0 := hD
    unfold B_X0_inchesIf_36 at hD
    refine lv_iload C.1 C.2.1 dX0_inchesIf_36 (lv_at hl 4 rfl) ?_
    refine lv_iload_n C.1 C.2.1 dX0_inchesIf_38 rfl (lv_at hl 2 rfl) ?_
    refine lv_icmp_ge (tgt := 67) C.1 C.2.1 dX0_inchesIf_39 (by decide) (fun c5 => ?_) (fun c5 => ?_)
    · replace hD := (if_pos c5).symm.trans hD
      refine lv_iload C.1 C.2.1 dX0_inchesIf_67 (lv_at hl 3 rfl) ?_
      obtain rfl := Option.some.inj hD
      exact x_iret C hw hr hk dX0_inchesIf_69
    · replace hD := (if_neg c5).symm.trans hD
      refine lv_aload_n C.1 C.2.1 dX0_inchesIf_42 rfl (lv_at hl 0 rfl) ?_
      refine lv_iload C.1 C.2.1 dX0_inchesIf_43 (lv_at hl 3 rfl) ?_
      refine lv_iload C.1 C.2.1 dX0_inchesIf_45 (lv_at hl 4 rfl) ?_
      refine lv_aload_n C.1 C.2.1 dX0_inchesIf_47 rfl (lv_at hl 0 rfl) ?_
      refine gf_X0_1 C hw (j := j0) hj0 kw_73 dX0_inchesIf_48 ?_
      refine lv_iload_n C.1 C.2.1 dX0_inchesIf_51 rfl (lv_at hl 1 rfl) ?_
      obtain ⟨g6, hD⟩ := gd_some hD
      refine x_aald (k := 11) (j := j0) (f := fun i => X.2.2.1 12 (2 * j0 + i)) C hw hj0 1 rfl rfl rfl (inB_in g6) (a := X.2.2.1 12 (2 * j0 + x1.toNatClampNeg)) rfl dX0_inchesIf_52 ?_
      refine lv_iload C.1 C.2.1 dX0_inchesIf_53 (lv_at hl 4 rfl) ?_
      obtain ⟨g7, hD⟩ := gd_some hD
      refine x_iald (k := 12) (j := 2 * j0 + x1.toNatClampNeg) C hw rfl (x_lt2 hj0 (inB_lt g6)) (inB_in g7) dX0_inchesIf_55 ?_
      obtain ⟨q8, hq8, hD⟩ := Option.bind_eq_some_iff.mp hD
      refine x_goi hw (x_runV (As := [.int (y5), .int (y6), .int (gA z 12 (2 * j0 + x1.toNatClampNeg) y6.toNatClampNeg)]) (rest := []) (k := 9) (j := j0) C hw hj0 rfl rfl cV_X0_dayOver kw_83 (c_X0_dayOver l X ex j0 y5 y6 (gA z 12 (2 * j0 + x1.toNatClampNeg) y6.toNatClampNeg) hj0 z q8 hq8) ⟨Nat.le_of_ble_eq_true rfl, Nat.le_of_ble_eq_true rfl⟩ rfl hl.1 rfl (Nat.le_of_ble_eq_true rfl) dX0_inchesIf_56 ⟨Nat.le_of_ble_eq_true rfl, Nat.le_of_ble_eq_true rfl⟩) (fun H locs hw => ?_)
      refine lv_istore (lv' := [(5, .int (q8.1)), (0, .ref (X.2.2.1 9 (j0))), (1, .int (x1)), (2, .int (x2)), (6, .int (y6))]) C.1 C.2.1 dX0_inchesIf_59 hl (by decide) rfl (fun ls hl => ?_)
      refine lv_iinc (v := y6 + 1) (lv' := [(6, .int (y6 + 1)), (5, .int (q8.1)), (0, .ref (X.2.2.1 9 (j0))), (1, .int (x1)), (2, .int (x2))]) C.1 C.2.1 dX0_inchesIf_61 hl (k := 4) rfl rfl (by decide) rfl (fun ls hl => ?_)
      refine lv_goto (tgt := 36) C.1 C.2.1 dX0_inchesIf_64 (by decide) ?_
      exact ih q8.1 (y6 + 1) q8.2  hD _ _ hw _ (lv_sub hl [2, 3, 4, 1, 0] rfl)
def D_X0_inchesIf (j0 : Nat) (x1 : Int32) (x2 : Int32) (x3 : Int32) (x4 : Int32) (z : XS) : Option (Int32 × XS) :=
  (if x3 < x2 then gd (inB x1 2) (gd (inB x3 31) ((D_X0_dayOver j0 (gA z 14 (2 * j0 + x1.toNatClampNeg) x3.toNatClampNeg) x3 x4 z).bind fun q4 => (L_X0_inchesIf_36 j0 x1 x2 x3 x4  64 q4.1 (x3 + (1 : Int32)) q4.2))) else gd (inB x1 2) (gd (inB x2 31) (some (gA z 14 (2 * j0 + x1.toNatClampNeg) x2.toNatClampNeg, z))))
set_option maxHeartbeats 4000000 in
set_option maxRecDepth 100000 in
theorem c_X0_inchesIf (l : Launch) (X : XC) (ex : va_W) (j0 : Nat) (x1 : Int32) (x2 : Int32) (x3 : Int32) (x4 : Int32) (hj0 : j0 < 6) (z : XS) (R0 : Int32 × XS) (hD : D_X0_inchesIf j0 x1 x2 x3 x4 z = some R0) : xM l X ex yX0_inchesIf cX0_inchesIf 7 (some .int) rm_X0_inchesIf [.ref (X.2.2.1 9 (j0)), .int (x1), .int (x2), .int (x3), .int (x4)] z (xQi X ex R0.2 R0.1) := by
  refine x_ent (by decide) (Nat.le_of_ble_eq_true rfl) ?_
  intro p e s m below meth c ls C hr hk hw hl
  replace hl : lv_has ls 7 [(0, .ref (X.2.2.1 9 (j0))), (1, .int (x1)), (2, .int (x2)), (3, .int (x3)), (4, .int (x4))] := hl
  unfold D_X0_inchesIf at hD
  refine lv_iload_n C.1 C.2.1 dX0_inchesIf_0 rfl (lv_at hl 2 rfl) ?_
  refine lv_iload_n C.1 C.2.1 dX0_inchesIf_1 rfl (lv_at hl 3 rfl) ?_
  refine lv_icmp_gt (tgt := 14) C.1 C.2.1 dX0_inchesIf_2 (by decide) (fun c1 => ?_) (fun c1 => ?_)
  · replace hD := (if_pos c1).symm.trans hD
    refine lv_aload_n C.1 C.2.1 dX0_inchesIf_14 rfl (lv_at hl 0 rfl) ?_
    refine lv_aload_n C.1 C.2.1 dX0_inchesIf_15 rfl (lv_at hl 0 rfl) ?_
    refine gf_X0_2 C hw (j := j0) hj0 kw_75 dX0_inchesIf_16 ?_
    refine lv_iload_n C.1 C.2.1 dX0_inchesIf_19 rfl (lv_at hl 1 rfl) ?_
    obtain ⟨g2, hD⟩ := gd_some hD
    refine x_aald (k := 13) (j := j0) (f := fun i => X.2.2.1 14 (2 * j0 + i)) C hw hj0 1 rfl rfl rfl (inB_in g2) (a := X.2.2.1 14 (2 * j0 + x1.toNatClampNeg)) rfl dX0_inchesIf_20 ?_
    refine lv_iload_n C.1 C.2.1 dX0_inchesIf_21 rfl (lv_at hl 3 rfl) ?_
    obtain ⟨g3, hD⟩ := gd_some hD
    refine x_iald (k := 14) (j := 2 * j0 + x1.toNatClampNeg) C hw rfl (x_lt2 hj0 (inB_lt g2)) (inB_in g3) dX0_inchesIf_22 ?_
    refine lv_iload_n C.1 C.2.1 dX0_inchesIf_23 rfl (lv_at hl 3 rfl) ?_
    refine lv_iload C.1 C.2.1 dX0_inchesIf_24 (lv_at hl 4 rfl) ?_
    obtain ⟨q4, hq4, hD⟩ := Option.bind_eq_some_iff.mp hD
    refine x_goi hw (x_runV (As := [.int (gA z 14 (2 * j0 + x1.toNatClampNeg) x3.toNatClampNeg), .int (x3), .int (x4)]) (rest := []) (k := 9) (j := j0) C hw hj0 rfl rfl cV_X0_dayOver kw_83 (c_X0_dayOver l X ex j0 (gA z 14 (2 * j0 + x1.toNatClampNeg) x3.toNatClampNeg) x3 x4 hj0 z q4 hq4) ⟨Nat.le_of_ble_eq_true rfl, Nat.le_of_ble_eq_true rfl⟩ rfl hl.1 rfl (Nat.le_of_ble_eq_true rfl) dX0_inchesIf_26 ⟨Nat.le_of_ble_eq_true rfl, Nat.le_of_ble_eq_true rfl⟩) (fun H locs hw => ?_)
    refine lv_istore (lv' := [(5, .int (q4.1)), (0, .ref (X.2.2.1 9 (j0))), (1, .int (x1)), (2, .int (x2)), (3, .int (x3)), (4, .int (x4))]) C.1 C.2.1 dX0_inchesIf_29 hl (by decide) rfl (fun ls hl => ?_)
    refine lv_iload_n C.1 C.2.1 dX0_inchesIf_31 rfl (lv_at hl 4 rfl) ?_
    refine lv_iconst (v := (1 : Int32)) C.1 C.2.1 dX0_inchesIf_32 (by decide) ?_
    refine lv_iadd C.1 C.2.1 dX0_inchesIf_33 ?_
    refine lv_istore (lv' := [(6, .int (x3 + (1 : Int32))), (5, .int (q4.1)), (0, .ref (X.2.2.1 9 (j0))), (1, .int (x1)), (2, .int (x2)), (3, .int (x3)), (4, .int (x4))]) C.1 C.2.1 dX0_inchesIf_34 hl (by decide) rfl (fun ls hl => ?_)
    exact w_X0_inchesIf_36 j0 x1 x2 x3 x4 hj0 C hr hk R0   64 q4.1 (x3 + (1 : Int32)) q4.2  hD _ _ hw _ (lv_sub hl [2, 3, 4, 1, 0] rfl)
  · replace hD := (if_neg c1).symm.trans hD
    refine lv_aload_n C.1 C.2.1 dX0_inchesIf_5 rfl (lv_at hl 0 rfl) ?_
    refine gf_X0_2 C hw (j := j0) hj0 kw_75 dX0_inchesIf_6 ?_
    refine lv_iload_n C.1 C.2.1 dX0_inchesIf_9 rfl (lv_at hl 1 rfl) ?_
    obtain ⟨g9, hD⟩ := gd_some hD
    refine x_aald (k := 13) (j := j0) (f := fun i => X.2.2.1 14 (2 * j0 + i)) C hw hj0 1 rfl rfl rfl (inB_in g9) (a := X.2.2.1 14 (2 * j0 + x1.toNatClampNeg)) rfl dX0_inchesIf_10 ?_
    refine lv_iload_n C.1 C.2.1 dX0_inchesIf_11 rfl (lv_at hl 2 rfl) ?_
    obtain ⟨g10, hD⟩ := gd_some hD
    refine x_iald (k := 14) (j := 2 * j0 + x1.toNatClampNeg) C hw rfl (x_lt2 hj0 (inB_lt g9)) (inB_in g10) dX0_inchesIf_12 ?_
    obtain rfl := Option.some.inj hD
    exact x_iret C hw hr hk dX0_inchesIf_13
theorem kw_218 : Cond.code yX0_inchesIf cX0_inchesIf 7 (some .int) ∈ gtbl := gm2 157 rfl rfl
theorem nd_X0_inchesIf : (yX0_inchesIf).cls ≠ "java/lang/invoke/MethodHandle" ∧ (yX0_inchesIf).cls ≠ "java/lang/invoke/VarHandle" ∧ (parseMethodDescriptor (yX0_inchesIf).desc).map (fun d => d.parameters.length) = some 4 := by decide +kernel
theorem kw_220 : Cond.instanceMethod yX0_inchesIf ∈ gtbl := gm2 155 rfl rfl
theorem kw_221 : Cond.selects RX0 yX0_inchesIf yX0_inchesIf ∈ gtbl := gm2 156 rfl rfl
theorem cV_X0_inchesIf : xcV yX0_inchesIf cX0_inchesIf 7 (some .int) 4 := ⟨⟨kw_218, kw_78, nd_X0_inchesIf⟩, kw_220, kw_221⟩
theorem kw_223 : Cond.methodLink RX0 65 yX0_inchesIf ∈ gtbl := gm2 154 rfl rfl
abbrev rm_X0_scoldedWord : Room := { frames := 4, cells := 0, slots := 0, locals := 92 }
def B_X0_scoldedWord_10 (j0 : Nat) (x1 : Int32) (x2 : Int32) (x3 : Int32) (k10_ : Int32 → XS → Option (Int32 × XS)) (y4 : Int32) (z : XS) : Option (Int32 × XS) :=
  (if (3 : Int32) < y4 then some ((-9 : Int32), z) else (D_X0_inchesIf j0 x1 (30 : Int32) x2 y4 z).bind fun q4 => ((if q4.1 < (12 : Int32) * x3 then k10_ (y4 + 1) q4.2 else some (y4, q4.2))))
def L_X0_scoldedWord_10 (j0 : Nat) (x1 : Int32) (x2 : Int32) (x3 : Int32) : Nat → Int32 → XS → Option (Int32 × XS)
  | 0 => fun _ _ => none
  | n + 1 => B_X0_scoldedWord_10 j0 x1 x2 x3  (L_X0_scoldedWord_10 j0 x1 x2 x3  n)
set_option maxHeartbeats 4000000 in
set_option maxRecDepth 100000 in
theorem w_X0_scoldedWord_10 {p : Program} {l : Launch} {e : Env} {s : State} {m : MethodId} {below : List Frame} {meth : Method} {c : Code} {X : XC} {ex : va_W} (j0 : Nat) (x1 : Int32) (x2 : Int32) (x3 : Int32) (hj0 : j0 < 6) (C : CallFix p m c cX0_scoldedWord 5 s (([.ref (X.2.2.1 9 (j0)), .int (x1), .int (x2), .int (x3)] : List Value).toArray) gtbl RX0) (hr : meth.sig.returnType = (some .int)) (hk : meth.locks = false) (R0 : Int32 × XS)  : ∀ (n : Nat), ∀ (y4 : Int32) (z : XS), L_X0_scoldedWord_10 j0 x1 x2 x3  n y4 z = some R0 → ∀ (H : Heap) (locs : List Loc), xw X ex z s H locs → ∀ (ls : Array Slot), lv_has ls 5 [(0, .ref (X.2.2.1 9 (j0))), (1, .int (x1)), (2, .int (x2)), (3, .int (x3)), (4, .int (y4))] → W p l e rm_X0_scoldedWord s m (([.ref (X.2.2.1 9 (j0)), .int (x1), .int (x2), .int (x3)] : List Value).toArray) below meth c H locs 0 0 (MQ below (xQi X ex R0.2 R0.1) (([.ref (X.2.2.1 9 (j0)), .int (x1), .int (x2), .int (x3)] : List Value).toArray) s 0 0 (xA X)) (F0 m 10 ls []) := by
  intro n
  induction n with
  | zero =>
    intro y4 z  hD
    cases hD
  | succ n ih =>
    intro y4 z  hD H locs hw ls hl
    replace hD : B_X0_scoldedWord_10 j0 x1 x2 x3  (L_X0_scoldedWord_10 j0 x1 x2 x3  n) y4 z = some R0 := hD
    unfold B_X0_scoldedWord_10 at hD
    refine lv_iload C.1 C.2.1 dX0_scoldedWord_10 (lv_at hl 4 rfl) ?_
    refine lv_iconst (v := (3 : Int32)) C.1 C.2.1 dX0_scoldedWord_12 (by decide) ?_
    refine lv_icmp_gt (tgt := 42) C.1 C.2.1 dX0_scoldedWord_13 (by decide) (fun c3 => ?_) (fun c3 => ?_)
    · replace hD := (if_pos c3).symm.trans hD
      refine lv_bipush (v := (-9 : Int32)) C.1 C.2.1 dX0_scoldedWord_42 (by decide) ?_
      obtain rfl := Option.some.inj hD
      exact x_iret C hw hr hk dX0_scoldedWord_44
    · replace hD := (if_neg c3).symm.trans hD
      refine lv_aload_n C.1 C.2.1 dX0_scoldedWord_16 rfl (lv_at hl 0 rfl) ?_
      refine lv_iload_n C.1 C.2.1 dX0_scoldedWord_17 rfl (lv_at hl 1 rfl) ?_
      refine lv_bipush (v := (30 : Int32)) C.1 C.2.1 dX0_scoldedWord_18 (by decide) ?_
      refine lv_iload_n C.1 C.2.1 dX0_scoldedWord_20 rfl (lv_at hl 2 rfl) ?_
      refine lv_iload C.1 C.2.1 dX0_scoldedWord_21 (lv_at hl 4 rfl) ?_
      obtain ⟨q4, hq4, hD⟩ := Option.bind_eq_some_iff.mp hD
      refine x_goi hw (x_runV (As := [.int (x1), .int ((30 : Int32)), .int (x2), .int (y4)]) (rest := []) (k := 9) (j := j0) C hw hj0 rfl rfl cV_X0_inchesIf kw_223 (c_X0_inchesIf l X ex j0 x1 (30 : Int32) x2 y4 hj0 z q4 hq4) ⟨Nat.le_of_ble_eq_true rfl, Nat.le_of_ble_eq_true rfl⟩ rfl hl.1 rfl (Nat.le_of_ble_eq_true rfl) dX0_scoldedWord_23 ⟨Nat.le_of_ble_eq_true rfl, Nat.le_of_ble_eq_true rfl⟩) (fun H locs hw => ?_)
      refine lv_bipush (v := (12 : Int32)) C.1 C.2.1 dX0_scoldedWord_26 (by decide) ?_
      refine lv_iload_n C.1 C.2.1 dX0_scoldedWord_28 rfl (lv_at hl 3 rfl) ?_
      refine lv_imul C.1 C.2.1 dX0_scoldedWord_29 ?_
      refine lv_icmp_lt (tgt := 36) C.1 C.2.1 dX0_scoldedWord_30 (by decide) (fun c5 => ?_) (fun c5 => ?_)
      · replace hD := (if_pos c5).symm.trans hD
        refine lv_iinc (v := y4 + 1) (lv' := [(4, .int (y4 + 1)), (0, .ref (X.2.2.1 9 (j0))), (1, .int (x1)), (2, .int (x2)), (3, .int (x3))]) C.1 C.2.1 dX0_scoldedWord_36 hl (k := 4) rfl rfl (by decide) rfl (fun ls hl => ?_)
        refine lv_goto (tgt := 10) C.1 C.2.1 dX0_scoldedWord_39 (by decide) ?_
        exact ih (y4 + 1) q4.2  hD _ _ hw _ (lv_sub hl [1, 2, 3, 4, 0] rfl)
      · replace hD := (if_neg c5).symm.trans hD
        refine lv_iload C.1 C.2.1 dX0_scoldedWord_33 (lv_at hl 4 rfl) ?_
        obtain rfl := Option.some.inj hD
        exact x_iret C hw hr hk dX0_scoldedWord_35
def D_X0_scoldedWord (j0 : Nat) (x1 : Int32) (x2 : Int32) (x3 : Int32) (z : XS) : Option (Int32 × XS) :=
  gd (inB x1 2) (gd (inB x2 30) (L_X0_scoldedWord_10 j0 x1 x2 x3  64 (gA z 12 (2 * j0 + x1.toNatClampNeg) x2.toNatClampNeg) z))
set_option maxHeartbeats 4000000 in
set_option maxRecDepth 100000 in
theorem c_X0_scoldedWord (l : Launch) (X : XC) (ex : va_W) (j0 : Nat) (x1 : Int32) (x2 : Int32) (x3 : Int32) (hj0 : j0 < 6) (z : XS) (R0 : Int32 × XS) (hD : D_X0_scoldedWord j0 x1 x2 x3 z = some R0) : xM l X ex yX0_scoldedWord cX0_scoldedWord 5 (some .int) rm_X0_scoldedWord [.ref (X.2.2.1 9 (j0)), .int (x1), .int (x2), .int (x3)] z (xQi X ex R0.2 R0.1) := by
  refine x_ent (by decide) (Nat.le_of_ble_eq_true rfl) ?_
  intro p e s m below meth c ls C hr hk hw hl
  replace hl : lv_has ls 5 [(0, .ref (X.2.2.1 9 (j0))), (1, .int (x1)), (2, .int (x2)), (3, .int (x3))] := hl
  unfold D_X0_scoldedWord at hD
  refine lv_aload_n C.1 C.2.1 dX0_scoldedWord_0 rfl (lv_at hl 0 rfl) ?_
  refine gf_X0_1 C hw (j := j0) hj0 kw_73 dX0_scoldedWord_1 ?_
  refine lv_iload_n C.1 C.2.1 dX0_scoldedWord_4 rfl (lv_at hl 1 rfl) ?_
  obtain ⟨g1, hD⟩ := gd_some hD
  refine x_aald (k := 11) (j := j0) (f := fun i => X.2.2.1 12 (2 * j0 + i)) C hw hj0 1 rfl rfl rfl (inB_in g1) (a := X.2.2.1 12 (2 * j0 + x1.toNatClampNeg)) rfl dX0_scoldedWord_5 ?_
  refine lv_iload_n C.1 C.2.1 dX0_scoldedWord_6 rfl (lv_at hl 2 rfl) ?_
  obtain ⟨g2, hD⟩ := gd_some hD
  refine x_iald (k := 12) (j := 2 * j0 + x1.toNatClampNeg) C hw rfl (x_lt2 hj0 (inB_lt g1)) (inB_in g2) dX0_scoldedWord_7 ?_
  refine lv_istore (lv' := [(4, .int (gA z 12 (2 * j0 + x1.toNatClampNeg) x2.toNatClampNeg)), (0, .ref (X.2.2.1 9 (j0))), (1, .int (x1)), (2, .int (x2)), (3, .int (x3))]) C.1 C.2.1 dX0_scoldedWord_8 hl (by decide) rfl (fun ls hl => ?_)
  exact w_X0_scoldedWord_10 j0 x1 x2 x3 hj0 C hr hk R0   64 (gA z 12 (2 * j0 + x1.toNatClampNeg) x2.toNatClampNeg) z  hD _ _ hw _ (lv_sub hl [1, 2, 3, 4, 0] rfl)
theorem kw_224 : Cond.code yX0_scoldedWord cX0_scoldedWord 5 (some .int) ∈ gtbl := gm2 153 rfl rfl
theorem nd_X0_scoldedWord : (yX0_scoldedWord).cls ≠ "java/lang/invoke/MethodHandle" ∧ (yX0_scoldedWord).cls ≠ "java/lang/invoke/VarHandle" ∧ (parseMethodDescriptor (yX0_scoldedWord).desc).map (fun d => d.parameters.length) = some 3 := by decide +kernel
theorem kw_226 : Cond.instanceMethod yX0_scoldedWord ∈ gtbl := gm2 151 rfl rfl
theorem kw_227 : Cond.selects RX0 yX0_scoldedWord yX0_scoldedWord ∈ gtbl := gm2 152 rfl rfl
theorem cV_X0_scoldedWord : xcV yX0_scoldedWord cX0_scoldedWord 5 (some .int) 3 := ⟨⟨kw_224, kw_78, nd_X0_scoldedWord⟩, kw_226, kw_227⟩
theorem kw_229 : Cond.methodLink RX4 83 yX0_scoldedWord ∈ gtbl := gm2 150 rfl rfl
theorem gNf_X0_1 {p : Program} {l : Launch} {e : Env} {R : Room} {s : State} {m : MethodId} {args : Array Value} {below : List Frame} {meth : Method} {c : Code} {H : Heap} {locs : List Loc} {cells slots : Nat} {Q : State → Prop} {cc : ByteArray} {pc nL index : Nat} {ls : Array Slot} {rest : List Value} {X : XC} {ex : va_W} {z : XS} {own : String} (C : CallFix p m c cc nL s args gtbl own) (hw : xw X ex z s H locs) {j : Nat} (hj : j < 6) (hlink : (own, index, (TX0 1).1, (TX0 1).2.1, (TX0 1).2.2.1, "WordHedges") ∈ xnf) (hdg : decode cc pc = .ok (.getfield index, 3)) (kk : W p l e R s m args below meth c H locs cells slots Q (F0 m (pc + 3) ls (.ref (X.2.2.1 11 j) :: rest))) : W p l e R s m args below meth c H locs cells slots Q (F0 m pc ls (.ref (X.2.2.1 9 j) :: rest)) :=
  x_getN (k := 9) (j := j) C hw hj 1 (v := .ref (X.2.2.1 11 j)) rfl rfl ixX0 (by decide) hlink rfl hdg kk
abbrev rm_X4_scoldedMore : Room := { frames := 5, cells := 0, slots := 0, locals := 116 }
def B_X4_scoldedMore_19 (x1 : Int32) (x2 : Int32) (k5_ : Int32 → Int32 → XS → Option (Int32 × XS)) (k19_ : Int32 → Int32 → Int32 → XS → Option (Int32 × XS)) (y3 : Int32) (y4 : Int32) (y5 : Int32) (z : XS) : Option (Int32 × XS) :=
  (if (1 : Int32) < y5 then k5_ y3 (y4 + 1) z else gd (inB y4 6) ((D_X0_scoldedWord y4.toNatClampNeg y5 x1 x2 z).bind fun q4 => ((if q4.1 = (-9 : Int32) then some ((-9 : Int32), q4.2) else gd (inB y4 6) (gd (inB y5 2) (gd (inB x1 30) (k19_ (y3 + (q4.1 - (gA q4.2 12 (2 * y4.toNatClampNeg + y5.toNatClampNeg) x1.toNatClampNeg))) y4 (y5 + 1) q4.2)))))))
def L_X4_scoldedMore_19 (x1 : Int32) (x2 : Int32) (k5_ : Int32 → Int32 → XS → Option (Int32 × XS)) : Nat → Int32 → Int32 → Int32 → XS → Option (Int32 × XS)
  | 0 => fun _ _ _ _ => none
  | n + 1 => B_X4_scoldedMore_19 x1 x2 k5_ (L_X4_scoldedMore_19 x1 x2 k5_ n)
set_option maxHeartbeats 4000000 in
set_option maxRecDepth 100000 in
theorem w_X4_scoldedMore_19 {p : Program} {l : Launch} {e : Env} {s : State} {m : MethodId} {below : List Frame} {meth : Method} {c : Code} {X : XC} {ex : va_W} (x1 : Int32) (x2 : Int32) (C : CallFix p m c cX4_scoldedMore 7 s (([.ref (X.2.2.1 1 (0)), .int (x1), .int (x2)] : List Value).toArray) gtbl RX4) (hr : meth.sig.returnType = (some .int)) (hk : meth.locks = false) (R0 : Int32 × XS) (k5_ : Int32 → Int32 → XS → Option (Int32 × XS)) (hk5_ : ∀ (y3 : Int32) (y4 : Int32) (z : XS), k5_ y3 y4 z = some R0 → ∀ (H : Heap) (locs : List Loc), xw X ex z s H locs → ∀ (ls : Array Slot), lv_has ls 7 [(0, .ref (X.2.2.1 1 (0))), (1, .int (x1)), (2, .int (x2)), (3, .int (y3)), (4, .int (y4))] → W p l e rm_X4_scoldedMore s m (([.ref (X.2.2.1 1 (0)), .int (x1), .int (x2)] : List Value).toArray) below meth c H locs 0 0 (MQ below (xQi X ex R0.2 R0.1) (([.ref (X.2.2.1 1 (0)), .int (x1), .int (x2)] : List Value).toArray) s 0 0 (xA X)) (F0 m 5 ls [])) : ∀ (n : Nat), ∀ (y3 : Int32) (y4 : Int32) (y5 : Int32) (z : XS), L_X4_scoldedMore_19 x1 x2 k5_ n y3 y4 y5 z = some R0 → ∀ (H : Heap) (locs : List Loc), xw X ex z s H locs → ∀ (ls : Array Slot), lv_has ls 7 [(0, .ref (X.2.2.1 1 (0))), (1, .int (x1)), (2, .int (x2)), (3, .int (y3)), (4, .int (y4)), (5, .int (y5))] → W p l e rm_X4_scoldedMore s m (([.ref (X.2.2.1 1 (0)), .int (x1), .int (x2)] : List Value).toArray) below meth c H locs 0 0 (MQ below (xQi X ex R0.2 R0.1) (([.ref (X.2.2.1 1 (0)), .int (x1), .int (x2)] : List Value).toArray) s 0 0 (xA X)) (F0 m 19 ls []) := by
  intro n
  induction n with
  | zero =>
    intro y3 y4 y5 z  hD
    cases hD
  | succ n ih =>
    intro y3 y4 y5 z  hD H locs hw ls hl
    replace hD : B_X4_scoldedMore_19 x1 x2 k5_ (L_X4_scoldedMore_19 x1 x2 k5_ n) y3 y4 y5 z = some R0 := hD
    unfold B_X4_scoldedMore_19 at hD
    refine lv_iload C.1 C.2.1 dX4_scoldedMore_19 (lv_at hl 5 rfl) ?_
    refine lv_iconst (v := (1 : Int32)) C.1 C.2.1 dX4_scoldedMore_21 (by decide) ?_
    refine lv_icmp_gt (tgt := 78) C.1 C.2.1 dX4_scoldedMore_22 (by decide) (fun c2 => ?_) (fun c2 => ?_)
    · replace hD := (if_pos c2).symm.trans hD
      refine lv_iinc (v := y4 + 1) (lv' := [(4, .int (y4 + 1)), (0, .ref (X.2.2.1 1 (0))), (1, .int (x1)), (2, .int (x2)), (3, .int (y3)), (5, .int (y5))]) C.1 C.2.1 dX4_scoldedMore_78 hl (k := 4) rfl rfl (by decide) rfl (fun ls hl => ?_)
      refine lv_goto (tgt := 5) C.1 C.2.1 dX4_scoldedMore_81 (by decide) ?_
      exact hk5_ y3 (y4 + 1) z  hD _ _ hw _ (lv_sub hl [1, 2, 3, 4, 0] rfl)
    · replace hD := (if_neg c2).symm.trans hD
      refine lv_aload_n C.1 C.2.1 dX4_scoldedMore_25 rfl (lv_at hl 0 rfl) ?_
      refine gf_X4_1 C hw kw_184 dX4_scoldedMore_26 ?_
      refine lv_iload C.1 C.2.1 dX4_scoldedMore_29 (lv_at hl 4 rfl) ?_
      obtain ⟨g3, hD⟩ := gd_some hD
      refine x_aald (k := 8) (j := 0) (f := fun i => X.2.2.1 9 i) C hw (Nat.le_of_ble_eq_true rfl) 2 rfl rfl rfl (inB_in g3) (a := X.2.2.1 9 (y4.toNatClampNeg)) rfl dX4_scoldedMore_31 ?_
      refine lv_iload C.1 C.2.1 dX4_scoldedMore_32 (lv_at hl 5 rfl) ?_
      refine lv_iload_n C.1 C.2.1 dX4_scoldedMore_34 rfl (lv_at hl 1 rfl) ?_
      refine lv_iload_n C.1 C.2.1 dX4_scoldedMore_35 rfl (lv_at hl 2 rfl) ?_
      obtain ⟨q4, hq4, hD⟩ := Option.bind_eq_some_iff.mp hD
      refine x_goi hw (x_runV (As := [.int (y5), .int (x1), .int (x2)]) (rest := []) (k := 9) (j := y4.toNatClampNeg) C hw (inB_lt g3) rfl rfl cV_X0_scoldedWord kw_229 (c_X0_scoldedWord l X ex y4.toNatClampNeg y5 x1 x2 (inB_lt g3) z q4 hq4) ⟨Nat.le_of_ble_eq_true rfl, Nat.le_of_ble_eq_true rfl⟩ rfl hl.1 rfl (Nat.le_of_ble_eq_true rfl) dX4_scoldedMore_36 ⟨Nat.le_of_ble_eq_true rfl, Nat.le_of_ble_eq_true rfl⟩) (fun H locs hw => ?_)
      refine lv_istore (lv' := [(6, .int (q4.1)), (0, .ref (X.2.2.1 1 (0))), (1, .int (x1)), (2, .int (x2)), (3, .int (y3)), (4, .int (y4)), (5, .int (y5))]) C.1 C.2.1 dX4_scoldedMore_39 hl (by decide) rfl (fun ls hl => ?_)
      refine lv_iload C.1 C.2.1 dX4_scoldedMore_41 (lv_at hl 0 rfl) ?_
      refine lv_bipush (v := (-9 : Int32)) C.1 C.2.1 dX4_scoldedMore_43 (by decide) ?_
      refine lv_icmp_ne (tgt := 51) C.1 C.2.1 dX4_scoldedMore_45 (by decide) (fun c5 => ?_) (fun c5 => ?_)
      · replace hD := (if_neg c5).symm.trans hD
        refine lv_iload_n C.1 C.2.1 dX4_scoldedMore_51 rfl (lv_at hl 4 rfl) ?_
        refine lv_iload C.1 C.2.1 dX4_scoldedMore_52 (lv_at hl 0 rfl) ?_
        refine lv_aload_n C.1 C.2.1 dX4_scoldedMore_54 rfl (lv_at hl 1 rfl) ?_
        refine gf_X4_1 C hw kw_184 dX4_scoldedMore_55 ?_
        refine lv_iload C.1 C.2.1 dX4_scoldedMore_58 (lv_at hl 5 rfl) ?_
        obtain ⟨g6, hD⟩ := gd_some hD
        refine x_aald (k := 8) (j := 0) (f := fun i => X.2.2.1 9 i) C hw (Nat.le_of_ble_eq_true rfl) 2 rfl rfl rfl (inB_in g6) (a := X.2.2.1 9 (y4.toNatClampNeg)) rfl dX4_scoldedMore_60 ?_
        refine gNf_X0_1 C hw (j := y4.toNatClampNeg) (inB_lt g6) (List.mem_of_getElem? (i := 1) rfl) dX4_scoldedMore_61 ?_
        refine lv_iload C.1 C.2.1 dX4_scoldedMore_64 (lv_at hl 6 rfl) ?_
        obtain ⟨g7, hD⟩ := gd_some hD
        refine x_aald (k := 11) (j := y4.toNatClampNeg) (f := fun i => X.2.2.1 12 (2 * y4.toNatClampNeg + i)) C hw (inB_lt g6) 1 rfl rfl rfl (inB_in g7) (a := X.2.2.1 12 (2 * y4.toNatClampNeg + y5.toNatClampNeg)) rfl dX4_scoldedMore_66 ?_
        refine lv_iload_n C.1 C.2.1 dX4_scoldedMore_67 rfl (lv_at hl 2 rfl) ?_
        obtain ⟨g8, hD⟩ := gd_some hD
        refine x_iald (k := 12) (j := 2 * y4.toNatClampNeg + y5.toNatClampNeg) C hw rfl (x_lt2 (inB_lt g6) (inB_lt g7)) (inB_in g8) dX4_scoldedMore_68 ?_
        refine lv_isub C.1 C.2.1 dX4_scoldedMore_69 ?_
        refine lv_iadd C.1 C.2.1 dX4_scoldedMore_70 ?_
        refine lv_istore_n (lv' := [(3, .int (y3 + (q4.1 - (gA q4.2 12 (2 * y4.toNatClampNeg + y5.toNatClampNeg) x1.toNatClampNeg)))), (6, .int (q4.1)), (0, .ref (X.2.2.1 1 (0))), (1, .int (x1)), (2, .int (x2)), (4, .int (y4)), (5, .int (y5))]) C.1 C.2.1 dX4_scoldedMore_71 rfl hl (by decide) rfl (fun ls hl => ?_)
        refine lv_iinc (v := y5 + 1) (lv' := [(5, .int (y5 + 1)), (3, .int (y3 + (q4.1 - (gA q4.2 12 (2 * y4.toNatClampNeg + y5.toNatClampNeg) x1.toNatClampNeg)))), (6, .int (q4.1)), (0, .ref (X.2.2.1 1 (0))), (1, .int (x1)), (2, .int (x2)), (4, .int (y4))]) C.1 C.2.1 dX4_scoldedMore_72 hl (k := 6) rfl rfl (by decide) rfl (fun ls hl => ?_)
        refine lv_goto (tgt := 19) C.1 C.2.1 dX4_scoldedMore_75 (by decide) ?_
        exact ih (y3 + (q4.1 - (gA q4.2 12 (2 * y4.toNatClampNeg + y5.toNatClampNeg) x1.toNatClampNeg))) y4 (y5 + 1) q4.2  hD _ _ hw _ (lv_sub hl [3, 4, 5, 1, 6, 0] rfl)
      · replace hD := (if_pos c5).symm.trans hD
        refine lv_bipush (v := (-9 : Int32)) C.1 C.2.1 dX4_scoldedMore_48 (by decide) ?_
        obtain rfl := Option.some.inj hD
        exact x_iret C hw hr hk dX4_scoldedMore_50
def B_X4_scoldedMore_5 (x1 : Int32) (x2 : Int32) (k5_ : Int32 → Int32 → XS → Option (Int32 × XS)) (y3 : Int32) (y4 : Int32) (z : XS) : Option (Int32 × XS) :=
  (if (gS z 1 2 0) - (1 : Int32) ≤ y4 then some (y3, z) else L_X4_scoldedMore_19 x1 x2 k5_ 64 y3 y4 (0 : Int32) z)
def L_X4_scoldedMore_5 (x1 : Int32) (x2 : Int32) : Nat → Int32 → Int32 → XS → Option (Int32 × XS)
  | 0 => fun _ _ _ => none
  | n + 1 => B_X4_scoldedMore_5 x1 x2  (L_X4_scoldedMore_5 x1 x2  n)
set_option maxHeartbeats 4000000 in
set_option maxRecDepth 100000 in
theorem w_X4_scoldedMore_5 {p : Program} {l : Launch} {e : Env} {s : State} {m : MethodId} {below : List Frame} {meth : Method} {c : Code} {X : XC} {ex : va_W} (x1 : Int32) (x2 : Int32) (C : CallFix p m c cX4_scoldedMore 7 s (([.ref (X.2.2.1 1 (0)), .int (x1), .int (x2)] : List Value).toArray) gtbl RX4) (hr : meth.sig.returnType = (some .int)) (hk : meth.locks = false) (R0 : Int32 × XS)  : ∀ (n : Nat), ∀ (y3 : Int32) (y4 : Int32) (z : XS), L_X4_scoldedMore_5 x1 x2  n y3 y4 z = some R0 → ∀ (H : Heap) (locs : List Loc), xw X ex z s H locs → ∀ (ls : Array Slot), lv_has ls 7 [(0, .ref (X.2.2.1 1 (0))), (1, .int (x1)), (2, .int (x2)), (3, .int (y3)), (4, .int (y4))] → W p l e rm_X4_scoldedMore s m (([.ref (X.2.2.1 1 (0)), .int (x1), .int (x2)] : List Value).toArray) below meth c H locs 0 0 (MQ below (xQi X ex R0.2 R0.1) (([.ref (X.2.2.1 1 (0)), .int (x1), .int (x2)] : List Value).toArray) s 0 0 (xA X)) (F0 m 5 ls []) := by
  intro n
  induction n with
  | zero =>
    intro y3 y4 z  hD
    cases hD
  | succ n ih =>
    intro y3 y4 z  hD H locs hw ls hl
    replace hD : B_X4_scoldedMore_5 x1 x2  (L_X4_scoldedMore_5 x1 x2  n) y3 y4 z = some R0 := hD
    unfold B_X4_scoldedMore_5 at hD
    refine lv_iload C.1 C.2.1 dX4_scoldedMore_5 (lv_at hl 4 rfl) ?_
    refine lv_aload_n C.1 C.2.1 dX4_scoldedMore_7 rfl (lv_at hl 0 rfl) ?_
    refine gf_X4_2 C hw kw_39 dX4_scoldedMore_8 ?_
    refine lv_iconst (v := (1 : Int32)) C.1 C.2.1 dX4_scoldedMore_11 (by decide) ?_
    refine lv_isub C.1 C.2.1 dX4_scoldedMore_12 ?_
    refine lv_icmp_ge (tgt := 84) C.1 C.2.1 dX4_scoldedMore_13 (by decide) (fun c1 => ?_) (fun c1 => ?_)
    · replace hD := (if_pos c1).symm.trans hD
      refine lv_iload_n C.1 C.2.1 dX4_scoldedMore_84 rfl (lv_at hl 3 rfl) ?_
      obtain rfl := Option.some.inj hD
      exact x_iret C hw hr hk dX4_scoldedMore_85
    · replace hD := (if_neg c1).symm.trans hD
      refine lv_iconst (v := (0 : Int32)) C.1 C.2.1 dX4_scoldedMore_16 (by decide) ?_
      refine lv_istore (lv' := [(5, .int ((0 : Int32))), (0, .ref (X.2.2.1 1 (0))), (1, .int (x1)), (2, .int (x2)), (3, .int (y3)), (4, .int (y4))]) C.1 C.2.1 dX4_scoldedMore_17 hl (by decide) rfl (fun ls hl => ?_)
      exact w_X4_scoldedMore_19 x1 x2  C hr hk R0 (L_X4_scoldedMore_5 x1 x2  n) ih 64 y3 y4 (0 : Int32) z  hD _ _ hw _ (lv_sub hl [1, 2, 3, 4, 5, 0] rfl)
def D_X4_scoldedMore (x1 : Int32) (x2 : Int32) (z : XS) : Option (Int32 × XS) :=
  L_X4_scoldedMore_5 x1 x2  64 (0 : Int32) (0 : Int32) z
set_option maxHeartbeats 4000000 in
set_option maxRecDepth 100000 in
theorem c_X4_scoldedMore (l : Launch) (X : XC) (ex : va_W) (x1 : Int32) (x2 : Int32) (z : XS) (R0 : Int32 × XS) (hD : D_X4_scoldedMore x1 x2 z = some R0) : xM l X ex yX4_scoldedMore cX4_scoldedMore 7 (some .int) rm_X4_scoldedMore [.ref (X.2.2.1 1 (0)), .int (x1), .int (x2)] z (xQi X ex R0.2 R0.1) := by
  refine x_ent (by decide) (Nat.le_of_ble_eq_true rfl) ?_
  intro p e s m below meth c ls C hr hk hw hl
  replace hl : lv_has ls 7 [(0, .ref (X.2.2.1 1 (0))), (1, .int (x1)), (2, .int (x2))] := hl
  unfold D_X4_scoldedMore at hD
  refine lv_iconst (v := (0 : Int32)) C.1 C.2.1 dX4_scoldedMore_0 (by decide) ?_
  refine lv_istore_n (lv' := [(3, .int ((0 : Int32))), (0, .ref (X.2.2.1 1 (0))), (1, .int (x1)), (2, .int (x2))]) C.1 C.2.1 dX4_scoldedMore_1 rfl hl (by decide) rfl (fun ls hl => ?_)
  refine lv_iconst (v := (0 : Int32)) C.1 C.2.1 dX4_scoldedMore_2 (by decide) ?_
  refine lv_istore (lv' := [(4, .int ((0 : Int32))), (3, .int ((0 : Int32))), (0, .ref (X.2.2.1 1 (0))), (1, .int (x1)), (2, .int (x2))]) C.1 C.2.1 dX4_scoldedMore_3 hl (by decide) rfl (fun ls hl => ?_)
  exact w_X4_scoldedMore_5 x1 x2  C hr hk R0   64 (0 : Int32) (0 : Int32) z  hD _ _ hw _ (lv_sub hl [2, 3, 4, 1, 0] rfl)
