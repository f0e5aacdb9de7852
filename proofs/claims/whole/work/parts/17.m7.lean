theorem kw_678 : Cond.code yX10_offAt cX10_offAt 4 (some .int) ∈ gtbl := gm4 99 rfl rfl
theorem nd_X10_offAt : (yX10_offAt).cls ≠ "java/lang/invoke/MethodHandle" ∧ (yX10_offAt).cls ≠ "java/lang/invoke/VarHandle" ∧ (parseMethodDescriptor (yX10_offAt).desc).map (fun d => d.parameters.length) = some 2 := by decide +kernel
theorem kw_680 : Cond.instanceMethod yX10_offAt ∈ gtbl := gm4 98 rfl rfl
theorem kw_681 : Cond.selects RX10 yX10_offAt yX10_offAt ∈ gtbl := gm0 20 rfl rfl
theorem cV_X10_offAt : xcV yX10_offAt cX10_offAt 4 (some .int) 2 := ⟨⟨kw_678, kw_490, nd_X10_offAt⟩, kw_680, kw_681⟩
theorem kw_683 : Cond.methodLink RX10 183 yX10_offAt ∈ gtbl := gm4 96 rfl rfl
abbrev rm_X10_off : Room := { frames := 6, cells := 0, slots := 0, locals := 140 }
def D_X10_off (x1 : Int32) (x2 : Int32) (z : XS) : Option (Int32 × XS) :=
  (D_X10_noGarden x1 z).bind fun q1 => ((if q1.1 = 0 then (D_X10_isDawn x2 q1.2).bind fun q3 => ((if q3.1 = 0 then some ((-2 : Int32), q3.2) else (D_X10_offAt x1 x2 q3.2).bind fun q5 => (some (q5.1, q5.2)))) else some ((-1 : Int32), q1.2)))
set_option maxHeartbeats 4000000 in
set_option maxRecDepth 100000 in
theorem c_X10_off (l : Launch) (X : XC) (ex : va_W) (x1 : Int32) (x2 : Int32) (z : XS) (R0 : Int32 × XS) (hD : D_X10_off x1 x2 z = some R0) : xM l X ex yX10_off cX10_off 3 (some .int) rm_X10_off [.ref (X.2.2.1 17 (0)), .int (x1), .int (x2)] z (xQi X ex R0.2 R0.1) := by
  refine x_ent (by decide) (Nat.le_of_ble_eq_true rfl) ?_
  intro p e s m below meth c ls C hr hk hw hl
  replace hl : lv_has ls 3 [(0, .ref (X.2.2.1 17 (0))), (1, .int (x1)), (2, .int (x2))] := hl
  unfold D_X10_off at hD
  refine lv_aload_n C.1 C.2.1 dX10_off_0 rfl (lv_at hl 0 rfl) ?_
  refine lv_iload_n C.1 C.2.1 dX10_off_1 rfl (lv_at hl 1 rfl) ?_
  obtain ⟨q1, hq1, hD⟩ := Option.bind_eq_some_iff.mp hD
  refine x_goi hw (x_runV (As := [.int (x1)]) (rest := []) (k := 17) (j := 0) C hw (Nat.le_of_ble_eq_true rfl) rfl rfl cV_X10_noGarden kw_596 (c_X10_noGarden l X ex x1  z q1 hq1) ⟨Nat.le_of_ble_eq_true rfl, Nat.le_of_ble_eq_true rfl⟩ rfl hl.1 rfl (Nat.le_of_ble_eq_true rfl) dX10_off_2 ⟨Nat.le_of_ble_eq_true rfl, Nat.le_of_ble_eq_true rfl⟩) (fun H locs hw => ?_)
  refine lv_if_eq (tgt := 10) C.1 C.2.1 dX10_off_5 (by decide) (fun c2 => ?_) (fun c2 => ?_)
  · replace hD := (if_pos c2).symm.trans hD
    refine lv_iload_n C.1 C.2.1 dX10_off_10 rfl (lv_at hl 2 rfl) ?_
    obtain ⟨q3, hq3, hD⟩ := Option.bind_eq_some_iff.mp hD
    refine x_goi hw (x_runS (As := [.int (x2)]) (rest := []) C hw cS_X10_isDawn kw_653 (c_X10_isDawn l X ex x2  q1.2 q3 hq3) ⟨Nat.le_of_ble_eq_true rfl, Nat.le_of_ble_eq_true rfl⟩ rfl hl.1 rfl (Nat.le_of_ble_eq_true rfl) dX10_off_11 ⟨Nat.le_of_ble_eq_true rfl, Nat.le_of_ble_eq_true rfl⟩) (fun H locs hw => ?_)
    refine lv_if_eq (tgt := 26) C.1 C.2.1 dX10_off_14 (by decide) (fun c4 => ?_) (fun c4 => ?_)
    · replace hD := (if_pos c4).symm.trans hD
      refine lv_bipush (v := (-2 : Int32)) C.1 C.2.1 dX10_off_26 (by decide) ?_
      obtain rfl := Option.some.inj hD
      exact x_iret C hw hr hk dX10_off_28
    · replace hD := (if_neg c4).symm.trans hD
      refine lv_aload_n C.1 C.2.1 dX10_off_17 rfl (lv_at hl 0 rfl) ?_
      refine lv_iload_n C.1 C.2.1 dX10_off_18 rfl (lv_at hl 1 rfl) ?_
      refine lv_iload_n C.1 C.2.1 dX10_off_19 rfl (lv_at hl 2 rfl) ?_
      obtain ⟨q5, hq5, hD⟩ := Option.bind_eq_some_iff.mp hD
      refine x_goi hw (x_runV (As := [.int (x1), .int (x2)]) (rest := []) (k := 17) (j := 0) C hw (Nat.le_of_ble_eq_true rfl) rfl rfl cV_X10_offAt kw_683 (c_X10_offAt l X ex x1 x2  q3.2 q5 hq5) ⟨Nat.le_of_ble_eq_true rfl, Nat.le_of_ble_eq_true rfl⟩ rfl hl.1 rfl (Nat.le_of_ble_eq_true rfl) dX10_off_20 ⟨Nat.le_of_ble_eq_true rfl, Nat.le_of_ble_eq_true rfl⟩) (fun H locs hw => ?_)
      refine lv_goto (tgt := 28) C.1 C.2.1 dX10_off_23 (by decide) ?_
      obtain rfl := Option.some.inj hD
      exact x_iret C hw hr hk dX10_off_28
  · replace hD := (if_neg c2).symm.trans hD
    refine lv_iconst (v := (-1 : Int32)) C.1 C.2.1 dX10_off_8 (by decide) ?_
    obtain rfl := Option.some.inj hD
    exact x_iret C hw hr hk dX10_off_9
abbrev rm_X10_enoughFor : Room := { frames := 3, cells := 0, slots := 0, locals := 70 }
def B_X10_enoughFor_25 (x1 : Int32) (x2 : Int32) (x3 : Int32) (x4 : Int32) (k25_ : Int32 → Int32 → Int32 → Int32 → XS → Option (Int32 × XS)) (y5 : Int32) (y6 : Int32) (y7 : Int32) (y8 : Int32) (z : XS) : Option (Int32 × XS) :=
  (if y8 < y6 then gd (inB y5 420) ((some (pA z 18 3 y5.toNatClampNeg y6)).bind fun z5 => (some (y7, z5))) else gd (inB y5 420) ((some (pA z 18 3 y5.toNatClampNeg y8)).bind fun z7 => ((D_X10_faceAt x3 x4 (30 : Int32) z7).bind fun q8 => ((if q8.1 < (12 : Int32) * x2 then k25_ y5 y6 y7 (y8 + (-1)) q8.2 else k25_ y5 y6 y8 (y8 + (-1)) q8.2)))))
def L_X10_enoughFor_25 (x1 : Int32) (x2 : Int32) (x3 : Int32) (x4 : Int32) : Nat → Int32 → Int32 → Int32 → Int32 → XS → Option (Int32 × XS)
  | 0 => fun _ _ _ _ _ => none
  | n + 1 => B_X10_enoughFor_25 x1 x2 x3 x4  (L_X10_enoughFor_25 x1 x2 x3 x4  n)
set_option maxHeartbeats 4000000 in
set_option maxRecDepth 100000 in
theorem w_X10_enoughFor_25 {p : Program} {l : Launch} {e : Env} {s : State} {m : MethodId} {below : List Frame} {meth : Method} {c : Code} {X : XC} {ex : va_W} (x1 : Int32) (x2 : Int32) (x3 : Int32) (x4 : Int32) (C : CallFix p m c cX10_enoughFor 9 s (([.ref (X.2.2.1 17 (0)), .int (x1), .int (x2), .int (x3), .int (x4)] : List Value).toArray) gtbl RX10) (hr : meth.sig.returnType = (some .int)) (hk : meth.locks = false) (R0 : Int32 × XS)  : ∀ (n : Nat), ∀ (y5 : Int32) (y6 : Int32) (y7 : Int32) (y8 : Int32) (z : XS), L_X10_enoughFor_25 x1 x2 x3 x4  n y5 y6 y7 y8 z = some R0 → ∀ (H : Heap) (locs : List Loc), xw X ex z s H locs → ∀ (ls : Array Slot), lv_has ls 9 [(0, .ref (X.2.2.1 17 (0))), (2, .int (x2)), (3, .int (x3)), (4, .int (x4)), (5, .int (y5)), (6, .int (y6)), (7, .int (y7)), (8, .int (y8))] → W p l e rm_X10_enoughFor s m (([.ref (X.2.2.1 17 (0)), .int (x1), .int (x2), .int (x3), .int (x4)] : List Value).toArray) below meth c H locs 0 0 (MQ below (xQi X ex R0.2 R0.1) (([.ref (X.2.2.1 17 (0)), .int (x1), .int (x2), .int (x3), .int (x4)] : List Value).toArray) s 0 0 (xA X)) (F0 m 25 ls []) := by
  intro n
  induction n with
  | zero =>
    intro y5 y6 y7 y8 z  hD
    cases hD
  | succ n ih =>
    intro y5 y6 y7 y8 z  hD H locs hw ls hl
    replace hD : B_X10_enoughFor_25 x1 x2 x3 x4  (L_X10_enoughFor_25 x1 x2 x3 x4  n) y5 y6 y7 y8 z = some R0 := hD
    unfold B_X10_enoughFor_25 at hD
    refine lv_iload C.1 C.2.1 dX10_enoughFor_25 (lv_at hl 7 rfl) ?_
    refine lv_iload C.1 C.2.1 dX10_enoughFor_27 (lv_at hl 5 rfl) ?_
    refine lv_icmp_lt (tgt := 72) C.1 C.2.1 dX10_enoughFor_29 (by decide) (fun c3 => ?_) (fun c3 => ?_)
    · replace hD := (if_pos c3).symm.trans hD
      refine lv_aload_n C.1 C.2.1 dX10_enoughFor_72 rfl (lv_at hl 0 rfl) ?_
      refine gf_X10_5 C hw kw_575 dX10_enoughFor_73 ?_
      refine lv_iload C.1 C.2.1 dX10_enoughFor_76 (lv_at hl 4 rfl) ?_
      refine lv_iload C.1 C.2.1 dX10_enoughFor_78 (lv_at hl 5 rfl) ?_
      obtain ⟨g4, hD⟩ := gd_some hD
      obtain ⟨z5, hz5, hD⟩ := Option.bind_eq_some_iff.mp hD
      refine x_iast (k := 18) (j := 3) C hw rfl (Nat.le_of_ble_eq_true rfl) (inB_in g4) dX10_enoughFor_80 (fun H locs hw => ?_)
      replace hw := xw_eq hz5 hw
      refine lv_iload C.1 C.2.1 dX10_enoughFor_81 (lv_at hl 6 rfl) ?_
      obtain rfl := Option.some.inj hD
      exact x_iret C hw hr hk dX10_enoughFor_83
    · replace hD := (if_neg c3).symm.trans hD
      refine lv_aload_n C.1 C.2.1 dX10_enoughFor_32 rfl (lv_at hl 0 rfl) ?_
      refine gf_X10_5 C hw kw_575 dX10_enoughFor_33 ?_
      refine lv_iload C.1 C.2.1 dX10_enoughFor_36 (lv_at hl 4 rfl) ?_
      refine lv_iload C.1 C.2.1 dX10_enoughFor_38 (lv_at hl 7 rfl) ?_
      obtain ⟨g6, hD⟩ := gd_some hD
      obtain ⟨z7, hz7, hD⟩ := Option.bind_eq_some_iff.mp hD
      refine x_iast (k := 18) (j := 3) C hw rfl (Nat.le_of_ble_eq_true rfl) (inB_in g6) dX10_enoughFor_40 (fun H locs hw => ?_)
      replace hw := xw_eq hz7 hw
      refine lv_aload_n C.1 C.2.1 dX10_enoughFor_41 rfl (lv_at hl 0 rfl) ?_
      refine lv_iload_n C.1 C.2.1 dX10_enoughFor_42 rfl (lv_at hl 2 rfl) ?_
      refine lv_iload C.1 C.2.1 dX10_enoughFor_43 (lv_at hl 3 rfl) ?_
      refine lv_bipush (v := (30 : Int32)) C.1 C.2.1 dX10_enoughFor_45 (by decide) ?_
      obtain ⟨q8, hq8, hD⟩ := Option.bind_eq_some_iff.mp hD
      refine x_goi hw (x_runV (As := [.int (x3), .int (x4), .int ((30 : Int32))]) (rest := []) (k := 17) (j := 0) C hw (Nat.le_of_ble_eq_true rfl) rfl rfl cV_X10_faceAt kw_659 (c_X10_faceAt l X ex x3 x4 (30 : Int32)  z7 q8 hq8) ⟨Nat.le_of_ble_eq_true rfl, Nat.le_of_ble_eq_true rfl⟩ rfl hl.1 rfl (Nat.le_of_ble_eq_true rfl) dX10_enoughFor_47 ⟨Nat.le_of_ble_eq_true rfl, Nat.le_of_ble_eq_true rfl⟩) (fun H locs hw => ?_)
      refine lv_bipush (v := (12 : Int32)) C.1 C.2.1 dX10_enoughFor_50 (by decide) ?_
      refine lv_iload_n C.1 C.2.1 dX10_enoughFor_52 rfl (lv_at hl 1 rfl) ?_
      refine lv_imul C.1 C.2.1 dX10_enoughFor_53 ?_
      refine lv_icmp_lt (tgt := 62) C.1 C.2.1 dX10_enoughFor_54 (by decide) (fun c9 => ?_) (fun c9 => ?_)
      · replace hD := (if_pos c9).symm.trans hD
        refine lv_iload C.1 C.2.1 dX10_enoughFor_62 (lv_at hl 6 rfl) ?_
        refine lv_istore (lv' := [(7, .int (y7)), (0, .ref (X.2.2.1 17 (0))), (2, .int (x2)), (3, .int (x3)), (4, .int (x4)), (5, .int (y5)), (6, .int (y6)), (8, .int (y8))]) C.1 C.2.1 dX10_enoughFor_64 hl (by decide) rfl (fun ls hl => ?_)
        refine lv_iinc (v := y8 + (-1)) (lv' := [(8, .int (y8 + (-1))), (7, .int (y7)), (0, .ref (X.2.2.1 17 (0))), (2, .int (x2)), (3, .int (x3)), (4, .int (x4)), (5, .int (y5)), (6, .int (y6))]) C.1 C.2.1 dX10_enoughFor_66 hl (k := 7) rfl rfl (by decide) rfl (fun ls hl => ?_)
        refine lv_goto (tgt := 25) C.1 C.2.1 dX10_enoughFor_69 (by decide) ?_
        exact ih y5 y6 y7 (y8 + (-1)) q8.2  hD _ _ hw _ (lv_sub hl [2, 3, 4, 5, 6, 7, 1, 0] rfl)
      · replace hD := (if_neg c9).symm.trans hD
        refine lv_iload C.1 C.2.1 dX10_enoughFor_57 (lv_at hl 7 rfl) ?_
        refine lv_goto (tgt := 64) C.1 C.2.1 dX10_enoughFor_59 (by decide) ?_
        refine lv_istore (lv' := [(7, .int (y8)), (0, .ref (X.2.2.1 17 (0))), (2, .int (x2)), (3, .int (x3)), (4, .int (x4)), (5, .int (y5)), (6, .int (y6)), (8, .int (y8))]) C.1 C.2.1 dX10_enoughFor_64 hl (by decide) rfl (fun ls hl => ?_)
        refine lv_iinc (v := y8 + (-1)) (lv' := [(8, .int (y8 + (-1))), (7, .int (y8)), (0, .ref (X.2.2.1 17 (0))), (2, .int (x2)), (3, .int (x3)), (4, .int (x4)), (5, .int (y5)), (6, .int (y6))]) C.1 C.2.1 dX10_enoughFor_66 hl (k := 7) rfl rfl (by decide) rfl (fun ls hl => ?_)
        refine lv_goto (tgt := 25) C.1 C.2.1 dX10_enoughFor_69 (by decide) ?_
        exact ih y5 y6 y8 (y8 + (-1)) q8.2  hD _ _ hw _ (lv_sub hl [2, 3, 4, 5, 6, 7, 1, 0] rfl)
def D_X10_enoughFor (x1 : Int32) (x2 : Int32) (x3 : Int32) (x4 : Int32) (z : XS) : Option (Int32 × XS) :=
  (D_X10_heardAt x3 x4 x1 z).bind fun q1 => (gd (inB q1.1 420) (L_X10_enoughFor_25 x1 x2 x3 x4  64 q1.1 (gA q1.2 18 3 q1.1.toNatClampNeg) (-9 : Int32) (3 : Int32) q1.2))
set_option maxHeartbeats 4000000 in
set_option maxRecDepth 100000 in
theorem c_X10_enoughFor (l : Launch) (X : XC) (ex : va_W) (x1 : Int32) (x2 : Int32) (x3 : Int32) (x4 : Int32) (z : XS) (R0 : Int32 × XS) (hD : D_X10_enoughFor x1 x2 x3 x4 z = some R0) : xM l X ex yX10_enoughFor cX10_enoughFor 9 (some .int) rm_X10_enoughFor [.ref (X.2.2.1 17 (0)), .int (x1), .int (x2), .int (x3), .int (x4)] z (xQi X ex R0.2 R0.1) := by
  refine x_ent (by decide) (Nat.le_of_ble_eq_true rfl) ?_
  intro p e s m below meth c ls C hr hk hw hl
  replace hl : lv_has ls 9 [(0, .ref (X.2.2.1 17 (0))), (1, .int (x1)), (2, .int (x2)), (3, .int (x3)), (4, .int (x4))] := hl
  unfold D_X10_enoughFor at hD
  refine lv_iload_n C.1 C.2.1 dX10_enoughFor_0 rfl (lv_at hl 3 rfl) ?_
  refine lv_iload C.1 C.2.1 dX10_enoughFor_1 (lv_at hl 4 rfl) ?_
  refine lv_iload_n C.1 C.2.1 dX10_enoughFor_3 rfl (lv_at hl 1 rfl) ?_
  obtain ⟨q1, hq1, hD⟩ := Option.bind_eq_some_iff.mp hD
  refine x_goi hw (x_runS (As := [.int (x3), .int (x4), .int (x1)]) (rest := []) C hw cS_X10_heardAt kw_633 (c_X10_heardAt l X ex x3 x4 x1  z q1 hq1) ⟨Nat.le_of_ble_eq_true rfl, Nat.le_of_ble_eq_true rfl⟩ rfl hl.1 rfl (Nat.le_of_ble_eq_true rfl) dX10_enoughFor_4 ⟨Nat.le_of_ble_eq_true rfl, Nat.le_of_ble_eq_true rfl⟩) (fun H locs hw => ?_)
  refine lv_istore (lv' := [(5, .int (q1.1)), (0, .ref (X.2.2.1 17 (0))), (1, .int (x1)), (2, .int (x2)), (3, .int (x3)), (4, .int (x4))]) C.1 C.2.1 dX10_enoughFor_7 hl (by decide) rfl (fun ls hl => ?_)
  refine lv_aload_n C.1 C.2.1 dX10_enoughFor_9 rfl (lv_at hl 1 rfl) ?_
  refine gf_X10_5 C hw kw_575 dX10_enoughFor_10 ?_
  refine lv_iload C.1 C.2.1 dX10_enoughFor_13 (lv_at hl 0 rfl) ?_
  obtain ⟨g2, hD⟩ := gd_some hD
  refine x_iald (k := 18) (j := 3) C hw rfl (Nat.le_of_ble_eq_true rfl) (inB_in g2) dX10_enoughFor_15 ?_
  refine lv_istore (lv' := [(6, .int (gA q1.2 18 3 q1.1.toNatClampNeg)), (5, .int (q1.1)), (0, .ref (X.2.2.1 17 (0))), (1, .int (x1)), (2, .int (x2)), (3, .int (x3)), (4, .int (x4))]) C.1 C.2.1 dX10_enoughFor_16 hl (by decide) rfl (fun ls hl => ?_)
  refine lv_bipush (v := (-9 : Int32)) C.1 C.2.1 dX10_enoughFor_18 (by decide) ?_
  refine lv_istore (lv' := [(7, .int ((-9 : Int32))), (6, .int (gA q1.2 18 3 q1.1.toNatClampNeg)), (5, .int (q1.1)), (0, .ref (X.2.2.1 17 (0))), (1, .int (x1)), (2, .int (x2)), (3, .int (x3)), (4, .int (x4))]) C.1 C.2.1 dX10_enoughFor_20 hl (by decide) rfl (fun ls hl => ?_)
  refine lv_iconst (v := (3 : Int32)) C.1 C.2.1 dX10_enoughFor_22 (by decide) ?_
  refine lv_istore (lv' := [(8, .int ((3 : Int32))), (7, .int ((-9 : Int32))), (6, .int (gA q1.2 18 3 q1.1.toNatClampNeg)), (5, .int (q1.1)), (0, .ref (X.2.2.1 17 (0))), (1, .int (x1)), (2, .int (x2)), (3, .int (x3)), (4, .int (x4))]) C.1 C.2.1 dX10_enoughFor_23 hl (by decide) rfl (fun ls hl => ?_)
  exact w_X10_enoughFor_25 x1 x2 x3 x4  C hr hk R0   64 q1.1 (gA q1.2 18 3 q1.1.toNatClampNeg) (-9 : Int32) (3 : Int32) q1.2  hD _ _ hw _ (lv_sub hl [4, 6, 7, 8, 3, 2, 1, 0] rfl)
theorem kw_684 : Cond.code yX10_enoughFor cX10_enoughFor 9 (some .int) ∈ gtbl := gm4 107 rfl rfl
theorem nd_X10_enoughFor : (yX10_enoughFor).cls ≠ "java/lang/invoke/MethodHandle" ∧ (yX10_enoughFor).cls ≠ "java/lang/invoke/VarHandle" ∧ (parseMethodDescriptor (yX10_enoughFor).desc).map (fun d => d.parameters.length) = some 4 := by decide +kernel
theorem kw_686 : Cond.instanceMethod yX10_enoughFor ∈ gtbl := gm4 106 rfl rfl
theorem kw_687 : Cond.selects RX10 yX10_enoughFor yX10_enoughFor ∈ gtbl := gm0 21 rfl rfl
theorem cV_X10_enoughFor : xcV yX10_enoughFor cX10_enoughFor 9 (some .int) 4 := ⟨⟨kw_684, kw_490, nd_X10_enoughFor⟩, kw_686, kw_687⟩
theorem kw_689 : Cond.methodLink RX10 186 yX10_enoughFor ∈ gtbl := gm4 104 rfl rfl
abbrev rm_X10_scold : Room := { frames := 4, cells := 0, slots := 0, locals := 98 }
def B_X10_scold_89 (x1 : Int32) (x2 : Int32) (x3 : Int32) (x4 : Int32) (k89_ : Int32 → Int32 → XS → Option (Int32 × XS)) (y5 : Int32) (y6 : Int32) (z : XS) : Option (Int32 × XS) :=
  (D_X10_hedges  z).bind fun q10 => ((if (2 : Int32) * q10.1 ≤ y6 then some (y5, q10.2) else (D_X10_enoughFor x1 x2 (y6 / (2 : Int32)) (y6 - y6 / (2 : Int32) * (2 : Int32)) q10.2).bind fun q12 => ((if (-3 : Int32) ≤ q12.1 then (D_X10_heardAt (y6 / (2 : Int32)) (y6 - y6 / (2 : Int32) * (2 : Int32)) x1 q12.2).bind fun q14 => (gd (inB q14.1 420) (k89_ (y5 + (q12.1 - (gA q14.2 18 3 q14.1.toNatClampNeg))) (y6 + 1) q14.2)) else some ((-9 : Int32), q12.2)))))
def L_X10_scold_89 (x1 : Int32) (x2 : Int32) (x3 : Int32) (x4 : Int32) : Nat → Int32 → Int32 → XS → Option (Int32 × XS)
  | 0 => fun _ _ _ => none
  | n + 1 => B_X10_scold_89 x1 x2 x3 x4  (L_X10_scold_89 x1 x2 x3 x4  n)
set_option maxHeartbeats 4000000 in
set_option maxRecDepth 100000 in
theorem w_X10_scold_89 {p : Program} {l : Launch} {e : Env} {s : State} {m : MethodId} {below : List Frame} {meth : Method} {c : Code} {X : XC} {ex : va_W} (x1 : Int32) (x2 : Int32) (x3 : Int32) (x4 : Int32) (C : CallFix p m c cX10_scold 8 s (([.ref (X.2.2.1 17 (0)), .int (x1), .int (x2), .int (x3), .int (x4)] : List Value).toArray) gtbl RX10) (hr : meth.sig.returnType = (some .int)) (hk : meth.locks = false) (R0 : Int32 × XS)  : ∀ (n : Nat), ∀ (y5 : Int32) (y6 : Int32) (z : XS), L_X10_scold_89 x1 x2 x3 x4  n y5 y6 z = some R0 → ∀ (H : Heap) (locs : List Loc), xw X ex z s H locs → ∀ (ls : Array Slot), lv_has ls 8 [(0, .ref (X.2.2.1 17 (0))), (1, .int (x1)), (2, .int (x2)), (5, .int (y5)), (6, .int (y6))] → W p l e rm_X10_scold s m (([.ref (X.2.2.1 17 (0)), .int (x1), .int (x2), .int (x3), .int (x4)] : List Value).toArray) below meth c H locs 0 0 (MQ below (xQi X ex R0.2 R0.1) (([.ref (X.2.2.1 17 (0)), .int (x1), .int (x2), .int (x3), .int (x4)] : List Value).toArray) s 0 0 (xA X)) (F0 m 89 ls []) := by
  intro n
  induction n with
  | zero =>
    intro y5 y6 z  hD
    cases hD
  | succ n ih =>
    intro y5 y6 z  hD H locs hw ls hl
    replace hD : B_X10_scold_89 x1 x2 x3 x4  (L_X10_scold_89 x1 x2 x3 x4  n) y5 y6 z = some R0 := hD
    unfold B_X10_scold_89 at hD
    refine lv_iload C.1 C.2.1 dX10_scold_89 (lv_at hl 4 rfl) ?_
    refine lv_iconst (v := (2 : Int32)) C.1 C.2.1 dX10_scold_91 (by decide) ?_
    refine lv_aload_n C.1 C.2.1 dX10_scold_92 rfl (lv_at hl 0 rfl) ?_
    obtain ⟨q10, hq10, hD⟩ := Option.bind_eq_some_iff.mp hD
    refine x_goi hw (x_runV (As := []) (rest := [.int ((2 : Int32)), .int (y6)]) (k := 17) (j := 0) C hw (Nat.le_of_ble_eq_true rfl) rfl rfl cV_X10_hedges kw_507 (c_X10_hedges l X ex   z q10 hq10) ⟨Nat.le_of_ble_eq_true rfl, Nat.le_of_ble_eq_true rfl⟩ rfl hl.1 rfl (Nat.le_of_ble_eq_true rfl) dX10_scold_93 ⟨Nat.le_of_ble_eq_true rfl, Nat.le_of_ble_eq_true rfl⟩) (fun H locs hw => ?_)
    refine lv_imul C.1 C.2.1 dX10_scold_96 ?_
    refine lv_icmp_ge (tgt := 157) C.1 C.2.1 dX10_scold_97 (by decide) (fun c11 => ?_) (fun c11 => ?_)
    · replace hD := (if_pos c11).symm.trans hD
      refine lv_iload C.1 C.2.1 dX10_scold_157 (lv_at hl 3 rfl) ?_
      obtain rfl := Option.some.inj hD
      exact x_iret C hw hr hk dX10_scold_159
    · replace hD := (if_neg c11).symm.trans hD
      refine lv_aload_n C.1 C.2.1 dX10_scold_100 rfl (lv_at hl 0 rfl) ?_
      refine lv_iload_n C.1 C.2.1 dX10_scold_101 rfl (lv_at hl 1 rfl) ?_
      refine lv_iload_n C.1 C.2.1 dX10_scold_102 rfl (lv_at hl 2 rfl) ?_
      refine lv_iload C.1 C.2.1 dX10_scold_103 (lv_at hl 4 rfl) ?_
      refine lv_iconst (v := (2 : Int32)) C.1 C.2.1 dX10_scold_105 (by decide) ?_
      refine lv_idiv C.1 C.2.1 dX10_scold_106 (by decide) ?_
      refine lv_iload C.1 C.2.1 dX10_scold_107 (lv_at hl 4 rfl) ?_
      refine lv_iconst (v := (2 : Int32)) C.1 C.2.1 dX10_scold_109 (by decide) ?_
      refine lv_irem C.1 C.2.1 dX10_scold_110 (by decide) ?_
      obtain ⟨q12, hq12, hD⟩ := Option.bind_eq_some_iff.mp hD
      refine x_goi hw (x_runV (As := [.int (x1), .int (x2), .int (y6 / (2 : Int32)), .int (y6 - y6 / (2 : Int32) * (2 : Int32))]) (rest := []) (k := 17) (j := 0) C hw (Nat.le_of_ble_eq_true rfl) rfl rfl cV_X10_enoughFor kw_689 (c_X10_enoughFor l X ex x1 x2 (y6 / (2 : Int32)) (y6 - y6 / (2 : Int32) * (2 : Int32))  q10.2 q12 hq12) ⟨Nat.le_of_ble_eq_true rfl, Nat.le_of_ble_eq_true rfl⟩ rfl hl.1 rfl (Nat.le_of_ble_eq_true rfl) dX10_scold_111 ⟨Nat.le_of_ble_eq_true rfl, Nat.le_of_ble_eq_true rfl⟩) (fun H locs hw => ?_)
      refine lv_istore (lv' := [(7, .int (q12.1)), (0, .ref (X.2.2.1 17 (0))), (1, .int (x1)), (2, .int (x2)), (5, .int (y5)), (6, .int (y6))]) C.1 C.2.1 dX10_scold_114 hl (by decide) rfl (fun ls hl => ?_)
      refine lv_iload C.1 C.2.1 dX10_scold_116 (lv_at hl 0 rfl) ?_
      refine lv_bipush (v := (-3 : Int32)) C.1 C.2.1 dX10_scold_118 (by decide) ?_
      refine lv_icmp_ge (tgt := 126) C.1 C.2.1 dX10_scold_120 (by decide) (fun c13 => ?_) (fun c13 => ?_)
      · replace hD := (if_pos c13).symm.trans hD
        refine lv_iload C.1 C.2.1 dX10_scold_126 (lv_at hl 4 rfl) ?_
        refine lv_iload C.1 C.2.1 dX10_scold_128 (lv_at hl 0 rfl) ?_
        refine lv_aload_n C.1 C.2.1 dX10_scold_130 rfl (lv_at hl 1 rfl) ?_
        refine gf_X10_5 C hw kw_575 dX10_scold_131 ?_
        refine lv_iload C.1 C.2.1 dX10_scold_134 (lv_at hl 5 rfl) ?_
        refine lv_iconst (v := (2 : Int32)) C.1 C.2.1 dX10_scold_136 (by decide) ?_
        refine lv_idiv C.1 C.2.1 dX10_scold_137 (by decide) ?_
        refine lv_iload C.1 C.2.1 dX10_scold_138 (lv_at hl 5 rfl) ?_
        refine lv_iconst (v := (2 : Int32)) C.1 C.2.1 dX10_scold_140 (by decide) ?_
        refine lv_irem C.1 C.2.1 dX10_scold_141 (by decide) ?_
        refine lv_iload_n C.1 C.2.1 dX10_scold_142 rfl (lv_at hl 2 rfl) ?_
        obtain ⟨q14, hq14, hD⟩ := Option.bind_eq_some_iff.mp hD
        refine x_goi hw (x_runS (As := [.int (y6 / (2 : Int32)), .int (y6 - y6 / (2 : Int32) * (2 : Int32)), .int (x1)]) (rest := [.ref (X.2.2.1 18 (3)), .int (q12.1), .int (y5)]) C hw cS_X10_heardAt kw_633 (c_X10_heardAt l X ex (y6 / (2 : Int32)) (y6 - y6 / (2 : Int32) * (2 : Int32)) x1  q12.2 q14 hq14) ⟨Nat.le_of_ble_eq_true rfl, Nat.le_of_ble_eq_true rfl⟩ rfl hl.1 rfl (Nat.le_of_ble_eq_true rfl) dX10_scold_143 ⟨Nat.le_of_ble_eq_true rfl, Nat.le_of_ble_eq_true rfl⟩) (fun H locs hw => ?_)
        obtain ⟨g15, hD⟩ := gd_some hD
        refine x_iald (k := 18) (j := 3) C hw rfl (Nat.le_of_ble_eq_true rfl) (inB_in g15) dX10_scold_146 ?_
        refine lv_isub C.1 C.2.1 dX10_scold_147 ?_
        refine lv_iadd C.1 C.2.1 dX10_scold_148 ?_
        refine lv_istore (lv' := [(5, .int (y5 + (q12.1 - (gA q14.2 18 3 q14.1.toNatClampNeg)))), (7, .int (q12.1)), (0, .ref (X.2.2.1 17 (0))), (1, .int (x1)), (2, .int (x2)), (6, .int (y6))]) C.1 C.2.1 dX10_scold_149 hl (by decide) rfl (fun ls hl => ?_)
        refine lv_iinc (v := y6 + 1) (lv' := [(6, .int (y6 + 1)), (5, .int (y5 + (q12.1 - (gA q14.2 18 3 q14.1.toNatClampNeg)))), (7, .int (q12.1)), (0, .ref (X.2.2.1 17 (0))), (1, .int (x1)), (2, .int (x2))]) C.1 C.2.1 dX10_scold_151 hl (k := 5) rfl rfl (by decide) rfl (fun ls hl => ?_)
        refine lv_goto (tgt := 89) C.1 C.2.1 dX10_scold_154 (by decide) ?_
        exact ih (y5 + (q12.1 - (gA q14.2 18 3 q14.1.toNatClampNeg))) (y6 + 1) q14.2  hD _ _ hw _ (lv_sub hl [3, 4, 5, 1, 0] rfl)
      · replace hD := (if_neg c13).symm.trans hD
        refine lv_bipush (v := (-9 : Int32)) C.1 C.2.1 dX10_scold_123 (by decide) ?_
        obtain rfl := Option.some.inj hD
        exact x_iret C hw hr hk dX10_scold_125
def J_X10_scold_15 (x1 : Int32) (x2 : Int32) (x3 : Int32) (x4 : Int32)  (z : XS) : Option (Int32 × XS) :=
  (D_X10_isDay x1 z).bind fun q2 => ((if q2.1 = 0 then some ((-2 : Int32), q2.2) else (D_X10_isFeet x2 q2.2).bind fun q4 => ((if q4.1 = 0 then some ((-2 : Int32), q4.2) else (D_X10_isSide x4 q4.2).bind fun q6 => ((if q6.1 = 0 then some ((-2 : Int32), q6.2) else (if gS q6.2 17 1 0 = 0 then some ((-3 : Int32), q6.2) else (if x3 < 0 then L_X10_scold_89 x1 x2 x3 x4  64 (0 : Int32) (0 : Int32) q6.2 else (D_X10_enoughFor x1 x2 x3 x4 q6.2).bind fun q16 => ((if (-3 : Int32) ≤ q16.1 then some (q16.1 + (10 : Int32), q16.2) else some ((-9 : Int32), q16.2)))))))))))
set_option maxHeartbeats 4000000 in
set_option maxRecDepth 100000 in
theorem w_X10_scold_15 {p : Program} {l : Launch} {e : Env} {s : State} {m : MethodId} {below : List Frame} {meth : Method} {c : Code} {X : XC} {ex : va_W} (x1 : Int32) (x2 : Int32) (x3 : Int32) (x4 : Int32) (C : CallFix p m c cX10_scold 8 s (([.ref (X.2.2.1 17 (0)), .int (x1), .int (x2), .int (x3), .int (x4)] : List Value).toArray) gtbl RX10) (hr : meth.sig.returnType = (some .int)) (hk : meth.locks = false) (R0 : Int32 × XS)  : ∀  (z : XS), J_X10_scold_15 x1 x2 x3 x4   z = some R0 → ∀ (H : Heap) (locs : List Loc), xw X ex z s H locs → ∀ (ls : Array Slot), lv_has ls 8 [(0, .ref (X.2.2.1 17 (0))), (1, .int (x1)), (2, .int (x2)), (3, .int (x3)), (4, .int (x4))] → W p l e rm_X10_scold s m (([.ref (X.2.2.1 17 (0)), .int (x1), .int (x2), .int (x3), .int (x4)] : List Value).toArray) below meth c H locs 0 0 (MQ below (xQi X ex R0.2 R0.1) (([.ref (X.2.2.1 17 (0)), .int (x1), .int (x2), .int (x3), .int (x4)] : List Value).toArray) s 0 0 (xA X)) (F0 m 15 ls []) := by
  intro  z  hD H locs hw ls hl
  unfold J_X10_scold_15 at hD
  refine lv_iload_n C.1 C.2.1 dX10_scold_15 rfl (lv_at hl 1 rfl) ?_
  obtain ⟨q2, hq2, hD⟩ := Option.bind_eq_some_iff.mp hD
  refine x_goi hw (x_runS (As := [.int (x1)]) (rest := []) C hw cS_X10_isDay kw_612 (c_X10_isDay l X ex x1  z q2 hq2) ⟨Nat.le_of_ble_eq_true rfl, Nat.le_of_ble_eq_true rfl⟩ rfl hl.1 rfl (Nat.le_of_ble_eq_true rfl) dX10_scold_16 ⟨Nat.le_of_ble_eq_true rfl, Nat.le_of_ble_eq_true rfl⟩) (fun H locs hw => ?_)
  refine lv_if_eq (tgt := 37) C.1 C.2.1 dX10_scold_19 (by decide) (fun c3 => ?_) (fun c3 => ?_)
  · replace hD := (if_pos c3).symm.trans hD
    refine lv_bipush (v := (-2 : Int32)) C.1 C.2.1 dX10_scold_37 (by decide) ?_
    obtain rfl := Option.some.inj hD
    exact x_iret C hw hr hk dX10_scold_39
  · replace hD := (if_neg c3).symm.trans hD
    refine lv_iload_n C.1 C.2.1 dX10_scold_22 rfl (lv_at hl 2 rfl) ?_
    obtain ⟨q4, hq4, hD⟩ := Option.bind_eq_some_iff.mp hD
    refine x_goi hw (x_runS (As := [.int (x2)]) (rest := []) C hw cS_X10_isFeet kw_628 (c_X10_isFeet l X ex x2  q2.2 q4 hq4) ⟨Nat.le_of_ble_eq_true rfl, Nat.le_of_ble_eq_true rfl⟩ rfl hl.1 rfl (Nat.le_of_ble_eq_true rfl) dX10_scold_23 ⟨Nat.le_of_ble_eq_true rfl, Nat.le_of_ble_eq_true rfl⟩) (fun H locs hw => ?_)
    refine lv_if_eq (tgt := 37) C.1 C.2.1 dX10_scold_26 (by decide) (fun c5 => ?_) (fun c5 => ?_)
    · replace hD := (if_pos c5).symm.trans hD
      refine lv_bipush (v := (-2 : Int32)) C.1 C.2.1 dX10_scold_37 (by decide) ?_
      obtain rfl := Option.some.inj hD
      exact x_iret C hw hr hk dX10_scold_39
    · replace hD := (if_neg c5).symm.trans hD
      refine lv_iload C.1 C.2.1 dX10_scold_29 (lv_at hl 4 rfl) ?_
      obtain ⟨q6, hq6, hD⟩ := Option.bind_eq_some_iff.mp hD
      refine x_goi hw (x_runS (As := [.int (x4)]) (rest := []) C hw cS_X10_isSide kw_607 (c_X10_isSide l X ex x4  q4.2 q6 hq6) ⟨Nat.le_of_ble_eq_true rfl, Nat.le_of_ble_eq_true rfl⟩ rfl hl.1 rfl (Nat.le_of_ble_eq_true rfl) dX10_scold_31 ⟨Nat.le_of_ble_eq_true rfl, Nat.le_of_ble_eq_true rfl⟩) (fun H locs hw => ?_)
      refine lv_if_ne (tgt := 40) C.1 C.2.1 dX10_scold_34 (by decide) (fun c7 => ?_) (fun c7 => ?_)
      · replace hD := (if_neg c7).symm.trans hD
        refine lv_aload_n C.1 C.2.1 dX10_scold_40 rfl (lv_at hl 0 rfl) ?_
        refine gf_X10_1 C hw kw_495 dX10_scold_41 ?_
        refine lv_if_ne (tgt := 50) C.1 C.2.1 dX10_scold_44 (by decide) (fun c8 => ?_) (fun c8 => ?_)
        · replace hD := (if_neg c8).symm.trans hD
          refine lv_iload_n C.1 C.2.1 dX10_scold_50 rfl (lv_at hl 3 rfl) ?_
          refine lv_if_lt (tgt := 83) C.1 C.2.1 dX10_scold_51 (by decide) (fun c9 => ?_) (fun c9 => ?_)
          · replace hD := (if_pos c9).symm.trans hD
            refine lv_iconst (v := (0 : Int32)) C.1 C.2.1 dX10_scold_83 (by decide) ?_
            refine lv_istore (lv' := [(5, .int ((0 : Int32))), (0, .ref (X.2.2.1 17 (0))), (1, .int (x1)), (2, .int (x2)), (3, .int (x3)), (4, .int (x4))]) C.1 C.2.1 dX10_scold_84 hl (by decide) rfl (fun ls hl => ?_)
            refine lv_iconst (v := (0 : Int32)) C.1 C.2.1 dX10_scold_86 (by decide) ?_
            refine lv_istore (lv' := [(6, .int ((0 : Int32))), (5, .int ((0 : Int32))), (0, .ref (X.2.2.1 17 (0))), (1, .int (x1)), (2, .int (x2)), (3, .int (x3)), (4, .int (x4))]) C.1 C.2.1 dX10_scold_87 hl (by decide) rfl (fun ls hl => ?_)
            exact w_X10_scold_89 x1 x2 x3 x4  C hr hk R0   64 (0 : Int32) (0 : Int32) q6.2  hD _ _ hw _ (lv_sub hl [2, 3, 4, 1, 0] rfl)
          · replace hD := (if_neg c9).symm.trans hD
            refine lv_aload_n C.1 C.2.1 dX10_scold_54 rfl (lv_at hl 0 rfl) ?_
            refine lv_iload_n C.1 C.2.1 dX10_scold_55 rfl (lv_at hl 1 rfl) ?_
            refine lv_iload_n C.1 C.2.1 dX10_scold_56 rfl (lv_at hl 2 rfl) ?_
            refine lv_iload_n C.1 C.2.1 dX10_scold_57 rfl (lv_at hl 3 rfl) ?_
            refine lv_iload C.1 C.2.1 dX10_scold_58 (lv_at hl 4 rfl) ?_
            obtain ⟨q16, hq16, hD⟩ := Option.bind_eq_some_iff.mp hD
            refine x_goi hw (x_runV (As := [.int (x1), .int (x2), .int (x3), .int (x4)]) (rest := []) (k := 17) (j := 0) C hw (Nat.le_of_ble_eq_true rfl) rfl rfl cV_X10_enoughFor kw_689 (c_X10_enoughFor l X ex x1 x2 x3 x4  q6.2 q16 hq16) ⟨Nat.le_of_ble_eq_true rfl, Nat.le_of_ble_eq_true rfl⟩ rfl hl.1 rfl (Nat.le_of_ble_eq_true rfl) dX10_scold_60 ⟨Nat.le_of_ble_eq_true rfl, Nat.le_of_ble_eq_true rfl⟩) (fun H locs hw => ?_)
            refine lv_istore (lv' := [(5, .int (q16.1)), (0, .ref (X.2.2.1 17 (0))), (1, .int (x1)), (2, .int (x2)), (3, .int (x3)), (4, .int (x4))]) C.1 C.2.1 dX10_scold_63 hl (by decide) rfl (fun ls hl => ?_)
            refine lv_iload C.1 C.2.1 dX10_scold_65 (lv_at hl 0 rfl) ?_
            refine lv_bipush (v := (-3 : Int32)) C.1 C.2.1 dX10_scold_67 (by decide) ?_
            refine lv_icmp_ge (tgt := 77) C.1 C.2.1 dX10_scold_69 (by decide) (fun c17 => ?_) (fun c17 => ?_)
            · replace hD := (if_pos c17).symm.trans hD
              refine lv_iload C.1 C.2.1 dX10_scold_77 (lv_at hl 0 rfl) ?_
              refine lv_bipush (v := (10 : Int32)) C.1 C.2.1 dX10_scold_79 (by decide) ?_
              refine lv_iadd C.1 C.2.1 dX10_scold_81 ?_
              obtain rfl := Option.some.inj hD
              exact x_iret C hw hr hk dX10_scold_82
            · replace hD := (if_neg c17).symm.trans hD
              refine lv_bipush (v := (-9 : Int32)) C.1 C.2.1 dX10_scold_72 (by decide) ?_
              refine lv_goto (tgt := 82) C.1 C.2.1 dX10_scold_74 (by decide) ?_
              obtain rfl := Option.some.inj hD
              exact x_iret C hw hr hk dX10_scold_82
        · replace hD := (if_pos c8).symm.trans hD
          refine lv_bipush (v := (-3 : Int32)) C.1 C.2.1 dX10_scold_47 (by decide) ?_
          obtain rfl := Option.some.inj hD
          exact x_iret C hw hr hk dX10_scold_49
      · replace hD := (if_pos c7).symm.trans hD
        refine lv_bipush (v := (-2 : Int32)) C.1 C.2.1 dX10_scold_37 (by decide) ?_
        obtain rfl := Option.some.inj hD
        exact x_iret C hw hr hk dX10_scold_39
def D_X10_scold (x1 : Int32) (x2 : Int32) (x3 : Int32) (x4 : Int32) (z : XS) : Option (Int32 × XS) :=
  (if x3 = (-1 : Int32) then J_X10_scold_15 x1 x2 x3 x4   z else (D_X10_noHedge x3 z).bind fun q18 => ((if q18.1 = 0 then J_X10_scold_15 x1 x2 x3 x4   q18.2 else some ((-1 : Int32), q18.2))))
set_option maxHeartbeats 4000000 in
set_option maxRecDepth 100000 in
theorem c_X10_scold (l : Launch) (X : XC) (ex : va_W) (x1 : Int32) (x2 : Int32) (x3 : Int32) (x4 : Int32) (z : XS) (R0 : Int32 × XS) (hD : D_X10_scold x1 x2 x3 x4 z = some R0) : xM l X ex yX10_scold cX10_scold 8 (some .int) rm_X10_scold [.ref (X.2.2.1 17 (0)), .int (x1), .int (x2), .int (x3), .int (x4)] z (xQi X ex R0.2 R0.1) := by
  refine x_ent (by decide) (Nat.le_of_ble_eq_true rfl) ?_
  intro p e s m below meth c ls C hr hk hw hl
  replace hl : lv_has ls 8 [(0, .ref (X.2.2.1 17 (0))), (1, .int (x1)), (2, .int (x2)), (3, .int (x3)), (4, .int (x4))] := hl
  unfold D_X10_scold at hD
  refine lv_iload_n C.1 C.2.1 dX10_scold_0 rfl (lv_at hl 3 rfl) ?_
  refine lv_iconst (v := (-1 : Int32)) C.1 C.2.1 dX10_scold_1 (by decide) ?_
  refine lv_icmp_eq (tgt := 15) C.1 C.2.1 dX10_scold_2 (by decide) (fun c1 => ?_) (fun c1 => ?_)
  · replace hD := (if_pos c1).symm.trans hD
    exact w_X10_scold_15 x1 x2 x3 x4  C hr hk R0    z  hD _ _ hw _ (lv_sub hl [0, 1, 2, 3, 4] rfl)
  · replace hD := (if_neg c1).symm.trans hD
    refine lv_aload_n C.1 C.2.1 dX10_scold_5 rfl (lv_at hl 0 rfl) ?_
    refine lv_iload_n C.1 C.2.1 dX10_scold_6 rfl (lv_at hl 3 rfl) ?_
    obtain ⟨q18, hq18, hD⟩ := Option.bind_eq_some_iff.mp hD
    refine x_goi hw (x_runV (As := [.int (x3)]) (rest := []) (k := 17) (j := 0) C hw (Nat.le_of_ble_eq_true rfl) rfl rfl cV_X10_noHedge kw_602 (c_X10_noHedge l X ex x3  z q18 hq18) ⟨Nat.le_of_ble_eq_true rfl, Nat.le_of_ble_eq_true rfl⟩ rfl hl.1 rfl (Nat.le_of_ble_eq_true rfl) dX10_scold_7 ⟨Nat.le_of_ble_eq_true rfl, Nat.le_of_ble_eq_true rfl⟩) (fun H locs hw => ?_)
    refine lv_if_eq (tgt := 15) C.1 C.2.1 dX10_scold_10 (by decide) (fun c19 => ?_) (fun c19 => ?_)
    · replace hD := (if_pos c19).symm.trans hD
      exact w_X10_scold_15 x1 x2 x3 x4  C hr hk R0    q18.2  hD _ _ hw _ (lv_sub hl [0, 1, 2, 3, 4] rfl)
    · replace hD := (if_neg c19).symm.trans hD
      refine lv_iconst (v := (-1 : Int32)) C.1 C.2.1 dX10_scold_13 (by decide) ?_
      obtain rfl := Option.some.inj hD
      exact x_iret C hw hr hk dX10_scold_14
theorem kw_690 : Cond.constantLong RX10 190 (240 : Int64) ∈ gtbl := gm4 112 rfl rfl
theorem gf_X10_12 {p : Program} {l : Launch} {e : Env} {R : Room} {s : State} {m : MethodId} {args : Array Value} {below : List Frame} {meth : Method} {c : Code} {H : Heap} {locs : List Loc} {cells slots : Nat} {Q : State → Prop} {cc : ByteArray} {pc nL index : Nat} {ls : Array Slot} {rest : List Value} {X : XC} {ex : va_W} {z : XS} {own : String} (C : CallFix p m c cc nL s args gtbl own) (hw : xw X ex z s H locs) (hlink : Cond.fieldLink own index (TX10 12).1 (TX10 12).2.1 (TX10 12).2.2.1 ∈ gtbl) (hdg : decode cc pc = .ok (.getfield index, 3)) (kk : W p l e R s m args below meth c H locs cells slots Q (F0 m (pc + 3) ls (.int (gS z 17 12 0) :: rest))) : W p l e R s m args below meth c H locs cells slots Q (F0 m pc ls (.ref (X.2.2.1 17 0) :: rest)) :=
  x_get (k := 17) (j := 0) C hw (Nat.le_of_ble_eq_true rfl) 12 (v := .int (gS z 17 12 0)) rfl rfl ixX10 (by decide) hlink rfl hdg kk
theorem kw_692 : Cond.fieldLink RX10 34 (TX10 13).1 (TX10 13).2.1 (TX10 13).2.2.1 ∈ gtbl := gm3 141 rfl rfl
theorem gf_X10_13 {p : Program} {l : Launch} {e : Env} {R : Room} {s : State} {m : MethodId} {args : Array Value} {below : List Frame} {meth : Method} {c : Code} {H : Heap} {locs : List Loc} {cells slots : Nat} {Q : State → Prop} {cc : ByteArray} {pc nL index : Nat} {ls : Array Slot} {rest : List Value} {X : XC} {ex : va_W} {z : XS} {own : String} (C : CallFix p m c cc nL s args gtbl own) (hw : xw X ex z s H locs) (hlink : Cond.fieldLink own index (TX10 13).1 (TX10 13).2.1 (TX10 13).2.2.1 ∈ gtbl) (hdg : decode cc pc = .ok (.getfield index, 3)) (kk : W p l e R s m args below meth c H locs cells slots Q (F0 m (pc + 3) ls (.ref (X.2.2.1 18 8) :: rest))) : W p l e R s m args below meth c H locs cells slots Q (F0 m pc ls (.ref (X.2.2.1 17 0) :: rest)) :=
  x_get (k := 17) (j := 0) C hw (Nat.le_of_ble_eq_true rfl) 13 (v := .ref (X.2.2.1 18 8)) rfl rfl ixX10 (by decide) hlink rfl hdg kk
theorem kw_694 : Cond.fieldLink RX10 37 (TX10 14).1 (TX10 14).2.1 (TX10 14).2.2.1 ∈ gtbl := gm3 142 rfl rfl
theorem gf_X10_14 {p : Program} {l : Launch} {e : Env} {R : Room} {s : State} {m : MethodId} {args : Array Value} {below : List Frame} {meth : Method} {c : Code} {H : Heap} {locs : List Loc} {cells slots : Nat} {Q : State → Prop} {cc : ByteArray} {pc nL index : Nat} {ls : Array Slot} {rest : List Value} {X : XC} {ex : va_W} {z : XS} {own : String} (C : CallFix p m c cc nL s args gtbl own) (hw : xw X ex z s H locs) (hlink : Cond.fieldLink own index (TX10 14).1 (TX10 14).2.1 (TX10 14).2.2.1 ∈ gtbl) (hdg : decode cc pc = .ok (.getfield index, 3)) (kk : W p l e R s m args below meth c H locs cells slots Q (F0 m (pc + 3) ls (.ref (X.2.2.1 18 9) :: rest))) : W p l e R s m args below meth c H locs cells slots Q (F0 m pc ls (.ref (X.2.2.1 17 0) :: rest)) :=
  x_get (k := 17) (j := 0) C hw (Nat.le_of_ble_eq_true rfl) 14 (v := .ref (X.2.2.1 18 9)) rfl rfl ixX10 (by decide) hlink rfl hdg kk
theorem kw_696 : Cond.fieldLink RX10 40 (TX10 15).1 (TX10 15).2.1 (TX10 15).2.2.1 ∈ gtbl := gm3 143 rfl rfl
theorem gf_X10_15 {p : Program} {l : Launch} {e : Env} {R : Room} {s : State} {m : MethodId} {args : Array Value} {below : List Frame} {meth : Method} {c : Code} {H : Heap} {locs : List Loc} {cells slots : Nat} {Q : State → Prop} {cc : ByteArray} {pc nL index : Nat} {ls : Array Slot} {rest : List Value} {X : XC} {ex : va_W} {z : XS} {own : String} (C : CallFix p m c cc nL s args gtbl own) (hw : xw X ex z s H locs) (hlink : Cond.fieldLink own index (TX10 15).1 (TX10 15).2.1 (TX10 15).2.2.1 ∈ gtbl) (hdg : decode cc pc = .ok (.getfield index, 3)) (kk : W p l e R s m args below meth c H locs cells slots Q (F0 m (pc + 3) ls (.ref (X.2.2.1 18 10) :: rest))) : W p l e R s m args below meth c H locs cells slots Q (F0 m pc ls (.ref (X.2.2.1 17 0) :: rest)) :=
  x_get (k := 17) (j := 0) C hw (Nat.le_of_ble_eq_true rfl) 15 (v := .ref (X.2.2.1 18 10)) rfl rfl ixX10 (by decide) hlink rfl hdg kk
theorem kw_698 : Cond.fieldLink RX10 43 (TX10 16).1 (TX10 16).2.1 (TX10 16).2.2.1 ∈ gtbl := gm3 144 rfl rfl
theorem gf_X10_16 {p : Program} {l : Launch} {e : Env} {R : Room} {s : State} {m : MethodId} {args : Array Value} {below : List Frame} {meth : Method} {c : Code} {H : Heap} {locs : List Loc} {cells slots : Nat} {Q : State → Prop} {cc : ByteArray} {pc nL index : Nat} {ls : Array Slot} {rest : List Value} {X : XC} {ex : va_W} {z : XS} {own : String} (C : CallFix p m c cc nL s args gtbl own) (hw : xw X ex z s H locs) (hlink : Cond.fieldLink own index (TX10 16).1 (TX10 16).2.1 (TX10 16).2.2.1 ∈ gtbl) (hdg : decode cc pc = .ok (.getfield index, 3)) (kk : W p l e R s m args below meth c H locs cells slots Q (F0 m (pc + 3) ls (.ref (X.2.2.1 18 11) :: rest))) : W p l e R s m args below meth c H locs cells slots Q (F0 m pc ls (.ref (X.2.2.1 17 0) :: rest)) :=
  x_get (k := 17) (j := 0) C hw (Nat.le_of_ble_eq_true rfl) 16 (v := .ref (X.2.2.1 18 11)) rfl rfl ixX10 (by decide) hlink rfl hdg kk
abbrev rm_X10_reading : Room := { frames := 2, cells := 0, slots := 0, locals := 46 }
def D_X10_reading (x1 : Int32) (x2 : Int32) (x3 : Int32) (x4 : Int32) (z : XS) : Option (Int32 × XS) :=
  (D_X10_noHedge x1 z).bind fun q1 => ((if q1.1 = 0 then (D_X10_isSide x2 q1.2).bind fun q3 => ((if q3.1 = 0 then some ((-2 : Int32), q3.2) else (D_X10_isDawn x3 q3.2).bind fun q5 => ((if q5.1 = 0 then some ((-2 : Int32), q5.2) else (D_X10_in x4.toInt64 (0 : Int64) (240 : Int64) q5.2).bind fun q7 => ((if q7.1 = 0 then some ((-2 : Int32), q7.2) else (if gS q7.2 17 12 0 = (10 : Int32) then some ((-4 : Int32), q7.2) else gd (inB (gS q7.2 17 12 0) 10) ((some (pA q7.2 18 8 (gS q7.2 17 12 0).toNatClampNeg x1)).bind fun z11 => (gd (inB (gS z11 17 12 0) 10) ((some (pA z11 18 9 (gS z11 17 12 0).toNatClampNeg x2)).bind fun z13 => (gd (inB (gS z13 17 12 0) 10) ((some (pA z13 18 10 (gS z13 17 12 0).toNatClampNeg x3)).bind fun z15 => (gd (inB (gS z15 17 12 0) 10) ((some (pA z15 18 11 (gS z15 17 12 0).toNatClampNeg x4)).bind fun z17 => ((some (pS z17 17 12 0 ((gS z17 17 12 0) + (1 : Int32)))).bind fun z18 => (some ((gS z18 17 12 0) - (1 : Int32), z18))))))))))))))))) else some ((-1 : Int32), q1.2)))
set_option maxHeartbeats 4000000 in
set_option maxRecDepth 100000 in
theorem c_X10_reading (l : Launch) (X : XC) (ex : va_W) (x1 : Int32) (x2 : Int32) (x3 : Int32) (x4 : Int32) (z : XS) (R0 : Int32 × XS) (hD : D_X10_reading x1 x2 x3 x4 z = some R0) : xM l X ex yX10_reading cX10_reading 5 (some .int) rm_X10_reading [.ref (X.2.2.1 17 (0)), .int (x1), .int (x2), .int (x3), .int (x4)] z (xQi X ex R0.2 R0.1) := by
  refine x_ent (by decide) (Nat.le_of_ble_eq_true rfl) ?_
  intro p e s m below meth c ls C hr hk hw hl
  replace hl : lv_has ls 5 [(0, .ref (X.2.2.1 17 (0))), (1, .int (x1)), (2, .int (x2)), (3, .int (x3)), (4, .int (x4))] := hl
  unfold D_X10_reading at hD
  refine lv_aload_n C.1 C.2.1 dX10_reading_0 rfl (lv_at hl 0 rfl) ?_
  refine lv_iload_n C.1 C.2.1 dX10_reading_1 rfl (lv_at hl 1 rfl) ?_
  obtain ⟨q1, hq1, hD⟩ := Option.bind_eq_some_iff.mp hD
  refine x_goi hw (x_runV (As := [.int (x1)]) (rest := []) (k := 17) (j := 0) C hw (Nat.le_of_ble_eq_true rfl) rfl rfl cV_X10_noHedge kw_602 (c_X10_noHedge l X ex x1  z q1 hq1) ⟨Nat.le_of_ble_eq_true rfl, Nat.le_of_ble_eq_true rfl⟩ rfl hl.1 rfl (Nat.le_of_ble_eq_true rfl) dX10_reading_2 ⟨Nat.le_of_ble_eq_true rfl, Nat.le_of_ble_eq_true rfl⟩) (fun H locs hw => ?_)
  refine lv_if_eq (tgt := 10) C.1 C.2.1 dX10_reading_5 (by decide) (fun c2 => ?_) (fun c2 => ?_)
  · replace hD := (if_pos c2).symm.trans hD
    refine lv_iload_n C.1 C.2.1 dX10_reading_10 rfl (lv_at hl 2 rfl) ?_
    obtain ⟨q3, hq3, hD⟩ := Option.bind_eq_some_iff.mp hD
    refine x_goi hw (x_runS (As := [.int (x2)]) (rest := []) C hw cS_X10_isSide kw_607 (c_X10_isSide l X ex x2  q1.2 q3 hq3) ⟨Nat.le_of_ble_eq_true rfl, Nat.le_of_ble_eq_true rfl⟩ rfl hl.1 rfl (Nat.le_of_ble_eq_true rfl) dX10_reading_11 ⟨Nat.le_of_ble_eq_true rfl, Nat.le_of_ble_eq_true rfl⟩) (fun H locs hw => ?_)
    refine lv_if_eq (tgt := 37) C.1 C.2.1 dX10_reading_14 (by decide) (fun c4 => ?_) (fun c4 => ?_)
    · replace hD := (if_pos c4).symm.trans hD
      refine lv_bipush (v := (-2 : Int32)) C.1 C.2.1 dX10_reading_37 (by decide) ?_
      obtain rfl := Option.some.inj hD
      exact x_iret C hw hr hk dX10_reading_39
    · replace hD := (if_neg c4).symm.trans hD
      refine lv_iload_n C.1 C.2.1 dX10_reading_17 rfl (lv_at hl 3 rfl) ?_
      obtain ⟨q5, hq5, hD⟩ := Option.bind_eq_some_iff.mp hD
      refine x_goi hw (x_runS (As := [.int (x3)]) (rest := []) C hw cS_X10_isDawn kw_653 (c_X10_isDawn l X ex x3  q3.2 q5 hq5) ⟨Nat.le_of_ble_eq_true rfl, Nat.le_of_ble_eq_true rfl⟩ rfl hl.1 rfl (Nat.le_of_ble_eq_true rfl) dX10_reading_18 ⟨Nat.le_of_ble_eq_true rfl, Nat.le_of_ble_eq_true rfl⟩) (fun H locs hw => ?_)
      refine lv_if_eq (tgt := 37) C.1 C.2.1 dX10_reading_21 (by decide) (fun c6 => ?_) (fun c6 => ?_)
      · replace hD := (if_pos c6).symm.trans hD
        refine lv_bipush (v := (-2 : Int32)) C.1 C.2.1 dX10_reading_37 (by decide) ?_
        obtain rfl := Option.some.inj hD
        exact x_iret C hw hr hk dX10_reading_39
      · replace hD := (if_neg c6).symm.trans hD
        refine lv_iload C.1 C.2.1 dX10_reading_24 (lv_at hl 4 rfl) ?_
        refine lv_i2l C.1 C.2.1 dX10_reading_26 rfl ?_
        refine lv_lconst (v := (0 : Int64)) C.1 C.2.1 dX10_reading_27 (by decide) ?_
        refine lv_ldc2 (v := (240 : Int64)) C.1 C.2.1 C.2.2.2.1 (C.2.2.2.2 _ kw_690) dX10_reading_28 ?_
        obtain ⟨q7, hq7, hD⟩ := Option.bind_eq_some_iff.mp hD
        refine x_goi hw (x_runS (As := [.long (x4.toInt64), .long ((0 : Int64)), .long ((240 : Int64))]) (rest := []) C hw cS_X10_in kw_501 (c_X10_in l X ex x4.toInt64 (0 : Int64) (240 : Int64)  q5.2 q7 hq7) ⟨Nat.le_of_ble_eq_true rfl, Nat.le_of_ble_eq_true rfl⟩ rfl hl.1 rfl (Nat.le_of_ble_eq_true rfl) dX10_reading_31 ⟨Nat.le_of_ble_eq_true rfl, Nat.le_of_ble_eq_true rfl⟩) (fun H locs hw => ?_)
        refine lv_if_ne (tgt := 40) C.1 C.2.1 dX10_reading_34 (by decide) (fun c8 => ?_) (fun c8 => ?_)
        · replace hD := (if_neg c8).symm.trans hD
          refine lv_aload_n C.1 C.2.1 dX10_reading_40 rfl (lv_at hl 0 rfl) ?_
          refine gf_X10_12 C hw kw_565 dX10_reading_41 ?_
          refine lv_bipush (v := (10 : Int32)) C.1 C.2.1 dX10_reading_44 (by decide) ?_
          refine lv_icmp_ne (tgt := 52) C.1 C.2.1 dX10_reading_46 (by decide) (fun c9 => ?_) (fun c9 => ?_)
          · replace hD := (if_neg c9).symm.trans hD
            refine lv_aload_n C.1 C.2.1 dX10_reading_52 rfl (lv_at hl 0 rfl) ?_
            refine gf_X10_13 C hw kw_692 dX10_reading_53 ?_
            refine lv_aload_n C.1 C.2.1 dX10_reading_56 rfl (lv_at hl 0 rfl) ?_
            refine gf_X10_12 C hw kw_565 dX10_reading_57 ?_
            refine lv_iload_n C.1 C.2.1 dX10_reading_60 rfl (lv_at hl 1 rfl) ?_
            obtain ⟨g10, hD⟩ := gd_some hD
            obtain ⟨z11, hz11, hD⟩ := Option.bind_eq_some_iff.mp hD
            refine x_iast (k := 18) (j := 8) C hw rfl (Nat.le_of_ble_eq_true rfl) (inB_in g10) dX10_reading_61 (fun H locs hw => ?_)
            replace hw := xw_eq hz11 hw
            refine lv_aload_n C.1 C.2.1 dX10_reading_62 rfl (lv_at hl 0 rfl) ?_
            refine gf_X10_14 C hw kw_694 dX10_reading_63 ?_
            refine lv_aload_n C.1 C.2.1 dX10_reading_66 rfl (lv_at hl 0 rfl) ?_
            refine gf_X10_12 C hw kw_565 dX10_reading_67 ?_
            refine lv_iload_n C.1 C.2.1 dX10_reading_70 rfl (lv_at hl 2 rfl) ?_
            obtain ⟨g12, hD⟩ := gd_some hD
            obtain ⟨z13, hz13, hD⟩ := Option.bind_eq_some_iff.mp hD
            refine x_iast (k := 18) (j := 9) C hw rfl (Nat.le_of_ble_eq_true rfl) (inB_in g12) dX10_reading_71 (fun H locs hw => ?_)
            replace hw := xw_eq hz13 hw
            refine lv_aload_n C.1 C.2.1 dX10_reading_72 rfl (lv_at hl 0 rfl) ?_
            refine gf_X10_15 C hw kw_696 dX10_reading_73 ?_
            refine lv_aload_n C.1 C.2.1 dX10_reading_76 rfl (lv_at hl 0 rfl) ?_
            refine gf_X10_12 C hw kw_565 dX10_reading_77 ?_
            refine lv_iload_n C.1 C.2.1 dX10_reading_80 rfl (lv_at hl 3 rfl) ?_
            obtain ⟨g14, hD⟩ := gd_some hD
            obtain ⟨z15, hz15, hD⟩ := Option.bind_eq_some_iff.mp hD
            refine x_iast (k := 18) (j := 10) C hw rfl (Nat.le_of_ble_eq_true rfl) (inB_in g14) dX10_reading_81 (fun H locs hw => ?_)
            replace hw := xw_eq hz15 hw
            refine lv_aload_n C.1 C.2.1 dX10_reading_82 rfl (lv_at hl 0 rfl) ?_
            refine gf_X10_16 C hw kw_698 dX10_reading_83 ?_
            refine lv_aload_n C.1 C.2.1 dX10_reading_86 rfl (lv_at hl 0 rfl) ?_
            refine gf_X10_12 C hw kw_565 dX10_reading_87 ?_
            refine lv_iload C.1 C.2.1 dX10_reading_90 (lv_at hl 4 rfl) ?_
            obtain ⟨g16, hD⟩ := gd_some hD
            obtain ⟨z17, hz17, hD⟩ := Option.bind_eq_some_iff.mp hD
            refine x_iast (k := 18) (j := 11) C hw rfl (Nat.le_of_ble_eq_true rfl) (inB_in g16) dX10_reading_92 (fun H locs hw => ?_)
            replace hw := xw_eq hz17 hw
            refine lv_aload_n C.1 C.2.1 dX10_reading_93 rfl (lv_at hl 0 rfl) ?_
            refine lv_dup C.1 C.2.1 dX10_reading_94 rfl ?_
            refine gf_X10_12 C hw kw_565 dX10_reading_95 ?_
            refine lv_iconst (v := (1 : Int32)) C.1 C.2.1 dX10_reading_98 (by decide) ?_
            refine lv_iadd C.1 C.2.1 dX10_reading_99 ?_
            obtain ⟨z18, hz18, hD⟩ := Option.bind_eq_some_iff.mp hD
            refine pf_X10_12 C hw kw_565 dX10_reading_100 (fun H locs hw => ?_)
            replace hw := xw_eq hz18 hw
            refine lv_aload_n C.1 C.2.1 dX10_reading_103 rfl (lv_at hl 0 rfl) ?_
            refine gf_X10_12 C hw kw_565 dX10_reading_104 ?_
            refine lv_iconst (v := (1 : Int32)) C.1 C.2.1 dX10_reading_107 (by decide) ?_
            refine lv_isub C.1 C.2.1 dX10_reading_108 ?_
            obtain rfl := Option.some.inj hD
            exact x_iret C hw hr hk dX10_reading_109
          · replace hD := (if_pos c9).symm.trans hD
            refine lv_bipush (v := (-4 : Int32)) C.1 C.2.1 dX10_reading_49 (by decide) ?_
            obtain rfl := Option.some.inj hD
            exact x_iret C hw hr hk dX10_reading_51
        · replace hD := (if_pos c8).symm.trans hD
          refine lv_bipush (v := (-2 : Int32)) C.1 C.2.1 dX10_reading_37 (by decide) ?_
          obtain rfl := Option.some.inj hD
          exact x_iret C hw hr hk dX10_reading_39
  · replace hD := (if_neg c2).symm.trans hD
    refine lv_iconst (v := (-1 : Int32)) C.1 C.2.1 dX10_reading_8 (by decide) ?_
    obtain rfl := Option.some.inj hD
    exact x_iret C hw hr hk dX10_reading_9
abbrev rm_X10_back : Room := { frames := 1, cells := 0, slots := 0, locals := 25 }
def D_X10_back (x1 : Int32) (z : XS) : Option (Int32 × XS) :=
  (D_X10_in x1.toInt64 (0 : Int64) ((gS z 17 12 0).toInt64) z).bind fun q1 => ((if q1.1 = 0 then some ((-2 : Int32), q1.2) else (some (pS q1.2 17 12 0 ((gS q1.2 17 12 0) - x1))).bind fun z3 => (some (gS z3 17 12 0, z3))))
set_option maxHeartbeats 4000000 in
set_option maxRecDepth 100000 in
theorem c_X10_back (l : Launch) (X : XC) (ex : va_W) (x1 : Int32) (z : XS) (R0 : Int32 × XS) (hD : D_X10_back x1 z = some R0) : xM l X ex yX10_back cX10_back 2 (some .int) rm_X10_back [.ref (X.2.2.1 17 (0)), .int (x1)] z (xQi X ex R0.2 R0.1) := by
  refine x_ent (by decide) (Nat.le_of_ble_eq_true rfl) ?_
  intro p e s m below meth c ls C hr hk hw hl
  replace hl : lv_has ls 2 [(0, .ref (X.2.2.1 17 (0))), (1, .int (x1))] := hl
  unfold D_X10_back at hD
  refine lv_iload_n C.1 C.2.1 dX10_back_0 rfl (lv_at hl 1 rfl) ?_
  refine lv_i2l C.1 C.2.1 dX10_back_1 rfl ?_
  refine lv_lconst (v := (0 : Int64)) C.1 C.2.1 dX10_back_2 (by decide) ?_
  refine lv_aload_n C.1 C.2.1 dX10_back_3 rfl (lv_at hl 0 rfl) ?_
  refine gf_X10_12 C hw kw_565 dX10_back_4 ?_
  refine lv_i2l C.1 C.2.1 dX10_back_7 rfl ?_
  obtain ⟨q1, hq1, hD⟩ := Option.bind_eq_some_iff.mp hD
  refine x_goi hw (x_runS (As := [.long (x1.toInt64), .long ((0 : Int64)), .long ((gS z 17 12 0).toInt64)]) (rest := []) C hw cS_X10_in kw_501 (c_X10_in l X ex x1.toInt64 (0 : Int64) ((gS z 17 12 0).toInt64)  z q1 hq1) ⟨Nat.le_of_ble_eq_true rfl, Nat.le_of_ble_eq_true rfl⟩ rfl hl.1 rfl (Nat.le_of_ble_eq_true rfl) dX10_back_8 ⟨Nat.le_of_ble_eq_true rfl, Nat.le_of_ble_eq_true rfl⟩) (fun H locs hw => ?_)
  refine lv_if_ne (tgt := 17) C.1 C.2.1 dX10_back_11 (by decide) (fun c2 => ?_) (fun c2 => ?_)
  · replace hD := (if_neg c2).symm.trans hD
    refine lv_aload_n C.1 C.2.1 dX10_back_17 rfl (lv_at hl 0 rfl) ?_
    refine lv_dup C.1 C.2.1 dX10_back_18 rfl ?_
    refine gf_X10_12 C hw kw_565 dX10_back_19 ?_
    refine lv_iload_n C.1 C.2.1 dX10_back_22 rfl (lv_at hl 1 rfl) ?_
    refine lv_isub C.1 C.2.1 dX10_back_23 ?_
    obtain ⟨z3, hz3, hD⟩ := Option.bind_eq_some_iff.mp hD
    refine pf_X10_12 C hw kw_565 dX10_back_24 (fun H locs hw => ?_)
    replace hw := xw_eq hz3 hw
    refine lv_aload_n C.1 C.2.1 dX10_back_27 rfl (lv_at hl 0 rfl) ?_
    refine gf_X10_12 C hw kw_565 dX10_back_28 ?_
    obtain rfl := Option.some.inj hD
    exact x_iret C hw hr hk dX10_back_31
  · replace hD := (if_pos c2).symm.trans hD
    refine lv_bipush (v := (-2 : Int32)) C.1 C.2.1 dX10_back_14 (by decide) ?_
    obtain rfl := Option.some.inj hD
    exact x_iret C hw hr hk dX10_back_16
abbrev rm_X10_areSo : Room := { frames := 3, cells := 0, slots := 0, locals := 70 }
def B_X10_areSo_4  (k4_ : Int32 → Int32 → XS → Option (Int32 × XS)) (y1 : Int32) (y2 : Int32) (z : XS) : Option (Int32 × XS) :=
  (if gS z 17 12 0 ≤ y2 then gd (isZ y1) (some (y1, z)) else (if y1 = 0 then gd (isZ y1) (some (y1, z)) else gd (inB y2 10) (gd (inB y2 10) (gd (inB y2 10) ((D_X10_faceAt (gA z 18 8 y2.toNatClampNeg) (gA z 18 9 y2.toNatClampNeg) (gA z 18 10 y2.toNatClampNeg) z).bind fun q8 => (gd (inB y2 10) ((if q8.1 = gA q8.2 18 11 y2.toNatClampNeg then k4_ (1 : Int32) (y2 + 1) q8.2 else k4_ (0 : Int32) (y2 + 1) q8.2))))))))
def L_X10_areSo_4  : Nat → Int32 → Int32 → XS → Option (Int32 × XS)
  | 0 => fun _ _ _ => none
  | n + 1 => B_X10_areSo_4   (L_X10_areSo_4   n)
set_option maxHeartbeats 4000000 in
set_option maxRecDepth 100000 in
theorem w_X10_areSo_4 {p : Program} {l : Launch} {e : Env} {s : State} {m : MethodId} {below : List Frame} {meth : Method} {c : Code} {X : XC} {ex : va_W}  (C : CallFix p m c cX10_areSo 3 s (([.ref (X.2.2.1 17 (0))] : List Value).toArray) gtbl RX10) (hr : meth.sig.returnType = (some .boolean)) (hk : meth.locks = false) (R0 : Int32 × XS)  : ∀ (n : Nat), ∀ (y1 : Int32) (y2 : Int32) (z : XS), L_X10_areSo_4   n y1 y2 z = some R0 → ∀ (H : Heap) (locs : List Loc), xw X ex z s H locs → ∀ (ls : Array Slot), lv_has ls 3 [(0, .ref (X.2.2.1 17 (0))), (1, .int (y1)), (2, .int (y2))] → W p l e rm_X10_areSo s m (([.ref (X.2.2.1 17 (0))] : List Value).toArray) below meth c H locs 0 0 (MQ below (xQi X ex R0.2 R0.1) (([.ref (X.2.2.1 17 (0))] : List Value).toArray) s 0 0 (xA X)) (F0 m 4 ls []) := by
  intro n
  induction n with
  | zero =>
    intro y1 y2 z  hD
    cases hD
  | succ n ih =>
    intro y1 y2 z  hD H locs hw ls hl
    replace hD : B_X10_areSo_4   (L_X10_areSo_4   n) y1 y2 z = some R0 := hD
    unfold B_X10_areSo_4 at hD
    refine lv_iload_n C.1 C.2.1 dX10_areSo_4 rfl (lv_at hl 2 rfl) ?_
    refine lv_aload_n C.1 C.2.1 dX10_areSo_5 rfl (lv_at hl 0 rfl) ?_
    refine gf_X10_12 C hw kw_565 dX10_areSo_6 ?_
    refine lv_icmp_ge (tgt := 59) C.1 C.2.1 dX10_areSo_9 (by decide) (fun c1 => ?_) (fun c1 => ?_)
    · replace hD := (if_pos c1).symm.trans hD
      refine lv_iload_n C.1 C.2.1 dX10_areSo_59 rfl (lv_at hl 1 rfl) ?_
      obtain ⟨g2, hD⟩ := gd_some hD
      obtain rfl := Option.some.inj hD
      exact x_zret (v := y1) C hw hr hk (isZ_n g2) dX10_areSo_60
    · replace hD := (if_neg c1).symm.trans hD
      refine lv_iload_n C.1 C.2.1 dX10_areSo_12 rfl (lv_at hl 1 rfl) ?_
      refine lv_if_eq (tgt := 59) C.1 C.2.1 dX10_areSo_13 (by decide) (fun c3 => ?_) (fun c3 => ?_)
      · replace hD := (if_pos c3).symm.trans hD
        refine lv_iload_n C.1 C.2.1 dX10_areSo_59 rfl (lv_at hl 1 rfl) ?_
        obtain ⟨g4, hD⟩ := gd_some hD
        obtain rfl := Option.some.inj hD
        exact x_zret (v := y1) C hw hr hk (isZ_n g4) dX10_areSo_60
      · replace hD := (if_neg c3).symm.trans hD
        refine lv_aload_n C.1 C.2.1 dX10_areSo_16 rfl (lv_at hl 0 rfl) ?_
        refine lv_aload_n C.1 C.2.1 dX10_areSo_17 rfl (lv_at hl 0 rfl) ?_
        refine gf_X10_13 C hw kw_692 dX10_areSo_18 ?_
        refine lv_iload_n C.1 C.2.1 dX10_areSo_21 rfl (lv_at hl 2 rfl) ?_
        obtain ⟨g5, hD⟩ := gd_some hD
        refine x_iald (k := 18) (j := 8) C hw rfl (Nat.le_of_ble_eq_true rfl) (inB_in g5) dX10_areSo_22 ?_
        refine lv_aload_n C.1 C.2.1 dX10_areSo_23 rfl (lv_at hl 0 rfl) ?_
        refine gf_X10_14 C hw kw_694 dX10_areSo_24 ?_
        refine lv_iload_n C.1 C.2.1 dX10_areSo_27 rfl (lv_at hl 2 rfl) ?_
        obtain ⟨g6, hD⟩ := gd_some hD
        refine x_iald (k := 18) (j := 9) C hw rfl (Nat.le_of_ble_eq_true rfl) (inB_in g6) dX10_areSo_28 ?_
        refine lv_aload_n C.1 C.2.1 dX10_areSo_29 rfl (lv_at hl 0 rfl) ?_
        refine gf_X10_15 C hw kw_696 dX10_areSo_30 ?_
        refine lv_iload_n C.1 C.2.1 dX10_areSo_33 rfl (lv_at hl 2 rfl) ?_
        obtain ⟨g7, hD⟩ := gd_some hD
        refine x_iald (k := 18) (j := 10) C hw rfl (Nat.le_of_ble_eq_true rfl) (inB_in g7) dX10_areSo_34 ?_
        obtain ⟨q8, hq8, hD⟩ := Option.bind_eq_some_iff.mp hD
        refine x_goi hw (x_runV (As := [.int (gA z 18 8 y2.toNatClampNeg), .int (gA z 18 9 y2.toNatClampNeg), .int (gA z 18 10 y2.toNatClampNeg)]) (rest := []) (k := 17) (j := 0) C hw (Nat.le_of_ble_eq_true rfl) rfl rfl cV_X10_faceAt kw_659 (c_X10_faceAt l X ex (gA z 18 8 y2.toNatClampNeg) (gA z 18 9 y2.toNatClampNeg) (gA z 18 10 y2.toNatClampNeg)  z q8 hq8) ⟨Nat.le_of_ble_eq_true rfl, Nat.le_of_ble_eq_true rfl⟩ rfl hl.1 rfl (Nat.le_of_ble_eq_true rfl) dX10_areSo_35 ⟨Nat.le_of_ble_eq_true rfl, Nat.le_of_ble_eq_true rfl⟩) (fun H locs hw => ?_)
        refine lv_aload_n C.1 C.2.1 dX10_areSo_38 rfl (lv_at hl 0 rfl) ?_
        refine gf_X10_16 C hw kw_698 dX10_areSo_39 ?_
        refine lv_iload_n C.1 C.2.1 dX10_areSo_42 rfl (lv_at hl 2 rfl) ?_
        obtain ⟨g9, hD⟩ := gd_some hD
        refine x_iald (k := 18) (j := 11) C hw rfl (Nat.le_of_ble_eq_true rfl) (inB_in g9) dX10_areSo_43 ?_
        refine lv_icmp_ne (tgt := 51) C.1 C.2.1 dX10_areSo_44 (by decide) (fun c10 => ?_) (fun c10 => ?_)
        · replace hD := (if_neg c10).symm.trans hD
          refine lv_iconst (v := (0 : Int32)) C.1 C.2.1 dX10_areSo_51 (by decide) ?_
          refine lv_istore_n (lv' := [(1, .int ((0 : Int32))), (0, .ref (X.2.2.1 17 (0))), (2, .int (y2))]) C.1 C.2.1 dX10_areSo_52 rfl hl (by decide) rfl (fun ls hl => ?_)
          refine lv_iinc (v := y2 + 1) (lv' := [(2, .int (y2 + 1)), (1, .int ((0 : Int32))), (0, .ref (X.2.2.1 17 (0)))]) C.1 C.2.1 dX10_areSo_53 hl (k := 2) rfl rfl (by decide) rfl (fun ls hl => ?_)
          refine lv_goto (tgt := 4) C.1 C.2.1 dX10_areSo_56 (by decide) ?_
          exact ih (0 : Int32) (y2 + 1) q8.2  hD _ _ hw _ (lv_sub hl [2, 1, 0] rfl)
        · replace hD := (if_pos c10).symm.trans hD
          refine lv_iconst (v := (1 : Int32)) C.1 C.2.1 dX10_areSo_47 (by decide) ?_
          refine lv_goto (tgt := 52) C.1 C.2.1 dX10_areSo_48 (by decide) ?_
          refine lv_istore_n (lv' := [(1, .int ((1 : Int32))), (0, .ref (X.2.2.1 17 (0))), (2, .int (y2))]) C.1 C.2.1 dX10_areSo_52 rfl hl (by decide) rfl (fun ls hl => ?_)
          refine lv_iinc (v := y2 + 1) (lv' := [(2, .int (y2 + 1)), (1, .int ((1 : Int32))), (0, .ref (X.2.2.1 17 (0)))]) C.1 C.2.1 dX10_areSo_53 hl (k := 2) rfl rfl (by decide) rfl (fun ls hl => ?_)
          refine lv_goto (tgt := 4) C.1 C.2.1 dX10_areSo_56 (by decide) ?_
          exact ih (1 : Int32) (y2 + 1) q8.2  hD _ _ hw _ (lv_sub hl [2, 1, 0] rfl)
def D_X10_areSo  (z : XS) : Option (Int32 × XS) :=
  L_X10_areSo_4   64 (1 : Int32) (0 : Int32) z
set_option maxHeartbeats 4000000 in
set_option maxRecDepth 100000 in
theorem c_X10_areSo (l : Launch) (X : XC) (ex : va_W)  (z : XS) (R0 : Int32 × XS) (hD : D_X10_areSo  z = some R0) : xM l X ex yX10_areSo cX10_areSo 3 (some .boolean) rm_X10_areSo [.ref (X.2.2.1 17 (0))] z (xQi X ex R0.2 R0.1) := by
  refine x_ent (by decide) (Nat.le_of_ble_eq_true rfl) ?_
  intro p e s m below meth c ls C hr hk hw hl
  replace hl : lv_has ls 3 [(0, .ref (X.2.2.1 17 (0)))] := hl
  unfold D_X10_areSo at hD
  refine lv_iconst (v := (1 : Int32)) C.1 C.2.1 dX10_areSo_0 (by decide) ?_
  refine lv_istore_n (lv' := [(1, .int ((1 : Int32))), (0, .ref (X.2.2.1 17 (0)))]) C.1 C.2.1 dX10_areSo_1 rfl hl (by decide) rfl (fun ls hl => ?_)
  refine lv_iconst (v := (0 : Int32)) C.1 C.2.1 dX10_areSo_2 (by decide) ?_
  refine lv_istore_n (lv' := [(2, .int ((0 : Int32))), (1, .int ((1 : Int32))), (0, .ref (X.2.2.1 17 (0)))]) C.1 C.2.1 dX10_areSo_3 rfl hl (by decide) rfl (fun ls hl => ?_)
  exact w_X10_areSo_4   C hr hk R0   64 (1 : Int32) (0 : Int32) z  hD _ _ hw _ (lv_sub hl [2, 1, 0] rfl)
theorem kw_700 : Cond.code yX10_areSo cX10_areSo 3 (some .boolean) ∈ gtbl := gm4 124 rfl rfl
theorem nd_X10_areSo : (yX10_areSo).cls ≠ "java/lang/invoke/MethodHandle" ∧ (yX10_areSo).cls ≠ "java/lang/invoke/VarHandle" ∧ (parseMethodDescriptor (yX10_areSo).desc).map (fun d => d.parameters.length) = some 0 := by decide +kernel
theorem kw_702 : Cond.instanceMethod yX10_areSo ∈ gtbl := gm4 123 rfl rfl
theorem kw_703 : Cond.selects RX10 yX10_areSo yX10_areSo ∈ gtbl := gm0 22 rfl rfl
theorem cV_X10_areSo : xcV yX10_areSo cX10_areSo 3 (some .boolean) 0 := ⟨⟨kw_700, kw_490, nd_X10_areSo⟩, kw_702, kw_703⟩
theorem kw_705 : Cond.methodLink RX10 192 yX10_areSo ∈ gtbl := gm4 121 rfl rfl
abbrev rm_X10_said : Room := { frames := 4, cells := 0, slots := 0, locals := 92 }
def B_X10_said_65 (x1 : Int32) (x2 : Int32) (x3 : Int32) (k65_ : Int32 → Int32 → Int32 → Int32 → XS → Option (Int32 × XS)) (y4 : Int32) (y5 : Int32) (y6 : Int32) (y7 : Int32) (z : XS) : Option (Int32 × XS) :=
  (if (4 : Int32) ≤ y7 then gd (inB y4 420) ((some (pA z 18 3 y4.toNatClampNeg y5)).bind fun z14 => (some (y6, z14))) else gd (inB y4 420) ((some (pA z 18 3 y4.toNatClampNeg y7)).bind fun z16 => ((D_X10_areSo  z16).bind fun q17 => ((if q17.1 = 0 then k65_ y4 y5 (y6 ||| (0 : Int32)) (y7 + 1) q17.2 else k65_ y4 y5 (y6 ||| ((1 : Int32) <<< (((3 : Int32) + y7) &&& 31))) (y7 + 1) q17.2)))))
def L_X10_said_65 (x1 : Int32) (x2 : Int32) (x3 : Int32) : Nat → Int32 → Int32 → Int32 → Int32 → XS → Option (Int32 × XS)
  | 0 => fun _ _ _ _ _ => none
  | n + 1 => B_X10_said_65 x1 x2 x3  (L_X10_said_65 x1 x2 x3  n)
set_option maxHeartbeats 4000000 in
set_option maxRecDepth 100000 in
theorem w_X10_said_65 {p : Program} {l : Launch} {e : Env} {s : State} {m : MethodId} {below : List Frame} {meth : Method} {c : Code} {X : XC} {ex : va_W} (x1 : Int32) (x2 : Int32) (x3 : Int32) (C : CallFix p m c cX10_said 8 s (([.ref (X.2.2.1 17 (0)), .int (x1), .int (x2), .int (x3)] : List Value).toArray) gtbl RX10) (hr : meth.sig.returnType = (some .int)) (hk : meth.locks = false) (R0 : Int32 × XS)  : ∀ (n : Nat), ∀ (y4 : Int32) (y5 : Int32) (y6 : Int32) (y7 : Int32) (z : XS), L_X10_said_65 x1 x2 x3  n y4 y5 y6 y7 z = some R0 → ∀ (H : Heap) (locs : List Loc), xw X ex z s H locs → ∀ (ls : Array Slot), lv_has ls 8 [(0, .ref (X.2.2.1 17 (0))), (4, .int (y4)), (5, .int (y5)), (6, .int (y6)), (7, .int (y7))] → W p l e rm_X10_said s m (([.ref (X.2.2.1 17 (0)), .int (x1), .int (x2), .int (x3)] : List Value).toArray) below meth c H locs 0 0 (MQ below (xQi X ex R0.2 R0.1) (([.ref (X.2.2.1 17 (0)), .int (x1), .int (x2), .int (x3)] : List Value).toArray) s 0 0 (xA X)) (F0 m 65 ls []) := by
  intro n
  induction n with
  | zero =>
    intro y4 y5 y6 y7 z  hD
    cases hD
  | succ n ih =>
    intro y4 y5 y6 y7 z  hD H locs hw ls hl
    replace hD : B_X10_said_65 x1 x2 x3  (L_X10_said_65 x1 x2 x3  n) y4 y5 y6 y7 z = some R0 := hD
    unfold B_X10_said_65 at hD
    refine lv_iload C.1 C.2.1 dX10_said_65 (lv_at hl 4 rfl) ?_
    refine lv_iconst (v := (4 : Int32)) C.1 C.2.1 dX10_said_67 (by decide) ?_
    refine lv_icmp_ge (tgt := 108) C.1 C.2.1 dX10_said_68 (by decide) (fun c12 => ?_) (fun c12 => ?_)
    · replace hD := (if_pos c12).symm.trans hD
      refine lv_aload_n C.1 C.2.1 dX10_said_108 rfl (lv_at hl 0 rfl) ?_
      refine gf_X10_5 C hw kw_575 dX10_said_109 ?_
      refine lv_iload C.1 C.2.1 dX10_said_112 (lv_at hl 1 rfl) ?_
      refine lv_iload C.1 C.2.1 dX10_said_114 (lv_at hl 2 rfl) ?_
      obtain ⟨g13, hD⟩ := gd_some hD
      obtain ⟨z14, hz14, hD⟩ := Option.bind_eq_some_iff.mp hD
      refine x_iast (k := 18) (j := 3) C hw rfl (Nat.le_of_ble_eq_true rfl) (inB_in g13) dX10_said_116 (fun H locs hw => ?_)
      replace hw := xw_eq hz14 hw
      refine lv_iload C.1 C.2.1 dX10_said_117 (lv_at hl 3 rfl) ?_
      obtain rfl := Option.some.inj hD
      exact x_iret C hw hr hk dX10_said_119
    · replace hD := (if_neg c12).symm.trans hD
      refine lv_aload_n C.1 C.2.1 dX10_said_71 rfl (lv_at hl 0 rfl) ?_
      refine gf_X10_5 C hw kw_575 dX10_said_72 ?_
      refine lv_iload C.1 C.2.1 dX10_said_75 (lv_at hl 1 rfl) ?_
      refine lv_iload C.1 C.2.1 dX10_said_77 (lv_at hl 4 rfl) ?_
      obtain ⟨g15, hD⟩ := gd_some hD
      obtain ⟨z16, hz16, hD⟩ := Option.bind_eq_some_iff.mp hD
      refine x_iast (k := 18) (j := 3) C hw rfl (Nat.le_of_ble_eq_true rfl) (inB_in g15) dX10_said_79 (fun H locs hw => ?_)
      replace hw := xw_eq hz16 hw
      refine lv_iload C.1 C.2.1 dX10_said_80 (lv_at hl 3 rfl) ?_
      refine lv_aload_n C.1 C.2.1 dX10_said_82 rfl (lv_at hl 0 rfl) ?_
      obtain ⟨q17, hq17, hD⟩ := Option.bind_eq_some_iff.mp hD
      refine x_goi hw (x_runV (As := []) (rest := [.int (y6)]) (k := 17) (j := 0) C hw (Nat.le_of_ble_eq_true rfl) rfl rfl cV_X10_areSo kw_705 (c_X10_areSo l X ex   z16 q17 hq17) ⟨Nat.le_of_ble_eq_true rfl, Nat.le_of_ble_eq_true rfl⟩ rfl hl.1 rfl (Nat.le_of_ble_eq_true rfl) dX10_said_83 ⟨Nat.le_of_ble_eq_true rfl, Nat.le_of_ble_eq_true rfl⟩) (fun H locs hw => ?_)
      refine lv_if_eq (tgt := 98) C.1 C.2.1 dX10_said_86 (by decide) (fun c18 => ?_) (fun c18 => ?_)
      · replace hD := (if_pos c18).symm.trans hD
        refine lv_iconst (v := (0 : Int32)) C.1 C.2.1 dX10_said_98 (by decide) ?_
        refine lv_ior C.1 C.2.1 dX10_said_99 ?_
        refine lv_istore (lv' := [(6, .int (y6 ||| (0 : Int32))), (0, .ref (X.2.2.1 17 (0))), (4, .int (y4)), (5, .int (y5)), (7, .int (y7))]) C.1 C.2.1 dX10_said_100 hl (by decide) rfl (fun ls hl => ?_)
        refine lv_iinc (v := y7 + 1) (lv' := [(7, .int (y7 + 1)), (6, .int (y6 ||| (0 : Int32))), (0, .ref (X.2.2.1 17 (0))), (4, .int (y4)), (5, .int (y5))]) C.1 C.2.1 dX10_said_102 hl (k := 4) rfl rfl (by decide) rfl (fun ls hl => ?_)
        refine lv_goto (tgt := 65) C.1 C.2.1 dX10_said_105 (by decide) ?_
        exact ih y4 y5 (y6 ||| (0 : Int32)) (y7 + 1) q17.2  hD _ _ hw _ (lv_sub hl [2, 3, 4, 1, 0] rfl)
      · replace hD := (if_neg c18).symm.trans hD
        refine lv_iconst (v := (1 : Int32)) C.1 C.2.1 dX10_said_89 (by decide) ?_
        refine lv_iconst (v := (3 : Int32)) C.1 C.2.1 dX10_said_90 (by decide) ?_
        refine lv_iload C.1 C.2.1 dX10_said_91 (lv_at hl 4 rfl) ?_
        refine lv_iadd C.1 C.2.1 dX10_said_93 ?_
        refine lv_ishl C.1 C.2.1 dX10_said_94 ?_
        refine lv_goto (tgt := 99) C.1 C.2.1 dX10_said_95 (by decide) ?_
        refine lv_ior C.1 C.2.1 dX10_said_99 ?_
        refine lv_istore (lv' := [(6, .int (y6 ||| ((1 : Int32) <<< (((3 : Int32) + y7) &&& 31)))), (0, .ref (X.2.2.1 17 (0))), (4, .int (y4)), (5, .int (y5)), (7, .int (y7))]) C.1 C.2.1 dX10_said_100 hl (by decide) rfl (fun ls hl => ?_)
        refine lv_iinc (v := y7 + 1) (lv' := [(7, .int (y7 + 1)), (6, .int (y6 ||| ((1 : Int32) <<< (((3 : Int32) + y7) &&& 31)))), (0, .ref (X.2.2.1 17 (0))), (4, .int (y4)), (5, .int (y5))]) C.1 C.2.1 dX10_said_102 hl (k := 4) rfl rfl (by decide) rfl (fun ls hl => ?_)
        refine lv_goto (tgt := 65) C.1 C.2.1 dX10_said_105 (by decide) ?_
        exact ih y4 y5 (y6 ||| ((1 : Int32) <<< (((3 : Int32) + y7) &&& 31))) (y7 + 1) q17.2  hD _ _ hw _ (lv_sub hl [2, 3, 4, 1, 0] rfl)
def D_X10_said (x1 : Int32) (x2 : Int32) (x3 : Int32) (z : XS) : Option (Int32 × XS) :=
  (D_X10_noGarden x1 z).bind fun q1 => ((if q1.1 = 0 then (D_X10_isSide x2 q1.2).bind fun q3 => ((if q3.1 = 0 then some ((-2 : Int32), q3.2) else (D_X10_isDay x3 q3.2).bind fun q5 => ((if q5.1 = 0 then some ((-2 : Int32), q5.2) else (D_X10_hedgeAt x1 x2 q5.2).bind fun q7 => ((D_X10_noHedge q7.1 q7.2).bind fun q8 => ((if q8.1 = 0 then (D_X10_placeOf x1 x2 x3 q8.2).bind fun q10 => (gd (inB q10.1 420) (L_X10_said_65 x1 x2 x3  64 q10.1 (gA q10.2 18 3 q10.1.toNatClampNeg) (0 : Int32) (-3 : Int32) q10.2)) else some ((-1 : Int32), q8.2)))))))) else some ((-1 : Int32), q1.2)))
set_option maxHeartbeats 4000000 in
set_option maxRecDepth 100000 in
theorem c_X10_said (l : Launch) (X : XC) (ex : va_W) (x1 : Int32) (x2 : Int32) (x3 : Int32) (z : XS) (R0 : Int32 × XS) (hD : D_X10_said x1 x2 x3 z = some R0) : xM l X ex yX10_said cX10_said 8 (some .int) rm_X10_said [.ref (X.2.2.1 17 (0)), .int (x1), .int (x2), .int (x3)] z (xQi X ex R0.2 R0.1) := by
  refine x_ent (by decide) (Nat.le_of_ble_eq_true rfl) ?_
  intro p e s m below meth c ls C hr hk hw hl
  replace hl : lv_has ls 8 [(0, .ref (X.2.2.1 17 (0))), (1, .int (x1)), (2, .int (x2)), (3, .int (x3))] := hl
  unfold D_X10_said at hD
  refine lv_aload_n C.1 C.2.1 dX10_said_0 rfl (lv_at hl 0 rfl) ?_
  refine lv_iload_n C.1 C.2.1 dX10_said_1 rfl (lv_at hl 1 rfl) ?_
  obtain ⟨q1, hq1, hD⟩ := Option.bind_eq_some_iff.mp hD
  refine x_goi hw (x_runV (As := [.int (x1)]) (rest := []) (k := 17) (j := 0) C hw (Nat.le_of_ble_eq_true rfl) rfl rfl cV_X10_noGarden kw_596 (c_X10_noGarden l X ex x1  z q1 hq1) ⟨Nat.le_of_ble_eq_true rfl, Nat.le_of_ble_eq_true rfl⟩ rfl hl.1 rfl (Nat.le_of_ble_eq_true rfl) dX10_said_2 ⟨Nat.le_of_ble_eq_true rfl, Nat.le_of_ble_eq_true rfl⟩) (fun H locs hw => ?_)
  refine lv_if_eq (tgt := 10) C.1 C.2.1 dX10_said_5 (by decide) (fun c2 => ?_) (fun c2 => ?_)
  · replace hD := (if_pos c2).symm.trans hD
    refine lv_iload_n C.1 C.2.1 dX10_said_10 rfl (lv_at hl 2 rfl) ?_
    obtain ⟨q3, hq3, hD⟩ := Option.bind_eq_some_iff.mp hD
    refine x_goi hw (x_runS (As := [.int (x2)]) (rest := []) C hw cS_X10_isSide kw_607 (c_X10_isSide l X ex x2  q1.2 q3 hq3) ⟨Nat.le_of_ble_eq_true rfl, Nat.le_of_ble_eq_true rfl⟩ rfl hl.1 rfl (Nat.le_of_ble_eq_true rfl) dX10_said_11 ⟨Nat.le_of_ble_eq_true rfl, Nat.le_of_ble_eq_true rfl⟩) (fun H locs hw => ?_)
    refine lv_if_eq (tgt := 24) C.1 C.2.1 dX10_said_14 (by decide) (fun c4 => ?_) (fun c4 => ?_)
    · replace hD := (if_pos c4).symm.trans hD
      refine lv_bipush (v := (-2 : Int32)) C.1 C.2.1 dX10_said_24 (by decide) ?_
      obtain rfl := Option.some.inj hD
      exact x_iret C hw hr hk dX10_said_26
    · replace hD := (if_neg c4).symm.trans hD
      refine lv_iload_n C.1 C.2.1 dX10_said_17 rfl (lv_at hl 3 rfl) ?_
      obtain ⟨q5, hq5, hD⟩ := Option.bind_eq_some_iff.mp hD
      refine x_goi hw (x_runS (As := [.int (x3)]) (rest := []) C hw cS_X10_isDay kw_612 (c_X10_isDay l X ex x3  q3.2 q5 hq5) ⟨Nat.le_of_ble_eq_true rfl, Nat.le_of_ble_eq_true rfl⟩ rfl hl.1 rfl (Nat.le_of_ble_eq_true rfl) dX10_said_18 ⟨Nat.le_of_ble_eq_true rfl, Nat.le_of_ble_eq_true rfl⟩) (fun H locs hw => ?_)
      refine lv_if_ne (tgt := 27) C.1 C.2.1 dX10_said_21 (by decide) (fun c6 => ?_) (fun c6 => ?_)
      · replace hD := (if_neg c6).symm.trans hD
        refine lv_aload_n C.1 C.2.1 dX10_said_27 rfl (lv_at hl 0 rfl) ?_
        refine lv_iload_n C.1 C.2.1 dX10_said_28 rfl (lv_at hl 1 rfl) ?_
        refine lv_iload_n C.1 C.2.1 dX10_said_29 rfl (lv_at hl 2 rfl) ?_
        obtain ⟨q7, hq7, hD⟩ := Option.bind_eq_some_iff.mp hD
        refine x_goi hw (x_runS (As := [.int (x1), .int (x2)]) (rest := [.ref (X.2.2.1 17 (0))]) C hw cS_X10_hedgeAt kw_618 (c_X10_hedgeAt l X ex x1 x2  q5.2 q7 hq7) ⟨Nat.le_of_ble_eq_true rfl, Nat.le_of_ble_eq_true rfl⟩ rfl hl.1 rfl (Nat.le_of_ble_eq_true rfl) dX10_said_30 ⟨Nat.le_of_ble_eq_true rfl, Nat.le_of_ble_eq_true rfl⟩) (fun H locs hw => ?_)
        obtain ⟨q8, hq8, hD⟩ := Option.bind_eq_some_iff.mp hD
        refine x_goi hw (x_runV (As := [.int (q7.1)]) (rest := []) (k := 17) (j := 0) C hw (Nat.le_of_ble_eq_true rfl) rfl rfl cV_X10_noHedge kw_602 (c_X10_noHedge l X ex q7.1  q7.2 q8 hq8) ⟨Nat.le_of_ble_eq_true rfl, Nat.le_of_ble_eq_true rfl⟩ rfl hl.1 rfl (Nat.le_of_ble_eq_true rfl) dX10_said_33 ⟨Nat.le_of_ble_eq_true rfl, Nat.le_of_ble_eq_true rfl⟩) (fun H locs hw => ?_)
        refine lv_if_eq (tgt := 41) C.1 C.2.1 dX10_said_36 (by decide) (fun c9 => ?_) (fun c9 => ?_)
        · replace hD := (if_pos c9).symm.trans hD
          refine lv_iload_n C.1 C.2.1 dX10_said_41 rfl (lv_at hl 1 rfl) ?_
          refine lv_iload_n C.1 C.2.1 dX10_said_42 rfl (lv_at hl 2 rfl) ?_
          refine lv_iload_n C.1 C.2.1 dX10_said_43 rfl (lv_at hl 3 rfl) ?_
          obtain ⟨q10, hq10, hD⟩ := Option.bind_eq_some_iff.mp hD
          refine x_goi hw (x_runS (As := [.int (x1), .int (x2), .int (x3)]) (rest := []) C hw cS_X10_placeOf kw_623 (c_X10_placeOf l X ex x1 x2 x3  q8.2 q10 hq10) ⟨Nat.le_of_ble_eq_true rfl, Nat.le_of_ble_eq_true rfl⟩ rfl hl.1 rfl (Nat.le_of_ble_eq_true rfl) dX10_said_44 ⟨Nat.le_of_ble_eq_true rfl, Nat.le_of_ble_eq_true rfl⟩) (fun H locs hw => ?_)
          refine lv_istore (lv' := [(4, .int (q10.1)), (0, .ref (X.2.2.1 17 (0))), (1, .int (x1)), (2, .int (x2)), (3, .int (x3))]) C.1 C.2.1 dX10_said_47 hl (by decide) rfl (fun ls hl => ?_)
          refine lv_aload_n C.1 C.2.1 dX10_said_49 rfl (lv_at hl 1 rfl) ?_
          refine gf_X10_5 C hw kw_575 dX10_said_50 ?_
          refine lv_iload C.1 C.2.1 dX10_said_53 (lv_at hl 0 rfl) ?_
          obtain ⟨g11, hD⟩ := gd_some hD
          refine x_iald (k := 18) (j := 3) C hw rfl (Nat.le_of_ble_eq_true rfl) (inB_in g11) dX10_said_55 ?_
          refine lv_istore (lv' := [(5, .int (gA q10.2 18 3 q10.1.toNatClampNeg)), (4, .int (q10.1)), (0, .ref (X.2.2.1 17 (0))), (1, .int (x1)), (2, .int (x2)), (3, .int (x3))]) C.1 C.2.1 dX10_said_56 hl (by decide) rfl (fun ls hl => ?_)
          refine lv_iconst (v := (0 : Int32)) C.1 C.2.1 dX10_said_58 (by decide) ?_
          refine lv_istore (lv' := [(6, .int ((0 : Int32))), (5, .int (gA q10.2 18 3 q10.1.toNatClampNeg)), (4, .int (q10.1)), (0, .ref (X.2.2.1 17 (0))), (1, .int (x1)), (2, .int (x2)), (3, .int (x3))]) C.1 C.2.1 dX10_said_59 hl (by decide) rfl (fun ls hl => ?_)
          refine lv_bipush (v := (-3 : Int32)) C.1 C.2.1 dX10_said_61 (by decide) ?_
          refine lv_istore (lv' := [(7, .int ((-3 : Int32))), (6, .int ((0 : Int32))), (5, .int (gA q10.2 18 3 q10.1.toNatClampNeg)), (4, .int (q10.1)), (0, .ref (X.2.2.1 17 (0))), (1, .int (x1)), (2, .int (x2)), (3, .int (x3))]) C.1 C.2.1 dX10_said_63 hl (by decide) rfl (fun ls hl => ?_)
          exact w_X10_said_65 x1 x2 x3  C hr hk R0   64 q10.1 (gA q10.2 18 3 q10.1.toNatClampNeg) (0 : Int32) (-3 : Int32) q10.2  hD _ _ hw _ (lv_sub hl [4, 3, 2, 1, 0] rfl)
        · replace hD := (if_neg c9).symm.trans hD
          refine lv_iconst (v := (-1 : Int32)) C.1 C.2.1 dX10_said_39 (by decide) ?_
          obtain rfl := Option.some.inj hD
          exact x_iret C hw hr hk dX10_said_40
      · replace hD := (if_pos c6).symm.trans hD
        refine lv_bipush (v := (-2 : Int32)) C.1 C.2.1 dX10_said_24 (by decide) ?_
        obtain rfl := Option.some.inj hD
        exact x_iret C hw hr hk dX10_said_26
  · replace hD := (if_neg c2).symm.trans hD
    refine lv_iconst (v := (-1 : Int32)) C.1 C.2.1 dX10_said_8 (by decide) ?_
    obtain rfl := Option.some.inj hD
    exact x_iret C hw hr hk dX10_said_9
abbrev rm_X10_chosenFor : Room := { frames := 6, cells := 0, slots := 0, locals := 140 }
def B_X10_chosenFor_29 (x1 : Int32) (x2 : Int32) (x3 : Int32) (k29_ : Int32 → Int32 → Int32 → Int32 → XS → Option (Int32 × XS)) (y4 : Int32) (y5 : Int32) (y6 : Int32) (y7 : Int32) (z : XS) : Option (Int32 × XS) :=
  (if (2 : Int32) ≤ y7 then gd (inB x2 420) ((some (pA z 18 3 x2.toNatClampNeg y4)).bind fun z7 => (some (y5, z7))) else gd (inB x2 420) ((some (pA z 18 3 x2.toNatClampNeg y7)).bind fun z9 => ((D_X10_offAt x1 x3 z9).bind fun q10 => ((if q10.1 ≤ y6 then k29_ y4 y5 y6 (y7 + 2) q10.2 else k29_ y4 y7 q10.1 (y7 + 2) q10.2)))))
def L_X10_chosenFor_29 (x1 : Int32) (x2 : Int32) (x3 : Int32) : Nat → Int32 → Int32 → Int32 → Int32 → XS → Option (Int32 × XS)
  | 0 => fun _ _ _ _ _ => none
  | n + 1 => B_X10_chosenFor_29 x1 x2 x3  (L_X10_chosenFor_29 x1 x2 x3  n)
set_option maxHeartbeats 4000000 in
set_option maxRecDepth 100000 in
theorem w_X10_chosenFor_29 {p : Program} {l : Launch} {e : Env} {s : State} {m : MethodId} {below : List Frame} {meth : Method} {c : Code} {X : XC} {ex : va_W} (x1 : Int32) (x2 : Int32) (x3 : Int32) (C : CallFix p m c cX10_chosenFor 9 s (([.ref (X.2.2.1 17 (0)), .int (x1), .int (x2), .int (x3)] : List Value).toArray) gtbl RX10) (hr : meth.sig.returnType = (some .int)) (hk : meth.locks = false) (R0 : Int32 × XS)  : ∀ (n : Nat), ∀ (y4 : Int32) (y5 : Int32) (y6 : Int32) (y7 : Int32) (z : XS), L_X10_chosenFor_29 x1 x2 x3  n y4 y5 y6 y7 z = some R0 → ∀ (H : Heap) (locs : List Loc), xw X ex z s H locs → ∀ (ls : Array Slot), lv_has ls 9 [(0, .ref (X.2.2.1 17 (0))), (1, .int (x1)), (2, .int (x2)), (3, .int (x3)), (4, .int (y4)), (5, .int (y5)), (6, .int (y6)), (7, .int (y7))] → W p l e rm_X10_chosenFor s m (([.ref (X.2.2.1 17 (0)), .int (x1), .int (x2), .int (x3)] : List Value).toArray) below meth c H locs 0 0 (MQ below (xQi X ex R0.2 R0.1) (([.ref (X.2.2.1 17 (0)), .int (x1), .int (x2), .int (x3)] : List Value).toArray) s 0 0 (xA X)) (F0 m 29 ls []) := by
  intro n
  induction n with
  | zero =>
    intro y4 y5 y6 y7 z  hD
    cases hD
  | succ n ih =>
    intro y4 y5 y6 y7 z  hD H locs hw ls hl
    replace hD : B_X10_chosenFor_29 x1 x2 x3  (L_X10_chosenFor_29 x1 x2 x3  n) y4 y5 y6 y7 z = some R0 := hD
    unfold B_X10_chosenFor_29 at hD
    refine lv_iload C.1 C.2.1 dX10_chosenFor_29 (lv_at hl 7 rfl) ?_
    refine lv_iconst (v := (2 : Int32)) C.1 C.2.1 dX10_chosenFor_31 (by decide) ?_
    refine lv_icmp_ge (tgt := 72) C.1 C.2.1 dX10_chosenFor_32 (by decide) (fun c5 => ?_) (fun c5 => ?_)
    · replace hD := (if_pos c5).symm.trans hD
      refine lv_aload_n C.1 C.2.1 dX10_chosenFor_72 rfl (lv_at hl 0 rfl) ?_
      refine gf_X10_5 C hw kw_575 dX10_chosenFor_73 ?_
      refine lv_iload_n C.1 C.2.1 dX10_chosenFor_76 rfl (lv_at hl 2 rfl) ?_
      refine lv_iload C.1 C.2.1 dX10_chosenFor_77 (lv_at hl 4 rfl) ?_
      obtain ⟨g6, hD⟩ := gd_some hD
      obtain ⟨z7, hz7, hD⟩ := Option.bind_eq_some_iff.mp hD
      refine x_iast (k := 18) (j := 3) C hw rfl (Nat.le_of_ble_eq_true rfl) (inB_in g6) dX10_chosenFor_79 (fun H locs hw => ?_)
      replace hw := xw_eq hz7 hw
      refine lv_iload C.1 C.2.1 dX10_chosenFor_80 (lv_at hl 5 rfl) ?_
      obtain rfl := Option.some.inj hD
      exact x_iret C hw hr hk dX10_chosenFor_82
    · replace hD := (if_neg c5).symm.trans hD
      refine lv_aload_n C.1 C.2.1 dX10_chosenFor_35 rfl (lv_at hl 0 rfl) ?_
      refine gf_X10_5 C hw kw_575 dX10_chosenFor_36 ?_
      refine lv_iload_n C.1 C.2.1 dX10_chosenFor_39 rfl (lv_at hl 2 rfl) ?_
      refine lv_iload C.1 C.2.1 dX10_chosenFor_40 (lv_at hl 7 rfl) ?_
      obtain ⟨g8, hD⟩ := gd_some hD
      obtain ⟨z9, hz9, hD⟩ := Option.bind_eq_some_iff.mp hD
      refine x_iast (k := 18) (j := 3) C hw rfl (Nat.le_of_ble_eq_true rfl) (inB_in g8) dX10_chosenFor_42 (fun H locs hw => ?_)
      replace hw := xw_eq hz9 hw
      refine lv_aload_n C.1 C.2.1 dX10_chosenFor_43 rfl (lv_at hl 0 rfl) ?_
      refine lv_iload_n C.1 C.2.1 dX10_chosenFor_44 rfl (lv_at hl 1 rfl) ?_
      refine lv_iload_n C.1 C.2.1 dX10_chosenFor_45 rfl (lv_at hl 3 rfl) ?_
      obtain ⟨q10, hq10, hD⟩ := Option.bind_eq_some_iff.mp hD
      refine x_goi hw (x_runV (As := [.int (x1), .int (x3)]) (rest := []) (k := 17) (j := 0) C hw (Nat.le_of_ble_eq_true rfl) rfl rfl cV_X10_offAt kw_683 (c_X10_offAt l X ex x1 x3  z9 q10 hq10) ⟨Nat.le_of_ble_eq_true rfl, Nat.le_of_ble_eq_true rfl⟩ rfl hl.1 rfl (Nat.le_of_ble_eq_true rfl) dX10_chosenFor_46 ⟨Nat.le_of_ble_eq_true rfl, Nat.le_of_ble_eq_true rfl⟩) (fun H locs hw => ?_)
      refine lv_istore (lv' := [(8, .int (q10.1)), (0, .ref (X.2.2.1 17 (0))), (1, .int (x1)), (2, .int (x2)), (3, .int (x3)), (4, .int (y4)), (5, .int (y5)), (6, .int (y6)), (7, .int (y7))]) C.1 C.2.1 dX10_chosenFor_49 hl (by decide) rfl (fun ls hl => ?_)
      refine lv_iload C.1 C.2.1 dX10_chosenFor_51 (lv_at hl 0 rfl) ?_
      refine lv_iload C.1 C.2.1 dX10_chosenFor_53 (lv_at hl 7 rfl) ?_
      refine lv_icmp_le (tgt := 66) C.1 C.2.1 dX10_chosenFor_55 (by decide) (fun c11 => ?_) (fun c11 => ?_)
      · replace hD := (if_pos c11).symm.trans hD
        refine lv_iinc (v := y7 + 2) (lv' := [(7, .int (y7 + 2)), (8, .int (q10.1)), (0, .ref (X.2.2.1 17 (0))), (1, .int (x1)), (2, .int (x2)), (3, .int (x3)), (4, .int (y4)), (5, .int (y5)), (6, .int (y6))]) C.1 C.2.1 dX10_chosenFor_66 hl (k := 8) rfl rfl (by decide) rfl (fun ls hl => ?_)
        refine lv_goto (tgt := 29) C.1 C.2.1 dX10_chosenFor_69 (by decide) ?_
        exact ih y4 y5 y6 (y7 + 2) q10.2  hD _ _ hw _ (lv_sub hl [2, 3, 4, 5, 6, 7, 8, 0] rfl)
      · replace hD := (if_neg c11).symm.trans hD
        refine lv_iload C.1 C.2.1 dX10_chosenFor_58 (lv_at hl 8 rfl) ?_
        refine lv_istore (lv' := [(5, .int (y7)), (8, .int (q10.1)), (0, .ref (X.2.2.1 17 (0))), (1, .int (x1)), (2, .int (x2)), (3, .int (x3)), (4, .int (y4)), (6, .int (y6)), (7, .int (y7))]) C.1 C.2.1 dX10_chosenFor_60 hl (by decide) rfl (fun ls hl => ?_)
        refine lv_iload C.1 C.2.1 dX10_chosenFor_62 (lv_at hl 1 rfl) ?_
        refine lv_istore (lv' := [(6, .int (q10.1)), (5, .int (y7)), (8, .int (q10.1)), (0, .ref (X.2.2.1 17 (0))), (1, .int (x1)), (2, .int (x2)), (3, .int (x3)), (4, .int (y4)), (7, .int (y7))]) C.1 C.2.1 dX10_chosenFor_64 hl (by decide) rfl (fun ls hl => ?_)
        refine lv_iinc (v := y7 + 2) (lv' := [(7, .int (y7 + 2)), (6, .int (q10.1)), (5, .int (y7)), (8, .int (q10.1)), (0, .ref (X.2.2.1 17 (0))), (1, .int (x1)), (2, .int (x2)), (3, .int (x3)), (4, .int (y4))]) C.1 C.2.1 dX10_chosenFor_66 hl (k := 8) rfl rfl (by decide) rfl (fun ls hl => ?_)
        refine lv_goto (tgt := 29) C.1 C.2.1 dX10_chosenFor_69 (by decide) ?_
        exact ih y4 y7 q10.1 (y7 + 2) q10.2  hD _ _ hw _ (lv_sub hl [4, 5, 6, 7, 8, 2, 1, 0] rfl)
def D_X10_chosenFor (x1 : Int32) (x2 : Int32) (x3 : Int32) (z : XS) : Option (Int32 × XS) :=
  gd (inB x2 420) (gd (inB x2 420) ((some (pA z 18 3 x2.toNatClampNeg (0 : Int32))).bind fun z3 => ((D_X10_offAt x1 x3 z3).bind fun q4 => (L_X10_chosenFor_29 x1 x2 x3  64 (gA z 18 3 x2.toNatClampNeg) (0 : Int32) q4.1 (-1 : Int32) q4.2))))
set_option maxHeartbeats 4000000 in
set_option maxRecDepth 100000 in
theorem c_X10_chosenFor (l : Launch) (X : XC) (ex : va_W) (x1 : Int32) (x2 : Int32) (x3 : Int32) (z : XS) (R0 : Int32 × XS) (hD : D_X10_chosenFor x1 x2 x3 z = some R0) : xM l X ex yX10_chosenFor cX10_chosenFor 9 (some .int) rm_X10_chosenFor [.ref (X.2.2.1 17 (0)), .int (x1), .int (x2), .int (x3)] z (xQi X ex R0.2 R0.1) := by
  refine x_ent (by decide) (Nat.le_of_ble_eq_true rfl) ?_
  intro p e s m below meth c ls C hr hk hw hl
  replace hl : lv_has ls 9 [(0, .ref (X.2.2.1 17 (0))), (1, .int (x1)), (2, .int (x2)), (3, .int (x3))] := hl
  unfold D_X10_chosenFor at hD
  refine lv_aload_n C.1 C.2.1 dX10_chosenFor_0 rfl (lv_at hl 0 rfl) ?_
  refine gf_X10_5 C hw kw_575 dX10_chosenFor_1 ?_
  refine lv_iload_n C.1 C.2.1 dX10_chosenFor_4 rfl (lv_at hl 2 rfl) ?_
  obtain ⟨g1, hD⟩ := gd_some hD
  refine x_iald (k := 18) (j := 3) C hw rfl (Nat.le_of_ble_eq_true rfl) (inB_in g1) dX10_chosenFor_5 ?_
  refine lv_istore (lv' := [(4, .int (gA z 18 3 x2.toNatClampNeg)), (0, .ref (X.2.2.1 17 (0))), (1, .int (x1)), (2, .int (x2)), (3, .int (x3))]) C.1 C.2.1 dX10_chosenFor_6 hl (by decide) rfl (fun ls hl => ?_)
  refine lv_iconst (v := (0 : Int32)) C.1 C.2.1 dX10_chosenFor_8 (by decide) ?_
  refine lv_istore (lv' := [(5, .int ((0 : Int32))), (4, .int (gA z 18 3 x2.toNatClampNeg)), (0, .ref (X.2.2.1 17 (0))), (1, .int (x1)), (2, .int (x2)), (3, .int (x3))]) C.1 C.2.1 dX10_chosenFor_9 hl (by decide) rfl (fun ls hl => ?_)
  refine lv_aload_n C.1 C.2.1 dX10_chosenFor_11 rfl (lv_at hl 2 rfl) ?_
  refine gf_X10_5 C hw kw_575 dX10_chosenFor_12 ?_
  refine lv_iload_n C.1 C.2.1 dX10_chosenFor_15 rfl (lv_at hl 4 rfl) ?_
  refine lv_iconst (v := (0 : Int32)) C.1 C.2.1 dX10_chosenFor_16 (by decide) ?_
  obtain ⟨g2, hD⟩ := gd_some hD
  obtain ⟨z3, hz3, hD⟩ := Option.bind_eq_some_iff.mp hD
  refine x_iast (k := 18) (j := 3) C hw rfl (Nat.le_of_ble_eq_true rfl) (inB_in g2) dX10_chosenFor_17 (fun H locs hw => ?_)
  replace hw := xw_eq hz3 hw
  refine lv_aload_n C.1 C.2.1 dX10_chosenFor_18 rfl (lv_at hl 2 rfl) ?_
  refine lv_iload_n C.1 C.2.1 dX10_chosenFor_19 rfl (lv_at hl 3 rfl) ?_
  refine lv_iload_n C.1 C.2.1 dX10_chosenFor_20 rfl (lv_at hl 5 rfl) ?_
  obtain ⟨q4, hq4, hD⟩ := Option.bind_eq_some_iff.mp hD
  refine x_goi hw (x_runV (As := [.int (x1), .int (x3)]) (rest := []) (k := 17) (j := 0) C hw (Nat.le_of_ble_eq_true rfl) rfl rfl cV_X10_offAt kw_683 (c_X10_offAt l X ex x1 x3  z3 q4 hq4) ⟨Nat.le_of_ble_eq_true rfl, Nat.le_of_ble_eq_true rfl⟩ rfl hl.1 rfl (Nat.le_of_ble_eq_true rfl) dX10_chosenFor_21 ⟨Nat.le_of_ble_eq_true rfl, Nat.le_of_ble_eq_true rfl⟩) (fun H locs hw => ?_)
  refine lv_istore (lv' := [(6, .int (q4.1)), (5, .int ((0 : Int32))), (4, .int (gA z 18 3 x2.toNatClampNeg)), (0, .ref (X.2.2.1 17 (0))), (1, .int (x1)), (2, .int (x2)), (3, .int (x3))]) C.1 C.2.1 dX10_chosenFor_24 hl (by decide) rfl (fun ls hl => ?_)
  refine lv_iconst (v := (-1 : Int32)) C.1 C.2.1 dX10_chosenFor_26 (by decide) ?_
  refine lv_istore (lv' := [(7, .int ((-1 : Int32))), (6, .int (q4.1)), (5, .int ((0 : Int32))), (4, .int (gA z 18 3 x2.toNatClampNeg)), (0, .ref (X.2.2.1 17 (0))), (1, .int (x1)), (2, .int (x2)), (3, .int (x3))]) C.1 C.2.1 dX10_chosenFor_27 hl (by decide) rfl (fun ls hl => ?_)
  exact w_X10_chosenFor_29 x1 x2 x3  C hr hk R0   64 (gA z 18 3 x2.toNatClampNeg) (0 : Int32) q4.1 (-1 : Int32) q4.2  hD _ _ hw _ (lv_sub hl [4, 5, 6, 7, 3, 2, 1, 0] rfl)
theorem kw_706 : Cond.fieldLink RX10 46 (TX10 17).1 (TX10 17).2.1 (TX10 17).2.2.1 ∈ gtbl := gm3 145 rfl rfl
theorem gf_X10_17 {p : Program} {l : Launch} {e : Env} {R : Room} {s : State} {m : MethodId} {args : Array Value} {below : List Frame} {meth : Method} {c : Code} {H : Heap} {locs : List Loc} {cells slots : Nat} {Q : State → Prop} {cc : ByteArray} {pc nL index : Nat} {ls : Array Slot} {rest : List Value} {X : XC} {ex : va_W} {z : XS} {own : String} (C : CallFix p m c cc nL s args gtbl own) (hw : xw X ex z s H locs) (hlink : Cond.fieldLink own index (TX10 17).1 (TX10 17).2.1 (TX10 17).2.2.1 ∈ gtbl) (hdg : decode cc pc = .ok (.getfield index, 3)) (kk : W p l e R s m args below meth c H locs cells slots Q (F0 m (pc + 3) ls (.ref (X.2.2.1 18 12) :: rest))) : W p l e R s m args below meth c H locs cells slots Q (F0 m pc ls (.ref (X.2.2.1 17 0) :: rest)) :=
  x_get (k := 17) (j := 0) C hw (Nat.le_of_ble_eq_true rfl) 17 (v := .ref (X.2.2.1 18 12)) rfl rfl ixX10 (by decide) hlink rfl hdg kk
theorem kw_708 : Cond.code yX10_chosenFor cX10_chosenFor 9 (some .int) ∈ gtbl := gm4 132 rfl rfl
theorem nd_X10_chosenFor : (yX10_chosenFor).cls ≠ "java/lang/invoke/MethodHandle" ∧ (yX10_chosenFor).cls ≠ "java/lang/invoke/VarHandle" ∧ (parseMethodDescriptor (yX10_chosenFor).desc).map (fun d => d.parameters.length) = some 3 := by decide +kernel
theorem kw_710 : Cond.instanceMethod yX10_chosenFor ∈ gtbl := gm4 131 rfl rfl
theorem kw_711 : Cond.selects RX10 yX10_chosenFor yX10_chosenFor ∈ gtbl := gm0 23 rfl rfl
theorem cV_X10_chosenFor : xcV yX10_chosenFor cX10_chosenFor 9 (some .int) 3 := ⟨⟨kw_708, kw_490, nd_X10_chosenFor⟩, kw_710, kw_711⟩
theorem kw_713 : Cond.methodLink RX10 196 yX10_chosenFor ∈ gtbl := gm4 129 rfl rfl
abbrev rm_X10_quarrel : Room := { frames := 7, cells := 0, slots := 0, locals := 168 }
def B_X10_quarrel_212 (x1 : Int32) (x2 : Int32) (x3 : Int32) (x4 : Int32) (k212_ : Int32 → Int32 → XS → Option (Int32 × XS)) (y5 : Int32) (y6 : Int32) (z : XS) : Option (Int32 × XS) :=
  (if (30 : Int32) ≤ y6 then some (y5 + (10 : Int32), z) else (D_X10_heardAt x1 (0 : Int32) y6 z).bind fun q13 => (gd (inB y6 60) (gd (inB q13.1 420) ((some (pA q13.2 18 3 q13.1.toNatClampNeg (gA q13.2 18 12 y6.toNatClampNeg))).bind fun z16 => ((D_X10_heardAt x1 (1 : Int32) y6 z16).bind fun q17 => (gd (inB ((30 : Int32) + y6) 60) (gd (inB q17.1 420) ((some (pA q17.2 18 3 q17.1.toNatClampNeg (gA q17.2 18 12 ((30 : Int32) + y6).toNatClampNeg))).bind fun z20 => (k212_ y5 (y6 + 1) z20)))))))))
def L_X10_quarrel_212 (x1 : Int32) (x2 : Int32) (x3 : Int32) (x4 : Int32) : Nat → Int32 → Int32 → XS → Option (Int32 × XS)
  | 0 => fun _ _ _ => none
  | n + 1 => B_X10_quarrel_212 x1 x2 x3 x4  (L_X10_quarrel_212 x1 x2 x3 x4  n)
set_option maxHeartbeats 4000000 in
set_option maxRecDepth 100000 in
theorem w_X10_quarrel_212 {p : Program} {l : Launch} {e : Env} {s : State} {m : MethodId} {below : List Frame} {meth : Method} {c : Code} {X : XC} {ex : va_W} (x1 : Int32) (x2 : Int32) (x3 : Int32) (x4 : Int32) (C : CallFix p m c cX10_quarrel 11 s (([.ref (X.2.2.1 17 (0)), .int (x1), .int (x2), .int (x3), .int (x4)] : List Value).toArray) gtbl RX10) (hr : meth.sig.returnType = (some .int)) (hk : meth.locks = false) (R0 : Int32 × XS)  : ∀ (n : Nat), ∀ (y5 : Int32) (y6 : Int32) (z : XS), L_X10_quarrel_212 x1 x2 x3 x4  n y5 y6 z = some R0 → ∀ (H : Heap) (locs : List Loc), xw X ex z s H locs → ∀ (ls : Array Slot), lv_has ls 11 [(0, .ref (X.2.2.1 17 (0))), (1, .int (x1)), (5, .int (y5)), (6, .int (y6))] → W p l e rm_X10_quarrel s m (([.ref (X.2.2.1 17 (0)), .int (x1), .int (x2), .int (x3), .int (x4)] : List Value).toArray) below meth c H locs 0 0 (MQ below (xQi X ex R0.2 R0.1) (([.ref (X.2.2.1 17 (0)), .int (x1), .int (x2), .int (x3), .int (x4)] : List Value).toArray) s 0 0 (xA X)) (F0 m 212 ls []) := by
  intro n
  induction n with
  | zero =>
    intro y5 y6 z  hD
    cases hD
  | succ n ih =>
    intro y5 y6 z  hD H locs hw ls hl
    replace hD : B_X10_quarrel_212 x1 x2 x3 x4  (L_X10_quarrel_212 x1 x2 x3 x4  n) y5 y6 z = some R0 := hD
    unfold B_X10_quarrel_212 at hD
    refine lv_iload C.1 C.2.1 dX10_quarrel_212 (lv_at hl 3 rfl) ?_
    refine lv_bipush (v := (30 : Int32)) C.1 C.2.1 dX10_quarrel_214 (by decide) ?_
    refine lv_icmp_ge (tgt := 266) C.1 C.2.1 dX10_quarrel_216 (by decide) (fun c12 => ?_) (fun c12 => ?_)
    · replace hD := (if_pos c12).symm.trans hD
      refine lv_iload C.1 C.2.1 dX10_quarrel_266 (lv_at hl 2 rfl) ?_
      refine lv_bipush (v := (10 : Int32)) C.1 C.2.1 dX10_quarrel_268 (by decide) ?_
      refine lv_iadd C.1 C.2.1 dX10_quarrel_270 ?_
      obtain rfl := Option.some.inj hD
      exact x_iret C hw hr hk dX10_quarrel_271
    · replace hD := (if_neg c12).symm.trans hD
      refine lv_aload_n C.1 C.2.1 dX10_quarrel_219 rfl (lv_at hl 0 rfl) ?_
      refine gf_X10_5 C hw kw_575 dX10_quarrel_220 ?_
      refine lv_iload_n C.1 C.2.1 dX10_quarrel_223 rfl (lv_at hl 1 rfl) ?_
      refine lv_iconst (v := (0 : Int32)) C.1 C.2.1 dX10_quarrel_224 (by decide) ?_
      refine lv_iload C.1 C.2.1 dX10_quarrel_225 (lv_at hl 3 rfl) ?_
      obtain ⟨q13, hq13, hD⟩ := Option.bind_eq_some_iff.mp hD
      refine x_goi hw (x_runS (As := [.int (x1), .int ((0 : Int32)), .int (y6)]) (rest := [.ref (X.2.2.1 18 (3))]) C hw cS_X10_heardAt kw_633 (c_X10_heardAt l X ex x1 (0 : Int32) y6  z q13 hq13) ⟨Nat.le_of_ble_eq_true rfl, Nat.le_of_ble_eq_true rfl⟩ rfl hl.1 rfl (Nat.le_of_ble_eq_true rfl) dX10_quarrel_227 ⟨Nat.le_of_ble_eq_true rfl, Nat.le_of_ble_eq_true rfl⟩) (fun H locs hw => ?_)
      refine lv_aload_n C.1 C.2.1 dX10_quarrel_230 rfl (lv_at hl 0 rfl) ?_
      refine gf_X10_17 C hw kw_706 dX10_quarrel_231 ?_
      refine lv_iload C.1 C.2.1 dX10_quarrel_234 (lv_at hl 3 rfl) ?_
      obtain ⟨g14, hD⟩ := gd_some hD
      refine x_iald (k := 18) (j := 12) C hw rfl (Nat.le_of_ble_eq_true rfl) (inB_in g14) dX10_quarrel_236 ?_
      obtain ⟨g15, hD⟩ := gd_some hD
      obtain ⟨z16, hz16, hD⟩ := Option.bind_eq_some_iff.mp hD
      refine x_iast (k := 18) (j := 3) C hw rfl (Nat.le_of_ble_eq_true rfl) (inB_in g15) dX10_quarrel_237 (fun H locs hw => ?_)
      replace hw := xw_eq hz16 hw
      refine lv_aload_n C.1 C.2.1 dX10_quarrel_238 rfl (lv_at hl 0 rfl) ?_
      refine gf_X10_5 C hw kw_575 dX10_quarrel_239 ?_
      refine lv_iload_n C.1 C.2.1 dX10_quarrel_242 rfl (lv_at hl 1 rfl) ?_
      refine lv_iconst (v := (1 : Int32)) C.1 C.2.1 dX10_quarrel_243 (by decide) ?_
      refine lv_iload C.1 C.2.1 dX10_quarrel_244 (lv_at hl 3 rfl) ?_
      obtain ⟨q17, hq17, hD⟩ := Option.bind_eq_some_iff.mp hD
      refine x_goi hw (x_runS (As := [.int (x1), .int ((1 : Int32)), .int (y6)]) (rest := [.ref (X.2.2.1 18 (3))]) C hw cS_X10_heardAt kw_633 (c_X10_heardAt l X ex x1 (1 : Int32) y6  z16 q17 hq17) ⟨Nat.le_of_ble_eq_true rfl, Nat.le_of_ble_eq_true rfl⟩ rfl hl.1 rfl (Nat.le_of_ble_eq_true rfl) dX10_quarrel_246 ⟨Nat.le_of_ble_eq_true rfl, Nat.le_of_ble_eq_true rfl⟩) (fun H locs hw => ?_)
      refine lv_aload_n C.1 C.2.1 dX10_quarrel_249 rfl (lv_at hl 0 rfl) ?_
      refine gf_X10_17 C hw kw_706 dX10_quarrel_250 ?_
      refine lv_bipush (v := (30 : Int32)) C.1 C.2.1 dX10_quarrel_253 (by decide) ?_
      refine lv_iload C.1 C.2.1 dX10_quarrel_255 (lv_at hl 3 rfl) ?_
      refine lv_iadd C.1 C.2.1 dX10_quarrel_257 ?_
      obtain ⟨g18, hD⟩ := gd_some hD
      refine x_iald (k := 18) (j := 12) C hw rfl (Nat.le_of_ble_eq_true rfl) (inB_in g18) dX10_quarrel_258 ?_
      obtain ⟨g19, hD⟩ := gd_some hD
      obtain ⟨z20, hz20, hD⟩ := Option.bind_eq_some_iff.mp hD
      refine x_iast (k := 18) (j := 3) C hw rfl (Nat.le_of_ble_eq_true rfl) (inB_in g19) dX10_quarrel_259 (fun H locs hw => ?_)
      replace hw := xw_eq hz20 hw
      refine lv_iinc (v := y6 + 1) (lv' := [(6, .int (y6 + 1)), (0, .ref (X.2.2.1 17 (0))), (1, .int (x1)), (5, .int (y5))]) C.1 C.2.1 dX10_quarrel_260 hl (k := 3) rfl rfl (by decide) rfl (fun ls hl => ?_)
      refine lv_goto (tgt := 212) C.1 C.2.1 dX10_quarrel_263 (by decide) ?_
      exact ih y5 (y6 + 1) z20  hD _ _ hw _ (lv_sub hl [1, 2, 3, 0] rfl)
def B_X10_quarrel_103 (x1 : Int32) (x2 : Int32) (x3 : Int32) (x4 : Int32) (k103_ : Int32 → Int32 → XS → Option (Int32 × XS)) (y5 : Int32) (y6 : Int32) (z : XS) : Option (Int32 × XS) :=
  (if x3 < y6 then L_X10_quarrel_212 x1 x2 x3 x4  64 y5 (0 : Int32) z else (D_X10_heardAt x1 (0 : Int32) y6 z).bind fun q21 => ((D_X10_heardAt x1 (1 : Int32) y6 q21.2).bind fun q22 => (gd (inB q21.1 420) ((some (pA q22.2 18 3 q21.1.toNatClampNeg (0 : Int32))).bind fun z24 => (gd (inB q22.1 420) ((some (pA z24 18 3 q22.1.toNatClampNeg (0 : Int32))).bind fun z26 => ((D_X10_chosenFor x1 q21.1 (y6 + (1 : Int32)) z26).bind fun q27 => ((D_X10_chosenFor (x1 + (1 : Int32)) q22.1 (y6 + (1 : Int32)) q27.2).bind fun q28 => (gd (inB q21.1 420) ((some (pA q28.2 18 3 q21.1.toNatClampNeg q27.1)).bind fun z30 => (gd (inB q22.1 420) ((some (pA z30 18 3 q22.1.toNatClampNeg q28.1)).bind fun z32 => ((if x4 = 0 then k103_ q27.1 (y6 + 1) z32 else k103_ q28.1 (y6 + 1) z32))))))))))))))
def L_X10_quarrel_103 (x1 : Int32) (x2 : Int32) (x3 : Int32) (x4 : Int32) : Nat → Int32 → Int32 → XS → Option (Int32 × XS)
  | 0 => fun _ _ _ => none
  | n + 1 => B_X10_quarrel_103 x1 x2 x3 x4  (L_X10_quarrel_103 x1 x2 x3 x4  n)
set_option maxHeartbeats 4000000 in
set_option maxRecDepth 100000 in
theorem w_X10_quarrel_103 {p : Program} {l : Launch} {e : Env} {s : State} {m : MethodId} {below : List Frame} {meth : Method} {c : Code} {X : XC} {ex : va_W} (x1 : Int32) (x2 : Int32) (x3 : Int32) (x4 : Int32) (C : CallFix p m c cX10_quarrel 11 s (([.ref (X.2.2.1 17 (0)), .int (x1), .int (x2), .int (x3), .int (x4)] : List Value).toArray) gtbl RX10) (hr : meth.sig.returnType = (some .int)) (hk : meth.locks = false) (R0 : Int32 × XS)  : ∀ (n : Nat), ∀ (y5 : Int32) (y6 : Int32) (z : XS), L_X10_quarrel_103 x1 x2 x3 x4  n y5 y6 z = some R0 → ∀ (H : Heap) (locs : List Loc), xw X ex z s H locs → ∀ (ls : Array Slot), lv_has ls 11 [(0, .ref (X.2.2.1 17 (0))), (1, .int (x1)), (3, .int (x3)), (4, .int (x4)), (5, .int (y5)), (6, .int (y6))] → W p l e rm_X10_quarrel s m (([.ref (X.2.2.1 17 (0)), .int (x1), .int (x2), .int (x3), .int (x4)] : List Value).toArray) below meth c H locs 0 0 (MQ below (xQi X ex R0.2 R0.1) (([.ref (X.2.2.1 17 (0)), .int (x1), .int (x2), .int (x3), .int (x4)] : List Value).toArray) s 0 0 (xA X)) (F0 m 103 ls []) := by
  intro n
  induction n with
  | zero =>
    intro y5 y6 z  hD
    cases hD
  | succ n ih =>
    intro y5 y6 z  hD H locs hw ls hl
    replace hD : B_X10_quarrel_103 x1 x2 x3 x4  (L_X10_quarrel_103 x1 x2 x3 x4  n) y5 y6 z = some R0 := hD
    unfold B_X10_quarrel_103 at hD
    refine lv_iload C.1 C.2.1 dX10_quarrel_103 (lv_at hl 5 rfl) ?_
    refine lv_iload_n C.1 C.2.1 dX10_quarrel_105 rfl (lv_at hl 2 rfl) ?_
    refine lv_icmp_gt (tgt := 209) C.1 C.2.1 dX10_quarrel_106 (by decide) (fun c11 => ?_) (fun c11 => ?_)
    · replace hD := (if_pos c11).symm.trans hD
      refine lv_iconst (v := (0 : Int32)) C.1 C.2.1 dX10_quarrel_209 (by decide) ?_
      refine lv_istore (lv' := [(6, .int ((0 : Int32))), (0, .ref (X.2.2.1 17 (0))), (1, .int (x1)), (3, .int (x3)), (4, .int (x4)), (5, .int (y5))]) C.1 C.2.1 dX10_quarrel_210 hl (by decide) rfl (fun ls hl => ?_)
      exact w_X10_quarrel_212 x1 x2 x3 x4  C hr hk R0   64 y5 (0 : Int32) z  hD _ _ hw _ (lv_sub hl [1, 2, 5, 0] rfl)
    · replace hD := (if_neg c11).symm.trans hD
      refine lv_iload_n C.1 C.2.1 dX10_quarrel_109 rfl (lv_at hl 1 rfl) ?_
      refine lv_iconst (v := (0 : Int32)) C.1 C.2.1 dX10_quarrel_110 (by decide) ?_
      refine lv_iload C.1 C.2.1 dX10_quarrel_111 (lv_at hl 5 rfl) ?_
      obtain ⟨q21, hq21, hD⟩ := Option.bind_eq_some_iff.mp hD
      refine x_goi hw (x_runS (As := [.int (x1), .int ((0 : Int32)), .int (y6)]) (rest := []) C hw cS_X10_heardAt kw_633 (c_X10_heardAt l X ex x1 (0 : Int32) y6  z q21 hq21) ⟨Nat.le_of_ble_eq_true rfl, Nat.le_of_ble_eq_true rfl⟩ rfl hl.1 rfl (Nat.le_of_ble_eq_true rfl) dX10_quarrel_113 ⟨Nat.le_of_ble_eq_true rfl, Nat.le_of_ble_eq_true rfl⟩) (fun H locs hw => ?_)
      refine lv_istore (lv' := [(7, .int (q21.1)), (0, .ref (X.2.2.1 17 (0))), (1, .int (x1)), (3, .int (x3)), (4, .int (x4)), (5, .int (y5)), (6, .int (y6))]) C.1 C.2.1 dX10_quarrel_116 hl (by decide) rfl (fun ls hl => ?_)
      refine lv_iload_n C.1 C.2.1 dX10_quarrel_118 rfl (lv_at hl 2 rfl) ?_
      refine lv_iconst (v := (1 : Int32)) C.1 C.2.1 dX10_quarrel_119 (by decide) ?_
      refine lv_iload C.1 C.2.1 dX10_quarrel_120 (lv_at hl 6 rfl) ?_
      obtain ⟨q22, hq22, hD⟩ := Option.bind_eq_some_iff.mp hD
      refine x_goi hw (x_runS (As := [.int (x1), .int ((1 : Int32)), .int (y6)]) (rest := []) C hw cS_X10_heardAt kw_633 (c_X10_heardAt l X ex x1 (1 : Int32) y6  q21.2 q22 hq22) ⟨Nat.le_of_ble_eq_true rfl, Nat.le_of_ble_eq_true rfl⟩ rfl hl.1 rfl (Nat.le_of_ble_eq_true rfl) dX10_quarrel_122 ⟨Nat.le_of_ble_eq_true rfl, Nat.le_of_ble_eq_true rfl⟩) (fun H locs hw => ?_)
      refine lv_istore (lv' := [(8, .int (q22.1)), (7, .int (q21.1)), (0, .ref (X.2.2.1 17 (0))), (1, .int (x1)), (3, .int (x3)), (4, .int (x4)), (5, .int (y5)), (6, .int (y6))]) C.1 C.2.1 dX10_quarrel_125 hl (by decide) rfl (fun ls hl => ?_)
      refine lv_aload_n C.1 C.2.1 dX10_quarrel_127 rfl (lv_at hl 2 rfl) ?_
      refine gf_X10_5 C hw kw_575 dX10_quarrel_128 ?_
      refine lv_iload C.1 C.2.1 dX10_quarrel_131 (lv_at hl 1 rfl) ?_
      refine lv_iconst (v := (0 : Int32)) C.1 C.2.1 dX10_quarrel_133 (by decide) ?_
      obtain ⟨g23, hD⟩ := gd_some hD
      obtain ⟨z24, hz24, hD⟩ := Option.bind_eq_some_iff.mp hD
      refine x_iast (k := 18) (j := 3) C hw rfl (Nat.le_of_ble_eq_true rfl) (inB_in g23) dX10_quarrel_134 (fun H locs hw => ?_)
      replace hw := xw_eq hz24 hw
      refine lv_aload_n C.1 C.2.1 dX10_quarrel_135 rfl (lv_at hl 2 rfl) ?_
      refine gf_X10_5 C hw kw_575 dX10_quarrel_136 ?_
      refine lv_iload C.1 C.2.1 dX10_quarrel_139 (lv_at hl 0 rfl) ?_
      refine lv_iconst (v := (0 : Int32)) C.1 C.2.1 dX10_quarrel_141 (by decide) ?_
      obtain ⟨g25, hD⟩ := gd_some hD
      obtain ⟨z26, hz26, hD⟩ := Option.bind_eq_some_iff.mp hD
      refine x_iast (k := 18) (j := 3) C hw rfl (Nat.le_of_ble_eq_true rfl) (inB_in g25) dX10_quarrel_142 (fun H locs hw => ?_)
      replace hw := xw_eq hz26 hw
      refine lv_aload_n C.1 C.2.1 dX10_quarrel_143 rfl (lv_at hl 2 rfl) ?_
      refine lv_iload_n C.1 C.2.1 dX10_quarrel_144 rfl (lv_at hl 3 rfl) ?_
      refine lv_iload C.1 C.2.1 dX10_quarrel_145 (lv_at hl 1 rfl) ?_
      refine lv_iload C.1 C.2.1 dX10_quarrel_147 (lv_at hl 7 rfl) ?_
      refine lv_iconst (v := (1 : Int32)) C.1 C.2.1 dX10_quarrel_149 (by decide) ?_
      refine lv_iadd C.1 C.2.1 dX10_quarrel_150 ?_
      obtain ⟨q27, hq27, hD⟩ := Option.bind_eq_some_iff.mp hD
      refine x_goi hw (x_runV (As := [.int (x1), .int (q21.1), .int (y6 + (1 : Int32))]) (rest := []) (k := 17) (j := 0) C hw (Nat.le_of_ble_eq_true rfl) rfl rfl cV_X10_chosenFor kw_713 (c_X10_chosenFor l X ex x1 q21.1 (y6 + (1 : Int32))  z26 q27 hq27) ⟨Nat.le_of_ble_eq_true rfl, Nat.le_of_ble_eq_true rfl⟩ rfl hl.1 rfl (Nat.le_of_ble_eq_true rfl) dX10_quarrel_151 ⟨Nat.le_of_ble_eq_true rfl, Nat.le_of_ble_eq_true rfl⟩) (fun H locs hw => ?_)
      refine lv_istore (lv' := [(9, .int (q27.1)), (8, .int (q22.1)), (7, .int (q21.1)), (0, .ref (X.2.2.1 17 (0))), (1, .int (x1)), (3, .int (x3)), (4, .int (x4)), (5, .int (y5)), (6, .int (y6))]) C.1 C.2.1 dX10_quarrel_154 hl (by decide) rfl (fun ls hl => ?_)
      refine lv_aload_n C.1 C.2.1 dX10_quarrel_156 rfl (lv_at hl 3 rfl) ?_
      refine lv_iload_n C.1 C.2.1 dX10_quarrel_157 rfl (lv_at hl 4 rfl) ?_
      refine lv_iconst (v := (1 : Int32)) C.1 C.2.1 dX10_quarrel_158 (by decide) ?_
      refine lv_iadd C.1 C.2.1 dX10_quarrel_159 ?_
      refine lv_iload C.1 C.2.1 dX10_quarrel_160 (lv_at hl 1 rfl) ?_
      refine lv_iload C.1 C.2.1 dX10_quarrel_162 (lv_at hl 8 rfl) ?_
      refine lv_iconst (v := (1 : Int32)) C.1 C.2.1 dX10_quarrel_164 (by decide) ?_
      refine lv_iadd C.1 C.2.1 dX10_quarrel_165 ?_
      obtain ⟨q28, hq28, hD⟩ := Option.bind_eq_some_iff.mp hD
      refine x_goi hw (x_runV (As := [.int (x1 + (1 : Int32)), .int (q22.1), .int (y6 + (1 : Int32))]) (rest := []) (k := 17) (j := 0) C hw (Nat.le_of_ble_eq_true rfl) rfl rfl cV_X10_chosenFor kw_713 (c_X10_chosenFor l X ex (x1 + (1 : Int32)) q22.1 (y6 + (1 : Int32))  q27.2 q28 hq28) ⟨Nat.le_of_ble_eq_true rfl, Nat.le_of_ble_eq_true rfl⟩ rfl hl.1 rfl (Nat.le_of_ble_eq_true rfl) dX10_quarrel_166 ⟨Nat.le_of_ble_eq_true rfl, Nat.le_of_ble_eq_true rfl⟩) (fun H locs hw => ?_)
      refine lv_istore (lv' := [(10, .int (q28.1)), (9, .int (q27.1)), (8, .int (q22.1)), (7, .int (q21.1)), (0, .ref (X.2.2.1 17 (0))), (1, .int (x1)), (3, .int (x3)), (4, .int (x4)), (5, .int (y5)), (6, .int (y6))]) C.1 C.2.1 dX10_quarrel_169 hl (by decide) rfl (fun ls hl => ?_)
      refine lv_aload_n C.1 C.2.1 dX10_quarrel_171 rfl (lv_at hl 4 rfl) ?_
      refine gf_X10_5 C hw kw_575 dX10_quarrel_172 ?_
      refine lv_iload C.1 C.2.1 dX10_quarrel_175 (lv_at hl 3 rfl) ?_
      refine lv_iload C.1 C.2.1 dX10_quarrel_177 (lv_at hl 1 rfl) ?_
      obtain ⟨g29, hD⟩ := gd_some hD
      obtain ⟨z30, hz30, hD⟩ := Option.bind_eq_some_iff.mp hD
      refine x_iast (k := 18) (j := 3) C hw rfl (Nat.le_of_ble_eq_true rfl) (inB_in g29) dX10_quarrel_179 (fun H locs hw => ?_)
      replace hw := xw_eq hz30 hw
      refine lv_aload_n C.1 C.2.1 dX10_quarrel_180 rfl (lv_at hl 4 rfl) ?_
      refine gf_X10_5 C hw kw_575 dX10_quarrel_181 ?_
      refine lv_iload C.1 C.2.1 dX10_quarrel_184 (lv_at hl 2 rfl) ?_
      refine lv_iload C.1 C.2.1 dX10_quarrel_186 (lv_at hl 0 rfl) ?_
      obtain ⟨g31, hD⟩ := gd_some hD
      obtain ⟨z32, hz32, hD⟩ := Option.bind_eq_some_iff.mp hD
      refine x_iast (k := 18) (j := 3) C hw rfl (Nat.le_of_ble_eq_true rfl) (inB_in g31) dX10_quarrel_188 (fun H locs hw => ?_)
      replace hw := xw_eq hz32 hw
      refine lv_iload C.1 C.2.1 dX10_quarrel_189 (lv_at hl 7 rfl) ?_
      refine lv_if_ne (tgt := 199) C.1 C.2.1 dX10_quarrel_191 (by decide) (fun c33 => ?_) (fun c33 => ?_)
      · replace hD := (if_neg c33).symm.trans hD
        refine lv_iload C.1 C.2.1 dX10_quarrel_199 (lv_at hl 0 rfl) ?_
        refine lv_istore (lv' := [(5, .int (q28.1)), (10, .int (q28.1)), (9, .int (q27.1)), (8, .int (q22.1)), (7, .int (q21.1)), (0, .ref (X.2.2.1 17 (0))), (1, .int (x1)), (3, .int (x3)), (4, .int (x4)), (6, .int (y6))]) C.1 C.2.1 dX10_quarrel_201 hl (by decide) rfl (fun ls hl => ?_)
        refine lv_iinc (v := y6 + 1) (lv' := [(6, .int (y6 + 1)), (5, .int (q28.1)), (10, .int (q28.1)), (9, .int (q27.1)), (8, .int (q22.1)), (7, .int (q21.1)), (0, .ref (X.2.2.1 17 (0))), (1, .int (x1)), (3, .int (x3)), (4, .int (x4))]) C.1 C.2.1 dX10_quarrel_203 hl (k := 9) rfl rfl (by decide) rfl (fun ls hl => ?_)
        refine lv_goto (tgt := 103) C.1 C.2.1 dX10_quarrel_206 (by decide) ?_
        exact ih q28.1 (y6 + 1) z32  hD _ _ hw _ (lv_sub hl [6, 7, 8, 9, 1, 0] rfl)
      · replace hD := (if_pos c33).symm.trans hD
        refine lv_iload C.1 C.2.1 dX10_quarrel_194 (lv_at hl 1 rfl) ?_
        refine lv_goto (tgt := 201) C.1 C.2.1 dX10_quarrel_196 (by decide) ?_
        refine lv_istore (lv' := [(5, .int (q27.1)), (10, .int (q28.1)), (9, .int (q27.1)), (8, .int (q22.1)), (7, .int (q21.1)), (0, .ref (X.2.2.1 17 (0))), (1, .int (x1)), (3, .int (x3)), (4, .int (x4)), (6, .int (y6))]) C.1 C.2.1 dX10_quarrel_201 hl (by decide) rfl (fun ls hl => ?_)
        refine lv_iinc (v := y6 + 1) (lv' := [(6, .int (y6 + 1)), (5, .int (q27.1)), (10, .int (q28.1)), (9, .int (q27.1)), (8, .int (q22.1)), (7, .int (q21.1)), (0, .ref (X.2.2.1 17 (0))), (1, .int (x1)), (3, .int (x3)), (4, .int (x4))]) C.1 C.2.1 dX10_quarrel_203 hl (k := 9) rfl rfl (by decide) rfl (fun ls hl => ?_)
        refine lv_goto (tgt := 103) C.1 C.2.1 dX10_quarrel_206 (by decide) ?_
        exact ih q27.1 (y6 + 1) z32  hD _ _ hw _ (lv_sub hl [6, 7, 8, 9, 1, 0] rfl)
def B_X10_quarrel_43 (x1 : Int32) (x2 : Int32) (x3 : Int32) (x4 : Int32) (k43_ : Int32 → XS → Option (Int32 × XS)) (y5 : Int32) (z : XS) : Option (Int32 × XS) :=
  (if (30 : Int32) ≤ y5 then L_X10_quarrel_103 x1 x2 x3 x4  64 (0 : Int32) x2 z else (D_X10_heardAt x1 (0 : Int32) y5 z).bind fun q34 => (gd (inB q34.1 420) (gd (inB y5 60) ((some (pA q34.2 18 12 y5.toNatClampNeg (gA q34.2 18 3 q34.1.toNatClampNeg))).bind fun z37 => ((D_X10_heardAt x1 (1 : Int32) y5 z37).bind fun q38 => (gd (inB q38.1 420) (gd (inB ((30 : Int32) + y5) 60) ((some (pA q38.2 18 12 ((30 : Int32) + y5).toNatClampNeg (gA q38.2 18 3 q38.1.toNatClampNeg))).bind fun z41 => (k43_ (y5 + 1) z41)))))))))
def L_X10_quarrel_43 (x1 : Int32) (x2 : Int32) (x3 : Int32) (x4 : Int32) : Nat → Int32 → XS → Option (Int32 × XS)
  | 0 => fun _ _ => none
  | n + 1 => B_X10_quarrel_43 x1 x2 x3 x4  (L_X10_quarrel_43 x1 x2 x3 x4  n)
set_option maxHeartbeats 4000000 in
set_option maxRecDepth 100000 in
theorem w_X10_quarrel_43 {p : Program} {l : Launch} {e : Env} {s : State} {m : MethodId} {below : List Frame} {meth : Method} {c : Code} {X : XC} {ex : va_W} (x1 : Int32) (x2 : Int32) (x3 : Int32) (x4 : Int32) (C : CallFix p m c cX10_quarrel 11 s (([.ref (X.2.2.1 17 (0)), .int (x1), .int (x2), .int (x3), .int (x4)] : List Value).toArray) gtbl RX10) (hr : meth.sig.returnType = (some .int)) (hk : meth.locks = false) (R0 : Int32 × XS)  : ∀ (n : Nat), ∀ (y5 : Int32) (z : XS), L_X10_quarrel_43 x1 x2 x3 x4  n y5 z = some R0 → ∀ (H : Heap) (locs : List Loc), xw X ex z s H locs → ∀ (ls : Array Slot), lv_has ls 11 [(0, .ref (X.2.2.1 17 (0))), (1, .int (x1)), (2, .int (x2)), (3, .int (x3)), (4, .int (x4)), (5, .int (y5))] → W p l e rm_X10_quarrel s m (([.ref (X.2.2.1 17 (0)), .int (x1), .int (x2), .int (x3), .int (x4)] : List Value).toArray) below meth c H locs 0 0 (MQ below (xQi X ex R0.2 R0.1) (([.ref (X.2.2.1 17 (0)), .int (x1), .int (x2), .int (x3), .int (x4)] : List Value).toArray) s 0 0 (xA X)) (F0 m 43 ls []) := by
  intro n
  induction n with
  | zero =>
    intro y5 z  hD
    cases hD
  | succ n ih =>
    intro y5 z  hD H locs hw ls hl
    replace hD : B_X10_quarrel_43 x1 x2 x3 x4  (L_X10_quarrel_43 x1 x2 x3 x4  n) y5 z = some R0 := hD
    unfold B_X10_quarrel_43 at hD
    refine lv_iload C.1 C.2.1 dX10_quarrel_43 (lv_at hl 5 rfl) ?_
    refine lv_bipush (v := (30 : Int32)) C.1 C.2.1 dX10_quarrel_45 (by decide) ?_
    refine lv_icmp_ge (tgt := 97) C.1 C.2.1 dX10_quarrel_47 (by decide) (fun c10 => ?_) (fun c10 => ?_)
    · replace hD := (if_pos c10).symm.trans hD
      refine lv_iconst (v := (0 : Int32)) C.1 C.2.1 dX10_quarrel_97 (by decide) ?_
      refine lv_istore (lv' := [(5, .int ((0 : Int32))), (0, .ref (X.2.2.1 17 (0))), (1, .int (x1)), (2, .int (x2)), (3, .int (x3)), (4, .int (x4))]) C.1 C.2.1 dX10_quarrel_98 hl (by decide) rfl (fun ls hl => ?_)
      refine lv_iload_n C.1 C.2.1 dX10_quarrel_100 rfl (lv_at hl 3 rfl) ?_
      refine lv_istore (lv' := [(6, .int (x2)), (5, .int ((0 : Int32))), (0, .ref (X.2.2.1 17 (0))), (1, .int (x1)), (2, .int (x2)), (3, .int (x3)), (4, .int (x4))]) C.1 C.2.1 dX10_quarrel_101 hl (by decide) rfl (fun ls hl => ?_)
      exact w_X10_quarrel_103 x1 x2 x3 x4  C hr hk R0   64 (0 : Int32) x2 z  hD _ _ hw _ (lv_sub hl [2, 3, 5, 6, 1, 0] rfl)
    · replace hD := (if_neg c10).symm.trans hD
      refine lv_aload_n C.1 C.2.1 dX10_quarrel_50 rfl (lv_at hl 0 rfl) ?_
      refine gf_X10_17 C hw kw_706 dX10_quarrel_51 ?_
      refine lv_iload C.1 C.2.1 dX10_quarrel_54 (lv_at hl 5 rfl) ?_
      refine lv_aload_n C.1 C.2.1 dX10_quarrel_56 rfl (lv_at hl 0 rfl) ?_
      refine gf_X10_5 C hw kw_575 dX10_quarrel_57 ?_
      refine lv_iload_n C.1 C.2.1 dX10_quarrel_60 rfl (lv_at hl 1 rfl) ?_
      refine lv_iconst (v := (0 : Int32)) C.1 C.2.1 dX10_quarrel_61 (by decide) ?_
      refine lv_iload C.1 C.2.1 dX10_quarrel_62 (lv_at hl 5 rfl) ?_
      obtain ⟨q34, hq34, hD⟩ := Option.bind_eq_some_iff.mp hD
      refine x_goi hw (x_runS (As := [.int (x1), .int ((0 : Int32)), .int (y5)]) (rest := [.ref (X.2.2.1 18 (3)), .int (y5), .ref (X.2.2.1 18 (12))]) C hw cS_X10_heardAt kw_633 (c_X10_heardAt l X ex x1 (0 : Int32) y5  z q34 hq34) ⟨Nat.le_of_ble_eq_true rfl, Nat.le_of_ble_eq_true rfl⟩ rfl hl.1 rfl (Nat.le_of_ble_eq_true rfl) dX10_quarrel_64 ⟨Nat.le_of_ble_eq_true rfl, Nat.le_of_ble_eq_true rfl⟩) (fun H locs hw => ?_)
      obtain ⟨g35, hD⟩ := gd_some hD
      refine x_iald (k := 18) (j := 3) C hw rfl (Nat.le_of_ble_eq_true rfl) (inB_in g35) dX10_quarrel_67 ?_
      obtain ⟨g36, hD⟩ := gd_some hD
      obtain ⟨z37, hz37, hD⟩ := Option.bind_eq_some_iff.mp hD
      refine x_iast (k := 18) (j := 12) C hw rfl (Nat.le_of_ble_eq_true rfl) (inB_in g36) dX10_quarrel_68 (fun H locs hw => ?_)
      replace hw := xw_eq hz37 hw
      refine lv_aload_n C.1 C.2.1 dX10_quarrel_69 rfl (lv_at hl 0 rfl) ?_
      refine gf_X10_17 C hw kw_706 dX10_quarrel_70 ?_
      refine lv_bipush (v := (30 : Int32)) C.1 C.2.1 dX10_quarrel_73 (by decide) ?_
      refine lv_iload C.1 C.2.1 dX10_quarrel_75 (lv_at hl 5 rfl) ?_
      refine lv_iadd C.1 C.2.1 dX10_quarrel_77 ?_
      refine lv_aload_n C.1 C.2.1 dX10_quarrel_78 rfl (lv_at hl 0 rfl) ?_
      refine gf_X10_5 C hw kw_575 dX10_quarrel_79 ?_
      refine lv_iload_n C.1 C.2.1 dX10_quarrel_82 rfl (lv_at hl 1 rfl) ?_
      refine lv_iconst (v := (1 : Int32)) C.1 C.2.1 dX10_quarrel_83 (by decide) ?_
      refine lv_iload C.1 C.2.1 dX10_quarrel_84 (lv_at hl 5 rfl) ?_
      obtain ⟨q38, hq38, hD⟩ := Option.bind_eq_some_iff.mp hD
      refine x_goi hw (x_runS (As := [.int (x1), .int ((1 : Int32)), .int (y5)]) (rest := [.ref (X.2.2.1 18 (3)), .int ((30 : Int32) + y5), .ref (X.2.2.1 18 (12))]) C hw cS_X10_heardAt kw_633 (c_X10_heardAt l X ex x1 (1 : Int32) y5  z37 q38 hq38) ⟨Nat.le_of_ble_eq_true rfl, Nat.le_of_ble_eq_true rfl⟩ rfl hl.1 rfl (Nat.le_of_ble_eq_true rfl) dX10_quarrel_86 ⟨Nat.le_of_ble_eq_true rfl, Nat.le_of_ble_eq_true rfl⟩) (fun H locs hw => ?_)
      obtain ⟨g39, hD⟩ := gd_some hD
      refine x_iald (k := 18) (j := 3) C hw rfl (Nat.le_of_ble_eq_true rfl) (inB_in g39) dX10_quarrel_89 ?_
      obtain ⟨g40, hD⟩ := gd_some hD
      obtain ⟨z41, hz41, hD⟩ := Option.bind_eq_some_iff.mp hD
      refine x_iast (k := 18) (j := 12) C hw rfl (Nat.le_of_ble_eq_true rfl) (inB_in g40) dX10_quarrel_90 (fun H locs hw => ?_)
      replace hw := xw_eq hz41 hw
      refine lv_iinc (v := y5 + 1) (lv' := [(5, .int (y5 + 1)), (0, .ref (X.2.2.1 17 (0))), (1, .int (x1)), (2, .int (x2)), (3, .int (x3)), (4, .int (x4))]) C.1 C.2.1 dX10_quarrel_91 hl (k := 5) rfl rfl (by decide) rfl (fun ls hl => ?_)
      refine lv_goto (tgt := 43) C.1 C.2.1 dX10_quarrel_94 (by decide) ?_
      exact ih (y5 + 1) z41  hD _ _ hw _ (lv_sub hl [1, 2, 3, 4, 5, 0] rfl)
def D_X10_quarrel (x1 : Int32) (x2 : Int32) (x3 : Int32) (x4 : Int32) (z : XS) : Option (Int32 × XS) :=
  (D_X10_noHedge x1 z).bind fun q1 => ((if q1.1 = 0 then (D_X10_isDay x2 q1.2).bind fun q3 => ((if q3.1 = 0 then some ((-2 : Int32), q3.2) else (D_X10_isDay x3 q3.2).bind fun q5 => ((if q5.1 = 0 then some ((-2 : Int32), q5.2) else (if x3 < x2 then some ((-2 : Int32), q5.2) else (D_X10_isSide x4 q5.2).bind fun q8 => ((if q8.1 = 0 then some ((-2 : Int32), q8.2) else L_X10_quarrel_43 x1 x2 x3 x4  64 (0 : Int32) q8.2))))))) else some ((-1 : Int32), q1.2)))
set_option maxHeartbeats 4000000 in
set_option maxRecDepth 100000 in
theorem c_X10_quarrel (l : Launch) (X : XC) (ex : va_W) (x1 : Int32) (x2 : Int32) (x3 : Int32) (x4 : Int32) (z : XS) (R0 : Int32 × XS) (hD : D_X10_quarrel x1 x2 x3 x4 z = some R0) : xM l X ex yX10_quarrel cX10_quarrel 11 (some .int) rm_X10_quarrel [.ref (X.2.2.1 17 (0)), .int (x1), .int (x2), .int (x3), .int (x4)] z (xQi X ex R0.2 R0.1) := by
  refine x_ent (by decide) (Nat.le_of_ble_eq_true rfl) ?_
  intro p e s m below meth c ls C hr hk hw hl
  replace hl : lv_has ls 11 [(0, .ref (X.2.2.1 17 (0))), (1, .int (x1)), (2, .int (x2)), (3, .int (x3)), (4, .int (x4))] := hl
  unfold D_X10_quarrel at hD
  refine lv_aload_n C.1 C.2.1 dX10_quarrel_0 rfl (lv_at hl 0 rfl) ?_
  refine lv_iload_n C.1 C.2.1 dX10_quarrel_1 rfl (lv_at hl 1 rfl) ?_
  obtain ⟨q1, hq1, hD⟩ := Option.bind_eq_some_iff.mp hD
  refine x_goi hw (x_runV (As := [.int (x1)]) (rest := []) (k := 17) (j := 0) C hw (Nat.le_of_ble_eq_true rfl) rfl rfl cV_X10_noHedge kw_602 (c_X10_noHedge l X ex x1  z q1 hq1) ⟨Nat.le_of_ble_eq_true rfl, Nat.le_of_ble_eq_true rfl⟩ rfl hl.1 rfl (Nat.le_of_ble_eq_true rfl) dX10_quarrel_2 ⟨Nat.le_of_ble_eq_true rfl, Nat.le_of_ble_eq_true rfl⟩) (fun H locs hw => ?_)
  refine lv_if_eq (tgt := 10) C.1 C.2.1 dX10_quarrel_5 (by decide) (fun c2 => ?_) (fun c2 => ?_)
  · replace hD := (if_pos c2).symm.trans hD
    refine lv_iload_n C.1 C.2.1 dX10_quarrel_10 rfl (lv_at hl 2 rfl) ?_
    obtain ⟨q3, hq3, hD⟩ := Option.bind_eq_some_iff.mp hD
    refine x_goi hw (x_runS (As := [.int (x2)]) (rest := []) C hw cS_X10_isDay kw_612 (c_X10_isDay l X ex x2  q1.2 q3 hq3) ⟨Nat.le_of_ble_eq_true rfl, Nat.le_of_ble_eq_true rfl⟩ rfl hl.1 rfl (Nat.le_of_ble_eq_true rfl) dX10_quarrel_11 ⟨Nat.le_of_ble_eq_true rfl, Nat.le_of_ble_eq_true rfl⟩) (fun H locs hw => ?_)
    refine lv_if_eq (tgt := 37) C.1 C.2.1 dX10_quarrel_14 (by decide) (fun c4 => ?_) (fun c4 => ?_)
    · replace hD := (if_pos c4).symm.trans hD
      refine lv_bipush (v := (-2 : Int32)) C.1 C.2.1 dX10_quarrel_37 (by decide) ?_
      obtain rfl := Option.some.inj hD
      exact x_iret C hw hr hk dX10_quarrel_39
    · replace hD := (if_neg c4).symm.trans hD
      refine lv_iload_n C.1 C.2.1 dX10_quarrel_17 rfl (lv_at hl 3 rfl) ?_
      obtain ⟨q5, hq5, hD⟩ := Option.bind_eq_some_iff.mp hD
      refine x_goi hw (x_runS (As := [.int (x3)]) (rest := []) C hw cS_X10_isDay kw_612 (c_X10_isDay l X ex x3  q3.2 q5 hq5) ⟨Nat.le_of_ble_eq_true rfl, Nat.le_of_ble_eq_true rfl⟩ rfl hl.1 rfl (Nat.le_of_ble_eq_true rfl) dX10_quarrel_18 ⟨Nat.le_of_ble_eq_true rfl, Nat.le_of_ble_eq_true rfl⟩) (fun H locs hw => ?_)
      refine lv_if_eq (tgt := 37) C.1 C.2.1 dX10_quarrel_21 (by decide) (fun c6 => ?_) (fun c6 => ?_)
      · replace hD := (if_pos c6).symm.trans hD
        refine lv_bipush (v := (-2 : Int32)) C.1 C.2.1 dX10_quarrel_37 (by decide) ?_
        obtain rfl := Option.some.inj hD
        exact x_iret C hw hr hk dX10_quarrel_39
      · replace hD := (if_neg c6).symm.trans hD
        refine lv_iload_n C.1 C.2.1 dX10_quarrel_24 rfl (lv_at hl 3 rfl) ?_
        refine lv_iload_n C.1 C.2.1 dX10_quarrel_25 rfl (lv_at hl 2 rfl) ?_
        refine lv_icmp_lt (tgt := 37) C.1 C.2.1 dX10_quarrel_26 (by decide) (fun c7 => ?_) (fun c7 => ?_)
        · replace hD := (if_pos c7).symm.trans hD
          refine lv_bipush (v := (-2 : Int32)) C.1 C.2.1 dX10_quarrel_37 (by decide) ?_
          obtain rfl := Option.some.inj hD
          exact x_iret C hw hr hk dX10_quarrel_39
        · replace hD := (if_neg c7).symm.trans hD
          refine lv_iload C.1 C.2.1 dX10_quarrel_29 (lv_at hl 4 rfl) ?_
          obtain ⟨q8, hq8, hD⟩ := Option.bind_eq_some_iff.mp hD
          refine x_goi hw (x_runS (As := [.int (x4)]) (rest := []) C hw cS_X10_isSide kw_607 (c_X10_isSide l X ex x4  q5.2 q8 hq8) ⟨Nat.le_of_ble_eq_true rfl, Nat.le_of_ble_eq_true rfl⟩ rfl hl.1 rfl (Nat.le_of_ble_eq_true rfl) dX10_quarrel_31 ⟨Nat.le_of_ble_eq_true rfl, Nat.le_of_ble_eq_true rfl⟩) (fun H locs hw => ?_)
          refine lv_if_ne (tgt := 40) C.1 C.2.1 dX10_quarrel_34 (by decide) (fun c9 => ?_) (fun c9 => ?_)
          · replace hD := (if_neg c9).symm.trans hD
            refine lv_iconst (v := (0 : Int32)) C.1 C.2.1 dX10_quarrel_40 (by decide) ?_
            refine lv_istore (lv' := [(5, .int ((0 : Int32))), (0, .ref (X.2.2.1 17 (0))), (1, .int (x1)), (2, .int (x2)), (3, .int (x3)), (4, .int (x4))]) C.1 C.2.1 dX10_quarrel_41 hl (by decide) rfl (fun ls hl => ?_)
            exact w_X10_quarrel_43 x1 x2 x3 x4  C hr hk R0   64 (0 : Int32) q8.2  hD _ _ hw _ (lv_sub hl [1, 2, 3, 4, 5, 0] rfl)
          · replace hD := (if_pos c9).symm.trans hD
            refine lv_bipush (v := (-2 : Int32)) C.1 C.2.1 dX10_quarrel_37 (by decide) ?_
            obtain rfl := Option.some.inj hD
            exact x_iret C hw hr hk dX10_quarrel_39
  · replace hD := (if_neg c2).symm.trans hD
    refine lv_iconst (v := (-1 : Int32)) C.1 C.2.1 dX10_quarrel_8 (by decide) ?_
    obtain rfl := Option.some.inj hD
    exact x_iret C hw hr hk dX10_quarrel_9
