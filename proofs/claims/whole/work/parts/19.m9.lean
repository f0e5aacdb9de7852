theorem kw_742 : Cond.code yX10_noCell cX10_noCell 3 (some .int) ∈ gtbl := gm4 186 rfl rfl
theorem nd_X10_noCell : (yX10_noCell).cls ≠ "java/lang/invoke/MethodHandle" ∧ (yX10_noCell).cls ≠ "java/lang/invoke/VarHandle" ∧ (parseMethodDescriptor (yX10_noCell).desc).map (fun d => d.parameters.length) = some 2 := by decide +kernel
theorem kw_744 : Cond.instanceMethod yX10_noCell ∈ gtbl := gm4 185 rfl rfl
theorem kw_745 : Cond.selects RX10 yX10_noCell yX10_noCell ∈ gtbl := gm0 27 rfl rfl
theorem cV_X10_noCell : xcV yX10_noCell cX10_noCell 3 (some .int) 2 := ⟨⟨kw_742, kw_490, nd_X10_noCell⟩, kw_744, kw_745⟩
theorem kw_747 : Cond.methodLink RX10 215 yX10_noCell ∈ gtbl := gm4 183 rfl rfl
abbrev rm_X10_put : Room := { frames := 2, cells := 0, slots := 0, locals := 47 }
def D_X10_put (x1 : Int32) (x2 : Int32) (x3 : Int32) (z : XS) : Option (Int32 × XS) :=
  (D_X10_noSheet x1 z).bind fun q1 => ((if q1.1 = 0 then (D_X10_noCell x1 x2 q1.2).bind fun q3 => ((if q3.1 ≤ 0 then gd (inB x1 4) ((if gA q3.2 18 14 x1.toNatClampNeg = 0 then gd (inB (((60 : Int32) * x1) + x2) 240) ((some (pA q3.2 18 15 (((60 : Int32) * x1) + x2).toNatClampNeg x3.toInt8.toInt32)).bind fun z16 => ((D_X10_refused (1 : Int32) z16).bind fun q17 => (some (q17.1, q17.2)))) else gd (inB x1 4) ((if gA q3.2 18 14 x1.toNatClampNeg = (1 : Int32) then gd (inB (((60 : Int32) * x1) + x2) 240) ((some (pA q3.2 18 15 (((60 : Int32) * x1) + x2).toNatClampNeg x3.toInt16.toInt32)).bind fun z13 => ((D_X10_refused (1 : Int32) z13).bind fun q14 => (some (q14.1, q14.2)))) else gd (inB (((60 : Int32) * x1) + x2) 240) ((some (pA q3.2 18 15 (((60 : Int32) * x1) + x2).toNatClampNeg x3)).bind fun z10 => ((D_X10_refused (1 : Int32) z10).bind fun q11 => (some (q11.1, q11.2)))))))) else (D_X10_noCell x1 x2 q3.2).bind fun q18 => ((D_X10_failed q18.1 q18.2).bind fun q19 => (some (q19.1, q19.2))))) else (D_X10_refused (-1 : Int32) q1.2).bind fun q20 => (some (q20.1, q20.2))))
set_option maxHeartbeats 4000000 in
set_option maxRecDepth 100000 in
theorem c_X10_put (l : Launch) (X : XC) (ex : va_W) (x1 : Int32) (x2 : Int32) (x3 : Int32) (z : XS) (R0 : Int32 × XS) (hD : D_X10_put x1 x2 x3 z = some R0) : xM l X ex yX10_put cX10_put 4 (some .int) rm_X10_put [.ref (X.2.2.1 17 (0)), .int (x1), .int (x2), .int (x3)] z (xQi X ex R0.2 R0.1) := by
  refine x_ent (by decide) (Nat.le_of_ble_eq_true rfl) ?_
  intro p e s m below meth c ls C hr hk hw hl
  replace hl : lv_has ls 4 [(0, .ref (X.2.2.1 17 (0))), (1, .int (x1)), (2, .int (x2)), (3, .int (x3))] := hl
  unfold D_X10_put at hD
  refine lv_iload_n C.1 C.2.1 dX10_put_0 rfl (lv_at hl 1 rfl) ?_
  obtain ⟨q1, hq1, hD⟩ := Option.bind_eq_some_iff.mp hD
  refine x_goi hw (x_runS (As := [.int (x1)]) (rest := []) C hw cS_X10_noSheet kw_549 (c_X10_noSheet l X ex x1  z q1 hq1) ⟨Nat.le_of_ble_eq_true rfl, Nat.le_of_ble_eq_true rfl⟩ rfl hl.1 rfl (Nat.le_of_ble_eq_true rfl) dX10_put_1 ⟨Nat.le_of_ble_eq_true rfl, Nat.le_of_ble_eq_true rfl⟩) (fun H locs hw => ?_)
  refine lv_if_eq (tgt := 13) C.1 C.2.1 dX10_put_4 (by decide) (fun c2 => ?_) (fun c2 => ?_)
  · replace hD := (if_pos c2).symm.trans hD
    refine lv_aload_n C.1 C.2.1 dX10_put_13 rfl (lv_at hl 0 rfl) ?_
    refine lv_iload_n C.1 C.2.1 dX10_put_14 rfl (lv_at hl 1 rfl) ?_
    refine lv_iload_n C.1 C.2.1 dX10_put_15 rfl (lv_at hl 2 rfl) ?_
    obtain ⟨q3, hq3, hD⟩ := Option.bind_eq_some_iff.mp hD
    refine x_goi hw (x_runV (As := [.int (x1), .int (x2)]) (rest := []) (k := 17) (j := 0) C hw (Nat.le_of_ble_eq_true rfl) rfl rfl cV_X10_noCell kw_747 (c_X10_noCell l X ex x1 x2  q1.2 q3 hq3) ⟨Nat.le_of_ble_eq_true rfl, Nat.le_of_ble_eq_true rfl⟩ rfl hl.1 rfl (Nat.le_of_ble_eq_true rfl) dX10_put_16 ⟨Nat.le_of_ble_eq_true rfl, Nat.le_of_ble_eq_true rfl⟩) (fun H locs hw => ?_)
    refine lv_if_le (tgt := 33) C.1 C.2.1 dX10_put_19 (by decide) (fun c4 => ?_) (fun c4 => ?_)
    · replace hD := (if_pos c4).symm.trans hD
      refine lv_aload_n C.1 C.2.1 dX10_put_33 rfl (lv_at hl 0 rfl) ?_
      refine gf_X10_20 C hw kw_513 dX10_put_34 ?_
      refine lv_bipush (v := (60 : Int32)) C.1 C.2.1 dX10_put_37 (by decide) ?_
      refine lv_iload_n C.1 C.2.1 dX10_put_39 rfl (lv_at hl 1 rfl) ?_
      refine lv_imul C.1 C.2.1 dX10_put_40 ?_
      refine lv_iload_n C.1 C.2.1 dX10_put_41 rfl (lv_at hl 2 rfl) ?_
      refine lv_iadd C.1 C.2.1 dX10_put_42 ?_
      refine lv_aload_n C.1 C.2.1 dX10_put_43 rfl (lv_at hl 0 rfl) ?_
      refine gf_X10_19 C hw kw_589 dX10_put_44 ?_
      refine lv_iload_n C.1 C.2.1 dX10_put_47 rfl (lv_at hl 1 rfl) ?_
      obtain ⟨g5, hD⟩ := gd_some hD
      refine x_iald (k := 18) (j := 14) C hw rfl (Nat.le_of_ble_eq_true rfl) (inB_in g5) dX10_put_48 ?_
      refine lv_if_ne (tgt := 57) C.1 C.2.1 dX10_put_49 (by decide) (fun c6 => ?_) (fun c6 => ?_)
      · replace hD := (if_neg c6).symm.trans hD
        refine lv_aload_n C.1 C.2.1 dX10_put_57 rfl (lv_at hl 0 rfl) ?_
        refine gf_X10_19 C hw kw_589 dX10_put_58 ?_
        refine lv_iload_n C.1 C.2.1 dX10_put_61 rfl (lv_at hl 1 rfl) ?_
        obtain ⟨g7, hD⟩ := gd_some hD
        refine x_iald (k := 18) (j := 14) C hw rfl (Nat.le_of_ble_eq_true rfl) (inB_in g7) dX10_put_62 ?_
        refine lv_iconst (v := (1 : Int32)) C.1 C.2.1 dX10_put_63 (by decide) ?_
        refine lv_icmp_ne (tgt := 72) C.1 C.2.1 dX10_put_64 (by decide) (fun c8 => ?_) (fun c8 => ?_)
        · replace hD := (if_neg c8).symm.trans hD
          refine lv_iload_n C.1 C.2.1 dX10_put_72 rfl (lv_at hl 3 rfl) ?_
          obtain ⟨g9, hD⟩ := gd_some hD
          obtain ⟨z10, hz10, hD⟩ := Option.bind_eq_some_iff.mp hD
          refine x_iast (k := 18) (j := 15) C hw rfl (Nat.le_of_ble_eq_true rfl) (inB_in g9) dX10_put_73 (fun H locs hw => ?_)
          replace hw := xw_eq hz10 hw
          refine lv_aload_n C.1 C.2.1 dX10_put_74 rfl (lv_at hl 0 rfl) ?_
          refine lv_iconst (v := (1 : Int32)) C.1 C.2.1 dX10_put_75 (by decide) ?_
          obtain ⟨q11, hq11, hD⟩ := Option.bind_eq_some_iff.mp hD
          refine x_goi hw (x_runV (As := [.int ((1 : Int32))]) (rest := []) (k := 17) (j := 0) C hw (Nat.le_of_ble_eq_true rfl) rfl rfl cV_X10_refused kw_572 (c_X10_refused l X ex (1 : Int32)  z10 q11 hq11) ⟨Nat.le_of_ble_eq_true rfl, Nat.le_of_ble_eq_true rfl⟩ rfl hl.1 rfl (Nat.le_of_ble_eq_true rfl) dX10_put_76 ⟨Nat.le_of_ble_eq_true rfl, Nat.le_of_ble_eq_true rfl⟩) (fun H locs hw => ?_)
          obtain rfl := Option.some.inj hD
          exact x_iret C hw hr hk dX10_put_79
        · replace hD := (if_pos c8).symm.trans hD
          refine lv_iload_n C.1 C.2.1 dX10_put_67 rfl (lv_at hl 3 rfl) ?_
          refine lv_i2s C.1 C.2.1 dX10_put_68 rfl ?_
          refine lv_goto (tgt := 73) C.1 C.2.1 dX10_put_69 (by decide) ?_
          obtain ⟨g12, hD⟩ := gd_some hD
          obtain ⟨z13, hz13, hD⟩ := Option.bind_eq_some_iff.mp hD
          refine x_iast (k := 18) (j := 15) C hw rfl (Nat.le_of_ble_eq_true rfl) (inB_in g12) dX10_put_73 (fun H locs hw => ?_)
          replace hw := xw_eq hz13 hw
          refine lv_aload_n C.1 C.2.1 dX10_put_74 rfl (lv_at hl 0 rfl) ?_
          refine lv_iconst (v := (1 : Int32)) C.1 C.2.1 dX10_put_75 (by decide) ?_
          obtain ⟨q14, hq14, hD⟩ := Option.bind_eq_some_iff.mp hD
          refine x_goi hw (x_runV (As := [.int ((1 : Int32))]) (rest := []) (k := 17) (j := 0) C hw (Nat.le_of_ble_eq_true rfl) rfl rfl cV_X10_refused kw_572 (c_X10_refused l X ex (1 : Int32)  z13 q14 hq14) ⟨Nat.le_of_ble_eq_true rfl, Nat.le_of_ble_eq_true rfl⟩ rfl hl.1 rfl (Nat.le_of_ble_eq_true rfl) dX10_put_76 ⟨Nat.le_of_ble_eq_true rfl, Nat.le_of_ble_eq_true rfl⟩) (fun H locs hw => ?_)
          obtain rfl := Option.some.inj hD
          exact x_iret C hw hr hk dX10_put_79
      · replace hD := (if_pos c6).symm.trans hD
        refine lv_iload_n C.1 C.2.1 dX10_put_52 rfl (lv_at hl 3 rfl) ?_
        refine lv_i2b C.1 C.2.1 dX10_put_53 rfl ?_
        refine lv_goto (tgt := 73) C.1 C.2.1 dX10_put_54 (by decide) ?_
        obtain ⟨g15, hD⟩ := gd_some hD
        obtain ⟨z16, hz16, hD⟩ := Option.bind_eq_some_iff.mp hD
        refine x_iast (k := 18) (j := 15) C hw rfl (Nat.le_of_ble_eq_true rfl) (inB_in g15) dX10_put_73 (fun H locs hw => ?_)
        replace hw := xw_eq hz16 hw
        refine lv_aload_n C.1 C.2.1 dX10_put_74 rfl (lv_at hl 0 rfl) ?_
        refine lv_iconst (v := (1 : Int32)) C.1 C.2.1 dX10_put_75 (by decide) ?_
        obtain ⟨q17, hq17, hD⟩ := Option.bind_eq_some_iff.mp hD
        refine x_goi hw (x_runV (As := [.int ((1 : Int32))]) (rest := []) (k := 17) (j := 0) C hw (Nat.le_of_ble_eq_true rfl) rfl rfl cV_X10_refused kw_572 (c_X10_refused l X ex (1 : Int32)  z16 q17 hq17) ⟨Nat.le_of_ble_eq_true rfl, Nat.le_of_ble_eq_true rfl⟩ rfl hl.1 rfl (Nat.le_of_ble_eq_true rfl) dX10_put_76 ⟨Nat.le_of_ble_eq_true rfl, Nat.le_of_ble_eq_true rfl⟩) (fun H locs hw => ?_)
        obtain rfl := Option.some.inj hD
        exact x_iret C hw hr hk dX10_put_79
    · replace hD := (if_neg c4).symm.trans hD
      refine lv_aload_n C.1 C.2.1 dX10_put_22 rfl (lv_at hl 0 rfl) ?_
      refine lv_aload_n C.1 C.2.1 dX10_put_23 rfl (lv_at hl 0 rfl) ?_
      refine lv_iload_n C.1 C.2.1 dX10_put_24 rfl (lv_at hl 1 rfl) ?_
      refine lv_iload_n C.1 C.2.1 dX10_put_25 rfl (lv_at hl 2 rfl) ?_
      obtain ⟨q18, hq18, hD⟩ := Option.bind_eq_some_iff.mp hD
      refine x_goi hw (x_runV (As := [.int (x1), .int (x2)]) (rest := [.ref (X.2.2.1 17 (0))]) (k := 17) (j := 0) C hw (Nat.le_of_ble_eq_true rfl) rfl rfl cV_X10_noCell kw_747 (c_X10_noCell l X ex x1 x2  q3.2 q18 hq18) ⟨Nat.le_of_ble_eq_true rfl, Nat.le_of_ble_eq_true rfl⟩ rfl hl.1 rfl (Nat.le_of_ble_eq_true rfl) dX10_put_26 ⟨Nat.le_of_ble_eq_true rfl, Nat.le_of_ble_eq_true rfl⟩) (fun H locs hw => ?_)
      obtain ⟨q19, hq19, hD⟩ := Option.bind_eq_some_iff.mp hD
      refine x_goi hw (x_runV (As := [.int (q18.1)]) (rest := []) (k := 17) (j := 0) C hw (Nat.le_of_ble_eq_true rfl) rfl rfl cV_X10_failed kw_588 (c_X10_failed l X ex q18.1  q18.2 q19 hq19) ⟨Nat.le_of_ble_eq_true rfl, Nat.le_of_ble_eq_true rfl⟩ rfl hl.1 rfl (Nat.le_of_ble_eq_true rfl) dX10_put_29 ⟨Nat.le_of_ble_eq_true rfl, Nat.le_of_ble_eq_true rfl⟩) (fun H locs hw => ?_)
      obtain rfl := Option.some.inj hD
      exact x_iret C hw hr hk dX10_put_32
  · replace hD := (if_neg c2).symm.trans hD
    refine lv_aload_n C.1 C.2.1 dX10_put_7 rfl (lv_at hl 0 rfl) ?_
    refine lv_iconst (v := (-1 : Int32)) C.1 C.2.1 dX10_put_8 (by decide) ?_
    obtain ⟨q20, hq20, hD⟩ := Option.bind_eq_some_iff.mp hD
    refine x_goi hw (x_runV (As := [.int ((-1 : Int32))]) (rest := []) (k := 17) (j := 0) C hw (Nat.le_of_ble_eq_true rfl) rfl rfl cV_X10_refused kw_572 (c_X10_refused l X ex (-1 : Int32)  q1.2 q20 hq20) ⟨Nat.le_of_ble_eq_true rfl, Nat.le_of_ble_eq_true rfl⟩ rfl hl.1 rfl (Nat.le_of_ble_eq_true rfl) dX10_put_9 ⟨Nat.le_of_ble_eq_true rfl, Nat.le_of_ble_eq_true rfl⟩) (fun H locs hw => ?_)
    obtain rfl := Option.some.inj hD
    exact x_iret C hw hr hk dX10_put_12
theorem kw_748 : Cond.code yX10_failedLong cX10_failedLong 2 (some .long) ∈ gtbl := gm4 194 rfl rfl
theorem nd_X10_failedLong : (yX10_failedLong).cls ≠ "java/lang/invoke/MethodHandle" ∧ (yX10_failedLong).cls ≠ "java/lang/invoke/VarHandle" ∧ (parseMethodDescriptor (yX10_failedLong).desc).map (fun d => d.parameters.length) = some 1 := by decide +kernel
theorem kw_750 : Cond.instanceMethod yX10_failedLong ∈ gtbl := gm4 193 rfl rfl
theorem kw_751 : Cond.selects RX10 yX10_failedLong yX10_failedLong ∈ gtbl := gm0 28 rfl rfl
theorem cV_X10_failedLong : xcV yX10_failedLong cX10_failedLong 2 (some .long) 1 := ⟨⟨kw_748, kw_490, nd_X10_failedLong⟩, kw_750, kw_751⟩
theorem kw_753 : Cond.methodLink RX10 218 yX10_failedLong ∈ gtbl := gm4 191 rfl rfl
abbrev rm_X10_cell : Room := { frames := 2, cells := 0, slots := 0, locals := 47 }
def J_X10_cell_53 (x1 : Int32) (x2 : Int32) (x3 : Int32)  (z : XS) : Option (Int64 × XS) :=
  (D_X10_noCell x1 x2 z).bind fun q9 => ((if q9.1 ≤ 0 then gd (inB (((60 : Int32) * x1) + x2) 240) (some ((gA q9.2 18 15 (((60 : Int32) * x1) + x2).toNatClampNeg).toInt64, q9.2)) else (D_X10_noCell x1 x2 q9.2).bind fun q12 => ((D_X10_failedLong q12.1 q12.2).bind fun q13 => (some (q13.1, q13.2)))))
set_option maxHeartbeats 4000000 in
set_option maxRecDepth 100000 in
theorem w_X10_cell_53 {p : Program} {l : Launch} {e : Env} {s : State} {m : MethodId} {below : List Frame} {meth : Method} {c : Code} {X : XC} {ex : va_W} (x1 : Int32) (x2 : Int32) (x3 : Int32) (C : CallFix p m c cX10_cell 4 s (([.ref (X.2.2.1 17 (0)), .int (x1), .int (x2), .int (x3)] : List Value).toArray) gtbl RX10) (hr : meth.sig.returnType = (some .long)) (hk : meth.locks = false) (R0 : Int64 × XS)  : ∀  (z : XS), J_X10_cell_53 x1 x2 x3   z = some R0 → ∀ (H : Heap) (locs : List Loc), xw X ex z s H locs → ∀ (ls : Array Slot), lv_has ls 4 [(0, .ref (X.2.2.1 17 (0))), (1, .int (x1)), (2, .int (x2))] → W p l e rm_X10_cell s m (([.ref (X.2.2.1 17 (0)), .int (x1), .int (x2), .int (x3)] : List Value).toArray) below meth c H locs 0 0 (MQ below (xQl X ex R0.2 R0.1) (([.ref (X.2.2.1 17 (0)), .int (x1), .int (x2), .int (x3)] : List Value).toArray) s 0 0 (xA X)) (F0 m 53 ls []) := by
  intro  z  hD H locs hw ls hl
  unfold J_X10_cell_53 at hD
  refine lv_aload_n C.1 C.2.1 dX10_cell_53 rfl (lv_at hl 0 rfl) ?_
  refine lv_iload_n C.1 C.2.1 dX10_cell_54 rfl (lv_at hl 1 rfl) ?_
  refine lv_iload_n C.1 C.2.1 dX10_cell_55 rfl (lv_at hl 2 rfl) ?_
  obtain ⟨q9, hq9, hD⟩ := Option.bind_eq_some_iff.mp hD
  refine x_goi hw (x_runV (As := [.int (x1), .int (x2)]) (rest := []) (k := 17) (j := 0) C hw (Nat.le_of_ble_eq_true rfl) rfl rfl cV_X10_noCell kw_747 (c_X10_noCell l X ex x1 x2  z q9 hq9) ⟨Nat.le_of_ble_eq_true rfl, Nat.le_of_ble_eq_true rfl⟩ rfl hl.1 rfl (Nat.le_of_ble_eq_true rfl) dX10_cell_56 ⟨Nat.le_of_ble_eq_true rfl, Nat.le_of_ble_eq_true rfl⟩) (fun H locs hw => ?_)
  refine lv_if_le (tgt := 75) C.1 C.2.1 dX10_cell_59 (by decide) (fun c10 => ?_) (fun c10 => ?_)
  · replace hD := (if_pos c10).symm.trans hD
    refine lv_aload_n C.1 C.2.1 dX10_cell_75 rfl (lv_at hl 0 rfl) ?_
    refine gf_X10_20 C hw kw_513 dX10_cell_76 ?_
    refine lv_bipush (v := (60 : Int32)) C.1 C.2.1 dX10_cell_79 (by decide) ?_
    refine lv_iload_n C.1 C.2.1 dX10_cell_81 rfl (lv_at hl 1 rfl) ?_
    refine lv_imul C.1 C.2.1 dX10_cell_82 ?_
    refine lv_iload_n C.1 C.2.1 dX10_cell_83 rfl (lv_at hl 2 rfl) ?_
    refine lv_iadd C.1 C.2.1 dX10_cell_84 ?_
    obtain ⟨g11, hD⟩ := gd_some hD
    refine x_iald (k := 18) (j := 15) C hw rfl (Nat.le_of_ble_eq_true rfl) (inB_in g11) dX10_cell_85 ?_
    refine lv_i2l C.1 C.2.1 dX10_cell_86 rfl ?_
    obtain rfl := Option.some.inj hD
    exact x_lret C hw hr hk dX10_cell_87
  · replace hD := (if_neg c10).symm.trans hD
    refine lv_aload_n C.1 C.2.1 dX10_cell_62 rfl (lv_at hl 0 rfl) ?_
    refine lv_aload_n C.1 C.2.1 dX10_cell_63 rfl (lv_at hl 0 rfl) ?_
    refine lv_iload_n C.1 C.2.1 dX10_cell_64 rfl (lv_at hl 1 rfl) ?_
    refine lv_iload_n C.1 C.2.1 dX10_cell_65 rfl (lv_at hl 2 rfl) ?_
    obtain ⟨q12, hq12, hD⟩ := Option.bind_eq_some_iff.mp hD
    refine x_goi hw (x_runV (As := [.int (x1), .int (x2)]) (rest := [.ref (X.2.2.1 17 (0))]) (k := 17) (j := 0) C hw (Nat.le_of_ble_eq_true rfl) rfl rfl cV_X10_noCell kw_747 (c_X10_noCell l X ex x1 x2  q9.2 q12 hq12) ⟨Nat.le_of_ble_eq_true rfl, Nat.le_of_ble_eq_true rfl⟩ rfl hl.1 rfl (Nat.le_of_ble_eq_true rfl) dX10_cell_66 ⟨Nat.le_of_ble_eq_true rfl, Nat.le_of_ble_eq_true rfl⟩) (fun H locs hw => ?_)
    obtain ⟨q13, hq13, hD⟩ := Option.bind_eq_some_iff.mp hD
    refine x_gol hw (x_runV (As := [.int (q12.1)]) (rest := []) (k := 17) (j := 0) C hw (Nat.le_of_ble_eq_true rfl) rfl rfl cV_X10_failedLong kw_753 (c_X10_failedLong l X ex q12.1  q12.2 q13 hq13) ⟨Nat.le_of_ble_eq_true rfl, Nat.le_of_ble_eq_true rfl⟩ rfl hl.1 rfl (Nat.le_of_ble_eq_true rfl) dX10_cell_69 ⟨Nat.le_of_ble_eq_true rfl, Nat.le_of_ble_eq_true rfl⟩) (fun H locs hw => ?_)
    refine lv_goto (tgt := 87) C.1 C.2.1 dX10_cell_72 (by decide) ?_
    obtain rfl := Option.some.inj hD
    exact x_lret C hw hr hk dX10_cell_87
def D_X10_cell (x1 : Int32) (x2 : Int32) (x3 : Int32) (z : XS) : Option (Int64 × XS) :=
  (some (pS z 17 0 0 (0 : Int32))).bind fun z1 => ((D_X10_noSheet x1 z1).bind fun q2 => ((if q2.1 = 0 then (D_X10_in x3.toInt64 (0 : Int64) (2 : Int64) q2.2).bind fun q5 => ((if q5.1 = 0 then (D_X10_lost  q5.2).bind fun q17 => (some (q17.1, q17.2)) else gd (inB x1 4) ((if gA q5.2 18 13 x1.toNatClampNeg < 0 then J_X10_cell_53 x1 x2 x3   q5.2 else gd (inB x1 4) ((if gA q5.2 18 14 x1.toNatClampNeg = x3 then J_X10_cell_53 x1 x2 x3   q5.2 else (D_X10_failedLong (2 : Int32) q5.2).bind fun q16 => (some (q16.1, q16.2)))))))) else (D_X10_lost  q2.2).bind fun q4 => (some (q4.1, q4.2)))))
set_option maxHeartbeats 4000000 in
set_option maxRecDepth 100000 in
theorem c_X10_cell (l : Launch) (X : XC) (ex : va_W) (x1 : Int32) (x2 : Int32) (x3 : Int32) (z : XS) (R0 : Int64 × XS) (hD : D_X10_cell x1 x2 x3 z = some R0) : xM l X ex yX10_cell cX10_cell 4 (some .long) rm_X10_cell [.ref (X.2.2.1 17 (0)), .int (x1), .int (x2), .int (x3)] z (xQl X ex R0.2 R0.1) := by
  refine x_ent (by decide) (Nat.le_of_ble_eq_true rfl) ?_
  intro p e s m below meth c ls C hr hk hw hl
  replace hl : lv_has ls 4 [(0, .ref (X.2.2.1 17 (0))), (1, .int (x1)), (2, .int (x2)), (3, .int (x3))] := hl
  unfold D_X10_cell at hD
  refine lv_aload_n C.1 C.2.1 dX10_cell_0 rfl (lv_at hl 0 rfl) ?_
  refine lv_iconst (v := (0 : Int32)) C.1 C.2.1 dX10_cell_1 (by decide) ?_
  obtain ⟨z1, hz1, hD⟩ := Option.bind_eq_some_iff.mp hD
  refine pf_X10_0 C hw kw_487 dX10_cell_2 (fun H locs hw => ?_)
  replace hw := xw_eq hz1 hw
  refine lv_iload_n C.1 C.2.1 dX10_cell_5 rfl (lv_at hl 1 rfl) ?_
  obtain ⟨q2, hq2, hD⟩ := Option.bind_eq_some_iff.mp hD
  refine x_goi hw (x_runS (As := [.int (x1)]) (rest := []) C hw cS_X10_noSheet kw_549 (c_X10_noSheet l X ex x1  z1 q2 hq2) ⟨Nat.le_of_ble_eq_true rfl, Nat.le_of_ble_eq_true rfl⟩ rfl hl.1 rfl (Nat.le_of_ble_eq_true rfl) dX10_cell_6 ⟨Nat.le_of_ble_eq_true rfl, Nat.le_of_ble_eq_true rfl⟩) (fun H locs hw => ?_)
  refine lv_if_ne (tgt := 24) C.1 C.2.1 dX10_cell_9 (by decide) (fun c3 => ?_) (fun c3 => ?_)
  · replace hD := (if_neg c3).symm.trans hD
    obtain ⟨q4, hq4, hD⟩ := Option.bind_eq_some_iff.mp hD
    refine x_gol hw (x_runS (As := []) (rest := []) C hw cS_X10_lost kw_494 (c_X10_lost l X ex   q2.2 q4 hq4) ⟨Nat.le_of_ble_eq_true rfl, Nat.le_of_ble_eq_true rfl⟩ rfl hl.1 rfl (Nat.le_of_ble_eq_true rfl) dX10_cell_24 ⟨Nat.le_of_ble_eq_true rfl, Nat.le_of_ble_eq_true rfl⟩) (fun H locs hw => ?_)
    obtain rfl := Option.some.inj hD
    exact x_lret C hw hr hk dX10_cell_27
  · replace hD := (if_pos c3).symm.trans hD
    refine lv_iload_n C.1 C.2.1 dX10_cell_12 rfl (lv_at hl 3 rfl) ?_
    refine lv_i2l C.1 C.2.1 dX10_cell_13 rfl ?_
    refine lv_lconst (v := (0 : Int64)) C.1 C.2.1 dX10_cell_14 (by decide) ?_
    refine lv_ldc2 (v := (2 : Int64)) C.1 C.2.1 C.2.2.2.1 (C.2.2.2.2 _ kw_550) dX10_cell_15 ?_
    obtain ⟨q5, hq5, hD⟩ := Option.bind_eq_some_iff.mp hD
    refine x_goi hw (x_runS (As := [.long (x3.toInt64), .long ((0 : Int64)), .long ((2 : Int64))]) (rest := []) C hw cS_X10_in kw_501 (c_X10_in l X ex x3.toInt64 (0 : Int64) (2 : Int64)  q2.2 q5 hq5) ⟨Nat.le_of_ble_eq_true rfl, Nat.le_of_ble_eq_true rfl⟩ rfl hl.1 rfl (Nat.le_of_ble_eq_true rfl) dX10_cell_18 ⟨Nat.le_of_ble_eq_true rfl, Nat.le_of_ble_eq_true rfl⟩) (fun H locs hw => ?_)
    refine lv_if_ne (tgt := 28) C.1 C.2.1 dX10_cell_21 (by decide) (fun c6 => ?_) (fun c6 => ?_)
    · replace hD := (if_neg c6).symm.trans hD
      refine lv_aload_n C.1 C.2.1 dX10_cell_28 rfl (lv_at hl 0 rfl) ?_
      refine gf_X10_18 C hw kw_551 dX10_cell_29 ?_
      refine lv_iload_n C.1 C.2.1 dX10_cell_32 rfl (lv_at hl 1 rfl) ?_
      obtain ⟨g7, hD⟩ := gd_some hD
      refine x_iald (k := 18) (j := 13) C hw rfl (Nat.le_of_ble_eq_true rfl) (inB_in g7) dX10_cell_33 ?_
      refine lv_if_lt (tgt := 53) C.1 C.2.1 dX10_cell_34 (by decide) (fun c8 => ?_) (fun c8 => ?_)
      · replace hD := (if_pos c8).symm.trans hD
        exact w_X10_cell_53 x1 x2 x3  C hr hk R0    q5.2  hD _ _ hw _ (lv_sub hl [0, 1, 2] rfl)
      · replace hD := (if_neg c8).symm.trans hD
        refine lv_aload_n C.1 C.2.1 dX10_cell_37 rfl (lv_at hl 0 rfl) ?_
        refine gf_X10_19 C hw kw_589 dX10_cell_38 ?_
        refine lv_iload_n C.1 C.2.1 dX10_cell_41 rfl (lv_at hl 1 rfl) ?_
        obtain ⟨g14, hD⟩ := gd_some hD
        refine x_iald (k := 18) (j := 14) C hw rfl (Nat.le_of_ble_eq_true rfl) (inB_in g14) dX10_cell_42 ?_
        refine lv_iload_n C.1 C.2.1 dX10_cell_43 rfl (lv_at hl 3 rfl) ?_
        refine lv_icmp_eq (tgt := 53) C.1 C.2.1 dX10_cell_44 (by decide) (fun c15 => ?_) (fun c15 => ?_)
        · replace hD := (if_pos c15).symm.trans hD
          exact w_X10_cell_53 x1 x2 x3  C hr hk R0    q5.2  hD _ _ hw _ (lv_sub hl [0, 1, 2] rfl)
        · replace hD := (if_neg c15).symm.trans hD
          refine lv_aload_n C.1 C.2.1 dX10_cell_47 rfl (lv_at hl 0 rfl) ?_
          refine lv_iconst (v := (2 : Int32)) C.1 C.2.1 dX10_cell_48 (by decide) ?_
          obtain ⟨q16, hq16, hD⟩ := Option.bind_eq_some_iff.mp hD
          refine x_gol hw (x_runV (As := [.int ((2 : Int32))]) (rest := []) (k := 17) (j := 0) C hw (Nat.le_of_ble_eq_true rfl) rfl rfl cV_X10_failedLong kw_753 (c_X10_failedLong l X ex (2 : Int32)  q5.2 q16 hq16) ⟨Nat.le_of_ble_eq_true rfl, Nat.le_of_ble_eq_true rfl⟩ rfl hl.1 rfl (Nat.le_of_ble_eq_true rfl) dX10_cell_49 ⟨Nat.le_of_ble_eq_true rfl, Nat.le_of_ble_eq_true rfl⟩) (fun H locs hw => ?_)
          obtain rfl := Option.some.inj hD
          exact x_lret C hw hr hk dX10_cell_52
    · replace hD := (if_pos c6).symm.trans hD
      obtain ⟨q17, hq17, hD⟩ := Option.bind_eq_some_iff.mp hD
      refine x_gol hw (x_runS (As := []) (rest := []) C hw cS_X10_lost kw_494 (c_X10_lost l X ex   q5.2 q17 hq17) ⟨Nat.le_of_ble_eq_true rfl, Nat.le_of_ble_eq_true rfl⟩ rfl hl.1 rfl (Nat.le_of_ble_eq_true rfl) dX10_cell_24 ⟨Nat.le_of_ble_eq_true rfl, Nat.le_of_ble_eq_true rfl⟩) (fun H locs hw => ?_)
      obtain rfl := Option.some.inj hD
      exact x_lret C hw hr hk dX10_cell_27
theorem kw_754 : Cond.fieldLink RX10 58 (TX10 21).1 (TX10 21).2.1 (TX10 21).2.2.1 ∈ gtbl := gm3 149 rfl rfl
theorem gf_X10_21 {p : Program} {l : Launch} {e : Env} {R : Room} {s : State} {m : MethodId} {args : Array Value} {below : List Frame} {meth : Method} {c : Code} {H : Heap} {locs : List Loc} {cells slots : Nat} {Q : State → Prop} {cc : ByteArray} {pc nL index : Nat} {ls : Array Slot} {rest : List Value} {X : XC} {ex : va_W} {z : XS} {own : String} (C : CallFix p m c cc nL s args gtbl own) (hw : xw X ex z s H locs) (hlink : Cond.fieldLink own index (TX10 21).1 (TX10 21).2.1 (TX10 21).2.2.1 ∈ gtbl) (hdg : decode cc pc = .ok (.getfield index, 3)) (kk : W p l e R s m args below meth c H locs cells slots Q (F0 m (pc + 3) ls (.ref (X.2.2.1 18 16) :: rest))) : W p l e R s m args below meth c H locs cells slots Q (F0 m pc ls (.ref (X.2.2.1 17 0) :: rest)) :=
  x_get (k := 17) (j := 0) C hw (Nat.le_of_ble_eq_true rfl) 21 (v := .ref (X.2.2.1 18 16)) rfl rfl ixX10 (by decide) hlink rfl hdg kk
abbrev rm_X10_copy : Room := { frames := 2, cells := 0, slots := 0, locals := 45 }
def B_X10_copy_144 (x1 : Int32) (x2 : Int32) (x3 : Int32) (x4 : Int32) (x5 : Int32) (k144_ : Int32 → XS → Option (Int32 × XS)) (y6 : Int32) (z : XS) : Option (Int32 × XS) :=
  (if x5 ≤ y6 then (D_X10_refused x5 z).bind fun q23 => (some (q23.1, q23.2)) else gd (inB y6 60) (gd (inB ((((60 : Int32) * x3) + x4) + y6) 240) ((some (pA z 18 15 ((((60 : Int32) * x3) + x4) + y6).toNatClampNeg (gA z 18 16 y6.toNatClampNeg))).bind fun z26 => (k144_ (y6 + 1) z26))))
def L_X10_copy_144 (x1 : Int32) (x2 : Int32) (x3 : Int32) (x4 : Int32) (x5 : Int32) : Nat → Int32 → XS → Option (Int32 × XS)
  | 0 => fun _ _ => none
  | n + 1 => B_X10_copy_144 x1 x2 x3 x4 x5  (L_X10_copy_144 x1 x2 x3 x4 x5  n)
set_option maxHeartbeats 4000000 in
set_option maxRecDepth 100000 in
theorem w_X10_copy_144 {p : Program} {l : Launch} {e : Env} {s : State} {m : MethodId} {below : List Frame} {meth : Method} {c : Code} {X : XC} {ex : va_W} (x1 : Int32) (x2 : Int32) (x3 : Int32) (x4 : Int32) (x5 : Int32) (C : CallFix p m c cX10_copy 7 s (([.ref (X.2.2.1 17 (0)), .int (x1), .int (x2), .int (x3), .int (x4), .int (x5)] : List Value).toArray) gtbl RX10) (hr : meth.sig.returnType = (some .int)) (hk : meth.locks = false) (R0 : Int32 × XS)  : ∀ (n : Nat), ∀ (y6 : Int32) (z : XS), L_X10_copy_144 x1 x2 x3 x4 x5  n y6 z = some R0 → ∀ (H : Heap) (locs : List Loc), xw X ex z s H locs → ∀ (ls : Array Slot), lv_has ls 7 [(0, .ref (X.2.2.1 17 (0))), (3, .int (x3)), (4, .int (x4)), (5, .int (x5)), (6, .int (y6))] → W p l e rm_X10_copy s m (([.ref (X.2.2.1 17 (0)), .int (x1), .int (x2), .int (x3), .int (x4), .int (x5)] : List Value).toArray) below meth c H locs 0 0 (MQ below (xQi X ex R0.2 R0.1) (([.ref (X.2.2.1 17 (0)), .int (x1), .int (x2), .int (x3), .int (x4), .int (x5)] : List Value).toArray) s 0 0 (xA X)) (F0 m 144 ls []) := by
  intro n
  induction n with
  | zero =>
    intro y6 z  hD
    cases hD
  | succ n ih =>
    intro y6 z  hD H locs hw ls hl
    replace hD : B_X10_copy_144 x1 x2 x3 x4 x5  (L_X10_copy_144 x1 x2 x3 x4 x5  n) y6 z = some R0 := hD
    unfold B_X10_copy_144 at hD
    refine lv_iload C.1 C.2.1 dX10_copy_144 (lv_at hl 4 rfl) ?_
    refine lv_iload C.1 C.2.1 dX10_copy_146 (lv_at hl 3 rfl) ?_
    refine lv_icmp_ge (tgt := 179) C.1 C.2.1 dX10_copy_148 (by decide) (fun c22 => ?_) (fun c22 => ?_)
    · replace hD := (if_pos c22).symm.trans hD
      refine lv_aload_n C.1 C.2.1 dX10_copy_179 rfl (lv_at hl 0 rfl) ?_
      refine lv_iload C.1 C.2.1 dX10_copy_180 (lv_at hl 3 rfl) ?_
      obtain ⟨q23, hq23, hD⟩ := Option.bind_eq_some_iff.mp hD
      refine x_goi hw (x_runV (As := [.int (x5)]) (rest := []) (k := 17) (j := 0) C hw (Nat.le_of_ble_eq_true rfl) rfl rfl cV_X10_refused kw_572 (c_X10_refused l X ex x5  z q23 hq23) ⟨Nat.le_of_ble_eq_true rfl, Nat.le_of_ble_eq_true rfl⟩ rfl hl.1 rfl (Nat.le_of_ble_eq_true rfl) dX10_copy_182 ⟨Nat.le_of_ble_eq_true rfl, Nat.le_of_ble_eq_true rfl⟩) (fun H locs hw => ?_)
      obtain rfl := Option.some.inj hD
      exact x_iret C hw hr hk dX10_copy_185
    · replace hD := (if_neg c22).symm.trans hD
      refine lv_aload_n C.1 C.2.1 dX10_copy_151 rfl (lv_at hl 0 rfl) ?_
      refine gf_X10_20 C hw kw_513 dX10_copy_152 ?_
      refine lv_bipush (v := (60 : Int32)) C.1 C.2.1 dX10_copy_155 (by decide) ?_
      refine lv_iload_n C.1 C.2.1 dX10_copy_157 rfl (lv_at hl 1 rfl) ?_
      refine lv_imul C.1 C.2.1 dX10_copy_158 ?_
      refine lv_iload C.1 C.2.1 dX10_copy_159 (lv_at hl 2 rfl) ?_
      refine lv_iadd C.1 C.2.1 dX10_copy_161 ?_
      refine lv_iload C.1 C.2.1 dX10_copy_162 (lv_at hl 4 rfl) ?_
      refine lv_iadd C.1 C.2.1 dX10_copy_164 ?_
      refine lv_aload_n C.1 C.2.1 dX10_copy_165 rfl (lv_at hl 0 rfl) ?_
      refine gf_X10_21 C hw kw_754 dX10_copy_166 ?_
      refine lv_iload C.1 C.2.1 dX10_copy_169 (lv_at hl 4 rfl) ?_
      obtain ⟨g24, hD⟩ := gd_some hD
      refine x_iald (k := 18) (j := 16) C hw rfl (Nat.le_of_ble_eq_true rfl) (inB_in g24) dX10_copy_171 ?_
      obtain ⟨g25, hD⟩ := gd_some hD
      obtain ⟨z26, hz26, hD⟩ := Option.bind_eq_some_iff.mp hD
      refine x_iast (k := 18) (j := 15) C hw rfl (Nat.le_of_ble_eq_true rfl) (inB_in g25) dX10_copy_172 (fun H locs hw => ?_)
      replace hw := xw_eq hz26 hw
      refine lv_iinc (v := y6 + 1) (lv' := [(6, .int (y6 + 1)), (0, .ref (X.2.2.1 17 (0))), (3, .int (x3)), (4, .int (x4)), (5, .int (x5))]) C.1 C.2.1 dX10_copy_173 hl (k := 4) rfl rfl (by decide) rfl (fun ls hl => ?_)
      refine lv_goto (tgt := 144) C.1 C.2.1 dX10_copy_176 (by decide) ?_
      exact ih (y6 + 1) z26  hD _ _ hw _ (lv_sub hl [1, 2, 3, 4, 0] rfl)
def B_X10_copy_107 (x1 : Int32) (x2 : Int32) (x3 : Int32) (x4 : Int32) (x5 : Int32) (k107_ : Int32 → XS → Option (Int32 × XS)) (y6 : Int32) (z : XS) : Option (Int32 × XS) :=
  (if x5 ≤ y6 then L_X10_copy_144 x1 x2 x3 x4 x5  64 (0 : Int32) z else gd (inB ((((60 : Int32) * x1) + x2) + y6) 240) (gd (inB y6 60) ((some (pA z 18 16 y6.toNatClampNeg (gA z 18 15 ((((60 : Int32) * x1) + x2) + y6).toNatClampNeg))).bind fun z29 => (k107_ (y6 + 1) z29))))
def L_X10_copy_107 (x1 : Int32) (x2 : Int32) (x3 : Int32) (x4 : Int32) (x5 : Int32) : Nat → Int32 → XS → Option (Int32 × XS)
  | 0 => fun _ _ => none
  | n + 1 => B_X10_copy_107 x1 x2 x3 x4 x5  (L_X10_copy_107 x1 x2 x3 x4 x5  n)
set_option maxHeartbeats 4000000 in
set_option maxRecDepth 100000 in
theorem w_X10_copy_107 {p : Program} {l : Launch} {e : Env} {s : State} {m : MethodId} {below : List Frame} {meth : Method} {c : Code} {X : XC} {ex : va_W} (x1 : Int32) (x2 : Int32) (x3 : Int32) (x4 : Int32) (x5 : Int32) (C : CallFix p m c cX10_copy 7 s (([.ref (X.2.2.1 17 (0)), .int (x1), .int (x2), .int (x3), .int (x4), .int (x5)] : List Value).toArray) gtbl RX10) (hr : meth.sig.returnType = (some .int)) (hk : meth.locks = false) (R0 : Int32 × XS)  : ∀ (n : Nat), ∀ (y6 : Int32) (z : XS), L_X10_copy_107 x1 x2 x3 x4 x5  n y6 z = some R0 → ∀ (H : Heap) (locs : List Loc), xw X ex z s H locs → ∀ (ls : Array Slot), lv_has ls 7 [(0, .ref (X.2.2.1 17 (0))), (1, .int (x1)), (2, .int (x2)), (3, .int (x3)), (4, .int (x4)), (5, .int (x5)), (6, .int (y6))] → W p l e rm_X10_copy s m (([.ref (X.2.2.1 17 (0)), .int (x1), .int (x2), .int (x3), .int (x4), .int (x5)] : List Value).toArray) below meth c H locs 0 0 (MQ below (xQi X ex R0.2 R0.1) (([.ref (X.2.2.1 17 (0)), .int (x1), .int (x2), .int (x3), .int (x4), .int (x5)] : List Value).toArray) s 0 0 (xA X)) (F0 m 107 ls []) := by
  intro n
  induction n with
  | zero =>
    intro y6 z  hD
    cases hD
  | succ n ih =>
    intro y6 z  hD H locs hw ls hl
    replace hD : B_X10_copy_107 x1 x2 x3 x4 x5  (L_X10_copy_107 x1 x2 x3 x4 x5  n) y6 z = some R0 := hD
    unfold B_X10_copy_107 at hD
    refine lv_iload C.1 C.2.1 dX10_copy_107 (lv_at hl 6 rfl) ?_
    refine lv_iload C.1 C.2.1 dX10_copy_109 (lv_at hl 5 rfl) ?_
    refine lv_icmp_ge (tgt := 141) C.1 C.2.1 dX10_copy_111 (by decide) (fun c21 => ?_) (fun c21 => ?_)
    · replace hD := (if_pos c21).symm.trans hD
      refine lv_iconst (v := (0 : Int32)) C.1 C.2.1 dX10_copy_141 (by decide) ?_
      refine lv_istore (lv' := [(6, .int ((0 : Int32))), (0, .ref (X.2.2.1 17 (0))), (1, .int (x1)), (2, .int (x2)), (3, .int (x3)), (4, .int (x4)), (5, .int (x5))]) C.1 C.2.1 dX10_copy_142 hl (by decide) rfl (fun ls hl => ?_)
      exact w_X10_copy_144 x1 x2 x3 x4 x5  C hr hk R0   64 (0 : Int32) z  hD _ _ hw _ (lv_sub hl [1, 4, 5, 6, 0] rfl)
    · replace hD := (if_neg c21).symm.trans hD
      refine lv_aload_n C.1 C.2.1 dX10_copy_114 rfl (lv_at hl 0 rfl) ?_
      refine gf_X10_21 C hw kw_754 dX10_copy_115 ?_
      refine lv_iload C.1 C.2.1 dX10_copy_118 (lv_at hl 6 rfl) ?_
      refine lv_aload_n C.1 C.2.1 dX10_copy_120 rfl (lv_at hl 0 rfl) ?_
      refine gf_X10_20 C hw kw_513 dX10_copy_121 ?_
      refine lv_bipush (v := (60 : Int32)) C.1 C.2.1 dX10_copy_124 (by decide) ?_
      refine lv_iload_n C.1 C.2.1 dX10_copy_126 rfl (lv_at hl 1 rfl) ?_
      refine lv_imul C.1 C.2.1 dX10_copy_127 ?_
      refine lv_iload_n C.1 C.2.1 dX10_copy_128 rfl (lv_at hl 2 rfl) ?_
      refine lv_iadd C.1 C.2.1 dX10_copy_129 ?_
      refine lv_iload C.1 C.2.1 dX10_copy_130 (lv_at hl 6 rfl) ?_
      refine lv_iadd C.1 C.2.1 dX10_copy_132 ?_
      obtain ⟨g27, hD⟩ := gd_some hD
      refine x_iald (k := 18) (j := 15) C hw rfl (Nat.le_of_ble_eq_true rfl) (inB_in g27) dX10_copy_133 ?_
      obtain ⟨g28, hD⟩ := gd_some hD
      obtain ⟨z29, hz29, hD⟩ := Option.bind_eq_some_iff.mp hD
      refine x_iast (k := 18) (j := 16) C hw rfl (Nat.le_of_ble_eq_true rfl) (inB_in g28) dX10_copy_134 (fun H locs hw => ?_)
      replace hw := xw_eq hz29 hw
      refine lv_iinc (v := y6 + 1) (lv' := [(6, .int (y6 + 1)), (0, .ref (X.2.2.1 17 (0))), (1, .int (x1)), (2, .int (x2)), (3, .int (x3)), (4, .int (x4)), (5, .int (x5))]) C.1 C.2.1 dX10_copy_135 hl (k := 6) rfl rfl (by decide) rfl (fun ls hl => ?_)
      refine lv_goto (tgt := 107) C.1 C.2.1 dX10_copy_138 (by decide) ?_
      exact ih (y6 + 1) z29  hD _ _ hw _ (lv_sub hl [1, 2, 3, 4, 5, 6, 0] rfl)
def D_X10_copy (x1 : Int32) (x2 : Int32) (x3 : Int32) (x4 : Int32) (x5 : Int32) (z : XS) : Option (Int32 × XS) :=
  (D_X10_noSheet x1 z).bind fun q1 => ((if q1.1 = 0 then (D_X10_noSheet x3 q1.2).bind fun q4 => ((if q4.1 = 0 then gd (inB x1 4) ((if gA q4.2 18 13 x1.toNatClampNeg < 0 then (D_X10_failed (1 : Int32) q4.2).bind fun q8 => (some (q8.1, q8.2)) else gd (inB x3 4) ((if 0 ≤ gA q4.2 18 13 x3.toNatClampNeg then gd (inB x1 4) (gd (inB x3 4) ((if gA q4.2 18 14 x1.toNatClampNeg = gA q4.2 18 14 x3.toNatClampNeg then gd (inB x1 4) ((D_X10_isBeyond x2 x5.toInt64 (gA q4.2 18 13 x1.toNatClampNeg) q4.2).bind fun q15 => ((if q15.1 = 0 then gd (inB x3 4) ((D_X10_isBeyond x4 x5.toInt64 (gA q15.2 18 13 x3.toNatClampNeg) q15.2).bind fun q19 => ((if q19.1 = 0 then L_X10_copy_107 x1 x2 x3 x4 x5  64 (0 : Int32) q19.2 else (D_X10_failed (3 : Int32) q19.2).bind fun q30 => (some (q30.1, q30.2))))) else (D_X10_failed (3 : Int32) q15.2).bind fun q17 => (some (q17.1, q17.2))))) else (D_X10_failed (2 : Int32) q4.2).bind fun q31 => (some (q31.1, q31.2))))) else (D_X10_failed (1 : Int32) q4.2).bind fun q32 => (some (q32.1, q32.2)))))) else (D_X10_refused (-1 : Int32) q4.2).bind fun q33 => (some (q33.1, q33.2)))) else (D_X10_refused (-1 : Int32) q1.2).bind fun q3 => (some (q3.1, q3.2))))
set_option maxHeartbeats 4000000 in
set_option maxRecDepth 100000 in
theorem c_X10_copy (l : Launch) (X : XC) (ex : va_W) (x1 : Int32) (x2 : Int32) (x3 : Int32) (x4 : Int32) (x5 : Int32) (z : XS) (R0 : Int32 × XS) (hD : D_X10_copy x1 x2 x3 x4 x5 z = some R0) : xM l X ex yX10_copy cX10_copy 7 (some .int) rm_X10_copy [.ref (X.2.2.1 17 (0)), .int (x1), .int (x2), .int (x3), .int (x4), .int (x5)] z (xQi X ex R0.2 R0.1) := by
  refine x_ent (by decide) (Nat.le_of_ble_eq_true rfl) ?_
  intro p e s m below meth c ls C hr hk hw hl
  replace hl : lv_has ls 7 [(0, .ref (X.2.2.1 17 (0))), (1, .int (x1)), (2, .int (x2)), (3, .int (x3)), (4, .int (x4)), (5, .int (x5))] := hl
  unfold D_X10_copy at hD
  refine lv_iload_n C.1 C.2.1 dX10_copy_0 rfl (lv_at hl 1 rfl) ?_
  obtain ⟨q1, hq1, hD⟩ := Option.bind_eq_some_iff.mp hD
  refine x_goi hw (x_runS (As := [.int (x1)]) (rest := []) C hw cS_X10_noSheet kw_549 (c_X10_noSheet l X ex x1  z q1 hq1) ⟨Nat.le_of_ble_eq_true rfl, Nat.le_of_ble_eq_true rfl⟩ rfl hl.1 rfl (Nat.le_of_ble_eq_true rfl) dX10_copy_1 ⟨Nat.le_of_ble_eq_true rfl, Nat.le_of_ble_eq_true rfl⟩) (fun H locs hw => ?_)
  refine lv_if_ne (tgt := 14) C.1 C.2.1 dX10_copy_4 (by decide) (fun c2 => ?_) (fun c2 => ?_)
  · replace hD := (if_neg c2).symm.trans hD
    refine lv_aload_n C.1 C.2.1 dX10_copy_14 rfl (lv_at hl 0 rfl) ?_
    refine lv_iconst (v := (-1 : Int32)) C.1 C.2.1 dX10_copy_15 (by decide) ?_
    obtain ⟨q3, hq3, hD⟩ := Option.bind_eq_some_iff.mp hD
    refine x_goi hw (x_runV (As := [.int ((-1 : Int32))]) (rest := []) (k := 17) (j := 0) C hw (Nat.le_of_ble_eq_true rfl) rfl rfl cV_X10_refused kw_572 (c_X10_refused l X ex (-1 : Int32)  q1.2 q3 hq3) ⟨Nat.le_of_ble_eq_true rfl, Nat.le_of_ble_eq_true rfl⟩ rfl hl.1 rfl (Nat.le_of_ble_eq_true rfl) dX10_copy_16 ⟨Nat.le_of_ble_eq_true rfl, Nat.le_of_ble_eq_true rfl⟩) (fun H locs hw => ?_)
    obtain rfl := Option.some.inj hD
    exact x_iret C hw hr hk dX10_copy_19
  · replace hD := (if_pos c2).symm.trans hD
    refine lv_iload_n C.1 C.2.1 dX10_copy_7 rfl (lv_at hl 3 rfl) ?_
    obtain ⟨q4, hq4, hD⟩ := Option.bind_eq_some_iff.mp hD
    refine x_goi hw (x_runS (As := [.int (x3)]) (rest := []) C hw cS_X10_noSheet kw_549 (c_X10_noSheet l X ex x3  q1.2 q4 hq4) ⟨Nat.le_of_ble_eq_true rfl, Nat.le_of_ble_eq_true rfl⟩ rfl hl.1 rfl (Nat.le_of_ble_eq_true rfl) dX10_copy_8 ⟨Nat.le_of_ble_eq_true rfl, Nat.le_of_ble_eq_true rfl⟩) (fun H locs hw => ?_)
    refine lv_if_eq (tgt := 20) C.1 C.2.1 dX10_copy_11 (by decide) (fun c5 => ?_) (fun c5 => ?_)
    · replace hD := (if_pos c5).symm.trans hD
      refine lv_aload_n C.1 C.2.1 dX10_copy_20 rfl (lv_at hl 0 rfl) ?_
      refine gf_X10_18 C hw kw_551 dX10_copy_21 ?_
      refine lv_iload_n C.1 C.2.1 dX10_copy_24 rfl (lv_at hl 1 rfl) ?_
      obtain ⟨g6, hD⟩ := gd_some hD
      refine x_iald (k := 18) (j := 13) C hw rfl (Nat.le_of_ble_eq_true rfl) (inB_in g6) dX10_copy_25 ?_
      refine lv_if_lt (tgt := 38) C.1 C.2.1 dX10_copy_26 (by decide) (fun c7 => ?_) (fun c7 => ?_)
      · replace hD := (if_pos c7).symm.trans hD
        refine lv_aload_n C.1 C.2.1 dX10_copy_38 rfl (lv_at hl 0 rfl) ?_
        refine lv_iconst (v := (1 : Int32)) C.1 C.2.1 dX10_copy_39 (by decide) ?_
        obtain ⟨q8, hq8, hD⟩ := Option.bind_eq_some_iff.mp hD
        refine x_goi hw (x_runV (As := [.int ((1 : Int32))]) (rest := []) (k := 17) (j := 0) C hw (Nat.le_of_ble_eq_true rfl) rfl rfl cV_X10_failed kw_588 (c_X10_failed l X ex (1 : Int32)  q4.2 q8 hq8) ⟨Nat.le_of_ble_eq_true rfl, Nat.le_of_ble_eq_true rfl⟩ rfl hl.1 rfl (Nat.le_of_ble_eq_true rfl) dX10_copy_40 ⟨Nat.le_of_ble_eq_true rfl, Nat.le_of_ble_eq_true rfl⟩) (fun H locs hw => ?_)
        obtain rfl := Option.some.inj hD
        exact x_iret C hw hr hk dX10_copy_43
      · replace hD := (if_neg c7).symm.trans hD
        refine lv_aload_n C.1 C.2.1 dX10_copy_29 rfl (lv_at hl 0 rfl) ?_
        refine gf_X10_18 C hw kw_551 dX10_copy_30 ?_
        refine lv_iload_n C.1 C.2.1 dX10_copy_33 rfl (lv_at hl 3 rfl) ?_
        obtain ⟨g9, hD⟩ := gd_some hD
        refine x_iald (k := 18) (j := 13) C hw rfl (Nat.le_of_ble_eq_true rfl) (inB_in g9) dX10_copy_34 ?_
        refine lv_if_ge (tgt := 44) C.1 C.2.1 dX10_copy_35 (by decide) (fun c10 => ?_) (fun c10 => ?_)
        · replace hD := (if_pos c10).symm.trans hD
          refine lv_aload_n C.1 C.2.1 dX10_copy_44 rfl (lv_at hl 0 rfl) ?_
          refine gf_X10_19 C hw kw_589 dX10_copy_45 ?_
          refine lv_iload_n C.1 C.2.1 dX10_copy_48 rfl (lv_at hl 1 rfl) ?_
          obtain ⟨g11, hD⟩ := gd_some hD
          refine x_iald (k := 18) (j := 14) C hw rfl (Nat.le_of_ble_eq_true rfl) (inB_in g11) dX10_copy_49 ?_
          refine lv_aload_n C.1 C.2.1 dX10_copy_50 rfl (lv_at hl 0 rfl) ?_
          refine gf_X10_19 C hw kw_589 dX10_copy_51 ?_
          refine lv_iload_n C.1 C.2.1 dX10_copy_54 rfl (lv_at hl 3 rfl) ?_
          obtain ⟨g12, hD⟩ := gd_some hD
          refine x_iald (k := 18) (j := 14) C hw rfl (Nat.le_of_ble_eq_true rfl) (inB_in g12) dX10_copy_55 ?_
          refine lv_icmp_eq (tgt := 65) C.1 C.2.1 dX10_copy_56 (by decide) (fun c13 => ?_) (fun c13 => ?_)
          · replace hD := (if_pos c13).symm.trans hD
            refine lv_iload_n C.1 C.2.1 dX10_copy_65 rfl (lv_at hl 2 rfl) ?_
            refine lv_iload C.1 C.2.1 dX10_copy_66 (lv_at hl 5 rfl) ?_
            refine lv_i2l C.1 C.2.1 dX10_copy_68 rfl ?_
            refine lv_aload_n C.1 C.2.1 dX10_copy_69 rfl (lv_at hl 0 rfl) ?_
            refine gf_X10_18 C hw kw_551 dX10_copy_70 ?_
            refine lv_iload_n C.1 C.2.1 dX10_copy_73 rfl (lv_at hl 1 rfl) ?_
            obtain ⟨g14, hD⟩ := gd_some hD
            refine x_iald (k := 18) (j := 13) C hw rfl (Nat.le_of_ble_eq_true rfl) (inB_in g14) dX10_copy_74 ?_
            obtain ⟨q15, hq15, hD⟩ := Option.bind_eq_some_iff.mp hD
            refine x_goi hw (x_runS (As := [.int (x2), .long (x5.toInt64), .int (gA q4.2 18 13 x1.toNatClampNeg)]) (rest := []) C hw cS_X10_isBeyond kw_557 (c_X10_isBeyond l X ex x2 x5.toInt64 (gA q4.2 18 13 x1.toNatClampNeg)  q4.2 q15 hq15) ⟨Nat.le_of_ble_eq_true rfl, Nat.le_of_ble_eq_true rfl⟩ rfl hl.1 rfl (Nat.le_of_ble_eq_true rfl) dX10_copy_75 ⟨Nat.le_of_ble_eq_true rfl, Nat.le_of_ble_eq_true rfl⟩) (fun H locs hw => ?_)
            refine lv_if_ne (tgt := 98) C.1 C.2.1 dX10_copy_78 (by decide) (fun c16 => ?_) (fun c16 => ?_)
            · replace hD := (if_neg c16).symm.trans hD
              refine lv_aload_n C.1 C.2.1 dX10_copy_98 rfl (lv_at hl 0 rfl) ?_
              refine lv_iconst (v := (3 : Int32)) C.1 C.2.1 dX10_copy_99 (by decide) ?_
              obtain ⟨q17, hq17, hD⟩ := Option.bind_eq_some_iff.mp hD
              refine x_goi hw (x_runV (As := [.int ((3 : Int32))]) (rest := []) (k := 17) (j := 0) C hw (Nat.le_of_ble_eq_true rfl) rfl rfl cV_X10_failed kw_588 (c_X10_failed l X ex (3 : Int32)  q15.2 q17 hq17) ⟨Nat.le_of_ble_eq_true rfl, Nat.le_of_ble_eq_true rfl⟩ rfl hl.1 rfl (Nat.le_of_ble_eq_true rfl) dX10_copy_100 ⟨Nat.le_of_ble_eq_true rfl, Nat.le_of_ble_eq_true rfl⟩) (fun H locs hw => ?_)
              obtain rfl := Option.some.inj hD
              exact x_iret C hw hr hk dX10_copy_103
            · replace hD := (if_pos c16).symm.trans hD
              refine lv_iload C.1 C.2.1 dX10_copy_81 (lv_at hl 4 rfl) ?_
              refine lv_iload C.1 C.2.1 dX10_copy_83 (lv_at hl 5 rfl) ?_
              refine lv_i2l C.1 C.2.1 dX10_copy_85 rfl ?_
              refine lv_aload_n C.1 C.2.1 dX10_copy_86 rfl (lv_at hl 0 rfl) ?_
              refine gf_X10_18 C hw kw_551 dX10_copy_87 ?_
              refine lv_iload_n C.1 C.2.1 dX10_copy_90 rfl (lv_at hl 3 rfl) ?_
              obtain ⟨g18, hD⟩ := gd_some hD
              refine x_iald (k := 18) (j := 13) C hw rfl (Nat.le_of_ble_eq_true rfl) (inB_in g18) dX10_copy_91 ?_
              obtain ⟨q19, hq19, hD⟩ := Option.bind_eq_some_iff.mp hD
              refine x_goi hw (x_runS (As := [.int (x4), .long (x5.toInt64), .int (gA q15.2 18 13 x3.toNatClampNeg)]) (rest := []) C hw cS_X10_isBeyond kw_557 (c_X10_isBeyond l X ex x4 x5.toInt64 (gA q15.2 18 13 x3.toNatClampNeg)  q15.2 q19 hq19) ⟨Nat.le_of_ble_eq_true rfl, Nat.le_of_ble_eq_true rfl⟩ rfl hl.1 rfl (Nat.le_of_ble_eq_true rfl) dX10_copy_92 ⟨Nat.le_of_ble_eq_true rfl, Nat.le_of_ble_eq_true rfl⟩) (fun H locs hw => ?_)
              refine lv_if_eq (tgt := 104) C.1 C.2.1 dX10_copy_95 (by decide) (fun c20 => ?_) (fun c20 => ?_)
              · replace hD := (if_pos c20).symm.trans hD
                refine lv_iconst (v := (0 : Int32)) C.1 C.2.1 dX10_copy_104 (by decide) ?_
                refine lv_istore (lv' := [(6, .int ((0 : Int32))), (0, .ref (X.2.2.1 17 (0))), (1, .int (x1)), (2, .int (x2)), (3, .int (x3)), (4, .int (x4)), (5, .int (x5))]) C.1 C.2.1 dX10_copy_105 hl (by decide) rfl (fun ls hl => ?_)
                exact w_X10_copy_107 x1 x2 x3 x4 x5  C hr hk R0   64 (0 : Int32) q19.2  hD _ _ hw _ (lv_sub hl [1, 2, 3, 4, 5, 6, 0] rfl)
              · replace hD := (if_neg c20).symm.trans hD
                refine lv_aload_n C.1 C.2.1 dX10_copy_98 rfl (lv_at hl 0 rfl) ?_
                refine lv_iconst (v := (3 : Int32)) C.1 C.2.1 dX10_copy_99 (by decide) ?_
                obtain ⟨q30, hq30, hD⟩ := Option.bind_eq_some_iff.mp hD
                refine x_goi hw (x_runV (As := [.int ((3 : Int32))]) (rest := []) (k := 17) (j := 0) C hw (Nat.le_of_ble_eq_true rfl) rfl rfl cV_X10_failed kw_588 (c_X10_failed l X ex (3 : Int32)  q19.2 q30 hq30) ⟨Nat.le_of_ble_eq_true rfl, Nat.le_of_ble_eq_true rfl⟩ rfl hl.1 rfl (Nat.le_of_ble_eq_true rfl) dX10_copy_100 ⟨Nat.le_of_ble_eq_true rfl, Nat.le_of_ble_eq_true rfl⟩) (fun H locs hw => ?_)
                obtain rfl := Option.some.inj hD
                exact x_iret C hw hr hk dX10_copy_103
          · replace hD := (if_neg c13).symm.trans hD
            refine lv_aload_n C.1 C.2.1 dX10_copy_59 rfl (lv_at hl 0 rfl) ?_
            refine lv_iconst (v := (2 : Int32)) C.1 C.2.1 dX10_copy_60 (by decide) ?_
            obtain ⟨q31, hq31, hD⟩ := Option.bind_eq_some_iff.mp hD
            refine x_goi hw (x_runV (As := [.int ((2 : Int32))]) (rest := []) (k := 17) (j := 0) C hw (Nat.le_of_ble_eq_true rfl) rfl rfl cV_X10_failed kw_588 (c_X10_failed l X ex (2 : Int32)  q4.2 q31 hq31) ⟨Nat.le_of_ble_eq_true rfl, Nat.le_of_ble_eq_true rfl⟩ rfl hl.1 rfl (Nat.le_of_ble_eq_true rfl) dX10_copy_61 ⟨Nat.le_of_ble_eq_true rfl, Nat.le_of_ble_eq_true rfl⟩) (fun H locs hw => ?_)
            obtain rfl := Option.some.inj hD
            exact x_iret C hw hr hk dX10_copy_64
        · replace hD := (if_neg c10).symm.trans hD
          refine lv_aload_n C.1 C.2.1 dX10_copy_38 rfl (lv_at hl 0 rfl) ?_
          refine lv_iconst (v := (1 : Int32)) C.1 C.2.1 dX10_copy_39 (by decide) ?_
          obtain ⟨q32, hq32, hD⟩ := Option.bind_eq_some_iff.mp hD
          refine x_goi hw (x_runV (As := [.int ((1 : Int32))]) (rest := []) (k := 17) (j := 0) C hw (Nat.le_of_ble_eq_true rfl) rfl rfl cV_X10_failed kw_588 (c_X10_failed l X ex (1 : Int32)  q4.2 q32 hq32) ⟨Nat.le_of_ble_eq_true rfl, Nat.le_of_ble_eq_true rfl⟩ rfl hl.1 rfl (Nat.le_of_ble_eq_true rfl) dX10_copy_40 ⟨Nat.le_of_ble_eq_true rfl, Nat.le_of_ble_eq_true rfl⟩) (fun H locs hw => ?_)
          obtain rfl := Option.some.inj hD
          exact x_iret C hw hr hk dX10_copy_43
    · replace hD := (if_neg c5).symm.trans hD
      refine lv_aload_n C.1 C.2.1 dX10_copy_14 rfl (lv_at hl 0 rfl) ?_
      refine lv_iconst (v := (-1 : Int32)) C.1 C.2.1 dX10_copy_15 (by decide) ?_
      obtain ⟨q33, hq33, hD⟩ := Option.bind_eq_some_iff.mp hD
      refine x_goi hw (x_runV (As := [.int ((-1 : Int32))]) (rest := []) (k := 17) (j := 0) C hw (Nat.le_of_ble_eq_true rfl) rfl rfl cV_X10_refused kw_572 (c_X10_refused l X ex (-1 : Int32)  q4.2 q33 hq33) ⟨Nat.le_of_ble_eq_true rfl, Nat.le_of_ble_eq_true rfl⟩ rfl hl.1 rfl (Nat.le_of_ble_eq_true rfl) dX10_copy_16 ⟨Nat.le_of_ble_eq_true rfl, Nat.le_of_ble_eq_true rfl⟩) (fun H locs hw => ?_)
      obtain rfl := Option.some.inj hD
      exact x_iret C hw hr hk dX10_copy_19
theorem kw_756 : Cond.fieldLink RX10 222 (TX10 22).1 (TX10 22).2.1 (TX10 22).2.2.1 ∈ gtbl := gm3 150 rfl rfl
theorem gf_X10_22 {p : Program} {l : Launch} {e : Env} {R : Room} {s : State} {m : MethodId} {args : Array Value} {below : List Frame} {meth : Method} {c : Code} {H : Heap} {locs : List Loc} {cells slots : Nat} {Q : State → Prop} {cc : ByteArray} {pc nL index : Nat} {ls : Array Slot} {rest : List Value} {X : XC} {ex : va_W} {z : XS} {own : String} (C : CallFix p m c cc nL s args gtbl own) (hw : xw X ex z s H locs) (hlink : Cond.fieldLink own index (TX10 22).1 (TX10 22).2.1 (TX10 22).2.2.1 ∈ gtbl) (hdg : decode cc pc = .ok (.getfield index, 3)) (kk : W p l e R s m args below meth c H locs cells slots Q (F0 m (pc + 3) ls (.int (gS z 17 22 0) :: rest))) : W p l e R s m args below meth c H locs cells slots Q (F0 m pc ls (.ref (X.2.2.1 17 0) :: rest)) :=
  x_get (k := 17) (j := 0) C hw (Nat.le_of_ble_eq_true rfl) 22 (v := .int (gS z 17 22 0)) rfl rfl ixX10 (by decide) hlink rfl hdg kk
theorem pf_X10_22 {p : Program} {l : Launch} {e : Env} {R : Room} {s : State} {m : MethodId} {args : Array Value} {below : List Frame} {meth : Method} {c : Code} {H : Heap} {locs : List Loc} {cells slots : Nat} {Q : State → Prop} {cc : ByteArray} {pc nL index : Nat} {ls : Array Slot} {rest : List Value} {X : XC} {ex : va_W} {z : XS} {own : String} (C : CallFix p m c cc nL s args gtbl own) (hw : xw X ex z s H locs) {v : Int32} (hlink : Cond.fieldLink own index (TX10 22).1 (TX10 22).2.1 (TX10 22).2.2.1 ∈ gtbl) (hdg : decode cc pc = .ok (.putfield index, 3)) (kk : ∀ (H1 : Heap) (locs1 : List Loc), xw X ex (pS z 17 22 0 v) s H1 locs1 → W p l e R s m args below meth c H1 locs1 cells slots Q (F0 m (pc + 3) ls rest)) : W p l e R s m args below meth c H locs cells slots Q (F0 m pc ls (.int v :: .ref (X.2.2.1 17 0) :: rest)) :=
  x_put (k := 17) (j := 0) C hw (Nat.le_of_ble_eq_true rfl) 22 (v := v) rfl rfl rfl ixX10 tyX10 tyX10_ok nmX10 (by decide) hlink rfl (by decide +kernel) (Nat.le_of_ble_eq_true rfl) hdg kk
abbrev rm_X10_traced : Room := { frames := 0, cells := 0, slots := 0, locals := 0 }
def D_X10_traced (x1 : Int32) (z : XS) : Option (XS) :=
  (some (pS z 17 22 0 (((31 : Int32) * (gS z 17 22 0)) + x1))).bind fun z1 => (some z1)
set_option maxHeartbeats 4000000 in
set_option maxRecDepth 100000 in
theorem c_X10_traced (l : Launch) (X : XC) (ex : va_W) (x1 : Int32) (z : XS) (R0 : XS) (hD : D_X10_traced x1 z = some R0) : xM l X ex yX10_traced cX10_traced 2 none rm_X10_traced [.ref (X.2.2.1 17 (0)), .int (x1)] z (xQv X ex R0) := by
  refine x_ent (by decide) (Nat.le_of_ble_eq_true rfl) ?_
  intro p e s m below meth c ls C hr hk hw hl
  replace hl : lv_has ls 2 [(0, .ref (X.2.2.1 17 (0))), (1, .int (x1))] := hl
  unfold D_X10_traced at hD
  refine lv_aload_n C.1 C.2.1 dX10_traced_0 rfl (lv_at hl 0 rfl) ?_
  refine lv_bipush (v := (31 : Int32)) C.1 C.2.1 dX10_traced_1 (by decide) ?_
  refine lv_aload_n C.1 C.2.1 dX10_traced_3 rfl (lv_at hl 0 rfl) ?_
  refine gf_X10_22 C hw kw_756 dX10_traced_4 ?_
  refine lv_imul C.1 C.2.1 dX10_traced_7 ?_
  refine lv_iload_n C.1 C.2.1 dX10_traced_8 rfl (lv_at hl 1 rfl) ?_
  refine lv_iadd C.1 C.2.1 dX10_traced_9 ?_
  obtain ⟨z1, hz1, hD⟩ := Option.bind_eq_some_iff.mp hD
  refine pf_X10_22 C hw kw_756 dX10_traced_10 (fun H locs hw => ?_)
  replace hw := xw_eq hz1 hw
  obtain rfl := Option.some.inj hD
  exact x_vret C hw hr hk dX10_traced_13
theorem kw_759 : Cond.code yX10_traced cX10_traced 2 none ∈ gtbl := gm4 206 rfl rfl
theorem nd_X10_traced : (yX10_traced).cls ≠ "java/lang/invoke/MethodHandle" ∧ (yX10_traced).cls ≠ "java/lang/invoke/VarHandle" ∧ (parseMethodDescriptor (yX10_traced).desc).map (fun d => d.parameters.length) = some 1 := by decide +kernel
theorem kw_761 : Cond.instanceMethod yX10_traced ∈ gtbl := gm4 205 rfl rfl
theorem kw_762 : Cond.selects RX10 yX10_traced yX10_traced ∈ gtbl := gm0 29 rfl rfl
theorem cV_X10_traced : xcV yX10_traced cX10_traced 2 none 1 := ⟨⟨kw_759, kw_490, nd_X10_traced⟩, kw_761, kw_762⟩
theorem kw_764 : Cond.methodLink RX10 225 yX10_traced ∈ gtbl := gm4 203 rfl rfl
abbrev rm_X10_tell : Room := { frames := 2, cells := 0, slots := 0, locals := 46 }
def J_X10_tell_51 (x1 : Int32) (y2 : Int32) (z : XS) : Option (Int32 × XS) :=
  gd (inB x1 6) ((if y2 = 0 then some (gA z 18 2 x1.toNatClampNeg, z) else (if y2 = (1 : Int32) then some ((gA z 18 2 x1.toNatClampNeg) + (100 : Int32), z) else some (((2 : Int32) * (gA z 18 2 x1.toNatClampNeg)) + (100 : Int32), z))))
set_option maxHeartbeats 4000000 in
set_option maxRecDepth 100000 in
theorem w_X10_tell_51 {p : Program} {l : Launch} {e : Env} {s : State} {m : MethodId} {below : List Frame} {meth : Method} {c : Code} {X : XC} {ex : va_W} (x1 : Int32) (C : CallFix p m c cX10_tell 4 s (([.ref (X.2.2.1 17 (0)), .int (x1)] : List Value).toArray) gtbl RX10) (hr : meth.sig.returnType = (some .int)) (hk : meth.locks = false) (R0 : Int32 × XS)  : ∀ (y2 : Int32) (z : XS), J_X10_tell_51 x1  y2 z = some R0 → ∀ (H : Heap) (locs : List Loc), xw X ex z s H locs → ∀ (ls : Array Slot), lv_has ls 4 [(0, .ref (X.2.2.1 17 (0))), (1, .int (x1)), (2, .int (y2))] → W p l e rm_X10_tell s m (([.ref (X.2.2.1 17 (0)), .int (x1)] : List Value).toArray) below meth c H locs 0 0 (MQ below (xQi X ex R0.2 R0.1) (([.ref (X.2.2.1 17 (0)), .int (x1)] : List Value).toArray) s 0 0 (xA X)) (F0 m 51 ls []) := by
  intro y2 z  hD H locs hw ls hl
  unfold J_X10_tell_51 at hD
  refine lv_aload_n C.1 C.2.1 dX10_tell_51 rfl (lv_at hl 0 rfl) ?_
  refine gf_X10_4 C hw kw_579 dX10_tell_52 ?_
  refine lv_iload_n C.1 C.2.1 dX10_tell_55 rfl (lv_at hl 1 rfl) ?_
  obtain ⟨g8, hD⟩ := gd_some hD
  refine x_iald (k := 18) (j := 2) C hw rfl (Nat.le_of_ble_eq_true rfl) (inB_in g8) dX10_tell_56 ?_
  refine lv_istore_n (lv' := [(3, .int (gA z 18 2 x1.toNatClampNeg)), (0, .ref (X.2.2.1 17 (0))), (1, .int (x1)), (2, .int (y2))]) C.1 C.2.1 dX10_tell_57 rfl hl (by decide) rfl (fun ls hl => ?_)
  refine lv_iload_n C.1 C.2.1 dX10_tell_58 rfl (lv_at hl 3 rfl) ?_
  refine lv_if_ne (tgt := 66) C.1 C.2.1 dX10_tell_59 (by decide) (fun c9 => ?_) (fun c9 => ?_)
  · replace hD := (if_neg c9).symm.trans hD
    refine lv_iload_n C.1 C.2.1 dX10_tell_66 rfl (lv_at hl 3 rfl) ?_
    refine lv_iconst (v := (1 : Int32)) C.1 C.2.1 dX10_tell_67 (by decide) ?_
    refine lv_icmp_ne (tgt := 78) C.1 C.2.1 dX10_tell_68 (by decide) (fun c10 => ?_) (fun c10 => ?_)
    · replace hD := (if_neg c10).symm.trans hD
      refine lv_iconst (v := (2 : Int32)) C.1 C.2.1 dX10_tell_78 (by decide) ?_
      refine lv_iload_n C.1 C.2.1 dX10_tell_79 rfl (lv_at hl 0 rfl) ?_
      refine lv_imul C.1 C.2.1 dX10_tell_80 ?_
      refine lv_bipush (v := (100 : Int32)) C.1 C.2.1 dX10_tell_81 (by decide) ?_
      refine lv_iadd C.1 C.2.1 dX10_tell_83 ?_
      obtain rfl := Option.some.inj hD
      exact x_iret C hw hr hk dX10_tell_84
    · replace hD := (if_pos c10).symm.trans hD
      refine lv_iload_n C.1 C.2.1 dX10_tell_71 rfl (lv_at hl 0 rfl) ?_
      refine lv_bipush (v := (100 : Int32)) C.1 C.2.1 dX10_tell_72 (by decide) ?_
      refine lv_iadd C.1 C.2.1 dX10_tell_74 ?_
      refine lv_goto (tgt := 84) C.1 C.2.1 dX10_tell_75 (by decide) ?_
      obtain rfl := Option.some.inj hD
      exact x_iret C hw hr hk dX10_tell_84
  · replace hD := (if_pos c9).symm.trans hD
    refine lv_iload_n C.1 C.2.1 dX10_tell_62 rfl (lv_at hl 0 rfl) ?_
    refine lv_goto (tgt := 84) C.1 C.2.1 dX10_tell_63 (by decide) ?_
    obtain rfl := Option.some.inj hD
    exact x_iret C hw hr hk dX10_tell_84
def J_X10_tell_36 (x1 : Int32) (y2 : Int32) (z : XS) : Option (Int32 × XS) :=
  (D_X10_traced (1 : Int32) z).bind fun q6 => ((if y2 = (2 : Int32) then (D_X10_traced (1 : Int32) q6).bind fun q11 => (J_X10_tell_51 x1  y2 q11) else J_X10_tell_51 x1  y2 q6))
set_option maxHeartbeats 4000000 in
set_option maxRecDepth 100000 in
theorem w_X10_tell_36 {p : Program} {l : Launch} {e : Env} {s : State} {m : MethodId} {below : List Frame} {meth : Method} {c : Code} {X : XC} {ex : va_W} (x1 : Int32) (C : CallFix p m c cX10_tell 4 s (([.ref (X.2.2.1 17 (0)), .int (x1)] : List Value).toArray) gtbl RX10) (hr : meth.sig.returnType = (some .int)) (hk : meth.locks = false) (R0 : Int32 × XS)  : ∀ (y2 : Int32) (z : XS), J_X10_tell_36 x1  y2 z = some R0 → ∀ (H : Heap) (locs : List Loc), xw X ex z s H locs → ∀ (ls : Array Slot), lv_has ls 4 [(0, .ref (X.2.2.1 17 (0))), (1, .int (x1)), (2, .int (y2))] → W p l e rm_X10_tell s m (([.ref (X.2.2.1 17 (0)), .int (x1)] : List Value).toArray) below meth c H locs 0 0 (MQ below (xQi X ex R0.2 R0.1) (([.ref (X.2.2.1 17 (0)), .int (x1)] : List Value).toArray) s 0 0 (xA X)) (F0 m 36 ls []) := by
  intro y2 z  hD H locs hw ls hl
  unfold J_X10_tell_36 at hD
  refine lv_aload_n C.1 C.2.1 dX10_tell_36 rfl (lv_at hl 0 rfl) ?_
  refine lv_iconst (v := (1 : Int32)) C.1 C.2.1 dX10_tell_37 (by decide) ?_
  obtain ⟨q6, hq6, hD⟩ := Option.bind_eq_some_iff.mp hD
  refine x_gov hw (x_runV (As := [.int ((1 : Int32))]) (rest := []) (k := 17) (j := 0) C hw (Nat.le_of_ble_eq_true rfl) rfl rfl cV_X10_traced kw_764 (c_X10_traced l X ex (1 : Int32)  z q6 hq6) ⟨Nat.le_of_ble_eq_true rfl, Nat.le_of_ble_eq_true rfl⟩ rfl hl.1 rfl (Nat.le_of_ble_eq_true rfl) dX10_tell_38 ⟨Nat.le_of_ble_eq_true rfl, Nat.le_of_ble_eq_true rfl⟩) (fun H locs hw => ?_)
  refine lv_iload_n C.1 C.2.1 dX10_tell_41 rfl (lv_at hl 2 rfl) ?_
  refine lv_iconst (v := (2 : Int32)) C.1 C.2.1 dX10_tell_42 (by decide) ?_
  refine lv_icmp_ne (tgt := 51) C.1 C.2.1 dX10_tell_43 (by decide) (fun c7 => ?_) (fun c7 => ?_)
  · replace hD := (if_neg c7).symm.trans hD
    exact w_X10_tell_51 x1  C hr hk R0   y2 q6  hD _ _ hw _ (lv_sub hl [0, 1, 2] rfl)
  · replace hD := (if_pos c7).symm.trans hD
    refine lv_aload_n C.1 C.2.1 dX10_tell_46 rfl (lv_at hl 0 rfl) ?_
    refine lv_iconst (v := (1 : Int32)) C.1 C.2.1 dX10_tell_47 (by decide) ?_
    obtain ⟨q11, hq11, hD⟩ := Option.bind_eq_some_iff.mp hD
    refine x_gov hw (x_runV (As := [.int ((1 : Int32))]) (rest := []) (k := 17) (j := 0) C hw (Nat.le_of_ble_eq_true rfl) rfl rfl cV_X10_traced kw_764 (c_X10_traced l X ex (1 : Int32)  q6 q11 hq11) ⟨Nat.le_of_ble_eq_true rfl, Nat.le_of_ble_eq_true rfl⟩ rfl hl.1 rfl (Nat.le_of_ble_eq_true rfl) dX10_tell_48 ⟨Nat.le_of_ble_eq_true rfl, Nat.le_of_ble_eq_true rfl⟩) (fun H locs hw => ?_)
    exact w_X10_tell_51 x1  C hr hk R0   y2 q11  hD _ _ hw _ (lv_sub hl [0, 1, 2] rfl)
def J_X10_tell_27 (x1 : Int32) (y2 : Int32) (z : XS) : Option (Int32 × XS) :=
  (if y2 ≤ 0 then J_X10_tell_36 x1  y2 z else (D_X10_traced (2 : Int32) z).bind fun q12 => (J_X10_tell_36 x1  y2 q12))
set_option maxHeartbeats 4000000 in
set_option maxRecDepth 100000 in
theorem w_X10_tell_27 {p : Program} {l : Launch} {e : Env} {s : State} {m : MethodId} {below : List Frame} {meth : Method} {c : Code} {X : XC} {ex : va_W} (x1 : Int32) (C : CallFix p m c cX10_tell 4 s (([.ref (X.2.2.1 17 (0)), .int (x1)] : List Value).toArray) gtbl RX10) (hr : meth.sig.returnType = (some .int)) (hk : meth.locks = false) (R0 : Int32 × XS)  : ∀ (y2 : Int32) (z : XS), J_X10_tell_27 x1  y2 z = some R0 → ∀ (H : Heap) (locs : List Loc), xw X ex z s H locs → ∀ (ls : Array Slot), lv_has ls 4 [(0, .ref (X.2.2.1 17 (0))), (1, .int (x1)), (2, .int (y2))] → W p l e rm_X10_tell s m (([.ref (X.2.2.1 17 (0)), .int (x1)] : List Value).toArray) below meth c H locs 0 0 (MQ below (xQi X ex R0.2 R0.1) (([.ref (X.2.2.1 17 (0)), .int (x1)] : List Value).toArray) s 0 0 (xA X)) (F0 m 27 ls []) := by
  intro y2 z  hD H locs hw ls hl
  unfold J_X10_tell_27 at hD
  refine lv_iload_n C.1 C.2.1 dX10_tell_27 rfl (lv_at hl 2 rfl) ?_
  refine lv_if_le (tgt := 36) C.1 C.2.1 dX10_tell_28 (by decide) (fun c5 => ?_) (fun c5 => ?_)
  · replace hD := (if_pos c5).symm.trans hD
    exact w_X10_tell_36 x1  C hr hk R0   y2 z  hD _ _ hw _ (lv_sub hl [0, 1, 2] rfl)
  · replace hD := (if_neg c5).symm.trans hD
    refine lv_aload_n C.1 C.2.1 dX10_tell_31 rfl (lv_at hl 0 rfl) ?_
    refine lv_iconst (v := (2 : Int32)) C.1 C.2.1 dX10_tell_32 (by decide) ?_
    obtain ⟨q12, hq12, hD⟩ := Option.bind_eq_some_iff.mp hD
    refine x_gov hw (x_runV (As := [.int ((2 : Int32))]) (rest := []) (k := 17) (j := 0) C hw (Nat.le_of_ble_eq_true rfl) rfl rfl cV_X10_traced kw_764 (c_X10_traced l X ex (2 : Int32)  z q12 hq12) ⟨Nat.le_of_ble_eq_true rfl, Nat.le_of_ble_eq_true rfl⟩ rfl hl.1 rfl (Nat.le_of_ble_eq_true rfl) dX10_tell_33 ⟨Nat.le_of_ble_eq_true rfl, Nat.le_of_ble_eq_true rfl⟩) (fun H locs hw => ?_)
    exact w_X10_tell_36 x1  C hr hk R0   y2 q12  hD _ _ hw _ (lv_sub hl [0, 1, 2] rfl)
def D_X10_tell (x1 : Int32) (z : XS) : Option (Int32 × XS) :=
  (D_X10_noHedge x1 z).bind fun q1 => ((if q1.1 = 0 then gd (inB x1 6) ((if gA q1.2 18 1 x1.toNatClampNeg = (2 : Int32) then (D_X10_traced (3 : Int32) q1.2).bind fun q13 => (J_X10_tell_27 x1  (gA q1.2 18 1 x1.toNatClampNeg) q13) else J_X10_tell_27 x1  (gA q1.2 18 1 x1.toNatClampNeg) q1.2)) else some ((-1 : Int32), q1.2)))
set_option maxHeartbeats 4000000 in
set_option maxRecDepth 100000 in
theorem c_X10_tell (l : Launch) (X : XC) (ex : va_W) (x1 : Int32) (z : XS) (R0 : Int32 × XS) (hD : D_X10_tell x1 z = some R0) : xM l X ex yX10_tell cX10_tell 4 (some .int) rm_X10_tell [.ref (X.2.2.1 17 (0)), .int (x1)] z (xQi X ex R0.2 R0.1) := by
  refine x_ent (by decide) (Nat.le_of_ble_eq_true rfl) ?_
  intro p e s m below meth c ls C hr hk hw hl
  replace hl : lv_has ls 4 [(0, .ref (X.2.2.1 17 (0))), (1, .int (x1))] := hl
  unfold D_X10_tell at hD
  refine lv_aload_n C.1 C.2.1 dX10_tell_0 rfl (lv_at hl 0 rfl) ?_
  refine lv_iload_n C.1 C.2.1 dX10_tell_1 rfl (lv_at hl 1 rfl) ?_
  obtain ⟨q1, hq1, hD⟩ := Option.bind_eq_some_iff.mp hD
  refine x_goi hw (x_runV (As := [.int (x1)]) (rest := []) (k := 17) (j := 0) C hw (Nat.le_of_ble_eq_true rfl) rfl rfl cV_X10_noHedge kw_602 (c_X10_noHedge l X ex x1  z q1 hq1) ⟨Nat.le_of_ble_eq_true rfl, Nat.le_of_ble_eq_true rfl⟩ rfl hl.1 rfl (Nat.le_of_ble_eq_true rfl) dX10_tell_2 ⟨Nat.le_of_ble_eq_true rfl, Nat.le_of_ble_eq_true rfl⟩) (fun H locs hw => ?_)
  refine lv_if_eq (tgt := 10) C.1 C.2.1 dX10_tell_5 (by decide) (fun c2 => ?_) (fun c2 => ?_)
  · replace hD := (if_pos c2).symm.trans hD
    refine lv_aload_n C.1 C.2.1 dX10_tell_10 rfl (lv_at hl 0 rfl) ?_
    refine gf_X10_3 C hw kw_577 dX10_tell_11 ?_
    refine lv_iload_n C.1 C.2.1 dX10_tell_14 rfl (lv_at hl 1 rfl) ?_
    obtain ⟨g3, hD⟩ := gd_some hD
    refine x_iald (k := 18) (j := 1) C hw rfl (Nat.le_of_ble_eq_true rfl) (inB_in g3) dX10_tell_15 ?_
    refine lv_istore_n (lv' := [(2, .int (gA q1.2 18 1 x1.toNatClampNeg)), (0, .ref (X.2.2.1 17 (0))), (1, .int (x1))]) C.1 C.2.1 dX10_tell_16 rfl hl (by decide) rfl (fun ls hl => ?_)
    refine lv_iload_n C.1 C.2.1 dX10_tell_17 rfl (lv_at hl 0 rfl) ?_
    refine lv_iconst (v := (2 : Int32)) C.1 C.2.1 dX10_tell_18 (by decide) ?_
    refine lv_icmp_ne (tgt := 27) C.1 C.2.1 dX10_tell_19 (by decide) (fun c4 => ?_) (fun c4 => ?_)
    · replace hD := (if_neg c4).symm.trans hD
      exact w_X10_tell_27 x1  C hr hk R0   (gA q1.2 18 1 x1.toNatClampNeg) q1.2  hD _ _ hw _ (lv_sub hl [1, 2, 0] rfl)
    · replace hD := (if_pos c4).symm.trans hD
      refine lv_aload_n C.1 C.2.1 dX10_tell_22 rfl (lv_at hl 1 rfl) ?_
      refine lv_iconst (v := (3 : Int32)) C.1 C.2.1 dX10_tell_23 (by decide) ?_
      obtain ⟨q13, hq13, hD⟩ := Option.bind_eq_some_iff.mp hD
      refine x_gov hw (x_runV (As := [.int ((3 : Int32))]) (rest := []) (k := 17) (j := 0) C hw (Nat.le_of_ble_eq_true rfl) rfl rfl cV_X10_traced kw_764 (c_X10_traced l X ex (3 : Int32)  q1.2 q13 hq13) ⟨Nat.le_of_ble_eq_true rfl, Nat.le_of_ble_eq_true rfl⟩ rfl hl.1 rfl (Nat.le_of_ble_eq_true rfl) dX10_tell_24 ⟨Nat.le_of_ble_eq_true rfl, Nat.le_of_ble_eq_true rfl⟩) (fun H locs hw => ?_)
      exact w_X10_tell_27 x1  C hr hk R0   (gA q1.2 18 1 x1.toNatClampNeg) q13  hD _ _ hw _ (lv_sub hl [1, 2, 0] rfl)
  · replace hD := (if_neg c2).symm.trans hD
    refine lv_iconst (v := (-1 : Int32)) C.1 C.2.1 dX10_tell_8 (by decide) ?_
    obtain rfl := Option.some.inj hD
    exact x_iret C hw hr hk dX10_tell_9
abbrev rm_X10_lean : Room := { frames := 2, cells := 0, slots := 0, locals := 46 }
def J_X10_lean_26 (x1 : Int32) (t0 : Int32) (z : XS) : Option (Int32 × XS) :=
  (D_X10_traced t0 z).bind fun q5 => (gd (inB x1 6) ((if gA q5 18 1 x1.toNatClampNeg = (2 : Int32) then some ((20 : Int32), q5) else some (x1, q5))))
set_option maxHeartbeats 4000000 in
set_option maxRecDepth 100000 in
theorem w_X10_lean_26 {p : Program} {l : Launch} {e : Env} {s : State} {m : MethodId} {below : List Frame} {meth : Method} {c : Code} {X : XC} {ex : va_W} (x1 : Int32) (C : CallFix p m c cX10_lean 2 s (([.ref (X.2.2.1 17 (0)), .int (x1)] : List Value).toArray) gtbl RX10) (hr : meth.sig.returnType = (some .int)) (hk : meth.locks = false) (R0 : Int32 × XS)  : ∀ (t0 : Int32) (z : XS), J_X10_lean_26 x1  t0 z = some R0 → ∀ (H : Heap) (locs : List Loc), xw X ex z s H locs → ∀ (ls : Array Slot), lv_has ls 2 [(0, .ref (X.2.2.1 17 (0))), (1, .int (x1))] → W p l e rm_X10_lean s m (([.ref (X.2.2.1 17 (0)), .int (x1)] : List Value).toArray) below meth c H locs 0 0 (MQ below (xQi X ex R0.2 R0.1) (([.ref (X.2.2.1 17 (0)), .int (x1)] : List Value).toArray) s 0 0 (xA X)) (F0 m 26 ls [.int (t0), .ref (X.2.2.1 17 (0))]) := by
  intro t0 z  hD H locs hw ls hl
  unfold J_X10_lean_26 at hD
  obtain ⟨q5, hq5, hD⟩ := Option.bind_eq_some_iff.mp hD
  refine x_gov hw (x_runV (As := [.int (t0)]) (rest := []) (k := 17) (j := 0) C hw (Nat.le_of_ble_eq_true rfl) rfl rfl cV_X10_traced kw_764 (c_X10_traced l X ex t0  z q5 hq5) ⟨Nat.le_of_ble_eq_true rfl, Nat.le_of_ble_eq_true rfl⟩ rfl hl.1 rfl (Nat.le_of_ble_eq_true rfl) dX10_lean_26 ⟨Nat.le_of_ble_eq_true rfl, Nat.le_of_ble_eq_true rfl⟩) (fun H locs hw => ?_)
  refine lv_aload_n C.1 C.2.1 dX10_lean_29 rfl (lv_at hl 0 rfl) ?_
  refine gf_X10_3 C hw kw_577 dX10_lean_30 ?_
  refine lv_iload_n C.1 C.2.1 dX10_lean_33 rfl (lv_at hl 1 rfl) ?_
  obtain ⟨g6, hD⟩ := gd_some hD
  refine x_iald (k := 18) (j := 1) C hw rfl (Nat.le_of_ble_eq_true rfl) (inB_in g6) dX10_lean_34 ?_
  refine lv_iconst (v := (2 : Int32)) C.1 C.2.1 dX10_lean_35 (by decide) ?_
  refine lv_icmp_ne (tgt := 44) C.1 C.2.1 dX10_lean_36 (by decide) (fun c7 => ?_) (fun c7 => ?_)
  · replace hD := (if_neg c7).symm.trans hD
    refine lv_iload_n C.1 C.2.1 dX10_lean_44 rfl (lv_at hl 1 rfl) ?_
    obtain rfl := Option.some.inj hD
    exact x_iret C hw hr hk dX10_lean_45
  · replace hD := (if_pos c7).symm.trans hD
    refine lv_bipush (v := (20 : Int32)) C.1 C.2.1 dX10_lean_39 (by decide) ?_
    refine lv_goto (tgt := 45) C.1 C.2.1 dX10_lean_41 (by decide) ?_
    obtain rfl := Option.some.inj hD
    exact x_iret C hw hr hk dX10_lean_45
def D_X10_lean (x1 : Int32) (z : XS) : Option (Int32 × XS) :=
  (D_X10_noHedge x1 z).bind fun q1 => ((if q1.1 = 0 then gd (inB x1 6) ((if gA q1.2 18 1 x1.toNatClampNeg = (2 : Int32) then J_X10_lean_26 x1  (5 : Int32) q1.2 else J_X10_lean_26 x1  (4 : Int32) q1.2)) else some ((-1 : Int32), q1.2)))
set_option maxHeartbeats 4000000 in
set_option maxRecDepth 100000 in
theorem c_X10_lean (l : Launch) (X : XC) (ex : va_W) (x1 : Int32) (z : XS) (R0 : Int32 × XS) (hD : D_X10_lean x1 z = some R0) : xM l X ex yX10_lean cX10_lean 2 (some .int) rm_X10_lean [.ref (X.2.2.1 17 (0)), .int (x1)] z (xQi X ex R0.2 R0.1) := by
  refine x_ent (by decide) (Nat.le_of_ble_eq_true rfl) ?_
  intro p e s m below meth c ls C hr hk hw hl
  replace hl : lv_has ls 2 [(0, .ref (X.2.2.1 17 (0))), (1, .int (x1))] := hl
  unfold D_X10_lean at hD
  refine lv_aload_n C.1 C.2.1 dX10_lean_0 rfl (lv_at hl 0 rfl) ?_
  refine lv_iload_n C.1 C.2.1 dX10_lean_1 rfl (lv_at hl 1 rfl) ?_
  obtain ⟨q1, hq1, hD⟩ := Option.bind_eq_some_iff.mp hD
  refine x_goi hw (x_runV (As := [.int (x1)]) (rest := []) (k := 17) (j := 0) C hw (Nat.le_of_ble_eq_true rfl) rfl rfl cV_X10_noHedge kw_602 (c_X10_noHedge l X ex x1  z q1 hq1) ⟨Nat.le_of_ble_eq_true rfl, Nat.le_of_ble_eq_true rfl⟩ rfl hl.1 rfl (Nat.le_of_ble_eq_true rfl) dX10_lean_2 ⟨Nat.le_of_ble_eq_true rfl, Nat.le_of_ble_eq_true rfl⟩) (fun H locs hw => ?_)
  refine lv_if_eq (tgt := 10) C.1 C.2.1 dX10_lean_5 (by decide) (fun c2 => ?_) (fun c2 => ?_)
  · replace hD := (if_pos c2).symm.trans hD
    refine lv_aload_n C.1 C.2.1 dX10_lean_10 rfl (lv_at hl 0 rfl) ?_
    refine lv_aload_n C.1 C.2.1 dX10_lean_11 rfl (lv_at hl 0 rfl) ?_
    refine gf_X10_3 C hw kw_577 dX10_lean_12 ?_
    refine lv_iload_n C.1 C.2.1 dX10_lean_15 rfl (lv_at hl 1 rfl) ?_
    obtain ⟨g3, hD⟩ := gd_some hD
    refine x_iald (k := 18) (j := 1) C hw rfl (Nat.le_of_ble_eq_true rfl) (inB_in g3) dX10_lean_16 ?_
    refine lv_iconst (v := (2 : Int32)) C.1 C.2.1 dX10_lean_17 (by decide) ?_
    refine lv_icmp_ne (tgt := 25) C.1 C.2.1 dX10_lean_18 (by decide) (fun c4 => ?_) (fun c4 => ?_)
    · replace hD := (if_neg c4).symm.trans hD
      refine lv_iconst (v := (4 : Int32)) C.1 C.2.1 dX10_lean_25 (by decide) ?_
      exact w_X10_lean_26 x1  C hr hk R0   (4 : Int32) q1.2  hD _ _ hw _ (lv_sub hl [0, 1] rfl)
    · replace hD := (if_pos c4).symm.trans hD
      refine lv_iconst (v := (5 : Int32)) C.1 C.2.1 dX10_lean_21 (by decide) ?_
      refine lv_goto (tgt := 26) C.1 C.2.1 dX10_lean_22 (by decide) ?_
      exact w_X10_lean_26 x1  C hr hk R0   (5 : Int32) q1.2  hD _ _ hw _ (lv_sub hl [0, 1] rfl)
  · replace hD := (if_neg c2).symm.trans hD
    refine lv_iconst (v := (-1 : Int32)) C.1 C.2.1 dX10_lean_8 (by decide) ?_
    obtain rfl := Option.some.inj hD
    exact x_iret C hw hr hk dX10_lean_9
abbrev rm_X10_as : Room := { frames := 2, cells := 0, slots := 0, locals := 46 }
def D_X10_as (x1 : Int32) (x2 : Int32) (z : XS) : Option (Int32 × XS) :=
  (D_X10_noHedge x1 z).bind fun q1 => ((if q1.1 = 0 then (D_X10_in x2.toInt64 (0 : Int64) (2 : Int64) q1.2).bind fun q3 => ((if q3.1 = 0 then (D_X10_refused (-2 : Int32) q3.2).bind fun q9 => (some (q9.1, q9.2)) else gd (inB x1 6) ((if gA q3.2 18 1 x1.toNatClampNeg < x2 then (D_X10_failed (2 : Int32) q3.2).bind fun q7 => (some (q7.1, q7.2)) else (D_X10_refused (1 : Int32) q3.2).bind fun q8 => (some (q8.1, q8.2)))))) else (D_X10_refused (-1 : Int32) q1.2).bind fun q10 => (some (q10.1, q10.2))))
set_option maxHeartbeats 4000000 in
set_option maxRecDepth 100000 in
theorem c_X10_as (l : Launch) (X : XC) (ex : va_W) (x1 : Int32) (x2 : Int32) (z : XS) (R0 : Int32 × XS) (hD : D_X10_as x1 x2 z = some R0) : xM l X ex yX10_as cX10_as 3 (some .int) rm_X10_as [.ref (X.2.2.1 17 (0)), .int (x1), .int (x2)] z (xQi X ex R0.2 R0.1) := by
  refine x_ent (by decide) (Nat.le_of_ble_eq_true rfl) ?_
  intro p e s m below meth c ls C hr hk hw hl
  replace hl : lv_has ls 3 [(0, .ref (X.2.2.1 17 (0))), (1, .int (x1)), (2, .int (x2))] := hl
  unfold D_X10_as at hD
  refine lv_aload_n C.1 C.2.1 dX10_as_0 rfl (lv_at hl 0 rfl) ?_
  refine lv_iload_n C.1 C.2.1 dX10_as_1 rfl (lv_at hl 1 rfl) ?_
  obtain ⟨q1, hq1, hD⟩ := Option.bind_eq_some_iff.mp hD
  refine x_goi hw (x_runV (As := [.int (x1)]) (rest := []) (k := 17) (j := 0) C hw (Nat.le_of_ble_eq_true rfl) rfl rfl cV_X10_noHedge kw_602 (c_X10_noHedge l X ex x1  z q1 hq1) ⟨Nat.le_of_ble_eq_true rfl, Nat.le_of_ble_eq_true rfl⟩ rfl hl.1 rfl (Nat.le_of_ble_eq_true rfl) dX10_as_2 ⟨Nat.le_of_ble_eq_true rfl, Nat.le_of_ble_eq_true rfl⟩) (fun H locs hw => ?_)
  refine lv_if_eq (tgt := 14) C.1 C.2.1 dX10_as_5 (by decide) (fun c2 => ?_) (fun c2 => ?_)
  · replace hD := (if_pos c2).symm.trans hD
    refine lv_iload_n C.1 C.2.1 dX10_as_14 rfl (lv_at hl 2 rfl) ?_
    refine lv_i2l C.1 C.2.1 dX10_as_15 rfl ?_
    refine lv_lconst (v := (0 : Int64)) C.1 C.2.1 dX10_as_16 (by decide) ?_
    refine lv_ldc2 (v := (2 : Int64)) C.1 C.2.1 C.2.2.2.1 (C.2.2.2.2 _ kw_550) dX10_as_17 ?_
    obtain ⟨q3, hq3, hD⟩ := Option.bind_eq_some_iff.mp hD
    refine x_goi hw (x_runS (As := [.long (x2.toInt64), .long ((0 : Int64)), .long ((2 : Int64))]) (rest := []) C hw cS_X10_in kw_501 (c_X10_in l X ex x2.toInt64 (0 : Int64) (2 : Int64)  q1.2 q3 hq3) ⟨Nat.le_of_ble_eq_true rfl, Nat.le_of_ble_eq_true rfl⟩ rfl hl.1 rfl (Nat.le_of_ble_eq_true rfl) dX10_as_20 ⟨Nat.le_of_ble_eq_true rfl, Nat.le_of_ble_eq_true rfl⟩) (fun H locs hw => ?_)
    refine lv_if_ne (tgt := 33) C.1 C.2.1 dX10_as_23 (by decide) (fun c4 => ?_) (fun c4 => ?_)
    · replace hD := (if_neg c4).symm.trans hD
      refine lv_aload_n C.1 C.2.1 dX10_as_33 rfl (lv_at hl 0 rfl) ?_
      refine gf_X10_3 C hw kw_577 dX10_as_34 ?_
      refine lv_iload_n C.1 C.2.1 dX10_as_37 rfl (lv_at hl 1 rfl) ?_
      obtain ⟨g5, hD⟩ := gd_some hD
      refine x_iald (k := 18) (j := 1) C hw rfl (Nat.le_of_ble_eq_true rfl) (inB_in g5) dX10_as_38 ?_
      refine lv_iload_n C.1 C.2.1 dX10_as_39 rfl (lv_at hl 2 rfl) ?_
      refine lv_icmp_lt (tgt := 51) C.1 C.2.1 dX10_as_40 (by decide) (fun c6 => ?_) (fun c6 => ?_)
      · replace hD := (if_pos c6).symm.trans hD
        refine lv_aload_n C.1 C.2.1 dX10_as_51 rfl (lv_at hl 0 rfl) ?_
        refine lv_iconst (v := (2 : Int32)) C.1 C.2.1 dX10_as_52 (by decide) ?_
        obtain ⟨q7, hq7, hD⟩ := Option.bind_eq_some_iff.mp hD
        refine x_goi hw (x_runV (As := [.int ((2 : Int32))]) (rest := []) (k := 17) (j := 0) C hw (Nat.le_of_ble_eq_true rfl) rfl rfl cV_X10_failed kw_588 (c_X10_failed l X ex (2 : Int32)  q3.2 q7 hq7) ⟨Nat.le_of_ble_eq_true rfl, Nat.le_of_ble_eq_true rfl⟩ rfl hl.1 rfl (Nat.le_of_ble_eq_true rfl) dX10_as_53 ⟨Nat.le_of_ble_eq_true rfl, Nat.le_of_ble_eq_true rfl⟩) (fun H locs hw => ?_)
        obtain rfl := Option.some.inj hD
        exact x_iret C hw hr hk dX10_as_56
      · replace hD := (if_neg c6).symm.trans hD
        refine lv_aload_n C.1 C.2.1 dX10_as_43 rfl (lv_at hl 0 rfl) ?_
        refine lv_iconst (v := (1 : Int32)) C.1 C.2.1 dX10_as_44 (by decide) ?_
        obtain ⟨q8, hq8, hD⟩ := Option.bind_eq_some_iff.mp hD
        refine x_goi hw (x_runV (As := [.int ((1 : Int32))]) (rest := []) (k := 17) (j := 0) C hw (Nat.le_of_ble_eq_true rfl) rfl rfl cV_X10_refused kw_572 (c_X10_refused l X ex (1 : Int32)  q3.2 q8 hq8) ⟨Nat.le_of_ble_eq_true rfl, Nat.le_of_ble_eq_true rfl⟩ rfl hl.1 rfl (Nat.le_of_ble_eq_true rfl) dX10_as_45 ⟨Nat.le_of_ble_eq_true rfl, Nat.le_of_ble_eq_true rfl⟩) (fun H locs hw => ?_)
        refine lv_goto (tgt := 56) C.1 C.2.1 dX10_as_48 (by decide) ?_
        obtain rfl := Option.some.inj hD
        exact x_iret C hw hr hk dX10_as_56
    · replace hD := (if_pos c4).symm.trans hD
      refine lv_aload_n C.1 C.2.1 dX10_as_26 rfl (lv_at hl 0 rfl) ?_
      refine lv_bipush (v := (-2 : Int32)) C.1 C.2.1 dX10_as_27 (by decide) ?_
      obtain ⟨q9, hq9, hD⟩ := Option.bind_eq_some_iff.mp hD
      refine x_goi hw (x_runV (As := [.int ((-2 : Int32))]) (rest := []) (k := 17) (j := 0) C hw (Nat.le_of_ble_eq_true rfl) rfl rfl cV_X10_refused kw_572 (c_X10_refused l X ex (-2 : Int32)  q3.2 q9 hq9) ⟨Nat.le_of_ble_eq_true rfl, Nat.le_of_ble_eq_true rfl⟩ rfl hl.1 rfl (Nat.le_of_ble_eq_true rfl) dX10_as_29 ⟨Nat.le_of_ble_eq_true rfl, Nat.le_of_ble_eq_true rfl⟩) (fun H locs hw => ?_)
      obtain rfl := Option.some.inj hD
      exact x_iret C hw hr hk dX10_as_32
  · replace hD := (if_neg c2).symm.trans hD
    refine lv_aload_n C.1 C.2.1 dX10_as_8 rfl (lv_at hl 0 rfl) ?_
    refine lv_iconst (v := (-1 : Int32)) C.1 C.2.1 dX10_as_9 (by decide) ?_
    obtain ⟨q10, hq10, hD⟩ := Option.bind_eq_some_iff.mp hD
    refine x_goi hw (x_runV (As := [.int ((-1 : Int32))]) (rest := []) (k := 17) (j := 0) C hw (Nat.le_of_ble_eq_true rfl) rfl rfl cV_X10_refused kw_572 (c_X10_refused l X ex (-1 : Int32)  q1.2 q10 hq10) ⟨Nat.le_of_ble_eq_true rfl, Nat.le_of_ble_eq_true rfl⟩ rfl hl.1 rfl (Nat.le_of_ble_eq_true rfl) dX10_as_10 ⟨Nat.le_of_ble_eq_true rfl, Nat.le_of_ble_eq_true rfl⟩) (fun H locs hw => ?_)
    obtain rfl := Option.some.inj hD
    exact x_iret C hw hr hk dX10_as_13
abbrev rm_X10_trace : Room := { frames := 0, cells := 0, slots := 0, locals := 0 }
def D_X10_trace  (z : XS) : Option (Int32 × XS) :=
  some (gS z 17 22 0, z)
set_option maxHeartbeats 4000000 in
set_option maxRecDepth 100000 in
theorem c_X10_trace (l : Launch) (X : XC) (ex : va_W)  (z : XS) (R0 : Int32 × XS) (hD : D_X10_trace  z = some R0) : xM l X ex yX10_trace cX10_trace 1 (some .int) rm_X10_trace [.ref (X.2.2.1 17 (0))] z (xQi X ex R0.2 R0.1) := by
  refine x_ent (by decide) (Nat.le_of_ble_eq_true rfl) ?_
  intro p e s m below meth c ls C hr hk hw hl
  replace hl : lv_has ls 1 [(0, .ref (X.2.2.1 17 (0)))] := hl
  unfold D_X10_trace at hD
  refine lv_aload_n C.1 C.2.1 dX10_trace_0 rfl (lv_at hl 0 rfl) ?_
  refine gf_X10_22 C hw kw_756 dX10_trace_1 ?_
  obtain rfl := Option.some.inj hD
  exact x_iret C hw hr hk dX10_trace_4
theorem gf_X10_0 {p : Program} {l : Launch} {e : Env} {R : Room} {s : State} {m : MethodId} {args : Array Value} {below : List Frame} {meth : Method} {c : Code} {H : Heap} {locs : List Loc} {cells slots : Nat} {Q : State → Prop} {cc : ByteArray} {pc nL index : Nat} {ls : Array Slot} {rest : List Value} {X : XC} {ex : va_W} {z : XS} {own : String} (C : CallFix p m c cc nL s args gtbl own) (hw : xw X ex z s H locs) (hlink : Cond.fieldLink own index (TX10 0).1 (TX10 0).2.1 (TX10 0).2.2.1 ∈ gtbl) (hdg : decode cc pc = .ok (.getfield index, 3)) (kk : W p l e R s m args below meth c H locs cells slots Q (F0 m (pc + 3) ls (.int (gS z 17 0 0) :: rest))) : W p l e R s m args below meth c H locs cells slots Q (F0 m pc ls (.ref (X.2.2.1 17 0) :: rest)) :=
  x_get (k := 17) (j := 0) C hw (Nat.le_of_ble_eq_true rfl) 0 (v := .int (gS z 17 0 0)) rfl rfl ixX10 (by decide) hlink rfl hdg kk
abbrev rm_X10_fault : Room := { frames := 0, cells := 0, slots := 0, locals := 0 }
def D_X10_fault  (z : XS) : Option (Int32 × XS) :=
  some (gS z 17 0 0, z)
set_option maxHeartbeats 4000000 in
set_option maxRecDepth 100000 in
theorem c_X10_fault (l : Launch) (X : XC) (ex : va_W)  (z : XS) (R0 : Int32 × XS) (hD : D_X10_fault  z = some R0) : xM l X ex yX10_fault cX10_fault 1 (some .int) rm_X10_fault [.ref (X.2.2.1 17 (0))] z (xQi X ex R0.2 R0.1) := by
  refine x_ent (by decide) (Nat.le_of_ble_eq_true rfl) ?_
  intro p e s m below meth c ls C hr hk hw hl
  replace hl : lv_has ls 1 [(0, .ref (X.2.2.1 17 (0)))] := hl
  unfold D_X10_fault at hD
  refine lv_aload_n C.1 C.2.1 dX10_fault_0 rfl (lv_at hl 0 rfl) ?_
  refine gf_X10_0 C hw kw_487 dX10_fault_1 ?_
  obtain rfl := Option.some.inj hD
  exact x_iret C hw hr hk dX10_fault_4
abbrev rm_X10_many : Room := { frames := 1, cells := 0, slots := 0, locals := 20 }
def D_X10_many (x1 : Int32) (z : XS) : Option (Int32 × XS) :=
  (if x1 = (0 : Int32) then some (gS z 17 1 0, z) else (if x1 = (1 : Int32) then (D_X10_hedges  z).bind fun q3 => (some (q3.1, q3.2)) else (if x1 = (2 : Int32) then some (gS z 17 12 0, z) else some ((-2 : Int32), z))))
set_option maxHeartbeats 4000000 in
set_option maxRecDepth 100000 in
theorem c_X10_many (l : Launch) (X : XC) (ex : va_W) (x1 : Int32) (z : XS) (R0 : Int32 × XS) (hD : D_X10_many x1 z = some R0) : xM l X ex yX10_many cX10_many 2 (some .int) rm_X10_many [.ref (X.2.2.1 17 (0)), .int (x1)] z (xQi X ex R0.2 R0.1) := by
  refine x_ent (by decide) (Nat.le_of_ble_eq_true rfl) ?_
  intro p e s m below meth c ls C hr hk hw hl
  replace hl : lv_has ls 2 [(0, .ref (X.2.2.1 17 (0))), (1, .int (x1))] := hl
  unfold D_X10_many at hD
  refine lv_iload_n C.1 C.2.1 dX10_many_0 rfl (lv_at hl 1 rfl) ?_
  by_cases c1 : x1 = (0 : Int32)
  · replace hD := (if_pos c1).symm.trans hD
    refine lv_tableIn (off := 27) (tgt := 28) C.1 C.2.1 dX10_many_1 (by rw [c1]; decide) (by rw [c1]; decide) (by rw [c1]; decide) (by decide) ?_
    refine lv_aload_n C.1 C.2.1 dX10_many_28 rfl (lv_at hl 0 rfl) ?_
    refine gf_X10_1 C hw kw_495 dX10_many_29 ?_
    obtain rfl := Option.some.inj hD
    exact x_iret C hw hr hk dX10_many_32
  · replace hD := (if_neg c1).symm.trans hD
    by_cases c2 : x1 = (1 : Int32)
    · replace hD := (if_pos c2).symm.trans hD
      refine lv_tableIn (off := 32) (tgt := 33) C.1 C.2.1 dX10_many_1 (by rw [c2]; decide) (by rw [c2]; decide) (by rw [c2]; decide) (by decide) ?_
      refine lv_aload_n C.1 C.2.1 dX10_many_33 rfl (lv_at hl 0 rfl) ?_
      obtain ⟨q3, hq3, hD⟩ := Option.bind_eq_some_iff.mp hD
      refine x_goi hw (x_runV (As := []) (rest := []) (k := 17) (j := 0) C hw (Nat.le_of_ble_eq_true rfl) rfl rfl cV_X10_hedges kw_507 (c_X10_hedges l X ex   z q3 hq3) ⟨Nat.le_of_ble_eq_true rfl, Nat.le_of_ble_eq_true rfl⟩ rfl hl.1 rfl (Nat.le_of_ble_eq_true rfl) dX10_many_34 ⟨Nat.le_of_ble_eq_true rfl, Nat.le_of_ble_eq_true rfl⟩) (fun H locs hw => ?_)
      obtain rfl := Option.some.inj hD
      exact x_iret C hw hr hk dX10_many_37
    · replace hD := (if_neg c2).symm.trans hD
      by_cases c4 : x1 = (2 : Int32)
      · replace hD := (if_pos c4).symm.trans hD
        refine lv_tableIn (off := 37) (tgt := 38) C.1 C.2.1 dX10_many_1 (by rw [c4]; decide) (by rw [c4]; decide) (by rw [c4]; decide) (by decide) ?_
        refine lv_aload_n C.1 C.2.1 dX10_many_38 rfl (lv_at hl 0 rfl) ?_
        refine gf_X10_12 C hw kw_565 dX10_many_39 ?_
        obtain rfl := Option.some.inj hD
        exact x_iret C hw hr hk dX10_many_42
      · replace hD := (if_neg c4).symm.trans hD
        refine lv_tableOut (tgt := 43) C.1 C.2.1 dX10_many_1 (by have a0 := sw_ne (n := 0) (0 : Int32) rfl c1; have a1 := sw_ne (n := 1) (1 : Int32) rfl c2; have a2 := sw_ne (n := 2) (2 : Int32) rfl c4; omega) (by decide) ?_
        refine lv_bipush (v := (-2 : Int32)) C.1 C.2.1 dX10_many_43 (by decide) ?_
        obtain rfl := Option.some.inj hD
        exact x_iret C hw hr hk dX10_many_45
