theorem kw_231 : Cond.methodLink RX9 164 yX0_scoldedWord ∈ gtbl := gm2 158 rfl rfl
theorem kw_232 : Cond.code yX4_scoldedMore cX4_scoldedMore 7 (some .int) ∈ gtbl := gm2 149 rfl rfl
theorem nd_X4_scoldedMore : (yX4_scoldedMore).cls ≠ "java/lang/invoke/MethodHandle" ∧ (yX4_scoldedMore).cls ≠ "java/lang/invoke/VarHandle" ∧ (parseMethodDescriptor (yX4_scoldedMore).desc).map (fun d => d.parameters.length) = some 2 := by decide +kernel
theorem kw_234 : Cond.instanceMethod yX4_scoldedMore ∈ gtbl := gm2 147 rfl rfl
theorem kw_235 : Cond.selects RX4 yX4_scoldedMore yX4_scoldedMore ∈ gtbl := gm2 148 rfl rfl
theorem cV_X4_scoldedMore : xcV yX4_scoldedMore cX4_scoldedMore 7 (some .int) 2 := ⟨⟨kw_232, kw_89, nd_X4_scoldedMore⟩, kw_234, kw_235⟩
theorem kw_237 : Cond.methodLink RX9 161 yX4_scoldedMore ∈ gtbl := gm2 146 rfl rfl
abbrev rm_X9_scold : Room := { frames := 6, cells := 0, slots := 0, locals := 142 }
def J_X9_scold_18 (x1 : Int32) (x2 : Int32) (x3 : Int32) (x4 : Int32)  (z : XS) : Option (Int32 × XS) :=
  (D_X9_isDay x1 z).bind fun q2 => ((if q2.1 = 0 then some ((-2 : Int32), q2.2) else (D_X9_isFeet x2 q2.2).bind fun q4 => ((if q4.1 = 0 then some ((-2 : Int32), q4.2) else (D_X9_isSide x4 q4.2).bind fun q6 => ((if q6.1 = 0 then some ((-2 : Int32), q6.2) else (if gS q6.2 1 2 0 = 0 then some ((-3 : Int32), q6.2) else (if x3 = (-1 : Int32) then (D_X4_scoldedMore x1 x2 q6.2).bind fun q13 => (some (q13.1, q13.2)) else gd (inB x3 6) ((D_X0_scoldedWord x3.toNatClampNeg x4 x1 x2 q6.2).bind fun q11 => ((if q11.1 = (-9 : Int32) then some ((-9 : Int32), q11.2) else some (q11.1 + (10 : Int32), q11.2))))))))))))
set_option maxHeartbeats 4000000 in
set_option maxRecDepth 100000 in
theorem w_X9_scold_18 {p : Program} {l : Launch} {e : Env} {s : State} {m : MethodId} {below : List Frame} {meth : Method} {c : Code} {X : XC} {ex : va_W} (x1 : Int32) (x2 : Int32) (x3 : Int32) (x4 : Int32) (C : CallFix p m c cX9_scold 6 s (([.ref (X.2.2.1 0 (0)), .int (x1), .int (x2), .int (x3), .int (x4)] : List Value).toArray) gtbl RX9) (hr : meth.sig.returnType = (some .int)) (hk : meth.locks = false) (R0 : Int32 × XS)  : ∀  (z : XS), J_X9_scold_18 x1 x2 x3 x4   z = some R0 → ∀ (H : Heap) (locs : List Loc), xw X ex z s H locs → ∀ (ls : Array Slot), lv_has ls 6 [(0, .ref (X.2.2.1 0 (0))), (1, .int (x1)), (2, .int (x2)), (3, .int (x3)), (4, .int (x4))] → W p l e rm_X9_scold s m (([.ref (X.2.2.1 0 (0)), .int (x1), .int (x2), .int (x3), .int (x4)] : List Value).toArray) below meth c H locs 0 0 (MQ below (xQi X ex R0.2 R0.1) (([.ref (X.2.2.1 0 (0)), .int (x1), .int (x2), .int (x3), .int (x4)] : List Value).toArray) s 0 0 (xA X)) (F0 m 18 ls []) := by
  intro  z  hD H locs hw ls hl
  unfold J_X9_scold_18 at hD
  refine lv_iload_n C.1 C.2.1 dX9_scold_18 rfl (lv_at hl 1 rfl) ?_
  obtain ⟨q2, hq2, hD⟩ := Option.bind_eq_some_iff.mp hD
  refine x_goi hw (x_runS (As := [.int (x1)]) (rest := []) C hw cS_X9_isDay kw_135 (c_X9_isDay l X ex x1  z q2 hq2) ⟨Nat.le_of_ble_eq_true rfl, Nat.le_of_ble_eq_true rfl⟩ rfl hl.1 rfl (Nat.le_of_ble_eq_true rfl) dX9_scold_19 ⟨Nat.le_of_ble_eq_true rfl, Nat.le_of_ble_eq_true rfl⟩) (fun H locs hw => ?_)
  refine lv_if_eq (tgt := 40) C.1 C.2.1 dX9_scold_22 (by decide) (fun c3 => ?_) (fun c3 => ?_)
  · replace hD := (if_pos c3).symm.trans hD
    refine lv_bipush (v := (-2 : Int32)) C.1 C.2.1 dX9_scold_40 (by decide) ?_
    obtain rfl := Option.some.inj hD
    exact x_iret C hw hr hk dX9_scold_42
  · replace hD := (if_neg c3).symm.trans hD
    refine lv_iload_n C.1 C.2.1 dX9_scold_25 rfl (lv_at hl 2 rfl) ?_
    obtain ⟨q4, hq4, hD⟩ := Option.bind_eq_some_iff.mp hD
    refine x_goi hw (x_runS (As := [.int (x2)]) (rest := []) C hw cS_X9_isFeet kw_165 (c_X9_isFeet l X ex x2  q2.2 q4 hq4) ⟨Nat.le_of_ble_eq_true rfl, Nat.le_of_ble_eq_true rfl⟩ rfl hl.1 rfl (Nat.le_of_ble_eq_true rfl) dX9_scold_26 ⟨Nat.le_of_ble_eq_true rfl, Nat.le_of_ble_eq_true rfl⟩) (fun H locs hw => ?_)
    refine lv_if_eq (tgt := 40) C.1 C.2.1 dX9_scold_29 (by decide) (fun c5 => ?_) (fun c5 => ?_)
    · replace hD := (if_pos c5).symm.trans hD
      refine lv_bipush (v := (-2 : Int32)) C.1 C.2.1 dX9_scold_40 (by decide) ?_
      obtain rfl := Option.some.inj hD
      exact x_iret C hw hr hk dX9_scold_42
    · replace hD := (if_neg c5).symm.trans hD
      refine lv_iload C.1 C.2.1 dX9_scold_32 (lv_at hl 4 rfl) ?_
      obtain ⟨q6, hq6, hD⟩ := Option.bind_eq_some_iff.mp hD
      refine x_goi hw (x_runS (As := [.int (x4)]) (rest := []) C hw cS_X9_isSide kw_130 (c_X9_isSide l X ex x4  q4.2 q6 hq6) ⟨Nat.le_of_ble_eq_true rfl, Nat.le_of_ble_eq_true rfl⟩ rfl hl.1 rfl (Nat.le_of_ble_eq_true rfl) dX9_scold_34 ⟨Nat.le_of_ble_eq_true rfl, Nat.le_of_ble_eq_true rfl⟩) (fun H locs hw => ?_)
      refine lv_if_ne (tgt := 43) C.1 C.2.1 dX9_scold_37 (by decide) (fun c7 => ?_) (fun c7 => ?_)
      · replace hD := (if_neg c7).symm.trans hD
        refine lv_aload_n C.1 C.2.1 dX9_scold_43 rfl (lv_at hl 0 rfl) ?_
        refine gf_X9_0 C hw kw_86 dX9_scold_44 ?_
        refine gNf_X4_2 C hw (List.mem_of_getElem? (i := 8) rfl) dX9_scold_47 ?_
        refine lv_if_ne (tgt := 56) C.1 C.2.1 dX9_scold_50 (by decide) (fun c8 => ?_) (fun c8 => ?_)
        · replace hD := (if_neg c8).symm.trans hD
          refine lv_iload_n C.1 C.2.1 dX9_scold_56 rfl (lv_at hl 3 rfl) ?_
          refine lv_iconst (v := (-1 : Int32)) C.1 C.2.1 dX9_scold_57 (by decide) ?_
          refine lv_icmp_ne (tgt := 71) C.1 C.2.1 dX9_scold_58 (by decide) (fun c9 => ?_) (fun c9 => ?_)
          · replace hD := (if_neg c9).symm.trans hD
            refine lv_aload_n C.1 C.2.1 dX9_scold_71 rfl (lv_at hl 0 rfl) ?_
            refine gf_X9_0 C hw kw_86 dX9_scold_72 ?_
            refine gNf_X4_1 C hw (List.mem_of_getElem? (i := 7) rfl) dX9_scold_75 ?_
            refine lv_iload_n C.1 C.2.1 dX9_scold_78 rfl (lv_at hl 3 rfl) ?_
            obtain ⟨g10, hD⟩ := gd_some hD
            refine x_aald (k := 8) (j := 0) (f := fun i => X.2.2.1 9 i) C hw (Nat.le_of_ble_eq_true rfl) 2 rfl rfl rfl (inB_in g10) (a := X.2.2.1 9 (x3.toNatClampNeg)) rfl dX9_scold_79 ?_
            refine lv_iload C.1 C.2.1 dX9_scold_80 (lv_at hl 4 rfl) ?_
            refine lv_iload_n C.1 C.2.1 dX9_scold_82 rfl (lv_at hl 1 rfl) ?_
            refine lv_iload_n C.1 C.2.1 dX9_scold_83 rfl (lv_at hl 2 rfl) ?_
            obtain ⟨q11, hq11, hD⟩ := Option.bind_eq_some_iff.mp hD
            refine x_goi hw (x_runV (As := [.int (x4), .int (x1), .int (x2)]) (rest := []) (k := 9) (j := x3.toNatClampNeg) C hw (inB_lt g10) rfl rfl cV_X0_scoldedWord kw_231 (c_X0_scoldedWord l X ex x3.toNatClampNeg x4 x1 x2 (inB_lt g10) q6.2 q11 hq11) ⟨Nat.le_of_ble_eq_true rfl, Nat.le_of_ble_eq_true rfl⟩ rfl hl.1 rfl (Nat.le_of_ble_eq_true rfl) dX9_scold_84 ⟨Nat.le_of_ble_eq_true rfl, Nat.le_of_ble_eq_true rfl⟩) (fun H locs hw => ?_)
            refine lv_istore (lv' := [(5, .int (q11.1)), (0, .ref (X.2.2.1 0 (0))), (1, .int (x1)), (2, .int (x2)), (3, .int (x3)), (4, .int (x4))]) C.1 C.2.1 dX9_scold_87 hl (by decide) rfl (fun ls hl => ?_)
            refine lv_iload C.1 C.2.1 dX9_scold_89 (lv_at hl 0 rfl) ?_
            refine lv_bipush (v := (-9 : Int32)) C.1 C.2.1 dX9_scold_91 (by decide) ?_
            refine lv_icmp_ne (tgt := 101) C.1 C.2.1 dX9_scold_93 (by decide) (fun c12 => ?_) (fun c12 => ?_)
            · replace hD := (if_neg c12).symm.trans hD
              refine lv_iload C.1 C.2.1 dX9_scold_101 (lv_at hl 0 rfl) ?_
              refine lv_bipush (v := (10 : Int32)) C.1 C.2.1 dX9_scold_103 (by decide) ?_
              refine lv_iadd C.1 C.2.1 dX9_scold_105 ?_
              obtain rfl := Option.some.inj hD
              exact x_iret C hw hr hk dX9_scold_106
            · replace hD := (if_pos c12).symm.trans hD
              refine lv_bipush (v := (-9 : Int32)) C.1 C.2.1 dX9_scold_96 (by decide) ?_
              refine lv_goto (tgt := 106) C.1 C.2.1 dX9_scold_98 (by decide) ?_
              obtain rfl := Option.some.inj hD
              exact x_iret C hw hr hk dX9_scold_106
          · replace hD := (if_pos c9).symm.trans hD
            refine lv_aload_n C.1 C.2.1 dX9_scold_61 rfl (lv_at hl 0 rfl) ?_
            refine gf_X9_0 C hw kw_86 dX9_scold_62 ?_
            refine lv_iload_n C.1 C.2.1 dX9_scold_65 rfl (lv_at hl 1 rfl) ?_
            refine lv_iload_n C.1 C.2.1 dX9_scold_66 rfl (lv_at hl 2 rfl) ?_
            obtain ⟨q13, hq13, hD⟩ := Option.bind_eq_some_iff.mp hD
            refine x_goi hw (x_runV (As := [.int (x1), .int (x2)]) (rest := []) (k := 1) (j := 0) C hw (Nat.le_of_ble_eq_true rfl) rfl rfl cV_X4_scoldedMore kw_237 (c_X4_scoldedMore l X ex x1 x2  q6.2 q13 hq13) ⟨Nat.le_of_ble_eq_true rfl, Nat.le_of_ble_eq_true rfl⟩ rfl hl.1 rfl (Nat.le_of_ble_eq_true rfl) dX9_scold_67 ⟨Nat.le_of_ble_eq_true rfl, Nat.le_of_ble_eq_true rfl⟩) (fun H locs hw => ?_)
            obtain rfl := Option.some.inj hD
            exact x_iret C hw hr hk dX9_scold_70
        · replace hD := (if_pos c8).symm.trans hD
          refine lv_bipush (v := (-3 : Int32)) C.1 C.2.1 dX9_scold_53 (by decide) ?_
          obtain rfl := Option.some.inj hD
          exact x_iret C hw hr hk dX9_scold_55
      · replace hD := (if_pos c7).symm.trans hD
        refine lv_bipush (v := (-2 : Int32)) C.1 C.2.1 dX9_scold_40 (by decide) ?_
        obtain rfl := Option.some.inj hD
        exact x_iret C hw hr hk dX9_scold_42
def D_X9_scold (x1 : Int32) (x2 : Int32) (x3 : Int32) (x4 : Int32) (z : XS) : Option (Int32 × XS) :=
  (if x3 = (-1 : Int32) then J_X9_scold_18 x1 x2 x3 x4   z else (D_X4_isHedge x3 z).bind fun q14 => ((if q14.1 = 0 then some ((-1 : Int32), q14.2) else J_X9_scold_18 x1 x2 x3 x4   q14.2)))
set_option maxHeartbeats 4000000 in
set_option maxRecDepth 100000 in
theorem c_X9_scold (l : Launch) (X : XC) (ex : va_W) (x1 : Int32) (x2 : Int32) (x3 : Int32) (x4 : Int32) (z : XS) (R0 : Int32 × XS) (hD : D_X9_scold x1 x2 x3 x4 z = some R0) : xM l X ex yX9_scold cX9_scold 6 (some .int) rm_X9_scold [.ref (X.2.2.1 0 (0)), .int (x1), .int (x2), .int (x3), .int (x4)] z (xQi X ex R0.2 R0.1) := by
  refine x_ent (by decide) (Nat.le_of_ble_eq_true rfl) ?_
  intro p e s m below meth c ls C hr hk hw hl
  replace hl : lv_has ls 6 [(0, .ref (X.2.2.1 0 (0))), (1, .int (x1)), (2, .int (x2)), (3, .int (x3)), (4, .int (x4))] := hl
  unfold D_X9_scold at hD
  refine lv_iload_n C.1 C.2.1 dX9_scold_0 rfl (lv_at hl 3 rfl) ?_
  refine lv_iconst (v := (-1 : Int32)) C.1 C.2.1 dX9_scold_1 (by decide) ?_
  refine lv_icmp_eq (tgt := 18) C.1 C.2.1 dX9_scold_2 (by decide) (fun c1 => ?_) (fun c1 => ?_)
  · replace hD := (if_pos c1).symm.trans hD
    exact w_X9_scold_18 x1 x2 x3 x4  C hr hk R0    z  hD _ _ hw _ (lv_sub hl [0, 1, 2, 3, 4] rfl)
  · replace hD := (if_neg c1).symm.trans hD
    refine lv_aload_n C.1 C.2.1 dX9_scold_5 rfl (lv_at hl 0 rfl) ?_
    refine gf_X9_0 C hw kw_86 dX9_scold_6 ?_
    refine lv_iload_n C.1 C.2.1 dX9_scold_9 rfl (lv_at hl 3 rfl) ?_
    obtain ⟨q14, hq14, hD⟩ := Option.bind_eq_some_iff.mp hD
    refine x_goi hw (x_runV (As := [.int (x3)]) (rest := []) (k := 1) (j := 0) C hw (Nat.le_of_ble_eq_true rfl) rfl rfl cV_X4_isHedge kw_101 (c_X4_isHedge l X ex x3  z q14 hq14) ⟨Nat.le_of_ble_eq_true rfl, Nat.le_of_ble_eq_true rfl⟩ rfl hl.1 rfl (Nat.le_of_ble_eq_true rfl) dX9_scold_10 ⟨Nat.le_of_ble_eq_true rfl, Nat.le_of_ble_eq_true rfl⟩) (fun H locs hw => ?_)
    refine lv_if_ne (tgt := 18) C.1 C.2.1 dX9_scold_13 (by decide) (fun c15 => ?_) (fun c15 => ?_)
    · replace hD := (if_neg c15).symm.trans hD
      exact w_X9_scold_18 x1 x2 x3 x4  C hr hk R0    q14.2  hD _ _ hw _ (lv_sub hl [0, 1, 2, 3, 4] rfl)
    · replace hD := (if_pos c15).symm.trans hD
      refine lv_iconst (v := (-1 : Int32)) C.1 C.2.1 dX9_scold_16 (by decide) ?_
      obtain rfl := Option.some.inj hD
      exact x_iret C hw hr hk dX9_scold_17
theorem kw_238 : Cond.fieldLink RX3 9 (TX3 0).1 (TX3 0).2.1 (TX3 0).2.2.1 ∈ gtbl := gm1 92 rfl rfl
theorem gf_X3_0 {p : Program} {l : Launch} {e : Env} {R : Room} {s : State} {m : MethodId} {args : Array Value} {below : List Frame} {meth : Method} {c : Code} {H : Heap} {locs : List Loc} {cells slots : Nat} {Q : State → Prop} {cc : ByteArray} {pc nL index : Nat} {ls : Array Slot} {rest : List Value} {X : XC} {ex : va_W} {z : XS} {own : String} (C : CallFix p m c cc nL s args gtbl own) (hw : xw X ex z s H locs) (hlink : Cond.fieldLink own index (TX3 0).1 (TX3 0).2.1 (TX3 0).2.2.1 ∈ gtbl) (hdg : decode cc pc = .ok (.getfield index, 3)) (kk : W p l e R s m args below meth c H locs cells slots Q (F0 m (pc + 3) ls (.ref (X.2.2.1 16 0) :: rest))) : W p l e R s m args below meth c H locs cells slots Q (F0 m pc ls (.ref (X.2.2.1 2 0) :: rest)) :=
  x_get (k := 2) (j := 0) C hw (Nat.le_of_ble_eq_true rfl) 0 (v := .ref (X.2.2.1 16 0)) rfl rfl ixX3 (by decide) hlink rfl hdg kk
theorem gf_X3_4 {p : Program} {l : Launch} {e : Env} {R : Room} {s : State} {m : MethodId} {args : Array Value} {below : List Frame} {meth : Method} {c : Code} {H : Heap} {locs : List Loc} {cells slots : Nat} {Q : State → Prop} {cc : ByteArray} {pc nL index : Nat} {ls : Array Slot} {rest : List Value} {X : XC} {ex : va_W} {z : XS} {own : String} (C : CallFix p m c cc nL s args gtbl own) (hw : xw X ex z s H locs) (hlink : Cond.fieldLink own index (TX3 4).1 (TX3 4).2.1 (TX3 4).2.2.1 ∈ gtbl) (hdg : decode cc pc = .ok (.getfield index, 3)) (kk : W p l e R s m args below meth c H locs cells slots Q (F0 m (pc + 3) ls (.int (gS z 2 4 0) :: rest))) : W p l e R s m args below meth c H locs cells slots Q (F0 m pc ls (.ref (X.2.2.1 2 0) :: rest)) :=
  x_get (k := 2) (j := 0) C hw (Nat.le_of_ble_eq_true rfl) 4 (v := .int (gS z 2 4 0)) rfl rfl ixX3 (by decide) hlink rfl hdg kk
theorem kw_241 : Cond.fieldLink RX3 15 (TX3 1).1 (TX3 1).2.1 (TX3 1).2.2.1 ∈ gtbl := gm1 93 rfl rfl
theorem gf_X3_1 {p : Program} {l : Launch} {e : Env} {R : Room} {s : State} {m : MethodId} {args : Array Value} {below : List Frame} {meth : Method} {c : Code} {H : Heap} {locs : List Loc} {cells slots : Nat} {Q : State → Prop} {cc : ByteArray} {pc nL index : Nat} {ls : Array Slot} {rest : List Value} {X : XC} {ex : va_W} {z : XS} {own : String} (C : CallFix p m c cc nL s args gtbl own) (hw : xw X ex z s H locs) (hlink : Cond.fieldLink own index (TX3 1).1 (TX3 1).2.1 (TX3 1).2.2.1 ∈ gtbl) (hdg : decode cc pc = .ok (.getfield index, 3)) (kk : W p l e R s m args below meth c H locs cells slots Q (F0 m (pc + 3) ls (.ref (X.2.2.1 16 1) :: rest))) : W p l e R s m args below meth c H locs cells slots Q (F0 m pc ls (.ref (X.2.2.1 2 0) :: rest)) :=
  x_get (k := 2) (j := 0) C hw (Nat.le_of_ble_eq_true rfl) 1 (v := .ref (X.2.2.1 16 1)) rfl rfl ixX3 (by decide) hlink rfl hdg kk
theorem kw_243 : Cond.fieldLink RX3 18 (TX3 2).1 (TX3 2).2.1 (TX3 2).2.2.1 ∈ gtbl := gm1 94 rfl rfl
theorem gf_X3_2 {p : Program} {l : Launch} {e : Env} {R : Room} {s : State} {m : MethodId} {args : Array Value} {below : List Frame} {meth : Method} {c : Code} {H : Heap} {locs : List Loc} {cells slots : Nat} {Q : State → Prop} {cc : ByteArray} {pc nL index : Nat} {ls : Array Slot} {rest : List Value} {X : XC} {ex : va_W} {z : XS} {own : String} (C : CallFix p m c cc nL s args gtbl own) (hw : xw X ex z s H locs) (hlink : Cond.fieldLink own index (TX3 2).1 (TX3 2).2.1 (TX3 2).2.2.1 ∈ gtbl) (hdg : decode cc pc = .ok (.getfield index, 3)) (kk : W p l e R s m args below meth c H locs cells slots Q (F0 m (pc + 3) ls (.ref (X.2.2.1 16 2) :: rest))) : W p l e R s m args below meth c H locs cells slots Q (F0 m pc ls (.ref (X.2.2.1 2 0) :: rest)) :=
  x_get (k := 2) (j := 0) C hw (Nat.le_of_ble_eq_true rfl) 2 (v := .ref (X.2.2.1 16 2)) rfl rfl ixX3 (by decide) hlink rfl hdg kk
theorem kw_245 : Cond.fieldLink RX3 21 (TX3 3).1 (TX3 3).2.1 (TX3 3).2.2.1 ∈ gtbl := gm1 95 rfl rfl
theorem gf_X3_3 {p : Program} {l : Launch} {e : Env} {R : Room} {s : State} {m : MethodId} {args : Array Value} {below : List Frame} {meth : Method} {c : Code} {H : Heap} {locs : List Loc} {cells slots : Nat} {Q : State → Prop} {cc : ByteArray} {pc nL index : Nat} {ls : Array Slot} {rest : List Value} {X : XC} {ex : va_W} {z : XS} {own : String} (C : CallFix p m c cc nL s args gtbl own) (hw : xw X ex z s H locs) (hlink : Cond.fieldLink own index (TX3 3).1 (TX3 3).2.1 (TX3 3).2.2.1 ∈ gtbl) (hdg : decode cc pc = .ok (.getfield index, 3)) (kk : W p l e R s m args below meth c H locs cells slots Q (F0 m (pc + 3) ls (.ref (X.2.2.1 16 3) :: rest))) : W p l e R s m args below meth c H locs cells slots Q (F0 m pc ls (.ref (X.2.2.1 2 0) :: rest)) :=
  x_get (k := 2) (j := 0) C hw (Nat.le_of_ble_eq_true rfl) 3 (v := .ref (X.2.2.1 16 3)) rfl rfl ixX3 (by decide) hlink rfl hdg kk
abbrev rm_X3_keep : Room := { frames := 0, cells := 0, slots := 0, locals := 0 }
def D_X3_keep (x1 : Int32) (x2 : Int32) (x3 : Int32) (x4 : Int32) (z : XS) : Option (Int32 × XS) :=
  gd (inB (gS z 2 4 0) 10) ((some (pA z 16 0 (gS z 2 4 0).toNatClampNeg x1)).bind fun z2 => (gd (inB (gS z2 2 4 0) 10) ((some (pA z2 16 1 (gS z2 2 4 0).toNatClampNeg x2)).bind fun z4 => (gd (inB (gS z4 2 4 0) 10) ((some (pA z4 16 2 (gS z4 2 4 0).toNatClampNeg x3)).bind fun z6 => (gd (inB (gS z6 2 4 0) 10) ((some (pA z6 16 3 (gS z6 2 4 0).toNatClampNeg x4)).bind fun z8 => ((some (pS z8 2 4 0 ((gS z8 2 4 0) + (1 : Int32)))).bind fun z9 => (some ((gS z9 2 4 0) - (1 : Int32), z9))))))))))
set_option maxHeartbeats 4000000 in
set_option maxRecDepth 100000 in
theorem c_X3_keep (l : Launch) (X : XC) (ex : va_W) (x1 : Int32) (x2 : Int32) (x3 : Int32) (x4 : Int32) (z : XS) (R0 : Int32 × XS) (hD : D_X3_keep x1 x2 x3 x4 z = some R0) : xM l X ex yX3_keep cX3_keep 5 (some .int) rm_X3_keep [.ref (X.2.2.1 2 (0)), .int (x1), .int (x2), .int (x3), .int (x4)] z (xQi X ex R0.2 R0.1) := by
  refine x_ent (by decide) (Nat.le_of_ble_eq_true rfl) ?_
  intro p e s m below meth c ls C hr hk hw hl
  replace hl : lv_has ls 5 [(0, .ref (X.2.2.1 2 (0))), (1, .int (x1)), (2, .int (x2)), (3, .int (x3)), (4, .int (x4))] := hl
  unfold D_X3_keep at hD
  refine lv_aload_n C.1 C.2.1 dX3_keep_0 rfl (lv_at hl 0 rfl) ?_
  refine gf_X3_0 C hw kw_238 dX3_keep_1 ?_
  refine lv_aload_n C.1 C.2.1 dX3_keep_4 rfl (lv_at hl 0 rfl) ?_
  refine gf_X3_4 C hw kw_84 dX3_keep_5 ?_
  refine lv_iload_n C.1 C.2.1 dX3_keep_8 rfl (lv_at hl 1 rfl) ?_
  obtain ⟨g1, hD⟩ := gd_some hD
  obtain ⟨z2, hz2, hD⟩ := Option.bind_eq_some_iff.mp hD
  refine x_iast (k := 16) (j := 0) C hw rfl (Nat.le_of_ble_eq_true rfl) (inB_in g1) dX3_keep_9 (fun H locs hw => ?_)
  replace hw := xw_eq hz2 hw
  refine lv_aload_n C.1 C.2.1 dX3_keep_10 rfl (lv_at hl 0 rfl) ?_
  refine gf_X3_1 C hw kw_241 dX3_keep_11 ?_
  refine lv_aload_n C.1 C.2.1 dX3_keep_14 rfl (lv_at hl 0 rfl) ?_
  refine gf_X3_4 C hw kw_84 dX3_keep_15 ?_
  refine lv_iload_n C.1 C.2.1 dX3_keep_18 rfl (lv_at hl 2 rfl) ?_
  obtain ⟨g3, hD⟩ := gd_some hD
  obtain ⟨z4, hz4, hD⟩ := Option.bind_eq_some_iff.mp hD
  refine x_iast (k := 16) (j := 1) C hw rfl (Nat.le_of_ble_eq_true rfl) (inB_in g3) dX3_keep_19 (fun H locs hw => ?_)
  replace hw := xw_eq hz4 hw
  refine lv_aload_n C.1 C.2.1 dX3_keep_20 rfl (lv_at hl 0 rfl) ?_
  refine gf_X3_2 C hw kw_243 dX3_keep_21 ?_
  refine lv_aload_n C.1 C.2.1 dX3_keep_24 rfl (lv_at hl 0 rfl) ?_
  refine gf_X3_4 C hw kw_84 dX3_keep_25 ?_
  refine lv_iload_n C.1 C.2.1 dX3_keep_28 rfl (lv_at hl 3 rfl) ?_
  obtain ⟨g5, hD⟩ := gd_some hD
  obtain ⟨z6, hz6, hD⟩ := Option.bind_eq_some_iff.mp hD
  refine x_iast (k := 16) (j := 2) C hw rfl (Nat.le_of_ble_eq_true rfl) (inB_in g5) dX3_keep_29 (fun H locs hw => ?_)
  replace hw := xw_eq hz6 hw
  refine lv_aload_n C.1 C.2.1 dX3_keep_30 rfl (lv_at hl 0 rfl) ?_
  refine gf_X3_3 C hw kw_245 dX3_keep_31 ?_
  refine lv_aload_n C.1 C.2.1 dX3_keep_34 rfl (lv_at hl 0 rfl) ?_
  refine gf_X3_4 C hw kw_84 dX3_keep_35 ?_
  refine lv_iload C.1 C.2.1 dX3_keep_38 (lv_at hl 4 rfl) ?_
  obtain ⟨g7, hD⟩ := gd_some hD
  obtain ⟨z8, hz8, hD⟩ := Option.bind_eq_some_iff.mp hD
  refine x_iast (k := 16) (j := 3) C hw rfl (Nat.le_of_ble_eq_true rfl) (inB_in g7) dX3_keep_40 (fun H locs hw => ?_)
  replace hw := xw_eq hz8 hw
  refine lv_aload_n C.1 C.2.1 dX3_keep_41 rfl (lv_at hl 0 rfl) ?_
  refine lv_dup C.1 C.2.1 dX3_keep_42 rfl ?_
  refine gf_X3_4 C hw kw_84 dX3_keep_43 ?_
  refine lv_iconst (v := (1 : Int32)) C.1 C.2.1 dX3_keep_46 (by decide) ?_
  refine lv_iadd C.1 C.2.1 dX3_keep_47 ?_
  obtain ⟨z9, hz9, hD⟩ := Option.bind_eq_some_iff.mp hD
  refine pf_X3_4 C hw kw_84 dX3_keep_48 (fun H locs hw => ?_)
  replace hw := xw_eq hz9 hw
  refine lv_aload_n C.1 C.2.1 dX3_keep_51 rfl (lv_at hl 0 rfl) ?_
  refine gf_X3_4 C hw kw_84 dX3_keep_52 ?_
  refine lv_iconst (v := (1 : Int32)) C.1 C.2.1 dX3_keep_55 (by decide) ?_
  refine lv_isub C.1 C.2.1 dX3_keep_56 ?_
  obtain rfl := Option.some.inj hD
  exact x_iret C hw hr hk dX3_keep_57
theorem kw_247 : Cond.fieldLink RX9 21 (TX9 1).1 (TX9 1).2.1 (TX9 1).2.2.1 ∈ gtbl := gm1 142 rfl rfl
theorem gf_X9_1 {p : Program} {l : Launch} {e : Env} {R : Room} {s : State} {m : MethodId} {args : Array Value} {below : List Frame} {meth : Method} {c : Code} {H : Heap} {locs : List Loc} {cells slots : Nat} {Q : State → Prop} {cc : ByteArray} {pc nL index : Nat} {ls : Array Slot} {rest : List Value} {X : XC} {ex : va_W} {z : XS} {own : String} (C : CallFix p m c cc nL s args gtbl own) (hw : xw X ex z s H locs) (hlink : Cond.fieldLink own index (TX9 1).1 (TX9 1).2.1 (TX9 1).2.2.1 ∈ gtbl) (hdg : decode cc pc = .ok (.getfield index, 3)) (kk : W p l e R s m args below meth c H locs cells slots Q (F0 m (pc + 3) ls (.ref (X.2.2.1 2 0) :: rest))) : W p l e R s m args below meth c H locs cells slots Q (F0 m pc ls (.ref (X.2.2.1 0 0) :: rest)) :=
  x_get (k := 0) (j := 0) C hw (Nat.le_of_ble_eq_true rfl) 1 (v := .ref (X.2.2.1 2 0)) rfl rfl ixX9 (by decide) hlink rfl hdg kk
theorem gNf_X3_4 {p : Program} {l : Launch} {e : Env} {R : Room} {s : State} {m : MethodId} {args : Array Value} {below : List Frame} {meth : Method} {c : Code} {H : Heap} {locs : List Loc} {cells slots : Nat} {Q : State → Prop} {cc : ByteArray} {pc nL index : Nat} {ls : Array Slot} {rest : List Value} {X : XC} {ex : va_W} {z : XS} {own : String} (C : CallFix p m c cc nL s args gtbl own) (hw : xw X ex z s H locs) (hlink : (own, index, (TX3 4).1, (TX3 4).2.1, (TX3 4).2.2.1, "WordHedges") ∈ xnf) (hdg : decode cc pc = .ok (.getfield index, 3)) (kk : W p l e R s m args below meth c H locs cells slots Q (F0 m (pc + 3) ls (.int (gS z 2 4 0) :: rest))) : W p l e R s m args below meth c H locs cells slots Q (F0 m pc ls (.ref (X.2.2.1 2 0) :: rest)) :=
  x_getN (k := 2) (j := 0) C hw (Nat.le_of_ble_eq_true rfl) 4 (v := .int (gS z 2 4 0)) rfl rfl ixX3 (by decide) hlink rfl hdg kk
theorem kw_250 : Cond.code yX3_keep cX3_keep 5 (some .int) ∈ gtbl := gm2 166 rfl rfl
theorem kw_251 : Cond.initialized RX3 ∈ gtbl := gm1 5 rfl rfl
theorem nd_X3_keep : (yX3_keep).cls ≠ "java/lang/invoke/MethodHandle" ∧ (yX3_keep).cls ≠ "java/lang/invoke/VarHandle" ∧ (parseMethodDescriptor (yX3_keep).desc).map (fun d => d.parameters.length) = some 4 := by decide +kernel
theorem kw_253 : Cond.instanceMethod yX3_keep ∈ gtbl := gm2 164 rfl rfl
theorem kw_254 : Cond.selects RX3 yX3_keep yX3_keep ∈ gtbl := gm2 165 rfl rfl
theorem cV_X3_keep : xcV yX3_keep cX3_keep 5 (some .int) 4 := ⟨⟨kw_250, kw_251, nd_X3_keep⟩, kw_253, kw_254⟩
theorem kw_256 : Cond.methodLink RX9 168 yX3_keep ∈ gtbl := gm2 163 rfl rfl
abbrev rm_X9_reading : Room := { frames := 2, cells := 0, slots := 0, locals := 41 }
def D_X9_reading (x1 : Int32) (x2 : Int32) (x3 : Int32) (x4 : Int32) (z : XS) : Option (Int32 × XS) :=
  (D_X4_isHedge x1 z).bind fun q1 => ((if q1.1 = 0 then some ((-1 : Int32), q1.2) else (D_X9_isSide x2 q1.2).bind fun q3 => ((if q3.1 = 0 then some ((-2 : Int32), q3.2) else (D_X9_isDawn x3 q3.2).bind fun q5 => ((if q5.1 = 0 then some ((-2 : Int32), q5.2) else (D_X9_isWithin x4 (240 : Int32) q5.2).bind fun q7 => ((if q7.1 = 0 then some ((-2 : Int32), q7.2) else (if gS q7.2 2 4 0 < (10 : Int32) then (D_X3_keep x1 x2 x3 x4 q7.2).bind fun q10 => (some (q10.1, q10.2)) else some ((-4 : Int32), q7.2))))))))))
set_option maxHeartbeats 4000000 in
set_option maxRecDepth 100000 in
theorem c_X9_reading (l : Launch) (X : XC) (ex : va_W) (x1 : Int32) (x2 : Int32) (x3 : Int32) (x4 : Int32) (z : XS) (R0 : Int32 × XS) (hD : D_X9_reading x1 x2 x3 x4 z = some R0) : xM l X ex yX9_reading cX9_reading 5 (some .int) rm_X9_reading [.ref (X.2.2.1 0 (0)), .int (x1), .int (x2), .int (x3), .int (x4)] z (xQi X ex R0.2 R0.1) := by
  refine x_ent (by decide) (Nat.le_of_ble_eq_true rfl) ?_
  intro p e s m below meth c ls C hr hk hw hl
  replace hl : lv_has ls 5 [(0, .ref (X.2.2.1 0 (0))), (1, .int (x1)), (2, .int (x2)), (3, .int (x3)), (4, .int (x4))] := hl
  unfold D_X9_reading at hD
  refine lv_aload_n C.1 C.2.1 dX9_reading_0 rfl (lv_at hl 0 rfl) ?_
  refine gf_X9_0 C hw kw_86 dX9_reading_1 ?_
  refine lv_iload_n C.1 C.2.1 dX9_reading_4 rfl (lv_at hl 1 rfl) ?_
  obtain ⟨q1, hq1, hD⟩ := Option.bind_eq_some_iff.mp hD
  refine x_goi hw (x_runV (As := [.int (x1)]) (rest := []) (k := 1) (j := 0) C hw (Nat.le_of_ble_eq_true rfl) rfl rfl cV_X4_isHedge kw_101 (c_X4_isHedge l X ex x1  z q1 hq1) ⟨Nat.le_of_ble_eq_true rfl, Nat.le_of_ble_eq_true rfl⟩ rfl hl.1 rfl (Nat.le_of_ble_eq_true rfl) dX9_reading_5 ⟨Nat.le_of_ble_eq_true rfl, Nat.le_of_ble_eq_true rfl⟩) (fun H locs hw => ?_)
  refine lv_if_ne (tgt := 13) C.1 C.2.1 dX9_reading_8 (by decide) (fun c2 => ?_) (fun c2 => ?_)
  · replace hD := (if_neg c2).symm.trans hD
    refine lv_iload_n C.1 C.2.1 dX9_reading_13 rfl (lv_at hl 2 rfl) ?_
    obtain ⟨q3, hq3, hD⟩ := Option.bind_eq_some_iff.mp hD
    refine x_goi hw (x_runS (As := [.int (x2)]) (rest := []) C hw cS_X9_isSide kw_130 (c_X9_isSide l X ex x2  q1.2 q3 hq3) ⟨Nat.le_of_ble_eq_true rfl, Nat.le_of_ble_eq_true rfl⟩ rfl hl.1 rfl (Nat.le_of_ble_eq_true rfl) dX9_reading_14 ⟨Nat.le_of_ble_eq_true rfl, Nat.le_of_ble_eq_true rfl⟩) (fun H locs hw => ?_)
    refine lv_if_eq (tgt := 38) C.1 C.2.1 dX9_reading_17 (by decide) (fun c4 => ?_) (fun c4 => ?_)
    · replace hD := (if_pos c4).symm.trans hD
      refine lv_bipush (v := (-2 : Int32)) C.1 C.2.1 dX9_reading_38 (by decide) ?_
      obtain rfl := Option.some.inj hD
      exact x_iret C hw hr hk dX9_reading_40
    · replace hD := (if_neg c4).symm.trans hD
      refine lv_iload_n C.1 C.2.1 dX9_reading_20 rfl (lv_at hl 3 rfl) ?_
      obtain ⟨q5, hq5, hD⟩ := Option.bind_eq_some_iff.mp hD
      refine x_goi hw (x_runS (As := [.int (x3)]) (rest := []) C hw cS_X9_isDawn kw_170 (c_X9_isDawn l X ex x3  q3.2 q5 hq5) ⟨Nat.le_of_ble_eq_true rfl, Nat.le_of_ble_eq_true rfl⟩ rfl hl.1 rfl (Nat.le_of_ble_eq_true rfl) dX9_reading_21 ⟨Nat.le_of_ble_eq_true rfl, Nat.le_of_ble_eq_true rfl⟩) (fun H locs hw => ?_)
      refine lv_if_eq (tgt := 38) C.1 C.2.1 dX9_reading_24 (by decide) (fun c6 => ?_) (fun c6 => ?_)
      · replace hD := (if_pos c6).symm.trans hD
        refine lv_bipush (v := (-2 : Int32)) C.1 C.2.1 dX9_reading_38 (by decide) ?_
        obtain rfl := Option.some.inj hD
        exact x_iret C hw hr hk dX9_reading_40
      · replace hD := (if_neg c6).symm.trans hD
        refine lv_iload C.1 C.2.1 dX9_reading_27 (lv_at hl 4 rfl) ?_
        refine lv_sipush (v := (240 : Int32)) C.1 C.2.1 dX9_reading_29 (by decide) ?_
        obtain ⟨q7, hq7, hD⟩ := Option.bind_eq_some_iff.mp hD
        refine x_goi hw (x_runS (As := [.int (x4), .int ((240 : Int32))]) (rest := []) C hw cS_X9_isWithin kw_5 (c_X9_isWithin l X ex x4 (240 : Int32)  q5.2 q7 hq7) ⟨Nat.le_of_ble_eq_true rfl, Nat.le_of_ble_eq_true rfl⟩ rfl hl.1 rfl (Nat.le_of_ble_eq_true rfl) dX9_reading_32 ⟨Nat.le_of_ble_eq_true rfl, Nat.le_of_ble_eq_true rfl⟩) (fun H locs hw => ?_)
        refine lv_if_ne (tgt := 41) C.1 C.2.1 dX9_reading_35 (by decide) (fun c8 => ?_) (fun c8 => ?_)
        · replace hD := (if_neg c8).symm.trans hD
          refine lv_aload_n C.1 C.2.1 dX9_reading_41 rfl (lv_at hl 0 rfl) ?_
          refine gf_X9_1 C hw kw_247 dX9_reading_42 ?_
          refine gNf_X3_4 C hw (List.mem_of_getElem? (i := 9) rfl) dX9_reading_45 ?_
          refine lv_bipush (v := (10 : Int32)) C.1 C.2.1 dX9_reading_48 (by decide) ?_
          refine lv_icmp_lt (tgt := 58) C.1 C.2.1 dX9_reading_50 (by decide) (fun c9 => ?_) (fun c9 => ?_)
          · replace hD := (if_pos c9).symm.trans hD
            refine lv_aload_n C.1 C.2.1 dX9_reading_58 rfl (lv_at hl 0 rfl) ?_
            refine gf_X9_1 C hw kw_247 dX9_reading_59 ?_
            refine lv_iload_n C.1 C.2.1 dX9_reading_62 rfl (lv_at hl 1 rfl) ?_
            refine lv_iload_n C.1 C.2.1 dX9_reading_63 rfl (lv_at hl 2 rfl) ?_
            refine lv_iload_n C.1 C.2.1 dX9_reading_64 rfl (lv_at hl 3 rfl) ?_
            refine lv_iload C.1 C.2.1 dX9_reading_65 (lv_at hl 4 rfl) ?_
            obtain ⟨q10, hq10, hD⟩ := Option.bind_eq_some_iff.mp hD
            refine x_goi hw (x_runV (As := [.int (x1), .int (x2), .int (x3), .int (x4)]) (rest := []) (k := 2) (j := 0) C hw (Nat.le_of_ble_eq_true rfl) rfl rfl cV_X3_keep kw_256 (c_X3_keep l X ex x1 x2 x3 x4  q7.2 q10 hq10) ⟨Nat.le_of_ble_eq_true rfl, Nat.le_of_ble_eq_true rfl⟩ rfl hl.1 rfl (Nat.le_of_ble_eq_true rfl) dX9_reading_67 ⟨Nat.le_of_ble_eq_true rfl, Nat.le_of_ble_eq_true rfl⟩) (fun H locs hw => ?_)
            obtain rfl := Option.some.inj hD
            exact x_iret C hw hr hk dX9_reading_70
          · replace hD := (if_neg c9).symm.trans hD
            refine lv_bipush (v := (-4 : Int32)) C.1 C.2.1 dX9_reading_53 (by decide) ?_
            refine lv_goto (tgt := 70) C.1 C.2.1 dX9_reading_55 (by decide) ?_
            obtain rfl := Option.some.inj hD
            exact x_iret C hw hr hk dX9_reading_70
        · replace hD := (if_pos c8).symm.trans hD
          refine lv_bipush (v := (-2 : Int32)) C.1 C.2.1 dX9_reading_38 (by decide) ?_
          obtain rfl := Option.some.inj hD
          exact x_iret C hw hr hk dX9_reading_40
  · replace hD := (if_pos c2).symm.trans hD
    refine lv_iconst (v := (-1 : Int32)) C.1 C.2.1 dX9_reading_11 (by decide) ?_
    obtain rfl := Option.some.inj hD
    exact x_iret C hw hr hk dX9_reading_12
theorem pNf_X3_4 {p : Program} {l : Launch} {e : Env} {R : Room} {s : State} {m : MethodId} {args : Array Value} {below : List Frame} {meth : Method} {c : Code} {H : Heap} {locs : List Loc} {cells slots : Nat} {Q : State → Prop} {cc : ByteArray} {pc nL index : Nat} {ls : Array Slot} {rest : List Value} {X : XC} {ex : va_W} {z : XS} {own : String} (C : CallFix p m c cc nL s args gtbl own) (hw : xw X ex z s H locs) {v : Int32} (hlink : (own, index, (TX3 4).1, (TX3 4).2.1, (TX3 4).2.2.1, "WordHedges") ∈ xnf) (hdg : decode cc pc = .ok (.putfield index, 3)) (kk : ∀ (H1 : Heap) (locs1 : List Loc), xw X ex (pS z 2 4 0 v) s H1 locs1 → W p l e R s m args below meth c H1 locs1 cells slots Q (F0 m (pc + 3) ls rest)) : W p l e R s m args below meth c H locs cells slots Q (F0 m pc ls (.int v :: .ref (X.2.2.1 2 0) :: rest)) :=
  x_putN (k := 2) (j := 0) C hw (Nat.le_of_ble_eq_true rfl) 4 (v := v) rfl rfl rfl ixX3 tyX3 tyX3_ok nmX3 (by decide) hlink rfl (by decide +kernel) (Nat.le_of_ble_eq_true rfl) hdg kk
abbrev rm_X9_back : Room := { frames := 1, cells := 0, slots := 0, locals := 21 }
def D_X9_back (x1 : Int32) (z : XS) : Option (Int32 × XS) :=
  (D_X9_isWithin x1 (gS z 2 4 0) z).bind fun q1 => ((if q1.1 = 0 then some ((-2 : Int32), q1.2) else (some (pS q1.2 2 4 0 ((gS q1.2 2 4 0) - x1))).bind fun z3 => (some (gS z3 2 4 0, z3))))
set_option maxHeartbeats 4000000 in
set_option maxRecDepth 100000 in
theorem c_X9_back (l : Launch) (X : XC) (ex : va_W) (x1 : Int32) (z : XS) (R0 : Int32 × XS) (hD : D_X9_back x1 z = some R0) : xM l X ex yX9_back cX9_back 2 (some .int) rm_X9_back [.ref (X.2.2.1 0 (0)), .int (x1)] z (xQi X ex R0.2 R0.1) := by
  refine x_ent (by decide) (Nat.le_of_ble_eq_true rfl) ?_
  intro p e s m below meth c ls C hr hk hw hl
  replace hl : lv_has ls 2 [(0, .ref (X.2.2.1 0 (0))), (1, .int (x1))] := hl
  unfold D_X9_back at hD
  refine lv_iload_n C.1 C.2.1 dX9_back_0 rfl (lv_at hl 1 rfl) ?_
  refine lv_aload_n C.1 C.2.1 dX9_back_1 rfl (lv_at hl 0 rfl) ?_
  refine gf_X9_1 C hw kw_247 dX9_back_2 ?_
  refine gNf_X3_4 C hw (List.mem_of_getElem? (i := 9) rfl) dX9_back_5 ?_
  obtain ⟨q1, hq1, hD⟩ := Option.bind_eq_some_iff.mp hD
  refine x_goi hw (x_runS (As := [.int (x1), .int (gS z 2 4 0)]) (rest := []) C hw cS_X9_isWithin kw_5 (c_X9_isWithin l X ex x1 (gS z 2 4 0)  z q1 hq1) ⟨Nat.le_of_ble_eq_true rfl, Nat.le_of_ble_eq_true rfl⟩ rfl hl.1 rfl (Nat.le_of_ble_eq_true rfl) dX9_back_8 ⟨Nat.le_of_ble_eq_true rfl, Nat.le_of_ble_eq_true rfl⟩) (fun H locs hw => ?_)
  refine lv_if_ne (tgt := 17) C.1 C.2.1 dX9_back_11 (by decide) (fun c2 => ?_) (fun c2 => ?_)
  · replace hD := (if_neg c2).symm.trans hD
    refine lv_aload_n C.1 C.2.1 dX9_back_17 rfl (lv_at hl 0 rfl) ?_
    refine gf_X9_1 C hw kw_247 dX9_back_18 ?_
    refine lv_dup C.1 C.2.1 dX9_back_21 rfl ?_
    refine gNf_X3_4 C hw (List.mem_of_getElem? (i := 9) rfl) dX9_back_22 ?_
    refine lv_iload_n C.1 C.2.1 dX9_back_25 rfl (lv_at hl 1 rfl) ?_
    refine lv_isub C.1 C.2.1 dX9_back_26 ?_
    obtain ⟨z3, hz3, hD⟩ := Option.bind_eq_some_iff.mp hD
    refine pNf_X3_4 C hw (List.mem_of_getElem? (i := 9) rfl) dX9_back_27 (fun H locs hw => ?_)
    replace hw := xw_eq hz3 hw
    refine lv_aload_n C.1 C.2.1 dX9_back_30 rfl (lv_at hl 0 rfl) ?_
    refine gf_X9_1 C hw kw_247 dX9_back_31 ?_
    refine gNf_X3_4 C hw (List.mem_of_getElem? (i := 9) rfl) dX9_back_34 ?_
    obtain rfl := Option.some.inj hD
    exact x_iret C hw hr hk dX9_back_37
  · replace hD := (if_pos c2).symm.trans hD
    refine lv_bipush (v := (-2 : Int32)) C.1 C.2.1 dX9_back_14 (by decide) ?_
    obtain rfl := Option.some.inj hD
    exact x_iret C hw hr hk dX9_back_16
theorem kw_258 : Cond.methodLink RX3 34 yX0_inchesIf ∈ gtbl := gm2 179 rfl rfl
abbrev rm_X3_allSoIf : Room := { frames := 4, cells := 0, slots := 0, locals := 92 }
def J_X3_allSoIf_101 (x2 : Int32) (x3 : Int32) (x4 : Int32) (x5 : Int32) (k3_ : Int32 → XS → Option (Int32 × XS)) (y6 : Int32) (t0 : Int32) (z : XS) : Option (Int32 × XS) :=
  gd (inB y6 10) ((if t0 = gA z 16 3 y6.toNatClampNeg then k3_ (y6 + 1) z else some ((0 : Int32), z)))
set_option maxHeartbeats 4000000 in
set_option maxRecDepth 100000 in
theorem w_X3_allSoIf_101 {p : Program} {l : Launch} {e : Env} {s : State} {m : MethodId} {below : List Frame} {meth : Method} {c : Code} {X : XC} {ex : va_W} (x2 : Int32) (x3 : Int32) (x4 : Int32) (x5 : Int32) (C : CallFix p m c cX3_allSoIf 10 s (([.ref (X.2.2.1 2 (0)), .ref (X.2.2.1 1 (0)), .int (x2), .int (x3), .int (x4), .int (x5)] : List Value).toArray) gtbl RX3) (hr : meth.sig.returnType = (some .boolean)) (hk : meth.locks = false) (R0 : Int32 × XS) (k3_ : Int32 → XS → Option (Int32 × XS)) (hk3_ : ∀ (y6 : Int32) (z : XS), k3_ y6 z = some R0 → ∀ (H : Heap) (locs : List Loc), xw X ex z s H locs → ∀ (ls : Array Slot), lv_has ls 10 [(0, .ref (X.2.2.1 2 (0))), (1, .ref (X.2.2.1 1 (0))), (2, .int (x2)), (3, .int (x3)), (4, .int (x4)), (5, .int (x5)), (6, .int (y6))] → W p l e rm_X3_allSoIf s m (([.ref (X.2.2.1 2 (0)), .ref (X.2.2.1 1 (0)), .int (x2), .int (x3), .int (x4), .int (x5)] : List Value).toArray) below meth c H locs 0 0 (MQ below (xQi X ex R0.2 R0.1) (([.ref (X.2.2.1 2 (0)), .ref (X.2.2.1 1 (0)), .int (x2), .int (x3), .int (x4), .int (x5)] : List Value).toArray) s 0 0 (xA X)) (F0 m 3 ls [])) : ∀ (y6 : Int32) (t0 : Int32) (z : XS), J_X3_allSoIf_101 x2 x3 x4 x5 k3_ y6 t0 z = some R0 → ∀ (H : Heap) (locs : List Loc), xw X ex z s H locs → ∀ (ls : Array Slot), lv_has ls 10 [(0, .ref (X.2.2.1 2 (0))), (1, .ref (X.2.2.1 1 (0))), (2, .int (x2)), (3, .int (x3)), (4, .int (x4)), (5, .int (x5)), (6, .int (y6))] → W p l e rm_X3_allSoIf s m (([.ref (X.2.2.1 2 (0)), .ref (X.2.2.1 1 (0)), .int (x2), .int (x3), .int (x4), .int (x5)] : List Value).toArray) below meth c H locs 0 0 (MQ below (xQi X ex R0.2 R0.1) (([.ref (X.2.2.1 2 (0)), .ref (X.2.2.1 1 (0)), .int (x2), .int (x3), .int (x4), .int (x5)] : List Value).toArray) s 0 0 (xA X)) (F0 m 101 ls [.int (t0)]) := by
  intro y6 t0 z  hD H locs hw ls hl
  unfold J_X3_allSoIf_101 at hD
  refine lv_istore (lv' := [(9, .int (t0)), (0, .ref (X.2.2.1 2 (0))), (1, .ref (X.2.2.1 1 (0))), (2, .int (x2)), (3, .int (x3)), (4, .int (x4)), (5, .int (x5)), (6, .int (y6))]) C.1 C.2.1 dX3_allSoIf_101 hl (by decide) rfl (fun ls hl => ?_)
  refine lv_iload C.1 C.2.1 dX3_allSoIf_103 (lv_at hl 0 rfl) ?_
  refine lv_aload_n C.1 C.2.1 dX3_allSoIf_105 rfl (lv_at hl 1 rfl) ?_
  refine gf_X3_3 C hw kw_245 dX3_allSoIf_106 ?_
  refine lv_iload C.1 C.2.1 dX3_allSoIf_109 (lv_at hl 7 rfl) ?_
  obtain ⟨g11, hD⟩ := gd_some hD
  refine x_iald (k := 16) (j := 3) C hw rfl (Nat.le_of_ble_eq_true rfl) (inB_in g11) dX3_allSoIf_111 ?_
  refine lv_icmp_eq (tgt := 117) C.1 C.2.1 dX3_allSoIf_112 (by decide) (fun c12 => ?_) (fun c12 => ?_)
  · replace hD := (if_pos c12).symm.trans hD
    refine lv_iinc (v := y6 + 1) (lv' := [(6, .int (y6 + 1)), (9, .int (t0)), (0, .ref (X.2.2.1 2 (0))), (1, .ref (X.2.2.1 1 (0))), (2, .int (x2)), (3, .int (x3)), (4, .int (x4)), (5, .int (x5))]) C.1 C.2.1 dX3_allSoIf_117 hl (k := 7) rfl rfl (by decide) rfl (fun ls hl => ?_)
    refine lv_goto (tgt := 3) C.1 C.2.1 dX3_allSoIf_120 (by decide) ?_
    exact hk3_ (y6 + 1) z  hD _ _ hw _ (lv_sub hl [2, 3, 4, 5, 6, 7, 0] rfl)
  · replace hD := (if_neg c12).symm.trans hD
    refine lv_iconst (v := (0 : Int32)) C.1 C.2.1 dX3_allSoIf_115 (by decide) ?_
    obtain rfl := Option.some.inj hD
    exact x_zret (v := (0 : Int32)) C hw hr hk nb0 dX3_allSoIf_116
def J_X3_allSoIf_53 (x2 : Int32) (x3 : Int32) (x4 : Int32) (x5 : Int32) (k3_ : Int32 → XS → Option (Int32 × XS)) (y6 : Int32) (y7 : Nat) (t0 : Int32) (z : XS) : Option (Int32 × XS) :=
  (if t0 = 0 then gd (inB y6 10) (gd (inB (gA z 16 1 y6.toNatClampNeg) 2) (gd (inB y6 10) (gd (inB (gA z 16 2 y6.toNatClampNeg) 31) (J_X3_allSoIf_101 x2 x3 x4 x5 k3_ y6 (gA z 14 (2 * y7 + (gA z 16 1 y6.toNatClampNeg).toNatClampNeg) (gA z 16 2 y6.toNatClampNeg).toNatClampNeg) z)))) else gd (inB y6 10) ((D_X0_inchesIf y7 x3 (gA z 16 2 y6.toNatClampNeg) x4 x5 z).bind fun q14 => (J_X3_allSoIf_101 x2 x3 x4 x5 k3_ y6 q14.1 q14.2)))
set_option maxHeartbeats 4000000 in
set_option maxRecDepth 100000 in
theorem w_X3_allSoIf_53 {p : Program} {l : Launch} {e : Env} {s : State} {m : MethodId} {below : List Frame} {meth : Method} {c : Code} {X : XC} {ex : va_W} (x2 : Int32) (x3 : Int32) (x4 : Int32) (x5 : Int32) (C : CallFix p m c cX3_allSoIf 10 s (([.ref (X.2.2.1 2 (0)), .ref (X.2.2.1 1 (0)), .int (x2), .int (x3), .int (x4), .int (x5)] : List Value).toArray) gtbl RX3) (hr : meth.sig.returnType = (some .boolean)) (hk : meth.locks = false) (R0 : Int32 × XS) (k3_ : Int32 → XS → Option (Int32 × XS)) (hk3_ : ∀ (y6 : Int32) (z : XS), k3_ y6 z = some R0 → ∀ (H : Heap) (locs : List Loc), xw X ex z s H locs → ∀ (ls : Array Slot), lv_has ls 10 [(0, .ref (X.2.2.1 2 (0))), (1, .ref (X.2.2.1 1 (0))), (2, .int (x2)), (3, .int (x3)), (4, .int (x4)), (5, .int (x5)), (6, .int (y6))] → W p l e rm_X3_allSoIf s m (([.ref (X.2.2.1 2 (0)), .ref (X.2.2.1 1 (0)), .int (x2), .int (x3), .int (x4), .int (x5)] : List Value).toArray) below meth c H locs 0 0 (MQ below (xQi X ex R0.2 R0.1) (([.ref (X.2.2.1 2 (0)), .ref (X.2.2.1 1 (0)), .int (x2), .int (x3), .int (x4), .int (x5)] : List Value).toArray) s 0 0 (xA X)) (F0 m 3 ls [])) : ∀ (y6 : Int32) (y7 : Nat) (t0 : Int32) (z : XS), ∀ (hy7 : y7 < 6), J_X3_allSoIf_53 x2 x3 x4 x5 k3_ y6 y7 t0 z = some R0 → ∀ (H : Heap) (locs : List Loc), xw X ex z s H locs → ∀ (ls : Array Slot), lv_has ls 10 [(0, .ref (X.2.2.1 2 (0))), (1, .ref (X.2.2.1 1 (0))), (2, .int (x2)), (3, .int (x3)), (4, .int (x4)), (5, .int (x5)), (6, .int (y6)), (7, .ref (X.2.2.1 9 (y7)))] → W p l e rm_X3_allSoIf s m (([.ref (X.2.2.1 2 (0)), .ref (X.2.2.1 1 (0)), .int (x2), .int (x3), .int (x4), .int (x5)] : List Value).toArray) below meth c H locs 0 0 (MQ below (xQi X ex R0.2 R0.1) (([.ref (X.2.2.1 2 (0)), .ref (X.2.2.1 1 (0)), .int (x2), .int (x3), .int (x4), .int (x5)] : List Value).toArray) s 0 0 (xA X)) (F0 m 53 ls [.int (t0)]) := by
  intro y6 y7 t0 z hy7 hD H locs hw ls hl
  unfold J_X3_allSoIf_53 at hD
  refine lv_istore (lv' := [(8, .int (t0)), (0, .ref (X.2.2.1 2 (0))), (1, .ref (X.2.2.1 1 (0))), (2, .int (x2)), (3, .int (x3)), (4, .int (x4)), (5, .int (x5)), (6, .int (y6)), (7, .ref (X.2.2.1 9 (y7)))]) C.1 C.2.1 dX3_allSoIf_53 hl (by decide) rfl (fun ls hl => ?_)
  refine lv_iload C.1 C.2.1 dX3_allSoIf_55 (lv_at hl 0 rfl) ?_
  refine lv_if_eq (tgt := 80) C.1 C.2.1 dX3_allSoIf_57 (by decide) (fun c6 => ?_) (fun c6 => ?_)
  · replace hD := (if_pos c6).symm.trans hD
    refine lv_aload C.1 C.2.1 dX3_allSoIf_80 (lv_at hl 8 rfl) ?_
    refine gNf_X0_2 C hw (j := y7) hy7 (List.mem_of_getElem? (i := 2) rfl) dX3_allSoIf_82 ?_
    refine lv_aload_n C.1 C.2.1 dX3_allSoIf_85 rfl (lv_at hl 1 rfl) ?_
    refine gf_X3_1 C hw kw_241 dX3_allSoIf_86 ?_
    refine lv_iload C.1 C.2.1 dX3_allSoIf_89 (lv_at hl 7 rfl) ?_
    obtain ⟨g7, hD⟩ := gd_some hD
    refine x_iald (k := 16) (j := 1) C hw rfl (Nat.le_of_ble_eq_true rfl) (inB_in g7) dX3_allSoIf_91 ?_
    obtain ⟨g8, hD⟩ := gd_some hD
    refine x_aald (k := 13) (j := y7) (f := fun i => X.2.2.1 14 (2 * y7 + i)) C hw hy7 1 rfl rfl rfl (inB_in g8) (a := X.2.2.1 14 (2 * y7 + (gA z 16 1 y6.toNatClampNeg).toNatClampNeg)) rfl dX3_allSoIf_92 ?_
    refine lv_aload_n C.1 C.2.1 dX3_allSoIf_93 rfl (lv_at hl 1 rfl) ?_
    refine gf_X3_2 C hw kw_243 dX3_allSoIf_94 ?_
    refine lv_iload C.1 C.2.1 dX3_allSoIf_97 (lv_at hl 7 rfl) ?_
    obtain ⟨g9, hD⟩ := gd_some hD
    refine x_iald (k := 16) (j := 2) C hw rfl (Nat.le_of_ble_eq_true rfl) (inB_in g9) dX3_allSoIf_99 ?_
    obtain ⟨g10, hD⟩ := gd_some hD
    refine x_iald (k := 14) (j := 2 * y7 + (gA z 16 1 y6.toNatClampNeg).toNatClampNeg) C hw rfl (x_lt2 hy7 (inB_lt g8)) (inB_in g10) dX3_allSoIf_100 ?_
    exact w_X3_allSoIf_101 x2 x3 x4 x5  C hr hk R0 k3_ hk3_ y6 (gA z 14 (2 * y7 + (gA z 16 1 y6.toNatClampNeg).toNatClampNeg) (gA z 16 2 y6.toNatClampNeg).toNatClampNeg) z  hD _ _ hw _ (lv_sub hl [1, 2, 3, 4, 5, 6, 7] rfl)
  · replace hD := (if_neg c6).symm.trans hD
    refine lv_aload C.1 C.2.1 dX3_allSoIf_60 (lv_at hl 8 rfl) ?_
    refine lv_iload_n C.1 C.2.1 dX3_allSoIf_62 rfl (lv_at hl 4 rfl) ?_
    refine lv_aload_n C.1 C.2.1 dX3_allSoIf_63 rfl (lv_at hl 1 rfl) ?_
    refine gf_X3_2 C hw kw_243 dX3_allSoIf_64 ?_
    refine lv_iload C.1 C.2.1 dX3_allSoIf_67 (lv_at hl 7 rfl) ?_
    obtain ⟨g13, hD⟩ := gd_some hD
    refine x_iald (k := 16) (j := 2) C hw rfl (Nat.le_of_ble_eq_true rfl) (inB_in g13) dX3_allSoIf_69 ?_
    refine lv_iload C.1 C.2.1 dX3_allSoIf_70 (lv_at hl 5 rfl) ?_
    refine lv_iload C.1 C.2.1 dX3_allSoIf_72 (lv_at hl 6 rfl) ?_
    obtain ⟨q14, hq14, hD⟩ := Option.bind_eq_some_iff.mp hD
    refine x_goi hw (x_runV (As := [.int (x3), .int (gA z 16 2 y6.toNatClampNeg), .int (x4), .int (x5)]) (rest := []) (k := 9) (j := y7) C hw hy7 rfl rfl cV_X0_inchesIf kw_258 (c_X0_inchesIf l X ex y7 x3 (gA z 16 2 y6.toNatClampNeg) x4 x5 hy7 z q14 hq14) ⟨Nat.le_of_ble_eq_true rfl, Nat.le_of_ble_eq_true rfl⟩ rfl hl.1 rfl (Nat.le_of_ble_eq_true rfl) dX3_allSoIf_74 ⟨Nat.le_of_ble_eq_true rfl, Nat.le_of_ble_eq_true rfl⟩) (fun H locs hw => ?_)
    refine lv_goto (tgt := 101) C.1 C.2.1 dX3_allSoIf_77 (by decide) ?_
    exact w_X3_allSoIf_101 x2 x3 x4 x5  C hr hk R0 k3_ hk3_ y6 q14.1 q14.2  hD _ _ hw _ (lv_sub hl [1, 2, 3, 4, 5, 6, 7] rfl)
def J_X3_allSoIf_52 (x2 : Int32) (x3 : Int32) (x4 : Int32) (x5 : Int32) (k3_ : Int32 → XS → Option (Int32 × XS)) (y6 : Int32) (y7 : Nat) (z : XS) : Option (Int32 × XS) :=
  J_X3_allSoIf_53 x2 x3 x4 x5 k3_ y6 y7 (0 : Int32) z
set_option maxHeartbeats 4000000 in
set_option maxRecDepth 100000 in
theorem w_X3_allSoIf_52 {p : Program} {l : Launch} {e : Env} {s : State} {m : MethodId} {below : List Frame} {meth : Method} {c : Code} {X : XC} {ex : va_W} (x2 : Int32) (x3 : Int32) (x4 : Int32) (x5 : Int32) (C : CallFix p m c cX3_allSoIf 10 s (([.ref (X.2.2.1 2 (0)), .ref (X.2.2.1 1 (0)), .int (x2), .int (x3), .int (x4), .int (x5)] : List Value).toArray) gtbl RX3) (hr : meth.sig.returnType = (some .boolean)) (hk : meth.locks = false) (R0 : Int32 × XS) (k3_ : Int32 → XS → Option (Int32 × XS)) (hk3_ : ∀ (y6 : Int32) (z : XS), k3_ y6 z = some R0 → ∀ (H : Heap) (locs : List Loc), xw X ex z s H locs → ∀ (ls : Array Slot), lv_has ls 10 [(0, .ref (X.2.2.1 2 (0))), (1, .ref (X.2.2.1 1 (0))), (2, .int (x2)), (3, .int (x3)), (4, .int (x4)), (5, .int (x5)), (6, .int (y6))] → W p l e rm_X3_allSoIf s m (([.ref (X.2.2.1 2 (0)), .ref (X.2.2.1 1 (0)), .int (x2), .int (x3), .int (x4), .int (x5)] : List Value).toArray) below meth c H locs 0 0 (MQ below (xQi X ex R0.2 R0.1) (([.ref (X.2.2.1 2 (0)), .ref (X.2.2.1 1 (0)), .int (x2), .int (x3), .int (x4), .int (x5)] : List Value).toArray) s 0 0 (xA X)) (F0 m 3 ls [])) : ∀ (y6 : Int32) (y7 : Nat) (z : XS), ∀ (hy7 : y7 < 6), J_X3_allSoIf_52 x2 x3 x4 x5 k3_ y6 y7 z = some R0 → ∀ (H : Heap) (locs : List Loc), xw X ex z s H locs → ∀ (ls : Array Slot), lv_has ls 10 [(0, .ref (X.2.2.1 2 (0))), (1, .ref (X.2.2.1 1 (0))), (2, .int (x2)), (3, .int (x3)), (4, .int (x4)), (5, .int (x5)), (6, .int (y6)), (7, .ref (X.2.2.1 9 (y7)))] → W p l e rm_X3_allSoIf s m (([.ref (X.2.2.1 2 (0)), .ref (X.2.2.1 1 (0)), .int (x2), .int (x3), .int (x4), .int (x5)] : List Value).toArray) below meth c H locs 0 0 (MQ below (xQi X ex R0.2 R0.1) (([.ref (X.2.2.1 2 (0)), .ref (X.2.2.1 1 (0)), .int (x2), .int (x3), .int (x4), .int (x5)] : List Value).toArray) s 0 0 (xA X)) (F0 m 52 ls []) := by
  intro y6 y7 z hy7 hD H locs hw ls hl
  unfold J_X3_allSoIf_52 at hD
  refine lv_iconst (v := (0 : Int32)) C.1 C.2.1 dX3_allSoIf_52 (by decide) ?_
  exact w_X3_allSoIf_53 x2 x3 x4 x5  C hr hk R0 k3_ hk3_ y6 y7 (0 : Int32) z hy7 hD _ _ hw _ (lv_sub hl [0, 1, 2, 3, 4, 5, 6, 7] rfl)
def B_X3_allSoIf_3 (x2 : Int32) (x3 : Int32) (x4 : Int32) (x5 : Int32) (k3_ : Int32 → XS → Option (Int32 × XS)) (y6 : Int32) (z : XS) : Option (Int32 × XS) :=
  (if gS z 2 4 0 ≤ y6 then some ((1 : Int32), z) else gd (inB y6 10) (gd (inB (gA z 16 0 y6.toNatClampNeg) 6) (gd (inB y6 10) ((if gA z 16 0 y6.toNatClampNeg = x2 then gd (inB y6 10) ((if gA z 16 1 y6.toNatClampNeg = x3 then J_X3_allSoIf_53 x2 x3 x4 x5 k3_ y6 ((gA z 16 0 y6.toNatClampNeg).toNatClampNeg) (1 : Int32) z else J_X3_allSoIf_52 x2 x3 x4 x5 k3_ y6 ((gA z 16 0 y6.toNatClampNeg).toNatClampNeg) z)) else J_X3_allSoIf_52 x2 x3 x4 x5 k3_ y6 ((gA z 16 0 y6.toNatClampNeg).toNatClampNeg) z)))))
def L_X3_allSoIf_3 (x2 : Int32) (x3 : Int32) (x4 : Int32) (x5 : Int32) : Nat → Int32 → XS → Option (Int32 × XS)
  | 0 => fun _ _ => none
  | n + 1 => B_X3_allSoIf_3 x2 x3 x4 x5  (L_X3_allSoIf_3 x2 x3 x4 x5  n)
set_option maxHeartbeats 4000000 in
set_option maxRecDepth 100000 in
theorem w_X3_allSoIf_3 {p : Program} {l : Launch} {e : Env} {s : State} {m : MethodId} {below : List Frame} {meth : Method} {c : Code} {X : XC} {ex : va_W} (x2 : Int32) (x3 : Int32) (x4 : Int32) (x5 : Int32) (C : CallFix p m c cX3_allSoIf 10 s (([.ref (X.2.2.1 2 (0)), .ref (X.2.2.1 1 (0)), .int (x2), .int (x3), .int (x4), .int (x5)] : List Value).toArray) gtbl RX3) (hr : meth.sig.returnType = (some .boolean)) (hk : meth.locks = false) (R0 : Int32 × XS)  : ∀ (n : Nat), ∀ (y6 : Int32) (z : XS), L_X3_allSoIf_3 x2 x3 x4 x5  n y6 z = some R0 → ∀ (H : Heap) (locs : List Loc), xw X ex z s H locs → ∀ (ls : Array Slot), lv_has ls 10 [(0, .ref (X.2.2.1 2 (0))), (1, .ref (X.2.2.1 1 (0))), (2, .int (x2)), (3, .int (x3)), (4, .int (x4)), (5, .int (x5)), (6, .int (y6))] → W p l e rm_X3_allSoIf s m (([.ref (X.2.2.1 2 (0)), .ref (X.2.2.1 1 (0)), .int (x2), .int (x3), .int (x4), .int (x5)] : List Value).toArray) below meth c H locs 0 0 (MQ below (xQi X ex R0.2 R0.1) (([.ref (X.2.2.1 2 (0)), .ref (X.2.2.1 1 (0)), .int (x2), .int (x3), .int (x4), .int (x5)] : List Value).toArray) s 0 0 (xA X)) (F0 m 3 ls []) := by
  intro n
  induction n with
  | zero =>
    intro y6 z  hD
    cases hD
  | succ n ih =>
    intro y6 z  hD H locs hw ls hl
    replace hD : B_X3_allSoIf_3 x2 x3 x4 x5  (L_X3_allSoIf_3 x2 x3 x4 x5  n) y6 z = some R0 := hD
    unfold B_X3_allSoIf_3 at hD
    refine lv_iload C.1 C.2.1 dX3_allSoIf_3 (lv_at hl 6 rfl) ?_
    refine lv_aload_n C.1 C.2.1 dX3_allSoIf_5 rfl (lv_at hl 0 rfl) ?_
    refine gf_X3_4 C hw kw_84 dX3_allSoIf_6 ?_
    refine lv_icmp_ge (tgt := 123) C.1 C.2.1 dX3_allSoIf_9 (by decide) (fun c1 => ?_) (fun c1 => ?_)
    · replace hD := (if_pos c1).symm.trans hD
      refine lv_iconst (v := (1 : Int32)) C.1 C.2.1 dX3_allSoIf_123 (by decide) ?_
      obtain rfl := Option.some.inj hD
      exact x_zret (v := (1 : Int32)) C hw hr hk nb1 dX3_allSoIf_124
    · replace hD := (if_neg c1).symm.trans hD
      refine lv_aload_n C.1 C.2.1 dX3_allSoIf_12 rfl (lv_at hl 1 rfl) ?_
      refine gNf_X4_1 C hw (List.mem_of_getElem? (i := 6) rfl) dX3_allSoIf_13 ?_
      refine lv_aload_n C.1 C.2.1 dX3_allSoIf_16 rfl (lv_at hl 0 rfl) ?_
      refine gf_X3_0 C hw kw_238 dX3_allSoIf_17 ?_
      refine lv_iload C.1 C.2.1 dX3_allSoIf_20 (lv_at hl 6 rfl) ?_
      obtain ⟨g2, hD⟩ := gd_some hD
      refine x_iald (k := 16) (j := 0) C hw rfl (Nat.le_of_ble_eq_true rfl) (inB_in g2) dX3_allSoIf_22 ?_
      obtain ⟨g3, hD⟩ := gd_some hD
      refine x_aald (k := 8) (j := 0) (f := fun i => X.2.2.1 9 i) C hw (Nat.le_of_ble_eq_true rfl) 2 rfl rfl rfl (inB_in g3) (a := X.2.2.1 9 ((gA z 16 0 y6.toNatClampNeg).toNatClampNeg)) rfl dX3_allSoIf_23 ?_
      refine lv_astore (lv' := [(7, .ref (X.2.2.1 9 ((gA z 16 0 y6.toNatClampNeg).toNatClampNeg))), (0, .ref (X.2.2.1 2 (0))), (1, .ref (X.2.2.1 1 (0))), (2, .int (x2)), (3, .int (x3)), (4, .int (x4)), (5, .int (x5)), (6, .int (y6))]) C.1 C.2.1 dX3_allSoIf_24 hl (by decide) rfl (fun ls hl => ?_)
      refine lv_aload_n C.1 C.2.1 dX3_allSoIf_26 rfl (lv_at hl 1 rfl) ?_
      refine gf_X3_0 C hw kw_238 dX3_allSoIf_27 ?_
      refine lv_iload C.1 C.2.1 dX3_allSoIf_30 (lv_at hl 7 rfl) ?_
      obtain ⟨g4, hD⟩ := gd_some hD
      refine x_iald (k := 16) (j := 0) C hw rfl (Nat.le_of_ble_eq_true rfl) (inB_in g4) dX3_allSoIf_32 ?_
      refine lv_iload_n C.1 C.2.1 dX3_allSoIf_33 rfl (lv_at hl 3 rfl) ?_
      refine lv_icmp_ne (tgt := 52) C.1 C.2.1 dX3_allSoIf_34 (by decide) (fun c5 => ?_) (fun c5 => ?_)
      · replace hD := (if_neg c5).symm.trans hD
        exact w_X3_allSoIf_52 x2 x3 x4 x5  C hr hk R0 (L_X3_allSoIf_3 x2 x3 x4 x5  n) ih y6 ((gA z 16 0 y6.toNatClampNeg).toNatClampNeg) z (inB_lt g3) hD _ _ hw _ (lv_sub hl [1, 2, 3, 4, 5, 6, 7, 0] rfl)
      · replace hD := (if_pos c5).symm.trans hD
        refine lv_aload_n C.1 C.2.1 dX3_allSoIf_37 rfl (lv_at hl 1 rfl) ?_
        refine gf_X3_1 C hw kw_241 dX3_allSoIf_38 ?_
        refine lv_iload C.1 C.2.1 dX3_allSoIf_41 (lv_at hl 7 rfl) ?_
        obtain ⟨g15, hD⟩ := gd_some hD
        refine x_iald (k := 16) (j := 1) C hw rfl (Nat.le_of_ble_eq_true rfl) (inB_in g15) dX3_allSoIf_43 ?_
        refine lv_iload_n C.1 C.2.1 dX3_allSoIf_44 rfl (lv_at hl 4 rfl) ?_
        refine lv_icmp_ne (tgt := 52) C.1 C.2.1 dX3_allSoIf_45 (by decide) (fun c16 => ?_) (fun c16 => ?_)
        · replace hD := (if_neg c16).symm.trans hD
          exact w_X3_allSoIf_52 x2 x3 x4 x5  C hr hk R0 (L_X3_allSoIf_3 x2 x3 x4 x5  n) ih y6 ((gA z 16 0 y6.toNatClampNeg).toNatClampNeg) z (inB_lt g3) hD _ _ hw _ (lv_sub hl [1, 2, 3, 4, 5, 6, 7, 0] rfl)
        · replace hD := (if_pos c16).symm.trans hD
          refine lv_iconst (v := (1 : Int32)) C.1 C.2.1 dX3_allSoIf_48 (by decide) ?_
          refine lv_goto (tgt := 53) C.1 C.2.1 dX3_allSoIf_49 (by decide) ?_
          exact w_X3_allSoIf_53 x2 x3 x4 x5  C hr hk R0 (L_X3_allSoIf_3 x2 x3 x4 x5  n) ih y6 ((gA z 16 0 y6.toNatClampNeg).toNatClampNeg) (1 : Int32) z (inB_lt g3) hD _ _ hw _ (lv_sub hl [1, 2, 3, 4, 5, 6, 7, 0] rfl)
def D_X3_allSoIf (x2 : Int32) (x3 : Int32) (x4 : Int32) (x5 : Int32) (z : XS) : Option (Int32 × XS) :=
  L_X3_allSoIf_3 x2 x3 x4 x5  64 (0 : Int32) z
set_option maxHeartbeats 4000000 in
set_option maxRecDepth 100000 in
theorem c_X3_allSoIf (l : Launch) (X : XC) (ex : va_W) (x2 : Int32) (x3 : Int32) (x4 : Int32) (x5 : Int32) (z : XS) (R0 : Int32 × XS) (hD : D_X3_allSoIf x2 x3 x4 x5 z = some R0) : xM l X ex yX3_allSoIf cX3_allSoIf 10 (some .boolean) rm_X3_allSoIf [.ref (X.2.2.1 2 (0)), .ref (X.2.2.1 1 (0)), .int (x2), .int (x3), .int (x4), .int (x5)] z (xQi X ex R0.2 R0.1) := by
  refine x_ent (by decide) (Nat.le_of_ble_eq_true rfl) ?_
  intro p e s m below meth c ls C hr hk hw hl
  replace hl : lv_has ls 10 [(0, .ref (X.2.2.1 2 (0))), (1, .ref (X.2.2.1 1 (0))), (2, .int (x2)), (3, .int (x3)), (4, .int (x4)), (5, .int (x5))] := hl
  unfold D_X3_allSoIf at hD
  refine lv_iconst (v := (0 : Int32)) C.1 C.2.1 dX3_allSoIf_0 (by decide) ?_
  refine lv_istore (lv' := [(6, .int ((0 : Int32))), (0, .ref (X.2.2.1 2 (0))), (1, .ref (X.2.2.1 1 (0))), (2, .int (x2)), (3, .int (x3)), (4, .int (x4)), (5, .int (x5))]) C.1 C.2.1 dX3_allSoIf_1 hl (by decide) rfl (fun ls hl => ?_)
  exact w_X3_allSoIf_3 x2 x3 x4 x5  C hr hk R0   64 (0 : Int32) z  hD _ _ hw _ (lv_sub hl [1, 2, 3, 4, 5, 6, 0] rfl)
theorem kw_259 : Cond.code yX3_allSoIf cX3_allSoIf 10 (some .boolean) ∈ gtbl := gm2 178 rfl rfl
theorem nd_X3_allSoIf : (yX3_allSoIf).cls ≠ "java/lang/invoke/MethodHandle" ∧ (yX3_allSoIf).cls ≠ "java/lang/invoke/VarHandle" ∧ (parseMethodDescriptor (yX3_allSoIf).desc).map (fun d => d.parameters.length) = some 5 := by decide +kernel
theorem kw_261 : Cond.instanceMethod yX3_allSoIf ∈ gtbl := gm2 176 rfl rfl
theorem kw_262 : Cond.selects RX3 yX3_allSoIf yX3_allSoIf ∈ gtbl := gm2 177 rfl rfl
theorem cV_X3_allSoIf : xcV yX3_allSoIf cX3_allSoIf 10 (some .boolean) 5 := ⟨⟨kw_259, kw_251, nd_X3_allSoIf⟩, kw_261, kw_262⟩
theorem kw_264 : Cond.methodLink RX9 171 yX3_allSoIf ∈ gtbl := gm2 175 rfl rfl
abbrev rm_X9_said : Room := { frames := 5, cells := 0, slots := 0, locals := 121 }
def B_X9_said_58 (x1 : Int32) (x2 : Int32) (x3 : Int32) (k58_ : Int32 → Int32 → Int32 → XS → Option (Int32 × XS)) (y4 : Int32) (y5 : Int32) (y6 : Int32) (z : XS) : Option (Int32 × XS) :=
  (if (3 : Int32) < y6 then some (y5, z) else (D_X9_otherSide x2 z).bind fun q11 => ((D_X3_allSoIf y4 q11.1 x3 y6 q11.2).bind fun q12 => ((if q12.1 = 0 then k58_ y4 y5 (y6 + 1) q12.2 else k58_ y4 (y5 ||| ((1 : Int32) <<< ((y6 + (3 : Int32)) &&& 31))) (y6 + 1) q12.2))))
def L_X9_said_58 (x1 : Int32) (x2 : Int32) (x3 : Int32) : Nat → Int32 → Int32 → Int32 → XS → Option (Int32 × XS)
  | 0 => fun _ _ _ _ => none
  | n + 1 => B_X9_said_58 x1 x2 x3  (L_X9_said_58 x1 x2 x3  n)
set_option maxHeartbeats 4000000 in
set_option maxRecDepth 100000 in
theorem w_X9_said_58 {p : Program} {l : Launch} {e : Env} {s : State} {m : MethodId} {below : List Frame} {meth : Method} {c : Code} {X : XC} {ex : va_W} (x1 : Int32) (x2 : Int32) (x3 : Int32) (C : CallFix p m c cX9_said 7 s (([.ref (X.2.2.1 0 (0)), .int (x1), .int (x2), .int (x3)] : List Value).toArray) gtbl RX9) (hr : meth.sig.returnType = (some .int)) (hk : meth.locks = false) (R0 : Int32 × XS)  : ∀ (n : Nat), ∀ (y4 : Int32) (y5 : Int32) (y6 : Int32) (z : XS), L_X9_said_58 x1 x2 x3  n y4 y5 y6 z = some R0 → ∀ (H : Heap) (locs : List Loc), xw X ex z s H locs → ∀ (ls : Array Slot), lv_has ls 7 [(0, .ref (X.2.2.1 0 (0))), (2, .int (x2)), (3, .int (x3)), (4, .int (y4)), (5, .int (y5)), (6, .int (y6))] → W p l e rm_X9_said s m (([.ref (X.2.2.1 0 (0)), .int (x1), .int (x2), .int (x3)] : List Value).toArray) below meth c H locs 0 0 (MQ below (xQi X ex R0.2 R0.1) (([.ref (X.2.2.1 0 (0)), .int (x1), .int (x2), .int (x3)] : List Value).toArray) s 0 0 (xA X)) (F0 m 58 ls []) := by
  intro n
  induction n with
  | zero =>
    intro y4 y5 y6 z  hD
    cases hD
  | succ n ih =>
    intro y4 y5 y6 z  hD H locs hw ls hl
    replace hD : B_X9_said_58 x1 x2 x3  (L_X9_said_58 x1 x2 x3  n) y4 y5 y6 z = some R0 := hD
    unfold B_X9_said_58 at hD
    refine lv_iload C.1 C.2.1 dX9_said_58 (lv_at hl 5 rfl) ?_
    refine lv_iconst (v := (3 : Int32)) C.1 C.2.1 dX9_said_60 (by decide) ?_
    refine lv_icmp_gt (tgt := 104) C.1 C.2.1 dX9_said_61 (by decide) (fun c10 => ?_) (fun c10 => ?_)
    · replace hD := (if_pos c10).symm.trans hD
      refine lv_iload C.1 C.2.1 dX9_said_104 (lv_at hl 4 rfl) ?_
      obtain rfl := Option.some.inj hD
      exact x_iret C hw hr hk dX9_said_106
    · replace hD := (if_neg c10).symm.trans hD
      refine lv_aload_n C.1 C.2.1 dX9_said_64 rfl (lv_at hl 0 rfl) ?_
      refine gf_X9_1 C hw kw_247 dX9_said_65 ?_
      refine lv_aload_n C.1 C.2.1 dX9_said_68 rfl (lv_at hl 0 rfl) ?_
      refine gf_X9_0 C hw kw_86 dX9_said_69 ?_
      refine lv_iload C.1 C.2.1 dX9_said_72 (lv_at hl 3 rfl) ?_
      refine lv_iload_n C.1 C.2.1 dX9_said_74 rfl (lv_at hl 1 rfl) ?_
      obtain ⟨q11, hq11, hD⟩ := Option.bind_eq_some_iff.mp hD
      refine x_goi hw (x_runS (As := [.int (x2)]) (rest := [.int (y4), .ref (X.2.2.1 1 (0)), .ref (X.2.2.1 2 (0))]) C hw cS_X9_otherSide kw_148 (c_X9_otherSide l X ex x2  z q11 hq11) ⟨Nat.le_of_ble_eq_true rfl, Nat.le_of_ble_eq_true rfl⟩ rfl hl.1 rfl (Nat.le_of_ble_eq_true rfl) dX9_said_75 ⟨Nat.le_of_ble_eq_true rfl, Nat.le_of_ble_eq_true rfl⟩) (fun H locs hw => ?_)
      refine lv_iload_n C.1 C.2.1 dX9_said_78 rfl (lv_at hl 2 rfl) ?_
      refine lv_iload C.1 C.2.1 dX9_said_79 (lv_at hl 5 rfl) ?_
      obtain ⟨q12, hq12, hD⟩ := Option.bind_eq_some_iff.mp hD
      refine x_goi hw (x_runV (As := [.ref (X.2.2.1 1 (0)), .int (y4), .int (q11.1), .int (x3), .int (y6)]) (rest := []) (k := 2) (j := 0) C hw (Nat.le_of_ble_eq_true rfl) rfl rfl cV_X3_allSoIf kw_264 (c_X3_allSoIf l X ex y4 q11.1 x3 y6  q11.2 q12 hq12) ⟨Nat.le_of_ble_eq_true rfl, Nat.le_of_ble_eq_true rfl⟩ rfl hl.1 rfl (Nat.le_of_ble_eq_true rfl) dX9_said_81 ⟨Nat.le_of_ble_eq_true rfl, Nat.le_of_ble_eq_true rfl⟩) (fun H locs hw => ?_)
      refine lv_if_eq (tgt := 98) C.1 C.2.1 dX9_said_84 (by decide) (fun c13 => ?_) (fun c13 => ?_)
      · replace hD := (if_pos c13).symm.trans hD
        refine lv_iinc (v := y6 + 1) (lv' := [(6, .int (y6 + 1)), (0, .ref (X.2.2.1 0 (0))), (2, .int (x2)), (3, .int (x3)), (4, .int (y4)), (5, .int (y5))]) C.1 C.2.1 dX9_said_98 hl (k := 5) rfl rfl (by decide) rfl (fun ls hl => ?_)
        refine lv_goto (tgt := 58) C.1 C.2.1 dX9_said_101 (by decide) ?_
        exact ih y4 y5 (y6 + 1) q12.2  hD _ _ hw _ (lv_sub hl [1, 2, 3, 4, 5, 0] rfl)
      · replace hD := (if_neg c13).symm.trans hD
        refine lv_iload C.1 C.2.1 dX9_said_87 (lv_at hl 4 rfl) ?_
        refine lv_iconst (v := (1 : Int32)) C.1 C.2.1 dX9_said_89 (by decide) ?_
        refine lv_iload C.1 C.2.1 dX9_said_90 (lv_at hl 5 rfl) ?_
        refine lv_iconst (v := (3 : Int32)) C.1 C.2.1 dX9_said_92 (by decide) ?_
        refine lv_iadd C.1 C.2.1 dX9_said_93 ?_
        refine lv_ishl C.1 C.2.1 dX9_said_94 ?_
        refine lv_ior C.1 C.2.1 dX9_said_95 ?_
        refine lv_istore (lv' := [(5, .int (y5 ||| ((1 : Int32) <<< ((y6 + (3 : Int32)) &&& 31)))), (0, .ref (X.2.2.1 0 (0))), (2, .int (x2)), (3, .int (x3)), (4, .int (y4)), (6, .int (y6))]) C.1 C.2.1 dX9_said_96 hl (by decide) rfl (fun ls hl => ?_)
        refine lv_iinc (v := y6 + 1) (lv' := [(6, .int (y6 + 1)), (5, .int (y5 ||| ((1 : Int32) <<< ((y6 + (3 : Int32)) &&& 31)))), (0, .ref (X.2.2.1 0 (0))), (2, .int (x2)), (3, .int (x3)), (4, .int (y4))]) C.1 C.2.1 dX9_said_98 hl (k := 5) rfl rfl (by decide) rfl (fun ls hl => ?_)
        refine lv_goto (tgt := 58) C.1 C.2.1 dX9_said_101 (by decide) ?_
        exact ih y4 (y5 ||| ((1 : Int32) <<< ((y6 + (3 : Int32)) &&& 31))) (y6 + 1) q12.2  hD _ _ hw _ (lv_sub hl [2, 3, 4, 5, 1, 0] rfl)
def D_X9_said (x1 : Int32) (x2 : Int32) (x3 : Int32) (z : XS) : Option (Int32 × XS) :=
  (D_X4_isGarden x1 z).bind fun q1 => ((if q1.1 = 0 then some ((-1 : Int32), q1.2) else (D_X9_isSide x2 q1.2).bind fun q3 => ((if q3.1 = 0 then some ((-2 : Int32), q3.2) else (D_X9_isDay x3 q3.2).bind fun q5 => ((if q5.1 = 0 then some ((-2 : Int32), q5.2) else (D_X9_hedgeBeside x1 x2 q5.2).bind fun q7 => ((D_X4_isHedge q7.1 q7.2).bind fun q8 => ((if q8.1 = 0 then some ((-1 : Int32), q8.2) else L_X9_said_58 x1 x2 x3  64 q7.1 (0 : Int32) (-3 : Int32) q8.2)))))))))
set_option maxHeartbeats 4000000 in
set_option maxRecDepth 100000 in
theorem c_X9_said (l : Launch) (X : XC) (ex : va_W) (x1 : Int32) (x2 : Int32) (x3 : Int32) (z : XS) (R0 : Int32 × XS) (hD : D_X9_said x1 x2 x3 z = some R0) : xM l X ex yX9_said cX9_said 7 (some .int) rm_X9_said [.ref (X.2.2.1 0 (0)), .int (x1), .int (x2), .int (x3)] z (xQi X ex R0.2 R0.1) := by
  refine x_ent (by decide) (Nat.le_of_ble_eq_true rfl) ?_
  intro p e s m below meth c ls C hr hk hw hl
  replace hl : lv_has ls 7 [(0, .ref (X.2.2.1 0 (0))), (1, .int (x1)), (2, .int (x2)), (3, .int (x3))] := hl
  unfold D_X9_said at hD
  refine lv_aload_n C.1 C.2.1 dX9_said_0 rfl (lv_at hl 0 rfl) ?_
  refine gf_X9_0 C hw kw_86 dX9_said_1 ?_
  refine lv_iload_n C.1 C.2.1 dX9_said_4 rfl (lv_at hl 1 rfl) ?_
  obtain ⟨q1, hq1, hD⟩ := Option.bind_eq_some_iff.mp hD
  refine x_goi hw (x_runV (As := [.int (x1)]) (rest := []) (k := 1) (j := 0) C hw (Nat.le_of_ble_eq_true rfl) rfl rfl cV_X4_isGarden kw_94 (c_X4_isGarden l X ex x1  z q1 hq1) ⟨Nat.le_of_ble_eq_true rfl, Nat.le_of_ble_eq_true rfl⟩ rfl hl.1 rfl (Nat.le_of_ble_eq_true rfl) dX9_said_5 ⟨Nat.le_of_ble_eq_true rfl, Nat.le_of_ble_eq_true rfl⟩) (fun H locs hw => ?_)
  refine lv_if_ne (tgt := 13) C.1 C.2.1 dX9_said_8 (by decide) (fun c2 => ?_) (fun c2 => ?_)
  · replace hD := (if_neg c2).symm.trans hD
    refine lv_iload_n C.1 C.2.1 dX9_said_13 rfl (lv_at hl 2 rfl) ?_
    obtain ⟨q3, hq3, hD⟩ := Option.bind_eq_some_iff.mp hD
    refine x_goi hw (x_runS (As := [.int (x2)]) (rest := []) C hw cS_X9_isSide kw_130 (c_X9_isSide l X ex x2  q1.2 q3 hq3) ⟨Nat.le_of_ble_eq_true rfl, Nat.le_of_ble_eq_true rfl⟩ rfl hl.1 rfl (Nat.le_of_ble_eq_true rfl) dX9_said_14 ⟨Nat.le_of_ble_eq_true rfl, Nat.le_of_ble_eq_true rfl⟩) (fun H locs hw => ?_)
    refine lv_if_eq (tgt := 27) C.1 C.2.1 dX9_said_17 (by decide) (fun c4 => ?_) (fun c4 => ?_)
    · replace hD := (if_pos c4).symm.trans hD
      refine lv_bipush (v := (-2 : Int32)) C.1 C.2.1 dX9_said_27 (by decide) ?_
      obtain rfl := Option.some.inj hD
      exact x_iret C hw hr hk dX9_said_29
    · replace hD := (if_neg c4).symm.trans hD
      refine lv_iload_n C.1 C.2.1 dX9_said_20 rfl (lv_at hl 3 rfl) ?_
      obtain ⟨q5, hq5, hD⟩ := Option.bind_eq_some_iff.mp hD
      refine x_goi hw (x_runS (As := [.int (x3)]) (rest := []) C hw cS_X9_isDay kw_135 (c_X9_isDay l X ex x3  q3.2 q5 hq5) ⟨Nat.le_of_ble_eq_true rfl, Nat.le_of_ble_eq_true rfl⟩ rfl hl.1 rfl (Nat.le_of_ble_eq_true rfl) dX9_said_21 ⟨Nat.le_of_ble_eq_true rfl, Nat.le_of_ble_eq_true rfl⟩) (fun H locs hw => ?_)
      refine lv_if_ne (tgt := 30) C.1 C.2.1 dX9_said_24 (by decide) (fun c6 => ?_) (fun c6 => ?_)
      · replace hD := (if_neg c6).symm.trans hD
        refine lv_iload_n C.1 C.2.1 dX9_said_30 rfl (lv_at hl 1 rfl) ?_
        refine lv_iload_n C.1 C.2.1 dX9_said_31 rfl (lv_at hl 2 rfl) ?_
        obtain ⟨q7, hq7, hD⟩ := Option.bind_eq_some_iff.mp hD
        refine x_goi hw (x_runS (As := [.int (x1), .int (x2)]) (rest := []) C hw cS_X9_hedgeBeside kw_143 (c_X9_hedgeBeside l X ex x1 x2  q5.2 q7 hq7) ⟨Nat.le_of_ble_eq_true rfl, Nat.le_of_ble_eq_true rfl⟩ rfl hl.1 rfl (Nat.le_of_ble_eq_true rfl) dX9_said_32 ⟨Nat.le_of_ble_eq_true rfl, Nat.le_of_ble_eq_true rfl⟩) (fun H locs hw => ?_)
        refine lv_istore (lv' := [(4, .int (q7.1)), (0, .ref (X.2.2.1 0 (0))), (1, .int (x1)), (2, .int (x2)), (3, .int (x3))]) C.1 C.2.1 dX9_said_35 hl (by decide) rfl (fun ls hl => ?_)
        refine lv_aload_n C.1 C.2.1 dX9_said_37 rfl (lv_at hl 1 rfl) ?_
        refine gf_X9_0 C hw kw_86 dX9_said_38 ?_
        refine lv_iload C.1 C.2.1 dX9_said_41 (lv_at hl 0 rfl) ?_
        obtain ⟨q8, hq8, hD⟩ := Option.bind_eq_some_iff.mp hD
        refine x_goi hw (x_runV (As := [.int (q7.1)]) (rest := []) (k := 1) (j := 0) C hw (Nat.le_of_ble_eq_true rfl) rfl rfl cV_X4_isHedge kw_101 (c_X4_isHedge l X ex q7.1  q7.2 q8 hq8) ⟨Nat.le_of_ble_eq_true rfl, Nat.le_of_ble_eq_true rfl⟩ rfl hl.1 rfl (Nat.le_of_ble_eq_true rfl) dX9_said_43 ⟨Nat.le_of_ble_eq_true rfl, Nat.le_of_ble_eq_true rfl⟩) (fun H locs hw => ?_)
        refine lv_if_ne (tgt := 51) C.1 C.2.1 dX9_said_46 (by decide) (fun c9 => ?_) (fun c9 => ?_)
        · replace hD := (if_neg c9).symm.trans hD
          refine lv_iconst (v := (0 : Int32)) C.1 C.2.1 dX9_said_51 (by decide) ?_
          refine lv_istore (lv' := [(5, .int ((0 : Int32))), (4, .int (q7.1)), (0, .ref (X.2.2.1 0 (0))), (1, .int (x1)), (2, .int (x2)), (3, .int (x3))]) C.1 C.2.1 dX9_said_52 hl (by decide) rfl (fun ls hl => ?_)
          refine lv_bipush (v := (-3 : Int32)) C.1 C.2.1 dX9_said_54 (by decide) ?_
          refine lv_istore (lv' := [(6, .int ((-3 : Int32))), (5, .int ((0 : Int32))), (4, .int (q7.1)), (0, .ref (X.2.2.1 0 (0))), (1, .int (x1)), (2, .int (x2)), (3, .int (x3))]) C.1 C.2.1 dX9_said_56 hl (by decide) rfl (fun ls hl => ?_)
          exact w_X9_said_58 x1 x2 x3  C hr hk R0   64 q7.1 (0 : Int32) (-3 : Int32) q8.2  hD _ _ hw _ (lv_sub hl [3, 5, 6, 2, 1, 0] rfl)
        · replace hD := (if_pos c9).symm.trans hD
          refine lv_iconst (v := (-1 : Int32)) C.1 C.2.1 dX9_said_49 (by decide) ?_
          obtain rfl := Option.some.inj hD
          exact x_iret C hw hr hk dX9_said_50
      · replace hD := (if_pos c6).symm.trans hD
        refine lv_bipush (v := (-2 : Int32)) C.1 C.2.1 dX9_said_27 (by decide) ?_
        obtain rfl := Option.some.inj hD
        exact x_iret C hw hr hk dX9_said_29
  · replace hD := (if_pos c2).symm.trans hD
    refine lv_iconst (v := (-1 : Int32)) C.1 C.2.1 dX9_said_11 (by decide) ?_
    obtain rfl := Option.some.inj hD
    exact x_iret C hw hr hk dX9_said_12
theorem kw_265 : Cond.methodLink RX4 93 yX0_dayOver ∈ gtbl := gm2 188 rfl rfl
theorem kw_266 : Cond.methodLink RX4 103 Lib.Math.min.name ∈ gtbl := gm2 195 rfl rfl
theorem kw_267 : Cond.methodLink RX4 106 yX4_betterOffIf ∈ gtbl := gm2 196 rfl rfl
abbrev rm_X4_eveningChoice : Room := { frames := 4, cells := 0, slots := 0, locals := 97 }
def B_X4_eveningChoice_19 (x1 : Int32) (x2 : Int32) (x3 : Int32) (x4 : Int32) (x5 : Int32) (k19_ : Int32 → Int32 → Int32 → Int32 → XS → Option (Int32 × XS)) (y6 : Int32) (y7 : Int32) (y9 : Int32) (y10 : Int32) (z : XS) : Option (Int32 × XS) :=
  (if y9 ≤ y10 then some (y6, z) else gd (inB y10 3) (gd (inB x2 6) ((D_X0_dayOver x2.toNatClampNeg x4 x3 (chI y10.toNatClampNeg) z).bind fun q4 => ((D_X4_betterOffIf x1 (x3 + (1 : Int32)) x2 (if x5 < q4.1 then x5 else q4.1) q4.2).bind fun q5 => ((if q5.1 ≤ y7 then k19_ y6 y7 y9 (y10 + 1) q5.2 else k19_ (chI y10.toNatClampNeg) q5.1 y9 (y10 + 1) q5.2))))))
def L_X4_eveningChoice_19 (x1 : Int32) (x2 : Int32) (x3 : Int32) (x4 : Int32) (x5 : Int32) : Nat → Int32 → Int32 → Int32 → Int32 → XS → Option (Int32 × XS)
  | 0 => fun _ _ _ _ _ => none
  | n + 1 => B_X4_eveningChoice_19 x1 x2 x3 x4 x5  (L_X4_eveningChoice_19 x1 x2 x3 x4 x5  n)
set_option maxHeartbeats 4000000 in
set_option maxRecDepth 100000 in
theorem w_X4_eveningChoice_19 {p : Program} {l : Launch} {e : Env} {s : State} {m : MethodId} {below : List Frame} {meth : Method} {c : Code} {X : XC} {ex : va_W} (x1 : Int32) (x2 : Int32) (x3 : Int32) (x4 : Int32) (x5 : Int32) (C : CallFix p m c cX4_eveningChoice 14 s (([.ref (X.2.2.1 1 (0)), .int (x1), .int (x2), .int (x3), .int (x4), .int (x5)] : List Value).toArray) gtbl RX4) (hr : meth.sig.returnType = (some .int)) (hk : meth.locks = false) (R0 : Int32 × XS)  : ∀ (n : Nat), ∀ (y6 : Int32) (y7 : Int32) (y9 : Int32) (y10 : Int32) (z : XS), L_X4_eveningChoice_19 x1 x2 x3 x4 x5  n y6 y7 y9 y10 z = some R0 → ∀ (H : Heap) (locs : List Loc), xw X ex z s H locs → ∀ (ls : Array Slot), lv_has ls 14 [(0, .ref (X.2.2.1 1 (0))), (1, .int (x1)), (2, .int (x2)), (3, .int (x3)), (4, .int (x4)), (5, .int (x5)), (6, .int (y6)), (7, .int (y7)), (8, .ref X.2.2.2.2), (9, .int (y9)), (10, .int (y10))] → W p l e rm_X4_eveningChoice s m (([.ref (X.2.2.1 1 (0)), .int (x1), .int (x2), .int (x3), .int (x4), .int (x5)] : List Value).toArray) below meth c H locs 0 0 (MQ below (xQi X ex R0.2 R0.1) (([.ref (X.2.2.1 1 (0)), .int (x1), .int (x2), .int (x3), .int (x4), .int (x5)] : List Value).toArray) s 0 0 (xA X)) (F0 m 19 ls []) := by
  intro n
  induction n with
  | zero =>
    intro y6 y7 y9 y10 z  hD
    cases hD
  | succ n ih =>
    intro y6 y7 y9 y10 z  hD H locs hw ls hl
    replace hD : B_X4_eveningChoice_19 x1 x2 x3 x4 x5  (L_X4_eveningChoice_19 x1 x2 x3 x4 x5  n) y6 y7 y9 y10 z = some R0 := hD
    unfold B_X4_eveningChoice_19 at hD
    refine lv_iload C.1 C.2.1 dX4_eveningChoice_19 (lv_at hl 10 rfl) ?_
    refine lv_iload C.1 C.2.1 dX4_eveningChoice_21 (lv_at hl 9 rfl) ?_
    refine lv_icmp_ge (tgt := 88) C.1 C.2.1 dX4_eveningChoice_23 (by decide) (fun c1 => ?_) (fun c1 => ?_)
    · replace hD := (if_pos c1).symm.trans hD
      refine lv_iload C.1 C.2.1 dX4_eveningChoice_88 (lv_at hl 6 rfl) ?_
      obtain rfl := Option.some.inj hD
      exact x_iret C hw hr hk dX4_eveningChoice_90
    · replace hD := (if_neg c1).symm.trans hD
      refine lv_aload C.1 C.2.1 dX4_eveningChoice_26 (lv_at hl 8 rfl) ?_
      refine lv_iload C.1 C.2.1 dX4_eveningChoice_28 (lv_at hl 10 rfl) ?_
      obtain ⟨g2, hD⟩ := gd_some hD
      refine x_chald C hw (inB_in g2) dX4_eveningChoice_30 ?_
      refine lv_istore (lv' := [(11, .int (chI y10.toNatClampNeg)), (0, .ref (X.2.2.1 1 (0))), (1, .int (x1)), (2, .int (x2)), (3, .int (x3)), (4, .int (x4)), (5, .int (x5)), (6, .int (y6)), (7, .int (y7)), (8, .ref X.2.2.2.2), (9, .int (y9)), (10, .int (y10))]) C.1 C.2.1 dX4_eveningChoice_31 hl (by decide) rfl (fun ls hl => ?_)
      refine lv_aload_n C.1 C.2.1 dX4_eveningChoice_33 rfl (lv_at hl 1 rfl) ?_
      refine gf_X4_1 C hw kw_184 dX4_eveningChoice_34 ?_
      refine lv_iload_n C.1 C.2.1 dX4_eveningChoice_37 rfl (lv_at hl 3 rfl) ?_
      obtain ⟨g3, hD⟩ := gd_some hD
      refine x_aald (k := 8) (j := 0) (f := fun i => X.2.2.1 9 i) C hw (Nat.le_of_ble_eq_true rfl) 2 rfl rfl rfl (inB_in g3) (a := X.2.2.1 9 (x2.toNatClampNeg)) rfl dX4_eveningChoice_38 ?_
      refine lv_iload C.1 C.2.1 dX4_eveningChoice_39 (lv_at hl 5 rfl) ?_
      refine lv_iload_n C.1 C.2.1 dX4_eveningChoice_41 rfl (lv_at hl 4 rfl) ?_
      refine lv_iload C.1 C.2.1 dX4_eveningChoice_42 (lv_at hl 0 rfl) ?_
      obtain ⟨q4, hq4, hD⟩ := Option.bind_eq_some_iff.mp hD
      refine x_goi hw (x_runV (As := [.int (x4), .int (x3), .int (chI y10.toNatClampNeg)]) (rest := []) (k := 9) (j := x2.toNatClampNeg) C hw (inB_lt g3) rfl rfl cV_X0_dayOver kw_265 (c_X0_dayOver l X ex x2.toNatClampNeg x4 x3 (chI y10.toNatClampNeg) (inB_lt g3) z q4 hq4) ⟨Nat.le_of_ble_eq_true rfl, Nat.le_of_ble_eq_true rfl⟩ rfl hl.1 rfl (Nat.le_of_ble_eq_true rfl) dX4_eveningChoice_44 ⟨Nat.le_of_ble_eq_true rfl, Nat.le_of_ble_eq_true rfl⟩) (fun H locs hw => ?_)
      refine lv_iload C.1 C.2.1 dX4_eveningChoice_47 (lv_at hl 6 rfl) ?_
      refine va_mmin C.1 C.2.1 (C.2.2.1.trans hl.1.symm) C.2.2.2.1 (C.2.2.2.2 _ kw_266) (C.2.2.2.2 _ kw_65) (C.2.2.2.2 _ kw_66) (C.2.2.2.2 _ kw_67) (Nat.le_of_ble_eq_true rfl) (Nat.le_of_ble_eq_true rfl) (Nat.le_of_ble_eq_true rfl) (Nat.le_of_ble_eq_true rfl) dX4_eveningChoice_49 ?_
      refine lv_istore (lv' := [(12, .int (if x5 < q4.1 then x5 else q4.1)), (11, .int (chI y10.toNatClampNeg)), (0, .ref (X.2.2.1 1 (0))), (1, .int (x1)), (2, .int (x2)), (3, .int (x3)), (4, .int (x4)), (5, .int (x5)), (6, .int (y6)), (7, .int (y7)), (8, .ref X.2.2.2.2), (9, .int (y9)), (10, .int (y10))]) C.1 C.2.1 dX4_eveningChoice_52 hl (by decide) rfl (fun ls hl => ?_)
      refine lv_aload_n C.1 C.2.1 dX4_eveningChoice_54 rfl (lv_at hl 2 rfl) ?_
      refine lv_iload_n C.1 C.2.1 dX4_eveningChoice_55 rfl (lv_at hl 3 rfl) ?_
      refine lv_iload_n C.1 C.2.1 dX4_eveningChoice_56 rfl (lv_at hl 5 rfl) ?_
      refine lv_iconst (v := (1 : Int32)) C.1 C.2.1 dX4_eveningChoice_57 (by decide) ?_
      refine lv_iadd C.1 C.2.1 dX4_eveningChoice_58 ?_
      refine lv_iload_n C.1 C.2.1 dX4_eveningChoice_59 rfl (lv_at hl 4 rfl) ?_
      refine lv_iload C.1 C.2.1 dX4_eveningChoice_60 (lv_at hl 0 rfl) ?_
      obtain ⟨q5, hq5, hD⟩ := Option.bind_eq_some_iff.mp hD
      refine x_goi hw (x_runV (As := [.int (x1), .int (x3 + (1 : Int32)), .int (x2), .int (if x5 < q4.1 then x5 else q4.1)]) (rest := []) (k := 1) (j := 0) C hw (Nat.le_of_ble_eq_true rfl) rfl rfl cV_X4_betterOffIf kw_267 (c_X4_betterOffIf l X ex x1 (x3 + (1 : Int32)) x2 (if x5 < q4.1 then x5 else q4.1)  q4.2 q5 hq5) ⟨Nat.le_of_ble_eq_true rfl, Nat.le_of_ble_eq_true rfl⟩ rfl hl.1 rfl (Nat.le_of_ble_eq_true rfl) dX4_eveningChoice_62 ⟨Nat.le_of_ble_eq_true rfl, Nat.le_of_ble_eq_true rfl⟩) (fun H locs hw => ?_)
      refine lv_istore (lv' := [(13, .int (q5.1)), (12, .int (if x5 < q4.1 then x5 else q4.1)), (11, .int (chI y10.toNatClampNeg)), (0, .ref (X.2.2.1 1 (0))), (1, .int (x1)), (2, .int (x2)), (3, .int (x3)), (4, .int (x4)), (5, .int (x5)), (6, .int (y6)), (7, .int (y7)), (8, .ref X.2.2.2.2), (9, .int (y9)), (10, .int (y10))]) C.1 C.2.1 dX4_eveningChoice_65 hl (by decide) rfl (fun ls hl => ?_)
      refine lv_iload C.1 C.2.1 dX4_eveningChoice_67 (lv_at hl 0 rfl) ?_
      refine lv_iload C.1 C.2.1 dX4_eveningChoice_69 (lv_at hl 10 rfl) ?_
      refine lv_icmp_le (tgt := 82) C.1 C.2.1 dX4_eveningChoice_71 (by decide) (fun c6 => ?_) (fun c6 => ?_)
      · replace hD := (if_pos c6).symm.trans hD
        refine lv_iinc (v := y10 + 1) (lv' := [(10, .int (y10 + 1)), (13, .int (q5.1)), (12, .int (if x5 < q4.1 then x5 else q4.1)), (11, .int (chI y10.toNatClampNeg)), (0, .ref (X.2.2.1 1 (0))), (1, .int (x1)), (2, .int (x2)), (3, .int (x3)), (4, .int (x4)), (5, .int (x5)), (6, .int (y6)), (7, .int (y7)), (8, .ref X.2.2.2.2), (9, .int (y9))]) C.1 C.2.1 dX4_eveningChoice_82 hl (k := 13) rfl rfl (by decide) rfl (fun ls hl => ?_)
        refine lv_goto (tgt := 19) C.1 C.2.1 dX4_eveningChoice_85 (by decide) ?_
        exact ih y6 y7 y9 (y10 + 1) q5.2  hD _ _ hw _ (lv_sub hl [4, 5, 6, 7, 8, 9, 10, 11, 12, 13, 0] rfl)
      · replace hD := (if_neg c6).symm.trans hD
        refine lv_iload C.1 C.2.1 dX4_eveningChoice_74 (lv_at hl 0 rfl) ?_
        refine lv_istore (lv' := [(7, .int (q5.1)), (13, .int (q5.1)), (12, .int (if x5 < q4.1 then x5 else q4.1)), (11, .int (chI y10.toNatClampNeg)), (0, .ref (X.2.2.1 1 (0))), (1, .int (x1)), (2, .int (x2)), (3, .int (x3)), (4, .int (x4)), (5, .int (x5)), (6, .int (y6)), (8, .ref X.2.2.2.2), (9, .int (y9)), (10, .int (y10))]) C.1 C.2.1 dX4_eveningChoice_76 hl (by decide) rfl (fun ls hl => ?_)
        refine lv_iload C.1 C.2.1 dX4_eveningChoice_78 (lv_at hl 3 rfl) ?_
        refine lv_istore (lv' := [(6, .int (chI y10.toNatClampNeg)), (7, .int (q5.1)), (13, .int (q5.1)), (12, .int (if x5 < q4.1 then x5 else q4.1)), (11, .int (chI y10.toNatClampNeg)), (0, .ref (X.2.2.1 1 (0))), (1, .int (x1)), (2, .int (x2)), (3, .int (x3)), (4, .int (x4)), (5, .int (x5)), (8, .ref X.2.2.2.2), (9, .int (y9)), (10, .int (y10))]) C.1 C.2.1 dX4_eveningChoice_80 hl (by decide) rfl (fun ls hl => ?_)
        refine lv_iinc (v := y10 + 1) (lv' := [(10, .int (y10 + 1)), (6, .int (chI y10.toNatClampNeg)), (7, .int (q5.1)), (13, .int (q5.1)), (12, .int (if x5 < q4.1 then x5 else q4.1)), (11, .int (chI y10.toNatClampNeg)), (0, .ref (X.2.2.1 1 (0))), (1, .int (x1)), (2, .int (x2)), (3, .int (x3)), (4, .int (x4)), (5, .int (x5)), (8, .ref X.2.2.2.2), (9, .int (y9))]) C.1 C.2.1 dX4_eveningChoice_82 hl (k := 13) rfl rfl (by decide) rfl (fun ls hl => ?_)
        refine lv_goto (tgt := 19) C.1 C.2.1 dX4_eveningChoice_85 (by decide) ?_
        exact ih (chI y10.toNatClampNeg) q5.1 y9 (y10 + 1) q5.2  hD _ _ hw _ (lv_sub hl [6, 7, 8, 9, 10, 11, 1, 2, 12, 13, 0] rfl)
def D_X4_eveningChoice (x1 : Int32) (x2 : Int32) (x3 : Int32) (x4 : Int32) (x5 : Int32) (z : XS) : Option (Int32 × XS) :=
  L_X4_eveningChoice_19 x1 x2 x3 x4 x5  64 (0 : Int32) (-1 : Int32) (3 : Int32) (0 : Int32) z
set_option maxHeartbeats 4000000 in
set_option maxRecDepth 100000 in
theorem c_X4_eveningChoice (l : Launch) (X : XC) (ex : va_W) (x1 : Int32) (x2 : Int32) (x3 : Int32) (x4 : Int32) (x5 : Int32) (z : XS) (R0 : Int32 × XS) (hD : D_X4_eveningChoice x1 x2 x3 x4 x5 z = some R0) : xM l X ex yX4_eveningChoice cX4_eveningChoice 14 (some .int) rm_X4_eveningChoice [.ref (X.2.2.1 1 (0)), .int (x1), .int (x2), .int (x3), .int (x4), .int (x5)] z (xQi X ex R0.2 R0.1) := by
  refine x_ent (by decide) (Nat.le_of_ble_eq_true rfl) ?_
  intro p e s m below meth c ls C hr hk hw hl
  replace hl : lv_has ls 14 [(0, .ref (X.2.2.1 1 (0))), (1, .int (x1)), (2, .int (x2)), (3, .int (x3)), (4, .int (x4)), (5, .int (x5))] := hl
  unfold D_X4_eveningChoice at hD
  refine lv_iconst (v := (0 : Int32)) C.1 C.2.1 dX4_eveningChoice_0 (by decide) ?_
  refine lv_istore (lv' := [(6, .int ((0 : Int32))), (0, .ref (X.2.2.1 1 (0))), (1, .int (x1)), (2, .int (x2)), (3, .int (x3)), (4, .int (x4)), (5, .int (x5))]) C.1 C.2.1 dX4_eveningChoice_1 hl (by decide) rfl (fun ls hl => ?_)
  refine lv_iconst (v := (-1 : Int32)) C.1 C.2.1 dX4_eveningChoice_3 (by decide) ?_
  refine lv_istore (lv' := [(7, .int ((-1 : Int32))), (6, .int ((0 : Int32))), (0, .ref (X.2.2.1 1 (0))), (1, .int (x1)), (2, .int (x2)), (3, .int (x3)), (4, .int (x4)), (5, .int (x5))]) C.1 C.2.1 dX4_eveningChoice_4 hl (by decide) rfl (fun ls hl => ?_)
  refine x_choices C hw (List.mem_of_getElem? (i := 15) rfl) dX4_eveningChoice_6 ?_
  refine lv_astore (lv' := [(8, .ref X.2.2.2.2), (7, .int ((-1 : Int32))), (6, .int ((0 : Int32))), (0, .ref (X.2.2.1 1 (0))), (1, .int (x1)), (2, .int (x2)), (3, .int (x3)), (4, .int (x4)), (5, .int (x5))]) C.1 C.2.1 dX4_eveningChoice_9 hl (by decide) rfl (fun ls hl => ?_)
  refine lv_aload C.1 C.2.1 dX4_eveningChoice_11 (lv_at hl 0 rfl) ?_
  refine x_chlen C hw dX4_eveningChoice_13 ?_
  refine lv_istore (lv' := [(9, .int ((3 : Int32))), (8, .ref X.2.2.2.2), (7, .int ((-1 : Int32))), (6, .int ((0 : Int32))), (0, .ref (X.2.2.1 1 (0))), (1, .int (x1)), (2, .int (x2)), (3, .int (x3)), (4, .int (x4)), (5, .int (x5))]) C.1 C.2.1 dX4_eveningChoice_14 hl (by decide) rfl (fun ls hl => ?_)
  refine lv_iconst (v := (0 : Int32)) C.1 C.2.1 dX4_eveningChoice_16 (by decide) ?_
  refine lv_istore (lv' := [(10, .int ((0 : Int32))), (9, .int ((3 : Int32))), (8, .ref X.2.2.2.2), (7, .int ((-1 : Int32))), (6, .int ((0 : Int32))), (0, .ref (X.2.2.1 1 (0))), (1, .int (x1)), (2, .int (x2)), (3, .int (x3)), (4, .int (x4)), (5, .int (x5))]) C.1 C.2.1 dX4_eveningChoice_17 hl (by decide) rfl (fun ls hl => ?_)
  exact w_X4_eveningChoice_19 x1 x2 x3 x4 x5  C hr hk R0   64 (0 : Int32) (-1 : Int32) (3 : Int32) (0 : Int32) z  hD _ _ hw _ (lv_sub hl [5, 6, 7, 8, 9, 10, 4, 3, 2, 1, 0] rfl)
theorem kw_268 : Cond.code yX4_eveningChoice cX4_eveningChoice 14 (some .int) ∈ gtbl := gm2 192 rfl rfl
theorem nd_X4_eveningChoice : (yX4_eveningChoice).cls ≠ "java/lang/invoke/MethodHandle" ∧ (yX4_eveningChoice).cls ≠ "java/lang/invoke/VarHandle" ∧ (parseMethodDescriptor (yX4_eveningChoice).desc).map (fun d => d.parameters.length) = some 5 := by decide +kernel
theorem kw_270 : Cond.instanceMethod yX4_eveningChoice ∈ gtbl := gm2 191 rfl rfl
theorem kw_271 : Cond.selects RX4 yX4_eveningChoice yX4_eveningChoice ∈ gtbl := gm0 3 rfl rfl
theorem cV_X4_eveningChoice : xcV yX4_eveningChoice cX4_eveningChoice 14 (some .int) 5 := ⟨⟨kw_268, kw_89, nd_X4_eveningChoice⟩, kw_270, kw_271⟩
theorem kw_273 : Cond.methodLink RX4 96 yX4_eveningChoice ∈ gtbl := gm2 189 rfl rfl
abbrev rm_X4_lastWordOfQuarrel : Room := { frames := 5, cells := 0, slots := 0, locals := 130 }
def B_X4_lastWordOfQuarrel_39 (x1 : Int32) (x2 : Int32) (x3 : Int32) (x4 : Int32) (k39_ : Nat → Int32 → Int32 → Int32 → Int32 → Int32 → XS → Option (Int32 × XS)) (y5 : Nat) (y6 : Int32) (y7 : Int32) (y8 : Int32) (y9 : Int32) (y10 : Int32) (z : XS) : Option (Int32 × XS) :=
  (if x3 < y10 then (if x4 = 0 then some (y8, z) else some (y9, z)) else (D_X0_dayOver y5 y7 y10 (0 : Int32) z).bind fun q8 => ((D_X4_eveningChoice x1 x1 y10 y6 q8.1 q8.2).bind fun q9 => ((D_X0_dayOver y5 y6 y10 (0 : Int32) q9.2).bind fun q10 => ((D_X4_eveningChoice (x1 + (1 : Int32)) x1 y10 y7 q10.1 q10.2).bind fun q11 => ((D_X0_dayOver y5 y6 y10 q9.1 q11.2).bind fun q12 => ((D_X0_dayOver y5 y7 y10 q11.1 q12.2).bind fun q13 => (k39_ y5 q12.1 q13.1 q9.1 q11.1 (y10 + 1) q13.2)))))))
def L_X4_lastWordOfQuarrel_39 (x1 : Int32) (x2 : Int32) (x3 : Int32) (x4 : Int32) : Nat → Nat → Int32 → Int32 → Int32 → Int32 → Int32 → XS → Option (Int32 × XS)
  | 0 => fun _ _ _ _ _ _ _ => none
  | n + 1 => B_X4_lastWordOfQuarrel_39 x1 x2 x3 x4  (L_X4_lastWordOfQuarrel_39 x1 x2 x3 x4  n)
set_option maxHeartbeats 4000000 in
set_option maxRecDepth 100000 in
theorem w_X4_lastWordOfQuarrel_39 {p : Program} {l : Launch} {e : Env} {s : State} {m : MethodId} {below : List Frame} {meth : Method} {c : Code} {X : XC} {ex : va_W} (x1 : Int32) (x2 : Int32) (x3 : Int32) (x4 : Int32) (C : CallFix p m c cX4_lastWordOfQuarrel 11 s (([.ref (X.2.2.1 1 (0)), .int (x1), .int (x2), .int (x3), .int (x4)] : List Value).toArray) gtbl RX4) (hr : meth.sig.returnType = (some .int)) (hk : meth.locks = false) (R0 : Int32 × XS)  : ∀ (n : Nat), ∀ (y5 : Nat) (y6 : Int32) (y7 : Int32) (y8 : Int32) (y9 : Int32) (y10 : Int32) (z : XS), ∀ (hy5 : y5 < 6), L_X4_lastWordOfQuarrel_39 x1 x2 x3 x4  n y5 y6 y7 y8 y9 y10 z = some R0 → ∀ (H : Heap) (locs : List Loc), xw X ex z s H locs → ∀ (ls : Array Slot), lv_has ls 11 [(0, .ref (X.2.2.1 1 (0))), (1, .int (x1)), (3, .int (x3)), (4, .int (x4)), (5, .ref (X.2.2.1 9 (y5))), (6, .int (y6)), (7, .int (y7)), (8, .int (y8)), (9, .int (y9)), (10, .int (y10))] → W p l e rm_X4_lastWordOfQuarrel s m (([.ref (X.2.2.1 1 (0)), .int (x1), .int (x2), .int (x3), .int (x4)] : List Value).toArray) below meth c H locs 0 0 (MQ below (xQi X ex R0.2 R0.1) (([.ref (X.2.2.1 1 (0)), .int (x1), .int (x2), .int (x3), .int (x4)] : List Value).toArray) s 0 0 (xA X)) (F0 m 39 ls []) := by
  intro n
  induction n with
  | zero =>
    intro y5 y6 y7 y8 y9 y10 z hy5 hD
    cases hD
  | succ n ih =>
    intro y5 y6 y7 y8 y9 y10 z hy5 hD H locs hw ls hl
    replace hD : B_X4_lastWordOfQuarrel_39 x1 x2 x3 x4  (L_X4_lastWordOfQuarrel_39 x1 x2 x3 x4  n) y5 y6 y7 y8 y9 y10 z = some R0 := hD
    unfold B_X4_lastWordOfQuarrel_39 at hD
    refine lv_iload C.1 C.2.1 dX4_lastWordOfQuarrel_39 (lv_at hl 9 rfl) ?_
    refine lv_iload_n C.1 C.2.1 dX4_lastWordOfQuarrel_41 rfl (lv_at hl 2 rfl) ?_
    refine lv_icmp_gt (tgt := 123) C.1 C.2.1 dX4_lastWordOfQuarrel_42 (by decide) (fun c6 => ?_) (fun c6 => ?_)
    · replace hD := (if_pos c6).symm.trans hD
      refine lv_iload C.1 C.2.1 dX4_lastWordOfQuarrel_123 (lv_at hl 3 rfl) ?_
      refine lv_if_ne (tgt := 133) C.1 C.2.1 dX4_lastWordOfQuarrel_125 (by decide) (fun c7 => ?_) (fun c7 => ?_)
      · replace hD := (if_neg c7).symm.trans hD
        refine lv_iload C.1 C.2.1 dX4_lastWordOfQuarrel_133 (lv_at hl 8 rfl) ?_
        obtain rfl := Option.some.inj hD
        exact x_iret C hw hr hk dX4_lastWordOfQuarrel_135
      · replace hD := (if_pos c7).symm.trans hD
        refine lv_iload C.1 C.2.1 dX4_lastWordOfQuarrel_128 (lv_at hl 7 rfl) ?_
        refine lv_goto (tgt := 135) C.1 C.2.1 dX4_lastWordOfQuarrel_130 (by decide) ?_
        obtain rfl := Option.some.inj hD
        exact x_iret C hw hr hk dX4_lastWordOfQuarrel_135
    · replace hD := (if_neg c6).symm.trans hD
      refine lv_aload_n C.1 C.2.1 dX4_lastWordOfQuarrel_45 rfl (lv_at hl 0 rfl) ?_
      refine lv_iload_n C.1 C.2.1 dX4_lastWordOfQuarrel_46 rfl (lv_at hl 1 rfl) ?_
      refine lv_iload_n C.1 C.2.1 dX4_lastWordOfQuarrel_47 rfl (lv_at hl 1 rfl) ?_
      refine lv_iload C.1 C.2.1 dX4_lastWordOfQuarrel_48 (lv_at hl 9 rfl) ?_
      refine lv_iload C.1 C.2.1 dX4_lastWordOfQuarrel_50 (lv_at hl 5 rfl) ?_
      refine lv_aload C.1 C.2.1 dX4_lastWordOfQuarrel_52 (lv_at hl 4 rfl) ?_
      refine lv_iload C.1 C.2.1 dX4_lastWordOfQuarrel_54 (lv_at hl 6 rfl) ?_
      refine lv_iload C.1 C.2.1 dX4_lastWordOfQuarrel_56 (lv_at hl 9 rfl) ?_
      refine lv_iconst (v := (0 : Int32)) C.1 C.2.1 dX4_lastWordOfQuarrel_58 (by decide) ?_
      obtain ⟨q8, hq8, hD⟩ := Option.bind_eq_some_iff.mp hD
      refine x_goi hw (x_runV (As := [.int (y7), .int (y10), .int ((0 : Int32))]) (rest := [.int (y6), .int (y10), .int (x1), .int (x1), .ref (X.2.2.1 1 (0))]) (k := 9) (j := y5) C hw hy5 rfl rfl cV_X0_dayOver kw_265 (c_X0_dayOver l X ex y5 y7 y10 (0 : Int32) hy5 z q8 hq8) ⟨Nat.le_of_ble_eq_true rfl, Nat.le_of_ble_eq_true rfl⟩ rfl hl.1 rfl (Nat.le_of_ble_eq_true rfl) dX4_lastWordOfQuarrel_59 ⟨Nat.le_of_ble_eq_true rfl, Nat.le_of_ble_eq_true rfl⟩) (fun H locs hw => ?_)
      obtain ⟨q9, hq9, hD⟩ := Option.bind_eq_some_iff.mp hD
      refine x_goi hw (x_runV (As := [.int (x1), .int (x1), .int (y10), .int (y6), .int (q8.1)]) (rest := []) (k := 1) (j := 0) C hw (Nat.le_of_ble_eq_true rfl) rfl rfl cV_X4_eveningChoice kw_273 (c_X4_eveningChoice l X ex x1 x1 y10 y6 q8.1  q8.2 q9 hq9) ⟨Nat.le_of_ble_eq_true rfl, Nat.le_of_ble_eq_true rfl⟩ rfl hl.1 rfl (Nat.le_of_ble_eq_true rfl) dX4_lastWordOfQuarrel_62 ⟨Nat.le_of_ble_eq_true rfl, Nat.le_of_ble_eq_true rfl⟩) (fun H locs hw => ?_)
      refine lv_istore (lv' := [(8, .int (q9.1)), (0, .ref (X.2.2.1 1 (0))), (1, .int (x1)), (3, .int (x3)), (4, .int (x4)), (5, .ref (X.2.2.1 9 (y5))), (6, .int (y6)), (7, .int (y7)), (9, .int (y9)), (10, .int (y10))]) C.1 C.2.1 dX4_lastWordOfQuarrel_65 hl (by decide) rfl (fun ls hl => ?_)
      refine lv_aload_n C.1 C.2.1 dX4_lastWordOfQuarrel_67 rfl (lv_at hl 1 rfl) ?_
      refine lv_iload_n C.1 C.2.1 dX4_lastWordOfQuarrel_68 rfl (lv_at hl 2 rfl) ?_
      refine lv_iconst (v := (1 : Int32)) C.1 C.2.1 dX4_lastWordOfQuarrel_69 (by decide) ?_
      refine lv_iadd C.1 C.2.1 dX4_lastWordOfQuarrel_70 ?_
      refine lv_iload_n C.1 C.2.1 dX4_lastWordOfQuarrel_71 rfl (lv_at hl 2 rfl) ?_
      refine lv_iload C.1 C.2.1 dX4_lastWordOfQuarrel_72 (lv_at hl 9 rfl) ?_
      refine lv_iload C.1 C.2.1 dX4_lastWordOfQuarrel_74 (lv_at hl 7 rfl) ?_
      refine lv_aload C.1 C.2.1 dX4_lastWordOfQuarrel_76 (lv_at hl 5 rfl) ?_
      refine lv_iload C.1 C.2.1 dX4_lastWordOfQuarrel_78 (lv_at hl 6 rfl) ?_
      refine lv_iload C.1 C.2.1 dX4_lastWordOfQuarrel_80 (lv_at hl 9 rfl) ?_
      refine lv_iconst (v := (0 : Int32)) C.1 C.2.1 dX4_lastWordOfQuarrel_82 (by decide) ?_
      obtain ⟨q10, hq10, hD⟩ := Option.bind_eq_some_iff.mp hD
      refine x_goi hw (x_runV (As := [.int (y6), .int (y10), .int ((0 : Int32))]) (rest := [.int (y7), .int (y10), .int (x1), .int (x1 + (1 : Int32)), .ref (X.2.2.1 1 (0))]) (k := 9) (j := y5) C hw hy5 rfl rfl cV_X0_dayOver kw_265 (c_X0_dayOver l X ex y5 y6 y10 (0 : Int32) hy5 q9.2 q10 hq10) ⟨Nat.le_of_ble_eq_true rfl, Nat.le_of_ble_eq_true rfl⟩ rfl hl.1 rfl (Nat.le_of_ble_eq_true rfl) dX4_lastWordOfQuarrel_83 ⟨Nat.le_of_ble_eq_true rfl, Nat.le_of_ble_eq_true rfl⟩) (fun H locs hw => ?_)
      obtain ⟨q11, hq11, hD⟩ := Option.bind_eq_some_iff.mp hD
      refine x_goi hw (x_runV (As := [.int (x1 + (1 : Int32)), .int (x1), .int (y10), .int (y7), .int (q10.1)]) (rest := []) (k := 1) (j := 0) C hw (Nat.le_of_ble_eq_true rfl) rfl rfl cV_X4_eveningChoice kw_273 (c_X4_eveningChoice l X ex (x1 + (1 : Int32)) x1 y10 y7 q10.1  q10.2 q11 hq11) ⟨Nat.le_of_ble_eq_true rfl, Nat.le_of_ble_eq_true rfl⟩ rfl hl.1 rfl (Nat.le_of_ble_eq_true rfl) dX4_lastWordOfQuarrel_86 ⟨Nat.le_of_ble_eq_true rfl, Nat.le_of_ble_eq_true rfl⟩) (fun H locs hw => ?_)
      refine lv_istore (lv' := [(9, .int (q11.1)), (8, .int (q9.1)), (0, .ref (X.2.2.1 1 (0))), (1, .int (x1)), (3, .int (x3)), (4, .int (x4)), (5, .ref (X.2.2.1 9 (y5))), (6, .int (y6)), (7, .int (y7)), (10, .int (y10))]) C.1 C.2.1 dX4_lastWordOfQuarrel_89 hl (by decide) rfl (fun ls hl => ?_)
      refine lv_aload C.1 C.2.1 dX4_lastWordOfQuarrel_91 (lv_at hl 6 rfl) ?_
      refine lv_iload C.1 C.2.1 dX4_lastWordOfQuarrel_93 (lv_at hl 7 rfl) ?_
      refine lv_iload C.1 C.2.1 dX4_lastWordOfQuarrel_95 (lv_at hl 9 rfl) ?_
      refine lv_iload C.1 C.2.1 dX4_lastWordOfQuarrel_97 (lv_at hl 1 rfl) ?_
      obtain ⟨q12, hq12, hD⟩ := Option.bind_eq_some_iff.mp hD
      refine x_goi hw (x_runV (As := [.int (y6), .int (y10), .int (q9.1)]) (rest := []) (k := 9) (j := y5) C hw hy5 rfl rfl cV_X0_dayOver kw_265 (c_X0_dayOver l X ex y5 y6 y10 q9.1 hy5 q11.2 q12 hq12) ⟨Nat.le_of_ble_eq_true rfl, Nat.le_of_ble_eq_true rfl⟩ rfl hl.1 rfl (Nat.le_of_ble_eq_true rfl) dX4_lastWordOfQuarrel_99 ⟨Nat.le_of_ble_eq_true rfl, Nat.le_of_ble_eq_true rfl⟩) (fun H locs hw => ?_)
      refine lv_istore (lv' := [(6, .int (q12.1)), (9, .int (q11.1)), (8, .int (q9.1)), (0, .ref (X.2.2.1 1 (0))), (1, .int (x1)), (3, .int (x3)), (4, .int (x4)), (5, .ref (X.2.2.1 9 (y5))), (7, .int (y7)), (10, .int (y10))]) C.1 C.2.1 dX4_lastWordOfQuarrel_102 hl (by decide) rfl (fun ls hl => ?_)
      refine lv_aload C.1 C.2.1 dX4_lastWordOfQuarrel_104 (lv_at hl 7 rfl) ?_
      refine lv_iload C.1 C.2.1 dX4_lastWordOfQuarrel_106 (lv_at hl 8 rfl) ?_
      refine lv_iload C.1 C.2.1 dX4_lastWordOfQuarrel_108 (lv_at hl 9 rfl) ?_
      refine lv_iload C.1 C.2.1 dX4_lastWordOfQuarrel_110 (lv_at hl 1 rfl) ?_
      obtain ⟨q13, hq13, hD⟩ := Option.bind_eq_some_iff.mp hD
      refine x_goi hw (x_runV (As := [.int (y7), .int (y10), .int (q11.1)]) (rest := []) (k := 9) (j := y5) C hw hy5 rfl rfl cV_X0_dayOver kw_265 (c_X0_dayOver l X ex y5 y7 y10 q11.1 hy5 q12.2 q13 hq13) ⟨Nat.le_of_ble_eq_true rfl, Nat.le_of_ble_eq_true rfl⟩ rfl hl.1 rfl (Nat.le_of_ble_eq_true rfl) dX4_lastWordOfQuarrel_112 ⟨Nat.le_of_ble_eq_true rfl, Nat.le_of_ble_eq_true rfl⟩) (fun H locs hw => ?_)
      refine lv_istore (lv' := [(7, .int (q13.1)), (6, .int (q12.1)), (9, .int (q11.1)), (8, .int (q9.1)), (0, .ref (X.2.2.1 1 (0))), (1, .int (x1)), (3, .int (x3)), (4, .int (x4)), (5, .ref (X.2.2.1 9 (y5))), (10, .int (y10))]) C.1 C.2.1 dX4_lastWordOfQuarrel_115 hl (by decide) rfl (fun ls hl => ?_)
      refine lv_iinc (v := y10 + 1) (lv' := [(10, .int (y10 + 1)), (7, .int (q13.1)), (6, .int (q12.1)), (9, .int (q11.1)), (8, .int (q9.1)), (0, .ref (X.2.2.1 1 (0))), (1, .int (x1)), (3, .int (x3)), (4, .int (x4)), (5, .ref (X.2.2.1 9 (y5)))]) C.1 C.2.1 dX4_lastWordOfQuarrel_117 hl (k := 9) rfl rfl (by decide) rfl (fun ls hl => ?_)
      refine lv_goto (tgt := 39) C.1 C.2.1 dX4_lastWordOfQuarrel_120 (by decide) ?_
      exact ih y5 q12.1 q13.1 q9.1 q11.1 (y10 + 1) q13.2 hy5 hD _ _ hw _ (lv_sub hl [5, 6, 7, 8, 9, 2, 1, 4, 3, 0] rfl)
def D_X4_lastWordOfQuarrel (x1 : Int32) (x2 : Int32) (x3 : Int32) (x4 : Int32) (z : XS) : Option (Int32 × XS) :=
  gd (inB x1 6) (gd (inB (0 : Int32) 2) (gd (inB x2 31) (gd (inB (1 : Int32) 2) (gd (inB x2 31) (L_X4_lastWordOfQuarrel_39 x1 x2 x3 x4  64 x1.toNatClampNeg (gA z 14 (2 * x1.toNatClampNeg + (0 : Int32).toNatClampNeg) x2.toNatClampNeg) (gA z 14 (2 * x1.toNatClampNeg + (1 : Int32).toNatClampNeg) x2.toNatClampNeg) (0 : Int32) (0 : Int32) x2 z)))))
set_option maxHeartbeats 4000000 in
set_option maxRecDepth 100000 in
theorem c_X4_lastWordOfQuarrel (l : Launch) (X : XC) (ex : va_W) (x1 : Int32) (x2 : Int32) (x3 : Int32) (x4 : Int32) (z : XS) (R0 : Int32 × XS) (hD : D_X4_lastWordOfQuarrel x1 x2 x3 x4 z = some R0) : xM l X ex yX4_lastWordOfQuarrel cX4_lastWordOfQuarrel 11 (some .int) rm_X4_lastWordOfQuarrel [.ref (X.2.2.1 1 (0)), .int (x1), .int (x2), .int (x3), .int (x4)] z (xQi X ex R0.2 R0.1) := by
  refine x_ent (by decide) (Nat.le_of_ble_eq_true rfl) ?_
  intro p e s m below meth c ls C hr hk hw hl
  replace hl : lv_has ls 11 [(0, .ref (X.2.2.1 1 (0))), (1, .int (x1)), (2, .int (x2)), (3, .int (x3)), (4, .int (x4))] := hl
  unfold D_X4_lastWordOfQuarrel at hD
  refine lv_aload_n C.1 C.2.1 dX4_lastWordOfQuarrel_0 rfl (lv_at hl 0 rfl) ?_
  refine gf_X4_1 C hw kw_184 dX4_lastWordOfQuarrel_1 ?_
  refine lv_iload_n C.1 C.2.1 dX4_lastWordOfQuarrel_4 rfl (lv_at hl 1 rfl) ?_
  obtain ⟨g1, hD⟩ := gd_some hD
  refine x_aald (k := 8) (j := 0) (f := fun i => X.2.2.1 9 i) C hw (Nat.le_of_ble_eq_true rfl) 2 rfl rfl rfl (inB_in g1) (a := X.2.2.1 9 (x1.toNatClampNeg)) rfl dX4_lastWordOfQuarrel_5 ?_
  refine lv_astore (lv' := [(5, .ref (X.2.2.1 9 (x1.toNatClampNeg))), (0, .ref (X.2.2.1 1 (0))), (1, .int (x1)), (2, .int (x2)), (3, .int (x3)), (4, .int (x4))]) C.1 C.2.1 dX4_lastWordOfQuarrel_6 hl (by decide) rfl (fun ls hl => ?_)
  refine lv_aload C.1 C.2.1 dX4_lastWordOfQuarrel_8 (lv_at hl 0 rfl) ?_
  refine gNf_X0_2 C hw (j := x1.toNatClampNeg) (inB_lt g1) (List.mem_of_getElem? (i := 4) rfl) dX4_lastWordOfQuarrel_10 ?_
  refine lv_iconst (v := (0 : Int32)) C.1 C.2.1 dX4_lastWordOfQuarrel_13 (by decide) ?_
  obtain ⟨g2, hD⟩ := gd_some hD
  refine x_aald (k := 13) (j := x1.toNatClampNeg) (f := fun i => X.2.2.1 14 (2 * x1.toNatClampNeg + i)) C hw (inB_lt g1) 1 rfl rfl rfl (inB_in g2) (a := X.2.2.1 14 (2 * x1.toNatClampNeg + (0 : Int32).toNatClampNeg)) rfl dX4_lastWordOfQuarrel_14 ?_
  refine lv_iload_n C.1 C.2.1 dX4_lastWordOfQuarrel_15 rfl (lv_at hl 3 rfl) ?_
  obtain ⟨g3, hD⟩ := gd_some hD
  refine x_iald (k := 14) (j := 2 * x1.toNatClampNeg + (0 : Int32).toNatClampNeg) C hw rfl (x_lt2 (inB_lt g1) (inB_lt g2)) (inB_in g3) dX4_lastWordOfQuarrel_16 ?_
  refine lv_istore (lv' := [(6, .int (gA z 14 (2 * x1.toNatClampNeg + (0 : Int32).toNatClampNeg) x2.toNatClampNeg)), (5, .ref (X.2.2.1 9 (x1.toNatClampNeg))), (0, .ref (X.2.2.1 1 (0))), (1, .int (x1)), (2, .int (x2)), (3, .int (x3)), (4, .int (x4))]) C.1 C.2.1 dX4_lastWordOfQuarrel_17 hl (by decide) rfl (fun ls hl => ?_)
  refine lv_aload C.1 C.2.1 dX4_lastWordOfQuarrel_19 (lv_at hl 1 rfl) ?_
  refine gNf_X0_2 C hw (j := x1.toNatClampNeg) (inB_lt g1) (List.mem_of_getElem? (i := 4) rfl) dX4_lastWordOfQuarrel_21 ?_
  refine lv_iconst (v := (1 : Int32)) C.1 C.2.1 dX4_lastWordOfQuarrel_24 (by decide) ?_
  obtain ⟨g4, hD⟩ := gd_some hD
  refine x_aald (k := 13) (j := x1.toNatClampNeg) (f := fun i => X.2.2.1 14 (2 * x1.toNatClampNeg + i)) C hw (inB_lt g1) 1 rfl rfl rfl (inB_in g4) (a := X.2.2.1 14 (2 * x1.toNatClampNeg + (1 : Int32).toNatClampNeg)) rfl dX4_lastWordOfQuarrel_25 ?_
  refine lv_iload_n C.1 C.2.1 dX4_lastWordOfQuarrel_26 rfl (lv_at hl 4 rfl) ?_
  obtain ⟨g5, hD⟩ := gd_some hD
  refine x_iald (k := 14) (j := 2 * x1.toNatClampNeg + (1 : Int32).toNatClampNeg) C hw rfl (x_lt2 (inB_lt g1) (inB_lt g4)) (inB_in g5) dX4_lastWordOfQuarrel_27 ?_
  refine lv_istore (lv' := [(7, .int (gA z 14 (2 * x1.toNatClampNeg + (1 : Int32).toNatClampNeg) x2.toNatClampNeg)), (6, .int (gA z 14 (2 * x1.toNatClampNeg + (0 : Int32).toNatClampNeg) x2.toNatClampNeg)), (5, .ref (X.2.2.1 9 (x1.toNatClampNeg))), (0, .ref (X.2.2.1 1 (0))), (1, .int (x1)), (2, .int (x2)), (3, .int (x3)), (4, .int (x4))]) C.1 C.2.1 dX4_lastWordOfQuarrel_28 hl (by decide) rfl (fun ls hl => ?_)
  refine lv_iconst (v := (0 : Int32)) C.1 C.2.1 dX4_lastWordOfQuarrel_30 (by decide) ?_
  refine lv_istore (lv' := [(8, .int ((0 : Int32))), (7, .int (gA z 14 (2 * x1.toNatClampNeg + (1 : Int32).toNatClampNeg) x2.toNatClampNeg)), (6, .int (gA z 14 (2 * x1.toNatClampNeg + (0 : Int32).toNatClampNeg) x2.toNatClampNeg)), (5, .ref (X.2.2.1 9 (x1.toNatClampNeg))), (0, .ref (X.2.2.1 1 (0))), (1, .int (x1)), (2, .int (x2)), (3, .int (x3)), (4, .int (x4))]) C.1 C.2.1 dX4_lastWordOfQuarrel_31 hl (by decide) rfl (fun ls hl => ?_)
  refine lv_iconst (v := (0 : Int32)) C.1 C.2.1 dX4_lastWordOfQuarrel_33 (by decide) ?_
  refine lv_istore (lv' := [(9, .int ((0 : Int32))), (8, .int ((0 : Int32))), (7, .int (gA z 14 (2 * x1.toNatClampNeg + (1 : Int32).toNatClampNeg) x2.toNatClampNeg)), (6, .int (gA z 14 (2 * x1.toNatClampNeg + (0 : Int32).toNatClampNeg) x2.toNatClampNeg)), (5, .ref (X.2.2.1 9 (x1.toNatClampNeg))), (0, .ref (X.2.2.1 1 (0))), (1, .int (x1)), (2, .int (x2)), (3, .int (x3)), (4, .int (x4))]) C.1 C.2.1 dX4_lastWordOfQuarrel_34 hl (by decide) rfl (fun ls hl => ?_)
  refine lv_iload_n C.1 C.2.1 dX4_lastWordOfQuarrel_36 rfl (lv_at hl 7 rfl) ?_
  refine lv_istore (lv' := [(10, .int (x2)), (9, .int ((0 : Int32))), (8, .int ((0 : Int32))), (7, .int (gA z 14 (2 * x1.toNatClampNeg + (1 : Int32).toNatClampNeg) x2.toNatClampNeg)), (6, .int (gA z 14 (2 * x1.toNatClampNeg + (0 : Int32).toNatClampNeg) x2.toNatClampNeg)), (5, .ref (X.2.2.1 9 (x1.toNatClampNeg))), (0, .ref (X.2.2.1 1 (0))), (1, .int (x1)), (2, .int (x2)), (3, .int (x3)), (4, .int (x4))]) C.1 C.2.1 dX4_lastWordOfQuarrel_37 hl (by decide) rfl (fun ls hl => ?_)
  exact w_X4_lastWordOfQuarrel_39 x1 x2 x3 x4  C hr hk R0   64 x1.toNatClampNeg (gA z 14 (2 * x1.toNatClampNeg + (0 : Int32).toNatClampNeg) x2.toNatClampNeg) (gA z 14 (2 * x1.toNatClampNeg + (1 : Int32).toNatClampNeg) x2.toNatClampNeg) (0 : Int32) (0 : Int32) x2 z (inB_lt g1) hD _ _ hw _ (lv_sub hl [6, 7, 9, 10, 5, 4, 3, 2, 1, 0] rfl)
theorem kw_274 : Cond.code yX4_lastWordOfQuarrel cX4_lastWordOfQuarrel 11 (some .int) ∈ gtbl := gm2 187 rfl rfl
theorem nd_X4_lastWordOfQuarrel : (yX4_lastWordOfQuarrel).cls ≠ "java/lang/invoke/MethodHandle" ∧ (yX4_lastWordOfQuarrel).cls ≠ "java/lang/invoke/VarHandle" ∧ (parseMethodDescriptor (yX4_lastWordOfQuarrel).desc).map (fun d => d.parameters.length) = some 4 := by decide +kernel
theorem kw_276 : Cond.instanceMethod yX4_lastWordOfQuarrel ∈ gtbl := gm2 185 rfl rfl
theorem kw_277 : Cond.selects RX4 yX4_lastWordOfQuarrel yX4_lastWordOfQuarrel ∈ gtbl := gm2 186 rfl rfl
theorem cV_X4_lastWordOfQuarrel : xcV yX4_lastWordOfQuarrel cX4_lastWordOfQuarrel 11 (some .int) 4 := ⟨⟨kw_274, kw_89, nd_X4_lastWordOfQuarrel⟩, kw_276, kw_277⟩
theorem kw_279 : Cond.methodLink RX9 175 yX4_lastWordOfQuarrel ∈ gtbl := gm2 184 rfl rfl
abbrev rm_X9_quarrel : Room := { frames := 6, cells := 0, slots := 0, locals := 160 }
def D_X9_quarrel (x1 : Int32) (x2 : Int32) (x3 : Int32) (x4 : Int32) (z : XS) : Option (Int32 × XS) :=
  (D_X4_isHedge x1 z).bind fun q1 => ((if q1.1 = 0 then some ((-1 : Int32), q1.2) else (D_X9_isDay x2 q1.2).bind fun q3 => ((if q3.1 = 0 then some ((-2 : Int32), q3.2) else (D_X9_isDay x3 q3.2).bind fun q5 => ((if q5.1 = 0 then some ((-2 : Int32), q5.2) else (if x3 < x2 then some ((-2 : Int32), q5.2) else (D_X9_isSide x4 q5.2).bind fun q8 => ((if q8.1 = 0 then some ((-2 : Int32), q8.2) else (D_X4_lastWordOfQuarrel x1 x2 x3 x4 q8.2).bind fun q10 => (some (q10.1 + (10 : Int32), q10.2)))))))))))
set_option maxHeartbeats 4000000 in
set_option maxRecDepth 100000 in
theorem c_X9_quarrel (l : Launch) (X : XC) (ex : va_W) (x1 : Int32) (x2 : Int32) (x3 : Int32) (x4 : Int32) (z : XS) (R0 : Int32 × XS) (hD : D_X9_quarrel x1 x2 x3 x4 z = some R0) : xM l X ex yX9_quarrel cX9_quarrel 5 (some .int) rm_X9_quarrel [.ref (X.2.2.1 0 (0)), .int (x1), .int (x2), .int (x3), .int (x4)] z (xQi X ex R0.2 R0.1) := by
  refine x_ent (by decide) (Nat.le_of_ble_eq_true rfl) ?_
  intro p e s m below meth c ls C hr hk hw hl
  replace hl : lv_has ls 5 [(0, .ref (X.2.2.1 0 (0))), (1, .int (x1)), (2, .int (x2)), (3, .int (x3)), (4, .int (x4))] := hl
  unfold D_X9_quarrel at hD
  refine lv_aload_n C.1 C.2.1 dX9_quarrel_0 rfl (lv_at hl 0 rfl) ?_
  refine gf_X9_0 C hw kw_86 dX9_quarrel_1 ?_
  refine lv_iload_n C.1 C.2.1 dX9_quarrel_4 rfl (lv_at hl 1 rfl) ?_
  obtain ⟨q1, hq1, hD⟩ := Option.bind_eq_some_iff.mp hD
  refine x_goi hw (x_runV (As := [.int (x1)]) (rest := []) (k := 1) (j := 0) C hw (Nat.le_of_ble_eq_true rfl) rfl rfl cV_X4_isHedge kw_101 (c_X4_isHedge l X ex x1  z q1 hq1) ⟨Nat.le_of_ble_eq_true rfl, Nat.le_of_ble_eq_true rfl⟩ rfl hl.1 rfl (Nat.le_of_ble_eq_true rfl) dX9_quarrel_5 ⟨Nat.le_of_ble_eq_true rfl, Nat.le_of_ble_eq_true rfl⟩) (fun H locs hw => ?_)
  refine lv_if_ne (tgt := 13) C.1 C.2.1 dX9_quarrel_8 (by decide) (fun c2 => ?_) (fun c2 => ?_)
  · replace hD := (if_neg c2).symm.trans hD
    refine lv_iload_n C.1 C.2.1 dX9_quarrel_13 rfl (lv_at hl 2 rfl) ?_
    obtain ⟨q3, hq3, hD⟩ := Option.bind_eq_some_iff.mp hD
    refine x_goi hw (x_runS (As := [.int (x2)]) (rest := []) C hw cS_X9_isDay kw_135 (c_X9_isDay l X ex x2  q1.2 q3 hq3) ⟨Nat.le_of_ble_eq_true rfl, Nat.le_of_ble_eq_true rfl⟩ rfl hl.1 rfl (Nat.le_of_ble_eq_true rfl) dX9_quarrel_14 ⟨Nat.le_of_ble_eq_true rfl, Nat.le_of_ble_eq_true rfl⟩) (fun H locs hw => ?_)
    refine lv_if_eq (tgt := 40) C.1 C.2.1 dX9_quarrel_17 (by decide) (fun c4 => ?_) (fun c4 => ?_)
    · replace hD := (if_pos c4).symm.trans hD
      refine lv_bipush (v := (-2 : Int32)) C.1 C.2.1 dX9_quarrel_40 (by decide) ?_
      obtain rfl := Option.some.inj hD
      exact x_iret C hw hr hk dX9_quarrel_42
    · replace hD := (if_neg c4).symm.trans hD
      refine lv_iload_n C.1 C.2.1 dX9_quarrel_20 rfl (lv_at hl 3 rfl) ?_
      obtain ⟨q5, hq5, hD⟩ := Option.bind_eq_some_iff.mp hD
      refine x_goi hw (x_runS (As := [.int (x3)]) (rest := []) C hw cS_X9_isDay kw_135 (c_X9_isDay l X ex x3  q3.2 q5 hq5) ⟨Nat.le_of_ble_eq_true rfl, Nat.le_of_ble_eq_true rfl⟩ rfl hl.1 rfl (Nat.le_of_ble_eq_true rfl) dX9_quarrel_21 ⟨Nat.le_of_ble_eq_true rfl, Nat.le_of_ble_eq_true rfl⟩) (fun H locs hw => ?_)
      refine lv_if_eq (tgt := 40) C.1 C.2.1 dX9_quarrel_24 (by decide) (fun c6 => ?_) (fun c6 => ?_)
      · replace hD := (if_pos c6).symm.trans hD
        refine lv_bipush (v := (-2 : Int32)) C.1 C.2.1 dX9_quarrel_40 (by decide) ?_
        obtain rfl := Option.some.inj hD
        exact x_iret C hw hr hk dX9_quarrel_42
      · replace hD := (if_neg c6).symm.trans hD
        refine lv_iload_n C.1 C.2.1 dX9_quarrel_27 rfl (lv_at hl 3 rfl) ?_
        refine lv_iload_n C.1 C.2.1 dX9_quarrel_28 rfl (lv_at hl 2 rfl) ?_
        refine lv_icmp_lt (tgt := 40) C.1 C.2.1 dX9_quarrel_29 (by decide) (fun c7 => ?_) (fun c7 => ?_)
        · replace hD := (if_pos c7).symm.trans hD
          refine lv_bipush (v := (-2 : Int32)) C.1 C.2.1 dX9_quarrel_40 (by decide) ?_
          obtain rfl := Option.some.inj hD
          exact x_iret C hw hr hk dX9_quarrel_42
        · replace hD := (if_neg c7).symm.trans hD
          refine lv_iload C.1 C.2.1 dX9_quarrel_32 (lv_at hl 4 rfl) ?_
          obtain ⟨q8, hq8, hD⟩ := Option.bind_eq_some_iff.mp hD
          refine x_goi hw (x_runS (As := [.int (x4)]) (rest := []) C hw cS_X9_isSide kw_130 (c_X9_isSide l X ex x4  q5.2 q8 hq8) ⟨Nat.le_of_ble_eq_true rfl, Nat.le_of_ble_eq_true rfl⟩ rfl hl.1 rfl (Nat.le_of_ble_eq_true rfl) dX9_quarrel_34 ⟨Nat.le_of_ble_eq_true rfl, Nat.le_of_ble_eq_true rfl⟩) (fun H locs hw => ?_)
          refine lv_if_ne (tgt := 43) C.1 C.2.1 dX9_quarrel_37 (by decide) (fun c9 => ?_) (fun c9 => ?_)
          · replace hD := (if_neg c9).symm.trans hD
            refine lv_aload_n C.1 C.2.1 dX9_quarrel_43 rfl (lv_at hl 0 rfl) ?_
            refine gf_X9_0 C hw kw_86 dX9_quarrel_44 ?_
            refine lv_iload_n C.1 C.2.1 dX9_quarrel_47 rfl (lv_at hl 1 rfl) ?_
            refine lv_iload_n C.1 C.2.1 dX9_quarrel_48 rfl (lv_at hl 2 rfl) ?_
            refine lv_iload_n C.1 C.2.1 dX9_quarrel_49 rfl (lv_at hl 3 rfl) ?_
            refine lv_iload C.1 C.2.1 dX9_quarrel_50 (lv_at hl 4 rfl) ?_
            obtain ⟨q10, hq10, hD⟩ := Option.bind_eq_some_iff.mp hD
            refine x_goi hw (x_runV (As := [.int (x1), .int (x2), .int (x3), .int (x4)]) (rest := []) (k := 1) (j := 0) C hw (Nat.le_of_ble_eq_true rfl) rfl rfl cV_X4_lastWordOfQuarrel kw_279 (c_X4_lastWordOfQuarrel l X ex x1 x2 x3 x4  q8.2 q10 hq10) ⟨Nat.le_of_ble_eq_true rfl, Nat.le_of_ble_eq_true rfl⟩ rfl hl.1 rfl (Nat.le_of_ble_eq_true rfl) dX9_quarrel_52 ⟨Nat.le_of_ble_eq_true rfl, Nat.le_of_ble_eq_true rfl⟩) (fun H locs hw => ?_)
            refine lv_bipush (v := (10 : Int32)) C.1 C.2.1 dX9_quarrel_55 (by decide) ?_
            refine lv_iadd C.1 C.2.1 dX9_quarrel_57 ?_
            obtain rfl := Option.some.inj hD
            exact x_iret C hw hr hk dX9_quarrel_58
          · replace hD := (if_pos c9).symm.trans hD
            refine lv_bipush (v := (-2 : Int32)) C.1 C.2.1 dX9_quarrel_40 (by decide) ?_
            obtain rfl := Option.some.inj hD
            exact x_iret C hw hr hk dX9_quarrel_42
  · replace hD := (if_pos c2).symm.trans hD
    refine lv_iconst (v := (-1 : Int32)) C.1 C.2.1 dX9_quarrel_11 (by decide) ?_
    obtain rfl := Option.some.inj hD
    exact x_iret C hw hr hk dX9_quarrel_12
abbrev rm_X0_heightIf : Room := { frames := 3, cells := 0, slots := 0, locals := 66 }
def D_X0_heightIf (j0 : Nat) (x1 : Int32) (x2 : Int32) (x3 : Int32) (z : XS) : Option (Int32 × XS) :=
  gd (inB x1 2) (gd (inB x2 31) ((D_X0_dayOver j0 (gA z 14 (2 * j0 + x1.toNatClampNeg) x2.toNatClampNeg) x2 x3 z).bind fun q3 => ((D_X9_otherSide x1 q3.2).bind fun q4 => (gd (inB q4.1 2) (gd (inB (x2 + (1 : Int32)) 31) (some (if gA q4.2 14 (2 * j0 + q4.1.toNatClampNeg) (x2 + (1 : Int32)).toNatClampNeg < q3.1 then gA q4.2 14 (2 * j0 + q4.1.toNatClampNeg) (x2 + (1 : Int32)).toNatClampNeg else q3.1, q4.2)))))))
set_option maxHeartbeats 4000000 in
set_option maxRecDepth 100000 in
theorem c_X0_heightIf (l : Launch) (X : XC) (ex : va_W) (j0 : Nat) (x1 : Int32) (x2 : Int32) (x3 : Int32) (hj0 : j0 < 6) (z : XS) (R0 : Int32 × XS) (hD : D_X0_heightIf j0 x1 x2 x3 z = some R0) : xM l X ex yX0_heightIf cX0_heightIf 4 (some .int) rm_X0_heightIf [.ref (X.2.2.1 9 (j0)), .int (x1), .int (x2), .int (x3)] z (xQi X ex R0.2 R0.1) := by
  refine x_ent (by decide) (Nat.le_of_ble_eq_true rfl) ?_
  intro p e s m below meth c ls C hr hk hw hl
  replace hl : lv_has ls 4 [(0, .ref (X.2.2.1 9 (j0))), (1, .int (x1)), (2, .int (x2)), (3, .int (x3))] := hl
  unfold D_X0_heightIf at hD
  refine lv_aload_n C.1 C.2.1 dX0_heightIf_0 rfl (lv_at hl 0 rfl) ?_
  refine lv_aload_n C.1 C.2.1 dX0_heightIf_1 rfl (lv_at hl 0 rfl) ?_
  refine gf_X0_2 C hw (j := j0) hj0 kw_75 dX0_heightIf_2 ?_
  refine lv_iload_n C.1 C.2.1 dX0_heightIf_5 rfl (lv_at hl 1 rfl) ?_
  obtain ⟨g1, hD⟩ := gd_some hD
  refine x_aald (k := 13) (j := j0) (f := fun i => X.2.2.1 14 (2 * j0 + i)) C hw hj0 1 rfl rfl rfl (inB_in g1) (a := X.2.2.1 14 (2 * j0 + x1.toNatClampNeg)) rfl dX0_heightIf_6 ?_
  refine lv_iload_n C.1 C.2.1 dX0_heightIf_7 rfl (lv_at hl 2 rfl) ?_
  obtain ⟨g2, hD⟩ := gd_some hD
  refine x_iald (k := 14) (j := 2 * j0 + x1.toNatClampNeg) C hw rfl (x_lt2 hj0 (inB_lt g1)) (inB_in g2) dX0_heightIf_8 ?_
  refine lv_iload_n C.1 C.2.1 dX0_heightIf_9 rfl (lv_at hl 2 rfl) ?_
  refine lv_iload_n C.1 C.2.1 dX0_heightIf_10 rfl (lv_at hl 3 rfl) ?_
  obtain ⟨q3, hq3, hD⟩ := Option.bind_eq_some_iff.mp hD
  refine x_goi hw (x_runV (As := [.int (gA z 14 (2 * j0 + x1.toNatClampNeg) x2.toNatClampNeg), .int (x2), .int (x3)]) (rest := []) (k := 9) (j := j0) C hw hj0 rfl rfl cV_X0_dayOver kw_83 (c_X0_dayOver l X ex j0 (gA z 14 (2 * j0 + x1.toNatClampNeg) x2.toNatClampNeg) x2 x3 hj0 z q3 hq3) ⟨Nat.le_of_ble_eq_true rfl, Nat.le_of_ble_eq_true rfl⟩ rfl hl.1 rfl (Nat.le_of_ble_eq_true rfl) dX0_heightIf_11 ⟨Nat.le_of_ble_eq_true rfl, Nat.le_of_ble_eq_true rfl⟩) (fun H locs hw => ?_)
  refine lv_aload_n C.1 C.2.1 dX0_heightIf_14 rfl (lv_at hl 0 rfl) ?_
  refine gf_X0_2 C hw (j := j0) hj0 kw_75 dX0_heightIf_15 ?_
  refine lv_iload_n C.1 C.2.1 dX0_heightIf_18 rfl (lv_at hl 1 rfl) ?_
  obtain ⟨q4, hq4, hD⟩ := Option.bind_eq_some_iff.mp hD
  refine x_goi hw (x_runSN (As := [.int (x1)]) (rest := [.ref (X.2.2.1 13 (j0)), .int (q3.1)]) C hw cS_X9_otherSide (List.mem_of_getElem? (i := 6) rfl) (c_X9_otherSide l X ex x1  q3.2 q4 hq4) ⟨Nat.le_of_ble_eq_true rfl, Nat.le_of_ble_eq_true rfl⟩ rfl hl.1 rfl (Nat.le_of_ble_eq_true rfl) dX0_heightIf_19 ⟨Nat.le_of_ble_eq_true rfl, Nat.le_of_ble_eq_true rfl⟩) (fun H locs hw => ?_)
  obtain ⟨g5, hD⟩ := gd_some hD
  refine x_aald (k := 13) (j := j0) (f := fun i => X.2.2.1 14 (2 * j0 + i)) C hw hj0 1 rfl rfl rfl (inB_in g5) (a := X.2.2.1 14 (2 * j0 + q4.1.toNatClampNeg)) rfl dX0_heightIf_22 ?_
  refine lv_iload_n C.1 C.2.1 dX0_heightIf_23 rfl (lv_at hl 2 rfl) ?_
  refine lv_iconst (v := (1 : Int32)) C.1 C.2.1 dX0_heightIf_24 (by decide) ?_
  refine lv_iadd C.1 C.2.1 dX0_heightIf_25 ?_
  obtain ⟨g6, hD⟩ := gd_some hD
  refine x_iald (k := 14) (j := 2 * j0 + q4.1.toNatClampNeg) C hw rfl (x_lt2 hj0 (inB_lt g5)) (inB_in g6) dX0_heightIf_26 ?_
  refine va_mmin C.1 C.2.1 (C.2.2.1.trans hl.1.symm) C.2.2.2.1 (C.2.2.2.2 _ kw_64) (C.2.2.2.2 _ kw_65) (C.2.2.2.2 _ kw_66) (C.2.2.2.2 _ kw_67) (Nat.le_of_ble_eq_true rfl) (Nat.le_of_ble_eq_true rfl) (Nat.le_of_ble_eq_true rfl) (Nat.le_of_ble_eq_true rfl) dX0_heightIf_27 ?_
  obtain rfl := Option.some.inj hD
  exact x_iret C hw hr hk dX0_heightIf_30
