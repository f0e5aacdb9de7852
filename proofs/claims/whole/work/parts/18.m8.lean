abbrev rm_X10_wouldChange : Room := { frames := 6, cells := 0, slots := 0, locals := 140 }
def B_X10_wouldChange_55 (x1 : Int32) (x2 : Int32) (k15_ : Int32 → Int32 → Int32 → XS → Option (Int32 × XS)) (k55_ : Int32 → Int32 → Int32 → Int32 → Int32 → Int32 → XS → Option (Int32 × XS)) (y3 : Int32) (y4 : Int32) (y5 : Int32) (y6 : Int32) (y7 : Int32) (y8 : Int32) (z : XS) : Option (Int32 × XS) :=
  (if (2 : Int32) ≤ y8 then gd (inB y6 420) ((some (pA z 18 3 y6.toNatClampNeg y7)).bind fun z11 => (k15_ y3 y4 (y5 + 1) z11)) else gd (inB y6 420) ((some (pA z 18 3 y6.toNatClampNeg y8)).bind fun z13 => ((if y4 = 0 then (D_X10_offAt x1 (x2 + (1 : Int32)) z13).bind fun q15 => ((if q15.1 ≤ y3 then k55_ y3 (0 : Int32) y5 y6 y7 (y8 + 1) q15.2 else k55_ y3 (1 : Int32) y5 y6 y7 (y8 + 1) q15.2)) else k55_ y3 (1 : Int32) y5 y6 y7 (y8 + 1) z13))))
def L_X10_wouldChange_55 (x1 : Int32) (x2 : Int32) (k15_ : Int32 → Int32 → Int32 → XS → Option (Int32 × XS)) : Nat → Int32 → Int32 → Int32 → Int32 → Int32 → Int32 → XS → Option (Int32 × XS)
  | 0 => fun _ _ _ _ _ _ _ => none
  | n + 1 => B_X10_wouldChange_55 x1 x2 k15_ (L_X10_wouldChange_55 x1 x2 k15_ n)
set_option maxHeartbeats 4000000 in
set_option maxRecDepth 100000 in
theorem w_X10_wouldChange_55 {p : Program} {l : Launch} {e : Env} {s : State} {m : MethodId} {below : List Frame} {meth : Method} {c : Code} {X : XC} {ex : va_W} (x1 : Int32) (x2 : Int32) (C : CallFix p m c cX10_wouldChange 9 s (([.ref (X.2.2.1 17 (0)), .int (x1), .int (x2)] : List Value).toArray) gtbl RX10) (hr : meth.sig.returnType = (some .boolean)) (hk : meth.locks = false) (R0 : Int32 × XS) (k15_ : Int32 → Int32 → Int32 → XS → Option (Int32 × XS)) (hk15_ : ∀ (y3 : Int32) (y4 : Int32) (y5 : Int32) (z : XS), k15_ y3 y4 y5 z = some R0 → ∀ (H : Heap) (locs : List Loc), xw X ex z s H locs → ∀ (ls : Array Slot), lv_has ls 9 [(0, .ref (X.2.2.1 17 (0))), (1, .int (x1)), (2, .int (x2)), (3, .int (y3)), (4, .int (y4)), (5, .int (y5))] → W p l e rm_X10_wouldChange s m (([.ref (X.2.2.1 17 (0)), .int (x1), .int (x2)] : List Value).toArray) below meth c H locs 0 0 (MQ below (xQi X ex R0.2 R0.1) (([.ref (X.2.2.1 17 (0)), .int (x1), .int (x2)] : List Value).toArray) s 0 0 (xA X)) (F0 m 15 ls [])) : ∀ (n : Nat), ∀ (y3 : Int32) (y4 : Int32) (y5 : Int32) (y6 : Int32) (y7 : Int32) (y8 : Int32) (z : XS), L_X10_wouldChange_55 x1 x2 k15_ n y3 y4 y5 y6 y7 y8 z = some R0 → ∀ (H : Heap) (locs : List Loc), xw X ex z s H locs → ∀ (ls : Array Slot), lv_has ls 9 [(0, .ref (X.2.2.1 17 (0))), (1, .int (x1)), (2, .int (x2)), (3, .int (y3)), (4, .int (y4)), (5, .int (y5)), (6, .int (y6)), (7, .int (y7)), (8, .int (y8))] → W p l e rm_X10_wouldChange s m (([.ref (X.2.2.1 17 (0)), .int (x1), .int (x2)] : List Value).toArray) below meth c H locs 0 0 (MQ below (xQi X ex R0.2 R0.1) (([.ref (X.2.2.1 17 (0)), .int (x1), .int (x2)] : List Value).toArray) s 0 0 (xA X)) (F0 m 55 ls []) := by
  intro n
  induction n with
  | zero =>
    intro y3 y4 y5 y6 y7 y8 z  hD
    cases hD
  | succ n ih =>
    intro y3 y4 y5 y6 y7 y8 z  hD H locs hw ls hl
    replace hD : B_X10_wouldChange_55 x1 x2 k15_ (L_X10_wouldChange_55 x1 x2 k15_ n) y3 y4 y5 y6 y7 y8 z = some R0 := hD
    unfold B_X10_wouldChange_55 at hD
    refine lv_iload C.1 C.2.1 dX10_wouldChange_55 (lv_at hl 8 rfl) ?_
    refine lv_iconst (v := (2 : Int32)) C.1 C.2.1 dX10_wouldChange_57 (by decide) ?_
    refine lv_icmp_ge (tgt := 100) C.1 C.2.1 dX10_wouldChange_58 (by decide) (fun c9 => ?_) (fun c9 => ?_)
    · replace hD := (if_pos c9).symm.trans hD
      refine lv_aload_n C.1 C.2.1 dX10_wouldChange_100 rfl (lv_at hl 0 rfl) ?_
      refine gf_X10_5 C hw kw_575 dX10_wouldChange_101 ?_
      refine lv_iload C.1 C.2.1 dX10_wouldChange_104 (lv_at hl 6 rfl) ?_
      refine lv_iload C.1 C.2.1 dX10_wouldChange_106 (lv_at hl 7 rfl) ?_
      obtain ⟨g10, hD⟩ := gd_some hD
      obtain ⟨z11, hz11, hD⟩ := Option.bind_eq_some_iff.mp hD
      refine x_iast (k := 18) (j := 3) C hw rfl (Nat.le_of_ble_eq_true rfl) (inB_in g10) dX10_wouldChange_108 (fun H locs hw => ?_)
      replace hw := xw_eq hz11 hw
      refine lv_iinc (v := y5 + 1) (lv' := [(5, .int (y5 + 1)), (0, .ref (X.2.2.1 17 (0))), (1, .int (x1)), (2, .int (x2)), (3, .int (y3)), (4, .int (y4)), (6, .int (y6)), (7, .int (y7)), (8, .int (y8))]) C.1 C.2.1 dX10_wouldChange_109 hl (k := 5) rfl rfl (by decide) rfl (fun ls hl => ?_)
      refine lv_goto (tgt := 15) C.1 C.2.1 dX10_wouldChange_112 (by decide) ?_
      exact hk15_ y3 y4 (y5 + 1) z11  hD _ _ hw _ (lv_sub hl [1, 2, 3, 4, 5, 0] rfl)
    · replace hD := (if_neg c9).symm.trans hD
      refine lv_aload_n C.1 C.2.1 dX10_wouldChange_61 rfl (lv_at hl 0 rfl) ?_
      refine gf_X10_5 C hw kw_575 dX10_wouldChange_62 ?_
      refine lv_iload C.1 C.2.1 dX10_wouldChange_65 (lv_at hl 6 rfl) ?_
      refine lv_iload C.1 C.2.1 dX10_wouldChange_67 (lv_at hl 8 rfl) ?_
      obtain ⟨g12, hD⟩ := gd_some hD
      obtain ⟨z13, hz13, hD⟩ := Option.bind_eq_some_iff.mp hD
      refine x_iast (k := 18) (j := 3) C hw rfl (Nat.le_of_ble_eq_true rfl) (inB_in g12) dX10_wouldChange_69 (fun H locs hw => ?_)
      replace hw := xw_eq hz13 hw
      refine lv_iload C.1 C.2.1 dX10_wouldChange_70 (lv_at hl 4 rfl) ?_
      refine lv_if_ne (tgt := 87) C.1 C.2.1 dX10_wouldChange_72 (by decide) (fun c14 => ?_) (fun c14 => ?_)
      · replace hD := (if_neg c14).symm.trans hD
        refine lv_iconst (v := (1 : Int32)) C.1 C.2.1 dX10_wouldChange_87 (by decide) ?_
        refine lv_goto (tgt := 92) C.1 C.2.1 dX10_wouldChange_88 (by decide) ?_
        refine lv_istore (lv' := [(4, .int ((1 : Int32))), (0, .ref (X.2.2.1 17 (0))), (1, .int (x1)), (2, .int (x2)), (3, .int (y3)), (5, .int (y5)), (6, .int (y6)), (7, .int (y7)), (8, .int (y8))]) C.1 C.2.1 dX10_wouldChange_92 hl (by decide) rfl (fun ls hl => ?_)
        refine lv_iinc (v := y8 + 1) (lv' := [(8, .int (y8 + 1)), (4, .int ((1 : Int32))), (0, .ref (X.2.2.1 17 (0))), (1, .int (x1)), (2, .int (x2)), (3, .int (y3)), (5, .int (y5)), (6, .int (y6)), (7, .int (y7))]) C.1 C.2.1 dX10_wouldChange_94 hl (k := 8) rfl rfl (by decide) rfl (fun ls hl => ?_)
        refine lv_goto (tgt := 55) C.1 C.2.1 dX10_wouldChange_97 (by decide) ?_
        exact ih y3 (1 : Int32) y5 y6 y7 (y8 + 1) z13  hD _ _ hw _ (lv_sub hl [2, 3, 4, 5, 1, 6, 7, 8, 0] rfl)
      · replace hD := (if_pos c14).symm.trans hD
        refine lv_aload_n C.1 C.2.1 dX10_wouldChange_75 rfl (lv_at hl 0 rfl) ?_
        refine lv_iload_n C.1 C.2.1 dX10_wouldChange_76 rfl (lv_at hl 1 rfl) ?_
        refine lv_iload_n C.1 C.2.1 dX10_wouldChange_77 rfl (lv_at hl 2 rfl) ?_
        refine lv_iconst (v := (1 : Int32)) C.1 C.2.1 dX10_wouldChange_78 (by decide) ?_
        refine lv_iadd C.1 C.2.1 dX10_wouldChange_79 ?_
        obtain ⟨q15, hq15, hD⟩ := Option.bind_eq_some_iff.mp hD
        refine x_goi hw (x_runV (As := [.int (x1), .int (x2 + (1 : Int32))]) (rest := []) (k := 17) (j := 0) C hw (Nat.le_of_ble_eq_true rfl) rfl rfl cV_X10_offAt kw_683 (c_X10_offAt l X ex x1 (x2 + (1 : Int32))  z13 q15 hq15) ⟨Nat.le_of_ble_eq_true rfl, Nat.le_of_ble_eq_true rfl⟩ rfl hl.1 rfl (Nat.le_of_ble_eq_true rfl) dX10_wouldChange_80 ⟨Nat.le_of_ble_eq_true rfl, Nat.le_of_ble_eq_true rfl⟩) (fun H locs hw => ?_)
        refine lv_iload_n C.1 C.2.1 dX10_wouldChange_83 rfl (lv_at hl 3 rfl) ?_
        refine lv_icmp_le (tgt := 91) C.1 C.2.1 dX10_wouldChange_84 (by decide) (fun c16 => ?_) (fun c16 => ?_)
        · replace hD := (if_pos c16).symm.trans hD
          refine lv_iconst (v := (0 : Int32)) C.1 C.2.1 dX10_wouldChange_91 (by decide) ?_
          refine lv_istore (lv' := [(4, .int ((0 : Int32))), (0, .ref (X.2.2.1 17 (0))), (1, .int (x1)), (2, .int (x2)), (3, .int (y3)), (5, .int (y5)), (6, .int (y6)), (7, .int (y7)), (8, .int (y8))]) C.1 C.2.1 dX10_wouldChange_92 hl (by decide) rfl (fun ls hl => ?_)
          refine lv_iinc (v := y8 + 1) (lv' := [(8, .int (y8 + 1)), (4, .int ((0 : Int32))), (0, .ref (X.2.2.1 17 (0))), (1, .int (x1)), (2, .int (x2)), (3, .int (y3)), (5, .int (y5)), (6, .int (y6)), (7, .int (y7))]) C.1 C.2.1 dX10_wouldChange_94 hl (k := 8) rfl rfl (by decide) rfl (fun ls hl => ?_)
          refine lv_goto (tgt := 55) C.1 C.2.1 dX10_wouldChange_97 (by decide) ?_
          exact ih y3 (0 : Int32) y5 y6 y7 (y8 + 1) q15.2  hD _ _ hw _ (lv_sub hl [2, 3, 4, 5, 1, 6, 7, 8, 0] rfl)
        · replace hD := (if_neg c16).symm.trans hD
          refine lv_iconst (v := (1 : Int32)) C.1 C.2.1 dX10_wouldChange_87 (by decide) ?_
          refine lv_goto (tgt := 92) C.1 C.2.1 dX10_wouldChange_88 (by decide) ?_
          refine lv_istore (lv' := [(4, .int ((1 : Int32))), (0, .ref (X.2.2.1 17 (0))), (1, .int (x1)), (2, .int (x2)), (3, .int (y3)), (5, .int (y5)), (6, .int (y6)), (7, .int (y7)), (8, .int (y8))]) C.1 C.2.1 dX10_wouldChange_92 hl (by decide) rfl (fun ls hl => ?_)
          refine lv_iinc (v := y8 + 1) (lv' := [(8, .int (y8 + 1)), (4, .int ((1 : Int32))), (0, .ref (X.2.2.1 17 (0))), (1, .int (x1)), (2, .int (x2)), (3, .int (y3)), (5, .int (y5)), (6, .int (y6)), (7, .int (y7))]) C.1 C.2.1 dX10_wouldChange_94 hl (k := 8) rfl rfl (by decide) rfl (fun ls hl => ?_)
          refine lv_goto (tgt := 55) C.1 C.2.1 dX10_wouldChange_97 (by decide) ?_
          exact ih y3 (1 : Int32) y5 y6 y7 (y8 + 1) q15.2  hD _ _ hw _ (lv_sub hl [2, 3, 4, 5, 1, 6, 7, 8, 0] rfl)
def B_X10_wouldChange_15 (x1 : Int32) (x2 : Int32) (k15_ : Int32 → Int32 → Int32 → XS → Option (Int32 × XS)) (y3 : Int32) (y4 : Int32) (y5 : Int32) (z : XS) : Option (Int32 × XS) :=
  (if (2 : Int32) ≤ y5 then gd (isZ y4) (some (y4, z)) else (D_X10_hedgeAt x1 y5 z).bind fun q4 => ((D_X10_noHedge q4.1 q4.2).bind fun q5 => ((if q5.1 = 0 then (D_X10_placeOf x1 y5 x2 q5.2).bind fun q7 => (gd (inB q7.1 420) (L_X10_wouldChange_55 x1 x2 k15_ 64 y3 y4 y5 q7.1 (gA q7.2 18 3 q7.1.toNatClampNeg) (-1 : Int32) q7.2)) else k15_ y3 y4 (y5 + 1) q5.2))))
def L_X10_wouldChange_15 (x1 : Int32) (x2 : Int32) : Nat → Int32 → Int32 → Int32 → XS → Option (Int32 × XS)
  | 0 => fun _ _ _ _ => none
  | n + 1 => B_X10_wouldChange_15 x1 x2  (L_X10_wouldChange_15 x1 x2  n)
set_option maxHeartbeats 4000000 in
set_option maxRecDepth 100000 in
theorem w_X10_wouldChange_15 {p : Program} {l : Launch} {e : Env} {s : State} {m : MethodId} {below : List Frame} {meth : Method} {c : Code} {X : XC} {ex : va_W} (x1 : Int32) (x2 : Int32) (C : CallFix p m c cX10_wouldChange 9 s (([.ref (X.2.2.1 17 (0)), .int (x1), .int (x2)] : List Value).toArray) gtbl RX10) (hr : meth.sig.returnType = (some .boolean)) (hk : meth.locks = false) (R0 : Int32 × XS)  : ∀ (n : Nat), ∀ (y3 : Int32) (y4 : Int32) (y5 : Int32) (z : XS), L_X10_wouldChange_15 x1 x2  n y3 y4 y5 z = some R0 → ∀ (H : Heap) (locs : List Loc), xw X ex z s H locs → ∀ (ls : Array Slot), lv_has ls 9 [(0, .ref (X.2.2.1 17 (0))), (1, .int (x1)), (2, .int (x2)), (3, .int (y3)), (4, .int (y4)), (5, .int (y5))] → W p l e rm_X10_wouldChange s m (([.ref (X.2.2.1 17 (0)), .int (x1), .int (x2)] : List Value).toArray) below meth c H locs 0 0 (MQ below (xQi X ex R0.2 R0.1) (([.ref (X.2.2.1 17 (0)), .int (x1), .int (x2)] : List Value).toArray) s 0 0 (xA X)) (F0 m 15 ls []) := by
  intro n
  induction n with
  | zero =>
    intro y3 y4 y5 z  hD
    cases hD
  | succ n ih =>
    intro y3 y4 y5 z  hD H locs hw ls hl
    replace hD : B_X10_wouldChange_15 x1 x2  (L_X10_wouldChange_15 x1 x2  n) y3 y4 y5 z = some R0 := hD
    unfold B_X10_wouldChange_15 at hD
    refine lv_iload C.1 C.2.1 dX10_wouldChange_15 (lv_at hl 5 rfl) ?_
    refine lv_iconst (v := (2 : Int32)) C.1 C.2.1 dX10_wouldChange_17 (by decide) ?_
    refine lv_icmp_ge (tgt := 115) C.1 C.2.1 dX10_wouldChange_18 (by decide) (fun c2 => ?_) (fun c2 => ?_)
    · replace hD := (if_pos c2).symm.trans hD
      refine lv_iload C.1 C.2.1 dX10_wouldChange_115 (lv_at hl 4 rfl) ?_
      obtain ⟨g3, hD⟩ := gd_some hD
      obtain rfl := Option.some.inj hD
      exact x_zret (v := y4) C hw hr hk (isZ_n g3) dX10_wouldChange_117
    · replace hD := (if_neg c2).symm.trans hD
      refine lv_aload_n C.1 C.2.1 dX10_wouldChange_21 rfl (lv_at hl 0 rfl) ?_
      refine lv_iload_n C.1 C.2.1 dX10_wouldChange_22 rfl (lv_at hl 1 rfl) ?_
      refine lv_iload C.1 C.2.1 dX10_wouldChange_23 (lv_at hl 5 rfl) ?_
      obtain ⟨q4, hq4, hD⟩ := Option.bind_eq_some_iff.mp hD
      refine x_goi hw (x_runS (As := [.int (x1), .int (y5)]) (rest := [.ref (X.2.2.1 17 (0))]) C hw cS_X10_hedgeAt kw_618 (c_X10_hedgeAt l X ex x1 y5  z q4 hq4) ⟨Nat.le_of_ble_eq_true rfl, Nat.le_of_ble_eq_true rfl⟩ rfl hl.1 rfl (Nat.le_of_ble_eq_true rfl) dX10_wouldChange_25 ⟨Nat.le_of_ble_eq_true rfl, Nat.le_of_ble_eq_true rfl⟩) (fun H locs hw => ?_)
      obtain ⟨q5, hq5, hD⟩ := Option.bind_eq_some_iff.mp hD
      refine x_goi hw (x_runV (As := [.int (q4.1)]) (rest := []) (k := 17) (j := 0) C hw (Nat.le_of_ble_eq_true rfl) rfl rfl cV_X10_noHedge kw_602 (c_X10_noHedge l X ex q4.1  q4.2 q5 hq5) ⟨Nat.le_of_ble_eq_true rfl, Nat.le_of_ble_eq_true rfl⟩ rfl hl.1 rfl (Nat.le_of_ble_eq_true rfl) dX10_wouldChange_28 ⟨Nat.le_of_ble_eq_true rfl, Nat.le_of_ble_eq_true rfl⟩) (fun H locs hw => ?_)
      refine lv_if_ne (tgt := 109) C.1 C.2.1 dX10_wouldChange_31 (by decide) (fun c6 => ?_) (fun c6 => ?_)
      · replace hD := (if_neg c6).symm.trans hD
        refine lv_iinc (v := y5 + 1) (lv' := [(5, .int (y5 + 1)), (0, .ref (X.2.2.1 17 (0))), (1, .int (x1)), (2, .int (x2)), (3, .int (y3)), (4, .int (y4))]) C.1 C.2.1 dX10_wouldChange_109 hl (k := 5) rfl rfl (by decide) rfl (fun ls hl => ?_)
        refine lv_goto (tgt := 15) C.1 C.2.1 dX10_wouldChange_112 (by decide) ?_
        exact ih y3 y4 (y5 + 1) q5.2  hD _ _ hw _ (lv_sub hl [1, 2, 3, 4, 5, 0] rfl)
      · replace hD := (if_pos c6).symm.trans hD
        refine lv_iload_n C.1 C.2.1 dX10_wouldChange_34 rfl (lv_at hl 1 rfl) ?_
        refine lv_iload C.1 C.2.1 dX10_wouldChange_35 (lv_at hl 5 rfl) ?_
        refine lv_iload_n C.1 C.2.1 dX10_wouldChange_37 rfl (lv_at hl 2 rfl) ?_
        obtain ⟨q7, hq7, hD⟩ := Option.bind_eq_some_iff.mp hD
        refine x_goi hw (x_runS (As := [.int (x1), .int (y5), .int (x2)]) (rest := []) C hw cS_X10_placeOf kw_623 (c_X10_placeOf l X ex x1 y5 x2  q5.2 q7 hq7) ⟨Nat.le_of_ble_eq_true rfl, Nat.le_of_ble_eq_true rfl⟩ rfl hl.1 rfl (Nat.le_of_ble_eq_true rfl) dX10_wouldChange_38 ⟨Nat.le_of_ble_eq_true rfl, Nat.le_of_ble_eq_true rfl⟩) (fun H locs hw => ?_)
        refine lv_istore (lv' := [(6, .int (q7.1)), (0, .ref (X.2.2.1 17 (0))), (1, .int (x1)), (2, .int (x2)), (3, .int (y3)), (4, .int (y4)), (5, .int (y5))]) C.1 C.2.1 dX10_wouldChange_41 hl (by decide) rfl (fun ls hl => ?_)
        refine lv_aload_n C.1 C.2.1 dX10_wouldChange_43 rfl (lv_at hl 1 rfl) ?_
        refine gf_X10_5 C hw kw_575 dX10_wouldChange_44 ?_
        refine lv_iload C.1 C.2.1 dX10_wouldChange_47 (lv_at hl 0 rfl) ?_
        obtain ⟨g8, hD⟩ := gd_some hD
        refine x_iald (k := 18) (j := 3) C hw rfl (Nat.le_of_ble_eq_true rfl) (inB_in g8) dX10_wouldChange_49 ?_
        refine lv_istore (lv' := [(7, .int (gA q7.2 18 3 q7.1.toNatClampNeg)), (6, .int (q7.1)), (0, .ref (X.2.2.1 17 (0))), (1, .int (x1)), (2, .int (x2)), (3, .int (y3)), (4, .int (y4)), (5, .int (y5))]) C.1 C.2.1 dX10_wouldChange_50 hl (by decide) rfl (fun ls hl => ?_)
        refine lv_iconst (v := (-1 : Int32)) C.1 C.2.1 dX10_wouldChange_52 (by decide) ?_
        refine lv_istore (lv' := [(8, .int ((-1 : Int32))), (7, .int (gA q7.2 18 3 q7.1.toNatClampNeg)), (6, .int (q7.1)), (0, .ref (X.2.2.1 17 (0))), (1, .int (x1)), (2, .int (x2)), (3, .int (y3)), (4, .int (y4)), (5, .int (y5))]) C.1 C.2.1 dX10_wouldChange_53 hl (by decide) rfl (fun ls hl => ?_)
        exact w_X10_wouldChange_55 x1 x2  C hr hk R0 (L_X10_wouldChange_15 x1 x2  n) ih 64 y3 y4 y5 q7.1 (gA q7.2 18 3 q7.1.toNatClampNeg) (-1 : Int32) q7.2  hD _ _ hw _ (lv_sub hl [3, 4, 5, 6, 7, 8, 2, 1, 0] rfl)
def D_X10_wouldChange (x1 : Int32) (x2 : Int32) (z : XS) : Option (Int32 × XS) :=
  (D_X10_offAt x1 (x2 + (1 : Int32)) z).bind fun q1 => (L_X10_wouldChange_15 x1 x2  64 q1.1 (0 : Int32) (0 : Int32) q1.2)
set_option maxHeartbeats 4000000 in
set_option maxRecDepth 100000 in
theorem c_X10_wouldChange (l : Launch) (X : XC) (ex : va_W) (x1 : Int32) (x2 : Int32) (z : XS) (R0 : Int32 × XS) (hD : D_X10_wouldChange x1 x2 z = some R0) : xM l X ex yX10_wouldChange cX10_wouldChange 9 (some .boolean) rm_X10_wouldChange [.ref (X.2.2.1 17 (0)), .int (x1), .int (x2)] z (xQi X ex R0.2 R0.1) := by
  refine x_ent (by decide) (Nat.le_of_ble_eq_true rfl) ?_
  intro p e s m below meth c ls C hr hk hw hl
  replace hl : lv_has ls 9 [(0, .ref (X.2.2.1 17 (0))), (1, .int (x1)), (2, .int (x2))] := hl
  unfold D_X10_wouldChange at hD
  refine lv_aload_n C.1 C.2.1 dX10_wouldChange_0 rfl (lv_at hl 0 rfl) ?_
  refine lv_iload_n C.1 C.2.1 dX10_wouldChange_1 rfl (lv_at hl 1 rfl) ?_
  refine lv_iload_n C.1 C.2.1 dX10_wouldChange_2 rfl (lv_at hl 2 rfl) ?_
  refine lv_iconst (v := (1 : Int32)) C.1 C.2.1 dX10_wouldChange_3 (by decide) ?_
  refine lv_iadd C.1 C.2.1 dX10_wouldChange_4 ?_
  obtain ⟨q1, hq1, hD⟩ := Option.bind_eq_some_iff.mp hD
  refine x_goi hw (x_runV (As := [.int (x1), .int (x2 + (1 : Int32))]) (rest := []) (k := 17) (j := 0) C hw (Nat.le_of_ble_eq_true rfl) rfl rfl cV_X10_offAt kw_683 (c_X10_offAt l X ex x1 (x2 + (1 : Int32))  z q1 hq1) ⟨Nat.le_of_ble_eq_true rfl, Nat.le_of_ble_eq_true rfl⟩ rfl hl.1 rfl (Nat.le_of_ble_eq_true rfl) dX10_wouldChange_5 ⟨Nat.le_of_ble_eq_true rfl, Nat.le_of_ble_eq_true rfl⟩) (fun H locs hw => ?_)
  refine lv_istore_n (lv' := [(3, .int (q1.1)), (0, .ref (X.2.2.1 17 (0))), (1, .int (x1)), (2, .int (x2))]) C.1 C.2.1 dX10_wouldChange_8 rfl hl (by decide) rfl (fun ls hl => ?_)
  refine lv_iconst (v := (0 : Int32)) C.1 C.2.1 dX10_wouldChange_9 (by decide) ?_
  refine lv_istore (lv' := [(4, .int ((0 : Int32))), (3, .int (q1.1)), (0, .ref (X.2.2.1 17 (0))), (1, .int (x1)), (2, .int (x2))]) C.1 C.2.1 dX10_wouldChange_10 hl (by decide) rfl (fun ls hl => ?_)
  refine lv_iconst (v := (0 : Int32)) C.1 C.2.1 dX10_wouldChange_12 (by decide) ?_
  refine lv_istore (lv' := [(5, .int ((0 : Int32))), (4, .int ((0 : Int32))), (3, .int (q1.1)), (0, .ref (X.2.2.1 17 (0))), (1, .int (x1)), (2, .int (x2))]) C.1 C.2.1 dX10_wouldChange_13 hl (by decide) rfl (fun ls hl => ?_)
  exact w_X10_wouldChange_15 x1 x2  C hr hk R0   64 q1.1 (0 : Int32) (0 : Int32) q1.2  hD _ _ hw _ (lv_sub hl [3, 4, 5, 2, 1, 0] rfl)
theorem kw_714 : Cond.code yX10_wouldChange cX10_wouldChange 9 (some .boolean) ∈ gtbl := gm4 140 rfl rfl
theorem nd_X10_wouldChange : (yX10_wouldChange).cls ≠ "java/lang/invoke/MethodHandle" ∧ (yX10_wouldChange).cls ≠ "java/lang/invoke/VarHandle" ∧ (parseMethodDescriptor (yX10_wouldChange).desc).map (fun d => d.parameters.length) = some 2 := by decide +kernel
theorem kw_716 : Cond.instanceMethod yX10_wouldChange ∈ gtbl := gm4 139 rfl rfl
theorem kw_717 : Cond.selects RX10 yX10_wouldChange yX10_wouldChange ∈ gtbl := gm0 24 rfl rfl
theorem cV_X10_wouldChange : xcV yX10_wouldChange cX10_wouldChange 9 (some .boolean) 2 := ⟨⟨kw_714, kw_490, nd_X10_wouldChange⟩, kw_716, kw_717⟩
theorem kw_719 : Cond.methodLink RX10 199 yX10_wouldChange ∈ gtbl := gm4 137 rfl rfl
abbrev rm_X10_peace : Room := { frames := 7, cells := 0, slots := 0, locals := 168 }
def B_X10_peace_24 (x1 : Int32) (k24_ : Int32 → Int32 → XS → Option (Int32 × XS)) (y2 : Int32) (y3 : Int32) (z : XS) : Option (Int32 × XS) :=
  (if gS z 17 1 0 ≤ y3 then some (y2, z) else (D_X10_wouldChange y3 x1 z).bind fun q5 => ((if q5.1 = 0 then k24_ (y2 ||| (0 : Int32)) (y3 + 1) q5.2 else k24_ (y2 ||| ((1 : Int32) <<< (y3 &&& 31))) (y3 + 1) q5.2)))
def L_X10_peace_24 (x1 : Int32) : Nat → Int32 → Int32 → XS → Option (Int32 × XS)
  | 0 => fun _ _ _ => none
  | n + 1 => B_X10_peace_24 x1  (L_X10_peace_24 x1  n)
set_option maxHeartbeats 4000000 in
set_option maxRecDepth 100000 in
theorem w_X10_peace_24 {p : Program} {l : Launch} {e : Env} {s : State} {m : MethodId} {below : List Frame} {meth : Method} {c : Code} {X : XC} {ex : va_W} (x1 : Int32) (C : CallFix p m c cX10_peace 4 s (([.ref (X.2.2.1 17 (0)), .int (x1)] : List Value).toArray) gtbl RX10) (hr : meth.sig.returnType = (some .int)) (hk : meth.locks = false) (R0 : Int32 × XS)  : ∀ (n : Nat), ∀ (y2 : Int32) (y3 : Int32) (z : XS), L_X10_peace_24 x1  n y2 y3 z = some R0 → ∀ (H : Heap) (locs : List Loc), xw X ex z s H locs → ∀ (ls : Array Slot), lv_has ls 4 [(0, .ref (X.2.2.1 17 (0))), (1, .int (x1)), (2, .int (y2)), (3, .int (y3))] → W p l e rm_X10_peace s m (([.ref (X.2.2.1 17 (0)), .int (x1)] : List Value).toArray) below meth c H locs 0 0 (MQ below (xQi X ex R0.2 R0.1) (([.ref (X.2.2.1 17 (0)), .int (x1)] : List Value).toArray) s 0 0 (xA X)) (F0 m 24 ls []) := by
  intro n
  induction n with
  | zero =>
    intro y2 y3 z  hD
    cases hD
  | succ n ih =>
    intro y2 y3 z  hD H locs hw ls hl
    replace hD : B_X10_peace_24 x1  (L_X10_peace_24 x1  n) y2 y3 z = some R0 := hD
    unfold B_X10_peace_24 at hD
    refine lv_iload_n C.1 C.2.1 dX10_peace_24 rfl (lv_at hl 3 rfl) ?_
    refine lv_aload_n C.1 C.2.1 dX10_peace_25 rfl (lv_at hl 0 rfl) ?_
    refine gf_X10_1 C hw kw_495 dX10_peace_26 ?_
    refine lv_icmp_ge (tgt := 57) C.1 C.2.1 dX10_peace_29 (by decide) (fun c4 => ?_) (fun c4 => ?_)
    · replace hD := (if_pos c4).symm.trans hD
      refine lv_iload_n C.1 C.2.1 dX10_peace_57 rfl (lv_at hl 2 rfl) ?_
      obtain rfl := Option.some.inj hD
      exact x_iret C hw hr hk dX10_peace_58
    · replace hD := (if_neg c4).symm.trans hD
      refine lv_iload_n C.1 C.2.1 dX10_peace_32 rfl (lv_at hl 2 rfl) ?_
      refine lv_aload_n C.1 C.2.1 dX10_peace_33 rfl (lv_at hl 0 rfl) ?_
      refine lv_iload_n C.1 C.2.1 dX10_peace_34 rfl (lv_at hl 3 rfl) ?_
      refine lv_iload_n C.1 C.2.1 dX10_peace_35 rfl (lv_at hl 1 rfl) ?_
      obtain ⟨q5, hq5, hD⟩ := Option.bind_eq_some_iff.mp hD
      refine x_goi hw (x_runV (As := [.int (y3), .int (x1)]) (rest := [.int (y2)]) (k := 17) (j := 0) C hw (Nat.le_of_ble_eq_true rfl) rfl rfl cV_X10_wouldChange kw_719 (c_X10_wouldChange l X ex y3 x1  z q5 hq5) ⟨Nat.le_of_ble_eq_true rfl, Nat.le_of_ble_eq_true rfl⟩ rfl hl.1 rfl (Nat.le_of_ble_eq_true rfl) dX10_peace_36 ⟨Nat.le_of_ble_eq_true rfl, Nat.le_of_ble_eq_true rfl⟩) (fun H locs hw => ?_)
      refine lv_if_eq (tgt := 48) C.1 C.2.1 dX10_peace_39 (by decide) (fun c6 => ?_) (fun c6 => ?_)
      · replace hD := (if_pos c6).symm.trans hD
        refine lv_iconst (v := (0 : Int32)) C.1 C.2.1 dX10_peace_48 (by decide) ?_
        refine lv_ior C.1 C.2.1 dX10_peace_49 ?_
        refine lv_istore_n (lv' := [(2, .int (y2 ||| (0 : Int32))), (0, .ref (X.2.2.1 17 (0))), (1, .int (x1)), (3, .int (y3))]) C.1 C.2.1 dX10_peace_50 rfl hl (by decide) rfl (fun ls hl => ?_)
        refine lv_iinc (v := y3 + 1) (lv' := [(3, .int (y3 + 1)), (2, .int (y2 ||| (0 : Int32))), (0, .ref (X.2.2.1 17 (0))), (1, .int (x1))]) C.1 C.2.1 dX10_peace_51 hl (k := 3) rfl rfl (by decide) rfl (fun ls hl => ?_)
        refine lv_goto (tgt := 24) C.1 C.2.1 dX10_peace_54 (by decide) ?_
        exact ih (y2 ||| (0 : Int32)) (y3 + 1) q5.2  hD _ _ hw _ (lv_sub hl [2, 3, 1, 0] rfl)
      · replace hD := (if_neg c6).symm.trans hD
        refine lv_iconst (v := (1 : Int32)) C.1 C.2.1 dX10_peace_42 (by decide) ?_
        refine lv_iload_n C.1 C.2.1 dX10_peace_43 rfl (lv_at hl 3 rfl) ?_
        refine lv_ishl C.1 C.2.1 dX10_peace_44 ?_
        refine lv_goto (tgt := 49) C.1 C.2.1 dX10_peace_45 (by decide) ?_
        refine lv_ior C.1 C.2.1 dX10_peace_49 ?_
        refine lv_istore_n (lv' := [(2, .int (y2 ||| ((1 : Int32) <<< (y3 &&& 31)))), (0, .ref (X.2.2.1 17 (0))), (1, .int (x1)), (3, .int (y3))]) C.1 C.2.1 dX10_peace_50 rfl hl (by decide) rfl (fun ls hl => ?_)
        refine lv_iinc (v := y3 + 1) (lv' := [(3, .int (y3 + 1)), (2, .int (y2 ||| ((1 : Int32) <<< (y3 &&& 31)))), (0, .ref (X.2.2.1 17 (0))), (1, .int (x1))]) C.1 C.2.1 dX10_peace_51 hl (k := 3) rfl rfl (by decide) rfl (fun ls hl => ?_)
        refine lv_goto (tgt := 24) C.1 C.2.1 dX10_peace_54 (by decide) ?_
        exact ih (y2 ||| ((1 : Int32) <<< (y3 &&& 31))) (y3 + 1) q5.2  hD _ _ hw _ (lv_sub hl [2, 3, 1, 0] rfl)
def D_X10_peace (x1 : Int32) (z : XS) : Option (Int32 × XS) :=
  (D_X10_isDay x1 z).bind fun q1 => ((if q1.1 = 0 then some ((-2 : Int32), q1.2) else (if gS q1.2 17 1 0 = 0 then some ((-3 : Int32), q1.2) else L_X10_peace_24 x1  64 (0 : Int32) (0 : Int32) q1.2)))
set_option maxHeartbeats 4000000 in
set_option maxRecDepth 100000 in
theorem c_X10_peace (l : Launch) (X : XC) (ex : va_W) (x1 : Int32) (z : XS) (R0 : Int32 × XS) (hD : D_X10_peace x1 z = some R0) : xM l X ex yX10_peace cX10_peace 4 (some .int) rm_X10_peace [.ref (X.2.2.1 17 (0)), .int (x1)] z (xQi X ex R0.2 R0.1) := by
  refine x_ent (by decide) (Nat.le_of_ble_eq_true rfl) ?_
  intro p e s m below meth c ls C hr hk hw hl
  replace hl : lv_has ls 4 [(0, .ref (X.2.2.1 17 (0))), (1, .int (x1))] := hl
  unfold D_X10_peace at hD
  refine lv_iload_n C.1 C.2.1 dX10_peace_0 rfl (lv_at hl 1 rfl) ?_
  obtain ⟨q1, hq1, hD⟩ := Option.bind_eq_some_iff.mp hD
  refine x_goi hw (x_runS (As := [.int (x1)]) (rest := []) C hw cS_X10_isDay kw_612 (c_X10_isDay l X ex x1  z q1 hq1) ⟨Nat.le_of_ble_eq_true rfl, Nat.le_of_ble_eq_true rfl⟩ rfl hl.1 rfl (Nat.le_of_ble_eq_true rfl) dX10_peace_1 ⟨Nat.le_of_ble_eq_true rfl, Nat.le_of_ble_eq_true rfl⟩) (fun H locs hw => ?_)
  refine lv_if_ne (tgt := 10) C.1 C.2.1 dX10_peace_4 (by decide) (fun c2 => ?_) (fun c2 => ?_)
  · replace hD := (if_neg c2).symm.trans hD
    refine lv_aload_n C.1 C.2.1 dX10_peace_10 rfl (lv_at hl 0 rfl) ?_
    refine gf_X10_1 C hw kw_495 dX10_peace_11 ?_
    refine lv_if_ne (tgt := 20) C.1 C.2.1 dX10_peace_14 (by decide) (fun c3 => ?_) (fun c3 => ?_)
    · replace hD := (if_neg c3).symm.trans hD
      refine lv_iconst (v := (0 : Int32)) C.1 C.2.1 dX10_peace_20 (by decide) ?_
      refine lv_istore_n (lv' := [(2, .int ((0 : Int32))), (0, .ref (X.2.2.1 17 (0))), (1, .int (x1))]) C.1 C.2.1 dX10_peace_21 rfl hl (by decide) rfl (fun ls hl => ?_)
      refine lv_iconst (v := (0 : Int32)) C.1 C.2.1 dX10_peace_22 (by decide) ?_
      refine lv_istore_n (lv' := [(3, .int ((0 : Int32))), (2, .int ((0 : Int32))), (0, .ref (X.2.2.1 17 (0))), (1, .int (x1))]) C.1 C.2.1 dX10_peace_23 rfl hl (by decide) rfl (fun ls hl => ?_)
      exact w_X10_peace_24 x1  C hr hk R0   64 (0 : Int32) (0 : Int32) q1.2  hD _ _ hw _ (lv_sub hl [2, 3, 1, 0] rfl)
    · replace hD := (if_pos c3).symm.trans hD
      refine lv_bipush (v := (-3 : Int32)) C.1 C.2.1 dX10_peace_17 (by decide) ?_
      obtain rfl := Option.some.inj hD
      exact x_iret C hw hr hk dX10_peace_19
  · replace hD := (if_pos c2).symm.trans hD
    refine lv_bipush (v := (-2 : Int32)) C.1 C.2.1 dX10_peace_7 (by decide) ?_
    obtain rfl := Option.some.inj hD
    exact x_iret C hw hr hk dX10_peace_9
abbrev rm_X10_above : Room := { frames := 0, cells := 0, slots := 0, locals := 0 }
def D_X10_above (x0 : Int32) (x1 : Int32) (z : XS) : Option (Int32 × XS) :=
  (if x0 ≤ x1 then some ((0 : Int32), z) else some (x0 - x1, z))
set_option maxHeartbeats 4000000 in
set_option maxRecDepth 100000 in
theorem c_X10_above (l : Launch) (X : XC) (ex : va_W) (x0 : Int32) (x1 : Int32) (z : XS) (R0 : Int32 × XS) (hD : D_X10_above x0 x1 z = some R0) : xM l X ex yX10_above cX10_above 2 (some .int) rm_X10_above [.int (x0), .int (x1)] z (xQi X ex R0.2 R0.1) := by
  refine x_ent (by decide) (Nat.le_of_ble_eq_true rfl) ?_
  intro p e s m below meth c ls C hr hk hw hl
  replace hl : lv_has ls 2 [(0, .int (x0)), (1, .int (x1))] := hl
  unfold D_X10_above at hD
  refine lv_iload_n C.1 C.2.1 dX10_above_0 rfl (lv_at hl 0 rfl) ?_
  refine lv_iload_n C.1 C.2.1 dX10_above_1 rfl (lv_at hl 1 rfl) ?_
  refine lv_icmp_le (tgt := 11) C.1 C.2.1 dX10_above_2 (by decide) (fun c1 => ?_) (fun c1 => ?_)
  · replace hD := (if_pos c1).symm.trans hD
    refine lv_iconst (v := (0 : Int32)) C.1 C.2.1 dX10_above_11 (by decide) ?_
    obtain rfl := Option.some.inj hD
    exact x_iret C hw hr hk dX10_above_12
  · replace hD := (if_neg c1).symm.trans hD
    refine lv_iload_n C.1 C.2.1 dX10_above_5 rfl (lv_at hl 0 rfl) ?_
    refine lv_iload_n C.1 C.2.1 dX10_above_6 rfl (lv_at hl 1 rfl) ?_
    refine lv_isub C.1 C.2.1 dX10_above_7 ?_
    refine lv_goto (tgt := 12) C.1 C.2.1 dX10_above_8 (by decide) ?_
    obtain rfl := Option.some.inj hD
    exact x_iret C hw hr hk dX10_above_12
theorem kw_720 : Cond.code yX10_above cX10_above 2 (some .int) ∈ gtbl := gm4 147 rfl rfl
theorem nd_X10_above : (yX10_above).cls ≠ "java/lang/invoke/MethodHandle" ∧ (yX10_above).cls ≠ "java/lang/invoke/VarHandle" ∧ (parseMethodDescriptor (yX10_above).desc).map (fun d => d.parameters.length) = some 2 := by decide +kernel
theorem kw_722 : Cond.static yX10_above ∈ gtbl := gm4 146 rfl rfl
theorem cS_X10_above : xcS yX10_above cX10_above 2 (some .int) 2 := ⟨⟨kw_720, kw_490, nd_X10_above⟩, kw_722⟩
theorem kw_724 : Cond.methodLink RX10 202 yX10_above ∈ gtbl := gm4 145 rfl rfl
abbrev rm_X10_round : Room := { frames := 3, cells := 0, slots := 0, locals := 70 }
def J_X10_round_88 (x1 : Int32) (x2 : Int32) (k35_ : Int32 → Int32 → Int32 → XS → Option (Int32 × XS)) (y4 : Int32) (y5 : Int32) (y6 : Int32) (t0 : Int32) (z : XS) : Option (Int32 × XS) :=
  k35_ t0 (y4 + ((y6 + (11 : Int32)) / (12 : Int32))) (y5 + 1) z
set_option maxHeartbeats 4000000 in
set_option maxRecDepth 100000 in
theorem w_X10_round_88 {p : Program} {l : Launch} {e : Env} {s : State} {m : MethodId} {below : List Frame} {meth : Method} {c : Code} {X : XC} {ex : va_W} (x1 : Int32) (x2 : Int32) (C : CallFix p m c cX10_round 7 s (([.ref (X.2.2.1 17 (0)), .int (x1), .int (x2)] : List Value).toArray) gtbl RX10) (hr : meth.sig.returnType = (some .int)) (hk : meth.locks = false) (R0 : Int32 × XS) (k35_ : Int32 → Int32 → Int32 → XS → Option (Int32 × XS)) (hk35_ : ∀ (y3 : Int32) (y4 : Int32) (y5 : Int32) (z : XS), k35_ y3 y4 y5 z = some R0 → ∀ (H : Heap) (locs : List Loc), xw X ex z s H locs → ∀ (ls : Array Slot), lv_has ls 7 [(0, .ref (X.2.2.1 17 (0))), (1, .int (x1)), (2, .int (x2)), (3, .int (y3)), (4, .int (y4)), (5, .int (y5))] → W p l e rm_X10_round s m (([.ref (X.2.2.1 17 (0)), .int (x1), .int (x2)] : List Value).toArray) below meth c H locs 0 0 (MQ below (xQi X ex R0.2 R0.1) (([.ref (X.2.2.1 17 (0)), .int (x1), .int (x2)] : List Value).toArray) s 0 0 (xA X)) (F0 m 35 ls [])) : ∀ (y4 : Int32) (y5 : Int32) (y6 : Int32) (t0 : Int32) (z : XS), J_X10_round_88 x1 x2 k35_ y4 y5 y6 t0 z = some R0 → ∀ (H : Heap) (locs : List Loc), xw X ex z s H locs → ∀ (ls : Array Slot), lv_has ls 7 [(0, .ref (X.2.2.1 17 (0))), (1, .int (x1)), (2, .int (x2)), (4, .int (y4)), (5, .int (y5)), (6, .int (y6))] → W p l e rm_X10_round s m (([.ref (X.2.2.1 17 (0)), .int (x1), .int (x2)] : List Value).toArray) below meth c H locs 0 0 (MQ below (xQi X ex R0.2 R0.1) (([.ref (X.2.2.1 17 (0)), .int (x1), .int (x2)] : List Value).toArray) s 0 0 (xA X)) (F0 m 88 ls [.int (t0)]) := by
  intro y4 y5 y6 t0 z  hD H locs hw ls hl
  unfold J_X10_round_88 at hD
  refine lv_istore_n (lv' := [(3, .int (t0)), (0, .ref (X.2.2.1 17 (0))), (1, .int (x1)), (2, .int (x2)), (4, .int (y4)), (5, .int (y5)), (6, .int (y6))]) C.1 C.2.1 dX10_round_88 rfl hl (by decide) rfl (fun ls hl => ?_)
  refine lv_iload C.1 C.2.1 dX10_round_89 (lv_at hl 4 rfl) ?_
  refine lv_iload C.1 C.2.1 dX10_round_91 (lv_at hl 6 rfl) ?_
  refine lv_bipush (v := (11 : Int32)) C.1 C.2.1 dX10_round_93 (by decide) ?_
  refine lv_iadd C.1 C.2.1 dX10_round_95 ?_
  refine lv_bipush (v := (12 : Int32)) C.1 C.2.1 dX10_round_96 (by decide) ?_
  refine lv_idiv C.1 C.2.1 dX10_round_98 (by decide) ?_
  refine lv_iadd C.1 C.2.1 dX10_round_99 ?_
  refine lv_istore (lv' := [(4, .int (y4 + ((y6 + (11 : Int32)) / (12 : Int32)))), (3, .int (t0)), (0, .ref (X.2.2.1 17 (0))), (1, .int (x1)), (2, .int (x2)), (5, .int (y5)), (6, .int (y6))]) C.1 C.2.1 dX10_round_100 hl (by decide) rfl (fun ls hl => ?_)
  refine lv_iinc (v := y5 + 1) (lv' := [(5, .int (y5 + 1)), (4, .int (y4 + ((y6 + (11 : Int32)) / (12 : Int32)))), (3, .int (t0)), (0, .ref (X.2.2.1 17 (0))), (1, .int (x1)), (2, .int (x2)), (6, .int (y6))]) C.1 C.2.1 dX10_round_102 hl (k := 5) rfl rfl (by decide) rfl (fun ls hl => ?_)
  refine lv_goto (tgt := 35) C.1 C.2.1 dX10_round_105 (by decide) ?_
  exact hk35_ t0 (y4 + ((y6 + (11 : Int32)) / (12 : Int32))) (y5 + 1) z  hD _ _ hw _ (lv_sub hl [3, 4, 5, 2, 1, 0] rfl)
def B_X10_round_35 (x1 : Int32) (x2 : Int32) (k35_ : Int32 → Int32 → Int32 → XS → Option (Int32 × XS)) (y3 : Int32) (y4 : Int32) (y5 : Int32) (z : XS) : Option (Int32 × XS) :=
  (D_X10_hedges  z).bind fun q6 => ((if q6.1 ≤ y5 then some (y3 + y4, q6.2) else (D_X10_faceAt y5 (0 : Int32) x1 q6.2).bind fun q8 => ((D_X10_above q8.1 ((12 : Int32) * x2) q8.2).bind fun q9 => ((D_X10_faceAt y5 (1 : Int32) x1 q9.2).bind fun q10 => ((D_X10_above q10.1 ((12 : Int32) * x2) q10.2).bind fun q11 => ((if q9.1 + q11.1 ≤ 0 then J_X10_round_88 x1 x2 k35_ y4 y5 (q9.1 + q11.1) y3 q11.2 else J_X10_round_88 x1 x2 k35_ y4 y5 (q9.1 + q11.1) y5 q11.2)))))))
def L_X10_round_35 (x1 : Int32) (x2 : Int32) : Nat → Int32 → Int32 → Int32 → XS → Option (Int32 × XS)
  | 0 => fun _ _ _ _ => none
  | n + 1 => B_X10_round_35 x1 x2  (L_X10_round_35 x1 x2  n)
set_option maxHeartbeats 4000000 in
set_option maxRecDepth 100000 in
theorem w_X10_round_35 {p : Program} {l : Launch} {e : Env} {s : State} {m : MethodId} {below : List Frame} {meth : Method} {c : Code} {X : XC} {ex : va_W} (x1 : Int32) (x2 : Int32) (C : CallFix p m c cX10_round 7 s (([.ref (X.2.2.1 17 (0)), .int (x1), .int (x2)] : List Value).toArray) gtbl RX10) (hr : meth.sig.returnType = (some .int)) (hk : meth.locks = false) (R0 : Int32 × XS)  : ∀ (n : Nat), ∀ (y3 : Int32) (y4 : Int32) (y5 : Int32) (z : XS), L_X10_round_35 x1 x2  n y3 y4 y5 z = some R0 → ∀ (H : Heap) (locs : List Loc), xw X ex z s H locs → ∀ (ls : Array Slot), lv_has ls 7 [(0, .ref (X.2.2.1 17 (0))), (1, .int (x1)), (2, .int (x2)), (3, .int (y3)), (4, .int (y4)), (5, .int (y5))] → W p l e rm_X10_round s m (([.ref (X.2.2.1 17 (0)), .int (x1), .int (x2)] : List Value).toArray) below meth c H locs 0 0 (MQ below (xQi X ex R0.2 R0.1) (([.ref (X.2.2.1 17 (0)), .int (x1), .int (x2)] : List Value).toArray) s 0 0 (xA X)) (F0 m 35 ls []) := by
  intro n
  induction n with
  | zero =>
    intro y3 y4 y5 z  hD
    cases hD
  | succ n ih =>
    intro y3 y4 y5 z  hD H locs hw ls hl
    replace hD : B_X10_round_35 x1 x2  (L_X10_round_35 x1 x2  n) y3 y4 y5 z = some R0 := hD
    unfold B_X10_round_35 at hD
    refine lv_iload C.1 C.2.1 dX10_round_35 (lv_at hl 5 rfl) ?_
    refine lv_aload_n C.1 C.2.1 dX10_round_37 rfl (lv_at hl 0 rfl) ?_
    obtain ⟨q6, hq6, hD⟩ := Option.bind_eq_some_iff.mp hD
    refine x_goi hw (x_runV (As := []) (rest := [.int (y5)]) (k := 17) (j := 0) C hw (Nat.le_of_ble_eq_true rfl) rfl rfl cV_X10_hedges kw_507 (c_X10_hedges l X ex   z q6 hq6) ⟨Nat.le_of_ble_eq_true rfl, Nat.le_of_ble_eq_true rfl⟩ rfl hl.1 rfl (Nat.le_of_ble_eq_true rfl) dX10_round_38 ⟨Nat.le_of_ble_eq_true rfl, Nat.le_of_ble_eq_true rfl⟩) (fun H locs hw => ?_)
    refine lv_icmp_ge (tgt := 108) C.1 C.2.1 dX10_round_41 (by decide) (fun c7 => ?_) (fun c7 => ?_)
    · replace hD := (if_pos c7).symm.trans hD
      refine lv_iload_n C.1 C.2.1 dX10_round_108 rfl (lv_at hl 3 rfl) ?_
      refine lv_iload C.1 C.2.1 dX10_round_109 (lv_at hl 4 rfl) ?_
      refine lv_iadd C.1 C.2.1 dX10_round_111 ?_
      obtain rfl := Option.some.inj hD
      exact x_iret C hw hr hk dX10_round_112
    · replace hD := (if_neg c7).symm.trans hD
      refine lv_aload_n C.1 C.2.1 dX10_round_44 rfl (lv_at hl 0 rfl) ?_
      refine lv_iload C.1 C.2.1 dX10_round_45 (lv_at hl 5 rfl) ?_
      refine lv_iconst (v := (0 : Int32)) C.1 C.2.1 dX10_round_47 (by decide) ?_
      refine lv_iload_n C.1 C.2.1 dX10_round_48 rfl (lv_at hl 1 rfl) ?_
      obtain ⟨q8, hq8, hD⟩ := Option.bind_eq_some_iff.mp hD
      refine x_goi hw (x_runV (As := [.int (y5), .int ((0 : Int32)), .int (x1)]) (rest := []) (k := 17) (j := 0) C hw (Nat.le_of_ble_eq_true rfl) rfl rfl cV_X10_faceAt kw_659 (c_X10_faceAt l X ex y5 (0 : Int32) x1  q6.2 q8 hq8) ⟨Nat.le_of_ble_eq_true rfl, Nat.le_of_ble_eq_true rfl⟩ rfl hl.1 rfl (Nat.le_of_ble_eq_true rfl) dX10_round_49 ⟨Nat.le_of_ble_eq_true rfl, Nat.le_of_ble_eq_true rfl⟩) (fun H locs hw => ?_)
      refine lv_bipush (v := (12 : Int32)) C.1 C.2.1 dX10_round_52 (by decide) ?_
      refine lv_iload_n C.1 C.2.1 dX10_round_54 rfl (lv_at hl 2 rfl) ?_
      refine lv_imul C.1 C.2.1 dX10_round_55 ?_
      obtain ⟨q9, hq9, hD⟩ := Option.bind_eq_some_iff.mp hD
      refine x_goi hw (x_runS (As := [.int (q8.1), .int ((12 : Int32) * x2)]) (rest := []) C hw cS_X10_above kw_724 (c_X10_above l X ex q8.1 ((12 : Int32) * x2)  q8.2 q9 hq9) ⟨Nat.le_of_ble_eq_true rfl, Nat.le_of_ble_eq_true rfl⟩ rfl hl.1 rfl (Nat.le_of_ble_eq_true rfl) dX10_round_56 ⟨Nat.le_of_ble_eq_true rfl, Nat.le_of_ble_eq_true rfl⟩) (fun H locs hw => ?_)
      refine lv_aload_n C.1 C.2.1 dX10_round_59 rfl (lv_at hl 0 rfl) ?_
      refine lv_iload C.1 C.2.1 dX10_round_60 (lv_at hl 5 rfl) ?_
      refine lv_iconst (v := (1 : Int32)) C.1 C.2.1 dX10_round_62 (by decide) ?_
      refine lv_iload_n C.1 C.2.1 dX10_round_63 rfl (lv_at hl 1 rfl) ?_
      obtain ⟨q10, hq10, hD⟩ := Option.bind_eq_some_iff.mp hD
      refine x_goi hw (x_runV (As := [.int (y5), .int ((1 : Int32)), .int (x1)]) (rest := [.int (q9.1)]) (k := 17) (j := 0) C hw (Nat.le_of_ble_eq_true rfl) rfl rfl cV_X10_faceAt kw_659 (c_X10_faceAt l X ex y5 (1 : Int32) x1  q9.2 q10 hq10) ⟨Nat.le_of_ble_eq_true rfl, Nat.le_of_ble_eq_true rfl⟩ rfl hl.1 rfl (Nat.le_of_ble_eq_true rfl) dX10_round_64 ⟨Nat.le_of_ble_eq_true rfl, Nat.le_of_ble_eq_true rfl⟩) (fun H locs hw => ?_)
      refine lv_bipush (v := (12 : Int32)) C.1 C.2.1 dX10_round_67 (by decide) ?_
      refine lv_iload_n C.1 C.2.1 dX10_round_69 rfl (lv_at hl 2 rfl) ?_
      refine lv_imul C.1 C.2.1 dX10_round_70 ?_
      obtain ⟨q11, hq11, hD⟩ := Option.bind_eq_some_iff.mp hD
      refine x_goi hw (x_runS (As := [.int (q10.1), .int ((12 : Int32) * x2)]) (rest := [.int (q9.1)]) C hw cS_X10_above kw_724 (c_X10_above l X ex q10.1 ((12 : Int32) * x2)  q10.2 q11 hq11) ⟨Nat.le_of_ble_eq_true rfl, Nat.le_of_ble_eq_true rfl⟩ rfl hl.1 rfl (Nat.le_of_ble_eq_true rfl) dX10_round_71 ⟨Nat.le_of_ble_eq_true rfl, Nat.le_of_ble_eq_true rfl⟩) (fun H locs hw => ?_)
      refine lv_iadd C.1 C.2.1 dX10_round_74 ?_
      refine lv_istore (lv' := [(6, .int (q9.1 + q11.1)), (0, .ref (X.2.2.1 17 (0))), (1, .int (x1)), (2, .int (x2)), (3, .int (y3)), (4, .int (y4)), (5, .int (y5))]) C.1 C.2.1 dX10_round_75 hl (by decide) rfl (fun ls hl => ?_)
      refine lv_iload C.1 C.2.1 dX10_round_77 (lv_at hl 0 rfl) ?_
      refine lv_if_le (tgt := 87) C.1 C.2.1 dX10_round_79 (by decide) (fun c12 => ?_) (fun c12 => ?_)
      · replace hD := (if_pos c12).symm.trans hD
        refine lv_iload_n C.1 C.2.1 dX10_round_87 rfl (lv_at hl 4 rfl) ?_
        exact w_X10_round_88 x1 x2  C hr hk R0 (L_X10_round_35 x1 x2  n) ih y4 y5 (q9.1 + q11.1) y3 q11.2  hD _ _ hw _ (lv_sub hl [1, 2, 3, 5, 6, 0] rfl)
      · replace hD := (if_neg c12).symm.trans hD
        refine lv_iload C.1 C.2.1 dX10_round_82 (lv_at hl 6 rfl) ?_
        refine lv_goto (tgt := 88) C.1 C.2.1 dX10_round_84 (by decide) ?_
        exact w_X10_round_88 x1 x2  C hr hk R0 (L_X10_round_35 x1 x2  n) ih y4 y5 (q9.1 + q11.1) y5 q11.2  hD _ _ hw _ (lv_sub hl [1, 2, 3, 5, 6, 0] rfl)
def D_X10_round (x1 : Int32) (x2 : Int32) (z : XS) : Option (Int32 × XS) :=
  (D_X10_isDawn x1 z).bind fun q1 => ((if q1.1 = 0 then some ((-2 : Int32), q1.2) else (D_X10_isFeet x2 q1.2).bind fun q3 => ((if q3.1 = 0 then some ((-2 : Int32), q3.2) else (if gS q3.2 17 1 0 = 0 then some ((-3 : Int32), q3.2) else L_X10_round_35 x1 x2  64 (0 : Int32) (0 : Int32) (0 : Int32) q3.2)))))
set_option maxHeartbeats 4000000 in
set_option maxRecDepth 100000 in
theorem c_X10_round (l : Launch) (X : XC) (ex : va_W) (x1 : Int32) (x2 : Int32) (z : XS) (R0 : Int32 × XS) (hD : D_X10_round x1 x2 z = some R0) : xM l X ex yX10_round cX10_round 7 (some .int) rm_X10_round [.ref (X.2.2.1 17 (0)), .int (x1), .int (x2)] z (xQi X ex R0.2 R0.1) := by
  refine x_ent (by decide) (Nat.le_of_ble_eq_true rfl) ?_
  intro p e s m below meth c ls C hr hk hw hl
  replace hl : lv_has ls 7 [(0, .ref (X.2.2.1 17 (0))), (1, .int (x1)), (2, .int (x2))] := hl
  unfold D_X10_round at hD
  refine lv_iload_n C.1 C.2.1 dX10_round_0 rfl (lv_at hl 1 rfl) ?_
  obtain ⟨q1, hq1, hD⟩ := Option.bind_eq_some_iff.mp hD
  refine x_goi hw (x_runS (As := [.int (x1)]) (rest := []) C hw cS_X10_isDawn kw_653 (c_X10_isDawn l X ex x1  z q1 hq1) ⟨Nat.le_of_ble_eq_true rfl, Nat.le_of_ble_eq_true rfl⟩ rfl hl.1 rfl (Nat.le_of_ble_eq_true rfl) dX10_round_1 ⟨Nat.le_of_ble_eq_true rfl, Nat.le_of_ble_eq_true rfl⟩) (fun H locs hw => ?_)
  refine lv_if_eq (tgt := 14) C.1 C.2.1 dX10_round_4 (by decide) (fun c2 => ?_) (fun c2 => ?_)
  · replace hD := (if_pos c2).symm.trans hD
    refine lv_bipush (v := (-2 : Int32)) C.1 C.2.1 dX10_round_14 (by decide) ?_
    obtain rfl := Option.some.inj hD
    exact x_iret C hw hr hk dX10_round_16
  · replace hD := (if_neg c2).symm.trans hD
    refine lv_iload_n C.1 C.2.1 dX10_round_7 rfl (lv_at hl 2 rfl) ?_
    obtain ⟨q3, hq3, hD⟩ := Option.bind_eq_some_iff.mp hD
    refine x_goi hw (x_runS (As := [.int (x2)]) (rest := []) C hw cS_X10_isFeet kw_628 (c_X10_isFeet l X ex x2  q1.2 q3 hq3) ⟨Nat.le_of_ble_eq_true rfl, Nat.le_of_ble_eq_true rfl⟩ rfl hl.1 rfl (Nat.le_of_ble_eq_true rfl) dX10_round_8 ⟨Nat.le_of_ble_eq_true rfl, Nat.le_of_ble_eq_true rfl⟩) (fun H locs hw => ?_)
    refine lv_if_ne (tgt := 17) C.1 C.2.1 dX10_round_11 (by decide) (fun c4 => ?_) (fun c4 => ?_)
    · replace hD := (if_neg c4).symm.trans hD
      refine lv_aload_n C.1 C.2.1 dX10_round_17 rfl (lv_at hl 0 rfl) ?_
      refine gf_X10_1 C hw kw_495 dX10_round_18 ?_
      refine lv_if_ne (tgt := 27) C.1 C.2.1 dX10_round_21 (by decide) (fun c5 => ?_) (fun c5 => ?_)
      · replace hD := (if_neg c5).symm.trans hD
        refine lv_iconst (v := (0 : Int32)) C.1 C.2.1 dX10_round_27 (by decide) ?_
        refine lv_istore_n (lv' := [(3, .int ((0 : Int32))), (0, .ref (X.2.2.1 17 (0))), (1, .int (x1)), (2, .int (x2))]) C.1 C.2.1 dX10_round_28 rfl hl (by decide) rfl (fun ls hl => ?_)
        refine lv_iconst (v := (0 : Int32)) C.1 C.2.1 dX10_round_29 (by decide) ?_
        refine lv_istore (lv' := [(4, .int ((0 : Int32))), (3, .int ((0 : Int32))), (0, .ref (X.2.2.1 17 (0))), (1, .int (x1)), (2, .int (x2))]) C.1 C.2.1 dX10_round_30 hl (by decide) rfl (fun ls hl => ?_)
        refine lv_iconst (v := (0 : Int32)) C.1 C.2.1 dX10_round_32 (by decide) ?_
        refine lv_istore (lv' := [(5, .int ((0 : Int32))), (4, .int ((0 : Int32))), (3, .int ((0 : Int32))), (0, .ref (X.2.2.1 17 (0))), (1, .int (x1)), (2, .int (x2))]) C.1 C.2.1 dX10_round_33 hl (by decide) rfl (fun ls hl => ?_)
        exact w_X10_round_35 x1 x2  C hr hk R0   64 (0 : Int32) (0 : Int32) (0 : Int32) q3.2  hD _ _ hw _ (lv_sub hl [3, 4, 5, 2, 1, 0] rfl)
      · replace hD := (if_pos c5).symm.trans hD
        refine lv_bipush (v := (-3 : Int32)) C.1 C.2.1 dX10_round_24 (by decide) ?_
        obtain rfl := Option.some.inj hD
        exact x_iret C hw hr hk dX10_round_26
    · replace hD := (if_pos c4).symm.trans hD
      refine lv_bipush (v := (-2 : Int32)) C.1 C.2.1 dX10_round_14 (by decide) ?_
      obtain rfl := Option.some.inj hD
      exact x_iret C hw hr hk dX10_round_16
abbrev rm_X10_finedAt : Room := { frames := 3, cells := 0, slots := 0, locals := 70 }
def J_X10_finedAt_67 (x1 : Int32) (x2 : Int32) (x3 : Int32) (x4 : Int32) (y8 : Int32) (t0 : Int32) (z : XS) : Option (Int32 × XS) :=
  (if t0 = 0 then some ((y8 / (2 : Int32)) + (0 : Int32), z) else some ((y8 / (2 : Int32)) + (y8 - y8 / (2 : Int32) * (2 : Int32)), z))
set_option maxHeartbeats 4000000 in
set_option maxRecDepth 100000 in
theorem w_X10_finedAt_67 {p : Program} {l : Launch} {e : Env} {s : State} {m : MethodId} {below : List Frame} {meth : Method} {c : Code} {X : XC} {ex : va_W} (x1 : Int32) (x2 : Int32) (x3 : Int32) (x4 : Int32) (C : CallFix p m c cX10_finedAt 10 s (([.ref (X.2.2.1 17 (0)), .int (x1), .int (x2), .int (x3), .int (x4)] : List Value).toArray) gtbl RX10) (hr : meth.sig.returnType = (some .int)) (hk : meth.locks = false) (R0 : Int32 × XS)  : ∀ (y8 : Int32) (t0 : Int32) (z : XS), J_X10_finedAt_67 x1 x2 x3 x4  y8 t0 z = some R0 → ∀ (H : Heap) (locs : List Loc), xw X ex z s H locs → ∀ (ls : Array Slot), lv_has ls 10 [(8, .int (y8))] → W p l e rm_X10_finedAt s m (([.ref (X.2.2.1 17 (0)), .int (x1), .int (x2), .int (x3), .int (x4)] : List Value).toArray) below meth c H locs 0 0 (MQ below (xQi X ex R0.2 R0.1) (([.ref (X.2.2.1 17 (0)), .int (x1), .int (x2), .int (x3), .int (x4)] : List Value).toArray) s 0 0 (xA X)) (F0 m 67 ls [.int (t0)]) := by
  intro y8 t0 z  hD H locs hw ls hl
  unfold J_X10_finedAt_67 at hD
  refine lv_istore (lv' := [(9, .int (t0)), (8, .int (y8))]) C.1 C.2.1 dX10_finedAt_67 hl (by decide) rfl (fun ls hl => ?_)
  refine lv_iload C.1 C.2.1 dX10_finedAt_69 (lv_at hl 1 rfl) ?_
  refine lv_iconst (v := (2 : Int32)) C.1 C.2.1 dX10_finedAt_71 (by decide) ?_
  refine lv_idiv C.1 C.2.1 dX10_finedAt_72 (by decide) ?_
  refine lv_iload C.1 C.2.1 dX10_finedAt_73 (lv_at hl 0 rfl) ?_
  refine lv_if_eq (tgt := 85) C.1 C.2.1 dX10_finedAt_75 (by decide) (fun c7 => ?_) (fun c7 => ?_)
  · replace hD := (if_pos c7).symm.trans hD
    refine lv_iconst (v := (0 : Int32)) C.1 C.2.1 dX10_finedAt_85 (by decide) ?_
    refine lv_iadd C.1 C.2.1 dX10_finedAt_86 ?_
    obtain rfl := Option.some.inj hD
    exact x_iret C hw hr hk dX10_finedAt_87
  · replace hD := (if_neg c7).symm.trans hD
    refine lv_iload C.1 C.2.1 dX10_finedAt_78 (lv_at hl 1 rfl) ?_
    refine lv_iconst (v := (2 : Int32)) C.1 C.2.1 dX10_finedAt_80 (by decide) ?_
    refine lv_irem C.1 C.2.1 dX10_finedAt_81 (by decide) ?_
    refine lv_goto (tgt := 86) C.1 C.2.1 dX10_finedAt_82 (by decide) ?_
    refine lv_iadd C.1 C.2.1 dX10_finedAt_86 ?_
    obtain rfl := Option.some.inj hD
    exact x_iret C hw hr hk dX10_finedAt_87
def J_X10_finedAt_58 (x1 : Int32) (x2 : Int32) (x3 : Int32) (x4 : Int32) (y8 : Int32) (t0 : Int32) (z : XS) : Option (Int32 × XS) :=
  (if t0 = x2 then J_X10_finedAt_67 x1 x2 x3 x4  y8 (1 : Int32) z else J_X10_finedAt_67 x1 x2 x3 x4  y8 (0 : Int32) z)
set_option maxHeartbeats 4000000 in
set_option maxRecDepth 100000 in
theorem w_X10_finedAt_58 {p : Program} {l : Launch} {e : Env} {s : State} {m : MethodId} {below : List Frame} {meth : Method} {c : Code} {X : XC} {ex : va_W} (x1 : Int32) (x2 : Int32) (x3 : Int32) (x4 : Int32) (C : CallFix p m c cX10_finedAt 10 s (([.ref (X.2.2.1 17 (0)), .int (x1), .int (x2), .int (x3), .int (x4)] : List Value).toArray) gtbl RX10) (hr : meth.sig.returnType = (some .int)) (hk : meth.locks = false) (R0 : Int32 × XS)  : ∀ (y8 : Int32) (t0 : Int32) (z : XS), J_X10_finedAt_58 x1 x2 x3 x4  y8 t0 z = some R0 → ∀ (H : Heap) (locs : List Loc), xw X ex z s H locs → ∀ (ls : Array Slot), lv_has ls 10 [(2, .int (x2)), (8, .int (y8))] → W p l e rm_X10_finedAt s m (([.ref (X.2.2.1 17 (0)), .int (x1), .int (x2), .int (x3), .int (x4)] : List Value).toArray) below meth c H locs 0 0 (MQ below (xQi X ex R0.2 R0.1) (([.ref (X.2.2.1 17 (0)), .int (x1), .int (x2), .int (x3), .int (x4)] : List Value).toArray) s 0 0 (xA X)) (F0 m 58 ls [.int (t0)]) := by
  intro y8 t0 z  hD H locs hw ls hl
  unfold J_X10_finedAt_58 at hD
  refine lv_iload_n C.1 C.2.1 dX10_finedAt_58 rfl (lv_at hl 0 rfl) ?_
  refine lv_icmp_ne (tgt := 66) C.1 C.2.1 dX10_finedAt_59 (by decide) (fun c6 => ?_) (fun c6 => ?_)
  · replace hD := (if_neg c6).symm.trans hD
    refine lv_iconst (v := (0 : Int32)) C.1 C.2.1 dX10_finedAt_66 (by decide) ?_
    exact w_X10_finedAt_67 x1 x2 x3 x4  C hr hk R0   y8 (0 : Int32) z  hD _ _ hw _ (lv_sub hl [1] rfl)
  · replace hD := (if_pos c6).symm.trans hD
    refine lv_iconst (v := (1 : Int32)) C.1 C.2.1 dX10_finedAt_62 (by decide) ?_
    refine lv_goto (tgt := 67) C.1 C.2.1 dX10_finedAt_63 (by decide) ?_
    exact w_X10_finedAt_67 x1 x2 x3 x4  C hr hk R0   y8 (1 : Int32) z  hD _ _ hw _ (lv_sub hl [1] rfl)
def D_X10_finedAt (x1 : Int32) (x2 : Int32) (x3 : Int32) (x4 : Int32) (z : XS) : Option (Int32 × XS) :=
  (D_X10_faceAt x1 (0 : Int32) x3 z).bind fun q1 => ((D_X10_faceAt x1 (1 : Int32) x3 q1.2).bind fun q2 => ((D_X10_lesser q1.1 q2.1 q2.2).bind fun q3 => ((if (12 : Int32) * x4 < q3.1 then (if q1.1 < q2.1 then J_X10_finedAt_58 x1 x2 x3 x4  (q3.1 / (12 : Int32)) (1 : Int32) q3.2 else J_X10_finedAt_58 x1 x2 x3 x4  (q3.1 / (12 : Int32)) (0 : Int32) q3.2) else some ((0 : Int32), q3.2)))))
set_option maxHeartbeats 4000000 in
set_option maxRecDepth 100000 in
theorem c_X10_finedAt (l : Launch) (X : XC) (ex : va_W) (x1 : Int32) (x2 : Int32) (x3 : Int32) (x4 : Int32) (z : XS) (R0 : Int32 × XS) (hD : D_X10_finedAt x1 x2 x3 x4 z = some R0) : xM l X ex yX10_finedAt cX10_finedAt 10 (some .int) rm_X10_finedAt [.ref (X.2.2.1 17 (0)), .int (x1), .int (x2), .int (x3), .int (x4)] z (xQi X ex R0.2 R0.1) := by
  refine x_ent (by decide) (Nat.le_of_ble_eq_true rfl) ?_
  intro p e s m below meth c ls C hr hk hw hl
  replace hl : lv_has ls 10 [(0, .ref (X.2.2.1 17 (0))), (1, .int (x1)), (2, .int (x2)), (3, .int (x3)), (4, .int (x4))] := hl
  unfold D_X10_finedAt at hD
  refine lv_aload_n C.1 C.2.1 dX10_finedAt_0 rfl (lv_at hl 0 rfl) ?_
  refine lv_iload_n C.1 C.2.1 dX10_finedAt_1 rfl (lv_at hl 1 rfl) ?_
  refine lv_iconst (v := (0 : Int32)) C.1 C.2.1 dX10_finedAt_2 (by decide) ?_
  refine lv_iload_n C.1 C.2.1 dX10_finedAt_3 rfl (lv_at hl 3 rfl) ?_
  obtain ⟨q1, hq1, hD⟩ := Option.bind_eq_some_iff.mp hD
  refine x_goi hw (x_runV (As := [.int (x1), .int ((0 : Int32)), .int (x3)]) (rest := []) (k := 17) (j := 0) C hw (Nat.le_of_ble_eq_true rfl) rfl rfl cV_X10_faceAt kw_659 (c_X10_faceAt l X ex x1 (0 : Int32) x3  z q1 hq1) ⟨Nat.le_of_ble_eq_true rfl, Nat.le_of_ble_eq_true rfl⟩ rfl hl.1 rfl (Nat.le_of_ble_eq_true rfl) dX10_finedAt_4 ⟨Nat.le_of_ble_eq_true rfl, Nat.le_of_ble_eq_true rfl⟩) (fun H locs hw => ?_)
  refine lv_istore (lv' := [(5, .int (q1.1)), (0, .ref (X.2.2.1 17 (0))), (1, .int (x1)), (2, .int (x2)), (3, .int (x3)), (4, .int (x4))]) C.1 C.2.1 dX10_finedAt_7 hl (by decide) rfl (fun ls hl => ?_)
  refine lv_aload_n C.1 C.2.1 dX10_finedAt_9 rfl (lv_at hl 1 rfl) ?_
  refine lv_iload_n C.1 C.2.1 dX10_finedAt_10 rfl (lv_at hl 2 rfl) ?_
  refine lv_iconst (v := (1 : Int32)) C.1 C.2.1 dX10_finedAt_11 (by decide) ?_
  refine lv_iload_n C.1 C.2.1 dX10_finedAt_12 rfl (lv_at hl 4 rfl) ?_
  obtain ⟨q2, hq2, hD⟩ := Option.bind_eq_some_iff.mp hD
  refine x_goi hw (x_runV (As := [.int (x1), .int ((1 : Int32)), .int (x3)]) (rest := []) (k := 17) (j := 0) C hw (Nat.le_of_ble_eq_true rfl) rfl rfl cV_X10_faceAt kw_659 (c_X10_faceAt l X ex x1 (1 : Int32) x3  q1.2 q2 hq2) ⟨Nat.le_of_ble_eq_true rfl, Nat.le_of_ble_eq_true rfl⟩ rfl hl.1 rfl (Nat.le_of_ble_eq_true rfl) dX10_finedAt_13 ⟨Nat.le_of_ble_eq_true rfl, Nat.le_of_ble_eq_true rfl⟩) (fun H locs hw => ?_)
  refine lv_istore (lv' := [(6, .int (q2.1)), (5, .int (q1.1)), (0, .ref (X.2.2.1 17 (0))), (1, .int (x1)), (2, .int (x2)), (3, .int (x3)), (4, .int (x4))]) C.1 C.2.1 dX10_finedAt_16 hl (by decide) rfl (fun ls hl => ?_)
  refine lv_iload C.1 C.2.1 dX10_finedAt_18 (lv_at hl 1 rfl) ?_
  refine lv_iload C.1 C.2.1 dX10_finedAt_20 (lv_at hl 0 rfl) ?_
  obtain ⟨q3, hq3, hD⟩ := Option.bind_eq_some_iff.mp hD
  refine x_goi hw (x_runS (As := [.int (q1.1), .int (q2.1)]) (rest := []) C hw cS_X10_lesser kw_648 (c_X10_lesser l X ex q1.1 q2.1  q2.2 q3 hq3) ⟨Nat.le_of_ble_eq_true rfl, Nat.le_of_ble_eq_true rfl⟩ rfl hl.1 rfl (Nat.le_of_ble_eq_true rfl) dX10_finedAt_22 ⟨Nat.le_of_ble_eq_true rfl, Nat.le_of_ble_eq_true rfl⟩) (fun H locs hw => ?_)
  refine lv_istore (lv' := [(7, .int (q3.1)), (6, .int (q2.1)), (5, .int (q1.1)), (0, .ref (X.2.2.1 17 (0))), (1, .int (x1)), (2, .int (x2)), (3, .int (x3)), (4, .int (x4))]) C.1 C.2.1 dX10_finedAt_25 hl (by decide) rfl (fun ls hl => ?_)
  refine lv_iload C.1 C.2.1 dX10_finedAt_27 (lv_at hl 0 rfl) ?_
  refine lv_bipush (v := (12 : Int32)) C.1 C.2.1 dX10_finedAt_29 (by decide) ?_
  refine lv_iload C.1 C.2.1 dX10_finedAt_31 (lv_at hl 7 rfl) ?_
  refine lv_imul C.1 C.2.1 dX10_finedAt_33 ?_
  refine lv_icmp_gt (tgt := 39) C.1 C.2.1 dX10_finedAt_34 (by decide) (fun c4 => ?_) (fun c4 => ?_)
  · replace hD := (if_pos c4).symm.trans hD
    refine lv_iload C.1 C.2.1 dX10_finedAt_39 (lv_at hl 0 rfl) ?_
    refine lv_bipush (v := (12 : Int32)) C.1 C.2.1 dX10_finedAt_41 (by decide) ?_
    refine lv_idiv C.1 C.2.1 dX10_finedAt_43 (by decide) ?_
    refine lv_istore (lv' := [(8, .int (q3.1 / (12 : Int32))), (7, .int (q3.1)), (6, .int (q2.1)), (5, .int (q1.1)), (0, .ref (X.2.2.1 17 (0))), (1, .int (x1)), (2, .int (x2)), (3, .int (x3)), (4, .int (x4))]) C.1 C.2.1 dX10_finedAt_44 hl (by decide) rfl (fun ls hl => ?_)
    refine lv_iload C.1 C.2.1 dX10_finedAt_46 (lv_at hl 3 rfl) ?_
    refine lv_iload C.1 C.2.1 dX10_finedAt_48 (lv_at hl 2 rfl) ?_
    refine lv_icmp_lt (tgt := 57) C.1 C.2.1 dX10_finedAt_50 (by decide) (fun c5 => ?_) (fun c5 => ?_)
    · replace hD := (if_pos c5).symm.trans hD
      refine lv_iconst (v := (1 : Int32)) C.1 C.2.1 dX10_finedAt_57 (by decide) ?_
      exact w_X10_finedAt_58 x1 x2 x3 x4  C hr hk R0   (q3.1 / (12 : Int32)) (1 : Int32) q3.2  hD _ _ hw _ (lv_sub hl [6, 0] rfl)
    · replace hD := (if_neg c5).symm.trans hD
      refine lv_iconst (v := (0 : Int32)) C.1 C.2.1 dX10_finedAt_53 (by decide) ?_
      refine lv_goto (tgt := 58) C.1 C.2.1 dX10_finedAt_54 (by decide) ?_
      exact w_X10_finedAt_58 x1 x2 x3 x4  C hr hk R0   (q3.1 / (12 : Int32)) (0 : Int32) q3.2  hD _ _ hw _ (lv_sub hl [6, 0] rfl)
  · replace hD := (if_neg c4).symm.trans hD
    refine lv_iconst (v := (0 : Int32)) C.1 C.2.1 dX10_finedAt_37 (by decide) ?_
    obtain rfl := Option.some.inj hD
    exact x_iret C hw hr hk dX10_finedAt_38
theorem kw_725 : Cond.code yX10_finedAt cX10_finedAt 10 (some .int) ∈ gtbl := gm4 159 rfl rfl
theorem nd_X10_finedAt : (yX10_finedAt).cls ≠ "java/lang/invoke/MethodHandle" ∧ (yX10_finedAt).cls ≠ "java/lang/invoke/VarHandle" ∧ (parseMethodDescriptor (yX10_finedAt).desc).map (fun d => d.parameters.length) = some 4 := by decide +kernel
theorem kw_727 : Cond.instanceMethod yX10_finedAt ∈ gtbl := gm4 158 rfl rfl
theorem kw_728 : Cond.selects RX10 yX10_finedAt yX10_finedAt ∈ gtbl := gm0 26 rfl rfl
theorem cV_X10_finedAt : xcV yX10_finedAt cX10_finedAt 10 (some .int) 4 := ⟨⟨kw_725, kw_490, nd_X10_finedAt⟩, kw_727, kw_728⟩
theorem kw_730 : Cond.methodLink RX10 205 yX10_finedAt ∈ gtbl := gm4 156 rfl rfl
abbrev rm_X10_finesOf : Room := { frames := 4, cells := 0, slots := 0, locals := 99 }
def B_X10_finesOf_15 (x1 : Int32) (x2 : Int32) (k5_ : Int32 → Int32 → XS → Option (Int32 × XS)) (k15_ : Int32 → Int32 → Int32 → XS → Option (Int32 × XS)) (y3 : Int32) (y4 : Int32) (y5 : Int32) (z : XS) : Option (Int32 × XS) :=
  (if (2 : Int32) ≤ y5 then k5_ y3 (y4 + 1) z else (D_X10_hedgeAt x1 y5 z).bind fun q3 => ((D_X10_noHedge q3.1 q3.2).bind fun q4 => ((if q4.1 = 0 then (D_X10_finedAt q3.1 ((1 : Int32) - y5) y4 x2 q4.2).bind fun q6 => (k15_ (y3 + q6.1) y4 (y5 + 1) q6.2) else k15_ (y3 + (0 : Int32)) y4 (y5 + 1) q4.2))))
def L_X10_finesOf_15 (x1 : Int32) (x2 : Int32) (k5_ : Int32 → Int32 → XS → Option (Int32 × XS)) : Nat → Int32 → Int32 → Int32 → XS → Option (Int32 × XS)
  | 0 => fun _ _ _ _ => none
  | n + 1 => B_X10_finesOf_15 x1 x2 k5_ (L_X10_finesOf_15 x1 x2 k5_ n)
set_option maxHeartbeats 4000000 in
set_option maxRecDepth 100000 in
theorem w_X10_finesOf_15 {p : Program} {l : Launch} {e : Env} {s : State} {m : MethodId} {below : List Frame} {meth : Method} {c : Code} {X : XC} {ex : va_W} (x1 : Int32) (x2 : Int32) (C : CallFix p m c cX10_finesOf 7 s (([.ref (X.2.2.1 17 (0)), .int (x1), .int (x2)] : List Value).toArray) gtbl RX10) (hr : meth.sig.returnType = (some .int)) (hk : meth.locks = false) (R0 : Int32 × XS) (k5_ : Int32 → Int32 → XS → Option (Int32 × XS)) (hk5_ : ∀ (y3 : Int32) (y4 : Int32) (z : XS), k5_ y3 y4 z = some R0 → ∀ (H : Heap) (locs : List Loc), xw X ex z s H locs → ∀ (ls : Array Slot), lv_has ls 7 [(0, .ref (X.2.2.1 17 (0))), (1, .int (x1)), (2, .int (x2)), (3, .int (y3)), (4, .int (y4))] → W p l e rm_X10_finesOf s m (([.ref (X.2.2.1 17 (0)), .int (x1), .int (x2)] : List Value).toArray) below meth c H locs 0 0 (MQ below (xQi X ex R0.2 R0.1) (([.ref (X.2.2.1 17 (0)), .int (x1), .int (x2)] : List Value).toArray) s 0 0 (xA X)) (F0 m 5 ls [])) : ∀ (n : Nat), ∀ (y3 : Int32) (y4 : Int32) (y5 : Int32) (z : XS), L_X10_finesOf_15 x1 x2 k5_ n y3 y4 y5 z = some R0 → ∀ (H : Heap) (locs : List Loc), xw X ex z s H locs → ∀ (ls : Array Slot), lv_has ls 7 [(0, .ref (X.2.2.1 17 (0))), (1, .int (x1)), (2, .int (x2)), (3, .int (y3)), (4, .int (y4)), (5, .int (y5))] → W p l e rm_X10_finesOf s m (([.ref (X.2.2.1 17 (0)), .int (x1), .int (x2)] : List Value).toArray) below meth c H locs 0 0 (MQ below (xQi X ex R0.2 R0.1) (([.ref (X.2.2.1 17 (0)), .int (x1), .int (x2)] : List Value).toArray) s 0 0 (xA X)) (F0 m 15 ls []) := by
  intro n
  induction n with
  | zero =>
    intro y3 y4 y5 z  hD
    cases hD
  | succ n ih =>
    intro y3 y4 y5 z  hD H locs hw ls hl
    replace hD : B_X10_finesOf_15 x1 x2 k5_ (L_X10_finesOf_15 x1 x2 k5_ n) y3 y4 y5 z = some R0 := hD
    unfold B_X10_finesOf_15 at hD
    refine lv_iload C.1 C.2.1 dX10_finesOf_15 (lv_at hl 5 rfl) ?_
    refine lv_iconst (v := (2 : Int32)) C.1 C.2.1 dX10_finesOf_17 (by decide) ?_
    refine lv_icmp_ge (tgt := 64) C.1 C.2.1 dX10_finesOf_18 (by decide) (fun c2 => ?_) (fun c2 => ?_)
    · replace hD := (if_pos c2).symm.trans hD
      refine lv_iinc (v := y4 + 1) (lv' := [(4, .int (y4 + 1)), (0, .ref (X.2.2.1 17 (0))), (1, .int (x1)), (2, .int (x2)), (3, .int (y3)), (5, .int (y5))]) C.1 C.2.1 dX10_finesOf_64 hl (k := 4) rfl rfl (by decide) rfl (fun ls hl => ?_)
      refine lv_goto (tgt := 5) C.1 C.2.1 dX10_finesOf_67 (by decide) ?_
      exact hk5_ y3 (y4 + 1) z  hD _ _ hw _ (lv_sub hl [1, 2, 3, 4, 0] rfl)
    · replace hD := (if_neg c2).symm.trans hD
      refine lv_iload_n C.1 C.2.1 dX10_finesOf_21 rfl (lv_at hl 1 rfl) ?_
      refine lv_iload C.1 C.2.1 dX10_finesOf_22 (lv_at hl 5 rfl) ?_
      obtain ⟨q3, hq3, hD⟩ := Option.bind_eq_some_iff.mp hD
      refine x_goi hw (x_runS (As := [.int (x1), .int (y5)]) (rest := []) C hw cS_X10_hedgeAt kw_618 (c_X10_hedgeAt l X ex x1 y5  z q3 hq3) ⟨Nat.le_of_ble_eq_true rfl, Nat.le_of_ble_eq_true rfl⟩ rfl hl.1 rfl (Nat.le_of_ble_eq_true rfl) dX10_finesOf_24 ⟨Nat.le_of_ble_eq_true rfl, Nat.le_of_ble_eq_true rfl⟩) (fun H locs hw => ?_)
      refine lv_istore (lv' := [(6, .int (q3.1)), (0, .ref (X.2.2.1 17 (0))), (1, .int (x1)), (2, .int (x2)), (3, .int (y3)), (4, .int (y4)), (5, .int (y5))]) C.1 C.2.1 dX10_finesOf_27 hl (by decide) rfl (fun ls hl => ?_)
      refine lv_iload_n C.1 C.2.1 dX10_finesOf_29 rfl (lv_at hl 4 rfl) ?_
      refine lv_aload_n C.1 C.2.1 dX10_finesOf_30 rfl (lv_at hl 1 rfl) ?_
      refine lv_iload C.1 C.2.1 dX10_finesOf_31 (lv_at hl 0 rfl) ?_
      obtain ⟨q4, hq4, hD⟩ := Option.bind_eq_some_iff.mp hD
      refine x_goi hw (x_runV (As := [.int (q3.1)]) (rest := [.int (y3)]) (k := 17) (j := 0) C hw (Nat.le_of_ble_eq_true rfl) rfl rfl cV_X10_noHedge kw_602 (c_X10_noHedge l X ex q3.1  q3.2 q4 hq4) ⟨Nat.le_of_ble_eq_true rfl, Nat.le_of_ble_eq_true rfl⟩ rfl hl.1 rfl (Nat.le_of_ble_eq_true rfl) dX10_finesOf_33 ⟨Nat.le_of_ble_eq_true rfl, Nat.le_of_ble_eq_true rfl⟩) (fun H locs hw => ?_)
      refine lv_if_eq (tgt := 43) C.1 C.2.1 dX10_finesOf_36 (by decide) (fun c5 => ?_) (fun c5 => ?_)
      · replace hD := (if_pos c5).symm.trans hD
        refine lv_aload_n C.1 C.2.1 dX10_finesOf_43 rfl (lv_at hl 1 rfl) ?_
        refine lv_iload C.1 C.2.1 dX10_finesOf_44 (lv_at hl 0 rfl) ?_
        refine lv_iconst (v := (1 : Int32)) C.1 C.2.1 dX10_finesOf_46 (by decide) ?_
        refine lv_iload C.1 C.2.1 dX10_finesOf_47 (lv_at hl 6 rfl) ?_
        refine lv_isub C.1 C.2.1 dX10_finesOf_49 ?_
        refine lv_iload C.1 C.2.1 dX10_finesOf_50 (lv_at hl 5 rfl) ?_
        refine lv_iload_n C.1 C.2.1 dX10_finesOf_52 rfl (lv_at hl 3 rfl) ?_
        obtain ⟨q6, hq6, hD⟩ := Option.bind_eq_some_iff.mp hD
        refine x_goi hw (x_runV (As := [.int (q3.1), .int ((1 : Int32) - y5), .int (y4), .int (x2)]) (rest := [.int (y3)]) (k := 17) (j := 0) C hw (Nat.le_of_ble_eq_true rfl) rfl rfl cV_X10_finedAt kw_730 (c_X10_finedAt l X ex q3.1 ((1 : Int32) - y5) y4 x2  q4.2 q6 hq6) ⟨Nat.le_of_ble_eq_true rfl, Nat.le_of_ble_eq_true rfl⟩ rfl hl.1 rfl (Nat.le_of_ble_eq_true rfl) dX10_finesOf_53 ⟨Nat.le_of_ble_eq_true rfl, Nat.le_of_ble_eq_true rfl⟩) (fun H locs hw => ?_)
        refine lv_iadd C.1 C.2.1 dX10_finesOf_56 ?_
        refine lv_istore_n (lv' := [(3, .int (y3 + q6.1)), (6, .int (q3.1)), (0, .ref (X.2.2.1 17 (0))), (1, .int (x1)), (2, .int (x2)), (4, .int (y4)), (5, .int (y5))]) C.1 C.2.1 dX10_finesOf_57 rfl hl (by decide) rfl (fun ls hl => ?_)
        refine lv_iinc (v := y5 + 1) (lv' := [(5, .int (y5 + 1)), (3, .int (y3 + q6.1)), (6, .int (q3.1)), (0, .ref (X.2.2.1 17 (0))), (1, .int (x1)), (2, .int (x2)), (4, .int (y4))]) C.1 C.2.1 dX10_finesOf_58 hl (k := 6) rfl rfl (by decide) rfl (fun ls hl => ?_)
        refine lv_goto (tgt := 15) C.1 C.2.1 dX10_finesOf_61 (by decide) ?_
        exact ih (y3 + q6.1) y4 (y5 + 1) q6.2  hD _ _ hw _ (lv_sub hl [3, 4, 5, 1, 6, 0] rfl)
      · replace hD := (if_neg c5).symm.trans hD
        refine lv_iconst (v := (0 : Int32)) C.1 C.2.1 dX10_finesOf_39 (by decide) ?_
        refine lv_goto (tgt := 56) C.1 C.2.1 dX10_finesOf_40 (by decide) ?_
        refine lv_iadd C.1 C.2.1 dX10_finesOf_56 ?_
        refine lv_istore_n (lv' := [(3, .int (y3 + (0 : Int32))), (6, .int (q3.1)), (0, .ref (X.2.2.1 17 (0))), (1, .int (x1)), (2, .int (x2)), (4, .int (y4)), (5, .int (y5))]) C.1 C.2.1 dX10_finesOf_57 rfl hl (by decide) rfl (fun ls hl => ?_)
        refine lv_iinc (v := y5 + 1) (lv' := [(5, .int (y5 + 1)), (3, .int (y3 + (0 : Int32))), (6, .int (q3.1)), (0, .ref (X.2.2.1 17 (0))), (1, .int (x1)), (2, .int (x2)), (4, .int (y4))]) C.1 C.2.1 dX10_finesOf_58 hl (k := 6) rfl rfl (by decide) rfl (fun ls hl => ?_)
        refine lv_goto (tgt := 15) C.1 C.2.1 dX10_finesOf_61 (by decide) ?_
        exact ih (y3 + (0 : Int32)) y4 (y5 + 1) q4.2  hD _ _ hw _ (lv_sub hl [3, 4, 5, 1, 6, 0] rfl)
def B_X10_finesOf_5 (x1 : Int32) (x2 : Int32) (k5_ : Int32 → Int32 → XS → Option (Int32 × XS)) (y3 : Int32) (y4 : Int32) (z : XS) : Option (Int32 × XS) :=
  (if (30 : Int32) < y4 then some (y3, z) else L_X10_finesOf_15 x1 x2 k5_ 64 y3 y4 (0 : Int32) z)
def L_X10_finesOf_5 (x1 : Int32) (x2 : Int32) : Nat → Int32 → Int32 → XS → Option (Int32 × XS)
  | 0 => fun _ _ _ => none
  | n + 1 => B_X10_finesOf_5 x1 x2  (L_X10_finesOf_5 x1 x2  n)
set_option maxHeartbeats 4000000 in
set_option maxRecDepth 100000 in
theorem w_X10_finesOf_5 {p : Program} {l : Launch} {e : Env} {s : State} {m : MethodId} {below : List Frame} {meth : Method} {c : Code} {X : XC} {ex : va_W} (x1 : Int32) (x2 : Int32) (C : CallFix p m c cX10_finesOf 7 s (([.ref (X.2.2.1 17 (0)), .int (x1), .int (x2)] : List Value).toArray) gtbl RX10) (hr : meth.sig.returnType = (some .int)) (hk : meth.locks = false) (R0 : Int32 × XS)  : ∀ (n : Nat), ∀ (y3 : Int32) (y4 : Int32) (z : XS), L_X10_finesOf_5 x1 x2  n y3 y4 z = some R0 → ∀ (H : Heap) (locs : List Loc), xw X ex z s H locs → ∀ (ls : Array Slot), lv_has ls 7 [(0, .ref (X.2.2.1 17 (0))), (1, .int (x1)), (2, .int (x2)), (3, .int (y3)), (4, .int (y4))] → W p l e rm_X10_finesOf s m (([.ref (X.2.2.1 17 (0)), .int (x1), .int (x2)] : List Value).toArray) below meth c H locs 0 0 (MQ below (xQi X ex R0.2 R0.1) (([.ref (X.2.2.1 17 (0)), .int (x1), .int (x2)] : List Value).toArray) s 0 0 (xA X)) (F0 m 5 ls []) := by
  intro n
  induction n with
  | zero =>
    intro y3 y4 z  hD
    cases hD
  | succ n ih =>
    intro y3 y4 z  hD H locs hw ls hl
    replace hD : B_X10_finesOf_5 x1 x2  (L_X10_finesOf_5 x1 x2  n) y3 y4 z = some R0 := hD
    unfold B_X10_finesOf_5 at hD
    refine lv_iload C.1 C.2.1 dX10_finesOf_5 (lv_at hl 4 rfl) ?_
    refine lv_bipush (v := (30 : Int32)) C.1 C.2.1 dX10_finesOf_7 (by decide) ?_
    refine lv_icmp_gt (tgt := 70) C.1 C.2.1 dX10_finesOf_9 (by decide) (fun c1 => ?_) (fun c1 => ?_)
    · replace hD := (if_pos c1).symm.trans hD
      refine lv_iload_n C.1 C.2.1 dX10_finesOf_70 rfl (lv_at hl 3 rfl) ?_
      obtain rfl := Option.some.inj hD
      exact x_iret C hw hr hk dX10_finesOf_71
    · replace hD := (if_neg c1).symm.trans hD
      refine lv_iconst (v := (0 : Int32)) C.1 C.2.1 dX10_finesOf_12 (by decide) ?_
      refine lv_istore (lv' := [(5, .int ((0 : Int32))), (0, .ref (X.2.2.1 17 (0))), (1, .int (x1)), (2, .int (x2)), (3, .int (y3)), (4, .int (y4))]) C.1 C.2.1 dX10_finesOf_13 hl (by decide) rfl (fun ls hl => ?_)
      exact w_X10_finesOf_15 x1 x2  C hr hk R0 (L_X10_finesOf_5 x1 x2  n) ih 64 y3 y4 (0 : Int32) z  hD _ _ hw _ (lv_sub hl [1, 2, 3, 4, 5, 0] rfl)
def D_X10_finesOf (x1 : Int32) (x2 : Int32) (z : XS) : Option (Int32 × XS) :=
  L_X10_finesOf_5 x1 x2  64 (0 : Int32) (1 : Int32) z
set_option maxHeartbeats 4000000 in
set_option maxRecDepth 100000 in
theorem c_X10_finesOf (l : Launch) (X : XC) (ex : va_W) (x1 : Int32) (x2 : Int32) (z : XS) (R0 : Int32 × XS) (hD : D_X10_finesOf x1 x2 z = some R0) : xM l X ex yX10_finesOf cX10_finesOf 7 (some .int) rm_X10_finesOf [.ref (X.2.2.1 17 (0)), .int (x1), .int (x2)] z (xQi X ex R0.2 R0.1) := by
  refine x_ent (by decide) (Nat.le_of_ble_eq_true rfl) ?_
  intro p e s m below meth c ls C hr hk hw hl
  replace hl : lv_has ls 7 [(0, .ref (X.2.2.1 17 (0))), (1, .int (x1)), (2, .int (x2))] := hl
  unfold D_X10_finesOf at hD
  refine lv_iconst (v := (0 : Int32)) C.1 C.2.1 dX10_finesOf_0 (by decide) ?_
  refine lv_istore_n (lv' := [(3, .int ((0 : Int32))), (0, .ref (X.2.2.1 17 (0))), (1, .int (x1)), (2, .int (x2))]) C.1 C.2.1 dX10_finesOf_1 rfl hl (by decide) rfl (fun ls hl => ?_)
  refine lv_iconst (v := (1 : Int32)) C.1 C.2.1 dX10_finesOf_2 (by decide) ?_
  refine lv_istore (lv' := [(4, .int ((1 : Int32))), (3, .int ((0 : Int32))), (0, .ref (X.2.2.1 17 (0))), (1, .int (x1)), (2, .int (x2))]) C.1 C.2.1 dX10_finesOf_3 hl (by decide) rfl (fun ls hl => ?_)
  exact w_X10_finesOf_5 x1 x2  C hr hk R0   64 (0 : Int32) (1 : Int32) z  hD _ _ hw _ (lv_sub hl [2, 3, 4, 1, 0] rfl)
theorem kw_731 : Cond.code yX10_finesOf cX10_finesOf 7 (some .int) ∈ gtbl := gm4 155 rfl rfl
theorem nd_X10_finesOf : (yX10_finesOf).cls ≠ "java/lang/invoke/MethodHandle" ∧ (yX10_finesOf).cls ≠ "java/lang/invoke/VarHandle" ∧ (parseMethodDescriptor (yX10_finesOf).desc).map (fun d => d.parameters.length) = some 2 := by decide +kernel
theorem kw_733 : Cond.instanceMethod yX10_finesOf ∈ gtbl := gm4 154 rfl rfl
theorem kw_734 : Cond.selects RX10 yX10_finesOf yX10_finesOf ∈ gtbl := gm0 25 rfl rfl
theorem cV_X10_finesOf : xcV yX10_finesOf cX10_finesOf 7 (some .int) 2 := ⟨⟨kw_731, kw_490, nd_X10_finesOf⟩, kw_733, kw_734⟩
theorem kw_736 : Cond.methodLink RX10 208 yX10_finesOf ∈ gtbl := gm4 152 rfl rfl
abbrev rm_X10_fines : Room := { frames := 5, cells := 0, slots := 0, locals := 125 }
def B_X10_fines_41 (x1 : Int32) (x2 : Int32) (k41_ : Int32 → Int32 → XS → Option (Int32 × XS)) (y3 : Int32) (y4 : Int32) (z : XS) : Option (Int32 × XS) :=
  (if gS z 17 1 0 ≤ y4 then some (y3, z) else (D_X10_finesOf y4 x2 z).bind fun q6 => (k41_ (y3 + q6.1) (y4 + 1) q6.2))
def L_X10_fines_41 (x1 : Int32) (x2 : Int32) : Nat → Int32 → Int32 → XS → Option (Int32 × XS)
  | 0 => fun _ _ _ => none
  | n + 1 => B_X10_fines_41 x1 x2  (L_X10_fines_41 x1 x2  n)
set_option maxHeartbeats 4000000 in
set_option maxRecDepth 100000 in
theorem w_X10_fines_41 {p : Program} {l : Launch} {e : Env} {s : State} {m : MethodId} {below : List Frame} {meth : Method} {c : Code} {X : XC} {ex : va_W} (x1 : Int32) (x2 : Int32) (C : CallFix p m c cX10_fines 5 s (([.ref (X.2.2.1 17 (0)), .int (x1), .int (x2)] : List Value).toArray) gtbl RX10) (hr : meth.sig.returnType = (some .int)) (hk : meth.locks = false) (R0 : Int32 × XS)  : ∀ (n : Nat), ∀ (y3 : Int32) (y4 : Int32) (z : XS), L_X10_fines_41 x1 x2  n y3 y4 z = some R0 → ∀ (H : Heap) (locs : List Loc), xw X ex z s H locs → ∀ (ls : Array Slot), lv_has ls 5 [(0, .ref (X.2.2.1 17 (0))), (2, .int (x2)), (3, .int (y3)), (4, .int (y4))] → W p l e rm_X10_fines s m (([.ref (X.2.2.1 17 (0)), .int (x1), .int (x2)] : List Value).toArray) below meth c H locs 0 0 (MQ below (xQi X ex R0.2 R0.1) (([.ref (X.2.2.1 17 (0)), .int (x1), .int (x2)] : List Value).toArray) s 0 0 (xA X)) (F0 m 41 ls []) := by
  intro n
  induction n with
  | zero =>
    intro y3 y4 z  hD
    cases hD
  | succ n ih =>
    intro y3 y4 z  hD H locs hw ls hl
    replace hD : B_X10_fines_41 x1 x2  (L_X10_fines_41 x1 x2  n) y3 y4 z = some R0 := hD
    unfold B_X10_fines_41 at hD
    refine lv_iload C.1 C.2.1 dX10_fines_41 (lv_at hl 3 rfl) ?_
    refine lv_aload_n C.1 C.2.1 dX10_fines_43 rfl (lv_at hl 0 rfl) ?_
    refine gf_X10_1 C hw kw_495 dX10_fines_44 ?_
    refine lv_icmp_ge (tgt := 66) C.1 C.2.1 dX10_fines_47 (by decide) (fun c5 => ?_) (fun c5 => ?_)
    · replace hD := (if_pos c5).symm.trans hD
      refine lv_iload_n C.1 C.2.1 dX10_fines_66 rfl (lv_at hl 2 rfl) ?_
      obtain rfl := Option.some.inj hD
      exact x_iret C hw hr hk dX10_fines_67
    · replace hD := (if_neg c5).symm.trans hD
      refine lv_iload_n C.1 C.2.1 dX10_fines_50 rfl (lv_at hl 2 rfl) ?_
      refine lv_aload_n C.1 C.2.1 dX10_fines_51 rfl (lv_at hl 0 rfl) ?_
      refine lv_iload C.1 C.2.1 dX10_fines_52 (lv_at hl 3 rfl) ?_
      refine lv_iload_n C.1 C.2.1 dX10_fines_54 rfl (lv_at hl 1 rfl) ?_
      obtain ⟨q6, hq6, hD⟩ := Option.bind_eq_some_iff.mp hD
      refine x_goi hw (x_runV (As := [.int (y4), .int (x2)]) (rest := [.int (y3)]) (k := 17) (j := 0) C hw (Nat.le_of_ble_eq_true rfl) rfl rfl cV_X10_finesOf kw_736 (c_X10_finesOf l X ex y4 x2  z q6 hq6) ⟨Nat.le_of_ble_eq_true rfl, Nat.le_of_ble_eq_true rfl⟩ rfl hl.1 rfl (Nat.le_of_ble_eq_true rfl) dX10_fines_55 ⟨Nat.le_of_ble_eq_true rfl, Nat.le_of_ble_eq_true rfl⟩) (fun H locs hw => ?_)
      refine lv_iadd C.1 C.2.1 dX10_fines_58 ?_
      refine lv_istore_n (lv' := [(3, .int (y3 + q6.1)), (0, .ref (X.2.2.1 17 (0))), (2, .int (x2)), (4, .int (y4))]) C.1 C.2.1 dX10_fines_59 rfl hl (by decide) rfl (fun ls hl => ?_)
      refine lv_iinc (v := y4 + 1) (lv' := [(4, .int (y4 + 1)), (3, .int (y3 + q6.1)), (0, .ref (X.2.2.1 17 (0))), (2, .int (x2))]) C.1 C.2.1 dX10_fines_60 hl (k := 3) rfl rfl (by decide) rfl (fun ls hl => ?_)
      refine lv_goto (tgt := 41) C.1 C.2.1 dX10_fines_63 (by decide) ?_
      exact ih (y3 + q6.1) (y4 + 1) q6.2  hD _ _ hw _ (lv_sub hl [2, 3, 1, 0] rfl)
def J_X10_fines_15 (x1 : Int32) (x2 : Int32)  (z : XS) : Option (Int32 × XS) :=
  (D_X10_isFeet x2 z).bind fun q2 => ((if q2.1 = 0 then some ((-2 : Int32), q2.2) else (if x1 < 0 then L_X10_fines_41 x1 x2  64 (0 : Int32) (0 : Int32) q2.2 else (D_X10_finesOf x1 x2 q2.2).bind fun q7 => (some (q7.1, q7.2)))))
set_option maxHeartbeats 4000000 in
set_option maxRecDepth 100000 in
theorem w_X10_fines_15 {p : Program} {l : Launch} {e : Env} {s : State} {m : MethodId} {below : List Frame} {meth : Method} {c : Code} {X : XC} {ex : va_W} (x1 : Int32) (x2 : Int32) (C : CallFix p m c cX10_fines 5 s (([.ref (X.2.2.1 17 (0)), .int (x1), .int (x2)] : List Value).toArray) gtbl RX10) (hr : meth.sig.returnType = (some .int)) (hk : meth.locks = false) (R0 : Int32 × XS)  : ∀  (z : XS), J_X10_fines_15 x1 x2   z = some R0 → ∀ (H : Heap) (locs : List Loc), xw X ex z s H locs → ∀ (ls : Array Slot), lv_has ls 5 [(0, .ref (X.2.2.1 17 (0))), (1, .int (x1)), (2, .int (x2))] → W p l e rm_X10_fines s m (([.ref (X.2.2.1 17 (0)), .int (x1), .int (x2)] : List Value).toArray) below meth c H locs 0 0 (MQ below (xQi X ex R0.2 R0.1) (([.ref (X.2.2.1 17 (0)), .int (x1), .int (x2)] : List Value).toArray) s 0 0 (xA X)) (F0 m 15 ls []) := by
  intro  z  hD H locs hw ls hl
  unfold J_X10_fines_15 at hD
  refine lv_iload_n C.1 C.2.1 dX10_fines_15 rfl (lv_at hl 2 rfl) ?_
  obtain ⟨q2, hq2, hD⟩ := Option.bind_eq_some_iff.mp hD
  refine x_goi hw (x_runS (As := [.int (x2)]) (rest := []) C hw cS_X10_isFeet kw_628 (c_X10_isFeet l X ex x2  z q2 hq2) ⟨Nat.le_of_ble_eq_true rfl, Nat.le_of_ble_eq_true rfl⟩ rfl hl.1 rfl (Nat.le_of_ble_eq_true rfl) dX10_fines_16 ⟨Nat.le_of_ble_eq_true rfl, Nat.le_of_ble_eq_true rfl⟩) (fun H locs hw => ?_)
  refine lv_if_ne (tgt := 25) C.1 C.2.1 dX10_fines_19 (by decide) (fun c3 => ?_) (fun c3 => ?_)
  · replace hD := (if_neg c3).symm.trans hD
    refine lv_iload_n C.1 C.2.1 dX10_fines_25 rfl (lv_at hl 1 rfl) ?_
    refine lv_if_lt (tgt := 36) C.1 C.2.1 dX10_fines_26 (by decide) (fun c4 => ?_) (fun c4 => ?_)
    · replace hD := (if_pos c4).symm.trans hD
      refine lv_iconst (v := (0 : Int32)) C.1 C.2.1 dX10_fines_36 (by decide) ?_
      refine lv_istore_n (lv' := [(3, .int ((0 : Int32))), (0, .ref (X.2.2.1 17 (0))), (1, .int (x1)), (2, .int (x2))]) C.1 C.2.1 dX10_fines_37 rfl hl (by decide) rfl (fun ls hl => ?_)
      refine lv_iconst (v := (0 : Int32)) C.1 C.2.1 dX10_fines_38 (by decide) ?_
      refine lv_istore (lv' := [(4, .int ((0 : Int32))), (3, .int ((0 : Int32))), (0, .ref (X.2.2.1 17 (0))), (1, .int (x1)), (2, .int (x2))]) C.1 C.2.1 dX10_fines_39 hl (by decide) rfl (fun ls hl => ?_)
      exact w_X10_fines_41 x1 x2  C hr hk R0   64 (0 : Int32) (0 : Int32) q2.2  hD _ _ hw _ (lv_sub hl [2, 4, 1, 0] rfl)
    · replace hD := (if_neg c4).symm.trans hD
      refine lv_aload_n C.1 C.2.1 dX10_fines_29 rfl (lv_at hl 0 rfl) ?_
      refine lv_iload_n C.1 C.2.1 dX10_fines_30 rfl (lv_at hl 1 rfl) ?_
      refine lv_iload_n C.1 C.2.1 dX10_fines_31 rfl (lv_at hl 2 rfl) ?_
      obtain ⟨q7, hq7, hD⟩ := Option.bind_eq_some_iff.mp hD
      refine x_goi hw (x_runV (As := [.int (x1), .int (x2)]) (rest := []) (k := 17) (j := 0) C hw (Nat.le_of_ble_eq_true rfl) rfl rfl cV_X10_finesOf kw_736 (c_X10_finesOf l X ex x1 x2  q2.2 q7 hq7) ⟨Nat.le_of_ble_eq_true rfl, Nat.le_of_ble_eq_true rfl⟩ rfl hl.1 rfl (Nat.le_of_ble_eq_true rfl) dX10_fines_32 ⟨Nat.le_of_ble_eq_true rfl, Nat.le_of_ble_eq_true rfl⟩) (fun H locs hw => ?_)
      obtain rfl := Option.some.inj hD
      exact x_iret C hw hr hk dX10_fines_35
  · replace hD := (if_pos c3).symm.trans hD
    refine lv_bipush (v := (-2 : Int32)) C.1 C.2.1 dX10_fines_22 (by decide) ?_
    obtain rfl := Option.some.inj hD
    exact x_iret C hw hr hk dX10_fines_24
def D_X10_fines (x1 : Int32) (x2 : Int32) (z : XS) : Option (Int32 × XS) :=
  (if x1 = (-1 : Int32) then J_X10_fines_15 x1 x2   z else (D_X10_noGarden x1 z).bind fun q8 => ((if q8.1 = 0 then J_X10_fines_15 x1 x2   q8.2 else some ((-1 : Int32), q8.2))))
set_option maxHeartbeats 4000000 in
set_option maxRecDepth 100000 in
theorem c_X10_fines (l : Launch) (X : XC) (ex : va_W) (x1 : Int32) (x2 : Int32) (z : XS) (R0 : Int32 × XS) (hD : D_X10_fines x1 x2 z = some R0) : xM l X ex yX10_fines cX10_fines 5 (some .int) rm_X10_fines [.ref (X.2.2.1 17 (0)), .int (x1), .int (x2)] z (xQi X ex R0.2 R0.1) := by
  refine x_ent (by decide) (Nat.le_of_ble_eq_true rfl) ?_
  intro p e s m below meth c ls C hr hk hw hl
  replace hl : lv_has ls 5 [(0, .ref (X.2.2.1 17 (0))), (1, .int (x1)), (2, .int (x2))] := hl
  unfold D_X10_fines at hD
  refine lv_iload_n C.1 C.2.1 dX10_fines_0 rfl (lv_at hl 1 rfl) ?_
  refine lv_iconst (v := (-1 : Int32)) C.1 C.2.1 dX10_fines_1 (by decide) ?_
  refine lv_icmp_eq (tgt := 15) C.1 C.2.1 dX10_fines_2 (by decide) (fun c1 => ?_) (fun c1 => ?_)
  · replace hD := (if_pos c1).symm.trans hD
    exact w_X10_fines_15 x1 x2  C hr hk R0    z  hD _ _ hw _ (lv_sub hl [0, 1, 2] rfl)
  · replace hD := (if_neg c1).symm.trans hD
    refine lv_aload_n C.1 C.2.1 dX10_fines_5 rfl (lv_at hl 0 rfl) ?_
    refine lv_iload_n C.1 C.2.1 dX10_fines_6 rfl (lv_at hl 1 rfl) ?_
    obtain ⟨q8, hq8, hD⟩ := Option.bind_eq_some_iff.mp hD
    refine x_goi hw (x_runV (As := [.int (x1)]) (rest := []) (k := 17) (j := 0) C hw (Nat.le_of_ble_eq_true rfl) rfl rfl cV_X10_noGarden kw_596 (c_X10_noGarden l X ex x1  z q8 hq8) ⟨Nat.le_of_ble_eq_true rfl, Nat.le_of_ble_eq_true rfl⟩ rfl hl.1 rfl (Nat.le_of_ble_eq_true rfl) dX10_fines_7 ⟨Nat.le_of_ble_eq_true rfl, Nat.le_of_ble_eq_true rfl⟩) (fun H locs hw => ?_)
    refine lv_if_eq (tgt := 15) C.1 C.2.1 dX10_fines_10 (by decide) (fun c9 => ?_) (fun c9 => ?_)
    · replace hD := (if_pos c9).symm.trans hD
      exact w_X10_fines_15 x1 x2  C hr hk R0    q8.2  hD _ _ hw _ (lv_sub hl [0, 1, 2] rfl)
    · replace hD := (if_neg c9).symm.trans hD
      refine lv_iconst (v := (-1 : Int32)) C.1 C.2.1 dX10_fines_13 (by decide) ?_
      obtain rfl := Option.some.inj hD
      exact x_iret C hw hr hk dX10_fines_14
theorem kw_737 : Cond.code yX10_told cX10_told 11 (some .long) ∈ gtbl := gm4 170 rfl rfl
theorem nd_X10_told : (yX10_told).cls ≠ "java/lang/invoke/MethodHandle" ∧ (yX10_told).cls ≠ "java/lang/invoke/VarHandle" ∧ (parseMethodDescriptor (yX10_told).desc).map (fun d => d.parameters.length) = some 3 := by decide +kernel
theorem kw_739 : Cond.static yX10_told ∈ gtbl := gm4 169 rfl rfl
theorem cS_X10_told : xcS yX10_told cX10_told 11 (some .long) 3 := ⟨⟨kw_737, kw_490, nd_X10_told⟩, kw_739⟩
theorem kw_741 : Cond.methodLink RX10 211 yX10_told ∈ gtbl := gm4 168 rfl rfl
abbrev rm_X10_mean : Room := { frames := 4, cells := 0, slots := 0, locals := 92 }
def B_X10_mean_33 (x1 : Int32) (x2 : Int32) (k33_ : Int32 → Int32 → XS → Option (Int64 × XS)) (y3 : Int32) (y4 : Int32) (z : XS) : Option (Int64 × XS) :=
  (D_X10_hedges  z).bind fun q8 => ((if q8.1 ≤ y4 then (D_X10_hedges  q8.2).bind fun q10 => ((D_X10_told y3.toInt64 q10.1.toInt64 x2 q10.2).bind fun q11 => (some (q11.1, q11.2))) else (D_X10_heightAt y4 x1 q8.2).bind fun q12 => (k33_ (y3 + q12.1) (y4 + 1) q12.2)))
def L_X10_mean_33 (x1 : Int32) (x2 : Int32) : Nat → Int32 → Int32 → XS → Option (Int64 × XS)
  | 0 => fun _ _ _ => none
  | n + 1 => B_X10_mean_33 x1 x2  (L_X10_mean_33 x1 x2  n)
set_option maxHeartbeats 4000000 in
set_option maxRecDepth 100000 in
theorem w_X10_mean_33 {p : Program} {l : Launch} {e : Env} {s : State} {m : MethodId} {below : List Frame} {meth : Method} {c : Code} {X : XC} {ex : va_W} (x1 : Int32) (x2 : Int32) (C : CallFix p m c cX10_mean 5 s (([.ref (X.2.2.1 17 (0)), .int (x1), .int (x2)] : List Value).toArray) gtbl RX10) (hr : meth.sig.returnType = (some .long)) (hk : meth.locks = false) (R0 : Int64 × XS)  : ∀ (n : Nat), ∀ (y3 : Int32) (y4 : Int32) (z : XS), L_X10_mean_33 x1 x2  n y3 y4 z = some R0 → ∀ (H : Heap) (locs : List Loc), xw X ex z s H locs → ∀ (ls : Array Slot), lv_has ls 5 [(0, .ref (X.2.2.1 17 (0))), (1, .int (x1)), (2, .int (x2)), (3, .int (y3)), (4, .int (y4))] → W p l e rm_X10_mean s m (([.ref (X.2.2.1 17 (0)), .int (x1), .int (x2)] : List Value).toArray) below meth c H locs 0 0 (MQ below (xQl X ex R0.2 R0.1) (([.ref (X.2.2.1 17 (0)), .int (x1), .int (x2)] : List Value).toArray) s 0 0 (xA X)) (F0 m 33 ls []) := by
  intro n
  induction n with
  | zero =>
    intro y3 y4 z  hD
    cases hD
  | succ n ih =>
    intro y3 y4 z  hD H locs hw ls hl
    replace hD : B_X10_mean_33 x1 x2  (L_X10_mean_33 x1 x2  n) y3 y4 z = some R0 := hD
    unfold B_X10_mean_33 at hD
    refine lv_iload C.1 C.2.1 dX10_mean_33 (lv_at hl 4 rfl) ?_
    refine lv_aload_n C.1 C.2.1 dX10_mean_35 rfl (lv_at hl 0 rfl) ?_
    obtain ⟨q8, hq8, hD⟩ := Option.bind_eq_some_iff.mp hD
    refine x_goi hw (x_runV (As := []) (rest := [.int (y4)]) (k := 17) (j := 0) C hw (Nat.le_of_ble_eq_true rfl) rfl rfl cV_X10_hedges kw_507 (c_X10_hedges l X ex   z q8 hq8) ⟨Nat.le_of_ble_eq_true rfl, Nat.le_of_ble_eq_true rfl⟩ rfl hl.1 rfl (Nat.le_of_ble_eq_true rfl) dX10_mean_36 ⟨Nat.le_of_ble_eq_true rfl, Nat.le_of_ble_eq_true rfl⟩) (fun H locs hw => ?_)
    refine lv_icmp_ge (tgt := 58) C.1 C.2.1 dX10_mean_39 (by decide) (fun c9 => ?_) (fun c9 => ?_)
    · replace hD := (if_pos c9).symm.trans hD
      refine lv_iload_n C.1 C.2.1 dX10_mean_58 rfl (lv_at hl 3 rfl) ?_
      refine lv_i2l C.1 C.2.1 dX10_mean_59 rfl ?_
      refine lv_aload_n C.1 C.2.1 dX10_mean_60 rfl (lv_at hl 0 rfl) ?_
      obtain ⟨q10, hq10, hD⟩ := Option.bind_eq_some_iff.mp hD
      refine x_goi hw (x_runV (As := []) (rest := [.long (y3.toInt64)]) (k := 17) (j := 0) C hw (Nat.le_of_ble_eq_true rfl) rfl rfl cV_X10_hedges kw_507 (c_X10_hedges l X ex   q8.2 q10 hq10) ⟨Nat.le_of_ble_eq_true rfl, Nat.le_of_ble_eq_true rfl⟩ rfl hl.1 rfl (Nat.le_of_ble_eq_true rfl) dX10_mean_61 ⟨Nat.le_of_ble_eq_true rfl, Nat.le_of_ble_eq_true rfl⟩) (fun H locs hw => ?_)
      refine lv_i2l C.1 C.2.1 dX10_mean_64 rfl ?_
      refine lv_iload_n C.1 C.2.1 dX10_mean_65 rfl (lv_at hl 2 rfl) ?_
      obtain ⟨q11, hq11, hD⟩ := Option.bind_eq_some_iff.mp hD
      refine x_gol hw (x_runS (As := [.long (y3.toInt64), .long (q10.1.toInt64), .int (x2)]) (rest := []) C hw cS_X10_told kw_741 (c_X10_told l X ex y3.toInt64 q10.1.toInt64 x2  q10.2 q11 hq11) ⟨Nat.le_of_ble_eq_true rfl, Nat.le_of_ble_eq_true rfl⟩ rfl hl.1 rfl (Nat.le_of_ble_eq_true rfl) dX10_mean_66 ⟨Nat.le_of_ble_eq_true rfl, Nat.le_of_ble_eq_true rfl⟩) (fun H locs hw => ?_)
      obtain rfl := Option.some.inj hD
      exact x_lret C hw hr hk dX10_mean_69
    · replace hD := (if_neg c9).symm.trans hD
      refine lv_iload_n C.1 C.2.1 dX10_mean_42 rfl (lv_at hl 3 rfl) ?_
      refine lv_aload_n C.1 C.2.1 dX10_mean_43 rfl (lv_at hl 0 rfl) ?_
      refine lv_iload C.1 C.2.1 dX10_mean_44 (lv_at hl 4 rfl) ?_
      refine lv_iload_n C.1 C.2.1 dX10_mean_46 rfl (lv_at hl 1 rfl) ?_
      obtain ⟨q12, hq12, hD⟩ := Option.bind_eq_some_iff.mp hD
      refine x_goi hw (x_runV (As := [.int (y4), .int (x1)]) (rest := [.int (y3)]) (k := 17) (j := 0) C hw (Nat.le_of_ble_eq_true rfl) rfl rfl cV_X10_heightAt kw_665 (c_X10_heightAt l X ex y4 x1  q8.2 q12 hq12) ⟨Nat.le_of_ble_eq_true rfl, Nat.le_of_ble_eq_true rfl⟩ rfl hl.1 rfl (Nat.le_of_ble_eq_true rfl) dX10_mean_47 ⟨Nat.le_of_ble_eq_true rfl, Nat.le_of_ble_eq_true rfl⟩) (fun H locs hw => ?_)
      refine lv_iadd C.1 C.2.1 dX10_mean_50 ?_
      refine lv_istore_n (lv' := [(3, .int (y3 + q12.1)), (0, .ref (X.2.2.1 17 (0))), (1, .int (x1)), (2, .int (x2)), (4, .int (y4))]) C.1 C.2.1 dX10_mean_51 rfl hl (by decide) rfl (fun ls hl => ?_)
      refine lv_iinc (v := y4 + 1) (lv' := [(4, .int (y4 + 1)), (3, .int (y3 + q12.1)), (0, .ref (X.2.2.1 17 (0))), (1, .int (x1)), (2, .int (x2))]) C.1 C.2.1 dX10_mean_52 hl (k := 4) rfl rfl (by decide) rfl (fun ls hl => ?_)
      refine lv_goto (tgt := 33) C.1 C.2.1 dX10_mean_55 (by decide) ?_
      exact ih (y3 + q12.1) (y4 + 1) q12.2  hD _ _ hw _ (lv_sub hl [2, 3, 4, 1, 0] rfl)
def D_X10_mean (x1 : Int32) (x2 : Int32) (z : XS) : Option (Int64 × XS) :=
  (D_X10_isDawn x1 z).bind fun q1 => ((if q1.1 = 0 then (D_X10_lost  q1.2).bind fun q3 => (some (q3.1, q3.2)) else (D_X10_in x2.toInt64 (0 : Int64) (1 : Int64) q1.2).bind fun q4 => ((if q4.1 = 0 then (D_X10_lost  q4.2).bind fun q6 => (some (q6.1, q6.2)) else (if gS q4.2 17 1 0 = 0 then (D_X10_lost  q4.2).bind fun q13 => (some (q13.1, q13.2)) else L_X10_mean_33 x1 x2  64 (0 : Int32) (0 : Int32) q4.2)))))
set_option maxHeartbeats 4000000 in
set_option maxRecDepth 100000 in
theorem c_X10_mean (l : Launch) (X : XC) (ex : va_W) (x1 : Int32) (x2 : Int32) (z : XS) (R0 : Int64 × XS) (hD : D_X10_mean x1 x2 z = some R0) : xM l X ex yX10_mean cX10_mean 5 (some .long) rm_X10_mean [.ref (X.2.2.1 17 (0)), .int (x1), .int (x2)] z (xQl X ex R0.2 R0.1) := by
  refine x_ent (by decide) (Nat.le_of_ble_eq_true rfl) ?_
  intro p e s m below meth c ls C hr hk hw hl
  replace hl : lv_has ls 5 [(0, .ref (X.2.2.1 17 (0))), (1, .int (x1)), (2, .int (x2))] := hl
  unfold D_X10_mean at hD
  refine lv_iload_n C.1 C.2.1 dX10_mean_0 rfl (lv_at hl 1 rfl) ?_
  obtain ⟨q1, hq1, hD⟩ := Option.bind_eq_some_iff.mp hD
  refine x_goi hw (x_runS (As := [.int (x1)]) (rest := []) C hw cS_X10_isDawn kw_653 (c_X10_isDawn l X ex x1  z q1 hq1) ⟨Nat.le_of_ble_eq_true rfl, Nat.le_of_ble_eq_true rfl⟩ rfl hl.1 rfl (Nat.le_of_ble_eq_true rfl) dX10_mean_1 ⟨Nat.le_of_ble_eq_true rfl, Nat.le_of_ble_eq_true rfl⟩) (fun H locs hw => ?_)
  refine lv_if_eq (tgt := 24) C.1 C.2.1 dX10_mean_4 (by decide) (fun c2 => ?_) (fun c2 => ?_)
  · replace hD := (if_pos c2).symm.trans hD
    obtain ⟨q3, hq3, hD⟩ := Option.bind_eq_some_iff.mp hD
    refine x_gol hw (x_runS (As := []) (rest := []) C hw cS_X10_lost kw_494 (c_X10_lost l X ex   q1.2 q3 hq3) ⟨Nat.le_of_ble_eq_true rfl, Nat.le_of_ble_eq_true rfl⟩ rfl hl.1 rfl (Nat.le_of_ble_eq_true rfl) dX10_mean_24 ⟨Nat.le_of_ble_eq_true rfl, Nat.le_of_ble_eq_true rfl⟩) (fun H locs hw => ?_)
    obtain rfl := Option.some.inj hD
    exact x_lret C hw hr hk dX10_mean_27
  · replace hD := (if_neg c2).symm.trans hD
    refine lv_iload_n C.1 C.2.1 dX10_mean_7 rfl (lv_at hl 2 rfl) ?_
    refine lv_i2l C.1 C.2.1 dX10_mean_8 rfl ?_
    refine lv_lconst (v := (0 : Int64)) C.1 C.2.1 dX10_mean_9 (by decide) ?_
    refine lv_lconst (v := (1 : Int64)) C.1 C.2.1 dX10_mean_10 (by decide) ?_
    obtain ⟨q4, hq4, hD⟩ := Option.bind_eq_some_iff.mp hD
    refine x_goi hw (x_runS (As := [.long (x2.toInt64), .long ((0 : Int64)), .long ((1 : Int64))]) (rest := []) C hw cS_X10_in kw_501 (c_X10_in l X ex x2.toInt64 (0 : Int64) (1 : Int64)  q1.2 q4 hq4) ⟨Nat.le_of_ble_eq_true rfl, Nat.le_of_ble_eq_true rfl⟩ rfl hl.1 rfl (Nat.le_of_ble_eq_true rfl) dX10_mean_11 ⟨Nat.le_of_ble_eq_true rfl, Nat.le_of_ble_eq_true rfl⟩) (fun H locs hw => ?_)
    refine lv_if_eq (tgt := 24) C.1 C.2.1 dX10_mean_14 (by decide) (fun c5 => ?_) (fun c5 => ?_)
    · replace hD := (if_pos c5).symm.trans hD
      obtain ⟨q6, hq6, hD⟩ := Option.bind_eq_some_iff.mp hD
      refine x_gol hw (x_runS (As := []) (rest := []) C hw cS_X10_lost kw_494 (c_X10_lost l X ex   q4.2 q6 hq6) ⟨Nat.le_of_ble_eq_true rfl, Nat.le_of_ble_eq_true rfl⟩ rfl hl.1 rfl (Nat.le_of_ble_eq_true rfl) dX10_mean_24 ⟨Nat.le_of_ble_eq_true rfl, Nat.le_of_ble_eq_true rfl⟩) (fun H locs hw => ?_)
      obtain rfl := Option.some.inj hD
      exact x_lret C hw hr hk dX10_mean_27
    · replace hD := (if_neg c5).symm.trans hD
      refine lv_aload_n C.1 C.2.1 dX10_mean_17 rfl (lv_at hl 0 rfl) ?_
      refine gf_X10_1 C hw kw_495 dX10_mean_18 ?_
      refine lv_if_ne (tgt := 28) C.1 C.2.1 dX10_mean_21 (by decide) (fun c7 => ?_) (fun c7 => ?_)
      · replace hD := (if_neg c7).symm.trans hD
        refine lv_iconst (v := (0 : Int32)) C.1 C.2.1 dX10_mean_28 (by decide) ?_
        refine lv_istore_n (lv' := [(3, .int ((0 : Int32))), (0, .ref (X.2.2.1 17 (0))), (1, .int (x1)), (2, .int (x2))]) C.1 C.2.1 dX10_mean_29 rfl hl (by decide) rfl (fun ls hl => ?_)
        refine lv_iconst (v := (0 : Int32)) C.1 C.2.1 dX10_mean_30 (by decide) ?_
        refine lv_istore (lv' := [(4, .int ((0 : Int32))), (3, .int ((0 : Int32))), (0, .ref (X.2.2.1 17 (0))), (1, .int (x1)), (2, .int (x2))]) C.1 C.2.1 dX10_mean_31 hl (by decide) rfl (fun ls hl => ?_)
        exact w_X10_mean_33 x1 x2  C hr hk R0   64 (0 : Int32) (0 : Int32) q4.2  hD _ _ hw _ (lv_sub hl [2, 3, 4, 1, 0] rfl)
      · replace hD := (if_pos c7).symm.trans hD
        obtain ⟨q13, hq13, hD⟩ := Option.bind_eq_some_iff.mp hD
        refine x_gol hw (x_runS (As := []) (rest := []) C hw cS_X10_lost kw_494 (c_X10_lost l X ex   q4.2 q13 hq13) ⟨Nat.le_of_ble_eq_true rfl, Nat.le_of_ble_eq_true rfl⟩ rfl hl.1 rfl (Nat.le_of_ble_eq_true rfl) dX10_mean_24 ⟨Nat.le_of_ble_eq_true rfl, Nat.le_of_ble_eq_true rfl⟩) (fun H locs hw => ?_)
        obtain rfl := Option.some.inj hD
        exact x_lret C hw hr hk dX10_mean_27
abbrev rm_X10_sheet : Room := { frames := 2, cells := 0, slots := 0, locals := 45 }
def B_X10_sheet_65 (x1 : Int32) (x2 : Int32) (x3 : Int32) (k65_ : Int32 → XS → Option (Int32 × XS)) (y4 : Int32) (z : XS) : Option (Int32 × XS) :=
  (if x3 ≤ y4 then (D_X10_refused (1 : Int32) z).bind fun q13 => (some (q13.1, q13.2)) else gd (inB (((60 : Int32) * x1) + y4) 240) ((some (pA z 18 15 (((60 : Int32) * x1) + y4).toNatClampNeg (0 : Int32))).bind fun z15 => (k65_ (y4 + 1) z15)))
def L_X10_sheet_65 (x1 : Int32) (x2 : Int32) (x3 : Int32) : Nat → Int32 → XS → Option (Int32 × XS)
  | 0 => fun _ _ => none
  | n + 1 => B_X10_sheet_65 x1 x2 x3  (L_X10_sheet_65 x1 x2 x3  n)
set_option maxHeartbeats 4000000 in
set_option maxRecDepth 100000 in
theorem w_X10_sheet_65 {p : Program} {l : Launch} {e : Env} {s : State} {m : MethodId} {below : List Frame} {meth : Method} {c : Code} {X : XC} {ex : va_W} (x1 : Int32) (x2 : Int32) (x3 : Int32) (C : CallFix p m c cX10_sheet 5 s (([.ref (X.2.2.1 17 (0)), .int (x1), .int (x2), .int (x3)] : List Value).toArray) gtbl RX10) (hr : meth.sig.returnType = (some .int)) (hk : meth.locks = false) (R0 : Int32 × XS)  : ∀ (n : Nat), ∀ (y4 : Int32) (z : XS), L_X10_sheet_65 x1 x2 x3  n y4 z = some R0 → ∀ (H : Heap) (locs : List Loc), xw X ex z s H locs → ∀ (ls : Array Slot), lv_has ls 5 [(0, .ref (X.2.2.1 17 (0))), (1, .int (x1)), (3, .int (x3)), (4, .int (y4))] → W p l e rm_X10_sheet s m (([.ref (X.2.2.1 17 (0)), .int (x1), .int (x2), .int (x3)] : List Value).toArray) below meth c H locs 0 0 (MQ below (xQi X ex R0.2 R0.1) (([.ref (X.2.2.1 17 (0)), .int (x1), .int (x2), .int (x3)] : List Value).toArray) s 0 0 (xA X)) (F0 m 65 ls []) := by
  intro n
  induction n with
  | zero =>
    intro y4 z  hD
    cases hD
  | succ n ih =>
    intro y4 z  hD H locs hw ls hl
    replace hD : B_X10_sheet_65 x1 x2 x3  (L_X10_sheet_65 x1 x2 x3  n) y4 z = some R0 := hD
    unfold B_X10_sheet_65 at hD
    refine lv_iload C.1 C.2.1 dX10_sheet_65 (lv_at hl 3 rfl) ?_
    refine lv_iload_n C.1 C.2.1 dX10_sheet_67 rfl (lv_at hl 2 rfl) ?_
    refine lv_icmp_ge (tgt := 90) C.1 C.2.1 dX10_sheet_68 (by decide) (fun c12 => ?_) (fun c12 => ?_)
    · replace hD := (if_pos c12).symm.trans hD
      refine lv_aload_n C.1 C.2.1 dX10_sheet_90 rfl (lv_at hl 0 rfl) ?_
      refine lv_iconst (v := (1 : Int32)) C.1 C.2.1 dX10_sheet_91 (by decide) ?_
      obtain ⟨q13, hq13, hD⟩ := Option.bind_eq_some_iff.mp hD
      refine x_goi hw (x_runV (As := [.int ((1 : Int32))]) (rest := []) (k := 17) (j := 0) C hw (Nat.le_of_ble_eq_true rfl) rfl rfl cV_X10_refused kw_572 (c_X10_refused l X ex (1 : Int32)  z q13 hq13) ⟨Nat.le_of_ble_eq_true rfl, Nat.le_of_ble_eq_true rfl⟩ rfl hl.1 rfl (Nat.le_of_ble_eq_true rfl) dX10_sheet_92 ⟨Nat.le_of_ble_eq_true rfl, Nat.le_of_ble_eq_true rfl⟩) (fun H locs hw => ?_)
      obtain rfl := Option.some.inj hD
      exact x_iret C hw hr hk dX10_sheet_95
    · replace hD := (if_neg c12).symm.trans hD
      refine lv_aload_n C.1 C.2.1 dX10_sheet_71 rfl (lv_at hl 0 rfl) ?_
      refine gf_X10_20 C hw kw_513 dX10_sheet_72 ?_
      refine lv_bipush (v := (60 : Int32)) C.1 C.2.1 dX10_sheet_75 (by decide) ?_
      refine lv_iload_n C.1 C.2.1 dX10_sheet_77 rfl (lv_at hl 1 rfl) ?_
      refine lv_imul C.1 C.2.1 dX10_sheet_78 ?_
      refine lv_iload C.1 C.2.1 dX10_sheet_79 (lv_at hl 3 rfl) ?_
      refine lv_iadd C.1 C.2.1 dX10_sheet_81 ?_
      refine lv_iconst (v := (0 : Int32)) C.1 C.2.1 dX10_sheet_82 (by decide) ?_
      obtain ⟨g14, hD⟩ := gd_some hD
      obtain ⟨z15, hz15, hD⟩ := Option.bind_eq_some_iff.mp hD
      refine x_iast (k := 18) (j := 15) C hw rfl (Nat.le_of_ble_eq_true rfl) (inB_in g14) dX10_sheet_83 (fun H locs hw => ?_)
      replace hw := xw_eq hz15 hw
      refine lv_iinc (v := y4 + 1) (lv' := [(4, .int (y4 + 1)), (0, .ref (X.2.2.1 17 (0))), (1, .int (x1)), (3, .int (x3))]) C.1 C.2.1 dX10_sheet_84 hl (k := 3) rfl rfl (by decide) rfl (fun ls hl => ?_)
      refine lv_goto (tgt := 65) C.1 C.2.1 dX10_sheet_87 (by decide) ?_
      exact ih (y4 + 1) z15  hD _ _ hw _ (lv_sub hl [1, 2, 3, 0] rfl)
def D_X10_sheet (x1 : Int32) (x2 : Int32) (x3 : Int32) (z : XS) : Option (Int32 × XS) :=
  (D_X10_noSheet x1 z).bind fun q1 => ((if q1.1 = 0 then (D_X10_in x2.toInt64 (0 : Int64) (2 : Int64) q1.2).bind fun q3 => ((if q3.1 = 0 then (D_X10_refused (-2 : Int32) q3.2).bind fun q5 => (some (q5.1, q5.2)) else (if x3 ≤ (60 : Int32) then (if 0 ≤ x3 then gd (inB x1 4) ((some (pA q3.2 18 13 x1.toNatClampNeg x3)).bind fun z9 => (gd (inB x1 4) ((some (pA z9 18 14 x1.toNatClampNeg x2)).bind fun z11 => (L_X10_sheet_65 x1 x2 x3  64 (0 : Int32) z11)))) else (D_X10_failed (4 : Int32) q3.2).bind fun q16 => (some (q16.1, q16.2))) else (D_X10_refused (-2 : Int32) q3.2).bind fun q17 => (some (q17.1, q17.2))))) else (D_X10_refused (-1 : Int32) q1.2).bind fun q18 => (some (q18.1, q18.2))))
set_option maxHeartbeats 4000000 in
set_option maxRecDepth 100000 in
theorem c_X10_sheet (l : Launch) (X : XC) (ex : va_W) (x1 : Int32) (x2 : Int32) (x3 : Int32) (z : XS) (R0 : Int32 × XS) (hD : D_X10_sheet x1 x2 x3 z = some R0) : xM l X ex yX10_sheet cX10_sheet 5 (some .int) rm_X10_sheet [.ref (X.2.2.1 17 (0)), .int (x1), .int (x2), .int (x3)] z (xQi X ex R0.2 R0.1) := by
  refine x_ent (by decide) (Nat.le_of_ble_eq_true rfl) ?_
  intro p e s m below meth c ls C hr hk hw hl
  replace hl : lv_has ls 5 [(0, .ref (X.2.2.1 17 (0))), (1, .int (x1)), (2, .int (x2)), (3, .int (x3))] := hl
  unfold D_X10_sheet at hD
  refine lv_iload_n C.1 C.2.1 dX10_sheet_0 rfl (lv_at hl 1 rfl) ?_
  obtain ⟨q1, hq1, hD⟩ := Option.bind_eq_some_iff.mp hD
  refine x_goi hw (x_runS (As := [.int (x1)]) (rest := []) C hw cS_X10_noSheet kw_549 (c_X10_noSheet l X ex x1  z q1 hq1) ⟨Nat.le_of_ble_eq_true rfl, Nat.le_of_ble_eq_true rfl⟩ rfl hl.1 rfl (Nat.le_of_ble_eq_true rfl) dX10_sheet_1 ⟨Nat.le_of_ble_eq_true rfl, Nat.le_of_ble_eq_true rfl⟩) (fun H locs hw => ?_)
  refine lv_if_eq (tgt := 13) C.1 C.2.1 dX10_sheet_4 (by decide) (fun c2 => ?_) (fun c2 => ?_)
  · replace hD := (if_pos c2).symm.trans hD
    refine lv_iload_n C.1 C.2.1 dX10_sheet_13 rfl (lv_at hl 2 rfl) ?_
    refine lv_i2l C.1 C.2.1 dX10_sheet_14 rfl ?_
    refine lv_lconst (v := (0 : Int64)) C.1 C.2.1 dX10_sheet_15 (by decide) ?_
    refine lv_ldc2 (v := (2 : Int64)) C.1 C.2.1 C.2.2.2.1 (C.2.2.2.2 _ kw_550) dX10_sheet_16 ?_
    obtain ⟨q3, hq3, hD⟩ := Option.bind_eq_some_iff.mp hD
    refine x_goi hw (x_runS (As := [.long (x2.toInt64), .long ((0 : Int64)), .long ((2 : Int64))]) (rest := []) C hw cS_X10_in kw_501 (c_X10_in l X ex x2.toInt64 (0 : Int64) (2 : Int64)  q1.2 q3 hq3) ⟨Nat.le_of_ble_eq_true rfl, Nat.le_of_ble_eq_true rfl⟩ rfl hl.1 rfl (Nat.le_of_ble_eq_true rfl) dX10_sheet_19 ⟨Nat.le_of_ble_eq_true rfl, Nat.le_of_ble_eq_true rfl⟩) (fun H locs hw => ?_)
    refine lv_if_eq (tgt := 31) C.1 C.2.1 dX10_sheet_22 (by decide) (fun c4 => ?_) (fun c4 => ?_)
    · replace hD := (if_pos c4).symm.trans hD
      refine lv_aload_n C.1 C.2.1 dX10_sheet_31 rfl (lv_at hl 0 rfl) ?_
      refine lv_bipush (v := (-2 : Int32)) C.1 C.2.1 dX10_sheet_32 (by decide) ?_
      obtain ⟨q5, hq5, hD⟩ := Option.bind_eq_some_iff.mp hD
      refine x_goi hw (x_runV (As := [.int ((-2 : Int32))]) (rest := []) (k := 17) (j := 0) C hw (Nat.le_of_ble_eq_true rfl) rfl rfl cV_X10_refused kw_572 (c_X10_refused l X ex (-2 : Int32)  q3.2 q5 hq5) ⟨Nat.le_of_ble_eq_true rfl, Nat.le_of_ble_eq_true rfl⟩ rfl hl.1 rfl (Nat.le_of_ble_eq_true rfl) dX10_sheet_34 ⟨Nat.le_of_ble_eq_true rfl, Nat.le_of_ble_eq_true rfl⟩) (fun H locs hw => ?_)
      obtain rfl := Option.some.inj hD
      exact x_iret C hw hr hk dX10_sheet_37
    · replace hD := (if_neg c4).symm.trans hD
      refine lv_iload_n C.1 C.2.1 dX10_sheet_25 rfl (lv_at hl 3 rfl) ?_
      refine lv_bipush (v := (60 : Int32)) C.1 C.2.1 dX10_sheet_26 (by decide) ?_
      refine lv_icmp_le (tgt := 38) C.1 C.2.1 dX10_sheet_28 (by decide) (fun c6 => ?_) (fun c6 => ?_)
      · replace hD := (if_pos c6).symm.trans hD
        refine lv_iload_n C.1 C.2.1 dX10_sheet_38 rfl (lv_at hl 3 rfl) ?_
        refine lv_if_ge (tgt := 48) C.1 C.2.1 dX10_sheet_39 (by decide) (fun c7 => ?_) (fun c7 => ?_)
        · replace hD := (if_pos c7).symm.trans hD
          refine lv_aload_n C.1 C.2.1 dX10_sheet_48 rfl (lv_at hl 0 rfl) ?_
          refine gf_X10_18 C hw kw_551 dX10_sheet_49 ?_
          refine lv_iload_n C.1 C.2.1 dX10_sheet_52 rfl (lv_at hl 1 rfl) ?_
          refine lv_iload_n C.1 C.2.1 dX10_sheet_53 rfl (lv_at hl 3 rfl) ?_
          obtain ⟨g8, hD⟩ := gd_some hD
          obtain ⟨z9, hz9, hD⟩ := Option.bind_eq_some_iff.mp hD
          refine x_iast (k := 18) (j := 13) C hw rfl (Nat.le_of_ble_eq_true rfl) (inB_in g8) dX10_sheet_54 (fun H locs hw => ?_)
          replace hw := xw_eq hz9 hw
          refine lv_aload_n C.1 C.2.1 dX10_sheet_55 rfl (lv_at hl 0 rfl) ?_
          refine gf_X10_19 C hw kw_589 dX10_sheet_56 ?_
          refine lv_iload_n C.1 C.2.1 dX10_sheet_59 rfl (lv_at hl 1 rfl) ?_
          refine lv_iload_n C.1 C.2.1 dX10_sheet_60 rfl (lv_at hl 2 rfl) ?_
          obtain ⟨g10, hD⟩ := gd_some hD
          obtain ⟨z11, hz11, hD⟩ := Option.bind_eq_some_iff.mp hD
          refine x_iast (k := 18) (j := 14) C hw rfl (Nat.le_of_ble_eq_true rfl) (inB_in g10) dX10_sheet_61 (fun H locs hw => ?_)
          replace hw := xw_eq hz11 hw
          refine lv_iconst (v := (0 : Int32)) C.1 C.2.1 dX10_sheet_62 (by decide) ?_
          refine lv_istore (lv' := [(4, .int ((0 : Int32))), (0, .ref (X.2.2.1 17 (0))), (1, .int (x1)), (2, .int (x2)), (3, .int (x3))]) C.1 C.2.1 dX10_sheet_63 hl (by decide) rfl (fun ls hl => ?_)
          exact w_X10_sheet_65 x1 x2 x3  C hr hk R0   64 (0 : Int32) z11  hD _ _ hw _ (lv_sub hl [1, 2, 4, 0] rfl)
        · replace hD := (if_neg c7).symm.trans hD
          refine lv_aload_n C.1 C.2.1 dX10_sheet_42 rfl (lv_at hl 0 rfl) ?_
          refine lv_iconst (v := (4 : Int32)) C.1 C.2.1 dX10_sheet_43 (by decide) ?_
          obtain ⟨q16, hq16, hD⟩ := Option.bind_eq_some_iff.mp hD
          refine x_goi hw (x_runV (As := [.int ((4 : Int32))]) (rest := []) (k := 17) (j := 0) C hw (Nat.le_of_ble_eq_true rfl) rfl rfl cV_X10_failed kw_588 (c_X10_failed l X ex (4 : Int32)  q3.2 q16 hq16) ⟨Nat.le_of_ble_eq_true rfl, Nat.le_of_ble_eq_true rfl⟩ rfl hl.1 rfl (Nat.le_of_ble_eq_true rfl) dX10_sheet_44 ⟨Nat.le_of_ble_eq_true rfl, Nat.le_of_ble_eq_true rfl⟩) (fun H locs hw => ?_)
          obtain rfl := Option.some.inj hD
          exact x_iret C hw hr hk dX10_sheet_47
      · replace hD := (if_neg c6).symm.trans hD
        refine lv_aload_n C.1 C.2.1 dX10_sheet_31 rfl (lv_at hl 0 rfl) ?_
        refine lv_bipush (v := (-2 : Int32)) C.1 C.2.1 dX10_sheet_32 (by decide) ?_
        obtain ⟨q17, hq17, hD⟩ := Option.bind_eq_some_iff.mp hD
        refine x_goi hw (x_runV (As := [.int ((-2 : Int32))]) (rest := []) (k := 17) (j := 0) C hw (Nat.le_of_ble_eq_true rfl) rfl rfl cV_X10_refused kw_572 (c_X10_refused l X ex (-2 : Int32)  q3.2 q17 hq17) ⟨Nat.le_of_ble_eq_true rfl, Nat.le_of_ble_eq_true rfl⟩ rfl hl.1 rfl (Nat.le_of_ble_eq_true rfl) dX10_sheet_34 ⟨Nat.le_of_ble_eq_true rfl, Nat.le_of_ble_eq_true rfl⟩) (fun H locs hw => ?_)
        obtain rfl := Option.some.inj hD
        exact x_iret C hw hr hk dX10_sheet_37
  · replace hD := (if_neg c2).symm.trans hD
    refine lv_aload_n C.1 C.2.1 dX10_sheet_7 rfl (lv_at hl 0 rfl) ?_
    refine lv_iconst (v := (-1 : Int32)) C.1 C.2.1 dX10_sheet_8 (by decide) ?_
    obtain ⟨q18, hq18, hD⟩ := Option.bind_eq_some_iff.mp hD
    refine x_goi hw (x_runV (As := [.int ((-1 : Int32))]) (rest := []) (k := 17) (j := 0) C hw (Nat.le_of_ble_eq_true rfl) rfl rfl cV_X10_refused kw_572 (c_X10_refused l X ex (-1 : Int32)  q1.2 q18 hq18) ⟨Nat.le_of_ble_eq_true rfl, Nat.le_of_ble_eq_true rfl⟩ rfl hl.1 rfl (Nat.le_of_ble_eq_true rfl) dX10_sheet_9 ⟨Nat.le_of_ble_eq_true rfl, Nat.le_of_ble_eq_true rfl⟩) (fun H locs hw => ?_)
    obtain rfl := Option.some.inj hD
    exact x_iret C hw hr hk dX10_sheet_12
abbrev rm_X10_lose : Room := { frames := 2, cells := 0, slots := 0, locals := 45 }
def J_X10_lose_23 (x1 : Int32) (t0 : Int32) (z : XS) : Option (Int32 × XS) :=
  gd (inB x1 4) ((some (pA z 18 13 x1.toNatClampNeg (-1 : Int32))).bind fun z6 => (some (t0, z6)))
set_option maxHeartbeats 4000000 in
set_option maxRecDepth 100000 in
theorem w_X10_lose_23 {p : Program} {l : Launch} {e : Env} {s : State} {m : MethodId} {below : List Frame} {meth : Method} {c : Code} {X : XC} {ex : va_W} (x1 : Int32) (C : CallFix p m c cX10_lose 3 s (([.ref (X.2.2.1 17 (0)), .int (x1)] : List Value).toArray) gtbl RX10) (hr : meth.sig.returnType = (some .int)) (hk : meth.locks = false) (R0 : Int32 × XS)  : ∀ (t0 : Int32) (z : XS), J_X10_lose_23 x1  t0 z = some R0 → ∀ (H : Heap) (locs : List Loc), xw X ex z s H locs → ∀ (ls : Array Slot), lv_has ls 3 [(0, .ref (X.2.2.1 17 (0))), (1, .int (x1))] → W p l e rm_X10_lose s m (([.ref (X.2.2.1 17 (0)), .int (x1)] : List Value).toArray) below meth c H locs 0 0 (MQ below (xQi X ex R0.2 R0.1) (([.ref (X.2.2.1 17 (0)), .int (x1)] : List Value).toArray) s 0 0 (xA X)) (F0 m 23 ls [.int (t0)]) := by
  intro t0 z  hD H locs hw ls hl
  unfold J_X10_lose_23 at hD
  refine lv_istore_n (lv' := [(2, .int (t0)), (0, .ref (X.2.2.1 17 (0))), (1, .int (x1))]) C.1 C.2.1 dX10_lose_23 rfl hl (by decide) rfl (fun ls hl => ?_)
  refine lv_aload_n C.1 C.2.1 dX10_lose_24 rfl (lv_at hl 1 rfl) ?_
  refine gf_X10_18 C hw kw_551 dX10_lose_25 ?_
  refine lv_iload_n C.1 C.2.1 dX10_lose_28 rfl (lv_at hl 2 rfl) ?_
  refine lv_iconst (v := (-1 : Int32)) C.1 C.2.1 dX10_lose_29 (by decide) ?_
  obtain ⟨g5, hD⟩ := gd_some hD
  obtain ⟨z6, hz6, hD⟩ := Option.bind_eq_some_iff.mp hD
  refine x_iast (k := 18) (j := 13) C hw rfl (Nat.le_of_ble_eq_true rfl) (inB_in g5) dX10_lose_30 (fun H locs hw => ?_)
  replace hw := xw_eq hz6 hw
  refine lv_iload_n C.1 C.2.1 dX10_lose_31 rfl (lv_at hl 0 rfl) ?_
  obtain rfl := Option.some.inj hD
  exact x_iret C hw hr hk dX10_lose_32
def D_X10_lose (x1 : Int32) (z : XS) : Option (Int32 × XS) :=
  (D_X10_noSheet x1 z).bind fun q1 => ((if q1.1 = 0 then gd (inB x1 4) ((if 0 ≤ gA q1.2 18 13 x1.toNatClampNeg then J_X10_lose_23 x1  (1 : Int32) q1.2 else J_X10_lose_23 x1  (0 : Int32) q1.2)) else some ((-1 : Int32), q1.2)))
set_option maxHeartbeats 4000000 in
set_option maxRecDepth 100000 in
theorem c_X10_lose (l : Launch) (X : XC) (ex : va_W) (x1 : Int32) (z : XS) (R0 : Int32 × XS) (hD : D_X10_lose x1 z = some R0) : xM l X ex yX10_lose cX10_lose 3 (some .int) rm_X10_lose [.ref (X.2.2.1 17 (0)), .int (x1)] z (xQi X ex R0.2 R0.1) := by
  refine x_ent (by decide) (Nat.le_of_ble_eq_true rfl) ?_
  intro p e s m below meth c ls C hr hk hw hl
  replace hl : lv_has ls 3 [(0, .ref (X.2.2.1 17 (0))), (1, .int (x1))] := hl
  unfold D_X10_lose at hD
  refine lv_iload_n C.1 C.2.1 dX10_lose_0 rfl (lv_at hl 1 rfl) ?_
  obtain ⟨q1, hq1, hD⟩ := Option.bind_eq_some_iff.mp hD
  refine x_goi hw (x_runS (As := [.int (x1)]) (rest := []) C hw cS_X10_noSheet kw_549 (c_X10_noSheet l X ex x1  z q1 hq1) ⟨Nat.le_of_ble_eq_true rfl, Nat.le_of_ble_eq_true rfl⟩ rfl hl.1 rfl (Nat.le_of_ble_eq_true rfl) dX10_lose_1 ⟨Nat.le_of_ble_eq_true rfl, Nat.le_of_ble_eq_true rfl⟩) (fun H locs hw => ?_)
  refine lv_if_eq (tgt := 9) C.1 C.2.1 dX10_lose_4 (by decide) (fun c2 => ?_) (fun c2 => ?_)
  · replace hD := (if_pos c2).symm.trans hD
    refine lv_aload_n C.1 C.2.1 dX10_lose_9 rfl (lv_at hl 0 rfl) ?_
    refine gf_X10_18 C hw kw_551 dX10_lose_10 ?_
    refine lv_iload_n C.1 C.2.1 dX10_lose_13 rfl (lv_at hl 1 rfl) ?_
    obtain ⟨g3, hD⟩ := gd_some hD
    refine x_iald (k := 18) (j := 13) C hw rfl (Nat.le_of_ble_eq_true rfl) (inB_in g3) dX10_lose_14 ?_
    refine lv_if_ge (tgt := 22) C.1 C.2.1 dX10_lose_15 (by decide) (fun c4 => ?_) (fun c4 => ?_)
    · replace hD := (if_pos c4).symm.trans hD
      refine lv_iconst (v := (1 : Int32)) C.1 C.2.1 dX10_lose_22 (by decide) ?_
      exact w_X10_lose_23 x1  C hr hk R0   (1 : Int32) q1.2  hD _ _ hw _ (lv_sub hl [0, 1] rfl)
    · replace hD := (if_neg c4).symm.trans hD
      refine lv_iconst (v := (0 : Int32)) C.1 C.2.1 dX10_lose_18 (by decide) ?_
      refine lv_goto (tgt := 23) C.1 C.2.1 dX10_lose_19 (by decide) ?_
      exact w_X10_lose_23 x1  C hr hk R0   (0 : Int32) q1.2  hD _ _ hw _ (lv_sub hl [0, 1] rfl)
  · replace hD := (if_neg c2).symm.trans hD
    refine lv_iconst (v := (-1 : Int32)) C.1 C.2.1 dX10_lose_7 (by decide) ?_
    obtain rfl := Option.some.inj hD
    exact x_iret C hw hr hk dX10_lose_8
abbrev rm_X10_noCell : Room := { frames := 1, cells := 0, slots := 0, locals := 25 }
def D_X10_noCell (x1 : Int32) (x2 : Int32) (z : XS) : Option (Int32 × XS) :=
  gd (inB x1 4) ((if 0 ≤ gA z 18 13 x1.toNatClampNeg then gd (inB x1 4) ((D_X10_in x2.toInt64 (0 : Int64) (((gA z 18 13 x1.toNatClampNeg).toInt64) - (1 : Int64)) z).bind fun q4 => ((if q4.1 = 0 then some ((3 : Int32), q4.2) else some ((0 : Int32), q4.2)))) else some ((1 : Int32), z)))
set_option maxHeartbeats 4000000 in
set_option maxRecDepth 100000 in
theorem c_X10_noCell (l : Launch) (X : XC) (ex : va_W) (x1 : Int32) (x2 : Int32) (z : XS) (R0 : Int32 × XS) (hD : D_X10_noCell x1 x2 z = some R0) : xM l X ex yX10_noCell cX10_noCell 3 (some .int) rm_X10_noCell [.ref (X.2.2.1 17 (0)), .int (x1), .int (x2)] z (xQi X ex R0.2 R0.1) := by
  refine x_ent (by decide) (Nat.le_of_ble_eq_true rfl) ?_
  intro p e s m below meth c ls C hr hk hw hl
  replace hl : lv_has ls 3 [(0, .ref (X.2.2.1 17 (0))), (1, .int (x1)), (2, .int (x2))] := hl
  unfold D_X10_noCell at hD
  refine lv_aload_n C.1 C.2.1 dX10_noCell_0 rfl (lv_at hl 0 rfl) ?_
  refine gf_X10_18 C hw kw_551 dX10_noCell_1 ?_
  refine lv_iload_n C.1 C.2.1 dX10_noCell_4 rfl (lv_at hl 1 rfl) ?_
  obtain ⟨g1, hD⟩ := gd_some hD
  refine x_iald (k := 18) (j := 13) C hw rfl (Nat.le_of_ble_eq_true rfl) (inB_in g1) dX10_noCell_5 ?_
  refine lv_if_ge (tgt := 13) C.1 C.2.1 dX10_noCell_6 (by decide) (fun c2 => ?_) (fun c2 => ?_)
  · replace hD := (if_pos c2).symm.trans hD
    refine lv_iload_n C.1 C.2.1 dX10_noCell_13 rfl (lv_at hl 2 rfl) ?_
    refine lv_i2l C.1 C.2.1 dX10_noCell_14 rfl ?_
    refine lv_lconst (v := (0 : Int64)) C.1 C.2.1 dX10_noCell_15 (by decide) ?_
    refine lv_aload_n C.1 C.2.1 dX10_noCell_16 rfl (lv_at hl 0 rfl) ?_
    refine gf_X10_18 C hw kw_551 dX10_noCell_17 ?_
    refine lv_iload_n C.1 C.2.1 dX10_noCell_20 rfl (lv_at hl 1 rfl) ?_
    obtain ⟨g3, hD⟩ := gd_some hD
    refine x_iald (k := 18) (j := 13) C hw rfl (Nat.le_of_ble_eq_true rfl) (inB_in g3) dX10_noCell_21 ?_
    refine lv_i2l C.1 C.2.1 dX10_noCell_22 rfl ?_
    refine lv_lconst (v := (1 : Int64)) C.1 C.2.1 dX10_noCell_23 (by decide) ?_
    refine lv_lsub C.1 C.2.1 dX10_noCell_24 ?_
    obtain ⟨q4, hq4, hD⟩ := Option.bind_eq_some_iff.mp hD
    refine x_goi hw (x_runS (As := [.long (x2.toInt64), .long ((0 : Int64)), .long (((gA z 18 13 x1.toNatClampNeg).toInt64) - (1 : Int64))]) (rest := []) C hw cS_X10_in kw_501 (c_X10_in l X ex x2.toInt64 (0 : Int64) (((gA z 18 13 x1.toNatClampNeg).toInt64) - (1 : Int64))  z q4 hq4) ⟨Nat.le_of_ble_eq_true rfl, Nat.le_of_ble_eq_true rfl⟩ rfl hl.1 rfl (Nat.le_of_ble_eq_true rfl) dX10_noCell_25 ⟨Nat.le_of_ble_eq_true rfl, Nat.le_of_ble_eq_true rfl⟩) (fun H locs hw => ?_)
    refine lv_if_eq (tgt := 35) C.1 C.2.1 dX10_noCell_28 (by decide) (fun c5 => ?_) (fun c5 => ?_)
    · replace hD := (if_pos c5).symm.trans hD
      refine lv_iconst (v := (3 : Int32)) C.1 C.2.1 dX10_noCell_35 (by decide) ?_
      obtain rfl := Option.some.inj hD
      exact x_iret C hw hr hk dX10_noCell_36
    · replace hD := (if_neg c5).symm.trans hD
      refine lv_iconst (v := (0 : Int32)) C.1 C.2.1 dX10_noCell_31 (by decide) ?_
      refine lv_goto (tgt := 36) C.1 C.2.1 dX10_noCell_32 (by decide) ?_
      obtain rfl := Option.some.inj hD
      exact x_iret C hw hr hk dX10_noCell_36
  · replace hD := (if_neg c2).symm.trans hD
    refine lv_iconst (v := (1 : Int32)) C.1 C.2.1 dX10_noCell_9 (by decide) ?_
    refine lv_goto (tgt := 36) C.1 C.2.1 dX10_noCell_10 (by decide) ?_
    obtain rfl := Option.some.inj hD
    exact x_iret C hw hr hk dX10_noCell_36
