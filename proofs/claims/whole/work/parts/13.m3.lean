theorem kw_280 : Cond.code yX0_heightIf cX0_heightIf 4 (some .int) ∈ gtbl := gm2 210 rfl rfl
theorem nd_X0_heightIf : (yX0_heightIf).cls ≠ "java/lang/invoke/MethodHandle" ∧ (yX0_heightIf).cls ≠ "java/lang/invoke/VarHandle" ∧ (parseMethodDescriptor (yX0_heightIf).desc).map (fun d => d.parameters.length) = some 3 := by decide +kernel
theorem kw_282 : Cond.instanceMethod yX0_heightIf ∈ gtbl := gm2 208 rfl rfl
theorem kw_283 : Cond.selects RX0 yX0_heightIf yX0_heightIf ∈ gtbl := gm2 209 rfl rfl
theorem cV_X0_heightIf : xcV yX0_heightIf cX0_heightIf 4 (some .int) 3 := ⟨⟨kw_280, kw_78, nd_X0_heightIf⟩, kw_282, kw_283⟩
theorem kw_285 : Cond.methodLink RX4 115 yX0_heightIf ∈ gtbl := gm2 207 rfl rfl
abbrev rm_X4_wouldGain : Room := { frames := 4, cells := 0, slots := 0, locals := 97 }
def B_X4_wouldGain_43 (x1 : Int32) (x2 : Int32) (x3 : Int32) (k43_ : Int32 → Int32 → Int32 → Int32 → XS → Option (Int32 × XS)) (y4 : Int32) (y5 : Int32) (y7 : Int32) (y8 : Int32) (z : XS) : Option (Int32 × XS) :=
  (if y7 ≤ y8 then some ((0 : Int32), z) else gd (inB y8 3) (gd (inB y4 6) ((D_X9_otherSide x2 z).bind fun q8 => ((D_X0_heightIf y4.toNatClampNeg q8.1 x3 (chI y8.toNatClampNeg) q8.2).bind fun q9 => ((D_X4_betterOffIf x1 (x3 + (1 : Int32)) y4 q9.1 q9.2).bind fun q10 => ((if q10.1 ≤ y5 then k43_ y4 y5 y7 (y8 + 1) q10.2 else some ((1 : Int32), q10.2))))))))
def L_X4_wouldGain_43 (x1 : Int32) (x2 : Int32) (x3 : Int32) : Nat → Int32 → Int32 → Int32 → Int32 → XS → Option (Int32 × XS)
  | 0 => fun _ _ _ _ _ => none
  | n + 1 => B_X4_wouldGain_43 x1 x2 x3  (L_X4_wouldGain_43 x1 x2 x3  n)
set_option maxHeartbeats 4000000 in
set_option maxRecDepth 100000 in
theorem w_X4_wouldGain_43 {p : Program} {l : Launch} {e : Env} {s : State} {m : MethodId} {below : List Frame} {meth : Method} {c : Code} {X : XC} {ex : va_W} (x1 : Int32) (x2 : Int32) (x3 : Int32) (C : CallFix p m c cX4_wouldGain 11 s (([.ref (X.2.2.1 1 (0)), .int (x1), .int (x2), .int (x3)] : List Value).toArray) gtbl RX4) (hr : meth.sig.returnType = (some .boolean)) (hk : meth.locks = false) (R0 : Int32 × XS)  : ∀ (n : Nat), ∀ (y4 : Int32) (y5 : Int32) (y7 : Int32) (y8 : Int32) (z : XS), L_X4_wouldGain_43 x1 x2 x3  n y4 y5 y7 y8 z = some R0 → ∀ (H : Heap) (locs : List Loc), xw X ex z s H locs → ∀ (ls : Array Slot), lv_has ls 11 [(0, .ref (X.2.2.1 1 (0))), (1, .int (x1)), (2, .int (x2)), (3, .int (x3)), (4, .int (y4)), (5, .int (y5)), (6, .ref X.2.2.2.2), (7, .int (y7)), (8, .int (y8))] → W p l e rm_X4_wouldGain s m (([.ref (X.2.2.1 1 (0)), .int (x1), .int (x2), .int (x3)] : List Value).toArray) below meth c H locs 0 0 (MQ below (xQi X ex R0.2 R0.1) (([.ref (X.2.2.1 1 (0)), .int (x1), .int (x2), .int (x3)] : List Value).toArray) s 0 0 (xA X)) (F0 m 43 ls []) := by
  intro n
  induction n with
  | zero =>
    intro y4 y5 y7 y8 z  hD
    cases hD
  | succ n ih =>
    intro y4 y5 y7 y8 z  hD H locs hw ls hl
    replace hD : B_X4_wouldGain_43 x1 x2 x3  (L_X4_wouldGain_43 x1 x2 x3  n) y4 y5 y7 y8 z = some R0 := hD
    unfold B_X4_wouldGain_43 at hD
    refine lv_iload C.1 C.2.1 dX4_wouldGain_43 (lv_at hl 8 rfl) ?_
    refine lv_iload C.1 C.2.1 dX4_wouldGain_45 (lv_at hl 7 rfl) ?_
    refine lv_icmp_ge (tgt := 101) C.1 C.2.1 dX4_wouldGain_47 (by decide) (fun c5 => ?_) (fun c5 => ?_)
    · replace hD := (if_pos c5).symm.trans hD
      refine lv_iconst (v := (0 : Int32)) C.1 C.2.1 dX4_wouldGain_101 (by decide) ?_
      obtain rfl := Option.some.inj hD
      exact x_zret (v := (0 : Int32)) C hw hr hk nb0 dX4_wouldGain_102
    · replace hD := (if_neg c5).symm.trans hD
      refine lv_aload C.1 C.2.1 dX4_wouldGain_50 (lv_at hl 6 rfl) ?_
      refine lv_iload C.1 C.2.1 dX4_wouldGain_52 (lv_at hl 8 rfl) ?_
      obtain ⟨g6, hD⟩ := gd_some hD
      refine x_chald C hw (inB_in g6) dX4_wouldGain_54 ?_
      refine lv_istore (lv' := [(9, .int (chI y8.toNatClampNeg)), (0, .ref (X.2.2.1 1 (0))), (1, .int (x1)), (2, .int (x2)), (3, .int (x3)), (4, .int (y4)), (5, .int (y5)), (6, .ref X.2.2.2.2), (7, .int (y7)), (8, .int (y8))]) C.1 C.2.1 dX4_wouldGain_55 hl (by decide) rfl (fun ls hl => ?_)
      refine lv_aload_n C.1 C.2.1 dX4_wouldGain_57 rfl (lv_at hl 1 rfl) ?_
      refine gf_X4_1 C hw kw_184 dX4_wouldGain_58 ?_
      refine lv_iload C.1 C.2.1 dX4_wouldGain_61 (lv_at hl 5 rfl) ?_
      obtain ⟨g7, hD⟩ := gd_some hD
      refine x_aald (k := 8) (j := 0) (f := fun i => X.2.2.1 9 i) C hw (Nat.le_of_ble_eq_true rfl) 2 rfl rfl rfl (inB_in g7) (a := X.2.2.1 9 (y4.toNatClampNeg)) rfl dX4_wouldGain_63 ?_
      refine lv_iload_n C.1 C.2.1 dX4_wouldGain_64 rfl (lv_at hl 3 rfl) ?_
      obtain ⟨q8, hq8, hD⟩ := Option.bind_eq_some_iff.mp hD
      refine x_goi hw (x_runSN (As := [.int (x2)]) (rest := [.ref (X.2.2.1 9 (y4.toNatClampNeg))]) C hw cS_X9_otherSide (List.mem_of_getElem? (i := 5) rfl) (c_X9_otherSide l X ex x2  z q8 hq8) ⟨Nat.le_of_ble_eq_true rfl, Nat.le_of_ble_eq_true rfl⟩ rfl hl.1 rfl (Nat.le_of_ble_eq_true rfl) dX4_wouldGain_65 ⟨Nat.le_of_ble_eq_true rfl, Nat.le_of_ble_eq_true rfl⟩) (fun H locs hw => ?_)
      refine lv_iload_n C.1 C.2.1 dX4_wouldGain_68 rfl (lv_at hl 4 rfl) ?_
      refine lv_iload C.1 C.2.1 dX4_wouldGain_69 (lv_at hl 0 rfl) ?_
      obtain ⟨q9, hq9, hD⟩ := Option.bind_eq_some_iff.mp hD
      refine x_goi hw (x_runV (As := [.int (q8.1), .int (x3), .int (chI y8.toNatClampNeg)]) (rest := []) (k := 9) (j := y4.toNatClampNeg) C hw (inB_lt g7) rfl rfl cV_X0_heightIf kw_285 (c_X0_heightIf l X ex y4.toNatClampNeg q8.1 x3 (chI y8.toNatClampNeg) (inB_lt g7) q8.2 q9 hq9) ⟨Nat.le_of_ble_eq_true rfl, Nat.le_of_ble_eq_true rfl⟩ rfl hl.1 rfl (Nat.le_of_ble_eq_true rfl) dX4_wouldGain_71 ⟨Nat.le_of_ble_eq_true rfl, Nat.le_of_ble_eq_true rfl⟩) (fun H locs hw => ?_)
      refine lv_istore (lv' := [(10, .int (q9.1)), (9, .int (chI y8.toNatClampNeg)), (0, .ref (X.2.2.1 1 (0))), (1, .int (x1)), (2, .int (x2)), (3, .int (x3)), (4, .int (y4)), (5, .int (y5)), (6, .ref X.2.2.2.2), (7, .int (y7)), (8, .int (y8))]) C.1 C.2.1 dX4_wouldGain_74 hl (by decide) rfl (fun ls hl => ?_)
      refine lv_aload_n C.1 C.2.1 dX4_wouldGain_76 rfl (lv_at hl 2 rfl) ?_
      refine lv_iload_n C.1 C.2.1 dX4_wouldGain_77 rfl (lv_at hl 3 rfl) ?_
      refine lv_iload_n C.1 C.2.1 dX4_wouldGain_78 rfl (lv_at hl 5 rfl) ?_
      refine lv_iconst (v := (1 : Int32)) C.1 C.2.1 dX4_wouldGain_79 (by decide) ?_
      refine lv_iadd C.1 C.2.1 dX4_wouldGain_80 ?_
      refine lv_iload C.1 C.2.1 dX4_wouldGain_81 (lv_at hl 6 rfl) ?_
      refine lv_iload C.1 C.2.1 dX4_wouldGain_83 (lv_at hl 0 rfl) ?_
      obtain ⟨q10, hq10, hD⟩ := Option.bind_eq_some_iff.mp hD
      refine x_goi hw (x_runV (As := [.int (x1), .int (x3 + (1 : Int32)), .int (y4), .int (q9.1)]) (rest := []) (k := 1) (j := 0) C hw (Nat.le_of_ble_eq_true rfl) rfl rfl cV_X4_betterOffIf kw_267 (c_X4_betterOffIf l X ex x1 (x3 + (1 : Int32)) y4 q9.1  q9.2 q10 hq10) ⟨Nat.le_of_ble_eq_true rfl, Nat.le_of_ble_eq_true rfl⟩ rfl hl.1 rfl (Nat.le_of_ble_eq_true rfl) dX4_wouldGain_85 ⟨Nat.le_of_ble_eq_true rfl, Nat.le_of_ble_eq_true rfl⟩) (fun H locs hw => ?_)
      refine lv_iload C.1 C.2.1 dX4_wouldGain_88 (lv_at hl 7 rfl) ?_
      refine lv_icmp_le (tgt := 95) C.1 C.2.1 dX4_wouldGain_90 (by decide) (fun c11 => ?_) (fun c11 => ?_)
      · replace hD := (if_pos c11).symm.trans hD
        refine lv_iinc (v := y8 + 1) (lv' := [(8, .int (y8 + 1)), (10, .int (q9.1)), (9, .int (chI y8.toNatClampNeg)), (0, .ref (X.2.2.1 1 (0))), (1, .int (x1)), (2, .int (x2)), (3, .int (x3)), (4, .int (y4)), (5, .int (y5)), (6, .ref X.2.2.2.2), (7, .int (y7))]) C.1 C.2.1 dX4_wouldGain_95 hl (k := 10) rfl rfl (by decide) rfl (fun ls hl => ?_)
        refine lv_goto (tgt := 43) C.1 C.2.1 dX4_wouldGain_98 (by decide) ?_
        exact ih y4 y5 y7 (y8 + 1) q10.2  hD _ _ hw _ (lv_sub hl [3, 4, 5, 6, 7, 8, 9, 10, 0] rfl)
      · replace hD := (if_neg c11).symm.trans hD
        refine lv_iconst (v := (1 : Int32)) C.1 C.2.1 dX4_wouldGain_93 (by decide) ?_
        obtain rfl := Option.some.inj hD
        exact x_zret (v := (1 : Int32)) C hw hr hk nb1 dX4_wouldGain_94
def D_X4_wouldGain (x1 : Int32) (x2 : Int32) (x3 : Int32) (z : XS) : Option (Int32 × XS) :=
  (D_X9_hedgeBeside x1 x2 z).bind fun q1 => ((D_X4_isHedge q1.1 q1.2).bind fun q2 => ((if q2.1 = 0 then some ((0 : Int32), q2.2) else (D_X4_betterOffIf x1 (x3 + (1 : Int32)) (-1 : Int32) (0 : Int32) q2.2).bind fun q4 => (L_X4_wouldGain_43 x1 x2 x3  64 q1.1 q4.1 (3 : Int32) (0 : Int32) q4.2))))
set_option maxHeartbeats 4000000 in
set_option maxRecDepth 100000 in
theorem c_X4_wouldGain (l : Launch) (X : XC) (ex : va_W) (x1 : Int32) (x2 : Int32) (x3 : Int32) (z : XS) (R0 : Int32 × XS) (hD : D_X4_wouldGain x1 x2 x3 z = some R0) : xM l X ex yX4_wouldGain cX4_wouldGain 11 (some .boolean) rm_X4_wouldGain [.ref (X.2.2.1 1 (0)), .int (x1), .int (x2), .int (x3)] z (xQi X ex R0.2 R0.1) := by
  refine x_ent (by decide) (Nat.le_of_ble_eq_true rfl) ?_
  intro p e s m below meth c ls C hr hk hw hl
  replace hl : lv_has ls 11 [(0, .ref (X.2.2.1 1 (0))), (1, .int (x1)), (2, .int (x2)), (3, .int (x3))] := hl
  unfold D_X4_wouldGain at hD
  refine lv_iload_n C.1 C.2.1 dX4_wouldGain_0 rfl (lv_at hl 1 rfl) ?_
  refine lv_iload_n C.1 C.2.1 dX4_wouldGain_1 rfl (lv_at hl 2 rfl) ?_
  obtain ⟨q1, hq1, hD⟩ := Option.bind_eq_some_iff.mp hD
  refine x_goi hw (x_runSN (As := [.int (x1), .int (x2)]) (rest := []) C hw cS_X9_hedgeBeside (List.mem_of_getElem? (i := 4) rfl) (c_X9_hedgeBeside l X ex x1 x2  z q1 hq1) ⟨Nat.le_of_ble_eq_true rfl, Nat.le_of_ble_eq_true rfl⟩ rfl hl.1 rfl (Nat.le_of_ble_eq_true rfl) dX4_wouldGain_2 ⟨Nat.le_of_ble_eq_true rfl, Nat.le_of_ble_eq_true rfl⟩) (fun H locs hw => ?_)
  refine lv_istore (lv' := [(4, .int (q1.1)), (0, .ref (X.2.2.1 1 (0))), (1, .int (x1)), (2, .int (x2)), (3, .int (x3))]) C.1 C.2.1 dX4_wouldGain_5 hl (by decide) rfl (fun ls hl => ?_)
  refine lv_aload_n C.1 C.2.1 dX4_wouldGain_7 rfl (lv_at hl 1 rfl) ?_
  refine lv_iload C.1 C.2.1 dX4_wouldGain_8 (lv_at hl 0 rfl) ?_
  obtain ⟨q2, hq2, hD⟩ := Option.bind_eq_some_iff.mp hD
  refine x_goi hw (x_runV (As := [.int (q1.1)]) (rest := []) (k := 1) (j := 0) C hw (Nat.le_of_ble_eq_true rfl) rfl rfl cV_X4_isHedge kw_187 (c_X4_isHedge l X ex q1.1  q1.2 q2 hq2) ⟨Nat.le_of_ble_eq_true rfl, Nat.le_of_ble_eq_true rfl⟩ rfl hl.1 rfl (Nat.le_of_ble_eq_true rfl) dX4_wouldGain_10 ⟨Nat.le_of_ble_eq_true rfl, Nat.le_of_ble_eq_true rfl⟩) (fun H locs hw => ?_)
  refine lv_if_ne (tgt := 18) C.1 C.2.1 dX4_wouldGain_13 (by decide) (fun c3 => ?_) (fun c3 => ?_)
  · replace hD := (if_neg c3).symm.trans hD
    refine lv_aload_n C.1 C.2.1 dX4_wouldGain_18 rfl (lv_at hl 1 rfl) ?_
    refine lv_iload_n C.1 C.2.1 dX4_wouldGain_19 rfl (lv_at hl 2 rfl) ?_
    refine lv_iload_n C.1 C.2.1 dX4_wouldGain_20 rfl (lv_at hl 4 rfl) ?_
    refine lv_iconst (v := (1 : Int32)) C.1 C.2.1 dX4_wouldGain_21 (by decide) ?_
    refine lv_iadd C.1 C.2.1 dX4_wouldGain_22 ?_
    refine lv_iconst (v := (-1 : Int32)) C.1 C.2.1 dX4_wouldGain_23 (by decide) ?_
    refine lv_iconst (v := (0 : Int32)) C.1 C.2.1 dX4_wouldGain_24 (by decide) ?_
    obtain ⟨q4, hq4, hD⟩ := Option.bind_eq_some_iff.mp hD
    refine x_goi hw (x_runV (As := [.int (x1), .int (x3 + (1 : Int32)), .int ((-1 : Int32)), .int ((0 : Int32))]) (rest := []) (k := 1) (j := 0) C hw (Nat.le_of_ble_eq_true rfl) rfl rfl cV_X4_betterOffIf kw_267 (c_X4_betterOffIf l X ex x1 (x3 + (1 : Int32)) (-1 : Int32) (0 : Int32)  q2.2 q4 hq4) ⟨Nat.le_of_ble_eq_true rfl, Nat.le_of_ble_eq_true rfl⟩ rfl hl.1 rfl (Nat.le_of_ble_eq_true rfl) dX4_wouldGain_25 ⟨Nat.le_of_ble_eq_true rfl, Nat.le_of_ble_eq_true rfl⟩) (fun H locs hw => ?_)
    refine lv_istore (lv' := [(5, .int (q4.1)), (4, .int (q1.1)), (0, .ref (X.2.2.1 1 (0))), (1, .int (x1)), (2, .int (x2)), (3, .int (x3))]) C.1 C.2.1 dX4_wouldGain_28 hl (by decide) rfl (fun ls hl => ?_)
    refine x_choices C hw (List.mem_of_getElem? (i := 15) rfl) dX4_wouldGain_30 ?_
    refine lv_astore (lv' := [(6, .ref X.2.2.2.2), (5, .int (q4.1)), (4, .int (q1.1)), (0, .ref (X.2.2.1 1 (0))), (1, .int (x1)), (2, .int (x2)), (3, .int (x3))]) C.1 C.2.1 dX4_wouldGain_33 hl (by decide) rfl (fun ls hl => ?_)
    refine lv_aload C.1 C.2.1 dX4_wouldGain_35 (lv_at hl 0 rfl) ?_
    refine x_chlen C hw dX4_wouldGain_37 ?_
    refine lv_istore (lv' := [(7, .int ((3 : Int32))), (6, .ref X.2.2.2.2), (5, .int (q4.1)), (4, .int (q1.1)), (0, .ref (X.2.2.1 1 (0))), (1, .int (x1)), (2, .int (x2)), (3, .int (x3))]) C.1 C.2.1 dX4_wouldGain_38 hl (by decide) rfl (fun ls hl => ?_)
    refine lv_iconst (v := (0 : Int32)) C.1 C.2.1 dX4_wouldGain_40 (by decide) ?_
    refine lv_istore (lv' := [(8, .int ((0 : Int32))), (7, .int ((3 : Int32))), (6, .ref X.2.2.2.2), (5, .int (q4.1)), (4, .int (q1.1)), (0, .ref (X.2.2.1 1 (0))), (1, .int (x1)), (2, .int (x2)), (3, .int (x3))]) C.1 C.2.1 dX4_wouldGain_41 hl (by decide) rfl (fun ls hl => ?_)
    exact w_X4_wouldGain_43 x1 x2 x3  C hr hk R0   64 q1.1 q4.1 (3 : Int32) (0 : Int32) q4.2  hD _ _ hw _ (lv_sub hl [5, 6, 7, 8, 4, 3, 2, 1, 0] rfl)
  · replace hD := (if_pos c3).symm.trans hD
    refine lv_iconst (v := (0 : Int32)) C.1 C.2.1 dX4_wouldGain_16 (by decide) ?_
    obtain rfl := Option.some.inj hD
    exact x_zret (v := (0 : Int32)) C hw hr hk nb0 dX4_wouldGain_17
theorem kw_286 : Cond.code yX4_wouldGain cX4_wouldGain 11 (some .boolean) ∈ gtbl := gm2 204 rfl rfl
theorem nd_X4_wouldGain : (yX4_wouldGain).cls ≠ "java/lang/invoke/MethodHandle" ∧ (yX4_wouldGain).cls ≠ "java/lang/invoke/VarHandle" ∧ (parseMethodDescriptor (yX4_wouldGain).desc).map (fun d => d.parameters.length) = some 3 := by decide +kernel
theorem kw_288 : Cond.instanceMethod yX4_wouldGain ∈ gtbl := gm2 202 rfl rfl
theorem kw_289 : Cond.selects RX4 yX4_wouldGain yX4_wouldGain ∈ gtbl := gm2 203 rfl rfl
theorem cV_X4_wouldGain : xcV yX4_wouldGain cX4_wouldGain 11 (some .boolean) 3 := ⟨⟨kw_286, kw_89, nd_X4_wouldGain⟩, kw_288, kw_289⟩
theorem kw_291 : Cond.methodLink RX9 178 yX4_wouldGain ∈ gtbl := gm2 201 rfl rfl
abbrev rm_X9_peace : Room := { frames := 5, cells := 0, slots := 0, locals := 127 }
def J_X9_peace_64 (x1 : Int32) (k27_ : Int32 → Int32 → XS → Option (Int32 × XS)) (y2 : Int32) (y3 : Int32) (z : XS) : Option (Int32 × XS) :=
  k27_ (y2 ||| ((1 : Int32) <<< (y3 &&& 31))) (y3 + 1) z
set_option maxHeartbeats 4000000 in
set_option maxRecDepth 100000 in
theorem w_X9_peace_64 {p : Program} {l : Launch} {e : Env} {s : State} {m : MethodId} {below : List Frame} {meth : Method} {c : Code} {X : XC} {ex : va_W} (x1 : Int32) (C : CallFix p m c cX9_peace 4 s (([.ref (X.2.2.1 0 (0)), .int (x1)] : List Value).toArray) gtbl RX9) (hr : meth.sig.returnType = (some .int)) (hk : meth.locks = false) (R0 : Int32 × XS) (k27_ : Int32 → Int32 → XS → Option (Int32 × XS)) (hk27_ : ∀ (y2 : Int32) (y3 : Int32) (z : XS), k27_ y2 y3 z = some R0 → ∀ (H : Heap) (locs : List Loc), xw X ex z s H locs → ∀ (ls : Array Slot), lv_has ls 4 [(0, .ref (X.2.2.1 0 (0))), (1, .int (x1)), (2, .int (y2)), (3, .int (y3))] → W p l e rm_X9_peace s m (([.ref (X.2.2.1 0 (0)), .int (x1)] : List Value).toArray) below meth c H locs 0 0 (MQ below (xQi X ex R0.2 R0.1) (([.ref (X.2.2.1 0 (0)), .int (x1)] : List Value).toArray) s 0 0 (xA X)) (F0 m 27 ls [])) : ∀ (y2 : Int32) (y3 : Int32) (z : XS), J_X9_peace_64 x1 k27_ y2 y3 z = some R0 → ∀ (H : Heap) (locs : List Loc), xw X ex z s H locs → ∀ (ls : Array Slot), lv_has ls 4 [(0, .ref (X.2.2.1 0 (0))), (1, .int (x1)), (2, .int (y2)), (3, .int (y3))] → W p l e rm_X9_peace s m (([.ref (X.2.2.1 0 (0)), .int (x1)] : List Value).toArray) below meth c H locs 0 0 (MQ below (xQi X ex R0.2 R0.1) (([.ref (X.2.2.1 0 (0)), .int (x1)] : List Value).toArray) s 0 0 (xA X)) (F0 m 64 ls []) := by
  intro y2 y3 z  hD H locs hw ls hl
  unfold J_X9_peace_64 at hD
  refine lv_iload_n C.1 C.2.1 dX9_peace_64 rfl (lv_at hl 2 rfl) ?_
  refine lv_iconst (v := (1 : Int32)) C.1 C.2.1 dX9_peace_65 (by decide) ?_
  refine lv_iload_n C.1 C.2.1 dX9_peace_66 rfl (lv_at hl 3 rfl) ?_
  refine lv_ishl C.1 C.2.1 dX9_peace_67 ?_
  refine lv_ior C.1 C.2.1 dX9_peace_68 ?_
  refine lv_istore_n (lv' := [(2, .int (y2 ||| ((1 : Int32) <<< (y3 &&& 31)))), (0, .ref (X.2.2.1 0 (0))), (1, .int (x1)), (3, .int (y3))]) C.1 C.2.1 dX9_peace_69 rfl hl (by decide) rfl (fun ls hl => ?_)
  refine lv_iinc (v := y3 + 1) (lv' := [(3, .int (y3 + 1)), (2, .int (y2 ||| ((1 : Int32) <<< (y3 &&& 31)))), (0, .ref (X.2.2.1 0 (0))), (1, .int (x1))]) C.1 C.2.1 dX9_peace_70 hl (k := 3) rfl rfl (by decide) rfl (fun ls hl => ?_)
  refine lv_goto (tgt := 27) C.1 C.2.1 dX9_peace_73 (by decide) ?_
  exact hk27_ (y2 ||| ((1 : Int32) <<< (y3 &&& 31))) (y3 + 1) z  hD _ _ hw _ (lv_sub hl [2, 3, 1, 0] rfl)
def B_X9_peace_27 (x1 : Int32) (k27_ : Int32 → Int32 → XS → Option (Int32 × XS)) (y2 : Int32) (y3 : Int32) (z : XS) : Option (Int32 × XS) :=
  (if gS z 1 2 0 ≤ y3 then some (y2, z) else (D_X4_wouldGain y3 (0 : Int32) x1 z).bind fun q5 => ((if q5.1 = 0 then (D_X4_wouldGain y3 (1 : Int32) x1 q5.2).bind fun q7 => ((if q7.1 = 0 then k27_ y2 (y3 + 1) q7.2 else J_X9_peace_64 x1 k27_ y2 y3 q7.2)) else J_X9_peace_64 x1 k27_ y2 y3 q5.2)))
def L_X9_peace_27 (x1 : Int32) : Nat → Int32 → Int32 → XS → Option (Int32 × XS)
  | 0 => fun _ _ _ => none
  | n + 1 => B_X9_peace_27 x1  (L_X9_peace_27 x1  n)
set_option maxHeartbeats 4000000 in
set_option maxRecDepth 100000 in
theorem w_X9_peace_27 {p : Program} {l : Launch} {e : Env} {s : State} {m : MethodId} {below : List Frame} {meth : Method} {c : Code} {X : XC} {ex : va_W} (x1 : Int32) (C : CallFix p m c cX9_peace 4 s (([.ref (X.2.2.1 0 (0)), .int (x1)] : List Value).toArray) gtbl RX9) (hr : meth.sig.returnType = (some .int)) (hk : meth.locks = false) (R0 : Int32 × XS)  : ∀ (n : Nat), ∀ (y2 : Int32) (y3 : Int32) (z : XS), L_X9_peace_27 x1  n y2 y3 z = some R0 → ∀ (H : Heap) (locs : List Loc), xw X ex z s H locs → ∀ (ls : Array Slot), lv_has ls 4 [(0, .ref (X.2.2.1 0 (0))), (1, .int (x1)), (2, .int (y2)), (3, .int (y3))] → W p l e rm_X9_peace s m (([.ref (X.2.2.1 0 (0)), .int (x1)] : List Value).toArray) below meth c H locs 0 0 (MQ below (xQi X ex R0.2 R0.1) (([.ref (X.2.2.1 0 (0)), .int (x1)] : List Value).toArray) s 0 0 (xA X)) (F0 m 27 ls []) := by
  intro n
  induction n with
  | zero =>
    intro y2 y3 z  hD
    cases hD
  | succ n ih =>
    intro y2 y3 z  hD H locs hw ls hl
    replace hD : B_X9_peace_27 x1  (L_X9_peace_27 x1  n) y2 y3 z = some R0 := hD
    unfold B_X9_peace_27 at hD
    refine lv_iload_n C.1 C.2.1 dX9_peace_27 rfl (lv_at hl 3 rfl) ?_
    refine lv_aload_n C.1 C.2.1 dX9_peace_28 rfl (lv_at hl 0 rfl) ?_
    refine gf_X9_0 C hw kw_86 dX9_peace_29 ?_
    refine gNf_X4_2 C hw (List.mem_of_getElem? (i := 8) rfl) dX9_peace_32 ?_
    refine lv_icmp_ge (tgt := 76) C.1 C.2.1 dX9_peace_35 (by decide) (fun c4 => ?_) (fun c4 => ?_)
    · replace hD := (if_pos c4).symm.trans hD
      refine lv_iload_n C.1 C.2.1 dX9_peace_76 rfl (lv_at hl 2 rfl) ?_
      obtain rfl := Option.some.inj hD
      exact x_iret C hw hr hk dX9_peace_77
    · replace hD := (if_neg c4).symm.trans hD
      refine lv_aload_n C.1 C.2.1 dX9_peace_38 rfl (lv_at hl 0 rfl) ?_
      refine gf_X9_0 C hw kw_86 dX9_peace_39 ?_
      refine lv_iload_n C.1 C.2.1 dX9_peace_42 rfl (lv_at hl 3 rfl) ?_
      refine lv_iconst (v := (0 : Int32)) C.1 C.2.1 dX9_peace_43 (by decide) ?_
      refine lv_iload_n C.1 C.2.1 dX9_peace_44 rfl (lv_at hl 1 rfl) ?_
      obtain ⟨q5, hq5, hD⟩ := Option.bind_eq_some_iff.mp hD
      refine x_goi hw (x_runV (As := [.int (y3), .int ((0 : Int32)), .int (x1)]) (rest := []) (k := 1) (j := 0) C hw (Nat.le_of_ble_eq_true rfl) rfl rfl cV_X4_wouldGain kw_291 (c_X4_wouldGain l X ex y3 (0 : Int32) x1  z q5 hq5) ⟨Nat.le_of_ble_eq_true rfl, Nat.le_of_ble_eq_true rfl⟩ rfl hl.1 rfl (Nat.le_of_ble_eq_true rfl) dX9_peace_45 ⟨Nat.le_of_ble_eq_true rfl, Nat.le_of_ble_eq_true rfl⟩) (fun H locs hw => ?_)
      refine lv_if_ne (tgt := 64) C.1 C.2.1 dX9_peace_48 (by decide) (fun c6 => ?_) (fun c6 => ?_)
      · replace hD := (if_neg c6).symm.trans hD
        exact w_X9_peace_64 x1  C hr hk R0 (L_X9_peace_27 x1  n) ih y2 y3 q5.2  hD _ _ hw _ (lv_sub hl [0, 1, 2, 3] rfl)
      · replace hD := (if_pos c6).symm.trans hD
        refine lv_aload_n C.1 C.2.1 dX9_peace_51 rfl (lv_at hl 0 rfl) ?_
        refine gf_X9_0 C hw kw_86 dX9_peace_52 ?_
        refine lv_iload_n C.1 C.2.1 dX9_peace_55 rfl (lv_at hl 3 rfl) ?_
        refine lv_iconst (v := (1 : Int32)) C.1 C.2.1 dX9_peace_56 (by decide) ?_
        refine lv_iload_n C.1 C.2.1 dX9_peace_57 rfl (lv_at hl 1 rfl) ?_
        obtain ⟨q7, hq7, hD⟩ := Option.bind_eq_some_iff.mp hD
        refine x_goi hw (x_runV (As := [.int (y3), .int ((1 : Int32)), .int (x1)]) (rest := []) (k := 1) (j := 0) C hw (Nat.le_of_ble_eq_true rfl) rfl rfl cV_X4_wouldGain kw_291 (c_X4_wouldGain l X ex y3 (1 : Int32) x1  q5.2 q7 hq7) ⟨Nat.le_of_ble_eq_true rfl, Nat.le_of_ble_eq_true rfl⟩ rfl hl.1 rfl (Nat.le_of_ble_eq_true rfl) dX9_peace_58 ⟨Nat.le_of_ble_eq_true rfl, Nat.le_of_ble_eq_true rfl⟩) (fun H locs hw => ?_)
        refine lv_if_eq (tgt := 70) C.1 C.2.1 dX9_peace_61 (by decide) (fun c8 => ?_) (fun c8 => ?_)
        · replace hD := (if_pos c8).symm.trans hD
          refine lv_iinc (v := y3 + 1) (lv' := [(3, .int (y3 + 1)), (0, .ref (X.2.2.1 0 (0))), (1, .int (x1)), (2, .int (y2))]) C.1 C.2.1 dX9_peace_70 hl (k := 3) rfl rfl (by decide) rfl (fun ls hl => ?_)
          refine lv_goto (tgt := 27) C.1 C.2.1 dX9_peace_73 (by decide) ?_
          exact ih y2 (y3 + 1) q7.2  hD _ _ hw _ (lv_sub hl [1, 2, 3, 0] rfl)
        · replace hD := (if_neg c8).symm.trans hD
          exact w_X9_peace_64 x1  C hr hk R0 (L_X9_peace_27 x1  n) ih y2 y3 q7.2  hD _ _ hw _ (lv_sub hl [0, 1, 2, 3] rfl)
def D_X9_peace (x1 : Int32) (z : XS) : Option (Int32 × XS) :=
  (D_X9_isDay x1 z).bind fun q1 => ((if q1.1 = 0 then some ((-2 : Int32), q1.2) else (if gS q1.2 1 2 0 = 0 then some ((-3 : Int32), q1.2) else L_X9_peace_27 x1  64 (0 : Int32) (0 : Int32) q1.2)))
set_option maxHeartbeats 4000000 in
set_option maxRecDepth 100000 in
theorem c_X9_peace (l : Launch) (X : XC) (ex : va_W) (x1 : Int32) (z : XS) (R0 : Int32 × XS) (hD : D_X9_peace x1 z = some R0) : xM l X ex yX9_peace cX9_peace 4 (some .int) rm_X9_peace [.ref (X.2.2.1 0 (0)), .int (x1)] z (xQi X ex R0.2 R0.1) := by
  refine x_ent (by decide) (Nat.le_of_ble_eq_true rfl) ?_
  intro p e s m below meth c ls C hr hk hw hl
  replace hl : lv_has ls 4 [(0, .ref (X.2.2.1 0 (0))), (1, .int (x1))] := hl
  unfold D_X9_peace at hD
  refine lv_iload_n C.1 C.2.1 dX9_peace_0 rfl (lv_at hl 1 rfl) ?_
  obtain ⟨q1, hq1, hD⟩ := Option.bind_eq_some_iff.mp hD
  refine x_goi hw (x_runS (As := [.int (x1)]) (rest := []) C hw cS_X9_isDay kw_135 (c_X9_isDay l X ex x1  z q1 hq1) ⟨Nat.le_of_ble_eq_true rfl, Nat.le_of_ble_eq_true rfl⟩ rfl hl.1 rfl (Nat.le_of_ble_eq_true rfl) dX9_peace_1 ⟨Nat.le_of_ble_eq_true rfl, Nat.le_of_ble_eq_true rfl⟩) (fun H locs hw => ?_)
  refine lv_if_ne (tgt := 10) C.1 C.2.1 dX9_peace_4 (by decide) (fun c2 => ?_) (fun c2 => ?_)
  · replace hD := (if_neg c2).symm.trans hD
    refine lv_aload_n C.1 C.2.1 dX9_peace_10 rfl (lv_at hl 0 rfl) ?_
    refine gf_X9_0 C hw kw_86 dX9_peace_11 ?_
    refine gNf_X4_2 C hw (List.mem_of_getElem? (i := 8) rfl) dX9_peace_14 ?_
    refine lv_if_ne (tgt := 23) C.1 C.2.1 dX9_peace_17 (by decide) (fun c3 => ?_) (fun c3 => ?_)
    · replace hD := (if_neg c3).symm.trans hD
      refine lv_iconst (v := (0 : Int32)) C.1 C.2.1 dX9_peace_23 (by decide) ?_
      refine lv_istore_n (lv' := [(2, .int ((0 : Int32))), (0, .ref (X.2.2.1 0 (0))), (1, .int (x1))]) C.1 C.2.1 dX9_peace_24 rfl hl (by decide) rfl (fun ls hl => ?_)
      refine lv_iconst (v := (0 : Int32)) C.1 C.2.1 dX9_peace_25 (by decide) ?_
      refine lv_istore_n (lv' := [(3, .int ((0 : Int32))), (2, .int ((0 : Int32))), (0, .ref (X.2.2.1 0 (0))), (1, .int (x1))]) C.1 C.2.1 dX9_peace_26 rfl hl (by decide) rfl (fun ls hl => ?_)
      exact w_X9_peace_27 x1  C hr hk R0   64 (0 : Int32) (0 : Int32) q1.2  hD _ _ hw _ (lv_sub hl [2, 3, 1, 0] rfl)
    · replace hD := (if_pos c3).symm.trans hD
      refine lv_bipush (v := (-3 : Int32)) C.1 C.2.1 dX9_peace_20 (by decide) ?_
      obtain rfl := Option.some.inj hD
      exact x_iret C hw hr hk dX9_peace_22
  · replace hD := (if_pos c2).symm.trans hD
    refine lv_bipush (v := (-2 : Int32)) C.1 C.2.1 dX9_peace_7 (by decide) ?_
    obtain rfl := Option.some.inj hD
    exact x_iret C hw hr hk dX9_peace_9
abbrev rm_X0_inchesAbove : Room := { frames := 1, cells := 0, slots := 0, locals := 13 }
def D_X0_inchesAbove (j0 : Nat) (x1 : Int32) (x2 : Int32) (x3 : Int32) (z : XS) : Option (Int32 × XS) :=
  gd (inB x1 2) (gd (inB x2 31) (some (if (0 : Int32) < (gA z 14 (2 * j0 + x1.toNatClampNeg) x2.toNatClampNeg) - ((12 : Int32) * x3) then (gA z 14 (2 * j0 + x1.toNatClampNeg) x2.toNatClampNeg) - ((12 : Int32) * x3) else (0 : Int32), z)))
set_option maxHeartbeats 4000000 in
set_option maxRecDepth 100000 in
theorem c_X0_inchesAbove (l : Launch) (X : XC) (ex : va_W) (j0 : Nat) (x1 : Int32) (x2 : Int32) (x3 : Int32) (hj0 : j0 < 6) (z : XS) (R0 : Int32 × XS) (hD : D_X0_inchesAbove j0 x1 x2 x3 z = some R0) : xM l X ex yX0_inchesAbove cX0_inchesAbove 4 (some .int) rm_X0_inchesAbove [.ref (X.2.2.1 9 (j0)), .int (x1), .int (x2), .int (x3)] z (xQi X ex R0.2 R0.1) := by
  refine x_ent (by decide) (Nat.le_of_ble_eq_true rfl) ?_
  intro p e s m below meth c ls C hr hk hw hl
  replace hl : lv_has ls 4 [(0, .ref (X.2.2.1 9 (j0))), (1, .int (x1)), (2, .int (x2)), (3, .int (x3))] := hl
  unfold D_X0_inchesAbove at hD
  refine lv_iconst (v := (0 : Int32)) C.1 C.2.1 dX0_inchesAbove_0 (by decide) ?_
  refine lv_aload_n C.1 C.2.1 dX0_inchesAbove_1 rfl (lv_at hl 0 rfl) ?_
  refine gf_X0_2 C hw (j := j0) hj0 kw_75 dX0_inchesAbove_2 ?_
  refine lv_iload_n C.1 C.2.1 dX0_inchesAbove_5 rfl (lv_at hl 1 rfl) ?_
  obtain ⟨g1, hD⟩ := gd_some hD
  refine x_aald (k := 13) (j := j0) (f := fun i => X.2.2.1 14 (2 * j0 + i)) C hw hj0 1 rfl rfl rfl (inB_in g1) (a := X.2.2.1 14 (2 * j0 + x1.toNatClampNeg)) rfl dX0_inchesAbove_6 ?_
  refine lv_iload_n C.1 C.2.1 dX0_inchesAbove_7 rfl (lv_at hl 2 rfl) ?_
  obtain ⟨g2, hD⟩ := gd_some hD
  refine x_iald (k := 14) (j := 2 * j0 + x1.toNatClampNeg) C hw rfl (x_lt2 hj0 (inB_lt g1)) (inB_in g2) dX0_inchesAbove_8 ?_
  refine lv_bipush (v := (12 : Int32)) C.1 C.2.1 dX0_inchesAbove_9 (by decide) ?_
  refine lv_iload_n C.1 C.2.1 dX0_inchesAbove_11 rfl (lv_at hl 3 rfl) ?_
  refine lv_imul C.1 C.2.1 dX0_inchesAbove_12 ?_
  refine lv_isub C.1 C.2.1 dX0_inchesAbove_13 ?_
  refine va_mmax C.1 C.2.1 (C.2.2.1.trans hl.1.symm) C.2.2.2.1 (C.2.2.2.2 _ kw_68) (C.2.2.2.2 _ kw_69) (C.2.2.2.2 _ kw_66) (C.2.2.2.2 _ kw_70) (Nat.le_of_ble_eq_true rfl) (Nat.le_of_ble_eq_true rfl) (Nat.le_of_ble_eq_true rfl) (Nat.le_of_ble_eq_true rfl) dX0_inchesAbove_14 ?_
  obtain rfl := Option.some.inj hD
  exact x_iret C hw hr hk dX0_inchesAbove_17
theorem kw_292 : Cond.code yX0_inchesAbove cX0_inchesAbove 4 (some .int) ∈ gtbl := gm2 227 rfl rfl
theorem nd_X0_inchesAbove : (yX0_inchesAbove).cls ≠ "java/lang/invoke/MethodHandle" ∧ (yX0_inchesAbove).cls ≠ "java/lang/invoke/VarHandle" ∧ (parseMethodDescriptor (yX0_inchesAbove).desc).map (fun d => d.parameters.length) = some 3 := by decide +kernel
theorem kw_294 : Cond.instanceMethod yX0_inchesAbove ∈ gtbl := gm2 226 rfl rfl
theorem kw_295 : Cond.selects RX0 yX0_inchesAbove yX0_inchesAbove ∈ gtbl := gm0 4 rfl rfl
theorem cV_X0_inchesAbove : xcV yX0_inchesAbove cX0_inchesAbove 4 (some .int) 3 := ⟨⟨kw_292, kw_78, nd_X0_inchesAbove⟩, kw_294, kw_295⟩
theorem kw_297 : Cond.methodLink RX0 69 yX0_inchesAbove ∈ gtbl := gm2 224 rfl rfl
abbrev rm_X0_clippingMinutes : Room := { frames := 2, cells := 0, slots := 0, locals := 36 }
def D_X0_clippingMinutes (j0 : Nat) (x1 : Int32) (x2 : Int32) (z : XS) : Option (Int32 × XS) :=
  (D_X0_inchesAbove j0 (0 : Int32) x1 x2 z).bind fun q1 => ((D_X0_inchesAbove j0 (1 : Int32) x1 x2 q1.2).bind fun q2 => (some ((((q1.1 + q2.1) + (12 : Int32)) - (1 : Int32)) / (12 : Int32), q2.2)))
set_option maxHeartbeats 4000000 in
set_option maxRecDepth 100000 in
theorem c_X0_clippingMinutes (l : Launch) (X : XC) (ex : va_W) (j0 : Nat) (x1 : Int32) (x2 : Int32) (hj0 : j0 < 6) (z : XS) (R0 : Int32 × XS) (hD : D_X0_clippingMinutes j0 x1 x2 z = some R0) : xM l X ex yX0_clippingMinutes cX0_clippingMinutes 4 (some .int) rm_X0_clippingMinutes [.ref (X.2.2.1 9 (j0)), .int (x1), .int (x2)] z (xQi X ex R0.2 R0.1) := by
  refine x_ent (by decide) (Nat.le_of_ble_eq_true rfl) ?_
  intro p e s m below meth c ls C hr hk hw hl
  replace hl : lv_has ls 4 [(0, .ref (X.2.2.1 9 (j0))), (1, .int (x1)), (2, .int (x2))] := hl
  unfold D_X0_clippingMinutes at hD
  refine lv_aload_n C.1 C.2.1 dX0_clippingMinutes_0 rfl (lv_at hl 0 rfl) ?_
  refine lv_iconst (v := (0 : Int32)) C.1 C.2.1 dX0_clippingMinutes_1 (by decide) ?_
  refine lv_iload_n C.1 C.2.1 dX0_clippingMinutes_2 rfl (lv_at hl 1 rfl) ?_
  refine lv_iload_n C.1 C.2.1 dX0_clippingMinutes_3 rfl (lv_at hl 2 rfl) ?_
  obtain ⟨q1, hq1, hD⟩ := Option.bind_eq_some_iff.mp hD
  refine x_goi hw (x_runV (As := [.int ((0 : Int32)), .int (x1), .int (x2)]) (rest := []) (k := 9) (j := j0) C hw hj0 rfl rfl cV_X0_inchesAbove kw_297 (c_X0_inchesAbove l X ex j0 (0 : Int32) x1 x2 hj0 z q1 hq1) ⟨Nat.le_of_ble_eq_true rfl, Nat.le_of_ble_eq_true rfl⟩ rfl hl.1 rfl (Nat.le_of_ble_eq_true rfl) dX0_clippingMinutes_4 ⟨Nat.le_of_ble_eq_true rfl, Nat.le_of_ble_eq_true rfl⟩) (fun H locs hw => ?_)
  refine lv_aload_n C.1 C.2.1 dX0_clippingMinutes_7 rfl (lv_at hl 0 rfl) ?_
  refine lv_iconst (v := (1 : Int32)) C.1 C.2.1 dX0_clippingMinutes_8 (by decide) ?_
  refine lv_iload_n C.1 C.2.1 dX0_clippingMinutes_9 rfl (lv_at hl 1 rfl) ?_
  refine lv_iload_n C.1 C.2.1 dX0_clippingMinutes_10 rfl (lv_at hl 2 rfl) ?_
  obtain ⟨q2, hq2, hD⟩ := Option.bind_eq_some_iff.mp hD
  refine x_goi hw (x_runV (As := [.int ((1 : Int32)), .int (x1), .int (x2)]) (rest := [.int (q1.1)]) (k := 9) (j := j0) C hw hj0 rfl rfl cV_X0_inchesAbove kw_297 (c_X0_inchesAbove l X ex j0 (1 : Int32) x1 x2 hj0 q1.2 q2 hq2) ⟨Nat.le_of_ble_eq_true rfl, Nat.le_of_ble_eq_true rfl⟩ rfl hl.1 rfl (Nat.le_of_ble_eq_true rfl) dX0_clippingMinutes_11 ⟨Nat.le_of_ble_eq_true rfl, Nat.le_of_ble_eq_true rfl⟩) (fun H locs hw => ?_)
  refine lv_iadd C.1 C.2.1 dX0_clippingMinutes_14 ?_
  refine lv_istore_n (lv' := [(3, .int (q1.1 + q2.1)), (0, .ref (X.2.2.1 9 (j0))), (1, .int (x1)), (2, .int (x2))]) C.1 C.2.1 dX0_clippingMinutes_15 rfl hl (by decide) rfl (fun ls hl => ?_)
  refine lv_iload_n C.1 C.2.1 dX0_clippingMinutes_16 rfl (lv_at hl 0 rfl) ?_
  refine lv_bipush (v := (12 : Int32)) C.1 C.2.1 dX0_clippingMinutes_17 (by decide) ?_
  refine lv_iadd C.1 C.2.1 dX0_clippingMinutes_19 ?_
  refine lv_iconst (v := (1 : Int32)) C.1 C.2.1 dX0_clippingMinutes_20 (by decide) ?_
  refine lv_isub C.1 C.2.1 dX0_clippingMinutes_21 ?_
  refine lv_bipush (v := (12 : Int32)) C.1 C.2.1 dX0_clippingMinutes_22 (by decide) ?_
  refine lv_idiv C.1 C.2.1 dX0_clippingMinutes_24 (by decide) ?_
  obtain rfl := Option.some.inj hD
  exact x_iret C hw hr hk dX0_clippingMinutes_25
theorem kw_298 : Cond.code yX0_clippingMinutes cX0_clippingMinutes 4 (some .int) ∈ gtbl := gm2 223 rfl rfl
theorem nd_X0_clippingMinutes : (yX0_clippingMinutes).cls ≠ "java/lang/invoke/MethodHandle" ∧ (yX0_clippingMinutes).cls ≠ "java/lang/invoke/VarHandle" ∧ (parseMethodDescriptor (yX0_clippingMinutes).desc).map (fun d => d.parameters.length) = some 2 := by decide +kernel
theorem kw_300 : Cond.instanceMethod yX0_clippingMinutes ∈ gtbl := gm2 221 rfl rfl
theorem kw_301 : Cond.selects RX0 yX0_clippingMinutes yX0_clippingMinutes ∈ gtbl := gm2 222 rfl rfl
theorem cV_X0_clippingMinutes : xcV yX0_clippingMinutes cX0_clippingMinutes 4 (some .int) 2 := ⟨⟨kw_298, kw_78, nd_X0_clippingMinutes⟩, kw_300, kw_301⟩
theorem kw_303 : Cond.methodLink RX4 118 yX0_clippingMinutes ∈ gtbl := gm2 220 rfl rfl
abbrev rm_X4_roundMinutes : Room := { frames := 3, cells := 0, slots := 0, locals := 59 }
def B_X4_roundMinutes_8 (x1 : Int32) (x2 : Int32) (k8_ : Int32 → Int32 → Int32 → XS → Option (Int32 × XS)) (y3 : Int32) (y4 : Int32) (y5 : Int32) (z : XS) : Option (Int32 × XS) :=
  (if (gS z 1 2 0) - (1 : Int32) ≤ y5 then some (y3 + y4, z) else gd (inB y5 6) ((D_X0_clippingMinutes y5.toNatClampNeg x1 x2 z).bind fun q3 => ((if q3.1 ≤ 0 then k8_ y3 (y4 + q3.1) (y5 + 1) q3.2 else k8_ y5 (y4 + q3.1) (y5 + 1) q3.2))))
def L_X4_roundMinutes_8 (x1 : Int32) (x2 : Int32) : Nat → Int32 → Int32 → Int32 → XS → Option (Int32 × XS)
  | 0 => fun _ _ _ _ => none
  | n + 1 => B_X4_roundMinutes_8 x1 x2  (L_X4_roundMinutes_8 x1 x2  n)
set_option maxHeartbeats 4000000 in
set_option maxRecDepth 100000 in
theorem w_X4_roundMinutes_8 {p : Program} {l : Launch} {e : Env} {s : State} {m : MethodId} {below : List Frame} {meth : Method} {c : Code} {X : XC} {ex : va_W} (x1 : Int32) (x2 : Int32) (C : CallFix p m c cX4_roundMinutes 7 s (([.ref (X.2.2.1 1 (0)), .int (x1), .int (x2)] : List Value).toArray) gtbl RX4) (hr : meth.sig.returnType = (some .int)) (hk : meth.locks = false) (R0 : Int32 × XS)  : ∀ (n : Nat), ∀ (y3 : Int32) (y4 : Int32) (y5 : Int32) (z : XS), L_X4_roundMinutes_8 x1 x2  n y3 y4 y5 z = some R0 → ∀ (H : Heap) (locs : List Loc), xw X ex z s H locs → ∀ (ls : Array Slot), lv_has ls 7 [(0, .ref (X.2.2.1 1 (0))), (1, .int (x1)), (2, .int (x2)), (3, .int (y3)), (4, .int (y4)), (5, .int (y5))] → W p l e rm_X4_roundMinutes s m (([.ref (X.2.2.1 1 (0)), .int (x1), .int (x2)] : List Value).toArray) below meth c H locs 0 0 (MQ below (xQi X ex R0.2 R0.1) (([.ref (X.2.2.1 1 (0)), .int (x1), .int (x2)] : List Value).toArray) s 0 0 (xA X)) (F0 m 8 ls []) := by
  intro n
  induction n with
  | zero =>
    intro y3 y4 y5 z  hD
    cases hD
  | succ n ih =>
    intro y3 y4 y5 z  hD H locs hw ls hl
    replace hD : B_X4_roundMinutes_8 x1 x2  (L_X4_roundMinutes_8 x1 x2  n) y3 y4 y5 z = some R0 := hD
    unfold B_X4_roundMinutes_8 at hD
    refine lv_iload C.1 C.2.1 dX4_roundMinutes_8 (lv_at hl 5 rfl) ?_
    refine lv_aload_n C.1 C.2.1 dX4_roundMinutes_10 rfl (lv_at hl 0 rfl) ?_
    refine gf_X4_2 C hw kw_39 dX4_roundMinutes_11 ?_
    refine lv_iconst (v := (1 : Int32)) C.1 C.2.1 dX4_roundMinutes_14 (by decide) ?_
    refine lv_isub C.1 C.2.1 dX4_roundMinutes_15 ?_
    refine lv_icmp_ge (tgt := 54) C.1 C.2.1 dX4_roundMinutes_16 (by decide) (fun c1 => ?_) (fun c1 => ?_)
    · replace hD := (if_pos c1).symm.trans hD
      refine lv_iload_n C.1 C.2.1 dX4_roundMinutes_54 rfl (lv_at hl 3 rfl) ?_
      refine lv_iload C.1 C.2.1 dX4_roundMinutes_55 (lv_at hl 4 rfl) ?_
      refine lv_iadd C.1 C.2.1 dX4_roundMinutes_57 ?_
      obtain rfl := Option.some.inj hD
      exact x_iret C hw hr hk dX4_roundMinutes_58
    · replace hD := (if_neg c1).symm.trans hD
      refine lv_aload_n C.1 C.2.1 dX4_roundMinutes_19 rfl (lv_at hl 0 rfl) ?_
      refine gf_X4_1 C hw kw_184 dX4_roundMinutes_20 ?_
      refine lv_iload C.1 C.2.1 dX4_roundMinutes_23 (lv_at hl 5 rfl) ?_
      obtain ⟨g2, hD⟩ := gd_some hD
      refine x_aald (k := 8) (j := 0) (f := fun i => X.2.2.1 9 i) C hw (Nat.le_of_ble_eq_true rfl) 2 rfl rfl rfl (inB_in g2) (a := X.2.2.1 9 (y5.toNatClampNeg)) rfl dX4_roundMinutes_25 ?_
      refine lv_iload_n C.1 C.2.1 dX4_roundMinutes_26 rfl (lv_at hl 1 rfl) ?_
      refine lv_iload_n C.1 C.2.1 dX4_roundMinutes_27 rfl (lv_at hl 2 rfl) ?_
      obtain ⟨q3, hq3, hD⟩ := Option.bind_eq_some_iff.mp hD
      refine x_goi hw (x_runV (As := [.int (x1), .int (x2)]) (rest := []) (k := 9) (j := y5.toNatClampNeg) C hw (inB_lt g2) rfl rfl cV_X0_clippingMinutes kw_303 (c_X0_clippingMinutes l X ex y5.toNatClampNeg x1 x2 (inB_lt g2) z q3 hq3) ⟨Nat.le_of_ble_eq_true rfl, Nat.le_of_ble_eq_true rfl⟩ rfl hl.1 rfl (Nat.le_of_ble_eq_true rfl) dX4_roundMinutes_28 ⟨Nat.le_of_ble_eq_true rfl, Nat.le_of_ble_eq_true rfl⟩) (fun H locs hw => ?_)
      refine lv_istore (lv' := [(6, .int (q3.1)), (0, .ref (X.2.2.1 1 (0))), (1, .int (x1)), (2, .int (x2)), (3, .int (y3)), (4, .int (y4)), (5, .int (y5))]) C.1 C.2.1 dX4_roundMinutes_31 hl (by decide) rfl (fun ls hl => ?_)
      refine lv_iload C.1 C.2.1 dX4_roundMinutes_33 (lv_at hl 0 rfl) ?_
      refine lv_if_le (tgt := 41) C.1 C.2.1 dX4_roundMinutes_35 (by decide) (fun c4 => ?_) (fun c4 => ?_)
      · replace hD := (if_pos c4).symm.trans hD
        refine lv_iload C.1 C.2.1 dX4_roundMinutes_41 (lv_at hl 5 rfl) ?_
        refine lv_iload C.1 C.2.1 dX4_roundMinutes_43 (lv_at hl 0 rfl) ?_
        refine lv_iadd C.1 C.2.1 dX4_roundMinutes_45 ?_
        refine lv_istore (lv' := [(4, .int (y4 + q3.1)), (6, .int (q3.1)), (0, .ref (X.2.2.1 1 (0))), (1, .int (x1)), (2, .int (x2)), (3, .int (y3)), (5, .int (y5))]) C.1 C.2.1 dX4_roundMinutes_46 hl (by decide) rfl (fun ls hl => ?_)
        refine lv_iinc (v := y5 + 1) (lv' := [(5, .int (y5 + 1)), (4, .int (y4 + q3.1)), (6, .int (q3.1)), (0, .ref (X.2.2.1 1 (0))), (1, .int (x1)), (2, .int (x2)), (3, .int (y3))]) C.1 C.2.1 dX4_roundMinutes_48 hl (k := 6) rfl rfl (by decide) rfl (fun ls hl => ?_)
        refine lv_goto (tgt := 8) C.1 C.2.1 dX4_roundMinutes_51 (by decide) ?_
        exact ih y3 (y4 + q3.1) (y5 + 1) q3.2  hD _ _ hw _ (lv_sub hl [3, 4, 5, 6, 1, 0] rfl)
      · replace hD := (if_neg c4).symm.trans hD
        refine lv_iload C.1 C.2.1 dX4_roundMinutes_38 (lv_at hl 6 rfl) ?_
        refine lv_istore_n (lv' := [(3, .int (y5)), (6, .int (q3.1)), (0, .ref (X.2.2.1 1 (0))), (1, .int (x1)), (2, .int (x2)), (4, .int (y4)), (5, .int (y5))]) C.1 C.2.1 dX4_roundMinutes_40 rfl hl (by decide) rfl (fun ls hl => ?_)
        refine lv_iload C.1 C.2.1 dX4_roundMinutes_41 (lv_at hl 5 rfl) ?_
        refine lv_iload C.1 C.2.1 dX4_roundMinutes_43 (lv_at hl 1 rfl) ?_
        refine lv_iadd C.1 C.2.1 dX4_roundMinutes_45 ?_
        refine lv_istore (lv' := [(4, .int (y4 + q3.1)), (3, .int (y5)), (6, .int (q3.1)), (0, .ref (X.2.2.1 1 (0))), (1, .int (x1)), (2, .int (x2)), (5, .int (y5))]) C.1 C.2.1 dX4_roundMinutes_46 hl (by decide) rfl (fun ls hl => ?_)
        refine lv_iinc (v := y5 + 1) (lv' := [(5, .int (y5 + 1)), (4, .int (y4 + q3.1)), (3, .int (y5)), (6, .int (q3.1)), (0, .ref (X.2.2.1 1 (0))), (1, .int (x1)), (2, .int (x2))]) C.1 C.2.1 dX4_roundMinutes_48 hl (k := 6) rfl rfl (by decide) rfl (fun ls hl => ?_)
        refine lv_goto (tgt := 8) C.1 C.2.1 dX4_roundMinutes_51 (by decide) ?_
        exact ih y5 (y4 + q3.1) (y5 + 1) q3.2  hD _ _ hw _ (lv_sub hl [4, 5, 6, 2, 1, 0] rfl)
def D_X4_roundMinutes (x1 : Int32) (x2 : Int32) (z : XS) : Option (Int32 × XS) :=
  L_X4_roundMinutes_8 x1 x2  64 (0 : Int32) (0 : Int32) (0 : Int32) z
set_option maxHeartbeats 4000000 in
set_option maxRecDepth 100000 in
theorem c_X4_roundMinutes (l : Launch) (X : XC) (ex : va_W) (x1 : Int32) (x2 : Int32) (z : XS) (R0 : Int32 × XS) (hD : D_X4_roundMinutes x1 x2 z = some R0) : xM l X ex yX4_roundMinutes cX4_roundMinutes 7 (some .int) rm_X4_roundMinutes [.ref (X.2.2.1 1 (0)), .int (x1), .int (x2)] z (xQi X ex R0.2 R0.1) := by
  refine x_ent (by decide) (Nat.le_of_ble_eq_true rfl) ?_
  intro p e s m below meth c ls C hr hk hw hl
  replace hl : lv_has ls 7 [(0, .ref (X.2.2.1 1 (0))), (1, .int (x1)), (2, .int (x2))] := hl
  unfold D_X4_roundMinutes at hD
  refine lv_iconst (v := (0 : Int32)) C.1 C.2.1 dX4_roundMinutes_0 (by decide) ?_
  refine lv_istore_n (lv' := [(3, .int ((0 : Int32))), (0, .ref (X.2.2.1 1 (0))), (1, .int (x1)), (2, .int (x2))]) C.1 C.2.1 dX4_roundMinutes_1 rfl hl (by decide) rfl (fun ls hl => ?_)
  refine lv_iconst (v := (0 : Int32)) C.1 C.2.1 dX4_roundMinutes_2 (by decide) ?_
  refine lv_istore (lv' := [(4, .int ((0 : Int32))), (3, .int ((0 : Int32))), (0, .ref (X.2.2.1 1 (0))), (1, .int (x1)), (2, .int (x2))]) C.1 C.2.1 dX4_roundMinutes_3 hl (by decide) rfl (fun ls hl => ?_)
  refine lv_iconst (v := (0 : Int32)) C.1 C.2.1 dX4_roundMinutes_5 (by decide) ?_
  refine lv_istore (lv' := [(5, .int ((0 : Int32))), (4, .int ((0 : Int32))), (3, .int ((0 : Int32))), (0, .ref (X.2.2.1 1 (0))), (1, .int (x1)), (2, .int (x2))]) C.1 C.2.1 dX4_roundMinutes_6 hl (by decide) rfl (fun ls hl => ?_)
  exact w_X4_roundMinutes_8 x1 x2  C hr hk R0   64 (0 : Int32) (0 : Int32) (0 : Int32) z  hD _ _ hw _ (lv_sub hl [3, 4, 5, 2, 1, 0] rfl)
theorem kw_304 : Cond.code yX4_roundMinutes cX4_roundMinutes 7 (some .int) ∈ gtbl := gm2 219 rfl rfl
theorem nd_X4_roundMinutes : (yX4_roundMinutes).cls ≠ "java/lang/invoke/MethodHandle" ∧ (yX4_roundMinutes).cls ≠ "java/lang/invoke/VarHandle" ∧ (parseMethodDescriptor (yX4_roundMinutes).desc).map (fun d => d.parameters.length) = some 2 := by decide +kernel
theorem kw_306 : Cond.instanceMethod yX4_roundMinutes ∈ gtbl := gm2 217 rfl rfl
theorem kw_307 : Cond.selects RX4 yX4_roundMinutes yX4_roundMinutes ∈ gtbl := gm2 218 rfl rfl
theorem cV_X4_roundMinutes : xcV yX4_roundMinutes cX4_roundMinutes 7 (some .int) 2 := ⟨⟨kw_304, kw_89, nd_X4_roundMinutes⟩, kw_306, kw_307⟩
theorem kw_309 : Cond.methodLink RX9 182 yX4_roundMinutes ∈ gtbl := gm2 216 rfl rfl
abbrev rm_X9_round : Room := { frames := 4, cells := 0, slots := 0, locals := 85 }
def D_X9_round (x1 : Int32) (x2 : Int32) (z : XS) : Option (Int32 × XS) :=
  (D_X9_isDawn x1 z).bind fun q1 => ((if q1.1 = 0 then some ((-2 : Int32), q1.2) else (D_X9_isFeet x2 q1.2).bind fun q3 => ((if q3.1 = 0 then some ((-2 : Int32), q3.2) else (if gS q3.2 1 2 0 = 0 then some ((-3 : Int32), q3.2) else (D_X4_roundMinutes x1 x2 q3.2).bind fun q6 => (some (q6.1, q6.2)))))))
set_option maxHeartbeats 4000000 in
set_option maxRecDepth 100000 in
theorem c_X9_round (l : Launch) (X : XC) (ex : va_W) (x1 : Int32) (x2 : Int32) (z : XS) (R0 : Int32 × XS) (hD : D_X9_round x1 x2 z = some R0) : xM l X ex yX9_round cX9_round 3 (some .int) rm_X9_round [.ref (X.2.2.1 0 (0)), .int (x1), .int (x2)] z (xQi X ex R0.2 R0.1) := by
  refine x_ent (by decide) (Nat.le_of_ble_eq_true rfl) ?_
  intro p e s m below meth c ls C hr hk hw hl
  replace hl : lv_has ls 3 [(0, .ref (X.2.2.1 0 (0))), (1, .int (x1)), (2, .int (x2))] := hl
  unfold D_X9_round at hD
  refine lv_iload_n C.1 C.2.1 dX9_round_0 rfl (lv_at hl 1 rfl) ?_
  obtain ⟨q1, hq1, hD⟩ := Option.bind_eq_some_iff.mp hD
  refine x_goi hw (x_runS (As := [.int (x1)]) (rest := []) C hw cS_X9_isDawn kw_170 (c_X9_isDawn l X ex x1  z q1 hq1) ⟨Nat.le_of_ble_eq_true rfl, Nat.le_of_ble_eq_true rfl⟩ rfl hl.1 rfl (Nat.le_of_ble_eq_true rfl) dX9_round_1 ⟨Nat.le_of_ble_eq_true rfl, Nat.le_of_ble_eq_true rfl⟩) (fun H locs hw => ?_)
  refine lv_if_eq (tgt := 14) C.1 C.2.1 dX9_round_4 (by decide) (fun c2 => ?_) (fun c2 => ?_)
  · replace hD := (if_pos c2).symm.trans hD
    refine lv_bipush (v := (-2 : Int32)) C.1 C.2.1 dX9_round_14 (by decide) ?_
    obtain rfl := Option.some.inj hD
    exact x_iret C hw hr hk dX9_round_16
  · replace hD := (if_neg c2).symm.trans hD
    refine lv_iload_n C.1 C.2.1 dX9_round_7 rfl (lv_at hl 2 rfl) ?_
    obtain ⟨q3, hq3, hD⟩ := Option.bind_eq_some_iff.mp hD
    refine x_goi hw (x_runS (As := [.int (x2)]) (rest := []) C hw cS_X9_isFeet kw_165 (c_X9_isFeet l X ex x2  q1.2 q3 hq3) ⟨Nat.le_of_ble_eq_true rfl, Nat.le_of_ble_eq_true rfl⟩ rfl hl.1 rfl (Nat.le_of_ble_eq_true rfl) dX9_round_8 ⟨Nat.le_of_ble_eq_true rfl, Nat.le_of_ble_eq_true rfl⟩) (fun H locs hw => ?_)
    refine lv_if_ne (tgt := 17) C.1 C.2.1 dX9_round_11 (by decide) (fun c4 => ?_) (fun c4 => ?_)
    · replace hD := (if_neg c4).symm.trans hD
      refine lv_aload_n C.1 C.2.1 dX9_round_17 rfl (lv_at hl 0 rfl) ?_
      refine gf_X9_0 C hw kw_86 dX9_round_18 ?_
      refine gNf_X4_2 C hw (List.mem_of_getElem? (i := 8) rfl) dX9_round_21 ?_
      refine lv_if_ne (tgt := 30) C.1 C.2.1 dX9_round_24 (by decide) (fun c5 => ?_) (fun c5 => ?_)
      · replace hD := (if_neg c5).symm.trans hD
        refine lv_aload_n C.1 C.2.1 dX9_round_30 rfl (lv_at hl 0 rfl) ?_
        refine gf_X9_0 C hw kw_86 dX9_round_31 ?_
        refine lv_iload_n C.1 C.2.1 dX9_round_34 rfl (lv_at hl 1 rfl) ?_
        refine lv_iload_n C.1 C.2.1 dX9_round_35 rfl (lv_at hl 2 rfl) ?_
        obtain ⟨q6, hq6, hD⟩ := Option.bind_eq_some_iff.mp hD
        refine x_goi hw (x_runV (As := [.int (x1), .int (x2)]) (rest := []) (k := 1) (j := 0) C hw (Nat.le_of_ble_eq_true rfl) rfl rfl cV_X4_roundMinutes kw_309 (c_X4_roundMinutes l X ex x1 x2  q3.2 q6 hq6) ⟨Nat.le_of_ble_eq_true rfl, Nat.le_of_ble_eq_true rfl⟩ rfl hl.1 rfl (Nat.le_of_ble_eq_true rfl) dX9_round_36 ⟨Nat.le_of_ble_eq_true rfl, Nat.le_of_ble_eq_true rfl⟩) (fun H locs hw => ?_)
        obtain rfl := Option.some.inj hD
        exact x_iret C hw hr hk dX9_round_39
      · replace hD := (if_pos c5).symm.trans hD
        refine lv_bipush (v := (-3 : Int32)) C.1 C.2.1 dX9_round_27 (by decide) ?_
        obtain rfl := Option.some.inj hD
        exact x_iret C hw hr hk dX9_round_29
    · replace hD := (if_pos c4).symm.trans hD
      refine lv_bipush (v := (-2 : Int32)) C.1 C.2.1 dX9_round_14 (by decide) ?_
      obtain rfl := Option.some.inj hD
      exact x_iret C hw hr hk dX9_round_16
theorem kw_310 : Cond.methodLink RX0 78 yX0_leanAt ∈ gtbl := gm3 5 rfl rfl
abbrev rm_X0_oddCoinSide : Room := { frames := 1, cells := 0, slots := 0, locals := 21 }
def D_X0_oddCoinSide (j0 : Nat) (x1 : Int32) (z : XS) : Option (Int32 × XS) :=
  (D_X0_leanAt j0 x1 z).bind fun q1 => ((if q1.1 < 0 then some ((1 : Int32), q1.2) else some ((0 : Int32), q1.2)))
set_option maxHeartbeats 4000000 in
set_option maxRecDepth 100000 in
theorem c_X0_oddCoinSide (l : Launch) (X : XC) (ex : va_W) (j0 : Nat) (x1 : Int32) (hj0 : j0 < 6) (z : XS) (R0 : Int32 × XS) (hD : D_X0_oddCoinSide j0 x1 z = some R0) : xM l X ex yX0_oddCoinSide cX0_oddCoinSide 2 (some .int) rm_X0_oddCoinSide [.ref (X.2.2.1 9 (j0)), .int (x1)] z (xQi X ex R0.2 R0.1) := by
  refine x_ent (by decide) (Nat.le_of_ble_eq_true rfl) ?_
  intro p e s m below meth c ls C hr hk hw hl
  replace hl : lv_has ls 2 [(0, .ref (X.2.2.1 9 (j0))), (1, .int (x1))] := hl
  unfold D_X0_oddCoinSide at hD
  refine lv_aload_n C.1 C.2.1 dX0_oddCoinSide_0 rfl (lv_at hl 0 rfl) ?_
  refine lv_iload_n C.1 C.2.1 dX0_oddCoinSide_1 rfl (lv_at hl 1 rfl) ?_
  obtain ⟨q1, hq1, hD⟩ := Option.bind_eq_some_iff.mp hD
  refine x_goi hw (x_runV (As := [.int (x1)]) (rest := []) (k := 9) (j := j0) C hw hj0 rfl rfl cV_X0_leanAt kw_310 (c_X0_leanAt l X ex j0 x1 hj0 z q1 hq1) ⟨Nat.le_of_ble_eq_true rfl, Nat.le_of_ble_eq_true rfl⟩ rfl hl.1 rfl (Nat.le_of_ble_eq_true rfl) dX0_oddCoinSide_2 ⟨Nat.le_of_ble_eq_true rfl, Nat.le_of_ble_eq_true rfl⟩) (fun H locs hw => ?_)
  refine lv_if_lt (tgt := 12) C.1 C.2.1 dX0_oddCoinSide_5 (by decide) (fun c2 => ?_) (fun c2 => ?_)
  · replace hD := (if_pos c2).symm.trans hD
    refine lv_iconst (v := (1 : Int32)) C.1 C.2.1 dX0_oddCoinSide_12 (by decide) ?_
    obtain rfl := Option.some.inj hD
    exact x_iret C hw hr hk dX0_oddCoinSide_13
  · replace hD := (if_neg c2).symm.trans hD
    refine lv_iconst (v := (0 : Int32)) C.1 C.2.1 dX0_oddCoinSide_8 (by decide) ?_
    refine lv_goto (tgt := 13) C.1 C.2.1 dX0_oddCoinSide_9 (by decide) ?_
    obtain rfl := Option.some.inj hD
    exact x_iret C hw hr hk dX0_oddCoinSide_13
theorem kw_311 : Cond.methodLink RX0 72 yX0_heightAt ∈ gtbl := gm3 0 rfl rfl
theorem kw_312 : Cond.code yX0_oddCoinSide cX0_oddCoinSide 2 (some .int) ∈ gtbl := gm3 4 rfl rfl
theorem nd_X0_oddCoinSide : (yX0_oddCoinSide).cls ≠ "java/lang/invoke/MethodHandle" ∧ (yX0_oddCoinSide).cls ≠ "java/lang/invoke/VarHandle" ∧ (parseMethodDescriptor (yX0_oddCoinSide).desc).map (fun d => d.parameters.length) = some 1 := by decide +kernel
theorem kw_314 : Cond.instanceMethod yX0_oddCoinSide ∈ gtbl := gm3 3 rfl rfl
theorem kw_315 : Cond.selects RX0 yX0_oddCoinSide yX0_oddCoinSide ∈ gtbl := gm0 5 rfl rfl
theorem cV_X0_oddCoinSide : xcV yX0_oddCoinSide cX0_oddCoinSide 2 (some .int) 1 := ⟨⟨kw_312, kw_78, nd_X0_oddCoinSide⟩, kw_314, kw_315⟩
theorem kw_317 : Cond.methodLink RX0 75 yX0_oddCoinSide ∈ gtbl := gm3 1 rfl rfl
abbrev rm_X0_finesBy : Room := { frames := 2, cells := 0, slots := 0, locals := 42 }
def B_X0_finesBy_5 (j0 : Nat) (x1 : Int32) (x2 : Int32) (k5_ : Int32 → Int32 → XS → Option (Int32 × XS)) (y3 : Int32) (y4 : Int32) (z : XS) : Option (Int32 × XS) :=
  (if (30 : Int32) < y4 then some (y3, z) else (D_X0_heightAt j0 y4 z).bind fun q2 => ((if (12 : Int32) * x2 < q2.1 then (D_X0_oddCoinSide j0 y4 q2.2).bind fun q4 => ((if q4.1 = x1 then k5_ ((y3 + ((q2.1 / (12 : Int32)) / (2 : Int32))) + ((q2.1 / (12 : Int32)) - (q2.1 / (12 : Int32)) / (2 : Int32) * (2 : Int32))) (y4 + 1) q4.2 else k5_ (y3 + ((q2.1 / (12 : Int32)) / (2 : Int32))) (y4 + 1) q4.2)) else k5_ y3 (y4 + 1) q2.2)))
def L_X0_finesBy_5 (j0 : Nat) (x1 : Int32) (x2 : Int32) : Nat → Int32 → Int32 → XS → Option (Int32 × XS)
  | 0 => fun _ _ _ => none
  | n + 1 => B_X0_finesBy_5 j0 x1 x2  (L_X0_finesBy_5 j0 x1 x2  n)
set_option maxHeartbeats 4000000 in
set_option maxRecDepth 100000 in
theorem w_X0_finesBy_5 {p : Program} {l : Launch} {e : Env} {s : State} {m : MethodId} {below : List Frame} {meth : Method} {c : Code} {X : XC} {ex : va_W} (j0 : Nat) (x1 : Int32) (x2 : Int32) (hj0 : j0 < 6) (C : CallFix p m c cX0_finesBy 7 s (([.ref (X.2.2.1 9 (j0)), .int (x1), .int (x2)] : List Value).toArray) gtbl RX0) (hr : meth.sig.returnType = (some .int)) (hk : meth.locks = false) (R0 : Int32 × XS)  : ∀ (n : Nat), ∀ (y3 : Int32) (y4 : Int32) (z : XS), L_X0_finesBy_5 j0 x1 x2  n y3 y4 z = some R0 → ∀ (H : Heap) (locs : List Loc), xw X ex z s H locs → ∀ (ls : Array Slot), lv_has ls 7 [(0, .ref (X.2.2.1 9 (j0))), (1, .int (x1)), (2, .int (x2)), (3, .int (y3)), (4, .int (y4))] → W p l e rm_X0_finesBy s m (([.ref (X.2.2.1 9 (j0)), .int (x1), .int (x2)] : List Value).toArray) below meth c H locs 0 0 (MQ below (xQi X ex R0.2 R0.1) (([.ref (X.2.2.1 9 (j0)), .int (x1), .int (x2)] : List Value).toArray) s 0 0 (xA X)) (F0 m 5 ls []) := by
  intro n
  induction n with
  | zero =>
    intro y3 y4 z  hD
    cases hD
  | succ n ih =>
    intro y3 y4 z  hD H locs hw ls hl
    replace hD : B_X0_finesBy_5 j0 x1 x2  (L_X0_finesBy_5 j0 x1 x2  n) y3 y4 z = some R0 := hD
    unfold B_X0_finesBy_5 at hD
    refine lv_iload C.1 C.2.1 dX0_finesBy_5 (lv_at hl 4 rfl) ?_
    refine lv_bipush (v := (30 : Int32)) C.1 C.2.1 dX0_finesBy_7 (by decide) ?_
    refine lv_icmp_gt (tgt := 69) C.1 C.2.1 dX0_finesBy_9 (by decide) (fun c1 => ?_) (fun c1 => ?_)
    · replace hD := (if_pos c1).symm.trans hD
      refine lv_iload_n C.1 C.2.1 dX0_finesBy_69 rfl (lv_at hl 3 rfl) ?_
      obtain rfl := Option.some.inj hD
      exact x_iret C hw hr hk dX0_finesBy_70
    · replace hD := (if_neg c1).symm.trans hD
      refine lv_aload_n C.1 C.2.1 dX0_finesBy_12 rfl (lv_at hl 0 rfl) ?_
      refine lv_iload C.1 C.2.1 dX0_finesBy_13 (lv_at hl 4 rfl) ?_
      obtain ⟨q2, hq2, hD⟩ := Option.bind_eq_some_iff.mp hD
      refine x_goi hw (x_runV (As := [.int (y4)]) (rest := []) (k := 9) (j := j0) C hw hj0 rfl rfl cV_X0_heightAt kw_311 (c_X0_heightAt l X ex j0 y4 hj0 z q2 hq2) ⟨Nat.le_of_ble_eq_true rfl, Nat.le_of_ble_eq_true rfl⟩ rfl hl.1 rfl (Nat.le_of_ble_eq_true rfl) dX0_finesBy_15 ⟨Nat.le_of_ble_eq_true rfl, Nat.le_of_ble_eq_true rfl⟩) (fun H locs hw => ?_)
      refine lv_istore (lv' := [(5, .int (q2.1)), (0, .ref (X.2.2.1 9 (j0))), (1, .int (x1)), (2, .int (x2)), (3, .int (y3)), (4, .int (y4))]) C.1 C.2.1 dX0_finesBy_18 hl (by decide) rfl (fun ls hl => ?_)
      refine lv_iload C.1 C.2.1 dX0_finesBy_20 (lv_at hl 0 rfl) ?_
      refine lv_bipush (v := (12 : Int32)) C.1 C.2.1 dX0_finesBy_22 (by decide) ?_
      refine lv_iload_n C.1 C.2.1 dX0_finesBy_24 rfl (lv_at hl 3 rfl) ?_
      refine lv_imul C.1 C.2.1 dX0_finesBy_25 ?_
      refine lv_icmp_gt (tgt := 32) C.1 C.2.1 dX0_finesBy_26 (by decide) (fun c3 => ?_) (fun c3 => ?_)
      · replace hD := (if_pos c3).symm.trans hD
        refine lv_iload C.1 C.2.1 dX0_finesBy_32 (lv_at hl 0 rfl) ?_
        refine lv_bipush (v := (12 : Int32)) C.1 C.2.1 dX0_finesBy_34 (by decide) ?_
        refine lv_idiv C.1 C.2.1 dX0_finesBy_36 (by decide) ?_
        refine lv_istore (lv' := [(6, .int (q2.1 / (12 : Int32))), (5, .int (q2.1)), (0, .ref (X.2.2.1 9 (j0))), (1, .int (x1)), (2, .int (x2)), (3, .int (y3)), (4, .int (y4))]) C.1 C.2.1 dX0_finesBy_37 hl (by decide) rfl (fun ls hl => ?_)
        refine lv_iload_n C.1 C.2.1 dX0_finesBy_39 rfl (lv_at hl 5 rfl) ?_
        refine lv_iload C.1 C.2.1 dX0_finesBy_40 (lv_at hl 0 rfl) ?_
        refine lv_iconst (v := (2 : Int32)) C.1 C.2.1 dX0_finesBy_42 (by decide) ?_
        refine lv_idiv C.1 C.2.1 dX0_finesBy_43 (by decide) ?_
        refine lv_iadd C.1 C.2.1 dX0_finesBy_44 ?_
        refine lv_istore_n (lv' := [(3, .int (y3 + ((q2.1 / (12 : Int32)) / (2 : Int32)))), (6, .int (q2.1 / (12 : Int32))), (5, .int (q2.1)), (0, .ref (X.2.2.1 9 (j0))), (1, .int (x1)), (2, .int (x2)), (4, .int (y4))]) C.1 C.2.1 dX0_finesBy_45 rfl hl (by decide) rfl (fun ls hl => ?_)
        refine lv_aload_n C.1 C.2.1 dX0_finesBy_46 rfl (lv_at hl 3 rfl) ?_
        refine lv_iload C.1 C.2.1 dX0_finesBy_47 (lv_at hl 6 rfl) ?_
        obtain ⟨q4, hq4, hD⟩ := Option.bind_eq_some_iff.mp hD
        refine x_goi hw (x_runV (As := [.int (y4)]) (rest := []) (k := 9) (j := j0) C hw hj0 rfl rfl cV_X0_oddCoinSide kw_317 (c_X0_oddCoinSide l X ex j0 y4 hj0 q2.2 q4 hq4) ⟨Nat.le_of_ble_eq_true rfl, Nat.le_of_ble_eq_true rfl⟩ rfl hl.1 rfl (Nat.le_of_ble_eq_true rfl) dX0_finesBy_49 ⟨Nat.le_of_ble_eq_true rfl, Nat.le_of_ble_eq_true rfl⟩) (fun H locs hw => ?_)
        refine lv_iload_n C.1 C.2.1 dX0_finesBy_52 rfl (lv_at hl 4 rfl) ?_
        refine lv_icmp_ne (tgt := 63) C.1 C.2.1 dX0_finesBy_53 (by decide) (fun c5 => ?_) (fun c5 => ?_)
        · replace hD := (if_neg c5).symm.trans hD
          refine lv_iinc (v := y4 + 1) (lv' := [(4, .int (y4 + 1)), (3, .int (y3 + ((q2.1 / (12 : Int32)) / (2 : Int32)))), (6, .int (q2.1 / (12 : Int32))), (5, .int (q2.1)), (0, .ref (X.2.2.1 9 (j0))), (1, .int (x1)), (2, .int (x2))]) C.1 C.2.1 dX0_finesBy_63 hl (k := 6) rfl rfl (by decide) rfl (fun ls hl => ?_)
          refine lv_goto (tgt := 5) C.1 C.2.1 dX0_finesBy_66 (by decide) ?_
          exact ih (y3 + ((q2.1 / (12 : Int32)) / (2 : Int32))) (y4 + 1) q4.2  hD _ _ hw _ (lv_sub hl [4, 5, 6, 1, 0] rfl)
        · replace hD := (if_pos c5).symm.trans hD
          refine lv_iload_n C.1 C.2.1 dX0_finesBy_56 rfl (lv_at hl 0 rfl) ?_
          refine lv_iload C.1 C.2.1 dX0_finesBy_57 (lv_at hl 1 rfl) ?_
          refine lv_iconst (v := (2 : Int32)) C.1 C.2.1 dX0_finesBy_59 (by decide) ?_
          refine lv_irem C.1 C.2.1 dX0_finesBy_60 (by decide) ?_
          refine lv_iadd C.1 C.2.1 dX0_finesBy_61 ?_
          refine lv_istore_n (lv' := [(3, .int ((y3 + ((q2.1 / (12 : Int32)) / (2 : Int32))) + ((q2.1 / (12 : Int32)) - (q2.1 / (12 : Int32)) / (2 : Int32) * (2 : Int32)))), (6, .int (q2.1 / (12 : Int32))), (5, .int (q2.1)), (0, .ref (X.2.2.1 9 (j0))), (1, .int (x1)), (2, .int (x2)), (4, .int (y4))]) C.1 C.2.1 dX0_finesBy_62 rfl hl (by decide) rfl (fun ls hl => ?_)
          refine lv_iinc (v := y4 + 1) (lv' := [(4, .int (y4 + 1)), (3, .int ((y3 + ((q2.1 / (12 : Int32)) / (2 : Int32))) + ((q2.1 / (12 : Int32)) - (q2.1 / (12 : Int32)) / (2 : Int32) * (2 : Int32)))), (6, .int (q2.1 / (12 : Int32))), (5, .int (q2.1)), (0, .ref (X.2.2.1 9 (j0))), (1, .int (x1)), (2, .int (x2))]) C.1 C.2.1 dX0_finesBy_63 hl (k := 6) rfl rfl (by decide) rfl (fun ls hl => ?_)
          refine lv_goto (tgt := 5) C.1 C.2.1 dX0_finesBy_66 (by decide) ?_
          exact ih ((y3 + ((q2.1 / (12 : Int32)) / (2 : Int32))) + ((q2.1 / (12 : Int32)) - (q2.1 / (12 : Int32)) / (2 : Int32) * (2 : Int32))) (y4 + 1) q4.2  hD _ _ hw _ (lv_sub hl [4, 5, 6, 1, 0] rfl)
      · replace hD := (if_neg c3).symm.trans hD
        refine lv_goto (tgt := 63) C.1 C.2.1 dX0_finesBy_29 (by decide) ?_
        refine lv_iinc (v := y4 + 1) (lv' := [(4, .int (y4 + 1)), (5, .int (q2.1)), (0, .ref (X.2.2.1 9 (j0))), (1, .int (x1)), (2, .int (x2)), (3, .int (y3))]) C.1 C.2.1 dX0_finesBy_63 hl (k := 5) rfl rfl (by decide) rfl (fun ls hl => ?_)
        refine lv_goto (tgt := 5) C.1 C.2.1 dX0_finesBy_66 (by decide) ?_
        exact ih y3 (y4 + 1) q2.2  hD _ _ hw _ (lv_sub hl [2, 3, 4, 5, 0] rfl)
def D_X0_finesBy (j0 : Nat) (x1 : Int32) (x2 : Int32) (z : XS) : Option (Int32 × XS) :=
  L_X0_finesBy_5 j0 x1 x2  64 (0 : Int32) (1 : Int32) z
set_option maxHeartbeats 4000000 in
set_option maxRecDepth 100000 in
theorem c_X0_finesBy (l : Launch) (X : XC) (ex : va_W) (j0 : Nat) (x1 : Int32) (x2 : Int32) (hj0 : j0 < 6) (z : XS) (R0 : Int32 × XS) (hD : D_X0_finesBy j0 x1 x2 z = some R0) : xM l X ex yX0_finesBy cX0_finesBy 7 (some .int) rm_X0_finesBy [.ref (X.2.2.1 9 (j0)), .int (x1), .int (x2)] z (xQi X ex R0.2 R0.1) := by
  refine x_ent (by decide) (Nat.le_of_ble_eq_true rfl) ?_
  intro p e s m below meth c ls C hr hk hw hl
  replace hl : lv_has ls 7 [(0, .ref (X.2.2.1 9 (j0))), (1, .int (x1)), (2, .int (x2))] := hl
  unfold D_X0_finesBy at hD
  refine lv_iconst (v := (0 : Int32)) C.1 C.2.1 dX0_finesBy_0 (by decide) ?_
  refine lv_istore_n (lv' := [(3, .int ((0 : Int32))), (0, .ref (X.2.2.1 9 (j0))), (1, .int (x1)), (2, .int (x2))]) C.1 C.2.1 dX0_finesBy_1 rfl hl (by decide) rfl (fun ls hl => ?_)
  refine lv_iconst (v := (1 : Int32)) C.1 C.2.1 dX0_finesBy_2 (by decide) ?_
  refine lv_istore (lv' := [(4, .int ((1 : Int32))), (3, .int ((0 : Int32))), (0, .ref (X.2.2.1 9 (j0))), (1, .int (x1)), (2, .int (x2))]) C.1 C.2.1 dX0_finesBy_3 hl (by decide) rfl (fun ls hl => ?_)
  exact w_X0_finesBy_5 j0 x1 x2 hj0 C hr hk R0   64 (0 : Int32) (1 : Int32) z  hD _ _ hw _ (lv_sub hl [2, 3, 4, 1, 0] rfl)
theorem kw_318 : Cond.code yX0_finesBy cX0_finesBy 7 (some .int) ∈ gtbl := gm2 239 rfl rfl
theorem nd_X0_finesBy : (yX0_finesBy).cls ≠ "java/lang/invoke/MethodHandle" ∧ (yX0_finesBy).cls ≠ "java/lang/invoke/VarHandle" ∧ (parseMethodDescriptor (yX0_finesBy).desc).map (fun d => d.parameters.length) = some 2 := by decide +kernel
theorem kw_320 : Cond.instanceMethod yX0_finesBy ∈ gtbl := gm2 237 rfl rfl
theorem kw_321 : Cond.selects RX0 yX0_finesBy yX0_finesBy ∈ gtbl := gm2 238 rfl rfl
theorem cV_X0_finesBy : xcV yX0_finesBy cX0_finesBy 7 (some .int) 2 := ⟨⟨kw_318, kw_78, nd_X0_finesBy⟩, kw_320, kw_321⟩
theorem kw_323 : Cond.methodLink RX4 121 yX0_finesBy ∈ gtbl := gm2 236 rfl rfl
abbrev rm_X4_finesOf : Room := { frames := 3, cells := 0, slots := 0, locals := 68 }
def J_X4_finesOf_28 (x1 : Int32) (x2 : Int32) (y3 : Int32) (z : XS) : Option (Int32 × XS) :=
  (D_X4_isHedge x1 z).bind fun q3 => ((if q3.1 = 0 then some (y3, q3.2) else gd (inB x1 6) ((D_X0_finesBy x1.toNatClampNeg (0 : Int32) x2 q3.2).bind fun q6 => (some (y3 + q6.1, q6.2)))))
set_option maxHeartbeats 4000000 in
set_option maxRecDepth 100000 in
theorem w_X4_finesOf_28 {p : Program} {l : Launch} {e : Env} {s : State} {m : MethodId} {below : List Frame} {meth : Method} {c : Code} {X : XC} {ex : va_W} (x1 : Int32) (x2 : Int32) (C : CallFix p m c cX4_finesOf 4 s (([.ref (X.2.2.1 1 (0)), .int (x1), .int (x2)] : List Value).toArray) gtbl RX4) (hr : meth.sig.returnType = (some .int)) (hk : meth.locks = false) (R0 : Int32 × XS)  : ∀ (y3 : Int32) (z : XS), J_X4_finesOf_28 x1 x2  y3 z = some R0 → ∀ (H : Heap) (locs : List Loc), xw X ex z s H locs → ∀ (ls : Array Slot), lv_has ls 4 [(0, .ref (X.2.2.1 1 (0))), (1, .int (x1)), (2, .int (x2)), (3, .int (y3))] → W p l e rm_X4_finesOf s m (([.ref (X.2.2.1 1 (0)), .int (x1), .int (x2)] : List Value).toArray) below meth c H locs 0 0 (MQ below (xQi X ex R0.2 R0.1) (([.ref (X.2.2.1 1 (0)), .int (x1), .int (x2)] : List Value).toArray) s 0 0 (xA X)) (F0 m 28 ls []) := by
  intro y3 z  hD H locs hw ls hl
  unfold J_X4_finesOf_28 at hD
  refine lv_aload_n C.1 C.2.1 dX4_finesOf_28 rfl (lv_at hl 0 rfl) ?_
  refine lv_iload_n C.1 C.2.1 dX4_finesOf_29 rfl (lv_at hl 1 rfl) ?_
  obtain ⟨q3, hq3, hD⟩ := Option.bind_eq_some_iff.mp hD
  refine x_goi hw (x_runV (As := [.int (x1)]) (rest := []) (k := 1) (j := 0) C hw (Nat.le_of_ble_eq_true rfl) rfl rfl cV_X4_isHedge kw_187 (c_X4_isHedge l X ex x1  z q3 hq3) ⟨Nat.le_of_ble_eq_true rfl, Nat.le_of_ble_eq_true rfl⟩ rfl hl.1 rfl (Nat.le_of_ble_eq_true rfl) dX4_finesOf_30 ⟨Nat.le_of_ble_eq_true rfl, Nat.le_of_ble_eq_true rfl⟩) (fun H locs hw => ?_)
  refine lv_if_eq (tgt := 50) C.1 C.2.1 dX4_finesOf_33 (by decide) (fun c4 => ?_) (fun c4 => ?_)
  · replace hD := (if_pos c4).symm.trans hD
    refine lv_iload_n C.1 C.2.1 dX4_finesOf_50 rfl (lv_at hl 3 rfl) ?_
    obtain rfl := Option.some.inj hD
    exact x_iret C hw hr hk dX4_finesOf_51
  · replace hD := (if_neg c4).symm.trans hD
    refine lv_iload_n C.1 C.2.1 dX4_finesOf_36 rfl (lv_at hl 3 rfl) ?_
    refine lv_aload_n C.1 C.2.1 dX4_finesOf_37 rfl (lv_at hl 0 rfl) ?_
    refine gf_X4_1 C hw kw_184 dX4_finesOf_38 ?_
    refine lv_iload_n C.1 C.2.1 dX4_finesOf_41 rfl (lv_at hl 1 rfl) ?_
    obtain ⟨g5, hD⟩ := gd_some hD
    refine x_aald (k := 8) (j := 0) (f := fun i => X.2.2.1 9 i) C hw (Nat.le_of_ble_eq_true rfl) 2 rfl rfl rfl (inB_in g5) (a := X.2.2.1 9 (x1.toNatClampNeg)) rfl dX4_finesOf_42 ?_
    refine lv_iconst (v := (0 : Int32)) C.1 C.2.1 dX4_finesOf_43 (by decide) ?_
    refine lv_iload_n C.1 C.2.1 dX4_finesOf_44 rfl (lv_at hl 2 rfl) ?_
    obtain ⟨q6, hq6, hD⟩ := Option.bind_eq_some_iff.mp hD
    refine x_goi hw (x_runV (As := [.int ((0 : Int32)), .int (x2)]) (rest := [.int (y3)]) (k := 9) (j := x1.toNatClampNeg) C hw (inB_lt g5) rfl rfl cV_X0_finesBy kw_323 (c_X0_finesBy l X ex x1.toNatClampNeg (0 : Int32) x2 (inB_lt g5) q3.2 q6 hq6) ⟨Nat.le_of_ble_eq_true rfl, Nat.le_of_ble_eq_true rfl⟩ rfl hl.1 rfl (Nat.le_of_ble_eq_true rfl) dX4_finesOf_45 ⟨Nat.le_of_ble_eq_true rfl, Nat.le_of_ble_eq_true rfl⟩) (fun H locs hw => ?_)
    refine lv_iadd C.1 C.2.1 dX4_finesOf_48 ?_
    refine lv_istore_n (lv' := [(3, .int (y3 + q6.1)), (0, .ref (X.2.2.1 1 (0))), (1, .int (x1)), (2, .int (x2))]) C.1 C.2.1 dX4_finesOf_49 rfl hl (by decide) rfl (fun ls hl => ?_)
    refine lv_iload_n C.1 C.2.1 dX4_finesOf_50 rfl (lv_at hl 0 rfl) ?_
    obtain rfl := Option.some.inj hD
    exact x_iret C hw hr hk dX4_finesOf_51
def D_X4_finesOf (x1 : Int32) (x2 : Int32) (z : XS) : Option (Int32 × XS) :=
  (D_X4_isHedge (x1 - (1 : Int32)) z).bind fun q1 => ((if q1.1 = 0 then J_X4_finesOf_28 x1 x2  (0 : Int32) q1.2 else gd (inB (x1 - (1 : Int32)) 6) ((D_X0_finesBy ((x1 - (1 : Int32)).toNatClampNeg) (1 : Int32) x2 q1.2).bind fun q8 => (J_X4_finesOf_28 x1 x2  ((0 : Int32) + q8.1) q8.2))))
set_option maxHeartbeats 4000000 in
set_option maxRecDepth 100000 in
theorem c_X4_finesOf (l : Launch) (X : XC) (ex : va_W) (x1 : Int32) (x2 : Int32) (z : XS) (R0 : Int32 × XS) (hD : D_X4_finesOf x1 x2 z = some R0) : xM l X ex yX4_finesOf cX4_finesOf 4 (some .int) rm_X4_finesOf [.ref (X.2.2.1 1 (0)), .int (x1), .int (x2)] z (xQi X ex R0.2 R0.1) := by
  refine x_ent (by decide) (Nat.le_of_ble_eq_true rfl) ?_
  intro p e s m below meth c ls C hr hk hw hl
  replace hl : lv_has ls 4 [(0, .ref (X.2.2.1 1 (0))), (1, .int (x1)), (2, .int (x2))] := hl
  unfold D_X4_finesOf at hD
  refine lv_iconst (v := (0 : Int32)) C.1 C.2.1 dX4_finesOf_0 (by decide) ?_
  refine lv_istore_n (lv' := [(3, .int ((0 : Int32))), (0, .ref (X.2.2.1 1 (0))), (1, .int (x1)), (2, .int (x2))]) C.1 C.2.1 dX4_finesOf_1 rfl hl (by decide) rfl (fun ls hl => ?_)
  refine lv_aload_n C.1 C.2.1 dX4_finesOf_2 rfl (lv_at hl 1 rfl) ?_
  refine lv_iload_n C.1 C.2.1 dX4_finesOf_3 rfl (lv_at hl 2 rfl) ?_
  refine lv_iconst (v := (1 : Int32)) C.1 C.2.1 dX4_finesOf_4 (by decide) ?_
  refine lv_isub C.1 C.2.1 dX4_finesOf_5 ?_
  obtain ⟨q1, hq1, hD⟩ := Option.bind_eq_some_iff.mp hD
  refine x_goi hw (x_runV (As := [.int (x1 - (1 : Int32))]) (rest := []) (k := 1) (j := 0) C hw (Nat.le_of_ble_eq_true rfl) rfl rfl cV_X4_isHedge kw_187 (c_X4_isHedge l X ex (x1 - (1 : Int32))  z q1 hq1) ⟨Nat.le_of_ble_eq_true rfl, Nat.le_of_ble_eq_true rfl⟩ rfl hl.1 rfl (Nat.le_of_ble_eq_true rfl) dX4_finesOf_6 ⟨Nat.le_of_ble_eq_true rfl, Nat.le_of_ble_eq_true rfl⟩) (fun H locs hw => ?_)
  refine lv_if_eq (tgt := 28) C.1 C.2.1 dX4_finesOf_9 (by decide) (fun c2 => ?_) (fun c2 => ?_)
  · replace hD := (if_pos c2).symm.trans hD
    exact w_X4_finesOf_28 x1 x2  C hr hk R0   (0 : Int32) q1.2  hD _ _ hw _ (lv_sub hl [1, 2, 3, 0] rfl)
  · replace hD := (if_neg c2).symm.trans hD
    refine lv_iload_n C.1 C.2.1 dX4_finesOf_12 rfl (lv_at hl 0 rfl) ?_
    refine lv_aload_n C.1 C.2.1 dX4_finesOf_13 rfl (lv_at hl 1 rfl) ?_
    refine gf_X4_1 C hw kw_184 dX4_finesOf_14 ?_
    refine lv_iload_n C.1 C.2.1 dX4_finesOf_17 rfl (lv_at hl 2 rfl) ?_
    refine lv_iconst (v := (1 : Int32)) C.1 C.2.1 dX4_finesOf_18 (by decide) ?_
    refine lv_isub C.1 C.2.1 dX4_finesOf_19 ?_
    obtain ⟨g7, hD⟩ := gd_some hD
    refine x_aald (k := 8) (j := 0) (f := fun i => X.2.2.1 9 i) C hw (Nat.le_of_ble_eq_true rfl) 2 rfl rfl rfl (inB_in g7) (a := X.2.2.1 9 ((x1 - (1 : Int32)).toNatClampNeg)) rfl dX4_finesOf_20 ?_
    refine lv_iconst (v := (1 : Int32)) C.1 C.2.1 dX4_finesOf_21 (by decide) ?_
    refine lv_iload_n C.1 C.2.1 dX4_finesOf_22 rfl (lv_at hl 3 rfl) ?_
    obtain ⟨q8, hq8, hD⟩ := Option.bind_eq_some_iff.mp hD
    refine x_goi hw (x_runV (As := [.int ((1 : Int32)), .int (x2)]) (rest := [.int ((0 : Int32))]) (k := 9) (j := (x1 - (1 : Int32)).toNatClampNeg) C hw (inB_lt g7) rfl rfl cV_X0_finesBy kw_323 (c_X0_finesBy l X ex ((x1 - (1 : Int32)).toNatClampNeg) (1 : Int32) x2 (inB_lt g7) q1.2 q8 hq8) ⟨Nat.le_of_ble_eq_true rfl, Nat.le_of_ble_eq_true rfl⟩ rfl hl.1 rfl (Nat.le_of_ble_eq_true rfl) dX4_finesOf_23 ⟨Nat.le_of_ble_eq_true rfl, Nat.le_of_ble_eq_true rfl⟩) (fun H locs hw => ?_)
    refine lv_iadd C.1 C.2.1 dX4_finesOf_26 ?_
    refine lv_istore_n (lv' := [(3, .int ((0 : Int32) + q8.1)), (0, .ref (X.2.2.1 1 (0))), (1, .int (x1)), (2, .int (x2))]) C.1 C.2.1 dX4_finesOf_27 rfl hl (by decide) rfl (fun ls hl => ?_)
    exact w_X4_finesOf_28 x1 x2  C hr hk R0   ((0 : Int32) + q8.1) q8.2  hD _ _ hw _ (lv_sub hl [1, 2, 3, 0] rfl)
theorem kw_324 : Cond.code yX4_finesOf cX4_finesOf 4 (some .int) ∈ gtbl := gm2 235 rfl rfl
theorem nd_X4_finesOf : (yX4_finesOf).cls ≠ "java/lang/invoke/MethodHandle" ∧ (yX4_finesOf).cls ≠ "java/lang/invoke/VarHandle" ∧ (parseMethodDescriptor (yX4_finesOf).desc).map (fun d => d.parameters.length) = some 2 := by decide +kernel
theorem kw_326 : Cond.instanceMethod yX4_finesOf ∈ gtbl := gm2 233 rfl rfl
theorem kw_327 : Cond.selects RX4 yX4_finesOf yX4_finesOf ∈ gtbl := gm2 234 rfl rfl
theorem cV_X4_finesOf : xcV yX4_finesOf cX4_finesOf 4 (some .int) 2 := ⟨⟨kw_324, kw_89, nd_X4_finesOf⟩, kw_326, kw_327⟩
theorem kw_329 : Cond.methodLink RX9 185 yX4_finesOf ∈ gtbl := gm2 232 rfl rfl
abbrev rm_X9_fines : Room := { frames := 4, cells := 0, slots := 0, locals := 91 }
def B_X9_fines_48 (x1 : Int32) (x2 : Int32) (k48_ : Int32 → Int32 → XS → Option (Int32 × XS)) (y3 : Int32) (y4 : Int32) (z : XS) : Option (Int32 × XS) :=
  (if gS z 1 2 0 ≤ y4 then some (y3, z) else (D_X4_finesOf y4 x2 z).bind fun q6 => (k48_ (y3 + q6.1) (y4 + 1) q6.2))
def L_X9_fines_48 (x1 : Int32) (x2 : Int32) : Nat → Int32 → Int32 → XS → Option (Int32 × XS)
  | 0 => fun _ _ _ => none
  | n + 1 => B_X9_fines_48 x1 x2  (L_X9_fines_48 x1 x2  n)
set_option maxHeartbeats 4000000 in
set_option maxRecDepth 100000 in
theorem w_X9_fines_48 {p : Program} {l : Launch} {e : Env} {s : State} {m : MethodId} {below : List Frame} {meth : Method} {c : Code} {X : XC} {ex : va_W} (x1 : Int32) (x2 : Int32) (C : CallFix p m c cX9_fines 5 s (([.ref (X.2.2.1 0 (0)), .int (x1), .int (x2)] : List Value).toArray) gtbl RX9) (hr : meth.sig.returnType = (some .int)) (hk : meth.locks = false) (R0 : Int32 × XS)  : ∀ (n : Nat), ∀ (y3 : Int32) (y4 : Int32) (z : XS), L_X9_fines_48 x1 x2  n y3 y4 z = some R0 → ∀ (H : Heap) (locs : List Loc), xw X ex z s H locs → ∀ (ls : Array Slot), lv_has ls 5 [(0, .ref (X.2.2.1 0 (0))), (2, .int (x2)), (3, .int (y3)), (4, .int (y4))] → W p l e rm_X9_fines s m (([.ref (X.2.2.1 0 (0)), .int (x1), .int (x2)] : List Value).toArray) below meth c H locs 0 0 (MQ below (xQi X ex R0.2 R0.1) (([.ref (X.2.2.1 0 (0)), .int (x1), .int (x2)] : List Value).toArray) s 0 0 (xA X)) (F0 m 48 ls []) := by
  intro n
  induction n with
  | zero =>
    intro y3 y4 z  hD
    cases hD
  | succ n ih =>
    intro y3 y4 z  hD H locs hw ls hl
    replace hD : B_X9_fines_48 x1 x2  (L_X9_fines_48 x1 x2  n) y3 y4 z = some R0 := hD
    unfold B_X9_fines_48 at hD
    refine lv_iload C.1 C.2.1 dX9_fines_48 (lv_at hl 3 rfl) ?_
    refine lv_aload_n C.1 C.2.1 dX9_fines_50 rfl (lv_at hl 0 rfl) ?_
    refine gf_X9_0 C hw kw_86 dX9_fines_51 ?_
    refine gNf_X4_2 C hw (List.mem_of_getElem? (i := 8) rfl) dX9_fines_54 ?_
    refine lv_icmp_ge (tgt := 79) C.1 C.2.1 dX9_fines_57 (by decide) (fun c5 => ?_) (fun c5 => ?_)
    · replace hD := (if_pos c5).symm.trans hD
      refine lv_iload_n C.1 C.2.1 dX9_fines_79 rfl (lv_at hl 2 rfl) ?_
      obtain rfl := Option.some.inj hD
      exact x_iret C hw hr hk dX9_fines_80
    · replace hD := (if_neg c5).symm.trans hD
      refine lv_iload_n C.1 C.2.1 dX9_fines_60 rfl (lv_at hl 2 rfl) ?_
      refine lv_aload_n C.1 C.2.1 dX9_fines_61 rfl (lv_at hl 0 rfl) ?_
      refine gf_X9_0 C hw kw_86 dX9_fines_62 ?_
      refine lv_iload C.1 C.2.1 dX9_fines_65 (lv_at hl 3 rfl) ?_
      refine lv_iload_n C.1 C.2.1 dX9_fines_67 rfl (lv_at hl 1 rfl) ?_
      obtain ⟨q6, hq6, hD⟩ := Option.bind_eq_some_iff.mp hD
      refine x_goi hw (x_runV (As := [.int (y4), .int (x2)]) (rest := [.int (y3)]) (k := 1) (j := 0) C hw (Nat.le_of_ble_eq_true rfl) rfl rfl cV_X4_finesOf kw_329 (c_X4_finesOf l X ex y4 x2  z q6 hq6) ⟨Nat.le_of_ble_eq_true rfl, Nat.le_of_ble_eq_true rfl⟩ rfl hl.1 rfl (Nat.le_of_ble_eq_true rfl) dX9_fines_68 ⟨Nat.le_of_ble_eq_true rfl, Nat.le_of_ble_eq_true rfl⟩) (fun H locs hw => ?_)
      refine lv_iadd C.1 C.2.1 dX9_fines_71 ?_
      refine lv_istore_n (lv' := [(3, .int (y3 + q6.1)), (0, .ref (X.2.2.1 0 (0))), (2, .int (x2)), (4, .int (y4))]) C.1 C.2.1 dX9_fines_72 rfl hl (by decide) rfl (fun ls hl => ?_)
      refine lv_iinc (v := y4 + 1) (lv' := [(4, .int (y4 + 1)), (3, .int (y3 + q6.1)), (0, .ref (X.2.2.1 0 (0))), (2, .int (x2))]) C.1 C.2.1 dX9_fines_73 hl (k := 3) rfl rfl (by decide) rfl (fun ls hl => ?_)
      refine lv_goto (tgt := 48) C.1 C.2.1 dX9_fines_76 (by decide) ?_
      exact ih (y3 + q6.1) (y4 + 1) q6.2  hD _ _ hw _ (lv_sub hl [2, 3, 1, 0] rfl)
def J_X9_fines_18 (x1 : Int32) (x2 : Int32)  (z : XS) : Option (Int32 × XS) :=
  (D_X9_isFeet x2 z).bind fun q2 => ((if q2.1 = 0 then some ((-2 : Int32), q2.2) else (if x1 = (-1 : Int32) then L_X9_fines_48 x1 x2  64 (0 : Int32) (0 : Int32) q2.2 else (D_X4_finesOf x1 x2 q2.2).bind fun q7 => (some (q7.1, q7.2)))))
set_option maxHeartbeats 4000000 in
set_option maxRecDepth 100000 in
theorem w_X9_fines_18 {p : Program} {l : Launch} {e : Env} {s : State} {m : MethodId} {below : List Frame} {meth : Method} {c : Code} {X : XC} {ex : va_W} (x1 : Int32) (x2 : Int32) (C : CallFix p m c cX9_fines 5 s (([.ref (X.2.2.1 0 (0)), .int (x1), .int (x2)] : List Value).toArray) gtbl RX9) (hr : meth.sig.returnType = (some .int)) (hk : meth.locks = false) (R0 : Int32 × XS)  : ∀  (z : XS), J_X9_fines_18 x1 x2   z = some R0 → ∀ (H : Heap) (locs : List Loc), xw X ex z s H locs → ∀ (ls : Array Slot), lv_has ls 5 [(0, .ref (X.2.2.1 0 (0))), (1, .int (x1)), (2, .int (x2))] → W p l e rm_X9_fines s m (([.ref (X.2.2.1 0 (0)), .int (x1), .int (x2)] : List Value).toArray) below meth c H locs 0 0 (MQ below (xQi X ex R0.2 R0.1) (([.ref (X.2.2.1 0 (0)), .int (x1), .int (x2)] : List Value).toArray) s 0 0 (xA X)) (F0 m 18 ls []) := by
  intro  z  hD H locs hw ls hl
  unfold J_X9_fines_18 at hD
  refine lv_iload_n C.1 C.2.1 dX9_fines_18 rfl (lv_at hl 2 rfl) ?_
  obtain ⟨q2, hq2, hD⟩ := Option.bind_eq_some_iff.mp hD
  refine x_goi hw (x_runS (As := [.int (x2)]) (rest := []) C hw cS_X9_isFeet kw_165 (c_X9_isFeet l X ex x2  z q2 hq2) ⟨Nat.le_of_ble_eq_true rfl, Nat.le_of_ble_eq_true rfl⟩ rfl hl.1 rfl (Nat.le_of_ble_eq_true rfl) dX9_fines_19 ⟨Nat.le_of_ble_eq_true rfl, Nat.le_of_ble_eq_true rfl⟩) (fun H locs hw => ?_)
  refine lv_if_ne (tgt := 28) C.1 C.2.1 dX9_fines_22 (by decide) (fun c3 => ?_) (fun c3 => ?_)
  · replace hD := (if_neg c3).symm.trans hD
    refine lv_iload_n C.1 C.2.1 dX9_fines_28 rfl (lv_at hl 1 rfl) ?_
    refine lv_iconst (v := (-1 : Int32)) C.1 C.2.1 dX9_fines_29 (by decide) ?_
    refine lv_icmp_eq (tgt := 43) C.1 C.2.1 dX9_fines_30 (by decide) (fun c4 => ?_) (fun c4 => ?_)
    · replace hD := (if_pos c4).symm.trans hD
      refine lv_iconst (v := (0 : Int32)) C.1 C.2.1 dX9_fines_43 (by decide) ?_
      refine lv_istore_n (lv' := [(3, .int ((0 : Int32))), (0, .ref (X.2.2.1 0 (0))), (1, .int (x1)), (2, .int (x2))]) C.1 C.2.1 dX9_fines_44 rfl hl (by decide) rfl (fun ls hl => ?_)
      refine lv_iconst (v := (0 : Int32)) C.1 C.2.1 dX9_fines_45 (by decide) ?_
      refine lv_istore (lv' := [(4, .int ((0 : Int32))), (3, .int ((0 : Int32))), (0, .ref (X.2.2.1 0 (0))), (1, .int (x1)), (2, .int (x2))]) C.1 C.2.1 dX9_fines_46 hl (by decide) rfl (fun ls hl => ?_)
      exact w_X9_fines_48 x1 x2  C hr hk R0   64 (0 : Int32) (0 : Int32) q2.2  hD _ _ hw _ (lv_sub hl [2, 4, 1, 0] rfl)
    · replace hD := (if_neg c4).symm.trans hD
      refine lv_aload_n C.1 C.2.1 dX9_fines_33 rfl (lv_at hl 0 rfl) ?_
      refine gf_X9_0 C hw kw_86 dX9_fines_34 ?_
      refine lv_iload_n C.1 C.2.1 dX9_fines_37 rfl (lv_at hl 1 rfl) ?_
      refine lv_iload_n C.1 C.2.1 dX9_fines_38 rfl (lv_at hl 2 rfl) ?_
      obtain ⟨q7, hq7, hD⟩ := Option.bind_eq_some_iff.mp hD
      refine x_goi hw (x_runV (As := [.int (x1), .int (x2)]) (rest := []) (k := 1) (j := 0) C hw (Nat.le_of_ble_eq_true rfl) rfl rfl cV_X4_finesOf kw_329 (c_X4_finesOf l X ex x1 x2  q2.2 q7 hq7) ⟨Nat.le_of_ble_eq_true rfl, Nat.le_of_ble_eq_true rfl⟩ rfl hl.1 rfl (Nat.le_of_ble_eq_true rfl) dX9_fines_39 ⟨Nat.le_of_ble_eq_true rfl, Nat.le_of_ble_eq_true rfl⟩) (fun H locs hw => ?_)
      obtain rfl := Option.some.inj hD
      exact x_iret C hw hr hk dX9_fines_42
  · replace hD := (if_pos c3).symm.trans hD
    refine lv_bipush (v := (-2 : Int32)) C.1 C.2.1 dX9_fines_25 (by decide) ?_
    obtain rfl := Option.some.inj hD
    exact x_iret C hw hr hk dX9_fines_27
def D_X9_fines (x1 : Int32) (x2 : Int32) (z : XS) : Option (Int32 × XS) :=
  (if x1 = (-1 : Int32) then J_X9_fines_18 x1 x2   z else (D_X4_isGarden x1 z).bind fun q8 => ((if q8.1 = 0 then some ((-1 : Int32), q8.2) else J_X9_fines_18 x1 x2   q8.2)))
set_option maxHeartbeats 4000000 in
set_option maxRecDepth 100000 in
theorem c_X9_fines (l : Launch) (X : XC) (ex : va_W) (x1 : Int32) (x2 : Int32) (z : XS) (R0 : Int32 × XS) (hD : D_X9_fines x1 x2 z = some R0) : xM l X ex yX9_fines cX9_fines 5 (some .int) rm_X9_fines [.ref (X.2.2.1 0 (0)), .int (x1), .int (x2)] z (xQi X ex R0.2 R0.1) := by
  refine x_ent (by decide) (Nat.le_of_ble_eq_true rfl) ?_
  intro p e s m below meth c ls C hr hk hw hl
  replace hl : lv_has ls 5 [(0, .ref (X.2.2.1 0 (0))), (1, .int (x1)), (2, .int (x2))] := hl
  unfold D_X9_fines at hD
  refine lv_iload_n C.1 C.2.1 dX9_fines_0 rfl (lv_at hl 1 rfl) ?_
  refine lv_iconst (v := (-1 : Int32)) C.1 C.2.1 dX9_fines_1 (by decide) ?_
  refine lv_icmp_eq (tgt := 18) C.1 C.2.1 dX9_fines_2 (by decide) (fun c1 => ?_) (fun c1 => ?_)
  · replace hD := (if_pos c1).symm.trans hD
    exact w_X9_fines_18 x1 x2  C hr hk R0    z  hD _ _ hw _ (lv_sub hl [0, 1, 2] rfl)
  · replace hD := (if_neg c1).symm.trans hD
    refine lv_aload_n C.1 C.2.1 dX9_fines_5 rfl (lv_at hl 0 rfl) ?_
    refine gf_X9_0 C hw kw_86 dX9_fines_6 ?_
    refine lv_iload_n C.1 C.2.1 dX9_fines_9 rfl (lv_at hl 1 rfl) ?_
    obtain ⟨q8, hq8, hD⟩ := Option.bind_eq_some_iff.mp hD
    refine x_goi hw (x_runV (As := [.int (x1)]) (rest := []) (k := 1) (j := 0) C hw (Nat.le_of_ble_eq_true rfl) rfl rfl cV_X4_isGarden kw_94 (c_X4_isGarden l X ex x1  z q8 hq8) ⟨Nat.le_of_ble_eq_true rfl, Nat.le_of_ble_eq_true rfl⟩ rfl hl.1 rfl (Nat.le_of_ble_eq_true rfl) dX9_fines_10 ⟨Nat.le_of_ble_eq_true rfl, Nat.le_of_ble_eq_true rfl⟩) (fun H locs hw => ?_)
    refine lv_if_ne (tgt := 18) C.1 C.2.1 dX9_fines_13 (by decide) (fun c9 => ?_) (fun c9 => ?_)
    · replace hD := (if_neg c9).symm.trans hD
      exact w_X9_fines_18 x1 x2  C hr hk R0    q8.2  hD _ _ hw _ (lv_sub hl [0, 1, 2] rfl)
    · replace hD := (if_pos c9).symm.trans hD
      refine lv_iconst (v := (-1 : Int32)) C.1 C.2.1 dX9_fines_16 (by decide) ?_
      obtain rfl := Option.some.inj hD
      exact x_iret C hw hr hk dX9_fines_17
abbrev rm_X4_heightsTogether : Room := { frames := 1, cells := 0, slots := 0, locals := 23 }
def B_X4_heightsTogether_4 (x1 : Int32) (k4_ : Int32 → Int32 → XS → Option (Int32 × XS)) (y2 : Int32) (y3 : Int32) (z : XS) : Option (Int32 × XS) :=
  (if (gS z 1 2 0) - (1 : Int32) ≤ y3 then some (y2, z) else gd (inB y3 6) ((D_X0_heightAt y3.toNatClampNeg x1 z).bind fun q3 => (k4_ (y2 + q3.1) (y3 + 1) q3.2)))
def L_X4_heightsTogether_4 (x1 : Int32) : Nat → Int32 → Int32 → XS → Option (Int32 × XS)
  | 0 => fun _ _ _ => none
  | n + 1 => B_X4_heightsTogether_4 x1  (L_X4_heightsTogether_4 x1  n)
set_option maxHeartbeats 4000000 in
set_option maxRecDepth 100000 in
theorem w_X4_heightsTogether_4 {p : Program} {l : Launch} {e : Env} {s : State} {m : MethodId} {below : List Frame} {meth : Method} {c : Code} {X : XC} {ex : va_W} (x1 : Int32) (C : CallFix p m c cX4_heightsTogether 4 s (([.ref (X.2.2.1 1 (0)), .int (x1)] : List Value).toArray) gtbl RX4) (hr : meth.sig.returnType = (some .int)) (hk : meth.locks = false) (R0 : Int32 × XS)  : ∀ (n : Nat), ∀ (y2 : Int32) (y3 : Int32) (z : XS), L_X4_heightsTogether_4 x1  n y2 y3 z = some R0 → ∀ (H : Heap) (locs : List Loc), xw X ex z s H locs → ∀ (ls : Array Slot), lv_has ls 4 [(0, .ref (X.2.2.1 1 (0))), (1, .int (x1)), (2, .int (y2)), (3, .int (y3))] → W p l e rm_X4_heightsTogether s m (([.ref (X.2.2.1 1 (0)), .int (x1)] : List Value).toArray) below meth c H locs 0 0 (MQ below (xQi X ex R0.2 R0.1) (([.ref (X.2.2.1 1 (0)), .int (x1)] : List Value).toArray) s 0 0 (xA X)) (F0 m 4 ls []) := by
  intro n
  induction n with
  | zero =>
    intro y2 y3 z  hD
    cases hD
  | succ n ih =>
    intro y2 y3 z  hD H locs hw ls hl
    replace hD : B_X4_heightsTogether_4 x1  (L_X4_heightsTogether_4 x1  n) y2 y3 z = some R0 := hD
    unfold B_X4_heightsTogether_4 at hD
    refine lv_iload_n C.1 C.2.1 dX4_heightsTogether_4 rfl (lv_at hl 3 rfl) ?_
    refine lv_aload_n C.1 C.2.1 dX4_heightsTogether_5 rfl (lv_at hl 0 rfl) ?_
    refine gf_X4_2 C hw kw_39 dX4_heightsTogether_6 ?_
    refine lv_iconst (v := (1 : Int32)) C.1 C.2.1 dX4_heightsTogether_9 (by decide) ?_
    refine lv_isub C.1 C.2.1 dX4_heightsTogether_10 ?_
    refine lv_icmp_ge (tgt := 33) C.1 C.2.1 dX4_heightsTogether_11 (by decide) (fun c1 => ?_) (fun c1 => ?_)
    · replace hD := (if_pos c1).symm.trans hD
      refine lv_iload_n C.1 C.2.1 dX4_heightsTogether_33 rfl (lv_at hl 2 rfl) ?_
      obtain rfl := Option.some.inj hD
      exact x_iret C hw hr hk dX4_heightsTogether_34
    · replace hD := (if_neg c1).symm.trans hD
      refine lv_iload_n C.1 C.2.1 dX4_heightsTogether_14 rfl (lv_at hl 2 rfl) ?_
      refine lv_aload_n C.1 C.2.1 dX4_heightsTogether_15 rfl (lv_at hl 0 rfl) ?_
      refine gf_X4_1 C hw kw_184 dX4_heightsTogether_16 ?_
      refine lv_iload_n C.1 C.2.1 dX4_heightsTogether_19 rfl (lv_at hl 3 rfl) ?_
      obtain ⟨g2, hD⟩ := gd_some hD
      refine x_aald (k := 8) (j := 0) (f := fun i => X.2.2.1 9 i) C hw (Nat.le_of_ble_eq_true rfl) 2 rfl rfl rfl (inB_in g2) (a := X.2.2.1 9 (y3.toNatClampNeg)) rfl dX4_heightsTogether_20 ?_
      refine lv_iload_n C.1 C.2.1 dX4_heightsTogether_21 rfl (lv_at hl 1 rfl) ?_
      obtain ⟨q3, hq3, hD⟩ := Option.bind_eq_some_iff.mp hD
      refine x_goi hw (x_runV (As := [.int (x1)]) (rest := [.int (y2)]) (k := 9) (j := y3.toNatClampNeg) C hw (inB_lt g2) rfl rfl cV_X0_heightAt kw_186 (c_X0_heightAt l X ex y3.toNatClampNeg x1 (inB_lt g2) z q3 hq3) ⟨Nat.le_of_ble_eq_true rfl, Nat.le_of_ble_eq_true rfl⟩ rfl hl.1 rfl (Nat.le_of_ble_eq_true rfl) dX4_heightsTogether_22 ⟨Nat.le_of_ble_eq_true rfl, Nat.le_of_ble_eq_true rfl⟩) (fun H locs hw => ?_)
      refine lv_iadd C.1 C.2.1 dX4_heightsTogether_25 ?_
      refine lv_istore_n (lv' := [(2, .int (y2 + q3.1)), (0, .ref (X.2.2.1 1 (0))), (1, .int (x1)), (3, .int (y3))]) C.1 C.2.1 dX4_heightsTogether_26 rfl hl (by decide) rfl (fun ls hl => ?_)
      refine lv_iinc (v := y3 + 1) (lv' := [(3, .int (y3 + 1)), (2, .int (y2 + q3.1)), (0, .ref (X.2.2.1 1 (0))), (1, .int (x1))]) C.1 C.2.1 dX4_heightsTogether_27 hl (k := 3) rfl rfl (by decide) rfl (fun ls hl => ?_)
      refine lv_goto (tgt := 4) C.1 C.2.1 dX4_heightsTogether_30 (by decide) ?_
      exact ih (y2 + q3.1) (y3 + 1) q3.2  hD _ _ hw _ (lv_sub hl [2, 3, 1, 0] rfl)
def D_X4_heightsTogether (x1 : Int32) (z : XS) : Option (Int32 × XS) :=
  L_X4_heightsTogether_4 x1  64 (0 : Int32) (0 : Int32) z
set_option maxHeartbeats 4000000 in
set_option maxRecDepth 100000 in
theorem c_X4_heightsTogether (l : Launch) (X : XC) (ex : va_W) (x1 : Int32) (z : XS) (R0 : Int32 × XS) (hD : D_X4_heightsTogether x1 z = some R0) : xM l X ex yX4_heightsTogether cX4_heightsTogether 4 (some .int) rm_X4_heightsTogether [.ref (X.2.2.1 1 (0)), .int (x1)] z (xQi X ex R0.2 R0.1) := by
  refine x_ent (by decide) (Nat.le_of_ble_eq_true rfl) ?_
  intro p e s m below meth c ls C hr hk hw hl
  replace hl : lv_has ls 4 [(0, .ref (X.2.2.1 1 (0))), (1, .int (x1))] := hl
  unfold D_X4_heightsTogether at hD
  refine lv_iconst (v := (0 : Int32)) C.1 C.2.1 dX4_heightsTogether_0 (by decide) ?_
  refine lv_istore_n (lv' := [(2, .int ((0 : Int32))), (0, .ref (X.2.2.1 1 (0))), (1, .int (x1))]) C.1 C.2.1 dX4_heightsTogether_1 rfl hl (by decide) rfl (fun ls hl => ?_)
  refine lv_iconst (v := (0 : Int32)) C.1 C.2.1 dX4_heightsTogether_2 (by decide) ?_
  refine lv_istore_n (lv' := [(3, .int ((0 : Int32))), (2, .int ((0 : Int32))), (0, .ref (X.2.2.1 1 (0))), (1, .int (x1))]) C.1 C.2.1 dX4_heightsTogether_3 rfl hl (by decide) rfl (fun ls hl => ?_)
  exact w_X4_heightsTogether_4 x1  C hr hk R0   64 (0 : Int32) (0 : Int32) z  hD _ _ hw _ (lv_sub hl [2, 3, 1, 0] rfl)
abbrev rm_X9_commonDivisor : Room := { frames := 0, cells := 0, slots := 0, locals := 0 }
def B_X9_commonDivisor_2 (x0 : Int32) (x1 : Int32) (k2_ : Int32 → XS → Option (Int32 × XS)) (y2 : Int32) (z : XS) : Option (Int32 × XS) :=
  (if y2 ≤ (1 : Int32) then some ((1 : Int32), z) else gd (nzI y2) ((if x0 - x0 / y2 * y2 = 0 then gd (nzI y2) ((if x1 - x1 / y2 * y2 = 0 then some (y2, z) else k2_ (y2 + (-1)) z)) else k2_ (y2 + (-1)) z)))
def L_X9_commonDivisor_2 (x0 : Int32) (x1 : Int32) : Nat → Int32 → XS → Option (Int32 × XS)
  | 0 => fun _ _ => none
  | n + 1 => B_X9_commonDivisor_2 x0 x1  (L_X9_commonDivisor_2 x0 x1  n)
set_option maxHeartbeats 4000000 in
set_option maxRecDepth 100000 in
theorem w_X9_commonDivisor_2 {p : Program} {l : Launch} {e : Env} {s : State} {m : MethodId} {below : List Frame} {meth : Method} {c : Code} {X : XC} {ex : va_W} (x0 : Int32) (x1 : Int32) (C : CallFix p m c cX9_commonDivisor 3 s (([.int (x0), .int (x1)] : List Value).toArray) gtbl RX9) (hr : meth.sig.returnType = (some .int)) (hk : meth.locks = false) (R0 : Int32 × XS)  : ∀ (n : Nat), ∀ (y2 : Int32) (z : XS), L_X9_commonDivisor_2 x0 x1  n y2 z = some R0 → ∀ (H : Heap) (locs : List Loc), xw X ex z s H locs → ∀ (ls : Array Slot), lv_has ls 3 [(0, .int (x0)), (1, .int (x1)), (2, .int (y2))] → W p l e rm_X9_commonDivisor s m (([.int (x0), .int (x1)] : List Value).toArray) below meth c H locs 0 0 (MQ below (xQi X ex R0.2 R0.1) (([.int (x0), .int (x1)] : List Value).toArray) s 0 0 (xA X)) (F0 m 2 ls []) := by
  intro n
  induction n with
  | zero =>
    intro y2 z  hD
    cases hD
  | succ n ih =>
    intro y2 z  hD H locs hw ls hl
    replace hD : B_X9_commonDivisor_2 x0 x1  (L_X9_commonDivisor_2 x0 x1  n) y2 z = some R0 := hD
    unfold B_X9_commonDivisor_2 at hD
    refine lv_iload_n C.1 C.2.1 dX9_commonDivisor_2 rfl (lv_at hl 2 rfl) ?_
    refine lv_iconst (v := (1 : Int32)) C.1 C.2.1 dX9_commonDivisor_3 (by decide) ?_
    refine lv_icmp_le (tgt := 27) C.1 C.2.1 dX9_commonDivisor_4 (by decide) (fun c1 => ?_) (fun c1 => ?_)
    · replace hD := (if_pos c1).symm.trans hD
      refine lv_iconst (v := (1 : Int32)) C.1 C.2.1 dX9_commonDivisor_27 (by decide) ?_
      obtain rfl := Option.some.inj hD
      exact x_iret C hw hr hk dX9_commonDivisor_28
    · replace hD := (if_neg c1).symm.trans hD
      refine lv_iload_n C.1 C.2.1 dX9_commonDivisor_7 rfl (lv_at hl 0 rfl) ?_
      refine lv_iload_n C.1 C.2.1 dX9_commonDivisor_8 rfl (lv_at hl 2 rfl) ?_
      obtain ⟨g2, hD⟩ := gd_some hD
      refine lv_irem C.1 C.2.1 dX9_commonDivisor_9 (nzI_of g2) ?_
      refine lv_if_ne (tgt := 21) C.1 C.2.1 dX9_commonDivisor_10 (by decide) (fun c3 => ?_) (fun c3 => ?_)
      · replace hD := (if_neg c3).symm.trans hD
        refine lv_iinc (v := y2 + (-1)) (lv' := [(2, .int (y2 + (-1))), (0, .int (x0)), (1, .int (x1))]) C.1 C.2.1 dX9_commonDivisor_21 hl (k := 2) rfl rfl (by decide) rfl (fun ls hl => ?_)
        refine lv_goto (tgt := 2) C.1 C.2.1 dX9_commonDivisor_24 (by decide) ?_
        exact ih (y2 + (-1)) z  hD _ _ hw _ (lv_sub hl [1, 2, 0] rfl)
      · replace hD := (if_pos c3).symm.trans hD
        refine lv_iload_n C.1 C.2.1 dX9_commonDivisor_13 rfl (lv_at hl 1 rfl) ?_
        refine lv_iload_n C.1 C.2.1 dX9_commonDivisor_14 rfl (lv_at hl 2 rfl) ?_
        obtain ⟨g4, hD⟩ := gd_some hD
        refine lv_irem C.1 C.2.1 dX9_commonDivisor_15 (nzI_of g4) ?_
        refine lv_if_ne (tgt := 21) C.1 C.2.1 dX9_commonDivisor_16 (by decide) (fun c5 => ?_) (fun c5 => ?_)
        · replace hD := (if_neg c5).symm.trans hD
          refine lv_iinc (v := y2 + (-1)) (lv' := [(2, .int (y2 + (-1))), (0, .int (x0)), (1, .int (x1))]) C.1 C.2.1 dX9_commonDivisor_21 hl (k := 2) rfl rfl (by decide) rfl (fun ls hl => ?_)
          refine lv_goto (tgt := 2) C.1 C.2.1 dX9_commonDivisor_24 (by decide) ?_
          exact ih (y2 + (-1)) z  hD _ _ hw _ (lv_sub hl [1, 2, 0] rfl)
        · replace hD := (if_pos c5).symm.trans hD
          refine lv_iload_n C.1 C.2.1 dX9_commonDivisor_19 rfl (lv_at hl 2 rfl) ?_
          obtain rfl := Option.some.inj hD
          exact x_iret C hw hr hk dX9_commonDivisor_20
def D_X9_commonDivisor (x0 : Int32) (x1 : Int32) (z : XS) : Option (Int32 × XS) :=
  L_X9_commonDivisor_2 x0 x1  64 x1 z
set_option maxHeartbeats 4000000 in
set_option maxRecDepth 100000 in
theorem c_X9_commonDivisor (l : Launch) (X : XC) (ex : va_W) (x0 : Int32) (x1 : Int32) (z : XS) (R0 : Int32 × XS) (hD : D_X9_commonDivisor x0 x1 z = some R0) : xM l X ex yX9_commonDivisor cX9_commonDivisor 3 (some .int) rm_X9_commonDivisor [.int (x0), .int (x1)] z (xQi X ex R0.2 R0.1) := by
  refine x_ent (by decide) (Nat.le_of_ble_eq_true rfl) ?_
  intro p e s m below meth c ls C hr hk hw hl
  replace hl : lv_has ls 3 [(0, .int (x0)), (1, .int (x1))] := hl
  unfold D_X9_commonDivisor at hD
  refine lv_iload_n C.1 C.2.1 dX9_commonDivisor_0 rfl (lv_at hl 1 rfl) ?_
  refine lv_istore_n (lv' := [(2, .int (x1)), (0, .int (x0)), (1, .int (x1))]) C.1 C.2.1 dX9_commonDivisor_1 rfl hl (by decide) rfl (fun ls hl => ?_)
  exact w_X9_commonDivisor_2 x0 x1  C hr hk R0   64 x1 z  hD _ _ hw _ (lv_sub hl [1, 2, 0] rfl)
theorem kw_330 : Cond.constantLong RX9 188 (-9223372036854775808 : Int64) ∈ gtbl := gm3 10 rfl rfl
theorem kw_331 : Cond.code yX4_heightsTogether cX4_heightsTogether 4 (some .int) ∈ gtbl := gm3 14 rfl rfl
theorem nd_X4_heightsTogether : (yX4_heightsTogether).cls ≠ "java/lang/invoke/MethodHandle" ∧ (yX4_heightsTogether).cls ≠ "java/lang/invoke/VarHandle" ∧ (parseMethodDescriptor (yX4_heightsTogether).desc).map (fun d => d.parameters.length) = some 1 := by decide +kernel
theorem kw_333 : Cond.instanceMethod yX4_heightsTogether ∈ gtbl := gm3 12 rfl rfl
theorem kw_334 : Cond.selects RX4 yX4_heightsTogether yX4_heightsTogether ∈ gtbl := gm3 13 rfl rfl
theorem cV_X4_heightsTogether : xcV yX4_heightsTogether cX4_heightsTogether 4 (some .int) 1 := ⟨⟨kw_331, kw_89, nd_X4_heightsTogether⟩, kw_333, kw_334⟩
theorem kw_336 : Cond.methodLink RX9 190 yX4_heightsTogether ∈ gtbl := gm3 11 rfl rfl
theorem kw_337 : Cond.code yX9_commonDivisor cX9_commonDivisor 3 (some .int) ∈ gtbl := gm3 17 rfl rfl
theorem nd_X9_commonDivisor : (yX9_commonDivisor).cls ≠ "java/lang/invoke/MethodHandle" ∧ (yX9_commonDivisor).cls ≠ "java/lang/invoke/VarHandle" ∧ (parseMethodDescriptor (yX9_commonDivisor).desc).map (fun d => d.parameters.length) = some 2 := by decide +kernel
theorem kw_339 : Cond.static yX9_commonDivisor ∈ gtbl := gm3 16 rfl rfl
theorem cS_X9_commonDivisor : xcS yX9_commonDivisor cX9_commonDivisor 3 (some .int) 2 := ⟨⟨kw_337, kw_1, nd_X9_commonDivisor⟩, kw_339⟩
theorem kw_341 : Cond.methodLink RX9 193 yX9_commonDivisor ∈ gtbl := gm3 15 rfl rfl
abbrev rm_X9_mean : Room := { frames := 2, cells := 0, slots := 0, locals := 46 }
def D_X9_mean (x1 : Int32) (x2 : Int32) (z : XS) : Option (Int64 × XS) :=
  (D_X9_isDawn x1 z).bind fun q1 => ((if q1.1 = 0 then some ((-9223372036854775808 : Int64), q1.2) else (D_X9_isWithin x2 (1 : Int32) q1.2).bind fun q3 => ((if q3.1 = 0 then some ((-9223372036854775808 : Int64), q3.2) else (if gS q3.2 1 2 0 = 0 then some ((-9223372036854775808 : Int64), q3.2) else (D_X4_heightsTogether x1 q3.2).bind fun q6 => ((D_X9_commonDivisor q6.1 ((gS q6.2 1 2 0) - (1 : Int32)) q6.2).bind fun q7 => ((if x2 = 0 then gd (nzI q7.1) (some ((q6.1 / q7.1).toInt64, q7.2)) else gd (nzI q7.1) (some ((((gS q6.2 1 2 0) - (1 : Int32)) / q7.1).toInt64, q7.2))))))))))
set_option maxHeartbeats 4000000 in
set_option maxRecDepth 100000 in
theorem c_X9_mean (l : Launch) (X : XC) (ex : va_W) (x1 : Int32) (x2 : Int32) (z : XS) (R0 : Int64 × XS) (hD : D_X9_mean x1 x2 z = some R0) : xM l X ex yX9_mean cX9_mean 6 (some .long) rm_X9_mean [.ref (X.2.2.1 0 (0)), .int (x1), .int (x2)] z (xQl X ex R0.2 R0.1) := by
  refine x_ent (by decide) (Nat.le_of_ble_eq_true rfl) ?_
  intro p e s m below meth c ls C hr hk hw hl
  replace hl : lv_has ls 6 [(0, .ref (X.2.2.1 0 (0))), (1, .int (x1)), (2, .int (x2))] := hl
  unfold D_X9_mean at hD
  refine lv_iload_n C.1 C.2.1 dX9_mean_0 rfl (lv_at hl 1 rfl) ?_
  obtain ⟨q1, hq1, hD⟩ := Option.bind_eq_some_iff.mp hD
  refine x_goi hw (x_runS (As := [.int (x1)]) (rest := []) C hw cS_X9_isDawn kw_170 (c_X9_isDawn l X ex x1  z q1 hq1) ⟨Nat.le_of_ble_eq_true rfl, Nat.le_of_ble_eq_true rfl⟩ rfl hl.1 rfl (Nat.le_of_ble_eq_true rfl) dX9_mean_1 ⟨Nat.le_of_ble_eq_true rfl, Nat.le_of_ble_eq_true rfl⟩) (fun H locs hw => ?_)
  refine lv_if_eq (tgt := 25) C.1 C.2.1 dX9_mean_4 (by decide) (fun c2 => ?_) (fun c2 => ?_)
  · replace hD := (if_pos c2).symm.trans hD
    refine lv_ldc2 (v := (-9223372036854775808 : Int64)) C.1 C.2.1 C.2.2.2.1 (C.2.2.2.2 _ kw_330) dX9_mean_25 ?_
    obtain rfl := Option.some.inj hD
    exact x_lret C hw hr hk dX9_mean_28
  · replace hD := (if_neg c2).symm.trans hD
    refine lv_iload_n C.1 C.2.1 dX9_mean_7 rfl (lv_at hl 2 rfl) ?_
    refine lv_iconst (v := (1 : Int32)) C.1 C.2.1 dX9_mean_8 (by decide) ?_
    obtain ⟨q3, hq3, hD⟩ := Option.bind_eq_some_iff.mp hD
    refine x_goi hw (x_runS (As := [.int (x2), .int ((1 : Int32))]) (rest := []) C hw cS_X9_isWithin kw_5 (c_X9_isWithin l X ex x2 (1 : Int32)  q1.2 q3 hq3) ⟨Nat.le_of_ble_eq_true rfl, Nat.le_of_ble_eq_true rfl⟩ rfl hl.1 rfl (Nat.le_of_ble_eq_true rfl) dX9_mean_9 ⟨Nat.le_of_ble_eq_true rfl, Nat.le_of_ble_eq_true rfl⟩) (fun H locs hw => ?_)
    refine lv_if_eq (tgt := 25) C.1 C.2.1 dX9_mean_12 (by decide) (fun c4 => ?_) (fun c4 => ?_)
    · replace hD := (if_pos c4).symm.trans hD
      refine lv_ldc2 (v := (-9223372036854775808 : Int64)) C.1 C.2.1 C.2.2.2.1 (C.2.2.2.2 _ kw_330) dX9_mean_25 ?_
      obtain rfl := Option.some.inj hD
      exact x_lret C hw hr hk dX9_mean_28
    · replace hD := (if_neg c4).symm.trans hD
      refine lv_aload_n C.1 C.2.1 dX9_mean_15 rfl (lv_at hl 0 rfl) ?_
      refine gf_X9_0 C hw kw_86 dX9_mean_16 ?_
      refine gNf_X4_2 C hw (List.mem_of_getElem? (i := 8) rfl) dX9_mean_19 ?_
      refine lv_if_ne (tgt := 29) C.1 C.2.1 dX9_mean_22 (by decide) (fun c5 => ?_) (fun c5 => ?_)
      · replace hD := (if_neg c5).symm.trans hD
        refine lv_aload_n C.1 C.2.1 dX9_mean_29 rfl (lv_at hl 0 rfl) ?_
        refine gf_X9_0 C hw kw_86 dX9_mean_30 ?_
        refine lv_iload_n C.1 C.2.1 dX9_mean_33 rfl (lv_at hl 1 rfl) ?_
        obtain ⟨q6, hq6, hD⟩ := Option.bind_eq_some_iff.mp hD
        refine x_goi hw (x_runV (As := [.int (x1)]) (rest := []) (k := 1) (j := 0) C hw (Nat.le_of_ble_eq_true rfl) rfl rfl cV_X4_heightsTogether kw_336 (c_X4_heightsTogether l X ex x1  q3.2 q6 hq6) ⟨Nat.le_of_ble_eq_true rfl, Nat.le_of_ble_eq_true rfl⟩ rfl hl.1 rfl (Nat.le_of_ble_eq_true rfl) dX9_mean_34 ⟨Nat.le_of_ble_eq_true rfl, Nat.le_of_ble_eq_true rfl⟩) (fun H locs hw => ?_)
        refine lv_istore_n (lv' := [(3, .int (q6.1)), (0, .ref (X.2.2.1 0 (0))), (1, .int (x1)), (2, .int (x2))]) C.1 C.2.1 dX9_mean_37 rfl hl (by decide) rfl (fun ls hl => ?_)
        refine lv_aload_n C.1 C.2.1 dX9_mean_38 rfl (lv_at hl 1 rfl) ?_
        refine gf_X9_0 C hw kw_86 dX9_mean_39 ?_
        refine gNf_X4_2 C hw (List.mem_of_getElem? (i := 8) rfl) dX9_mean_42 ?_
        refine lv_iconst (v := (1 : Int32)) C.1 C.2.1 dX9_mean_45 (by decide) ?_
        refine lv_isub C.1 C.2.1 dX9_mean_46 ?_
        refine lv_istore (lv' := [(4, .int ((gS q6.2 1 2 0) - (1 : Int32))), (3, .int (q6.1)), (0, .ref (X.2.2.1 0 (0))), (1, .int (x1)), (2, .int (x2))]) C.1 C.2.1 dX9_mean_47 hl (by decide) rfl (fun ls hl => ?_)
        refine lv_iload_n C.1 C.2.1 dX9_mean_49 rfl (lv_at hl 1 rfl) ?_
        refine lv_iload C.1 C.2.1 dX9_mean_50 (lv_at hl 0 rfl) ?_
        obtain ⟨q7, hq7, hD⟩ := Option.bind_eq_some_iff.mp hD
        refine x_goi hw (x_runS (As := [.int (q6.1), .int ((gS q6.2 1 2 0) - (1 : Int32))]) (rest := []) C hw cS_X9_commonDivisor kw_341 (c_X9_commonDivisor l X ex q6.1 ((gS q6.2 1 2 0) - (1 : Int32))  q6.2 q7 hq7) ⟨Nat.le_of_ble_eq_true rfl, Nat.le_of_ble_eq_true rfl⟩ rfl hl.1 rfl (Nat.le_of_ble_eq_true rfl) dX9_mean_52 ⟨Nat.le_of_ble_eq_true rfl, Nat.le_of_ble_eq_true rfl⟩) (fun H locs hw => ?_)
        refine lv_istore (lv' := [(5, .int (q7.1)), (4, .int ((gS q6.2 1 2 0) - (1 : Int32))), (3, .int (q6.1)), (0, .ref (X.2.2.1 0 (0))), (1, .int (x1)), (2, .int (x2))]) C.1 C.2.1 dX9_mean_55 hl (by decide) rfl (fun ls hl => ?_)
        refine lv_iload_n C.1 C.2.1 dX9_mean_57 rfl (lv_at hl 5 rfl) ?_
        refine lv_if_ne (tgt := 65) C.1 C.2.1 dX9_mean_58 (by decide) (fun c8 => ?_) (fun c8 => ?_)
        · replace hD := (if_neg c8).symm.trans hD
          refine lv_iload C.1 C.2.1 dX9_mean_65 (lv_at hl 1 rfl) ?_
          refine lv_iload C.1 C.2.1 dX9_mean_67 (lv_at hl 0 rfl) ?_
          obtain ⟨g9, hD⟩ := gd_some hD
          refine lv_idiv C.1 C.2.1 dX9_mean_69 (nzI_of g9) ?_
          refine lv_i2l C.1 C.2.1 dX9_mean_70 rfl ?_
          obtain rfl := Option.some.inj hD
          exact x_lret C hw hr hk dX9_mean_71
        · replace hD := (if_pos c8).symm.trans hD
          refine lv_iload_n C.1 C.2.1 dX9_mean_61 rfl (lv_at hl 2 rfl) ?_
          refine lv_goto (tgt := 67) C.1 C.2.1 dX9_mean_62 (by decide) ?_
          refine lv_iload C.1 C.2.1 dX9_mean_67 (lv_at hl 0 rfl) ?_
          obtain ⟨g10, hD⟩ := gd_some hD
          refine lv_idiv C.1 C.2.1 dX9_mean_69 (nzI_of g10) ?_
          refine lv_i2l C.1 C.2.1 dX9_mean_70 rfl ?_
          obtain rfl := Option.some.inj hD
          exact x_lret C hw hr hk dX9_mean_71
      · replace hD := (if_pos c5).symm.trans hD
        refine lv_ldc2 (v := (-9223372036854775808 : Int64)) C.1 C.2.1 C.2.2.2.1 (C.2.2.2.2 _ kw_330) dX9_mean_25 ?_
        obtain rfl := Option.some.inj hD
        exact x_lret C hw hr hk dX9_mean_28
theorem pf_X5_1 {p : Program} {l : Launch} {e : Env} {R : Room} {s : State} {m : MethodId} {args : Array Value} {below : List Frame} {meth : Method} {c : Code} {H : Heap} {locs : List Loc} {cells slots : Nat} {Q : State → Prop} {cc : ByteArray} {pc nL index : Nat} {ls : Array Slot} {rest : List Value} {X : XC} {ex : va_W} {z : XS} {own : String} (C : CallFix p m c cc nL s args gtbl own) (hw : xw X ex z s H locs) {j : Nat} (hj : j < 4) {v : Int32} (hlink : Cond.fieldLink own index (TX5 1).1 (TX5 1).2.1 (TX5 1).2.2.1 ∈ gtbl) (hdg : decode cc pc = .ok (.putfield index, 3)) (kk : ∀ (H1 : Heap) (locs1 : List Loc), xw X ex (pS z 5 1 j v) s H1 locs1 → W p l e R s m args below meth c H1 locs1 cells slots Q (F0 m (pc + 3) ls rest)) : W p l e R s m args below meth c H locs cells slots Q (F0 m pc ls (.int v :: .ref (X.2.2.1 5 j) :: rest)) :=
  x_put (k := 5) (j := j) C hw hj 1 (v := v) rfl rfl rfl ixX5 tyX5 tyX5_ok nmX5 (by decide) hlink rfl (by decide +kernel) (Nat.le_of_ble_eq_true rfl) hdg kk
theorem pf_X5_2 {p : Program} {l : Launch} {e : Env} {R : Room} {s : State} {m : MethodId} {args : Array Value} {below : List Frame} {meth : Method} {c : Code} {H : Heap} {locs : List Loc} {cells slots : Nat} {Q : State → Prop} {cc : ByteArray} {pc nL index : Nat} {ls : Array Slot} {rest : List Value} {X : XC} {ex : va_W} {z : XS} {own : String} (C : CallFix p m c cc nL s args gtbl own) (hw : xw X ex z s H locs) {j : Nat} (hj : j < 4) {v : Int32} (hlink : Cond.fieldLink own index (TX5 2).1 (TX5 2).2.1 (TX5 2).2.2.1 ∈ gtbl) (hdg : decode cc pc = .ok (.putfield index, 3)) (kk : ∀ (H1 : Heap) (locs1 : List Loc), xw X ex (pS z 5 2 j v) s H1 locs1 → W p l e R s m args below meth c H1 locs1 cells slots Q (F0 m (pc + 3) ls rest)) : W p l e R s m args below meth c H locs cells slots Q (F0 m pc ls (.int v :: .ref (X.2.2.1 5 j) :: rest)) :=
  x_put (k := 5) (j := j) C hw hj 2 (v := v) rfl rfl rfl ixX5 tyX5 tyX5_ok nmX5 (by decide) hlink rfl (by decide +kernel) (Nat.le_of_ble_eq_true rfl) hdg kk
theorem kw_344 : Cond.fieldLink RX5 9 (TX5 0).1 (TX5 0).2.1 (TX5 0).2.2.1 ∈ gtbl := gm1 127 rfl rfl
theorem gf_X5_0 {p : Program} {l : Launch} {e : Env} {R : Room} {s : State} {m : MethodId} {args : Array Value} {below : List Frame} {meth : Method} {c : Code} {H : Heap} {locs : List Loc} {cells slots : Nat} {Q : State → Prop} {cc : ByteArray} {pc nL index : Nat} {ls : Array Slot} {rest : List Value} {X : XC} {ex : va_W} {z : XS} {own : String} (C : CallFix p m c cc nL s args gtbl own) (hw : xw X ex z s H locs) {j : Nat} (hj : j < 4) (hlink : Cond.fieldLink own index (TX5 0).1 (TX5 0).2.1 (TX5 0).2.2.1 ∈ gtbl) (hdg : decode cc pc = .ok (.getfield index, 3)) (kk : W p l e R s m args below meth c H locs cells slots Q (F0 m (pc + 3) ls (.ref (X.2.2.1 6 j) :: rest))) : W p l e R s m args below meth c H locs cells slots Q (F0 m pc ls (.ref (X.2.2.1 5 j) :: rest)) :=
  x_get (k := 5) (j := j) C hw hj 0 (v := .ref (X.2.2.1 6 j)) rfl rfl ixX5 (by decide) hlink rfl hdg kk
theorem kw_346 : Cond.code yJ7_fill_53178 cJ7_fill_53178 4 none ∈ gtbl := gm2 2 rfl rfl
theorem kw_347 : Cond.initialized RJ7 ∈ gtbl := gm1 12 rfl rfl
theorem nd_J7_fill_53178 : (yJ7_fill_53178).cls ≠ "java/lang/invoke/MethodHandle" ∧ (yJ7_fill_53178).cls ≠ "java/lang/invoke/VarHandle" ∧ (parseMethodDescriptor (yJ7_fill_53178).desc).map (fun d => d.parameters.length) = some 2 := by decide +kernel
theorem kw_349 : Cond.static yJ7_fill_53178 ∈ gtbl := gm2 1 rfl rfl
theorem cS_J7_fill_53178 : xcS yJ7_fill_53178 cJ7_fill_53178 4 none 2 := ⟨⟨kw_346, kw_347, nd_J7_fill_53178⟩, kw_349⟩
theorem kw_351 : Cond.methodLink RX5 22 yJ7_fill_53178 ∈ gtbl := gm3 26 rfl rfl
abbrev rm_X5_begin : Room := { frames := 1, cells := 0, slots := 0, locals := 23 }
def D_X5_begin (j0 : Nat) (x1 : Int32) (x2 : Int32) (z : XS) : Option (XS) :=
  (some (pS z 5 1 j0 x1)).bind fun z1 => ((some (pS z1 5 2 j0 x2)).bind fun z2 => ((D_J7_fill_53178 6 j0 (0 : Int32) z2).bind fun q3 => (some q3)))
set_option maxHeartbeats 4000000 in
set_option maxRecDepth 100000 in
theorem c_X5_begin (l : Launch) (X : XC) (ex : va_W) (j0 : Nat) (x1 : Int32) (x2 : Int32) (hj0 : j0 < 4) (z : XS) (R0 : XS) (hD : D_X5_begin j0 x1 x2 z = some R0) : xM l X ex yX5_begin cX5_begin 3 none rm_X5_begin [.ref (X.2.2.1 5 (j0)), .int (x1), .int (x2)] z (xQv X ex R0) := by
  refine x_ent (by decide) (Nat.le_of_ble_eq_true rfl) ?_
  intro p e s m below meth c ls C hr hk hw hl
  replace hl : lv_has ls 3 [(0, .ref (X.2.2.1 5 (j0))), (1, .int (x1)), (2, .int (x2))] := hl
  unfold D_X5_begin at hD
  refine lv_aload_n C.1 C.2.1 dX5_begin_0 rfl (lv_at hl 0 rfl) ?_
  refine lv_iload_n C.1 C.2.1 dX5_begin_1 rfl (lv_at hl 1 rfl) ?_
  obtain ⟨z1, hz1, hD⟩ := Option.bind_eq_some_iff.mp hD
  refine pf_X5_1 C hw (j := j0) hj0 kw_6 dX5_begin_2 (fun H locs hw => ?_)
  replace hw := xw_eq hz1 hw
  refine lv_aload_n C.1 C.2.1 dX5_begin_5 rfl (lv_at hl 0 rfl) ?_
  refine lv_iload_n C.1 C.2.1 dX5_begin_6 rfl (lv_at hl 2 rfl) ?_
  obtain ⟨z2, hz2, hD⟩ := Option.bind_eq_some_iff.mp hD
  refine pf_X5_2 C hw (j := j0) hj0 kw_10 dX5_begin_7 (fun H locs hw => ?_)
  replace hw := xw_eq hz2 hw
  refine lv_aload_n C.1 C.2.1 dX5_begin_10 rfl (lv_at hl 0 rfl) ?_
  refine gf_X5_0 C hw (j := j0) hj0 kw_344 dX5_begin_11 ?_
  refine lv_iconst (v := (0 : Int32)) C.1 C.2.1 dX5_begin_14 (by decide) ?_
  obtain ⟨q3, hq3, hD⟩ := Option.bind_eq_some_iff.mp hD
  refine x_gov hw (x_runS (As := [.ref (X.2.2.1 6 (j0)), .int ((0 : Int32))]) (rest := []) C hw cS_J7_fill_53178 kw_351 (c_J7_fill_53178 l X ex 6 j0 (0 : Int32) rfl hj0 z2 q3 hq3) ⟨Nat.le_of_ble_eq_true rfl, Nat.le_of_ble_eq_true rfl⟩ rfl hl.1 rfl (Nat.le_of_ble_eq_true rfl) dX5_begin_15 ⟨Nat.le_of_ble_eq_true rfl, Nat.le_of_ble_eq_true rfl⟩) (fun H locs hw => ?_)
  obtain rfl := Option.some.inj hD
  exact x_vret C hw hr hk dX5_begin_18
theorem kw_352 : Cond.code yX9_isSheet cX9_isSheet 1 (some .boolean) ∈ gtbl := gm1 163 rfl rfl
theorem nd_X9_isSheet : (yX9_isSheet).cls ≠ "java/lang/invoke/MethodHandle" ∧ (yX9_isSheet).cls ≠ "java/lang/invoke/VarHandle" ∧ (parseMethodDescriptor (yX9_isSheet).desc).map (fun d => d.parameters.length) = some 1 := by decide +kernel
theorem kw_354 : Cond.static yX9_isSheet ∈ gtbl := gm1 162 rfl rfl
theorem cS_X9_isSheet : xcS yX9_isSheet cX9_isSheet 1 (some .boolean) 1 := ⟨⟨kw_352, kw_1, nd_X9_isSheet⟩, kw_354⟩
theorem kw_356 : Cond.methodLink RX9 43 yX9_isSheet ∈ gtbl := gm1 161 rfl rfl
theorem kw_357 : Cond.fieldLink RX9 34 (TX9 3).1 (TX9 3).2.1 (TX9 3).2.2.1 ∈ gtbl := gm1 144 rfl rfl
theorem gf_X9_3 {p : Program} {l : Launch} {e : Env} {R : Room} {s : State} {m : MethodId} {args : Array Value} {below : List Frame} {meth : Method} {c : Code} {H : Heap} {locs : List Loc} {cells slots : Nat} {Q : State → Prop} {cc : ByteArray} {pc nL index : Nat} {ls : Array Slot} {rest : List Value} {X : XC} {ex : va_W} {z : XS} {own : String} (C : CallFix p m c cc nL s args gtbl own) (hw : xw X ex z s H locs) (hlink : Cond.fieldLink own index (TX9 3).1 (TX9 3).2.1 (TX9 3).2.2.1 ∈ gtbl) (hdg : decode cc pc = .ok (.getfield index, 3)) (kk : W p l e R s m args below meth c H locs cells slots Q (F0 m (pc + 3) ls (.ref (X.2.2.1 4 0) :: rest))) : W p l e R s m args below meth c H locs cells slots Q (F0 m pc ls (.ref (X.2.2.1 0 0) :: rest)) :=
  x_get (k := 0) (j := 0) C hw (Nat.le_of_ble_eq_true rfl) 3 (v := .ref (X.2.2.1 4 0)) rfl rfl ixX9 (by decide) hlink rfl hdg kk
theorem kw_359 : Cond.code yX5_begin cX5_begin 3 none ∈ gtbl := gm3 25 rfl rfl
theorem kw_360 : Cond.initialized RX5 ∈ gtbl := gm1 7 rfl rfl
theorem nd_X5_begin : (yX5_begin).cls ≠ "java/lang/invoke/MethodHandle" ∧ (yX5_begin).cls ≠ "java/lang/invoke/VarHandle" ∧ (parseMethodDescriptor (yX5_begin).desc).map (fun d => d.parameters.length) = some 2 := by decide +kernel
theorem kw_362 : Cond.instanceMethod yX5_begin ∈ gtbl := gm3 23 rfl rfl
theorem kw_363 : Cond.selects RX5 yX5_begin yX5_begin ∈ gtbl := gm3 24 rfl rfl
theorem cV_X5_begin : xcV yX5_begin cX5_begin 3 none 2 := ⟨⟨kw_359, kw_360, nd_X5_begin⟩, kw_362, kw_363⟩
theorem kw_365 : Cond.methodLink RX9 196 yX5_begin ∈ gtbl := gm3 22 rfl rfl
theorem kw_366 : Cond.code yX9_faulted cX9_faulted 2 (some .int) ∈ gtbl := gm1 174 rfl rfl
theorem nd_X9_faulted : (yX9_faulted).cls ≠ "java/lang/invoke/MethodHandle" ∧ (yX9_faulted).cls ≠ "java/lang/invoke/VarHandle" ∧ (parseMethodDescriptor (yX9_faulted).desc).map (fun d => d.parameters.length) = some 1 := by decide +kernel
theorem kw_368 : Cond.instanceMethod yX9_faulted ∈ gtbl := gm1 173 rfl rfl
theorem kw_369 : Cond.selects RX9 yX9_faulted yX9_faulted ∈ gtbl := gm0 0 rfl rfl
theorem cV_X9_faulted : xcV yX9_faulted cX9_faulted 2 (some .int) 1 := ⟨⟨kw_366, kw_1, nd_X9_faulted⟩, kw_368, kw_369⟩
theorem kw_371 : Cond.methodLink RX9 54 yX9_faulted ∈ gtbl := gm1 171 rfl rfl
abbrev rm_X9_sheet : Room := { frames := 2, cells := 0, slots := 0, locals := 45 }
def D_X9_sheet (x1 : Int32) (x2 : Int32) (x3 : Int32) (z : XS) : Option (Int32 × XS) :=
  (some (pS z 0 4 0 (0 : Int32))).bind fun z1 => ((D_X9_isSheet x1 z1).bind fun q2 => ((if q2.1 = 0 then some ((-1 : Int32), q2.2) else (D_X9_isWithin x2 (2 : Int32) q2.2).bind fun q4 => ((if q4.1 = 0 then some ((-2 : Int32), q4.2) else (if x3 ≤ (60 : Int32) then (if 0 ≤ x3 then gd (inB x1 4) ((D_X5_begin x1.toNatClampNeg x2 x3 q4.2).bind fun q9 => (some ((1 : Int32), q9))) else (D_X9_faulted (4 : Int32) q4.2).bind fun q10 => (some (q10.1, q10.2))) else some ((-2 : Int32), q4.2)))))))
set_option maxHeartbeats 4000000 in
set_option maxRecDepth 100000 in
theorem c_X9_sheet (l : Launch) (X : XC) (ex : va_W) (x1 : Int32) (x2 : Int32) (x3 : Int32) (z : XS) (R0 : Int32 × XS) (hD : D_X9_sheet x1 x2 x3 z = some R0) : xM l X ex yX9_sheet cX9_sheet 4 (some .int) rm_X9_sheet [.ref (X.2.2.1 0 (0)), .int (x1), .int (x2), .int (x3)] z (xQi X ex R0.2 R0.1) := by
  refine x_ent (by decide) (Nat.le_of_ble_eq_true rfl) ?_
  intro p e s m below meth c ls C hr hk hw hl
  replace hl : lv_has ls 4 [(0, .ref (X.2.2.1 0 (0))), (1, .int (x1)), (2, .int (x2)), (3, .int (x3))] := hl
  unfold D_X9_sheet at hD
  refine lv_aload_n C.1 C.2.1 dX9_sheet_0 rfl (lv_at hl 0 rfl) ?_
  refine lv_iconst (v := (0 : Int32)) C.1 C.2.1 dX9_sheet_1 (by decide) ?_
  obtain ⟨z1, hz1, hD⟩ := Option.bind_eq_some_iff.mp hD
  refine pf_X9_4 C hw kw_8 dX9_sheet_2 (fun H locs hw => ?_)
  replace hw := xw_eq hz1 hw
  refine lv_iload_n C.1 C.2.1 dX9_sheet_5 rfl (lv_at hl 1 rfl) ?_
  obtain ⟨q2, hq2, hD⟩ := Option.bind_eq_some_iff.mp hD
  refine x_goi hw (x_runS (As := [.int (x1)]) (rest := []) C hw cS_X9_isSheet kw_356 (c_X9_isSheet l X ex x1  z1 q2 hq2) ⟨Nat.le_of_ble_eq_true rfl, Nat.le_of_ble_eq_true rfl⟩ rfl hl.1 rfl (Nat.le_of_ble_eq_true rfl) dX9_sheet_6 ⟨Nat.le_of_ble_eq_true rfl, Nat.le_of_ble_eq_true rfl⟩) (fun H locs hw => ?_)
  refine lv_if_ne (tgt := 14) C.1 C.2.1 dX9_sheet_9 (by decide) (fun c3 => ?_) (fun c3 => ?_)
  · replace hD := (if_neg c3).symm.trans hD
    refine lv_iload_n C.1 C.2.1 dX9_sheet_14 rfl (lv_at hl 2 rfl) ?_
    refine lv_iconst (v := (2 : Int32)) C.1 C.2.1 dX9_sheet_15 (by decide) ?_
    obtain ⟨q4, hq4, hD⟩ := Option.bind_eq_some_iff.mp hD
    refine x_goi hw (x_runS (As := [.int (x2), .int ((2 : Int32))]) (rest := []) C hw cS_X9_isWithin kw_5 (c_X9_isWithin l X ex x2 (2 : Int32)  q2.2 q4 hq4) ⟨Nat.le_of_ble_eq_true rfl, Nat.le_of_ble_eq_true rfl⟩ rfl hl.1 rfl (Nat.le_of_ble_eq_true rfl) dX9_sheet_16 ⟨Nat.le_of_ble_eq_true rfl, Nat.le_of_ble_eq_true rfl⟩) (fun H locs hw => ?_)
    refine lv_if_eq (tgt := 28) C.1 C.2.1 dX9_sheet_19 (by decide) (fun c5 => ?_) (fun c5 => ?_)
    · replace hD := (if_pos c5).symm.trans hD
      refine lv_bipush (v := (-2 : Int32)) C.1 C.2.1 dX9_sheet_28 (by decide) ?_
      obtain rfl := Option.some.inj hD
      exact x_iret C hw hr hk dX9_sheet_30
    · replace hD := (if_neg c5).symm.trans hD
      refine lv_iload_n C.1 C.2.1 dX9_sheet_22 rfl (lv_at hl 3 rfl) ?_
      refine lv_bipush (v := (60 : Int32)) C.1 C.2.1 dX9_sheet_23 (by decide) ?_
      refine lv_icmp_le (tgt := 31) C.1 C.2.1 dX9_sheet_25 (by decide) (fun c6 => ?_) (fun c6 => ?_)
      · replace hD := (if_pos c6).symm.trans hD
        refine lv_iload_n C.1 C.2.1 dX9_sheet_31 rfl (lv_at hl 3 rfl) ?_
        refine lv_if_ge (tgt := 41) C.1 C.2.1 dX9_sheet_32 (by decide) (fun c7 => ?_) (fun c7 => ?_)
        · replace hD := (if_pos c7).symm.trans hD
          refine lv_aload_n C.1 C.2.1 dX9_sheet_41 rfl (lv_at hl 0 rfl) ?_
          refine gf_X9_3 C hw kw_357 dX9_sheet_42 ?_
          refine lv_iload_n C.1 C.2.1 dX9_sheet_45 rfl (lv_at hl 1 rfl) ?_
          obtain ⟨g8, hD⟩ := gd_some hD
          refine x_aald (k := 4) (j := 0) (f := fun i => X.2.2.1 5 i) C hw (Nat.le_of_ble_eq_true rfl) 3 rfl rfl rfl (inB_in g8) (a := X.2.2.1 5 (x1.toNatClampNeg)) rfl dX9_sheet_46 ?_
          refine lv_iload_n C.1 C.2.1 dX9_sheet_47 rfl (lv_at hl 2 rfl) ?_
          refine lv_iload_n C.1 C.2.1 dX9_sheet_48 rfl (lv_at hl 3 rfl) ?_
          obtain ⟨q9, hq9, hD⟩ := Option.bind_eq_some_iff.mp hD
          refine x_gov hw (x_runV (As := [.int (x2), .int (x3)]) (rest := []) (k := 5) (j := x1.toNatClampNeg) C hw (inB_lt g8) rfl rfl cV_X5_begin kw_365 (c_X5_begin l X ex x1.toNatClampNeg x2 x3 (inB_lt g8) q4.2 q9 hq9) ⟨Nat.le_of_ble_eq_true rfl, Nat.le_of_ble_eq_true rfl⟩ rfl hl.1 rfl (Nat.le_of_ble_eq_true rfl) dX9_sheet_49 ⟨Nat.le_of_ble_eq_true rfl, Nat.le_of_ble_eq_true rfl⟩) (fun H locs hw => ?_)
          refine lv_iconst (v := (1 : Int32)) C.1 C.2.1 dX9_sheet_52 (by decide) ?_
          obtain rfl := Option.some.inj hD
          exact x_iret C hw hr hk dX9_sheet_53
        · replace hD := (if_neg c7).symm.trans hD
          refine lv_aload_n C.1 C.2.1 dX9_sheet_35 rfl (lv_at hl 0 rfl) ?_
          refine lv_iconst (v := (4 : Int32)) C.1 C.2.1 dX9_sheet_36 (by decide) ?_
          obtain ⟨q10, hq10, hD⟩ := Option.bind_eq_some_iff.mp hD
          refine x_goi hw (x_runV (As := [.int ((4 : Int32))]) (rest := []) (k := 0) (j := 0) C hw (Nat.le_of_ble_eq_true rfl) rfl rfl cV_X9_faulted kw_371 (c_X9_faulted l X ex (4 : Int32)  q4.2 q10 hq10) ⟨Nat.le_of_ble_eq_true rfl, Nat.le_of_ble_eq_true rfl⟩ rfl hl.1 rfl (Nat.le_of_ble_eq_true rfl) dX9_sheet_37 ⟨Nat.le_of_ble_eq_true rfl, Nat.le_of_ble_eq_true rfl⟩) (fun H locs hw => ?_)
          obtain rfl := Option.some.inj hD
          exact x_iret C hw hr hk dX9_sheet_40
      · replace hD := (if_neg c6).symm.trans hD
        refine lv_bipush (v := (-2 : Int32)) C.1 C.2.1 dX9_sheet_28 (by decide) ?_
        obtain rfl := Option.some.inj hD
        exact x_iret C hw hr hk dX9_sheet_30
  · replace hD := (if_pos c3).symm.trans hD
    refine lv_iconst (v := (-1 : Int32)) C.1 C.2.1 dX9_sheet_12 (by decide) ?_
    obtain rfl := Option.some.inj hD
    exact x_iret C hw hr hk dX9_sheet_13
