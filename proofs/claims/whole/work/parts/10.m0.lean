abbrev rm_X9_isWithin : Room := { frames := 0, cells := 0, slots := 0, locals := 0 }
def D_X9_isWithin (x0 : Int32) (x1 : Int32) (z : XS) : Option (Int32 × XS) :=
  (if x0 < 0 then some ((0 : Int32), z) else (if x1 < x0 then some ((0 : Int32), z) else some ((1 : Int32), z)))
set_option maxHeartbeats 4000000 in
set_option maxRecDepth 100000 in
theorem c_X9_isWithin (l : Launch) (X : XC) (ex : va_W) (x0 : Int32) (x1 : Int32) (z : XS) (R0 : Int32 × XS) (hD : D_X9_isWithin x0 x1 z = some R0) : xM l X ex yX9_isWithin cX9_isWithin 2 (some .boolean) rm_X9_isWithin [.int (x0), .int (x1)] z (xQi X ex R0.2 R0.1) := by
  refine x_ent (by decide) (Nat.le_of_ble_eq_true rfl) ?_
  intro p e s m below meth c ls C hr hk hw hl
  replace hl : lv_has ls 2 [(0, .int (x0)), (1, .int (x1))] := hl
  unfold D_X9_isWithin at hD
  refine lv_iload_n C.1 C.2.1 dX9_isWithin_0 rfl (lv_at hl 0 rfl) ?_
  refine lv_if_lt (tgt := 13) C.1 C.2.1 dX9_isWithin_1 (by decide) (fun c1 => ?_) (fun c1 => ?_)
  · replace hD := (if_pos c1).symm.trans hD
    refine lv_iconst (v := (0 : Int32)) C.1 C.2.1 dX9_isWithin_13 (by decide) ?_
    obtain rfl := Option.some.inj hD
    exact x_zret (v := (0 : Int32)) C hw hr hk nb0 dX9_isWithin_14
  · replace hD := (if_neg c1).symm.trans hD
    refine lv_iload_n C.1 C.2.1 dX9_isWithin_4 rfl (lv_at hl 0 rfl) ?_
    refine lv_iload_n C.1 C.2.1 dX9_isWithin_5 rfl (lv_at hl 1 rfl) ?_
    refine lv_icmp_gt (tgt := 13) C.1 C.2.1 dX9_isWithin_6 (by decide) (fun c2 => ?_) (fun c2 => ?_)
    · replace hD := (if_pos c2).symm.trans hD
      refine lv_iconst (v := (0 : Int32)) C.1 C.2.1 dX9_isWithin_13 (by decide) ?_
      obtain rfl := Option.some.inj hD
      exact x_zret (v := (0 : Int32)) C hw hr hk nb0 dX9_isWithin_14
    · replace hD := (if_neg c2).symm.trans hD
      refine lv_iconst (v := (1 : Int32)) C.1 C.2.1 dX9_isWithin_9 (by decide) ?_
      refine lv_goto (tgt := 14) C.1 C.2.1 dX9_isWithin_10 (by decide) ?_
      obtain rfl := Option.some.inj hD
      exact x_zret (v := (1 : Int32)) C hw hr hk nb1 dX9_isWithin_14
theorem kw_0 : Cond.code yX9_isWithin cX9_isWithin 2 (some .boolean) ∈ gtbl := gm1 166 rfl rfl
theorem kw_1 : Cond.initialized RX9 ∈ gtbl := gm1 1 rfl rfl
theorem nd_X9_isWithin : (yX9_isWithin).cls ≠ "java/lang/invoke/MethodHandle" ∧ (yX9_isWithin).cls ≠ "java/lang/invoke/VarHandle" ∧ (parseMethodDescriptor (yX9_isWithin).desc).map (fun d => d.parameters.length) = some 2 := by decide +kernel
theorem kw_3 : Cond.static yX9_isWithin ∈ gtbl := gm1 165 rfl rfl
theorem cS_X9_isWithin : xcS yX9_isWithin cX9_isWithin 2 (some .boolean) 2 := ⟨⟨kw_0, kw_1, nd_X9_isWithin⟩, kw_3⟩
theorem kw_5 : Cond.methodLink RX9 47 yX9_isWithin ∈ gtbl := gm1 164 rfl rfl
abbrev rm_X9_isSheet : Room := { frames := 1, cells := 0, slots := 0, locals := 21 }
def D_X9_isSheet (x0 : Int32) (z : XS) : Option (Int32 × XS) :=
  (D_X9_isWithin x0 (3 : Int32) z).bind fun q1 => (gd (isZ q1.1) (some (q1.1, q1.2)))
set_option maxHeartbeats 4000000 in
set_option maxRecDepth 100000 in
theorem c_X9_isSheet (l : Launch) (X : XC) (ex : va_W) (x0 : Int32) (z : XS) (R0 : Int32 × XS) (hD : D_X9_isSheet x0 z = some R0) : xM l X ex yX9_isSheet cX9_isSheet 1 (some .boolean) rm_X9_isSheet [.int (x0)] z (xQi X ex R0.2 R0.1) := by
  refine x_ent (by decide) (Nat.le_of_ble_eq_true rfl) ?_
  intro p e s m below meth c ls C hr hk hw hl
  replace hl : lv_has ls 1 [(0, .int (x0))] := hl
  unfold D_X9_isSheet at hD
  refine lv_iload_n C.1 C.2.1 dX9_isSheet_0 rfl (lv_at hl 0 rfl) ?_
  refine lv_iconst (v := (3 : Int32)) C.1 C.2.1 dX9_isSheet_1 (by decide) ?_
  obtain ⟨q1, hq1, hD⟩ := Option.bind_eq_some_iff.mp hD
  refine x_goi hw (x_runS (As := [.int (x0), .int ((3 : Int32))]) (rest := []) C hw cS_X9_isWithin kw_5 (c_X9_isWithin l X ex x0 (3 : Int32)  z q1 hq1) ⟨Nat.le_of_ble_eq_true rfl, Nat.le_of_ble_eq_true rfl⟩ rfl hl.1 rfl (Nat.le_of_ble_eq_true rfl) dX9_isSheet_2 ⟨Nat.le_of_ble_eq_true rfl, Nat.le_of_ble_eq_true rfl⟩) (fun H locs hw => ?_)
  obtain ⟨g2, hD⟩ := gd_some hD
  obtain rfl := Option.some.inj hD
  exact x_zret (v := q1.1) C hw hr hk (isZ_n g2) dX9_isSheet_5
theorem kw_6 : Cond.fieldLink RX5 15 (TX5 1).1 (TX5 1).2.1 (TX5 1).2.2.1 ∈ gtbl := gm1 131 rfl rfl
theorem gf_X5_1 {p : Program} {l : Launch} {e : Env} {R : Room} {s : State} {m : MethodId} {args : Array Value} {below : List Frame} {meth : Method} {c : Code} {H : Heap} {locs : List Loc} {cells slots : Nat} {Q : State → Prop} {cc : ByteArray} {pc nL index : Nat} {ls : Array Slot} {rest : List Value} {X : XC} {ex : va_W} {z : XS} {own : String} (C : CallFix p m c cc nL s args gtbl own) (hw : xw X ex z s H locs) {j : Nat} (hj : j < 4) (hlink : Cond.fieldLink own index (TX5 1).1 (TX5 1).2.1 (TX5 1).2.2.1 ∈ gtbl) (hdg : decode cc pc = .ok (.getfield index, 3)) (kk : W p l e R s m args below meth c H locs cells slots Q (F0 m (pc + 3) ls (.int (gS z 5 1 j) :: rest))) : W p l e R s m args below meth c H locs cells slots Q (F0 m pc ls (.ref (X.2.2.1 5 j) :: rest)) :=
  x_get (k := 5) (j := j) C hw hj 1 (v := .int (gS z 5 1 j)) rfl rfl ixX5 (by decide) hlink rfl hdg kk
abbrev rm_X5_isOfOtherLane : Room := { frames := 0, cells := 0, slots := 0, locals := 0 }
def D_X5_isOfOtherLane (j0 : Nat) (x1 : Int32) (z : XS) : Option (Int32 × XS) :=
  (if gS z 5 1 j0 = (-1 : Int32) then some ((0 : Int32), z) else (if gS z 5 1 j0 = x1 then some ((0 : Int32), z) else some ((1 : Int32), z)))
set_option maxHeartbeats 4000000 in
set_option maxRecDepth 100000 in
theorem c_X5_isOfOtherLane (l : Launch) (X : XC) (ex : va_W) (j0 : Nat) (x1 : Int32) (hj0 : j0 < 4) (z : XS) (R0 : Int32 × XS) (hD : D_X5_isOfOtherLane j0 x1 z = some R0) : xM l X ex yX5_isOfOtherLane cX5_isOfOtherLane 2 (some .boolean) rm_X5_isOfOtherLane [.ref (X.2.2.1 5 (j0)), .int (x1)] z (xQi X ex R0.2 R0.1) := by
  refine x_ent (by decide) (Nat.le_of_ble_eq_true rfl) ?_
  intro p e s m below meth c ls C hr hk hw hl
  replace hl : lv_has ls 2 [(0, .ref (X.2.2.1 5 (j0))), (1, .int (x1))] := hl
  unfold D_X5_isOfOtherLane at hD
  refine lv_aload_n C.1 C.2.1 dX5_isOfOtherLane_0 rfl (lv_at hl 0 rfl) ?_
  refine gf_X5_1 C hw (j := j0) hj0 kw_6 dX5_isOfOtherLane_1 ?_
  refine lv_iconst (v := (-1 : Int32)) C.1 C.2.1 dX5_isOfOtherLane_4 (by decide) ?_
  refine lv_icmp_eq (tgt := 20) C.1 C.2.1 dX5_isOfOtherLane_5 (by decide) (fun c1 => ?_) (fun c1 => ?_)
  · replace hD := (if_pos c1).symm.trans hD
    refine lv_iconst (v := (0 : Int32)) C.1 C.2.1 dX5_isOfOtherLane_20 (by decide) ?_
    obtain rfl := Option.some.inj hD
    exact x_zret (v := (0 : Int32)) C hw hr hk nb0 dX5_isOfOtherLane_21
  · replace hD := (if_neg c1).symm.trans hD
    refine lv_aload_n C.1 C.2.1 dX5_isOfOtherLane_8 rfl (lv_at hl 0 rfl) ?_
    refine gf_X5_1 C hw (j := j0) hj0 kw_6 dX5_isOfOtherLane_9 ?_
    refine lv_iload_n C.1 C.2.1 dX5_isOfOtherLane_12 rfl (lv_at hl 1 rfl) ?_
    refine lv_icmp_eq (tgt := 20) C.1 C.2.1 dX5_isOfOtherLane_13 (by decide) (fun c2 => ?_) (fun c2 => ?_)
    · replace hD := (if_pos c2).symm.trans hD
      refine lv_iconst (v := (0 : Int32)) C.1 C.2.1 dX5_isOfOtherLane_20 (by decide) ?_
      obtain rfl := Option.some.inj hD
      exact x_zret (v := (0 : Int32)) C hw hr hk nb0 dX5_isOfOtherLane_21
    · replace hD := (if_neg c2).symm.trans hD
      refine lv_iconst (v := (1 : Int32)) C.1 C.2.1 dX5_isOfOtherLane_16 (by decide) ?_
      refine lv_goto (tgt := 21) C.1 C.2.1 dX5_isOfOtherLane_17 (by decide) ?_
      obtain rfl := Option.some.inj hD
      exact x_zret (v := (1 : Int32)) C hw hr hk nb1 dX5_isOfOtherLane_21
theorem kw_8 : Cond.fieldLink RX9 38 (TX9 4).1 (TX9 4).2.1 (TX9 4).2.2.1 ∈ gtbl := gm1 145 rfl rfl
theorem pf_X9_4 {p : Program} {l : Launch} {e : Env} {R : Room} {s : State} {m : MethodId} {args : Array Value} {below : List Frame} {meth : Method} {c : Code} {H : Heap} {locs : List Loc} {cells slots : Nat} {Q : State → Prop} {cc : ByteArray} {pc nL index : Nat} {ls : Array Slot} {rest : List Value} {X : XC} {ex : va_W} {z : XS} {own : String} (C : CallFix p m c cc nL s args gtbl own) (hw : xw X ex z s H locs) {v : Int32} (hlink : Cond.fieldLink own index (TX9 4).1 (TX9 4).2.1 (TX9 4).2.2.1 ∈ gtbl) (hdg : decode cc pc = .ok (.putfield index, 3)) (kk : ∀ (H1 : Heap) (locs1 : List Loc), xw X ex (pS z 0 4 0 v) s H1 locs1 → W p l e R s m args below meth c H1 locs1 cells slots Q (F0 m (pc + 3) ls rest)) : W p l e R s m args below meth c H locs cells slots Q (F0 m pc ls (.int v :: .ref (X.2.2.1 0 0) :: rest)) :=
  x_put (k := 0) (j := 0) C hw (Nat.le_of_ble_eq_true rfl) 4 (v := v) rfl rfl rfl ixX9 tyX9 tyX9_ok nmX9 (by decide) hlink rfl (by decide +kernel) (Nat.le_of_ble_eq_true rfl) hdg kk
abbrev rm_X9_faulted : Room := { frames := 0, cells := 0, slots := 0, locals := 0 }
def D_X9_faulted (x1 : Int32) (z : XS) : Option (Int32 × XS) :=
  (some (pS z 0 4 0 x1)).bind fun z1 => (some ((-10 : Int32) - x1, z1))
set_option maxHeartbeats 4000000 in
set_option maxRecDepth 100000 in
theorem c_X9_faulted (l : Launch) (X : XC) (ex : va_W) (x1 : Int32) (z : XS) (R0 : Int32 × XS) (hD : D_X9_faulted x1 z = some R0) : xM l X ex yX9_faulted cX9_faulted 2 (some .int) rm_X9_faulted [.ref (X.2.2.1 0 (0)), .int (x1)] z (xQi X ex R0.2 R0.1) := by
  refine x_ent (by decide) (Nat.le_of_ble_eq_true rfl) ?_
  intro p e s m below meth c ls C hr hk hw hl
  replace hl : lv_has ls 2 [(0, .ref (X.2.2.1 0 (0))), (1, .int (x1))] := hl
  unfold D_X9_faulted at hD
  refine lv_aload_n C.1 C.2.1 dX9_faulted_0 rfl (lv_at hl 0 rfl) ?_
  refine lv_iload_n C.1 C.2.1 dX9_faulted_1 rfl (lv_at hl 1 rfl) ?_
  obtain ⟨z1, hz1, hD⟩ := Option.bind_eq_some_iff.mp hD
  refine pf_X9_4 C hw kw_8 dX9_faulted_2 (fun H locs hw => ?_)
  replace hw := xw_eq hz1 hw
  refine lv_bipush (v := (-10 : Int32)) C.1 C.2.1 dX9_faulted_5 (by decide) ?_
  refine lv_iload_n C.1 C.2.1 dX9_faulted_7 rfl (lv_at hl 1 rfl) ?_
  refine lv_isub C.1 C.2.1 dX9_faulted_8 ?_
  obtain rfl := Option.some.inj hD
  exact x_iret C hw hr hk dX9_faulted_9
abbrev rm_X5_hasNothing : Room := { frames := 0, cells := 0, slots := 0, locals := 0 }
def D_X5_hasNothing (j0 : Nat) (z : XS) : Option (Int32 × XS) :=
  (if gS z 5 1 j0 = (-1 : Int32) then some ((1 : Int32), z) else some ((0 : Int32), z))
set_option maxHeartbeats 4000000 in
set_option maxRecDepth 100000 in
theorem c_X5_hasNothing (l : Launch) (X : XC) (ex : va_W) (j0 : Nat) (hj0 : j0 < 4) (z : XS) (R0 : Int32 × XS) (hD : D_X5_hasNothing j0 z = some R0) : xM l X ex yX5_hasNothing cX5_hasNothing 1 (some .boolean) rm_X5_hasNothing [.ref (X.2.2.1 5 (j0))] z (xQi X ex R0.2 R0.1) := by
  refine x_ent (by decide) (Nat.le_of_ble_eq_true rfl) ?_
  intro p e s m below meth c ls C hr hk hw hl
  replace hl : lv_has ls 1 [(0, .ref (X.2.2.1 5 (j0)))] := hl
  unfold D_X5_hasNothing at hD
  refine lv_aload_n C.1 C.2.1 dX5_hasNothing_0 rfl (lv_at hl 0 rfl) ?_
  refine gf_X5_1 C hw (j := j0) hj0 kw_6 dX5_hasNothing_1 ?_
  refine lv_iconst (v := (-1 : Int32)) C.1 C.2.1 dX5_hasNothing_4 (by decide) ?_
  refine lv_icmp_ne (tgt := 12) C.1 C.2.1 dX5_hasNothing_5 (by decide) (fun c1 => ?_) (fun c1 => ?_)
  · replace hD := (if_neg c1).symm.trans hD
    refine lv_iconst (v := (0 : Int32)) C.1 C.2.1 dX5_hasNothing_12 (by decide) ?_
    obtain rfl := Option.some.inj hD
    exact x_zret (v := (0 : Int32)) C hw hr hk nb0 dX5_hasNothing_13
  · replace hD := (if_pos c1).symm.trans hD
    refine lv_iconst (v := (1 : Int32)) C.1 C.2.1 dX5_hasNothing_8 (by decide) ?_
    refine lv_goto (tgt := 13) C.1 C.2.1 dX5_hasNothing_9 (by decide) ?_
    obtain rfl := Option.some.inj hD
    exact x_zret (v := (1 : Int32)) C hw hr hk nb1 dX5_hasNothing_13
theorem kw_10 : Cond.fieldLink RX5 19 (TX5 2).1 (TX5 2).2.1 (TX5 2).2.2.1 ∈ gtbl := gm1 133 rfl rfl
theorem gf_X5_2 {p : Program} {l : Launch} {e : Env} {R : Room} {s : State} {m : MethodId} {args : Array Value} {below : List Frame} {meth : Method} {c : Code} {H : Heap} {locs : List Loc} {cells slots : Nat} {Q : State → Prop} {cc : ByteArray} {pc nL index : Nat} {ls : Array Slot} {rest : List Value} {X : XC} {ex : va_W} {z : XS} {own : String} (C : CallFix p m c cc nL s args gtbl own) (hw : xw X ex z s H locs) {j : Nat} (hj : j < 4) (hlink : Cond.fieldLink own index (TX5 2).1 (TX5 2).2.1 (TX5 2).2.2.1 ∈ gtbl) (hdg : decode cc pc = .ok (.getfield index, 3)) (kk : W p l e R s m args below meth c H locs cells slots Q (F0 m (pc + 3) ls (.int (gS z 5 2 j) :: rest))) : W p l e R s m args below meth c H locs cells slots Q (F0 m pc ls (.ref (X.2.2.1 5 j) :: rest)) :=
  x_get (k := 5) (j := j) C hw hj 2 (v := .int (gS z 5 2 j)) rfl rfl ixX5 (by decide) hlink rfl hdg kk
abbrev rm_X5_holdsRun : Room := { frames := 0, cells := 0, slots := 0, locals := 0 }
def D_X5_holdsRun (j0 : Nat) (x1 : Int32) (x2 : Int32) (z : XS) : Option (Int32 × XS) :=
  (if x1 < 0 then some ((0 : Int32), z) else (if gS z 5 2 j0 < x1 then some ((0 : Int32), z) else (if x2 < 0 then some ((0 : Int32), z) else (if (gS z 5 2 j0) - x1 < x2 then some ((0 : Int32), z) else some ((1 : Int32), z)))))
set_option maxHeartbeats 4000000 in
set_option maxRecDepth 100000 in
theorem c_X5_holdsRun (l : Launch) (X : XC) (ex : va_W) (j0 : Nat) (x1 : Int32) (x2 : Int32) (hj0 : j0 < 4) (z : XS) (R0 : Int32 × XS) (hD : D_X5_holdsRun j0 x1 x2 z = some R0) : xM l X ex yX5_holdsRun cX5_holdsRun 3 (some .boolean) rm_X5_holdsRun [.ref (X.2.2.1 5 (j0)), .int (x1), .int (x2)] z (xQi X ex R0.2 R0.1) := by
  refine x_ent (by decide) (Nat.le_of_ble_eq_true rfl) ?_
  intro p e s m below meth c ls C hr hk hw hl
  replace hl : lv_has ls 3 [(0, .ref (X.2.2.1 5 (j0))), (1, .int (x1)), (2, .int (x2))] := hl
  unfold D_X5_holdsRun at hD
  refine lv_iload_n C.1 C.2.1 dX5_holdsRun_0 rfl (lv_at hl 1 rfl) ?_
  refine lv_if_lt (tgt := 30) C.1 C.2.1 dX5_holdsRun_1 (by decide) (fun c1 => ?_) (fun c1 => ?_)
  · replace hD := (if_pos c1).symm.trans hD
    refine lv_iconst (v := (0 : Int32)) C.1 C.2.1 dX5_holdsRun_30 (by decide) ?_
    obtain rfl := Option.some.inj hD
    exact x_zret (v := (0 : Int32)) C hw hr hk nb0 dX5_holdsRun_31
  · replace hD := (if_neg c1).symm.trans hD
    refine lv_iload_n C.1 C.2.1 dX5_holdsRun_4 rfl (lv_at hl 1 rfl) ?_
    refine lv_aload_n C.1 C.2.1 dX5_holdsRun_5 rfl (lv_at hl 0 rfl) ?_
    refine gf_X5_2 C hw (j := j0) hj0 kw_10 dX5_holdsRun_6 ?_
    refine lv_icmp_gt (tgt := 30) C.1 C.2.1 dX5_holdsRun_9 (by decide) (fun c2 => ?_) (fun c2 => ?_)
    · replace hD := (if_pos c2).symm.trans hD
      refine lv_iconst (v := (0 : Int32)) C.1 C.2.1 dX5_holdsRun_30 (by decide) ?_
      obtain rfl := Option.some.inj hD
      exact x_zret (v := (0 : Int32)) C hw hr hk nb0 dX5_holdsRun_31
    · replace hD := (if_neg c2).symm.trans hD
      refine lv_iload_n C.1 C.2.1 dX5_holdsRun_12 rfl (lv_at hl 2 rfl) ?_
      refine lv_if_lt (tgt := 30) C.1 C.2.1 dX5_holdsRun_13 (by decide) (fun c3 => ?_) (fun c3 => ?_)
      · replace hD := (if_pos c3).symm.trans hD
        refine lv_iconst (v := (0 : Int32)) C.1 C.2.1 dX5_holdsRun_30 (by decide) ?_
        obtain rfl := Option.some.inj hD
        exact x_zret (v := (0 : Int32)) C hw hr hk nb0 dX5_holdsRun_31
      · replace hD := (if_neg c3).symm.trans hD
        refine lv_iload_n C.1 C.2.1 dX5_holdsRun_16 rfl (lv_at hl 2 rfl) ?_
        refine lv_aload_n C.1 C.2.1 dX5_holdsRun_17 rfl (lv_at hl 0 rfl) ?_
        refine gf_X5_2 C hw (j := j0) hj0 kw_10 dX5_holdsRun_18 ?_
        refine lv_iload_n C.1 C.2.1 dX5_holdsRun_21 rfl (lv_at hl 1 rfl) ?_
        refine lv_isub C.1 C.2.1 dX5_holdsRun_22 ?_
        refine lv_icmp_gt (tgt := 30) C.1 C.2.1 dX5_holdsRun_23 (by decide) (fun c4 => ?_) (fun c4 => ?_)
        · replace hD := (if_pos c4).symm.trans hD
          refine lv_iconst (v := (0 : Int32)) C.1 C.2.1 dX5_holdsRun_30 (by decide) ?_
          obtain rfl := Option.some.inj hD
          exact x_zret (v := (0 : Int32)) C hw hr hk nb0 dX5_holdsRun_31
        · replace hD := (if_neg c4).symm.trans hD
          refine lv_iconst (v := (1 : Int32)) C.1 C.2.1 dX5_holdsRun_26 (by decide) ?_
          refine lv_goto (tgt := 31) C.1 C.2.1 dX5_holdsRun_27 (by decide) ?_
          obtain rfl := Option.some.inj hD
          exact x_zret (v := (1 : Int32)) C hw hr hk nb1 dX5_holdsRun_31
abbrev rm_X6_partAt : Room := { frames := 0, cells := 0, slots := 0, locals := 0 }
def D_X6_partAt (x0 : Int32) (z : XS) : Option (Int32 × XS) :=
  some ((x0 - (1 : Int32)) - (x0 - (1 : Int32)) / (3 : Int32) * (3 : Int32), z)
set_option maxHeartbeats 4000000 in
set_option maxRecDepth 100000 in
theorem c_X6_partAt (l : Launch) (X : XC) (ex : va_W) (x0 : Int32) (z : XS) (R0 : Int32 × XS) (hD : D_X6_partAt x0 z = some R0) : xM l X ex yX6_partAt cX6_partAt 1 (some .int) rm_X6_partAt [.int (x0)] z (xQi X ex R0.2 R0.1) := by
  refine x_ent (by decide) (Nat.le_of_ble_eq_true rfl) ?_
  intro p e s m below meth c ls C hr hk hw hl
  replace hl : lv_has ls 1 [(0, .int (x0))] := hl
  unfold D_X6_partAt at hD
  refine lv_iload_n C.1 C.2.1 dX6_partAt_0 rfl (lv_at hl 0 rfl) ?_
  refine lv_iconst (v := (1 : Int32)) C.1 C.2.1 dX6_partAt_1 (by decide) ?_
  refine lv_isub C.1 C.2.1 dX6_partAt_2 ?_
  refine lv_iconst (v := (3 : Int32)) C.1 C.2.1 dX6_partAt_3 (by decide) ?_
  refine lv_irem C.1 C.2.1 dX6_partAt_4 (by decide) ?_
  obtain rfl := Option.some.inj hD
  exact x_iret C hw hr hk dX6_partAt_5
abbrev rm_X6_gardenAt : Room := { frames := 0, cells := 0, slots := 0, locals := 0 }
def D_X6_gardenAt (x0 : Int32) (z : XS) : Option (Int32 × XS) :=
  some ((x0 - (1 : Int32)) / (3 : Int32), z)
set_option maxHeartbeats 4000000 in
set_option maxRecDepth 100000 in
theorem c_X6_gardenAt (l : Launch) (X : XC) (ex : va_W) (x0 : Int32) (z : XS) (R0 : Int32 × XS) (hD : D_X6_gardenAt x0 z = some R0) : xM l X ex yX6_gardenAt cX6_gardenAt 1 (some .int) rm_X6_gardenAt [.int (x0)] z (xQi X ex R0.2 R0.1) := by
  refine x_ent (by decide) (Nat.le_of_ble_eq_true rfl) ?_
  intro p e s m below meth c ls C hr hk hw hl
  replace hl : lv_has ls 1 [(0, .int (x0))] := hl
  unfold D_X6_gardenAt at hD
  refine lv_iload_n C.1 C.2.1 dX6_gardenAt_0 rfl (lv_at hl 0 rfl) ?_
  refine lv_iconst (v := (1 : Int32)) C.1 C.2.1 dX6_gardenAt_1 (by decide) ?_
  refine lv_isub C.1 C.2.1 dX6_gardenAt_2 ?_
  refine lv_iconst (v := (3 : Int32)) C.1 C.2.1 dX6_gardenAt_3 (by decide) ?_
  refine lv_idiv C.1 C.2.1 dX6_gardenAt_4 (by decide) ?_
  obtain rfl := Option.some.inj hD
  exact x_iret C hw hr hk dX6_gardenAt_5
abbrev rm_X6_kindOf : Room := { frames := 0, cells := 0, slots := 0, locals := 0 }
def D_X6_kindOf (x0 : Int32) (z : XS) : Option (Int32 × XS) :=
  (if x0 = (98 : Int32) then some ((2 : Int32), z) else (if x0 = (104 : Int32) then some ((0 : Int32), z) else (if x0 = (121 : Int32) then some ((1 : Int32), z) else some ((-1 : Int32), z))))
set_option maxHeartbeats 4000000 in
set_option maxRecDepth 100000 in
theorem c_X6_kindOf (l : Launch) (X : XC) (ex : va_W) (x0 : Int32) (z : XS) (R0 : Int32 × XS) (hD : D_X6_kindOf x0 z = some R0) : xM l X ex yX6_kindOf cX6_kindOf 1 (some .int) rm_X6_kindOf [.int (x0)] z (xQi X ex R0.2 R0.1) := by
  refine x_ent (by decide) (Nat.le_of_ble_eq_true rfl) ?_
  intro p e s m below meth c ls C hr hk hw hl
  replace hl : lv_has ls 1 [(0, .int (x0))] := hl
  unfold D_X6_kindOf at hD
  refine lv_iload_n C.1 C.2.1 dX6_kindOf_0 rfl (lv_at hl 0 rfl) ?_
  by_cases c1 : x0 = (98 : Int32)
  · replace hD := (if_pos c1).symm.trans hD
    refine lv_lookup (off := 39) (tgt := 40) C.1 C.2.1 dX6_kindOf_1 (by decide) (by rw [c1]; decide) (by decide) ?_
    refine lv_iconst (v := (2 : Int32)) C.1 C.2.1 dX6_kindOf_40 (by decide) ?_
    obtain rfl := Option.some.inj hD
    exact x_iret C hw hr hk dX6_kindOf_41
  · replace hD := (if_neg c1).symm.trans hD
    by_cases c2 : x0 = (104 : Int32)
    · replace hD := (if_pos c2).symm.trans hD
      refine lv_lookup (off := 35) (tgt := 36) C.1 C.2.1 dX6_kindOf_1 (by decide) (by rw [c2]; decide) (by decide) ?_
      refine lv_iconst (v := (0 : Int32)) C.1 C.2.1 dX6_kindOf_36 (by decide) ?_
      obtain rfl := Option.some.inj hD
      exact x_iret C hw hr hk dX6_kindOf_37
    · replace hD := (if_neg c2).symm.trans hD
      by_cases c3 : x0 = (121 : Int32)
      · replace hD := (if_pos c3).symm.trans hD
        refine lv_lookup (off := 37) (tgt := 38) C.1 C.2.1 dX6_kindOf_1 (by decide) (by rw [c3]; decide) (by decide) ?_
        refine lv_iconst (v := (1 : Int32)) C.1 C.2.1 dX6_kindOf_38 (by decide) ?_
        obtain rfl := Option.some.inj hD
        exact x_iret C hw hr hk dX6_kindOf_39
      · replace hD := (if_neg c3).symm.trans hD
        refine lv_lookup (off := 41) (tgt := 42) C.1 C.2.1 dX6_kindOf_1 (by decide) (by simp [Op.lookupswitch.offset, sw_ne (n := 98) (98 : Int32) rfl c1, sw_ne (n := 104) (104 : Int32) rfl c2, sw_ne (n := 121) (121 : Int32) rfl c3]) (by decide) ?_
        refine lv_iconst (v := (-1 : Int32)) C.1 C.2.1 dX6_kindOf_42 (by decide) ?_
        obtain rfl := Option.some.inj hD
        exact x_iret C hw hr hk dX6_kindOf_43
theorem kw_12 : Cond.code yX6_partAt cX6_partAt 1 (some .int) ∈ gtbl := gm1 191 rfl rfl
theorem kw_13 : Cond.initialized RX6 ∈ gtbl := gm1 9 rfl rfl
theorem nd_X6_partAt : (yX6_partAt).cls ≠ "java/lang/invoke/MethodHandle" ∧ (yX6_partAt).cls ≠ "java/lang/invoke/VarHandle" ∧ (parseMethodDescriptor (yX6_partAt).desc).map (fun d => d.parameters.length) = some 1 := by decide +kernel
theorem kw_15 : Cond.static yX6_partAt ∈ gtbl := gm1 190 rfl rfl
theorem cS_X6_partAt : xcS yX6_partAt cX6_partAt 1 (some .int) 1 := ⟨⟨kw_12, kw_13, nd_X6_partAt⟩, kw_15⟩
theorem kw_17 : Cond.methodLink RX6 25 yX6_partAt ∈ gtbl := gm1 189 rfl rfl
theorem kw_18 : Cond.code yX6_gardenAt cX6_gardenAt 1 (some .int) ∈ gtbl := gm1 194 rfl rfl
theorem nd_X6_gardenAt : (yX6_gardenAt).cls ≠ "java/lang/invoke/MethodHandle" ∧ (yX6_gardenAt).cls ≠ "java/lang/invoke/VarHandle" ∧ (parseMethodDescriptor (yX6_gardenAt).desc).map (fun d => d.parameters.length) = some 1 := by decide +kernel
theorem kw_20 : Cond.static yX6_gardenAt ∈ gtbl := gm1 193 rfl rfl
theorem cS_X6_gardenAt : xcS yX6_gardenAt cX6_gardenAt 1 (some .int) 1 := ⟨⟨kw_18, kw_13, nd_X6_gardenAt⟩, kw_20⟩
theorem kw_22 : Cond.methodLink RX6 29 yX6_gardenAt ∈ gtbl := gm1 192 rfl rfl
theorem kw_23 : Cond.code yX6_kindOf cX6_kindOf 1 (some .int) ∈ gtbl := gm1 197 rfl rfl
theorem nd_X6_kindOf : (yX6_kindOf).cls ≠ "java/lang/invoke/MethodHandle" ∧ (yX6_kindOf).cls ≠ "java/lang/invoke/VarHandle" ∧ (parseMethodDescriptor (yX6_kindOf).desc).map (fun d => d.parameters.length) = some 1 := by decide +kernel
theorem kw_25 : Cond.static yX6_kindOf ∈ gtbl := gm1 196 rfl rfl
theorem cS_X6_kindOf : xcS yX6_kindOf cX6_kindOf 1 (some .int) 1 := ⟨⟨kw_23, kw_13, nd_X6_kindOf⟩, kw_25⟩
theorem kw_27 : Cond.methodLink RX6 32 yX6_kindOf ∈ gtbl := gm1 195 rfl rfl
abbrev rm_X6_goesOn : Room := { frames := 1, cells := 0, slots := 0, locals := 20 }
def D_X6_goesOn (x0 : Int32) (x1 : Int32) (z : XS) : Option (Int32 × XS) :=
  (if x0 = 0 then (if x1 = (103 : Int32) then some ((1 : Int32), z) else some ((0 : Int32), z)) else (D_X6_partAt x0 z).bind fun q2 => ((if q2.1 = (1 : Int32) then (D_X6_gardenAt x0 q2.2).bind fun q6 => ((if (6 : Int32) ≤ q6.1 then some ((0 : Int32), q6.2) else (D_X6_kindOf x1 q6.2).bind fun q8 => ((if q8.1 < 0 then some ((0 : Int32), q8.2) else some ((1 : Int32), q8.2))))) else (if x1 < (48 : Int32) then some ((0 : Int32), q2.2) else (if (57 : Int32) < x1 then some ((0 : Int32), q2.2) else some ((1 : Int32), q2.2))))))
set_option maxHeartbeats 4000000 in
set_option maxRecDepth 100000 in
theorem c_X6_goesOn (l : Launch) (X : XC) (ex : va_W) (x0 : Int32) (x1 : Int32) (z : XS) (R0 : Int32 × XS) (hD : D_X6_goesOn x0 x1 z = some R0) : xM l X ex yX6_goesOn cX6_goesOn 2 (some .boolean) rm_X6_goesOn [.int (x0), .int (x1)] z (xQi X ex R0.2 R0.1) := by
  refine x_ent (by decide) (Nat.le_of_ble_eq_true rfl) ?_
  intro p e s m below meth c ls C hr hk hw hl
  replace hl : lv_has ls 2 [(0, .int (x0)), (1, .int (x1))] := hl
  unfold D_X6_goesOn at hD
  refine lv_iload_n C.1 C.2.1 dX6_goesOn_0 rfl (lv_at hl 0 rfl) ?_
  refine lv_if_ne (tgt := 16) C.1 C.2.1 dX6_goesOn_1 (by decide) (fun c1 => ?_) (fun c1 => ?_)
  · replace hD := (if_neg c1).symm.trans hD
    refine lv_iload_n C.1 C.2.1 dX6_goesOn_16 rfl (lv_at hl 0 rfl) ?_
    obtain ⟨q2, hq2, hD⟩ := Option.bind_eq_some_iff.mp hD
    refine x_goi hw (x_runS (As := [.int (x0)]) (rest := []) C hw cS_X6_partAt kw_17 (c_X6_partAt l X ex x0  z q2 hq2) ⟨Nat.le_of_ble_eq_true rfl, Nat.le_of_ble_eq_true rfl⟩ rfl hl.1 rfl (Nat.le_of_ble_eq_true rfl) dX6_goesOn_17 ⟨Nat.le_of_ble_eq_true rfl, Nat.le_of_ble_eq_true rfl⟩) (fun H locs hw => ?_)
    refine lv_iconst (v := (1 : Int32)) C.1 C.2.1 dX6_goesOn_20 (by decide) ?_
    refine lv_icmp_ne (tgt := 46) C.1 C.2.1 dX6_goesOn_21 (by decide) (fun c3 => ?_) (fun c3 => ?_)
    · replace hD := (if_neg c3).symm.trans hD
      refine lv_iload_n C.1 C.2.1 dX6_goesOn_46 rfl (lv_at hl 1 rfl) ?_
      refine lv_bipush (v := (48 : Int32)) C.1 C.2.1 dX6_goesOn_47 (by decide) ?_
      refine lv_icmp_lt (tgt := 62) C.1 C.2.1 dX6_goesOn_49 (by decide) (fun c4 => ?_) (fun c4 => ?_)
      · replace hD := (if_pos c4).symm.trans hD
        refine lv_iconst (v := (0 : Int32)) C.1 C.2.1 dX6_goesOn_62 (by decide) ?_
        obtain rfl := Option.some.inj hD
        exact x_zret (v := (0 : Int32)) C hw hr hk nb0 dX6_goesOn_63
      · replace hD := (if_neg c4).symm.trans hD
        refine lv_iload_n C.1 C.2.1 dX6_goesOn_52 rfl (lv_at hl 1 rfl) ?_
        refine lv_bipush (v := (57 : Int32)) C.1 C.2.1 dX6_goesOn_53 (by decide) ?_
        refine lv_icmp_gt (tgt := 62) C.1 C.2.1 dX6_goesOn_55 (by decide) (fun c5 => ?_) (fun c5 => ?_)
        · replace hD := (if_pos c5).symm.trans hD
          refine lv_iconst (v := (0 : Int32)) C.1 C.2.1 dX6_goesOn_62 (by decide) ?_
          obtain rfl := Option.some.inj hD
          exact x_zret (v := (0 : Int32)) C hw hr hk nb0 dX6_goesOn_63
        · replace hD := (if_neg c5).symm.trans hD
          refine lv_iconst (v := (1 : Int32)) C.1 C.2.1 dX6_goesOn_58 (by decide) ?_
          refine lv_goto (tgt := 63) C.1 C.2.1 dX6_goesOn_59 (by decide) ?_
          obtain rfl := Option.some.inj hD
          exact x_zret (v := (1 : Int32)) C hw hr hk nb1 dX6_goesOn_63
    · replace hD := (if_pos c3).symm.trans hD
      refine lv_iload_n C.1 C.2.1 dX6_goesOn_24 rfl (lv_at hl 0 rfl) ?_
      obtain ⟨q6, hq6, hD⟩ := Option.bind_eq_some_iff.mp hD
      refine x_goi hw (x_runS (As := [.int (x0)]) (rest := []) C hw cS_X6_gardenAt kw_22 (c_X6_gardenAt l X ex x0  q2.2 q6 hq6) ⟨Nat.le_of_ble_eq_true rfl, Nat.le_of_ble_eq_true rfl⟩ rfl hl.1 rfl (Nat.le_of_ble_eq_true rfl) dX6_goesOn_25 ⟨Nat.le_of_ble_eq_true rfl, Nat.le_of_ble_eq_true rfl⟩) (fun H locs hw => ?_)
      refine lv_bipush (v := (6 : Int32)) C.1 C.2.1 dX6_goesOn_28 (by decide) ?_
      refine lv_icmp_ge (tgt := 44) C.1 C.2.1 dX6_goesOn_30 (by decide) (fun c7 => ?_) (fun c7 => ?_)
      · replace hD := (if_pos c7).symm.trans hD
        refine lv_iconst (v := (0 : Int32)) C.1 C.2.1 dX6_goesOn_44 (by decide) ?_
        obtain rfl := Option.some.inj hD
        exact x_zret (v := (0 : Int32)) C hw hr hk nb0 dX6_goesOn_45
      · replace hD := (if_neg c7).symm.trans hD
        refine lv_iload_n C.1 C.2.1 dX6_goesOn_33 rfl (lv_at hl 1 rfl) ?_
        obtain ⟨q8, hq8, hD⟩ := Option.bind_eq_some_iff.mp hD
        refine x_goi hw (x_runS (As := [.int (x1)]) (rest := []) C hw cS_X6_kindOf kw_27 (c_X6_kindOf l X ex x1  q6.2 q8 hq8) ⟨Nat.le_of_ble_eq_true rfl, Nat.le_of_ble_eq_true rfl⟩ rfl hl.1 rfl (Nat.le_of_ble_eq_true rfl) dX6_goesOn_34 ⟨Nat.le_of_ble_eq_true rfl, Nat.le_of_ble_eq_true rfl⟩) (fun H locs hw => ?_)
        refine lv_if_lt (tgt := 44) C.1 C.2.1 dX6_goesOn_37 (by decide) (fun c9 => ?_) (fun c9 => ?_)
        · replace hD := (if_pos c9).symm.trans hD
          refine lv_iconst (v := (0 : Int32)) C.1 C.2.1 dX6_goesOn_44 (by decide) ?_
          obtain rfl := Option.some.inj hD
          exact x_zret (v := (0 : Int32)) C hw hr hk nb0 dX6_goesOn_45
        · replace hD := (if_neg c9).symm.trans hD
          refine lv_iconst (v := (1 : Int32)) C.1 C.2.1 dX6_goesOn_40 (by decide) ?_
          refine lv_goto (tgt := 45) C.1 C.2.1 dX6_goesOn_41 (by decide) ?_
          obtain rfl := Option.some.inj hD
          exact x_zret (v := (1 : Int32)) C hw hr hk nb1 dX6_goesOn_45
  · replace hD := (if_pos c1).symm.trans hD
    refine lv_iload_n C.1 C.2.1 dX6_goesOn_4 rfl (lv_at hl 1 rfl) ?_
    refine lv_bipush (v := (103 : Int32)) C.1 C.2.1 dX6_goesOn_5 (by decide) ?_
    refine lv_icmp_ne (tgt := 14) C.1 C.2.1 dX6_goesOn_7 (by decide) (fun c10 => ?_) (fun c10 => ?_)
    · replace hD := (if_neg c10).symm.trans hD
      refine lv_iconst (v := (0 : Int32)) C.1 C.2.1 dX6_goesOn_14 (by decide) ?_
      obtain rfl := Option.some.inj hD
      exact x_zret (v := (0 : Int32)) C hw hr hk nb0 dX6_goesOn_15
    · replace hD := (if_pos c10).symm.trans hD
      refine lv_iconst (v := (1 : Int32)) C.1 C.2.1 dX6_goesOn_10 (by decide) ?_
      refine lv_goto (tgt := 15) C.1 C.2.1 dX6_goesOn_11 (by decide) ?_
      obtain rfl := Option.some.inj hD
      exact x_zret (v := (1 : Int32)) C hw hr hk nb1 dX6_goesOn_15
abbrev rm_X6_isWhole : Room := { frames := 1, cells := 0, slots := 0, locals := 20 }
def D_X6_isWhole (x0 : Int32) (z : XS) : Option (Int32 × XS) :=
  (if x0 ≤ (1 : Int32) then some ((0 : Int32), z) else (D_X6_partAt (x0 - (1 : Int32)) z).bind fun q2 => ((if q2.1 = 0 then (D_X6_gardenAt (x0 - (1 : Int32)) q2.2).bind fun q4 => ((if q4.1 ≤ 0 then some ((0 : Int32), q4.2) else some ((1 : Int32), q4.2))) else some ((0 : Int32), q2.2))))
set_option maxHeartbeats 4000000 in
set_option maxRecDepth 100000 in
theorem c_X6_isWhole (l : Launch) (X : XC) (ex : va_W) (x0 : Int32) (z : XS) (R0 : Int32 × XS) (hD : D_X6_isWhole x0 z = some R0) : xM l X ex yX6_isWhole cX6_isWhole 1 (some .boolean) rm_X6_isWhole [.int (x0)] z (xQi X ex R0.2 R0.1) := by
  refine x_ent (by decide) (Nat.le_of_ble_eq_true rfl) ?_
  intro p e s m below meth c ls C hr hk hw hl
  replace hl : lv_has ls 1 [(0, .int (x0))] := hl
  unfold D_X6_isWhole at hD
  refine lv_iload_n C.1 C.2.1 dX6_isWhole_0 rfl (lv_at hl 0 rfl) ?_
  refine lv_iconst (v := (1 : Int32)) C.1 C.2.1 dX6_isWhole_1 (by decide) ?_
  refine lv_icmp_le (tgt := 27) C.1 C.2.1 dX6_isWhole_2 (by decide) (fun c1 => ?_) (fun c1 => ?_)
  · replace hD := (if_pos c1).symm.trans hD
    refine lv_iconst (v := (0 : Int32)) C.1 C.2.1 dX6_isWhole_27 (by decide) ?_
    obtain rfl := Option.some.inj hD
    exact x_zret (v := (0 : Int32)) C hw hr hk nb0 dX6_isWhole_28
  · replace hD := (if_neg c1).symm.trans hD
    refine lv_iload_n C.1 C.2.1 dX6_isWhole_5 rfl (lv_at hl 0 rfl) ?_
    refine lv_iconst (v := (1 : Int32)) C.1 C.2.1 dX6_isWhole_6 (by decide) ?_
    refine lv_isub C.1 C.2.1 dX6_isWhole_7 ?_
    obtain ⟨q2, hq2, hD⟩ := Option.bind_eq_some_iff.mp hD
    refine x_goi hw (x_runS (As := [.int (x0 - (1 : Int32))]) (rest := []) C hw cS_X6_partAt kw_17 (c_X6_partAt l X ex (x0 - (1 : Int32))  z q2 hq2) ⟨Nat.le_of_ble_eq_true rfl, Nat.le_of_ble_eq_true rfl⟩ rfl hl.1 rfl (Nat.le_of_ble_eq_true rfl) dX6_isWhole_8 ⟨Nat.le_of_ble_eq_true rfl, Nat.le_of_ble_eq_true rfl⟩) (fun H locs hw => ?_)
    refine lv_if_ne (tgt := 27) C.1 C.2.1 dX6_isWhole_11 (by decide) (fun c3 => ?_) (fun c3 => ?_)
    · replace hD := (if_neg c3).symm.trans hD
      refine lv_iconst (v := (0 : Int32)) C.1 C.2.1 dX6_isWhole_27 (by decide) ?_
      obtain rfl := Option.some.inj hD
      exact x_zret (v := (0 : Int32)) C hw hr hk nb0 dX6_isWhole_28
    · replace hD := (if_pos c3).symm.trans hD
      refine lv_iload_n C.1 C.2.1 dX6_isWhole_14 rfl (lv_at hl 0 rfl) ?_
      refine lv_iconst (v := (1 : Int32)) C.1 C.2.1 dX6_isWhole_15 (by decide) ?_
      refine lv_isub C.1 C.2.1 dX6_isWhole_16 ?_
      obtain ⟨q4, hq4, hD⟩ := Option.bind_eq_some_iff.mp hD
      refine x_goi hw (x_runS (As := [.int (x0 - (1 : Int32))]) (rest := []) C hw cS_X6_gardenAt kw_22 (c_X6_gardenAt l X ex (x0 - (1 : Int32))  q2.2 q4 hq4) ⟨Nat.le_of_ble_eq_true rfl, Nat.le_of_ble_eq_true rfl⟩ rfl hl.1 rfl (Nat.le_of_ble_eq_true rfl) dX6_isWhole_17 ⟨Nat.le_of_ble_eq_true rfl, Nat.le_of_ble_eq_true rfl⟩) (fun H locs hw => ?_)
      refine lv_if_le (tgt := 27) C.1 C.2.1 dX6_isWhole_20 (by decide) (fun c5 => ?_) (fun c5 => ?_)
      · replace hD := (if_pos c5).symm.trans hD
        refine lv_iconst (v := (0 : Int32)) C.1 C.2.1 dX6_isWhole_27 (by decide) ?_
        obtain rfl := Option.some.inj hD
        exact x_zret (v := (0 : Int32)) C hw hr hk nb0 dX6_isWhole_28
      · replace hD := (if_neg c5).symm.trans hD
        refine lv_iconst (v := (1 : Int32)) C.1 C.2.1 dX6_isWhole_23 (by decide) ?_
        refine lv_goto (tgt := 28) C.1 C.2.1 dX6_isWhole_24 (by decide) ?_
        obtain rfl := Option.some.inj hD
        exact x_zret (v := (1 : Int32)) C hw hr hk nb1 dX6_isWhole_28
theorem kw_28 : Cond.code yX6_isWhole cX6_isWhole 1 (some .boolean) ∈ gtbl := gm1 200 rfl rfl
theorem nd_X6_isWhole : (yX6_isWhole).cls ≠ "java/lang/invoke/MethodHandle" ∧ (yX6_isWhole).cls ≠ "java/lang/invoke/VarHandle" ∧ (parseMethodDescriptor (yX6_isWhole).desc).map (fun d => d.parameters.length) = some 1 := by decide +kernel
theorem kw_30 : Cond.static yX6_isWhole ∈ gtbl := gm1 199 rfl rfl
theorem cS_X6_isWhole : xcS yX6_isWhole cX6_isWhole 1 (some .boolean) 1 := ⟨⟨kw_28, kw_13, nd_X6_isWhole⟩, kw_30⟩
theorem kw_32 : Cond.methodLink RX6 21 yX6_isWhole ∈ gtbl := gm1 198 rfl rfl
theorem gNf_X5_0 {p : Program} {l : Launch} {e : Env} {R : Room} {s : State} {m : MethodId} {args : Array Value} {below : List Frame} {meth : Method} {c : Code} {H : Heap} {locs : List Loc} {cells slots : Nat} {Q : State → Prop} {cc : ByteArray} {pc nL index : Nat} {ls : Array Slot} {rest : List Value} {X : XC} {ex : va_W} {z : XS} {own : String} (C : CallFix p m c cc nL s args gtbl own) (hw : xw X ex z s H locs) {j : Nat} (hj : j < 4) (hlink : (own, index, (TX5 0).1, (TX5 0).2.1, (TX5 0).2.2.1, "WordHedges") ∈ xnf) (hdg : decode cc pc = .ok (.getfield index, 3)) (kk : W p l e R s m args below meth c H locs cells slots Q (F0 m (pc + 3) ls (.ref (X.2.2.1 6 j) :: rest))) : W p l e R s m args below meth c H locs cells slots Q (F0 m pc ls (.ref (X.2.2.1 5 j) :: rest)) :=
  x_getN (k := 5) (j := j) C hw hj 0 (v := .ref (X.2.2.1 6 j)) rfl rfl ixX5 (by decide) hlink rfl hdg kk
theorem kw_34 : Cond.code yX6_goesOn cX6_goesOn 2 (some .boolean) ∈ gtbl := gm1 188 rfl rfl
theorem nd_X6_goesOn : (yX6_goesOn).cls ≠ "java/lang/invoke/MethodHandle" ∧ (yX6_goesOn).cls ≠ "java/lang/invoke/VarHandle" ∧ (parseMethodDescriptor (yX6_goesOn).desc).map (fun d => d.parameters.length) = some 2 := by decide +kernel
theorem kw_36 : Cond.static yX6_goesOn ∈ gtbl := gm1 187 rfl rfl
theorem cS_X6_goesOn : xcS yX6_goesOn cX6_goesOn 2 (some .boolean) 2 := ⟨⟨kw_34, kw_13, nd_X6_goesOn⟩, kw_36⟩
theorem kw_38 : Cond.methodLink RX6 15 yX6_goesOn ∈ gtbl := gm1 186 rfl rfl
abbrev rm_X6_firstFault : Room := { frames := 2, cells := 0, slots := 0, locals := 41 }
def B_X6_firstFault_2 (x0 : Nat) (x1 : Int32) (x2 : Int32) (k2_ : Int32 → XS → Option (Int32 × XS)) (y3 : Int32) (z : XS) : Option (Int32 × XS) :=
  (if x2 ≤ y3 then (D_X6_isWhole x2 z).bind fun q2 => ((if q2.1 = 0 then some (x2, q2.2) else some ((-1 : Int32), q2.2))) else gd (inB (x1 + y3) 60) ((D_X6_goesOn y3 (gA z 6 x0 (x1 + y3).toNatClampNeg) z).bind fun q5 => ((if q5.1 = 0 then some (y3, q5.2) else k2_ (y3 + 1) q5.2))))
def L_X6_firstFault_2 (x0 : Nat) (x1 : Int32) (x2 : Int32) : Nat → Int32 → XS → Option (Int32 × XS)
  | 0 => fun _ _ => none
  | n + 1 => B_X6_firstFault_2 x0 x1 x2  (L_X6_firstFault_2 x0 x1 x2  n)
set_option maxHeartbeats 4000000 in
set_option maxRecDepth 100000 in
theorem w_X6_firstFault_2 {p : Program} {l : Launch} {e : Env} {s : State} {m : MethodId} {below : List Frame} {meth : Method} {c : Code} {X : XC} {ex : va_W} (x0 : Nat) (x1 : Int32) (x2 : Int32) (hx0 : x0 < 4) (C : CallFix p m c cX6_firstFault 4 s (([.ref (X.2.2.1 5 (x0)), .int (x1), .int (x2)] : List Value).toArray) gtbl RX6) (hr : meth.sig.returnType = (some .int)) (hk : meth.locks = false) (R0 : Int32 × XS)  : ∀ (n : Nat), ∀ (y3 : Int32) (z : XS), L_X6_firstFault_2 x0 x1 x2  n y3 z = some R0 → ∀ (H : Heap) (locs : List Loc), xw X ex z s H locs → ∀ (ls : Array Slot), lv_has ls 4 [(0, .ref (X.2.2.1 5 (x0))), (1, .int (x1)), (2, .int (x2)), (3, .int (y3))] → W p l e rm_X6_firstFault s m (([.ref (X.2.2.1 5 (x0)), .int (x1), .int (x2)] : List Value).toArray) below meth c H locs 0 0 (MQ below (xQi X ex R0.2 R0.1) (([.ref (X.2.2.1 5 (x0)), .int (x1), .int (x2)] : List Value).toArray) s 0 0 (xA X)) (F0 m 2 ls []) := by
  intro n
  induction n with
  | zero =>
    intro y3 z  hD
    cases hD
  | succ n ih =>
    intro y3 z  hD H locs hw ls hl
    replace hD : B_X6_firstFault_2 x0 x1 x2  (L_X6_firstFault_2 x0 x1 x2  n) y3 z = some R0 := hD
    unfold B_X6_firstFault_2 at hD
    refine lv_iload_n C.1 C.2.1 dX6_firstFault_2 rfl (lv_at hl 3 rfl) ?_
    refine lv_iload_n C.1 C.2.1 dX6_firstFault_3 rfl (lv_at hl 2 rfl) ?_
    refine lv_icmp_ge (tgt := 30) C.1 C.2.1 dX6_firstFault_4 (by decide) (fun c1 => ?_) (fun c1 => ?_)
    · replace hD := (if_pos c1).symm.trans hD
      refine lv_iload_n C.1 C.2.1 dX6_firstFault_30 rfl (lv_at hl 2 rfl) ?_
      obtain ⟨q2, hq2, hD⟩ := Option.bind_eq_some_iff.mp hD
      refine x_goi hw (x_runS (As := [.int (x2)]) (rest := []) C hw cS_X6_isWhole kw_32 (c_X6_isWhole l X ex x2  z q2 hq2) ⟨Nat.le_of_ble_eq_true rfl, Nat.le_of_ble_eq_true rfl⟩ rfl hl.1 rfl (Nat.le_of_ble_eq_true rfl) dX6_firstFault_31 ⟨Nat.le_of_ble_eq_true rfl, Nat.le_of_ble_eq_true rfl⟩) (fun H locs hw => ?_)
      refine lv_if_eq (tgt := 41) C.1 C.2.1 dX6_firstFault_34 (by decide) (fun c3 => ?_) (fun c3 => ?_)
      · replace hD := (if_pos c3).symm.trans hD
        refine lv_iload_n C.1 C.2.1 dX6_firstFault_41 rfl (lv_at hl 2 rfl) ?_
        obtain rfl := Option.some.inj hD
        exact x_iret C hw hr hk dX6_firstFault_42
      · replace hD := (if_neg c3).symm.trans hD
        refine lv_iconst (v := (-1 : Int32)) C.1 C.2.1 dX6_firstFault_37 (by decide) ?_
        refine lv_goto (tgt := 42) C.1 C.2.1 dX6_firstFault_38 (by decide) ?_
        obtain rfl := Option.some.inj hD
        exact x_iret C hw hr hk dX6_firstFault_42
    · replace hD := (if_neg c1).symm.trans hD
      refine lv_iload_n C.1 C.2.1 dX6_firstFault_7 rfl (lv_at hl 3 rfl) ?_
      refine lv_aload_n C.1 C.2.1 dX6_firstFault_8 rfl (lv_at hl 0 rfl) ?_
      refine gNf_X5_0 C hw (j := x0) hx0 (List.mem_of_getElem? (i := 11) rfl) dX6_firstFault_9 ?_
      refine lv_iload_n C.1 C.2.1 dX6_firstFault_12 rfl (lv_at hl 1 rfl) ?_
      refine lv_iload_n C.1 C.2.1 dX6_firstFault_13 rfl (lv_at hl 3 rfl) ?_
      refine lv_iadd C.1 C.2.1 dX6_firstFault_14 ?_
      obtain ⟨g4, hD⟩ := gd_some hD
      refine x_iald (k := 6) (j := x0) C hw rfl hx0 (inB_in g4) dX6_firstFault_15 ?_
      obtain ⟨q5, hq5, hD⟩ := Option.bind_eq_some_iff.mp hD
      refine x_goi hw (x_runS (As := [.int (y3), .int (gA z 6 x0 (x1 + y3).toNatClampNeg)]) (rest := []) C hw cS_X6_goesOn kw_38 (c_X6_goesOn l X ex y3 (gA z 6 x0 (x1 + y3).toNatClampNeg)  z q5 hq5) ⟨Nat.le_of_ble_eq_true rfl, Nat.le_of_ble_eq_true rfl⟩ rfl hl.1 rfl (Nat.le_of_ble_eq_true rfl) dX6_firstFault_16 ⟨Nat.le_of_ble_eq_true rfl, Nat.le_of_ble_eq_true rfl⟩) (fun H locs hw => ?_)
      refine lv_if_ne (tgt := 24) C.1 C.2.1 dX6_firstFault_19 (by decide) (fun c6 => ?_) (fun c6 => ?_)
      · replace hD := (if_neg c6).symm.trans hD
        refine lv_iinc (v := y3 + 1) (lv' := [(3, .int (y3 + 1)), (0, .ref (X.2.2.1 5 (x0))), (1, .int (x1)), (2, .int (x2))]) C.1 C.2.1 dX6_firstFault_24 hl (k := 3) rfl rfl (by decide) rfl (fun ls hl => ?_)
        refine lv_goto (tgt := 2) C.1 C.2.1 dX6_firstFault_27 (by decide) ?_
        exact ih (y3 + 1) q5.2  hD _ _ hw _ (lv_sub hl [1, 2, 3, 0] rfl)
      · replace hD := (if_pos c6).symm.trans hD
        refine lv_iload_n C.1 C.2.1 dX6_firstFault_22 rfl (lv_at hl 3 rfl) ?_
        obtain rfl := Option.some.inj hD
        exact x_iret C hw hr hk dX6_firstFault_23
def D_X6_firstFault (x0 : Nat) (x1 : Int32) (x2 : Int32) (z : XS) : Option (Int32 × XS) :=
  L_X6_firstFault_2 x0 x1 x2  64 (0 : Int32) z
set_option maxHeartbeats 4000000 in
set_option maxRecDepth 100000 in
theorem c_X6_firstFault (l : Launch) (X : XC) (ex : va_W) (x0 : Nat) (x1 : Int32) (x2 : Int32) (hx0 : x0 < 4) (z : XS) (R0 : Int32 × XS) (hD : D_X6_firstFault x0 x1 x2 z = some R0) : xM l X ex yX6_firstFault cX6_firstFault 4 (some .int) rm_X6_firstFault [.ref (X.2.2.1 5 (x0)), .int (x1), .int (x2)] z (xQi X ex R0.2 R0.1) := by
  refine x_ent (by decide) (Nat.le_of_ble_eq_true rfl) ?_
  intro p e s m below meth c ls C hr hk hw hl
  replace hl : lv_has ls 4 [(0, .ref (X.2.2.1 5 (x0))), (1, .int (x1)), (2, .int (x2))] := hl
  unfold D_X6_firstFault at hD
  refine lv_iconst (v := (0 : Int32)) C.1 C.2.1 dX6_firstFault_0 (by decide) ?_
  refine lv_istore_n (lv' := [(3, .int ((0 : Int32))), (0, .ref (X.2.2.1 5 (x0))), (1, .int (x1)), (2, .int (x2))]) C.1 C.2.1 dX6_firstFault_1 rfl hl (by decide) rfl (fun ls hl => ?_)
  exact w_X6_firstFault_2 x0 x1 x2 hx0 C hr hk R0   64 (0 : Int32) z  hD _ _ hw _ (lv_sub hl [1, 2, 3, 0] rfl)
abbrev rm_X6_gardensOf : Room := { frames := 0, cells := 0, slots := 0, locals := 0 }
def D_X6_gardensOf (x0 : Int32) (z : XS) : Option (Int32 × XS) :=
  some ((x0 + (1 : Int32)) / (3 : Int32), z)
set_option maxHeartbeats 4000000 in
set_option maxRecDepth 100000 in
theorem c_X6_gardensOf (l : Launch) (X : XC) (ex : va_W) (x0 : Int32) (z : XS) (R0 : Int32 × XS) (hD : D_X6_gardensOf x0 z = some R0) : xM l X ex yX6_gardensOf cX6_gardensOf 1 (some .int) rm_X6_gardensOf [.int (x0)] z (xQi X ex R0.2 R0.1) := by
  refine x_ent (by decide) (Nat.le_of_ble_eq_true rfl) ?_
  intro p e s m below meth c ls C hr hk hw hl
  replace hl : lv_has ls 1 [(0, .int (x0))] := hl
  unfold D_X6_gardensOf at hD
  refine lv_iload_n C.1 C.2.1 dX6_gardensOf_0 rfl (lv_at hl 0 rfl) ?_
  refine lv_iconst (v := (1 : Int32)) C.1 C.2.1 dX6_gardensOf_1 (by decide) ?_
  refine lv_iadd C.1 C.2.1 dX6_gardensOf_2 ?_
  refine lv_iconst (v := (3 : Int32)) C.1 C.2.1 dX6_gardensOf_3 (by decide) ?_
  refine lv_idiv C.1 C.2.1 dX6_gardensOf_4 (by decide) ?_
  obtain rfl := Option.some.inj hD
  exact x_iret C hw hr hk dX6_gardensOf_5
theorem kw_39 : Cond.fieldLink RX4 21 (TX4 2).1 (TX4 2).2.1 (TX4 2).2.2.1 ∈ gtbl := gm1 77 rfl rfl
theorem gf_X4_2 {p : Program} {l : Launch} {e : Env} {R : Room} {s : State} {m : MethodId} {args : Array Value} {below : List Frame} {meth : Method} {c : Code} {H : Heap} {locs : List Loc} {cells slots : Nat} {Q : State → Prop} {cc : ByteArray} {pc nL index : Nat} {ls : Array Slot} {rest : List Value} {X : XC} {ex : va_W} {z : XS} {own : String} (C : CallFix p m c cc nL s args gtbl own) (hw : xw X ex z s H locs) (hlink : Cond.fieldLink own index (TX4 2).1 (TX4 2).2.1 (TX4 2).2.2.1 ∈ gtbl) (hdg : decode cc pc = .ok (.getfield index, 3)) (kk : W p l e R s m args below meth c H locs cells slots Q (F0 m (pc + 3) ls (.int (gS z 1 2 0) :: rest))) : W p l e R s m args below meth c H locs cells slots Q (F0 m pc ls (.ref (X.2.2.1 1 0) :: rest)) :=
  x_get (k := 1) (j := 0) C hw (Nat.le_of_ble_eq_true rfl) 2 (v := .int (gS z 1 2 0)) rfl rfl ixX4 (by decide) hlink rfl hdg kk
abbrev rm_X4_isHedge : Room := { frames := 0, cells := 0, slots := 0, locals := 0 }
def D_X4_isHedge (x1 : Int32) (z : XS) : Option (Int32 × XS) :=
  (if x1 < 0 then some ((0 : Int32), z) else (if (gS z 1 2 0) - (1 : Int32) ≤ x1 then some ((0 : Int32), z) else some ((1 : Int32), z)))
set_option maxHeartbeats 4000000 in
set_option maxRecDepth 100000 in
theorem c_X4_isHedge (l : Launch) (X : XC) (ex : va_W) (x1 : Int32) (z : XS) (R0 : Int32 × XS) (hD : D_X4_isHedge x1 z = some R0) : xM l X ex yX4_isHedge cX4_isHedge 2 (some .boolean) rm_X4_isHedge [.ref (X.2.2.1 1 (0)), .int (x1)] z (xQi X ex R0.2 R0.1) := by
  refine x_ent (by decide) (Nat.le_of_ble_eq_true rfl) ?_
  intro p e s m below meth c ls C hr hk hw hl
  replace hl : lv_has ls 2 [(0, .ref (X.2.2.1 1 (0))), (1, .int (x1))] := hl
  unfold D_X4_isHedge at hD
  refine lv_iload_n C.1 C.2.1 dX4_isHedge_0 rfl (lv_at hl 1 rfl) ?_
  refine lv_if_lt (tgt := 18) C.1 C.2.1 dX4_isHedge_1 (by decide) (fun c1 => ?_) (fun c1 => ?_)
  · replace hD := (if_pos c1).symm.trans hD
    refine lv_iconst (v := (0 : Int32)) C.1 C.2.1 dX4_isHedge_18 (by decide) ?_
    obtain rfl := Option.some.inj hD
    exact x_zret (v := (0 : Int32)) C hw hr hk nb0 dX4_isHedge_19
  · replace hD := (if_neg c1).symm.trans hD
    refine lv_iload_n C.1 C.2.1 dX4_isHedge_4 rfl (lv_at hl 1 rfl) ?_
    refine lv_aload_n C.1 C.2.1 dX4_isHedge_5 rfl (lv_at hl 0 rfl) ?_
    refine gf_X4_2 C hw kw_39 dX4_isHedge_6 ?_
    refine lv_iconst (v := (1 : Int32)) C.1 C.2.1 dX4_isHedge_9 (by decide) ?_
    refine lv_isub C.1 C.2.1 dX4_isHedge_10 ?_
    refine lv_icmp_ge (tgt := 18) C.1 C.2.1 dX4_isHedge_11 (by decide) (fun c2 => ?_) (fun c2 => ?_)
    · replace hD := (if_pos c2).symm.trans hD
      refine lv_iconst (v := (0 : Int32)) C.1 C.2.1 dX4_isHedge_18 (by decide) ?_
      obtain rfl := Option.some.inj hD
      exact x_zret (v := (0 : Int32)) C hw hr hk nb0 dX4_isHedge_19
    · replace hD := (if_neg c2).symm.trans hD
      refine lv_iconst (v := (1 : Int32)) C.1 C.2.1 dX4_isHedge_14 (by decide) ?_
      refine lv_goto (tgt := 19) C.1 C.2.1 dX4_isHedge_15 (by decide) ?_
      obtain rfl := Option.some.inj hD
      exact x_zret (v := (1 : Int32)) C hw hr hk nb1 dX4_isHedge_19
abbrev rm_J7_fill_53178 : Room := { frames := 0, cells := 0, slots := 0, locals := 0 }
def B_J7_fill_53178_5 (k0 x0 : Nat) (x1 : Int32) (k5_ : Int32 → Int32 → XS → Option (XS)) (y2 : Int32) (y3 : Int32) (z : XS) : Option (XS) :=
  (if y3 ≤ y2 then some z else gd (inB y2 (xlen k0 x0)) ((some (pA z k0 x0 y2.toNatClampNeg x1)).bind fun z3 => (k5_ (y2 + 1) y3 z3)))
def L_J7_fill_53178_5 (k0 x0 : Nat) (x1 : Int32) : Nat → Int32 → Int32 → XS → Option (XS)
  | 0 => fun _ _ _ => none
  | n + 1 => B_J7_fill_53178_5 k0 x0 x1  (L_J7_fill_53178_5 k0 x0 x1  n)
set_option maxHeartbeats 4000000 in
set_option maxRecDepth 100000 in
theorem w_J7_fill_53178_5 {p : Program} {l : Launch} {e : Env} {s : State} {m : MethodId} {below : List Frame} {meth : Method} {c : Code} {X : XC} {ex : va_W} (k0 x0 : Nat) (x1 : Int32) (hk0 : xisI k0 = true) (hx0 : x0 < xcnt k0) (C : CallFix p m c cJ7_fill_53178 4 s (([.ref (X.2.2.1 k0 (x0)), .int (x1)] : List Value).toArray) gtbl RJ7) (hr : meth.sig.returnType = none) (hk : meth.locks = false) (R0 : XS)  : ∀ (n : Nat), ∀ (y2 : Int32) (y3 : Int32) (z : XS), L_J7_fill_53178_5 k0 x0 x1  n y2 y3 z = some R0 → ∀ (H : Heap) (locs : List Loc), xw X ex z s H locs → ∀ (ls : Array Slot), lv_has ls 4 [(0, .ref (X.2.2.1 k0 (x0))), (1, .int (x1)), (2, .int (y2)), (3, .int (y3))] → W p l e rm_J7_fill_53178 s m (([.ref (X.2.2.1 k0 (x0)), .int (x1)] : List Value).toArray) below meth c H locs 0 0 (MQ below (xQv X ex R0) (([.ref (X.2.2.1 k0 (x0)), .int (x1)] : List Value).toArray) s 0 0 (xA X)) (F0 m 5 ls []) := by
  intro n
  induction n with
  | zero =>
    intro y2 y3 z  hD
    cases hD
  | succ n ih =>
    intro y2 y3 z  hD H locs hw ls hl
    replace hD : B_J7_fill_53178_5 k0 x0 x1  (L_J7_fill_53178_5 k0 x0 x1  n) y2 y3 z = some R0 := hD
    unfold B_J7_fill_53178_5 at hD
    refine lv_iload_n C.1 C.2.1 dJ7_fill_53178_5 rfl (lv_at hl 2 rfl) ?_
    refine lv_iload_n C.1 C.2.1 dJ7_fill_53178_6 rfl (lv_at hl 3 rfl) ?_
    refine lv_icmp_ge (tgt := 20) C.1 C.2.1 dJ7_fill_53178_7 (by decide) (fun c1 => ?_) (fun c1 => ?_)
    · replace hD := (if_pos c1).symm.trans hD
      obtain rfl := Option.some.inj hD
      exact x_vret C hw hr hk dJ7_fill_53178_20
    · replace hD := (if_neg c1).symm.trans hD
      refine lv_aload_n C.1 C.2.1 dJ7_fill_53178_10 rfl (lv_at hl 0 rfl) ?_
      refine lv_iload_n C.1 C.2.1 dJ7_fill_53178_11 rfl (lv_at hl 2 rfl) ?_
      refine lv_iload_n C.1 C.2.1 dJ7_fill_53178_12 rfl (lv_at hl 1 rfl) ?_
      obtain ⟨g2, hD⟩ := gd_some hD
      obtain ⟨z3, hz3, hD⟩ := Option.bind_eq_some_iff.mp hD
      refine x_iast (k := k0) (j := x0) C hw hk0 hx0 (inB_in g2) dJ7_fill_53178_13 (fun H locs hw => ?_)
      replace hw := xw_eq hz3 hw
      refine lv_iinc (v := y2 + 1) (lv' := [(2, .int (y2 + 1)), (0, .ref (X.2.2.1 k0 (x0))), (1, .int (x1)), (3, .int (y3))]) C.1 C.2.1 dJ7_fill_53178_14 hl (k := 2) rfl rfl (by decide) rfl (fun ls hl => ?_)
      refine lv_goto (tgt := 5) C.1 C.2.1 dJ7_fill_53178_17 (by decide) ?_
      exact ih (y2 + 1) y3 z3  hD _ _ hw _ (lv_sub hl [1, 2, 0, 3] rfl)
def D_J7_fill_53178 (k0 x0 : Nat) (x1 : Int32) (z : XS) : Option (XS) :=
  L_J7_fill_53178_5 k0 x0 x1  64 (0 : Int32) (Int32.ofNat ((xlen k0 x0))) z
set_option maxHeartbeats 4000000 in
set_option maxRecDepth 100000 in
theorem c_J7_fill_53178 (l : Launch) (X : XC) (ex : va_W) (k0 x0 : Nat) (x1 : Int32) (hk0 : xisI k0 = true) (hx0 : x0 < xcnt k0) (z : XS) (R0 : XS) (hD : D_J7_fill_53178 k0 x0 x1 z = some R0) : xM l X ex yJ7_fill_53178 cJ7_fill_53178 4 none rm_J7_fill_53178 [.ref (X.2.2.1 k0 (x0)), .int (x1)] z (xQv X ex R0) := by
  refine x_ent (by decide) (Nat.le_of_ble_eq_true rfl) ?_
  intro p e s m below meth c ls C hr hk hw hl
  replace hl : lv_has ls 4 [(0, .ref (X.2.2.1 k0 (x0))), (1, .int (x1))] := hl
  unfold D_J7_fill_53178 at hD
  refine lv_iconst (v := (0 : Int32)) C.1 C.2.1 dJ7_fill_53178_0 (by decide) ?_
  refine lv_istore_n (lv' := [(2, .int ((0 : Int32))), (0, .ref (X.2.2.1 k0 (x0))), (1, .int (x1))]) C.1 C.2.1 dJ7_fill_53178_1 rfl hl (by decide) rfl (fun ls hl => ?_)
  refine lv_aload_n C.1 C.2.1 dJ7_fill_53178_2 rfl (lv_at hl 1 rfl) ?_
  refine x_ialen (k := k0) (j := x0) (v := Int32.ofNat ((xlen k0 x0))) C hw hk0 hx0 rfl dJ7_fill_53178_3 ?_
  refine lv_istore_n (lv' := [(3, .int (Int32.ofNat ((xlen k0 x0)))), (2, .int ((0 : Int32))), (0, .ref (X.2.2.1 k0 (x0))), (1, .int (x1))]) C.1 C.2.1 dJ7_fill_53178_4 rfl hl (by decide) rfl (fun ls hl => ?_)
  exact w_J7_fill_53178_5 k0 x0 x1 hk0 hx0 C hr hk R0   64 (0 : Int32) (Int32.ofNat ((xlen k0 x0))) z  hD _ _ hw _ (lv_sub hl [2, 3, 1, 0] rfl)
abbrev rm_X2_growth : Room := { frames := 0, cells := 0, slots := 0, locals := 0 }
def D_X2_growth (j0 : Nat) (x1 : Int32) (z : XS) : Option (Int32 × XS) :=
  (if x1 ≤ 0 then some ((3 : Int32) * x1, z) else some ((12 : Int32) * x1, z))
set_option maxHeartbeats 4000000 in
set_option maxRecDepth 100000 in
theorem c_X2_growth (l : Launch) (X : XC) (ex : va_W) (j0 : Nat) (x1 : Int32) (hj0 : j0 < 6) (z : XS) (R0 : Int32 × XS) (hD : D_X2_growth j0 x1 z = some R0) : xM l X ex yX2_growth cX2_growth 2 (some .int) rm_X2_growth [.ref (X.2.2.1 10 (j0)), .int (x1)] z (xQi X ex R0.2 R0.1) := by
  refine x_ent (by decide) (Nat.le_of_ble_eq_true rfl) ?_
  intro p e s m below meth c ls C hr hk hw hl
  replace hl : lv_has ls 2 [(0, .ref (X.2.2.1 10 (j0))), (1, .int (x1))] := hl
  unfold D_X2_growth at hD
  refine lv_iload_n C.1 C.2.1 dX2_growth_0 rfl (lv_at hl 1 rfl) ?_
  refine lv_if_le (tgt := 11) C.1 C.2.1 dX2_growth_1 (by decide) (fun c1 => ?_) (fun c1 => ?_)
  · replace hD := (if_pos c1).symm.trans hD
    refine lv_iconst (v := (3 : Int32)) C.1 C.2.1 dX2_growth_11 (by decide) ?_
    refine lv_iload_n C.1 C.2.1 dX2_growth_12 rfl (lv_at hl 1 rfl) ?_
    refine lv_imul C.1 C.2.1 dX2_growth_13 ?_
    obtain rfl := Option.some.inj hD
    exact x_iret C hw hr hk dX2_growth_14
  · replace hD := (if_neg c1).symm.trans hD
    refine lv_bipush (v := (12 : Int32)) C.1 C.2.1 dX2_growth_4 (by decide) ?_
    refine lv_iload_n C.1 C.2.1 dX2_growth_6 rfl (lv_at hl 1 rfl) ?_
    refine lv_imul C.1 C.2.1 dX2_growth_7 ?_
    refine lv_goto (tgt := 14) C.1 C.2.1 dX2_growth_8 (by decide) ?_
    obtain rfl := Option.some.inj hD
    exact x_iret C hw hr hk dX2_growth_14
abbrev rm_X8_growth : Room := { frames := 0, cells := 0, slots := 0, locals := 0 }
def D_X8_growth (j0 : Nat) (x1 : Int32) (z : XS) : Option (Int32 × XS) :=
  (if x1 ≤ 0 then some ((3 : Int32) * x1, z) else some (((12 : Int32) * x1) / (2 : Int32), z))
set_option maxHeartbeats 4000000 in
set_option maxRecDepth 100000 in
theorem c_X8_growth (l : Launch) (X : XC) (ex : va_W) (j0 : Nat) (x1 : Int32) (hj0 : j0 < 6) (z : XS) (R0 : Int32 × XS) (hD : D_X8_growth j0 x1 z = some R0) : xM l X ex yX8_growth cX8_growth 2 (some .int) rm_X8_growth [.ref (X.2.2.1 10 (j0)), .int (x1)] z (xQi X ex R0.2 R0.1) := by
  refine x_ent (by decide) (Nat.le_of_ble_eq_true rfl) ?_
  intro p e s m below meth c ls C hr hk hw hl
  replace hl : lv_has ls 2 [(0, .ref (X.2.2.1 10 (j0))), (1, .int (x1))] := hl
  unfold D_X8_growth at hD
  refine lv_iload_n C.1 C.2.1 dX8_growth_0 rfl (lv_at hl 1 rfl) ?_
  refine lv_if_le (tgt := 13) C.1 C.2.1 dX8_growth_1 (by decide) (fun c1 => ?_) (fun c1 => ?_)
  · replace hD := (if_pos c1).symm.trans hD
    refine lv_iconst (v := (3 : Int32)) C.1 C.2.1 dX8_growth_13 (by decide) ?_
    refine lv_iload_n C.1 C.2.1 dX8_growth_14 rfl (lv_at hl 1 rfl) ?_
    refine lv_imul C.1 C.2.1 dX8_growth_15 ?_
    obtain rfl := Option.some.inj hD
    exact x_iret C hw hr hk dX8_growth_16
  · replace hD := (if_neg c1).symm.trans hD
    refine lv_bipush (v := (12 : Int32)) C.1 C.2.1 dX8_growth_4 (by decide) ?_
    refine lv_iload_n C.1 C.2.1 dX8_growth_6 rfl (lv_at hl 1 rfl) ?_
    refine lv_imul C.1 C.2.1 dX8_growth_7 ?_
    refine lv_iconst (v := (2 : Int32)) C.1 C.2.1 dX8_growth_8 (by decide) ?_
    refine lv_idiv C.1 C.2.1 dX8_growth_9 (by decide) ?_
    refine lv_goto (tgt := 16) C.1 C.2.1 dX8_growth_10 (by decide) ?_
    obtain rfl := Option.some.inj hD
    exact x_iret C hw hr hk dX8_growth_16
theorem kw_41 : Cond.code yX8_growth cX8_growth 2 (some .int) ∈ gtbl := gm2 20 rfl rfl
theorem kw_42 : Cond.initialized RX8 ∈ gtbl := gm1 10 rfl rfl
theorem kw_43 : Cond.instanceMethod yX8_growth ∈ gtbl := gm2 19 rfl rfl
theorem kw_44 : Cond.methodLink RX1 7 yX8_growth ∈ gtbl := gm2 18 rfl rfl
theorem kw_45 : Cond.sameMethod "WordHedges$Yew" "WordHedges$Yew" "growth" "(I)I" ∈ gtbl := gm4 227 rfl rfl
theorem kw_46 : Cond.superclass RX1 RX8 ∈ gtbl := gm1 233 rfl rfl
abbrev rm_X1_growth : Room := { frames := 1, cells := 0, slots := 0, locals := 21 }
def D_X1_growth (j0 : Nat) (x1 : Int32) (z : XS) : Option (Int32 × XS) :=
  (if x1 ≤ 0 then (if x1 = 0 then some ((-6 : Int32), z) else some ((0 : Int32), z)) else gd (isH z (j0)) ((D_X8_growth j0 x1 z).bind fun q4 => (some (q4.1, q4.2))))
set_option maxHeartbeats 4000000 in
set_option maxRecDepth 100000 in
theorem c_X1_growth (l : Launch) (X : XC) (ex : va_W) (j0 : Nat) (x1 : Int32) (hj0 : j0 < 6) (z : XS) (R0 : Int32 × XS) (hD : D_X1_growth j0 x1 z = some R0) : xM l X ex yX1_growth cX1_growth 2 (some .int) rm_X1_growth [.ref (X.2.2.1 10 (j0)), .int (x1)] z (xQi X ex R0.2 R0.1) := by
  refine x_ent (by decide) (Nat.le_of_ble_eq_true rfl) ?_
  intro p e s m below meth c ls C hr hk hw hl
  replace hl : lv_has ls 2 [(0, .ref (X.2.2.1 10 (j0))), (1, .int (x1))] := hl
  unfold D_X1_growth at hD
  refine lv_iload_n C.1 C.2.1 dX1_growth_0 rfl (lv_at hl 1 rfl) ?_
  refine lv_if_le (tgt := 10) C.1 C.2.1 dX1_growth_1 (by decide) (fun c1 => ?_) (fun c1 => ?_)
  · replace hD := (if_pos c1).symm.trans hD
    refine lv_iload_n C.1 C.2.1 dX1_growth_10 rfl (lv_at hl 1 rfl) ?_
    refine lv_if_ne (tgt := 19) C.1 C.2.1 dX1_growth_11 (by decide) (fun c2 => ?_) (fun c2 => ?_)
    · replace hD := (if_neg c2).symm.trans hD
      refine lv_iconst (v := (0 : Int32)) C.1 C.2.1 dX1_growth_19 (by decide) ?_
      obtain rfl := Option.some.inj hD
      exact x_iret C hw hr hk dX1_growth_20
    · replace hD := (if_pos c2).symm.trans hD
      refine lv_bipush (v := (-6 : Int32)) C.1 C.2.1 dX1_growth_14 (by decide) ?_
      refine lv_goto (tgt := 20) C.1 C.2.1 dX1_growth_16 (by decide) ?_
      obtain rfl := Option.some.inj hD
      exact x_iret C hw hr hk dX1_growth_20
  · replace hD := (if_neg c1).symm.trans hD
    refine lv_aload_n C.1 C.2.1 dX1_growth_4 rfl (lv_at hl 0 rfl) ?_
    refine lv_iload_n C.1 C.2.1 dX1_growth_5 rfl (lv_at hl 1 rfl) ?_
    obtain ⟨g3, hD⟩ := gd_some hD
    obtain ⟨q4, hq4, hD⟩ := Option.bind_eq_some_iff.mp hD
    refine x_goi hw (x_runSUH (n := 1) (y := yX8_growth) (As := [.int (x1)]) (rest := []) (j := j0) C hw hj0 g3 ⟨kw_41, kw_42, kw_43⟩ (by decide +kernel) kw_44 kw_45 kw_46 (c_X8_growth l X ex j0 x1 hj0 z q4 hq4) ⟨Nat.le_of_ble_eq_true rfl, Nat.le_of_ble_eq_true rfl⟩ rfl hl.1 rfl (Nat.le_of_ble_eq_true rfl) dX1_growth_6 ⟨Nat.le_of_ble_eq_true rfl, Nat.le_of_ble_eq_true rfl⟩) (fun H locs hw => ?_)
    obtain rfl := Option.some.inj hD
    exact x_iret C hw hr hk dX1_growth_9
theorem kw_47 : Cond.fieldLink RX0 14 (TX0 0).1 (TX0 0).2.1 (TX0 0).2.2.1 ∈ gtbl := gm1 54 rfl rfl
theorem gf_X0_0 {p : Program} {l : Launch} {e : Env} {R : Room} {s : State} {m : MethodId} {args : Array Value} {below : List Frame} {meth : Method} {c : Code} {H : Heap} {locs : List Loc} {cells slots : Nat} {Q : State → Prop} {cc : ByteArray} {pc nL index : Nat} {ls : Array Slot} {rest : List Value} {X : XC} {ex : va_W} {z : XS} {own : String} (C : CallFix p m c cc nL s args gtbl own) (hw : xw X ex z s H locs) {j : Nat} (hj : j < 6) (hlink : Cond.fieldLink own index (TX0 0).1 (TX0 0).2.1 (TX0 0).2.2.1 ∈ gtbl) (hdg : decode cc pc = .ok (.getfield index, 3)) (kk : W p l e R s m args below meth c H locs cells slots Q (F0 m (pc + 3) ls (.ref (X.2.2.1 10 j) :: rest))) : W p l e R s m args below meth c H locs cells slots Q (F0 m pc ls (.ref (X.2.2.1 9 j) :: rest)) :=
  x_get (k := 9) (j := j) C hw hj 0 (v := .ref (X.2.2.1 10 j)) rfl rfl ixX0 (by decide) hlink rfl hdg kk

theorem kw_50 : Cond.methodLink RX0 49 (⟨"WordHedges$Hedge", "growth", "(I)I"⟩ : MethodName) ∈ gtbl := gm2 11 rfl rfl
theorem kw_51 : Cond.sameMethod "WordHedges$Hedge" "WordHedges$Hedge" "growth" "(I)I" ∈ gtbl := gm2 14 rfl rfl
theorem kw_52 : Cond.instanceMethod (⟨"WordHedges$Hedge", "growth", "(I)I"⟩ : MethodName) ∈ gtbl := gm2 12 rfl rfl
theorem kw_53 : Cond.code (⟨"WordHedges$Hedge", "growth", "(I)I"⟩ : MethodName) cX2_growth 2 (some .int) ∈ gtbl := gm2 22 rfl rfl
theorem kw_54 : Cond.code yX1_growth cX1_growth 2 (some .int) ∈ gtbl := gm2 17 rfl rfl
theorem kw_55 : Cond.initialized RX1 ∈ gtbl := gm1 11 rfl rfl
theorem kw_56 : Cond.instanceMethod yX1_growth ∈ gtbl := gm2 16 rfl rfl
theorem kw_57 : Cond.selects RX1 (⟨"WordHedges$Hedge", "growth", "(I)I"⟩ : MethodName) yX1_growth ∈ gtbl := gm2 15 rfl rfl
theorem kw_58 : Cond.selects RX8 (⟨"WordHedges$Hedge", "growth", "(I)I"⟩ : MethodName) yX8_growth ∈ gtbl := gm2 21 rfl rfl
theorem kw_59 : Cond.code yX2_growth cX2_growth 2 (some .int) ∈ gtbl := gm2 22 rfl rfl
theorem kw_60 : Cond.initialized RX2 ∈ gtbl := gm1 4 rfl rfl
theorem kw_61 : Cond.instanceMethod yX2_growth ∈ gtbl := gm2 12 rfl rfl
theorem kw_62 : Cond.selects RX2 (⟨"WordHedges$Hedge", "growth", "(I)I"⟩ : MethodName) yX2_growth ∈ gtbl := gm2 13 rfl rfl
def DV_growth_X0_49 (j0 : Nat) (x1 : Int32) (z : XS) : Option (Int32 × XS) := if z.2.2 j0 = 1 then D_X1_growth j0 x1 z else if z.2.2 j0 = 7 then D_X8_growth j0 x1 z else if z.2.2 j0 = 2 then D_X2_growth j0 x1 z else none
set_option maxHeartbeats 4000000 in
theorem r_growth_X0_49 {p : Program} {l : Launch} {e : Env} {R : Room} {s : State} {m : MethodId} {args : Array Value} {below : List Frame} {meth : Method} {c : Code} {H : Heap} {locs : List Loc} {cells slots : Nat} {Q : State → Prop} {cc : ByteArray} {pc nL : Nat} {ls : Array Slot} (rest : List Value) {X : XC} {ex : va_W} {z : XS} (C : CallFix p m c cc nL s args gtbl RX0) (hw : xw X ex z s H locs) (j0 : Nat) (hj0 : j0 < 6) (x1 : Int32) (q : Int32 × XS) (hq : DV_growth_X0_49 j0 x1 z = some q) (hF : 2 ≤ R.frames) (hL : 42 ≤ R.locals) (hsize : ls.size = nL) (hW : (rest.map fun v => v.category).sum ≤ 8) (hdg : decode cc pc = .ok (.invokevirtual 49, 3)) (hcs : cells ≤ R.cells ∧ slots ≤ R.slots) (kk : ∀ (H1 : Heap) (locs1 : List Loc), xw X ex q.2 s H1 locs1 → W p l e R s m args below meth c H1 locs1 cells slots Q (F0 m (pc + 3) ls (.int q.1 :: rest))) : W p l e R s m args below meth c H locs cells slots Q (F0 m pc ls (.int (x1) :: .ref (X.2.2.1 10 j0) :: rest)) := by
  unfold DV_growth_X0_49 at hq
  by_cases h0 : z.2.2 j0 = 1
  · rw [if_pos h0] at hq
    exact x_goi hw (x_runD (n := 1) (x := (⟨"WordHedges$Hedge", "growth", "(I)I"⟩ : MethodName)) (owner := "WordHedges$Hedge") (y := yX1_growth) (As := [.int (x1)]) (rest := rest) (k := 10) (j := j0) C hw hj0 (xct_H h0) rfl ⟨kw_54, kw_55, kw_56⟩ (by decide +kernel) kw_50 kw_51 kw_52 kw_53 kw_57 (c_X1_growth l X ex j0 x1 hj0 z q hq) ⟨Nat.le_trans (Nat.le_of_ble_eq_true rfl) hF, Nat.le_trans (Nat.le_of_ble_eq_true rfl) hL⟩ rfl hsize rfl hW hdg hcs) kk
  rw [if_neg h0] at hq
  by_cases h1 : z.2.2 j0 = 7
  · rw [if_pos h1] at hq
    exact x_goi hw (x_runD (n := 1) (x := (⟨"WordHedges$Hedge", "growth", "(I)I"⟩ : MethodName)) (owner := "WordHedges$Hedge") (y := yX8_growth) (As := [.int (x1)]) (rest := rest) (k := 10) (j := j0) C hw hj0 (xct_H h1) rfl ⟨kw_41, kw_42, kw_43⟩ (by decide +kernel) kw_50 kw_51 kw_52 kw_53 kw_58 (c_X8_growth l X ex j0 x1 hj0 z q hq) ⟨Nat.le_trans (Nat.le_of_ble_eq_true rfl) hF, Nat.le_trans (Nat.le_of_ble_eq_true rfl) hL⟩ rfl hsize rfl hW hdg hcs) kk
  rw [if_neg h1] at hq
  by_cases h2 : z.2.2 j0 = 2
  · rw [if_pos h2] at hq
    exact x_goi hw (x_runD (n := 1) (x := (⟨"WordHedges$Hedge", "growth", "(I)I"⟩ : MethodName)) (owner := "WordHedges$Hedge") (y := yX2_growth) (As := [.int (x1)]) (rest := rest) (k := 10) (j := j0) C hw hj0 (xct_H h2) rfl ⟨kw_59, kw_60, kw_61⟩ (by decide +kernel) kw_50 kw_51 kw_52 kw_53 kw_62 (c_X2_growth l X ex j0 x1 hj0 z q hq) ⟨Nat.le_trans (Nat.le_of_ble_eq_true rfl) hF, Nat.le_trans (Nat.le_of_ble_eq_true rfl) hL⟩ rfl hsize rfl hW hdg hcs) kk
  rw [if_neg h2] at hq
  cases hq

theorem kw_64 : Cond.methodLink RX0 53 Lib.Math.min.name ∈ gtbl := gm2 23 rfl rfl
theorem kw_65 : Cond.static Lib.Math.min.name ∈ gtbl := gm2 24 rfl rfl
theorem kw_66 : Cond.initialized "java/lang/Math" ∈ gtbl := gm1 13 rfl rfl
theorem kw_67 : Cond.code Lib.Math.min.name Lib.Math.min.code 2 (some .int) ∈ gtbl := gm2 25 rfl rfl
theorem kw_68 : Cond.methodLink RX0 59 Lib.Math.max.name ∈ gtbl := gm2 26 rfl rfl
theorem kw_69 : Cond.static Lib.Math.max.name ∈ gtbl := gm2 27 rfl rfl
theorem kw_70 : Cond.code Lib.Math.max.name Lib.Math.max.code 2 (some .int) ∈ gtbl := gm2 28 rfl rfl
theorem kw_71 : Cond.fieldLink RX0 28 (TX0 3).1 (TX0 3).2.1 (TX0 3).2.2.1 ∈ gtbl := gm1 62 rfl rfl
theorem gf_X0_3 {p : Program} {l : Launch} {e : Env} {R : Room} {s : State} {m : MethodId} {args : Array Value} {below : List Frame} {meth : Method} {c : Code} {H : Heap} {locs : List Loc} {cells slots : Nat} {Q : State → Prop} {cc : ByteArray} {pc nL index : Nat} {ls : Array Slot} {rest : List Value} {X : XC} {ex : va_W} {z : XS} {own : String} (C : CallFix p m c cc nL s args gtbl own) (hw : xw X ex z s H locs) {j : Nat} (hj : j < 6) (hlink : Cond.fieldLink own index (TX0 3).1 (TX0 3).2.1 (TX0 3).2.2.1 ∈ gtbl) (hdg : decode cc pc = .ok (.getfield index, 3)) (kk : W p l e R s m args below meth c H locs cells slots Q (F0 m (pc + 3) ls (.ref (X.2.2.1 15 j) :: rest))) : W p l e R s m args below meth c H locs cells slots Q (F0 m pc ls (.ref (X.2.2.1 9 j) :: rest)) :=
  x_get (k := 9) (j := j) C hw hj 3 (v := .ref (X.2.2.1 15 j)) rfl rfl ixX0 (by decide) hlink rfl hdg kk
abbrev rm_X0_dayOver : Room := { frames := 2, cells := 0, slots := 0, locals := 42 }
def D_X0_dayOver (j0 : Nat) (x1 : Int32) (x2 : Int32) (x3 : Int32) (z : XS) : Option (Int32 × XS) :=
  (DV_growth_X0_49 j0 x3 z).bind fun q1 => (gd (inB x2 30) ((if gA q1.2 15 j0 x2.toNatClampNeg = (-9 : Int32) then some (if (0 : Int32) < if x1 + q1.1 < (240 : Int32) then x1 + q1.1 else (240 : Int32) then if x1 + q1.1 < (240 : Int32) then x1 + q1.1 else (240 : Int32) else (0 : Int32), q1.2) else gd (inB x2 30) (some (if (12 : Int32) * (gA q1.2 15 j0 x2.toNatClampNeg) < if (0 : Int32) < if x1 + q1.1 < (240 : Int32) then x1 + q1.1 else (240 : Int32) then if x1 + q1.1 < (240 : Int32) then x1 + q1.1 else (240 : Int32) else (0 : Int32) then (12 : Int32) * (gA q1.2 15 j0 x2.toNatClampNeg) else if (0 : Int32) < if x1 + q1.1 < (240 : Int32) then x1 + q1.1 else (240 : Int32) then if x1 + q1.1 < (240 : Int32) then x1 + q1.1 else (240 : Int32) else (0 : Int32), q1.2)))))
set_option maxHeartbeats 4000000 in
set_option maxRecDepth 100000 in
theorem c_X0_dayOver (l : Launch) (X : XC) (ex : va_W) (j0 : Nat) (x1 : Int32) (x2 : Int32) (x3 : Int32) (hj0 : j0 < 6) (z : XS) (R0 : Int32 × XS) (hD : D_X0_dayOver j0 x1 x2 x3 z = some R0) : xM l X ex yX0_dayOver cX0_dayOver 5 (some .int) rm_X0_dayOver [.ref (X.2.2.1 9 (j0)), .int (x1), .int (x2), .int (x3)] z (xQi X ex R0.2 R0.1) := by
  refine x_ent (by decide) (Nat.le_of_ble_eq_true rfl) ?_
  intro p e s m below meth c ls C hr hk hw hl
  replace hl : lv_has ls 5 [(0, .ref (X.2.2.1 9 (j0))), (1, .int (x1)), (2, .int (x2)), (3, .int (x3))] := hl
  unfold D_X0_dayOver at hD
  refine lv_iconst (v := (0 : Int32)) C.1 C.2.1 dX0_dayOver_0 (by decide) ?_
  refine lv_sipush (v := (240 : Int32)) C.1 C.2.1 dX0_dayOver_1 (by decide) ?_
  refine lv_iload_n C.1 C.2.1 dX0_dayOver_4 rfl (lv_at hl 1 rfl) ?_
  refine lv_aload_n C.1 C.2.1 dX0_dayOver_5 rfl (lv_at hl 0 rfl) ?_
  refine gf_X0_0 C hw (j := j0) hj0 kw_47 dX0_dayOver_6 ?_
  refine lv_iload_n C.1 C.2.1 dX0_dayOver_9 rfl (lv_at hl 3 rfl) ?_
  obtain ⟨q1, hq1, hD⟩ := Option.bind_eq_some_iff.mp hD
  refine r_growth_X0_49 [.int (x1), .int ((240 : Int32)), .int ((0 : Int32))] C hw j0 hj0 x3 q1 hq1 (Nat.le_of_ble_eq_true rfl) (Nat.le_of_ble_eq_true rfl) hl.1 (Nat.le_of_ble_eq_true rfl) dX0_dayOver_10 ⟨Nat.le_of_ble_eq_true rfl, Nat.le_of_ble_eq_true rfl⟩ (fun H locs hw => ?_)
  refine lv_iadd C.1 C.2.1 dX0_dayOver_13 ?_
  refine va_mmin C.1 C.2.1 (C.2.2.1.trans hl.1.symm) C.2.2.2.1 (C.2.2.2.2 _ kw_64) (C.2.2.2.2 _ kw_65) (C.2.2.2.2 _ kw_66) (C.2.2.2.2 _ kw_67) (Nat.le_of_ble_eq_true rfl) (Nat.le_of_ble_eq_true rfl) (Nat.le_of_ble_eq_true rfl) (Nat.le_of_ble_eq_true rfl) dX0_dayOver_14 ?_
  refine va_mmax C.1 C.2.1 (C.2.2.1.trans hl.1.symm) C.2.2.2.1 (C.2.2.2.2 _ kw_68) (C.2.2.2.2 _ kw_69) (C.2.2.2.2 _ kw_66) (C.2.2.2.2 _ kw_70) (Nat.le_of_ble_eq_true rfl) (Nat.le_of_ble_eq_true rfl) (Nat.le_of_ble_eq_true rfl) (Nat.le_of_ble_eq_true rfl) dX0_dayOver_17 ?_
  refine lv_istore (lv' := [(4, .int (if (0 : Int32) < if x1 + q1.1 < (240 : Int32) then x1 + q1.1 else (240 : Int32) then if x1 + q1.1 < (240 : Int32) then x1 + q1.1 else (240 : Int32) else (0 : Int32))), (0, .ref (X.2.2.1 9 (j0))), (1, .int (x1)), (2, .int (x2)), (3, .int (x3))]) C.1 C.2.1 dX0_dayOver_20 hl (by decide) rfl (fun ls hl => ?_)
  refine lv_aload_n C.1 C.2.1 dX0_dayOver_22 rfl (lv_at hl 1 rfl) ?_
  refine gf_X0_3 C hw (j := j0) hj0 kw_71 dX0_dayOver_23 ?_
  refine lv_iload_n C.1 C.2.1 dX0_dayOver_26 rfl (lv_at hl 3 rfl) ?_
  obtain ⟨g2, hD⟩ := gd_some hD
  refine x_iald (k := 15) (j := j0) C hw rfl hj0 (inB_in g2) dX0_dayOver_27 ?_
  refine lv_bipush (v := (-9 : Int32)) C.1 C.2.1 dX0_dayOver_28 (by decide) ?_
  refine lv_icmp_ne (tgt := 38) C.1 C.2.1 dX0_dayOver_30 (by decide) (fun c3 => ?_) (fun c3 => ?_)
  · replace hD := (if_neg c3).symm.trans hD
    refine lv_iload C.1 C.2.1 dX0_dayOver_38 (lv_at hl 0 rfl) ?_
    refine lv_bipush (v := (12 : Int32)) C.1 C.2.1 dX0_dayOver_40 (by decide) ?_
    refine lv_aload_n C.1 C.2.1 dX0_dayOver_42 rfl (lv_at hl 1 rfl) ?_
    refine gf_X0_3 C hw (j := j0) hj0 kw_71 dX0_dayOver_43 ?_
    refine lv_iload_n C.1 C.2.1 dX0_dayOver_46 rfl (lv_at hl 3 rfl) ?_
    obtain ⟨g4, hD⟩ := gd_some hD
    refine x_iald (k := 15) (j := j0) C hw rfl hj0 (inB_in g4) dX0_dayOver_47 ?_
    refine lv_imul C.1 C.2.1 dX0_dayOver_48 ?_
    refine va_mmin C.1 C.2.1 (C.2.2.1.trans hl.1.symm) C.2.2.2.1 (C.2.2.2.2 _ kw_64) (C.2.2.2.2 _ kw_65) (C.2.2.2.2 _ kw_66) (C.2.2.2.2 _ kw_67) (Nat.le_of_ble_eq_true rfl) (Nat.le_of_ble_eq_true rfl) (Nat.le_of_ble_eq_true rfl) (Nat.le_of_ble_eq_true rfl) dX0_dayOver_49 ?_
    obtain rfl := Option.some.inj hD
    exact x_iret C hw hr hk dX0_dayOver_52
  · replace hD := (if_pos c3).symm.trans hD
    refine lv_iload C.1 C.2.1 dX0_dayOver_33 (lv_at hl 0 rfl) ?_
    refine lv_goto (tgt := 52) C.1 C.2.1 dX0_dayOver_35 (by decide) ?_
    obtain rfl := Option.some.inj hD
    exact x_iret C hw hr hk dX0_dayOver_52
theorem kw_73 : Cond.fieldLink RX0 22 (TX0 1).1 (TX0 1).2.1 (TX0 1).2.2.1 ∈ gtbl := gm1 56 rfl rfl
theorem gf_X0_1 {p : Program} {l : Launch} {e : Env} {R : Room} {s : State} {m : MethodId} {args : Array Value} {below : List Frame} {meth : Method} {c : Code} {H : Heap} {locs : List Loc} {cells slots : Nat} {Q : State → Prop} {cc : ByteArray} {pc nL index : Nat} {ls : Array Slot} {rest : List Value} {X : XC} {ex : va_W} {z : XS} {own : String} (C : CallFix p m c cc nL s args gtbl own) (hw : xw X ex z s H locs) {j : Nat} (hj : j < 6) (hlink : Cond.fieldLink own index (TX0 1).1 (TX0 1).2.1 (TX0 1).2.2.1 ∈ gtbl) (hdg : decode cc pc = .ok (.getfield index, 3)) (kk : W p l e R s m args below meth c H locs cells slots Q (F0 m (pc + 3) ls (.ref (X.2.2.1 11 j) :: rest))) : W p l e R s m args below meth c H locs cells slots Q (F0 m pc ls (.ref (X.2.2.1 9 j) :: rest)) :=
  x_get (k := 9) (j := j) C hw hj 1 (v := .ref (X.2.2.1 11 j)) rfl rfl ixX0 (by decide) hlink rfl hdg kk
theorem kw_75 : Cond.fieldLink RX0 25 (TX0 2).1 (TX0 2).2.1 (TX0 2).2.2.1 ∈ gtbl := gm1 58 rfl rfl
theorem gf_X0_2 {p : Program} {l : Launch} {e : Env} {R : Room} {s : State} {m : MethodId} {args : Array Value} {below : List Frame} {meth : Method} {c : Code} {H : Heap} {locs : List Loc} {cells slots : Nat} {Q : State → Prop} {cc : ByteArray} {pc nL index : Nat} {ls : Array Slot} {rest : List Value} {X : XC} {ex : va_W} {z : XS} {own : String} (C : CallFix p m c cc nL s args gtbl own) (hw : xw X ex z s H locs) {j : Nat} (hj : j < 6) (hlink : Cond.fieldLink own index (TX0 2).1 (TX0 2).2.1 (TX0 2).2.2.1 ∈ gtbl) (hdg : decode cc pc = .ok (.getfield index, 3)) (kk : W p l e R s m args below meth c H locs cells slots Q (F0 m (pc + 3) ls (.ref (X.2.2.1 13 j) :: rest))) : W p l e R s m args below meth c H locs cells slots Q (F0 m pc ls (.ref (X.2.2.1 9 j) :: rest)) :=
  x_get (k := 9) (j := j) C hw hj 2 (v := .ref (X.2.2.1 13 j)) rfl rfl ixX0 (by decide) hlink rfl hdg kk
theorem kw_77 : Cond.code yX0_dayOver cX0_dayOver 5 (some .int) ∈ gtbl := gm2 10 rfl rfl
theorem kw_78 : Cond.initialized RX0 ∈ gtbl := gm1 3 rfl rfl
theorem nd_X0_dayOver : (yX0_dayOver).cls ≠ "java/lang/invoke/MethodHandle" ∧ (yX0_dayOver).cls ≠ "java/lang/invoke/VarHandle" ∧ (parseMethodDescriptor (yX0_dayOver).desc).map (fun d => d.parameters.length) = some 3 := by decide +kernel
theorem kw_80 : Cond.instanceMethod yX0_dayOver ∈ gtbl := gm2 8 rfl rfl
theorem kw_81 : Cond.selects RX0 yX0_dayOver yX0_dayOver ∈ gtbl := gm2 9 rfl rfl
theorem cV_X0_dayOver : xcV yX0_dayOver cX0_dayOver 5 (some .int) 3 := ⟨⟨kw_77, kw_78, nd_X0_dayOver⟩, kw_80, kw_81⟩
theorem kw_83 : Cond.methodLink RX0 45 yX0_dayOver ∈ gtbl := gm2 7 rfl rfl
abbrev rm_X0_growFrom : Room := { frames := 3, cells := 0, slots := 0, locals := 66 }
def B_X0_growFrom_18 (j0 : Nat) (x1 : Int32) (x2 : Int32) (k18_ : Nat → Nat → Int32 → XS → Option (XS)) (y3 : Nat) (y4 : Nat) (y5 : Int32) (z : XS) : Option (XS) :=
  (if (30 : Int32) ≤ y5 then some z else gd (inB y5 31) (gd (inB y5 30) ((D_X0_dayOver j0 (gA z 14 y4 y5.toNatClampNeg) y5 (gA z 12 y3 y5.toNatClampNeg) z).bind fun q6 => (gd (inB (y5 + (1 : Int32)) 31) ((some (pA q6.2 14 y4 (y5 + (1 : Int32)).toNatClampNeg q6.1)).bind fun z8 => (k18_ y3 y4 (y5 + 1) z8))))))
def L_X0_growFrom_18 (j0 : Nat) (x1 : Int32) (x2 : Int32) : Nat → Nat → Nat → Int32 → XS → Option (XS)
  | 0 => fun _ _ _ _ => none
  | n + 1 => B_X0_growFrom_18 j0 x1 x2  (L_X0_growFrom_18 j0 x1 x2  n)
set_option maxHeartbeats 4000000 in
set_option maxRecDepth 100000 in
theorem w_X0_growFrom_18 {p : Program} {l : Launch} {e : Env} {s : State} {m : MethodId} {below : List Frame} {meth : Method} {c : Code} {X : XC} {ex : va_W} (j0 : Nat) (x1 : Int32) (x2 : Int32) (hj0 : j0 < 6) (C : CallFix p m c cX0_growFrom 6 s (([.ref (X.2.2.1 9 (j0)), .int (x1), .int (x2)] : List Value).toArray) gtbl RX0) (hr : meth.sig.returnType = none) (hk : meth.locks = false) (R0 : XS)  : ∀ (n : Nat), ∀ (y3 : Nat) (y4 : Nat) (y5 : Int32) (z : XS), ∀ (hy3 : y3 < 12), ∀ (hy4 : y4 < 12), L_X0_growFrom_18 j0 x1 x2  n y3 y4 y5 z = some R0 → ∀ (H : Heap) (locs : List Loc), xw X ex z s H locs → ∀ (ls : Array Slot), lv_has ls 6 [(0, .ref (X.2.2.1 9 (j0))), (3, .ref (X.2.2.1 12 (y3))), (4, .ref (X.2.2.1 14 (y4))), (5, .int (y5))] → W p l e rm_X0_growFrom s m (([.ref (X.2.2.1 9 (j0)), .int (x1), .int (x2)] : List Value).toArray) below meth c H locs 0 0 (MQ below (xQv X ex R0) (([.ref (X.2.2.1 9 (j0)), .int (x1), .int (x2)] : List Value).toArray) s 0 0 (xA X)) (F0 m 18 ls []) := by
  intro n
  induction n with
  | zero =>
    intro y3 y4 y5 z hy3 hy4 hD
    cases hD
  | succ n ih =>
    intro y3 y4 y5 z hy3 hy4 hD H locs hw ls hl
    replace hD : B_X0_growFrom_18 j0 x1 x2  (L_X0_growFrom_18 j0 x1 x2  n) y3 y4 y5 z = some R0 := hD
    unfold B_X0_growFrom_18 at hD
    refine lv_iload C.1 C.2.1 dX0_growFrom_18 (lv_at hl 3 rfl) ?_
    refine lv_bipush (v := (30 : Int32)) C.1 C.2.1 dX0_growFrom_20 (by decide) ?_
    refine lv_icmp_ge (tgt := 53) C.1 C.2.1 dX0_growFrom_22 (by decide) (fun c3 => ?_) (fun c3 => ?_)
    · replace hD := (if_pos c3).symm.trans hD
      obtain rfl := Option.some.inj hD
      exact x_vret C hw hr hk dX0_growFrom_53
    · replace hD := (if_neg c3).symm.trans hD
      refine lv_aload C.1 C.2.1 dX0_growFrom_25 (lv_at hl 2 rfl) ?_
      refine lv_iload C.1 C.2.1 dX0_growFrom_27 (lv_at hl 3 rfl) ?_
      refine lv_iconst (v := (1 : Int32)) C.1 C.2.1 dX0_growFrom_29 (by decide) ?_
      refine lv_iadd C.1 C.2.1 dX0_growFrom_30 ?_
      refine lv_aload_n C.1 C.2.1 dX0_growFrom_31 rfl (lv_at hl 0 rfl) ?_
      refine lv_aload C.1 C.2.1 dX0_growFrom_32 (lv_at hl 2 rfl) ?_
      refine lv_iload C.1 C.2.1 dX0_growFrom_34 (lv_at hl 3 rfl) ?_
      obtain ⟨g4, hD⟩ := gd_some hD
      refine x_iald (k := 14) (j := y4) C hw rfl hy4 (inB_in g4) dX0_growFrom_36 ?_
      refine lv_iload C.1 C.2.1 dX0_growFrom_37 (lv_at hl 3 rfl) ?_
      refine lv_aload_n C.1 C.2.1 dX0_growFrom_39 rfl (lv_at hl 1 rfl) ?_
      refine lv_iload C.1 C.2.1 dX0_growFrom_40 (lv_at hl 3 rfl) ?_
      obtain ⟨g5, hD⟩ := gd_some hD
      refine x_iald (k := 12) (j := y3) C hw rfl hy3 (inB_in g5) dX0_growFrom_42 ?_
      obtain ⟨q6, hq6, hD⟩ := Option.bind_eq_some_iff.mp hD
      refine x_goi hw (x_runV (As := [.int (gA z 14 y4 y5.toNatClampNeg), .int (y5), .int (gA z 12 y3 y5.toNatClampNeg)]) (rest := [.int (y5 + (1 : Int32)), .ref (X.2.2.1 14 (y4))]) (k := 9) (j := j0) C hw hj0 rfl rfl cV_X0_dayOver kw_83 (c_X0_dayOver l X ex j0 (gA z 14 y4 y5.toNatClampNeg) y5 (gA z 12 y3 y5.toNatClampNeg) hj0 z q6 hq6) ⟨Nat.le_of_ble_eq_true rfl, Nat.le_of_ble_eq_true rfl⟩ rfl hl.1 rfl (Nat.le_of_ble_eq_true rfl) dX0_growFrom_43 ⟨Nat.le_of_ble_eq_true rfl, Nat.le_of_ble_eq_true rfl⟩) (fun H locs hw => ?_)
      obtain ⟨g7, hD⟩ := gd_some hD
      obtain ⟨z8, hz8, hD⟩ := Option.bind_eq_some_iff.mp hD
      refine x_iast (k := 14) (j := y4) C hw rfl hy4 (inB_in g7) dX0_growFrom_46 (fun H locs hw => ?_)
      replace hw := xw_eq hz8 hw
      refine lv_iinc (v := y5 + 1) (lv' := [(5, .int (y5 + 1)), (0, .ref (X.2.2.1 9 (j0))), (3, .ref (X.2.2.1 12 (y3))), (4, .ref (X.2.2.1 14 (y4)))]) C.1 C.2.1 dX0_growFrom_47 hl (k := 3) rfl rfl (by decide) rfl (fun ls hl => ?_)
      refine lv_goto (tgt := 18) C.1 C.2.1 dX0_growFrom_50 (by decide) ?_
      exact ih y3 y4 (y5 + 1) z8 hy3 hy4 hD _ _ hw _ (lv_sub hl [1, 2, 3, 0] rfl)
def D_X0_growFrom (j0 : Nat) (x1 : Int32) (x2 : Int32) (z : XS) : Option (XS) :=
  gd (inB x1 2) (gd (inB x1 2) (L_X0_growFrom_18 j0 x1 x2  64 (2 * j0 + x1.toNatClampNeg) (2 * j0 + x1.toNatClampNeg) x2 z))
set_option maxHeartbeats 4000000 in
set_option maxRecDepth 100000 in
theorem c_X0_growFrom (l : Launch) (X : XC) (ex : va_W) (j0 : Nat) (x1 : Int32) (x2 : Int32) (hj0 : j0 < 6) (z : XS) (R0 : XS) (hD : D_X0_growFrom j0 x1 x2 z = some R0) : xM l X ex yX0_growFrom cX0_growFrom 6 none rm_X0_growFrom [.ref (X.2.2.1 9 (j0)), .int (x1), .int (x2)] z (xQv X ex R0) := by
  refine x_ent (by decide) (Nat.le_of_ble_eq_true rfl) ?_
  intro p e s m below meth c ls C hr hk hw hl
  replace hl : lv_has ls 6 [(0, .ref (X.2.2.1 9 (j0))), (1, .int (x1)), (2, .int (x2))] := hl
  unfold D_X0_growFrom at hD
  refine lv_aload_n C.1 C.2.1 dX0_growFrom_0 rfl (lv_at hl 0 rfl) ?_
  refine gf_X0_1 C hw (j := j0) hj0 kw_73 dX0_growFrom_1 ?_
  refine lv_iload_n C.1 C.2.1 dX0_growFrom_4 rfl (lv_at hl 1 rfl) ?_
  obtain ⟨g1, hD⟩ := gd_some hD
  refine x_aald (k := 11) (j := j0) (f := fun i => X.2.2.1 12 (2 * j0 + i)) C hw hj0 1 rfl rfl rfl (inB_in g1) (a := X.2.2.1 12 (2 * j0 + x1.toNatClampNeg)) rfl dX0_growFrom_5 ?_
  refine lv_astore_n (lv' := [(3, .ref (X.2.2.1 12 (2 * j0 + x1.toNatClampNeg))), (0, .ref (X.2.2.1 9 (j0))), (1, .int (x1)), (2, .int (x2))]) C.1 C.2.1 dX0_growFrom_6 rfl hl (by decide) rfl (fun ls hl => ?_)
  refine lv_aload_n C.1 C.2.1 dX0_growFrom_7 rfl (lv_at hl 1 rfl) ?_
  refine gf_X0_2 C hw (j := j0) hj0 kw_75 dX0_growFrom_8 ?_
  refine lv_iload_n C.1 C.2.1 dX0_growFrom_11 rfl (lv_at hl 2 rfl) ?_
  obtain ⟨g2, hD⟩ := gd_some hD
  refine x_aald (k := 13) (j := j0) (f := fun i => X.2.2.1 14 (2 * j0 + i)) C hw hj0 1 rfl rfl rfl (inB_in g2) (a := X.2.2.1 14 (2 * j0 + x1.toNatClampNeg)) rfl dX0_growFrom_12 ?_
  refine lv_astore (lv' := [(4, .ref (X.2.2.1 14 (2 * j0 + x1.toNatClampNeg))), (3, .ref (X.2.2.1 12 (2 * j0 + x1.toNatClampNeg))), (0, .ref (X.2.2.1 9 (j0))), (1, .int (x1)), (2, .int (x2))]) C.1 C.2.1 dX0_growFrom_13 hl (by decide) rfl (fun ls hl => ?_)
  refine lv_iload_n C.1 C.2.1 dX0_growFrom_15 rfl (lv_at hl 4 rfl) ?_
  refine lv_istore (lv' := [(5, .int (x2)), (4, .ref (X.2.2.1 14 (2 * j0 + x1.toNatClampNeg))), (3, .ref (X.2.2.1 12 (2 * j0 + x1.toNatClampNeg))), (0, .ref (X.2.2.1 9 (j0))), (1, .int (x1)), (2, .int (x2))]) C.1 C.2.1 dX0_growFrom_16 hl (by decide) rfl (fun ls hl => ?_)
  exact w_X0_growFrom_18 j0 x1 x2 hj0 C hr hk R0   64 (2 * j0 + x1.toNatClampNeg) (2 * j0 + x1.toNatClampNeg) x2 z (x_lt2 hj0 (inB_lt g1)) (x_lt2 hj0 (inB_lt g2)) hD _ _ hw _ (lv_sub hl [3, 2, 1, 0] rfl)
theorem kw_84 : Cond.fieldLink RX3 24 (TX3 4).1 (TX3 4).2.1 (TX3 4).2.2.1 ∈ gtbl := gm1 96 rfl rfl
theorem pf_X3_4 {p : Program} {l : Launch} {e : Env} {R : Room} {s : State} {m : MethodId} {args : Array Value} {below : List Frame} {meth : Method} {c : Code} {H : Heap} {locs : List Loc} {cells slots : Nat} {Q : State → Prop} {cc : ByteArray} {pc nL index : Nat} {ls : Array Slot} {rest : List Value} {X : XC} {ex : va_W} {z : XS} {own : String} (C : CallFix p m c cc nL s args gtbl own) (hw : xw X ex z s H locs) {v : Int32} (hlink : Cond.fieldLink own index (TX3 4).1 (TX3 4).2.1 (TX3 4).2.2.1 ∈ gtbl) (hdg : decode cc pc = .ok (.putfield index, 3)) (kk : ∀ (H1 : Heap) (locs1 : List Loc), xw X ex (pS z 2 4 0 v) s H1 locs1 → W p l e R s m args below meth c H1 locs1 cells slots Q (F0 m (pc + 3) ls rest)) : W p l e R s m args below meth c H locs cells slots Q (F0 m pc ls (.int v :: .ref (X.2.2.1 2 0) :: rest)) :=
  x_put (k := 2) (j := 0) C hw (Nat.le_of_ble_eq_true rfl) 4 (v := v) rfl rfl rfl ixX3 tyX3 tyX3_ok nmX3 (by decide) hlink rfl (by decide +kernel) (Nat.le_of_ble_eq_true rfl) hdg kk
abbrev rm_X3_clear : Room := { frames := 0, cells := 0, slots := 0, locals := 0 }
def D_X3_clear  (z : XS) : Option (XS) :=
  (some (pS z 2 4 0 (0 : Int32))).bind fun z1 => (some z1)
set_option maxHeartbeats 4000000 in
set_option maxRecDepth 100000 in
theorem c_X3_clear (l : Launch) (X : XC) (ex : va_W)  (z : XS) (R0 : XS) (hD : D_X3_clear  z = some R0) : xM l X ex yX3_clear cX3_clear 1 none rm_X3_clear [.ref (X.2.2.1 2 (0))] z (xQv X ex R0) := by
  refine x_ent (by decide) (Nat.le_of_ble_eq_true rfl) ?_
  intro p e s m below meth c ls C hr hk hw hl
  replace hl : lv_has ls 1 [(0, .ref (X.2.2.1 2 (0)))] := hl
  unfold D_X3_clear at hD
  refine lv_aload_n C.1 C.2.1 dX3_clear_0 rfl (lv_at hl 0 rfl) ?_
  refine lv_iconst (v := (0 : Int32)) C.1 C.2.1 dX3_clear_1 (by decide) ?_
  obtain ⟨z1, hz1, hD⟩ := Option.bind_eq_some_iff.mp hD
  refine pf_X3_4 C hw kw_84 dX3_clear_2 (fun H locs hw => ?_)
  replace hw := xw_eq hz1 hw
  obtain rfl := Option.some.inj hD
  exact x_vret C hw hr hk dX3_clear_5
abbrev rm_X4_isGarden : Room := { frames := 0, cells := 0, slots := 0, locals := 0 }
def D_X4_isGarden (x1 : Int32) (z : XS) : Option (Int32 × XS) :=
  (if x1 < 0 then some ((0 : Int32), z) else (if gS z 1 2 0 ≤ x1 then some ((0 : Int32), z) else some ((1 : Int32), z)))
set_option maxHeartbeats 4000000 in
set_option maxRecDepth 100000 in
theorem c_X4_isGarden (l : Launch) (X : XC) (ex : va_W) (x1 : Int32) (z : XS) (R0 : Int32 × XS) (hD : D_X4_isGarden x1 z = some R0) : xM l X ex yX4_isGarden cX4_isGarden 2 (some .boolean) rm_X4_isGarden [.ref (X.2.2.1 1 (0)), .int (x1)] z (xQi X ex R0.2 R0.1) := by
  refine x_ent (by decide) (Nat.le_of_ble_eq_true rfl) ?_
  intro p e s m below meth c ls C hr hk hw hl
  replace hl : lv_has ls 2 [(0, .ref (X.2.2.1 1 (0))), (1, .int (x1))] := hl
  unfold D_X4_isGarden at hD
  refine lv_iload_n C.1 C.2.1 dX4_isGarden_0 rfl (lv_at hl 1 rfl) ?_
  refine lv_if_lt (tgt := 16) C.1 C.2.1 dX4_isGarden_1 (by decide) (fun c1 => ?_) (fun c1 => ?_)
  · replace hD := (if_pos c1).symm.trans hD
    refine lv_iconst (v := (0 : Int32)) C.1 C.2.1 dX4_isGarden_16 (by decide) ?_
    obtain rfl := Option.some.inj hD
    exact x_zret (v := (0 : Int32)) C hw hr hk nb0 dX4_isGarden_17
  · replace hD := (if_neg c1).symm.trans hD
    refine lv_iload_n C.1 C.2.1 dX4_isGarden_4 rfl (lv_at hl 1 rfl) ?_
    refine lv_aload_n C.1 C.2.1 dX4_isGarden_5 rfl (lv_at hl 0 rfl) ?_
    refine gf_X4_2 C hw kw_39 dX4_isGarden_6 ?_
    refine lv_icmp_ge (tgt := 16) C.1 C.2.1 dX4_isGarden_9 (by decide) (fun c2 => ?_) (fun c2 => ?_)
    · replace hD := (if_pos c2).symm.trans hD
      refine lv_iconst (v := (0 : Int32)) C.1 C.2.1 dX4_isGarden_16 (by decide) ?_
      obtain rfl := Option.some.inj hD
      exact x_zret (v := (0 : Int32)) C hw hr hk nb0 dX4_isGarden_17
    · replace hD := (if_neg c2).symm.trans hD
      refine lv_iconst (v := (1 : Int32)) C.1 C.2.1 dX4_isGarden_12 (by decide) ?_
      refine lv_goto (tgt := 17) C.1 C.2.1 dX4_isGarden_13 (by decide) ?_
      obtain rfl := Option.some.inj hD
      exact x_zret (v := (1 : Int32)) C hw hr hk nb1 dX4_isGarden_17
theorem kw_86 : Cond.fieldLink RX9 12 (TX9 0).1 (TX9 0).2.1 (TX9 0).2.2.1 ∈ gtbl := gm1 141 rfl rfl
theorem gf_X9_0 {p : Program} {l : Launch} {e : Env} {R : Room} {s : State} {m : MethodId} {args : Array Value} {below : List Frame} {meth : Method} {c : Code} {H : Heap} {locs : List Loc} {cells slots : Nat} {Q : State → Prop} {cc : ByteArray} {pc nL index : Nat} {ls : Array Slot} {rest : List Value} {X : XC} {ex : va_W} {z : XS} {own : String} (C : CallFix p m c cc nL s args gtbl own) (hw : xw X ex z s H locs) (hlink : Cond.fieldLink own index (TX9 0).1 (TX9 0).2.1 (TX9 0).2.2.1 ∈ gtbl) (hdg : decode cc pc = .ok (.getfield index, 3)) (kk : W p l e R s m args below meth c H locs cells slots Q (F0 m (pc + 3) ls (.ref (X.2.2.1 1 0) :: rest))) : W p l e R s m args below meth c H locs cells slots Q (F0 m pc ls (.ref (X.2.2.1 0 0) :: rest)) :=
  x_get (k := 0) (j := 0) C hw (Nat.le_of_ble_eq_true rfl) 0 (v := .ref (X.2.2.1 1 0)) rfl rfl ixX9 (by decide) hlink rfl hdg kk
theorem kw_88 : Cond.code yX4_isGarden cX4_isGarden 2 (some .boolean) ∈ gtbl := gm2 40 rfl rfl
theorem kw_89 : Cond.initialized RX4 ∈ gtbl := gm1 2 rfl rfl
theorem nd_X4_isGarden : (yX4_isGarden).cls ≠ "java/lang/invoke/MethodHandle" ∧ (yX4_isGarden).cls ≠ "java/lang/invoke/VarHandle" ∧ (parseMethodDescriptor (yX4_isGarden).desc).map (fun d => d.parameters.length) = some 1 := by decide +kernel
theorem kw_91 : Cond.instanceMethod yX4_isGarden ∈ gtbl := gm2 38 rfl rfl
theorem kw_92 : Cond.selects RX4 yX4_isGarden yX4_isGarden ∈ gtbl := gm2 39 rfl rfl
theorem cV_X4_isGarden : xcV yX4_isGarden cX4_isGarden 2 (some .boolean) 1 := ⟨⟨kw_88, kw_89, nd_X4_isGarden⟩, kw_91, kw_92⟩
theorem kw_94 : Cond.methodLink RX9 81 yX4_isGarden ∈ gtbl := gm2 37 rfl rfl
theorem gNf_X4_0 {p : Program} {l : Launch} {e : Env} {R : Room} {s : State} {m : MethodId} {args : Array Value} {below : List Frame} {meth : Method} {c : Code} {H : Heap} {locs : List Loc} {cells slots : Nat} {Q : State → Prop} {cc : ByteArray} {pc nL index : Nat} {ls : Array Slot} {rest : List Value} {X : XC} {ex : va_W} {z : XS} {own : String} (C : CallFix p m c cc nL s args gtbl own) (hw : xw X ex z s H locs) (hlink : (own, index, (TX4 0).1, (TX4 0).2.1, (TX4 0).2.2.1, "WordHedges") ∈ xnf) (hdg : decode cc pc = .ok (.getfield index, 3)) (kk : W p l e R s m args below meth c H locs cells slots Q (F0 m (pc + 3) ls (.ref (X.2.2.1 7 0) :: rest))) : W p l e R s m args below meth c H locs cells slots Q (F0 m pc ls (.ref (X.2.2.1 1 0) :: rest)) :=
  x_getN (k := 1) (j := 0) C hw (Nat.le_of_ble_eq_true rfl) 0 (v := .ref (X.2.2.1 7 0)) rfl rfl ixX4 (by decide) hlink rfl hdg kk
abbrev rm_X9_wants : Room := { frames := 1, cells := 0, slots := 0, locals := 21 }
def D_X9_wants (x1 : Int32) (z : XS) : Option (Int32 × XS) :=
  (D_X4_isGarden x1 z).bind fun q1 => ((if q1.1 = 0 then some ((-1 : Int32), q1.2) else gd (inB x1 7) (some (gA q1.2 7 0 x1.toNatClampNeg, q1.2))))
set_option maxHeartbeats 4000000 in
set_option maxRecDepth 100000 in
theorem c_X9_wants (l : Launch) (X : XC) (ex : va_W) (x1 : Int32) (z : XS) (R0 : Int32 × XS) (hD : D_X9_wants x1 z = some R0) : xM l X ex yX9_wants cX9_wants 2 (some .int) rm_X9_wants [.ref (X.2.2.1 0 (0)), .int (x1)] z (xQi X ex R0.2 R0.1) := by
  refine x_ent (by decide) (Nat.le_of_ble_eq_true rfl) ?_
  intro p e s m below meth c ls C hr hk hw hl
  replace hl : lv_has ls 2 [(0, .ref (X.2.2.1 0 (0))), (1, .int (x1))] := hl
  unfold D_X9_wants at hD
  refine lv_aload_n C.1 C.2.1 dX9_wants_0 rfl (lv_at hl 0 rfl) ?_
  refine gf_X9_0 C hw kw_86 dX9_wants_1 ?_
  refine lv_iload_n C.1 C.2.1 dX9_wants_4 rfl (lv_at hl 1 rfl) ?_
  obtain ⟨q1, hq1, hD⟩ := Option.bind_eq_some_iff.mp hD
  refine x_goi hw (x_runV (As := [.int (x1)]) (rest := []) (k := 1) (j := 0) C hw (Nat.le_of_ble_eq_true rfl) rfl rfl cV_X4_isGarden kw_94 (c_X4_isGarden l X ex x1  z q1 hq1) ⟨Nat.le_of_ble_eq_true rfl, Nat.le_of_ble_eq_true rfl⟩ rfl hl.1 rfl (Nat.le_of_ble_eq_true rfl) dX9_wants_5 ⟨Nat.le_of_ble_eq_true rfl, Nat.le_of_ble_eq_true rfl⟩) (fun H locs hw => ?_)
  refine lv_if_eq (tgt := 23) C.1 C.2.1 dX9_wants_8 (by decide) (fun c2 => ?_) (fun c2 => ?_)
  · replace hD := (if_pos c2).symm.trans hD
    refine lv_iconst (v := (-1 : Int32)) C.1 C.2.1 dX9_wants_23 (by decide) ?_
    obtain rfl := Option.some.inj hD
    exact x_iret C hw hr hk dX9_wants_24
  · replace hD := (if_neg c2).symm.trans hD
    refine lv_aload_n C.1 C.2.1 dX9_wants_11 rfl (lv_at hl 0 rfl) ?_
    refine gf_X9_0 C hw kw_86 dX9_wants_12 ?_
    refine gNf_X4_0 C hw (List.mem_of_getElem? (i := 5) rfl) dX9_wants_15 ?_
    refine lv_iload_n C.1 C.2.1 dX9_wants_18 rfl (lv_at hl 1 rfl) ?_
    obtain ⟨g3, hD⟩ := gd_some hD
    refine x_iald (k := 7) (j := 0) C hw rfl (Nat.le_of_ble_eq_true rfl) (inB_in g3) dX9_wants_19 ?_
    refine lv_goto (tgt := 24) C.1 C.2.1 dX9_wants_20 (by decide) ?_
    obtain rfl := Option.some.inj hD
    exact x_iret C hw hr hk dX9_wants_24
abbrev rm_X2_kind : Room := { frames := 0, cells := 0, slots := 0, locals := 0 }
def D_X2_kind (j0 : Nat) (z : XS) : Option (Int32 × XS) :=
  some ((0 : Int32), z)
set_option maxHeartbeats 4000000 in
set_option maxRecDepth 100000 in
theorem c_X2_kind (l : Launch) (X : XC) (ex : va_W) (j0 : Nat) (hj0 : j0 < 6) (z : XS) (R0 : Int32 × XS) (hD : D_X2_kind j0 z = some R0) : xM l X ex yX2_kind cX2_kind 1 (some .int) rm_X2_kind [.ref (X.2.2.1 10 (j0))] z (xQi X ex R0.2 R0.1) := by
  refine x_ent (by decide) (Nat.le_of_ble_eq_true rfl) ?_
  intro p e s m below meth c ls C hr hk hw hl
  replace hl : lv_has ls 1 [(0, .ref (X.2.2.1 10 (j0)))] := hl
  unfold D_X2_kind at hD
  refine lv_iconst (v := (0 : Int32)) C.1 C.2.1 dX2_kind_0 (by decide) ?_
  obtain rfl := Option.some.inj hD
  exact x_iret C hw hr hk dX2_kind_1
abbrev rm_X8_kind : Room := { frames := 0, cells := 0, slots := 0, locals := 0 }
def D_X8_kind (j0 : Nat) (z : XS) : Option (Int32 × XS) :=
  some ((1 : Int32), z)
set_option maxHeartbeats 4000000 in
set_option maxRecDepth 100000 in
theorem c_X8_kind (l : Launch) (X : XC) (ex : va_W) (j0 : Nat) (hj0 : j0 < 6) (z : XS) (R0 : Int32 × XS) (hD : D_X8_kind j0 z = some R0) : xM l X ex yX8_kind cX8_kind 1 (some .int) rm_X8_kind [.ref (X.2.2.1 10 (j0))] z (xQi X ex R0.2 R0.1) := by
  refine x_ent (by decide) (Nat.le_of_ble_eq_true rfl) ?_
  intro p e s m below meth c ls C hr hk hw hl
  replace hl : lv_has ls 1 [(0, .ref (X.2.2.1 10 (j0)))] := hl
  unfold D_X8_kind at hD
  refine lv_iconst (v := (1 : Int32)) C.1 C.2.1 dX8_kind_0 (by decide) ?_
  obtain rfl := Option.some.inj hD
  exact x_iret C hw hr hk dX8_kind_1
abbrev rm_X1_kind : Room := { frames := 0, cells := 0, slots := 0, locals := 0 }
def D_X1_kind (j0 : Nat) (z : XS) : Option (Int32 × XS) :=
  some ((2 : Int32), z)
set_option maxHeartbeats 4000000 in
set_option maxRecDepth 100000 in
theorem c_X1_kind (l : Launch) (X : XC) (ex : va_W) (j0 : Nat) (hj0 : j0 < 6) (z : XS) (R0 : Int32 × XS) (hD : D_X1_kind j0 z = some R0) : xM l X ex yX1_kind cX1_kind 1 (some .int) rm_X1_kind [.ref (X.2.2.1 10 (j0))] z (xQi X ex R0.2 R0.1) := by
  refine x_ent (by decide) (Nat.le_of_ble_eq_true rfl) ?_
  intro p e s m below meth c ls C hr hk hw hl
  replace hl : lv_has ls 1 [(0, .ref (X.2.2.1 10 (j0)))] := hl
  unfold D_X1_kind at hD
  refine lv_iconst (v := (2 : Int32)) C.1 C.2.1 dX1_kind_0 (by decide) ?_
  obtain rfl := Option.some.inj hD
  exact x_iret C hw hr hk dX1_kind_1
theorem kw_96 : Cond.code yX4_isHedge cX4_isHedge 2 (some .boolean) ∈ gtbl := gm1 211 rfl rfl
theorem nd_X4_isHedge : (yX4_isHedge).cls ≠ "java/lang/invoke/MethodHandle" ∧ (yX4_isHedge).cls ≠ "java/lang/invoke/VarHandle" ∧ (parseMethodDescriptor (yX4_isHedge).desc).map (fun d => d.parameters.length) = some 1 := by decide +kernel
theorem kw_98 : Cond.instanceMethod yX4_isHedge ∈ gtbl := gm1 209 rfl rfl
theorem kw_99 : Cond.selects RX4 yX4_isHedge yX4_isHedge ∈ gtbl := gm1 210 rfl rfl
theorem cV_X4_isHedge : xcV yX4_isHedge cX4_isHedge 2 (some .boolean) 1 := ⟨⟨kw_96, kw_89, nd_X4_isHedge⟩, kw_98, kw_99⟩
theorem kw_101 : Cond.methodLink RX9 88 yX4_isHedge ∈ gtbl := gm2 45 rfl rfl
theorem gNf_X4_1 {p : Program} {l : Launch} {e : Env} {R : Room} {s : State} {m : MethodId} {args : Array Value} {below : List Frame} {meth : Method} {c : Code} {H : Heap} {locs : List Loc} {cells slots : Nat} {Q : State → Prop} {cc : ByteArray} {pc nL index : Nat} {ls : Array Slot} {rest : List Value} {X : XC} {ex : va_W} {z : XS} {own : String} (C : CallFix p m c cc nL s args gtbl own) (hw : xw X ex z s H locs) (hlink : (own, index, (TX4 1).1, (TX4 1).2.1, (TX4 1).2.2.1, "WordHedges") ∈ xnf) (hdg : decode cc pc = .ok (.getfield index, 3)) (kk : W p l e R s m args below meth c H locs cells slots Q (F0 m (pc + 3) ls (.ref (X.2.2.1 8 0) :: rest))) : W p l e R s m args below meth c H locs cells slots Q (F0 m pc ls (.ref (X.2.2.1 1 0) :: rest)) :=
  x_getN (k := 1) (j := 0) C hw (Nat.le_of_ble_eq_true rfl) 1 (v := .ref (X.2.2.1 8 0)) rfl rfl ixX4 (by decide) hlink rfl hdg kk
theorem gNf_X0_0 {p : Program} {l : Launch} {e : Env} {R : Room} {s : State} {m : MethodId} {args : Array Value} {below : List Frame} {meth : Method} {c : Code} {H : Heap} {locs : List Loc} {cells slots : Nat} {Q : State → Prop} {cc : ByteArray} {pc nL index : Nat} {ls : Array Slot} {rest : List Value} {X : XC} {ex : va_W} {z : XS} {own : String} (C : CallFix p m c cc nL s args gtbl own) (hw : xw X ex z s H locs) {j : Nat} (hj : j < 6) (hlink : (own, index, (TX0 0).1, (TX0 0).2.1, (TX0 0).2.2.1, "WordHedges") ∈ xnf) (hdg : decode cc pc = .ok (.getfield index, 3)) (kk : W p l e R s m args below meth c H locs cells slots Q (F0 m (pc + 3) ls (.ref (X.2.2.1 10 j) :: rest))) : W p l e R s m args below meth c H locs cells slots Q (F0 m pc ls (.ref (X.2.2.1 9 j) :: rest)) :=
  x_getN (k := 9) (j := j) C hw hj 0 (v := .ref (X.2.2.1 10 j)) rfl rfl ixX0 (by decide) hlink rfl hdg kk
theorem kw_104 : Cond.fieldLink RX9 107 "WordHedges$Hedge" "high" "I" ∈ gtbl := gm1 45 rfl rfl

theorem kw_106 : Cond.methodLink RX9 101 (⟨"WordHedges$Hedge", "kind", "()I"⟩ : MethodName) ∈ gtbl := gm2 46 rfl rfl
theorem kw_107 : Cond.sameMethod "WordHedges$Hedge" "WordHedges$Hedge" "kind" "()I" ∈ gtbl := gm2 49 rfl rfl
theorem kw_108 : Cond.instanceMethod (⟨"WordHedges$Hedge", "kind", "()I"⟩ : MethodName) ∈ gtbl := gm2 47 rfl rfl
theorem kw_109 : Cond.code (⟨"WordHedges$Hedge", "kind", "()I"⟩ : MethodName) cX2_kind 1 (some .int) ∈ gtbl := gm2 56 rfl rfl
theorem kw_110 : Cond.code yX1_kind cX1_kind 1 (some .int) ∈ gtbl := gm2 52 rfl rfl
theorem kw_111 : Cond.instanceMethod yX1_kind ∈ gtbl := gm2 51 rfl rfl
theorem kw_112 : Cond.selects RX1 (⟨"WordHedges$Hedge", "kind", "()I"⟩ : MethodName) yX1_kind ∈ gtbl := gm2 50 rfl rfl
theorem kw_113 : Cond.code yX8_kind cX8_kind 1 (some .int) ∈ gtbl := gm2 55 rfl rfl
theorem kw_114 : Cond.instanceMethod yX8_kind ∈ gtbl := gm2 54 rfl rfl
theorem kw_115 : Cond.selects RX8 (⟨"WordHedges$Hedge", "kind", "()I"⟩ : MethodName) yX8_kind ∈ gtbl := gm2 53 rfl rfl
theorem kw_116 : Cond.code yX2_kind cX2_kind 1 (some .int) ∈ gtbl := gm2 56 rfl rfl
theorem kw_117 : Cond.instanceMethod yX2_kind ∈ gtbl := gm2 47 rfl rfl
theorem kw_118 : Cond.selects RX2 (⟨"WordHedges$Hedge", "kind", "()I"⟩ : MethodName) yX2_kind ∈ gtbl := gm2 48 rfl rfl
def DV_kind_X9_101 (j0 : Nat)  (z : XS) : Option (Int32 × XS) := if z.2.2 j0 = 1 then D_X1_kind j0  z else if z.2.2 j0 = 7 then D_X8_kind j0  z else if z.2.2 j0 = 2 then D_X2_kind j0  z else none
set_option maxHeartbeats 4000000 in
theorem r_kind_X9_101 {p : Program} {l : Launch} {e : Env} {R : Room} {s : State} {m : MethodId} {args : Array Value} {below : List Frame} {meth : Method} {c : Code} {H : Heap} {locs : List Loc} {cells slots : Nat} {Q : State → Prop} {cc : ByteArray} {pc nL : Nat} {ls : Array Slot} (rest : List Value) {X : XC} {ex : va_W} {z : XS} (C : CallFix p m c cc nL s args gtbl RX9) (hw : xw X ex z s H locs) (j0 : Nat) (hj0 : j0 < 6)  (q : Int32 × XS) (hq : DV_kind_X9_101 j0  z = some q) (hF : 1 ≤ R.frames) (hL : 20 ≤ R.locals) (hsize : ls.size = nL) (hW : (rest.map fun v => v.category).sum ≤ 8) (hdg : decode cc pc = .ok (.invokevirtual 101, 3)) (hcs : cells ≤ R.cells ∧ slots ≤ R.slots) (kk : ∀ (H1 : Heap) (locs1 : List Loc), xw X ex q.2 s H1 locs1 → W p l e R s m args below meth c H1 locs1 cells slots Q (F0 m (pc + 3) ls (.int q.1 :: rest))) : W p l e R s m args below meth c H locs cells slots Q (F0 m pc ls (.ref (X.2.2.1 10 j0) :: rest)) := by
  unfold DV_kind_X9_101 at hq
  by_cases h0 : z.2.2 j0 = 1
  · rw [if_pos h0] at hq
    exact x_goi hw (x_runD (n := 0) (x := (⟨"WordHedges$Hedge", "kind", "()I"⟩ : MethodName)) (owner := "WordHedges$Hedge") (y := yX1_kind) (As := []) (rest := rest) (k := 10) (j := j0) C hw hj0 (xct_H h0) rfl ⟨kw_110, kw_55, kw_111⟩ (by decide +kernel) kw_106 kw_107 kw_108 kw_109 kw_112 (c_X1_kind l X ex j0  hj0 z q hq) ⟨Nat.le_trans (Nat.le_of_ble_eq_true rfl) hF, Nat.le_trans (Nat.le_of_ble_eq_true rfl) hL⟩ rfl hsize rfl hW hdg hcs) kk
  rw [if_neg h0] at hq
  by_cases h1 : z.2.2 j0 = 7
  · rw [if_pos h1] at hq
    exact x_goi hw (x_runD (n := 0) (x := (⟨"WordHedges$Hedge", "kind", "()I"⟩ : MethodName)) (owner := "WordHedges$Hedge") (y := yX8_kind) (As := []) (rest := rest) (k := 10) (j := j0) C hw hj0 (xct_H h1) rfl ⟨kw_113, kw_42, kw_114⟩ (by decide +kernel) kw_106 kw_107 kw_108 kw_109 kw_115 (c_X8_kind l X ex j0  hj0 z q hq) ⟨Nat.le_trans (Nat.le_of_ble_eq_true rfl) hF, Nat.le_trans (Nat.le_of_ble_eq_true rfl) hL⟩ rfl hsize rfl hW hdg hcs) kk
  rw [if_neg h1] at hq
  by_cases h2 : z.2.2 j0 = 2
  · rw [if_pos h2] at hq
    exact x_goi hw (x_runD (n := 0) (x := (⟨"WordHedges$Hedge", "kind", "()I"⟩ : MethodName)) (owner := "WordHedges$Hedge") (y := yX2_kind) (As := []) (rest := rest) (k := 10) (j := j0) C hw hj0 (xct_H h2) rfl ⟨kw_116, kw_60, kw_117⟩ (by decide +kernel) kw_106 kw_107 kw_108 kw_109 kw_118 (c_X2_kind l X ex j0  hj0 z q hq) ⟨Nat.le_trans (Nat.le_of_ble_eq_true rfl) hF, Nat.le_trans (Nat.le_of_ble_eq_true rfl) hL⟩ rfl hsize rfl hW hdg hcs) kk
  rw [if_neg h2] at hq
  cases hq

abbrev rm_X9_ofHedge : Room := { frames := 1, cells := 0, slots := 0, locals := 21 }
def D_X9_ofHedge (x1 : Int32) (x2 : Int32) (z : XS) : Option (Int32 × XS) :=
  (D_X4_isHedge x1 z).bind fun q1 => ((if q1.1 = 0 then some ((-1 : Int32), q1.2) else (D_X9_isWithin x2 (1 : Int32) q1.2).bind fun q3 => ((if q3.1 = 0 then some ((-2 : Int32), q3.2) else gd (inB x1 6) ((if x2 = 0 then (DV_kind_X9_101 x1.toNatClampNeg  q3.2).bind fun q8 => (some (q8.1, q8.2)) else gd (isH q3.2 (x1.toNatClampNeg)) (some (gS q3.2 10 1 (x1.toNatClampNeg), q3.2))))))))
set_option maxHeartbeats 4000000 in
set_option maxRecDepth 100000 in
theorem c_X9_ofHedge (l : Launch) (X : XC) (ex : va_W) (x1 : Int32) (x2 : Int32) (z : XS) (R0 : Int32 × XS) (hD : D_X9_ofHedge x1 x2 z = some R0) : xM l X ex yX9_ofHedge cX9_ofHedge 4 (some .int) rm_X9_ofHedge [.ref (X.2.2.1 0 (0)), .int (x1), .int (x2)] z (xQi X ex R0.2 R0.1) := by
  refine x_ent (by decide) (Nat.le_of_ble_eq_true rfl) ?_
  intro p e s m below meth c ls C hr hk hw hl
  replace hl : lv_has ls 4 [(0, .ref (X.2.2.1 0 (0))), (1, .int (x1)), (2, .int (x2))] := hl
  unfold D_X9_ofHedge at hD
  refine lv_aload_n C.1 C.2.1 dX9_ofHedge_0 rfl (lv_at hl 0 rfl) ?_
  refine gf_X9_0 C hw kw_86 dX9_ofHedge_1 ?_
  refine lv_iload_n C.1 C.2.1 dX9_ofHedge_4 rfl (lv_at hl 1 rfl) ?_
  obtain ⟨q1, hq1, hD⟩ := Option.bind_eq_some_iff.mp hD
  refine x_goi hw (x_runV (As := [.int (x1)]) (rest := []) (k := 1) (j := 0) C hw (Nat.le_of_ble_eq_true rfl) rfl rfl cV_X4_isHedge kw_101 (c_X4_isHedge l X ex x1  z q1 hq1) ⟨Nat.le_of_ble_eq_true rfl, Nat.le_of_ble_eq_true rfl⟩ rfl hl.1 rfl (Nat.le_of_ble_eq_true rfl) dX9_ofHedge_5 ⟨Nat.le_of_ble_eq_true rfl, Nat.le_of_ble_eq_true rfl⟩) (fun H locs hw => ?_)
  refine lv_if_ne (tgt := 13) C.1 C.2.1 dX9_ofHedge_8 (by decide) (fun c2 => ?_) (fun c2 => ?_)
  · replace hD := (if_neg c2).symm.trans hD
    refine lv_iload_n C.1 C.2.1 dX9_ofHedge_13 rfl (lv_at hl 2 rfl) ?_
    refine lv_iconst (v := (1 : Int32)) C.1 C.2.1 dX9_ofHedge_14 (by decide) ?_
    obtain ⟨q3, hq3, hD⟩ := Option.bind_eq_some_iff.mp hD
    refine x_goi hw (x_runS (As := [.int (x2), .int ((1 : Int32))]) (rest := []) C hw cS_X9_isWithin kw_5 (c_X9_isWithin l X ex x2 (1 : Int32)  q1.2 q3 hq3) ⟨Nat.le_of_ble_eq_true rfl, Nat.le_of_ble_eq_true rfl⟩ rfl hl.1 rfl (Nat.le_of_ble_eq_true rfl) dX9_ofHedge_15 ⟨Nat.le_of_ble_eq_true rfl, Nat.le_of_ble_eq_true rfl⟩) (fun H locs hw => ?_)
    refine lv_if_ne (tgt := 24) C.1 C.2.1 dX9_ofHedge_18 (by decide) (fun c4 => ?_) (fun c4 => ?_)
    · replace hD := (if_neg c4).symm.trans hD
      refine lv_aload_n C.1 C.2.1 dX9_ofHedge_24 rfl (lv_at hl 0 rfl) ?_
      refine gf_X9_0 C hw kw_86 dX9_ofHedge_25 ?_
      refine gNf_X4_1 C hw (List.mem_of_getElem? (i := 7) rfl) dX9_ofHedge_28 ?_
      refine lv_iload_n C.1 C.2.1 dX9_ofHedge_31 rfl (lv_at hl 1 rfl) ?_
      obtain ⟨g5, hD⟩ := gd_some hD
      refine x_aald (k := 8) (j := 0) (f := fun i => X.2.2.1 9 i) C hw (Nat.le_of_ble_eq_true rfl) 2 rfl rfl rfl (inB_in g5) (a := X.2.2.1 9 (x1.toNatClampNeg)) rfl dX9_ofHedge_32 ?_
      refine gNf_X0_0 C hw (j := x1.toNatClampNeg) (inB_lt g5) (List.mem_of_getElem? (i := 0) rfl) dX9_ofHedge_33 ?_
      refine lv_astore_n (lv' := [(3, .ref (X.2.2.1 10 (x1.toNatClampNeg))), (0, .ref (X.2.2.1 0 (0))), (1, .int (x1)), (2, .int (x2))]) C.1 C.2.1 dX9_ofHedge_36 rfl hl (by decide) rfl (fun ls hl => ?_)
      refine lv_iload_n C.1 C.2.1 dX9_ofHedge_37 rfl (lv_at hl 3 rfl) ?_
      refine lv_if_ne (tgt := 48) C.1 C.2.1 dX9_ofHedge_38 (by decide) (fun c6 => ?_) (fun c6 => ?_)
      · replace hD := (if_neg c6).symm.trans hD
        refine lv_aload_n C.1 C.2.1 dX9_ofHedge_48 rfl (lv_at hl 0 rfl) ?_
        obtain ⟨g7, hD⟩ := gd_some hD
        refine x_getH (j := x1.toNatClampNeg) C hw (inB_lt g5) g7 1 (by decide) kw_104 dX9_ofHedge_49 ?_
        obtain rfl := Option.some.inj hD
        exact x_iret C hw hr hk dX9_ofHedge_52
      · replace hD := (if_pos c6).symm.trans hD
        refine lv_aload_n C.1 C.2.1 dX9_ofHedge_41 rfl (lv_at hl 0 rfl) ?_
        obtain ⟨q8, hq8, hD⟩ := Option.bind_eq_some_iff.mp hD
        refine r_kind_X9_101 [] C hw x1.toNatClampNeg (inB_lt g5)  q8 hq8 (Nat.le_of_ble_eq_true rfl) (Nat.le_of_ble_eq_true rfl) hl.1 (Nat.le_of_ble_eq_true rfl) dX9_ofHedge_42 ⟨Nat.le_of_ble_eq_true rfl, Nat.le_of_ble_eq_true rfl⟩ (fun H locs hw => ?_)
        refine lv_goto (tgt := 52) C.1 C.2.1 dX9_ofHedge_45 (by decide) ?_
        obtain rfl := Option.some.inj hD
        exact x_iret C hw hr hk dX9_ofHedge_52
    · replace hD := (if_pos c4).symm.trans hD
      refine lv_bipush (v := (-2 : Int32)) C.1 C.2.1 dX9_ofHedge_21 (by decide) ?_
      obtain rfl := Option.some.inj hD
      exact x_iret C hw hr hk dX9_ofHedge_23
  · replace hD := (if_pos c2).symm.trans hD
    refine lv_iconst (v := (-1 : Int32)) C.1 C.2.1 dX9_ofHedge_11 (by decide) ?_
    obtain rfl := Option.some.inj hD
    exact x_iret C hw hr hk dX9_ofHedge_12
abbrev rm_X9_isSide : Room := { frames := 1, cells := 0, slots := 0, locals := 21 }
def D_X9_isSide (x0 : Int32) (z : XS) : Option (Int32 × XS) :=
  (D_X9_isWithin x0 (1 : Int32) z).bind fun q1 => (gd (isZ q1.1) (some (q1.1, q1.2)))
set_option maxHeartbeats 4000000 in
set_option maxRecDepth 100000 in
theorem c_X9_isSide (l : Launch) (X : XC) (ex : va_W) (x0 : Int32) (z : XS) (R0 : Int32 × XS) (hD : D_X9_isSide x0 z = some R0) : xM l X ex yX9_isSide cX9_isSide 1 (some .boolean) rm_X9_isSide [.int (x0)] z (xQi X ex R0.2 R0.1) := by
  refine x_ent (by decide) (Nat.le_of_ble_eq_true rfl) ?_
  intro p e s m below meth c ls C hr hk hw hl
  replace hl : lv_has ls 1 [(0, .int (x0))] := hl
  unfold D_X9_isSide at hD
  refine lv_iload_n C.1 C.2.1 dX9_isSide_0 rfl (lv_at hl 0 rfl) ?_
  refine lv_iconst (v := (1 : Int32)) C.1 C.2.1 dX9_isSide_1 (by decide) ?_
  obtain ⟨q1, hq1, hD⟩ := Option.bind_eq_some_iff.mp hD
  refine x_goi hw (x_runS (As := [.int (x0), .int ((1 : Int32))]) (rest := []) C hw cS_X9_isWithin kw_5 (c_X9_isWithin l X ex x0 (1 : Int32)  z q1 hq1) ⟨Nat.le_of_ble_eq_true rfl, Nat.le_of_ble_eq_true rfl⟩ rfl hl.1 rfl (Nat.le_of_ble_eq_true rfl) dX9_isSide_2 ⟨Nat.le_of_ble_eq_true rfl, Nat.le_of_ble_eq_true rfl⟩) (fun H locs hw => ?_)
  obtain ⟨g2, hD⟩ := gd_some hD
  obtain rfl := Option.some.inj hD
  exact x_zret (v := q1.1) C hw hr hk (isZ_n g2) dX9_isSide_5
abbrev rm_X9_isDay : Room := { frames := 1, cells := 0, slots := 0, locals := 21 }
def D_X9_isDay (x0 : Int32) (z : XS) : Option (Int32 × XS) :=
  (D_X9_isWithin x0 (29 : Int32) z).bind fun q1 => (gd (isZ q1.1) (some (q1.1, q1.2)))
set_option maxHeartbeats 4000000 in
set_option maxRecDepth 100000 in
theorem c_X9_isDay (l : Launch) (X : XC) (ex : va_W) (x0 : Int32) (z : XS) (R0 : Int32 × XS) (hD : D_X9_isDay x0 z = some R0) : xM l X ex yX9_isDay cX9_isDay 1 (some .boolean) rm_X9_isDay [.int (x0)] z (xQi X ex R0.2 R0.1) := by
  refine x_ent (by decide) (Nat.le_of_ble_eq_true rfl) ?_
  intro p e s m below meth c ls C hr hk hw hl
  replace hl : lv_has ls 1 [(0, .int (x0))] := hl
  unfold D_X9_isDay at hD
  refine lv_iload_n C.1 C.2.1 dX9_isDay_0 rfl (lv_at hl 0 rfl) ?_
  refine lv_bipush (v := (29 : Int32)) C.1 C.2.1 dX9_isDay_1 (by decide) ?_
  obtain ⟨q1, hq1, hD⟩ := Option.bind_eq_some_iff.mp hD
  refine x_goi hw (x_runS (As := [.int (x0), .int ((29 : Int32))]) (rest := []) C hw cS_X9_isWithin kw_5 (c_X9_isWithin l X ex x0 (29 : Int32)  z q1 hq1) ⟨Nat.le_of_ble_eq_true rfl, Nat.le_of_ble_eq_true rfl⟩ rfl hl.1 rfl (Nat.le_of_ble_eq_true rfl) dX9_isDay_3 ⟨Nat.le_of_ble_eq_true rfl, Nat.le_of_ble_eq_true rfl⟩) (fun H locs hw => ?_)
  obtain ⟨g2, hD⟩ := gd_some hD
  obtain rfl := Option.some.inj hD
  exact x_zret (v := q1.1) C hw hr hk (isZ_n g2) dX9_isDay_6
abbrev rm_X9_hedgeBeside : Room := { frames := 0, cells := 0, slots := 0, locals := 0 }
def D_X9_hedgeBeside (x0 : Int32) (x1 : Int32) (z : XS) : Option (Int32 × XS) :=
  (if x1 = 0 then some (x0 - (1 : Int32), z) else some (x0, z))
set_option maxHeartbeats 4000000 in
set_option maxRecDepth 100000 in
theorem c_X9_hedgeBeside (l : Launch) (X : XC) (ex : va_W) (x0 : Int32) (x1 : Int32) (z : XS) (R0 : Int32 × XS) (hD : D_X9_hedgeBeside x0 x1 z = some R0) : xM l X ex yX9_hedgeBeside cX9_hedgeBeside 2 (some .int) rm_X9_hedgeBeside [.int (x0), .int (x1)] z (xQi X ex R0.2 R0.1) := by
  refine x_ent (by decide) (Nat.le_of_ble_eq_true rfl) ?_
  intro p e s m below meth c ls C hr hk hw hl
  replace hl : lv_has ls 2 [(0, .int (x0)), (1, .int (x1))] := hl
  unfold D_X9_hedgeBeside at hD
  refine lv_iload_n C.1 C.2.1 dX9_hedgeBeside_0 rfl (lv_at hl 1 rfl) ?_
  refine lv_if_ne (tgt := 10) C.1 C.2.1 dX9_hedgeBeside_1 (by decide) (fun c1 => ?_) (fun c1 => ?_)
  · replace hD := (if_neg c1).symm.trans hD
    refine lv_iload_n C.1 C.2.1 dX9_hedgeBeside_10 rfl (lv_at hl 0 rfl) ?_
    obtain rfl := Option.some.inj hD
    exact x_iret C hw hr hk dX9_hedgeBeside_11
  · replace hD := (if_pos c1).symm.trans hD
    refine lv_iload_n C.1 C.2.1 dX9_hedgeBeside_4 rfl (lv_at hl 0 rfl) ?_
    refine lv_iconst (v := (1 : Int32)) C.1 C.2.1 dX9_hedgeBeside_5 (by decide) ?_
    refine lv_isub C.1 C.2.1 dX9_hedgeBeside_6 ?_
    refine lv_goto (tgt := 11) C.1 C.2.1 dX9_hedgeBeside_7 (by decide) ?_
    obtain rfl := Option.some.inj hD
    exact x_iret C hw hr hk dX9_hedgeBeside_11
abbrev rm_X9_otherSide : Room := { frames := 0, cells := 0, slots := 0, locals := 0 }
def D_X9_otherSide (x0 : Int32) (z : XS) : Option (Int32 × XS) :=
  (if x0 = 0 then some ((1 : Int32), z) else some ((0 : Int32), z))
set_option maxHeartbeats 4000000 in
set_option maxRecDepth 100000 in
theorem c_X9_otherSide (l : Launch) (X : XC) (ex : va_W) (x0 : Int32) (z : XS) (R0 : Int32 × XS) (hD : D_X9_otherSide x0 z = some R0) : xM l X ex yX9_otherSide cX9_otherSide 1 (some .int) rm_X9_otherSide [.int (x0)] z (xQi X ex R0.2 R0.1) := by
  refine x_ent (by decide) (Nat.le_of_ble_eq_true rfl) ?_
  intro p e s m below meth c ls C hr hk hw hl
  replace hl : lv_has ls 1 [(0, .int (x0))] := hl
  unfold D_X9_otherSide at hD
  refine lv_iload_n C.1 C.2.1 dX9_otherSide_0 rfl (lv_at hl 0 rfl) ?_
  refine lv_if_ne (tgt := 8) C.1 C.2.1 dX9_otherSide_1 (by decide) (fun c1 => ?_) (fun c1 => ?_)
  · replace hD := (if_neg c1).symm.trans hD
    refine lv_iconst (v := (0 : Int32)) C.1 C.2.1 dX9_otherSide_8 (by decide) ?_
    obtain rfl := Option.some.inj hD
    exact x_iret C hw hr hk dX9_otherSide_9
  · replace hD := (if_pos c1).symm.trans hD
    refine lv_iconst (v := (1 : Int32)) C.1 C.2.1 dX9_otherSide_4 (by decide) ?_
    refine lv_goto (tgt := 9) C.1 C.2.1 dX9_otherSide_5 (by decide) ?_
    obtain rfl := Option.some.inj hD
    exact x_iret C hw hr hk dX9_otherSide_9
theorem kw_120 : Cond.code yX0_growFrom cX0_growFrom 6 none ∈ gtbl := gm2 6 rfl rfl
theorem nd_X0_growFrom : (yX0_growFrom).cls ≠ "java/lang/invoke/MethodHandle" ∧ (yX0_growFrom).cls ≠ "java/lang/invoke/VarHandle" ∧ (parseMethodDescriptor (yX0_growFrom).desc).map (fun d => d.parameters.length) = some 2 := by decide +kernel
theorem kw_122 : Cond.instanceMethod yX0_growFrom ∈ gtbl := gm2 5 rfl rfl
theorem kw_123 : Cond.selects RX0 yX0_growFrom yX0_growFrom ∈ gtbl := gm0 1 rfl rfl
theorem cV_X0_growFrom : xcV yX0_growFrom cX0_growFrom 6 none 2 := ⟨⟨kw_120, kw_78, nd_X0_growFrom⟩, kw_122, kw_123⟩
theorem kw_125 : Cond.methodLink RX0 42 yX0_growFrom ∈ gtbl := gm2 3 rfl rfl
abbrev rm_X0_speak : Room := { frames := 4, cells := 0, slots := 0, locals := 91 }
def D_X0_speak (j0 : Nat) (x1 : Int32) (x2 : Int32) (x3 : Int32) (z : XS) : Option (Int32 × XS) :=
  gd (inB x1 2) (gd (inB x2 30) (gd (inB x1 2) (gd (inB x2 30) ((some (pA z 12 (2 * j0 + x1.toNatClampNeg) x2.toNatClampNeg x3)).bind fun z5 => ((D_X0_growFrom j0 x1 x2 z5).bind fun q6 => (some (gA z 12 (2 * j0 + x1.toNatClampNeg) x2.toNatClampNeg, q6)))))))
set_option maxHeartbeats 4000000 in
set_option maxRecDepth 100000 in
theorem c_X0_speak (l : Launch) (X : XC) (ex : va_W) (j0 : Nat) (x1 : Int32) (x2 : Int32) (x3 : Int32) (hj0 : j0 < 6) (z : XS) (R0 : Int32 × XS) (hD : D_X0_speak j0 x1 x2 x3 z = some R0) : xM l X ex yX0_speak cX0_speak 5 (some .int) rm_X0_speak [.ref (X.2.2.1 9 (j0)), .int (x1), .int (x2), .int (x3)] z (xQi X ex R0.2 R0.1) := by
  refine x_ent (by decide) (Nat.le_of_ble_eq_true rfl) ?_
  intro p e s m below meth c ls C hr hk hw hl
  replace hl : lv_has ls 5 [(0, .ref (X.2.2.1 9 (j0))), (1, .int (x1)), (2, .int (x2)), (3, .int (x3))] := hl
  unfold D_X0_speak at hD
  refine lv_aload_n C.1 C.2.1 dX0_speak_0 rfl (lv_at hl 0 rfl) ?_
  refine gf_X0_1 C hw (j := j0) hj0 kw_73 dX0_speak_1 ?_
  refine lv_iload_n C.1 C.2.1 dX0_speak_4 rfl (lv_at hl 1 rfl) ?_
  obtain ⟨g1, hD⟩ := gd_some hD
  refine x_aald (k := 11) (j := j0) (f := fun i => X.2.2.1 12 (2 * j0 + i)) C hw hj0 1 rfl rfl rfl (inB_in g1) (a := X.2.2.1 12 (2 * j0 + x1.toNatClampNeg)) rfl dX0_speak_5 ?_
  refine lv_iload_n C.1 C.2.1 dX0_speak_6 rfl (lv_at hl 2 rfl) ?_
  obtain ⟨g2, hD⟩ := gd_some hD
  refine x_iald (k := 12) (j := 2 * j0 + x1.toNatClampNeg) C hw rfl (x_lt2 hj0 (inB_lt g1)) (inB_in g2) dX0_speak_7 ?_
  refine lv_istore (lv' := [(4, .int (gA z 12 (2 * j0 + x1.toNatClampNeg) x2.toNatClampNeg)), (0, .ref (X.2.2.1 9 (j0))), (1, .int (x1)), (2, .int (x2)), (3, .int (x3))]) C.1 C.2.1 dX0_speak_8 hl (by decide) rfl (fun ls hl => ?_)
  refine lv_aload_n C.1 C.2.1 dX0_speak_10 rfl (lv_at hl 1 rfl) ?_
  refine gf_X0_1 C hw (j := j0) hj0 kw_73 dX0_speak_11 ?_
  refine lv_iload_n C.1 C.2.1 dX0_speak_14 rfl (lv_at hl 2 rfl) ?_
  obtain ⟨g3, hD⟩ := gd_some hD
  refine x_aald (k := 11) (j := j0) (f := fun i => X.2.2.1 12 (2 * j0 + i)) C hw hj0 1 rfl rfl rfl (inB_in g3) (a := X.2.2.1 12 (2 * j0 + x1.toNatClampNeg)) rfl dX0_speak_15 ?_
  refine lv_iload_n C.1 C.2.1 dX0_speak_16 rfl (lv_at hl 3 rfl) ?_
  refine lv_iload_n C.1 C.2.1 dX0_speak_17 rfl (lv_at hl 4 rfl) ?_
  obtain ⟨g4, hD⟩ := gd_some hD
  obtain ⟨z5, hz5, hD⟩ := Option.bind_eq_some_iff.mp hD
  refine x_iast (k := 12) (j := 2 * j0 + x1.toNatClampNeg) C hw rfl (x_lt2 hj0 (inB_lt g3)) (inB_in g4) dX0_speak_18 (fun H locs hw => ?_)
  replace hw := xw_eq hz5 hw
  refine lv_aload_n C.1 C.2.1 dX0_speak_19 rfl (lv_at hl 1 rfl) ?_
  refine lv_iload_n C.1 C.2.1 dX0_speak_20 rfl (lv_at hl 2 rfl) ?_
  refine lv_iload_n C.1 C.2.1 dX0_speak_21 rfl (lv_at hl 3 rfl) ?_
  obtain ⟨q6, hq6, hD⟩ := Option.bind_eq_some_iff.mp hD
  refine x_gov hw (x_runV (As := [.int (x1), .int (x2)]) (rest := []) (k := 9) (j := j0) C hw hj0 rfl rfl cV_X0_growFrom kw_125 (c_X0_growFrom l X ex j0 x1 x2 hj0 z5 q6 hq6) ⟨Nat.le_of_ble_eq_true rfl, Nat.le_of_ble_eq_true rfl⟩ rfl hl.1 rfl (Nat.le_of_ble_eq_true rfl) dX0_speak_22 ⟨Nat.le_of_ble_eq_true rfl, Nat.le_of_ble_eq_true rfl⟩) (fun H locs hw => ?_)
  refine lv_iload C.1 C.2.1 dX0_speak_25 (lv_at hl 0 rfl) ?_
  obtain rfl := Option.some.inj hD
  exact x_iret C hw hr hk dX0_speak_27
theorem kw_126 : Cond.code yX9_isSide cX9_isSide 1 (some .boolean) ∈ gtbl := gm2 63 rfl rfl
theorem nd_X9_isSide : (yX9_isSide).cls ≠ "java/lang/invoke/MethodHandle" ∧ (yX9_isSide).cls ≠ "java/lang/invoke/VarHandle" ∧ (parseMethodDescriptor (yX9_isSide).desc).map (fun d => d.parameters.length) = some 1 := by decide +kernel
theorem kw_128 : Cond.static yX9_isSide ∈ gtbl := gm2 62 rfl rfl
theorem cS_X9_isSide : xcS yX9_isSide cX9_isSide 1 (some .boolean) 1 := ⟨⟨kw_126, kw_1, nd_X9_isSide⟩, kw_128⟩
theorem kw_130 : Cond.methodLink RX9 110 yX9_isSide ∈ gtbl := gm2 61 rfl rfl
theorem kw_131 : Cond.code yX9_isDay cX9_isDay 1 (some .boolean) ∈ gtbl := gm2 66 rfl rfl
theorem nd_X9_isDay : (yX9_isDay).cls ≠ "java/lang/invoke/MethodHandle" ∧ (yX9_isDay).cls ≠ "java/lang/invoke/VarHandle" ∧ (parseMethodDescriptor (yX9_isDay).desc).map (fun d => d.parameters.length) = some 1 := by decide +kernel
theorem kw_133 : Cond.static yX9_isDay ∈ gtbl := gm2 65 rfl rfl
theorem cS_X9_isDay : xcS yX9_isDay cX9_isDay 1 (some .boolean) 1 := ⟨⟨kw_131, kw_1, nd_X9_isDay⟩, kw_133⟩
theorem kw_135 : Cond.methodLink RX9 113 yX9_isDay ∈ gtbl := gm2 64 rfl rfl
theorem kw_136 : Cond.methodLink RX9 116 Lib.Math.abs.name ∈ gtbl := gm2 67 rfl rfl
theorem kw_137 : Cond.static Lib.Math.abs.name ∈ gtbl := gm2 68 rfl rfl
theorem kw_138 : Cond.code Lib.Math.abs.name Lib.Math.abs.code 1 (some .int) ∈ gtbl := gm2 69 rfl rfl
theorem kw_139 : Cond.code yX9_hedgeBeside cX9_hedgeBeside 2 (some .int) ∈ gtbl := gm2 72 rfl rfl
theorem nd_X9_hedgeBeside : (yX9_hedgeBeside).cls ≠ "java/lang/invoke/MethodHandle" ∧ (yX9_hedgeBeside).cls ≠ "java/lang/invoke/VarHandle" ∧ (parseMethodDescriptor (yX9_hedgeBeside).desc).map (fun d => d.parameters.length) = some 2 := by decide +kernel
theorem kw_141 : Cond.static yX9_hedgeBeside ∈ gtbl := gm2 71 rfl rfl
theorem cS_X9_hedgeBeside : xcS yX9_hedgeBeside cX9_hedgeBeside 2 (some .int) 2 := ⟨⟨kw_139, kw_1, nd_X9_hedgeBeside⟩, kw_141⟩
theorem kw_143 : Cond.methodLink RX9 121 yX9_hedgeBeside ∈ gtbl := gm2 70 rfl rfl
theorem kw_144 : Cond.code yX9_otherSide cX9_otherSide 1 (some .int) ∈ gtbl := gm2 75 rfl rfl
theorem nd_X9_otherSide : (yX9_otherSide).cls ≠ "java/lang/invoke/MethodHandle" ∧ (yX9_otherSide).cls ≠ "java/lang/invoke/VarHandle" ∧ (parseMethodDescriptor (yX9_otherSide).desc).map (fun d => d.parameters.length) = some 1 := by decide +kernel
theorem kw_146 : Cond.static yX9_otherSide ∈ gtbl := gm2 74 rfl rfl
theorem cS_X9_otherSide : xcS yX9_otherSide cX9_otherSide 1 (some .int) 1 := ⟨⟨kw_144, kw_1, nd_X9_otherSide⟩, kw_146⟩
theorem kw_148 : Cond.methodLink RX9 125 yX9_otherSide ∈ gtbl := gm2 73 rfl rfl
theorem kw_149 : Cond.code yX0_speak cX0_speak 5 (some .int) ∈ gtbl := gm2 79 rfl rfl
theorem nd_X0_speak : (yX0_speak).cls ≠ "java/lang/invoke/MethodHandle" ∧ (yX0_speak).cls ≠ "java/lang/invoke/VarHandle" ∧ (parseMethodDescriptor (yX0_speak).desc).map (fun d => d.parameters.length) = some 3 := by decide +kernel
theorem kw_151 : Cond.instanceMethod yX0_speak ∈ gtbl := gm2 77 rfl rfl
theorem kw_152 : Cond.selects RX0 yX0_speak yX0_speak ∈ gtbl := gm2 78 rfl rfl
theorem cV_X0_speak : xcV yX0_speak cX0_speak 5 (some .int) 3 := ⟨⟨kw_149, kw_78, nd_X0_speak⟩, kw_151, kw_152⟩
theorem kw_154 : Cond.methodLink RX9 128 yX0_speak ∈ gtbl := gm2 76 rfl rfl
abbrev rm_X9_say : Room := { frames := 5, cells := 0, slots := 0, locals := 115 }
def D_X9_say (x1 : Int32) (x2 : Int32) (x3 : Int32) (x4 : Int32) (z : XS) : Option (Int32 × XS) :=
  (D_X4_isGarden x1 z).bind fun q1 => ((if q1.1 = 0 then some ((-1 : Int32), q1.2) else (D_X9_isSide x2 q1.2).bind fun q3 => ((if q3.1 = 0 then some ((-2 : Int32), q3.2) else (D_X9_isDay x3 q3.2).bind fun q5 => ((if q5.1 = 0 then some ((-2 : Int32), q5.2) else (D_X9_isWithin (if 0 ≤ x4 then x4 else 0 - x4) (3 : Int32) q5.2).bind fun q7 => ((if q7.1 = 0 then some ((-2 : Int32), q7.2) else (D_X9_hedgeBeside x1 x2 q7.2).bind fun q9 => ((D_X4_isHedge q9.1 q9.2).bind fun q10 => ((if q10.1 = 0 then some ((-1 : Int32), q10.2) else gd (inB q9.1 6) ((D_X9_otherSide x2 q10.2).bind fun q13 => ((D_X0_speak q9.1.toNatClampNeg q13.1 x3 x4 q13.2).bind fun q14 => (some (q14.1 + (10 : Int32), q14.2)))))))))))))))
set_option maxHeartbeats 4000000 in
set_option maxRecDepth 100000 in
theorem c_X9_say (l : Launch) (X : XC) (ex : va_W) (x1 : Int32) (x2 : Int32) (x3 : Int32) (x4 : Int32) (z : XS) (R0 : Int32 × XS) (hD : D_X9_say x1 x2 x3 x4 z = some R0) : xM l X ex yX9_say cX9_say 6 (some .int) rm_X9_say [.ref (X.2.2.1 0 (0)), .int (x1), .int (x2), .int (x3), .int (x4)] z (xQi X ex R0.2 R0.1) := by
  refine x_ent (by decide) (Nat.le_of_ble_eq_true rfl) ?_
  intro p e s m below meth c ls C hr hk hw hl
  replace hl : lv_has ls 6 [(0, .ref (X.2.2.1 0 (0))), (1, .int (x1)), (2, .int (x2)), (3, .int (x3)), (4, .int (x4))] := hl
  unfold D_X9_say at hD
  refine lv_aload_n C.1 C.2.1 dX9_say_0 rfl (lv_at hl 0 rfl) ?_
  refine gf_X9_0 C hw kw_86 dX9_say_1 ?_
  refine lv_iload_n C.1 C.2.1 dX9_say_4 rfl (lv_at hl 1 rfl) ?_
  obtain ⟨q1, hq1, hD⟩ := Option.bind_eq_some_iff.mp hD
  refine x_goi hw (x_runV (As := [.int (x1)]) (rest := []) (k := 1) (j := 0) C hw (Nat.le_of_ble_eq_true rfl) rfl rfl cV_X4_isGarden kw_94 (c_X4_isGarden l X ex x1  z q1 hq1) ⟨Nat.le_of_ble_eq_true rfl, Nat.le_of_ble_eq_true rfl⟩ rfl hl.1 rfl (Nat.le_of_ble_eq_true rfl) dX9_say_5 ⟨Nat.le_of_ble_eq_true rfl, Nat.le_of_ble_eq_true rfl⟩) (fun H locs hw => ?_)
  refine lv_if_ne (tgt := 13) C.1 C.2.1 dX9_say_8 (by decide) (fun c2 => ?_) (fun c2 => ?_)
  · replace hD := (if_neg c2).symm.trans hD
    refine lv_iload_n C.1 C.2.1 dX9_say_13 rfl (lv_at hl 2 rfl) ?_
    obtain ⟨q3, hq3, hD⟩ := Option.bind_eq_some_iff.mp hD
    refine x_goi hw (x_runS (As := [.int (x2)]) (rest := []) C hw cS_X9_isSide kw_130 (c_X9_isSide l X ex x2  q1.2 q3 hq3) ⟨Nat.le_of_ble_eq_true rfl, Nat.le_of_ble_eq_true rfl⟩ rfl hl.1 rfl (Nat.le_of_ble_eq_true rfl) dX9_say_14 ⟨Nat.le_of_ble_eq_true rfl, Nat.le_of_ble_eq_true rfl⟩) (fun H locs hw => ?_)
    refine lv_if_eq (tgt := 39) C.1 C.2.1 dX9_say_17 (by decide) (fun c4 => ?_) (fun c4 => ?_)
    · replace hD := (if_pos c4).symm.trans hD
      refine lv_bipush (v := (-2 : Int32)) C.1 C.2.1 dX9_say_39 (by decide) ?_
      obtain rfl := Option.some.inj hD
      exact x_iret C hw hr hk dX9_say_41
    · replace hD := (if_neg c4).symm.trans hD
      refine lv_iload_n C.1 C.2.1 dX9_say_20 rfl (lv_at hl 3 rfl) ?_
      obtain ⟨q5, hq5, hD⟩ := Option.bind_eq_some_iff.mp hD
      refine x_goi hw (x_runS (As := [.int (x3)]) (rest := []) C hw cS_X9_isDay kw_135 (c_X9_isDay l X ex x3  q3.2 q5 hq5) ⟨Nat.le_of_ble_eq_true rfl, Nat.le_of_ble_eq_true rfl⟩ rfl hl.1 rfl (Nat.le_of_ble_eq_true rfl) dX9_say_21 ⟨Nat.le_of_ble_eq_true rfl, Nat.le_of_ble_eq_true rfl⟩) (fun H locs hw => ?_)
      refine lv_if_eq (tgt := 39) C.1 C.2.1 dX9_say_24 (by decide) (fun c6 => ?_) (fun c6 => ?_)
      · replace hD := (if_pos c6).symm.trans hD
        refine lv_bipush (v := (-2 : Int32)) C.1 C.2.1 dX9_say_39 (by decide) ?_
        obtain rfl := Option.some.inj hD
        exact x_iret C hw hr hk dX9_say_41
      · replace hD := (if_neg c6).symm.trans hD
        refine lv_iload C.1 C.2.1 dX9_say_27 (lv_at hl 4 rfl) ?_
        refine va_mabs C.1 C.2.1 (C.2.2.1.trans hl.1.symm) C.2.2.2.1 (C.2.2.2.2 _ kw_136) (C.2.2.2.2 _ kw_137) (C.2.2.2.2 _ kw_66) (C.2.2.2.2 _ kw_138) (Nat.le_of_ble_eq_true rfl) (Nat.le_of_ble_eq_true rfl) (Nat.le_of_ble_eq_true rfl) (Nat.le_of_ble_eq_true rfl) dX9_say_29 ?_
        refine lv_iconst (v := (3 : Int32)) C.1 C.2.1 dX9_say_32 (by decide) ?_
        obtain ⟨q7, hq7, hD⟩ := Option.bind_eq_some_iff.mp hD
        refine x_goi hw (x_runS (As := [.int (if 0 ≤ x4 then x4 else 0 - x4), .int ((3 : Int32))]) (rest := []) C hw cS_X9_isWithin kw_5 (c_X9_isWithin l X ex (if 0 ≤ x4 then x4 else 0 - x4) (3 : Int32)  q5.2 q7 hq7) ⟨Nat.le_of_ble_eq_true rfl, Nat.le_of_ble_eq_true rfl⟩ rfl hl.1 rfl (Nat.le_of_ble_eq_true rfl) dX9_say_33 ⟨Nat.le_of_ble_eq_true rfl, Nat.le_of_ble_eq_true rfl⟩) (fun H locs hw => ?_)
        refine lv_if_ne (tgt := 42) C.1 C.2.1 dX9_say_36 (by decide) (fun c8 => ?_) (fun c8 => ?_)
        · replace hD := (if_neg c8).symm.trans hD
          refine lv_iload_n C.1 C.2.1 dX9_say_42 rfl (lv_at hl 1 rfl) ?_
          refine lv_iload_n C.1 C.2.1 dX9_say_43 rfl (lv_at hl 2 rfl) ?_
          obtain ⟨q9, hq9, hD⟩ := Option.bind_eq_some_iff.mp hD
          refine x_goi hw (x_runS (As := [.int (x1), .int (x2)]) (rest := []) C hw cS_X9_hedgeBeside kw_143 (c_X9_hedgeBeside l X ex x1 x2  q7.2 q9 hq9) ⟨Nat.le_of_ble_eq_true rfl, Nat.le_of_ble_eq_true rfl⟩ rfl hl.1 rfl (Nat.le_of_ble_eq_true rfl) dX9_say_44 ⟨Nat.le_of_ble_eq_true rfl, Nat.le_of_ble_eq_true rfl⟩) (fun H locs hw => ?_)
          refine lv_istore (lv' := [(5, .int (q9.1)), (0, .ref (X.2.2.1 0 (0))), (1, .int (x1)), (2, .int (x2)), (3, .int (x3)), (4, .int (x4))]) C.1 C.2.1 dX9_say_47 hl (by decide) rfl (fun ls hl => ?_)
          refine lv_aload_n C.1 C.2.1 dX9_say_49 rfl (lv_at hl 1 rfl) ?_
          refine gf_X9_0 C hw kw_86 dX9_say_50 ?_
          refine lv_iload C.1 C.2.1 dX9_say_53 (lv_at hl 0 rfl) ?_
          obtain ⟨q10, hq10, hD⟩ := Option.bind_eq_some_iff.mp hD
          refine x_goi hw (x_runV (As := [.int (q9.1)]) (rest := []) (k := 1) (j := 0) C hw (Nat.le_of_ble_eq_true rfl) rfl rfl cV_X4_isHedge kw_101 (c_X4_isHedge l X ex q9.1  q9.2 q10 hq10) ⟨Nat.le_of_ble_eq_true rfl, Nat.le_of_ble_eq_true rfl⟩ rfl hl.1 rfl (Nat.le_of_ble_eq_true rfl) dX9_say_55 ⟨Nat.le_of_ble_eq_true rfl, Nat.le_of_ble_eq_true rfl⟩) (fun H locs hw => ?_)
          refine lv_if_ne (tgt := 63) C.1 C.2.1 dX9_say_58 (by decide) (fun c11 => ?_) (fun c11 => ?_)
          · replace hD := (if_neg c11).symm.trans hD
            refine lv_aload_n C.1 C.2.1 dX9_say_63 rfl (lv_at hl 1 rfl) ?_
            refine gf_X9_0 C hw kw_86 dX9_say_64 ?_
            refine gNf_X4_1 C hw (List.mem_of_getElem? (i := 7) rfl) dX9_say_67 ?_
            refine lv_iload C.1 C.2.1 dX9_say_70 (lv_at hl 0 rfl) ?_
            obtain ⟨g12, hD⟩ := gd_some hD
            refine x_aald (k := 8) (j := 0) (f := fun i => X.2.2.1 9 i) C hw (Nat.le_of_ble_eq_true rfl) 2 rfl rfl rfl (inB_in g12) (a := X.2.2.1 9 (q9.1.toNatClampNeg)) rfl dX9_say_72 ?_
            refine lv_iload_n C.1 C.2.1 dX9_say_73 rfl (lv_at hl 3 rfl) ?_
            obtain ⟨q13, hq13, hD⟩ := Option.bind_eq_some_iff.mp hD
            refine x_goi hw (x_runS (As := [.int (x2)]) (rest := [.ref (X.2.2.1 9 (q9.1.toNatClampNeg))]) C hw cS_X9_otherSide kw_148 (c_X9_otherSide l X ex x2  q10.2 q13 hq13) ⟨Nat.le_of_ble_eq_true rfl, Nat.le_of_ble_eq_true rfl⟩ rfl hl.1 rfl (Nat.le_of_ble_eq_true rfl) dX9_say_74 ⟨Nat.le_of_ble_eq_true rfl, Nat.le_of_ble_eq_true rfl⟩) (fun H locs hw => ?_)
            refine lv_iload_n C.1 C.2.1 dX9_say_77 rfl (lv_at hl 4 rfl) ?_
            refine lv_iload C.1 C.2.1 dX9_say_78 (lv_at hl 5 rfl) ?_
            obtain ⟨q14, hq14, hD⟩ := Option.bind_eq_some_iff.mp hD
            refine x_goi hw (x_runV (As := [.int (q13.1), .int (x3), .int (x4)]) (rest := []) (k := 9) (j := q9.1.toNatClampNeg) C hw (inB_lt g12) rfl rfl cV_X0_speak kw_154 (c_X0_speak l X ex q9.1.toNatClampNeg q13.1 x3 x4 (inB_lt g12) q13.2 q14 hq14) ⟨Nat.le_of_ble_eq_true rfl, Nat.le_of_ble_eq_true rfl⟩ rfl hl.1 rfl (Nat.le_of_ble_eq_true rfl) dX9_say_80 ⟨Nat.le_of_ble_eq_true rfl, Nat.le_of_ble_eq_true rfl⟩) (fun H locs hw => ?_)
            refine lv_bipush (v := (10 : Int32)) C.1 C.2.1 dX9_say_83 (by decide) ?_
            refine lv_iadd C.1 C.2.1 dX9_say_85 ?_
            obtain rfl := Option.some.inj hD
            exact x_iret C hw hr hk dX9_say_86
          · replace hD := (if_pos c11).symm.trans hD
            refine lv_iconst (v := (-1 : Int32)) C.1 C.2.1 dX9_say_61 (by decide) ?_
            obtain rfl := Option.some.inj hD
            exact x_iret C hw hr hk dX9_say_62
        · replace hD := (if_pos c8).symm.trans hD
          refine lv_bipush (v := (-2 : Int32)) C.1 C.2.1 dX9_say_39 (by decide) ?_
          obtain rfl := Option.some.inj hD
          exact x_iret C hw hr hk dX9_say_41
  · replace hD := (if_pos c2).symm.trans hD
    refine lv_iconst (v := (-1 : Int32)) C.1 C.2.1 dX9_say_11 (by decide) ?_
    obtain rfl := Option.some.inj hD
    exact x_iret C hw hr hk dX9_say_12
