
abbrev xQvS (X : XC) (ex : va_W) (z : XS) : Array Value → State → Outcome → State → Prop := va_Qv (fun (_ : Unit) => True) (fun _ t => ∃ h : Nat → Nat, xU (xseth X h) ex z t) (xA X)
abbrev xQiS (X : XC) (ex : va_W) (z : XS) (r : Int32) : Array Value → State → Outcome → State → Prop := va_Qi (fun r' (_ : Unit) => r' = r) (fun _ t => ∃ h : Nat → Nat, xU (xseth X h) ex z t) (xA X)
section XSIM
variable {p : Program} {l : Launch} {e : Env} {R : Room} {s : State} {m : MethodId} {args : Array Value} {below : List Frame} {meth : Method} {c : Code} {H : Heap} {locs : List Loc} {cells slots : Nat} {Q : State → Prop}
variable {cc : ByteArray} {pc nL : Nat} {ls : Array Slot} {rest st0 : List Value} {X : XC} {ex ex1 : va_W} {z z1 : XS} {own : String} {a : Array Value} {mc ms : Nat} {h : Nat → Nat}
theorem x_vretS (C : CallFix p m c cc nL s args gtbl own) (hw : xw (xseth X h) ex z s H locs) (hr : meth.sig.returnType = none) (hk : meth.locks = false) (hdg : decode cc pc = .ok (.return_, 1)) : W p l e R s m args below meth c H locs cells slots (MQ below (xQvS X ex z) args s cells slots (xA X)) (F0 m pc ls []) :=
  W.vret C.1 C.2.1 hr (fun t ht hW => ⟨⟨(), rfl, trivial, h, hw.to ht hW⟩, hw.2.2.F ht⟩) hw.2.2.2.2 hdg hk
theorem x_iretS (C : CallFix p m c cc nL s args gtbl own) (hw : xw (xseth X h) ex z s H locs) (hr : meth.sig.returnType = some .int) (hk : meth.locks = false) {v : Int32} (hdg : decode cc pc = .ok (.ireturn, 1)) : W p l e R s m args below meth c H locs cells slots (MQ below (xQiS X ex z v) args s cells slots (xA X)) (F0 m pc ls [.int v]) :=
  W.iret (v := v) C.1 C.2.1 hr (fun t ht hW => ⟨⟨v, (), rfl, rfl, h, hw.to ht hW⟩, hw.2.2.F ht⟩) hw.2.2.2.2 hdg hk
theorem xw_self (hw : xw X ex z s H locs) : xw (xseth X (fun j => X.2.2.1 10 j)) ex z s H locs := by
  rw [xseth_self]; exact hw
theorem x_goX (hw : xw X ex1 z s H locs) (hr : va_Run p l e R s m args below meth c H locs cells slots mc ms (F0 m pc ls st0) rest (xQv (xseth X h) ex z1 a) (xA X))
    (kk : ∀ (H1 : Heap) (locs1 : List Loc), xw (xseth X h) ex z1 s H1 locs1 → W p l e R s m args below meth c H1 locs1 (cells + mc) (slots + ms) Q (F0 m (pc + 3) ls rest)) : W p l e R s m args below meth c H locs cells slots Q (F0 m pc ls st0) := by
  refine va_callv hr hw.2.2 (fun q _ h => h) (fun q h => h) (fun u t H1 locs1 ht hvm hp hB hz hk hS => ?_)
  exact kk H1 locs1 ⟨hw.1, by rw [← ht]; exact hB.2, hS⟩
theorem x_goS (hw : xw X ex z s H locs) (hr : va_Run p l e R s m args below meth c H locs cells slots mc ms (F0 m pc ls st0) rest (xQvS X ex z1 a) (xA X))
    (kk : ∀ (h : Nat → Nat) (H1 : Heap) (locs1 : List Loc), xw (xseth X h) ex z1 s H1 locs1 → W p l e R s m args below meth c H1 locs1 (cells + mc) (slots + ms) Q (F0 m (pc + 3) ls rest)) : W p l e R s m args below meth c H locs cells slots Q (F0 m pc ls st0) := by
  refine va_callv hr hw.2.2 (fun q _ h => h) (fun q h => h) (fun u t H1 locs1 ht hvm hp hB hz hk hS => ?_)
  obtain ⟨h, hB⟩ := hB
  exact kk h H1 locs1 ⟨hw.1, by rw [← ht]; exact hB.2, hS⟩
theorem x_goSi (hw : xw X ex z s H locs) {r : Int32} (hr : va_Run p l e R s m args below meth c H locs cells slots mc ms (F0 m pc ls st0) rest (xQiS X ex z1 r a) (xA X))
    (kk : ∀ (h : Nat → Nat) (H1 : Heap) (locs1 : List Loc), xw (xseth X h) ex z1 s H1 locs1 → W p l e R s m args below meth c H1 locs1 (cells + mc) (slots + ms) Q (F0 m (pc + 3) ls (.int r :: rest))) : W p l e R s m args below meth c H locs cells slots Q (F0 m pc ls st0) := by
  refine va_calli hr hw.2.2 (fun q _ h => h) (fun q h => h) (fun r' u t H1 locs1 ht hvm hp hB hz hk hS => ?_)
  obtain ⟨h, hB⟩ := hB
  rw [hp]
  exact kk h H1 locs1 ⟨hw.1, by rw [← ht]; exact hB.2, hS⟩
/-- a new hedge, beside the world -/
abbrev xQr (X : XC) (ex : va_W) (z : XS) (ci : Nat) (u v : Int32) : Array Value → State → Outcome → State → Prop := va_Qr (fun (_ : Unit) => True) (fun _ b t => xU X (ex ++ [(b, .inr (ci, [.int u, .int v]))]) z t) (xA X)
theorem x_gor (hw : xw X ex z s H locs) {ci : Nat} {u v : Int32} (hr : va_Run p l e R s m args below meth c H locs cells slots mc ms (F0 m pc ls st0) rest (xQr X ex z1 ci u v a) (xA X))
    (kk : ∀ (b : Nat) (H1 : Heap) (locs1 : List Loc), xw X (ex ++ [(b, .inr (ci, [.int u, .int v]))]) z1 s H1 locs1 → W p l e R s m args below meth c H1 locs1 (cells + mc) (slots + ms) Q (F0 m (pc + 3) ls (.ref b :: rest))) : W p l e R s m args below meth c H locs cells slots Q (F0 m pc ls st0) := by
  refine va_callr hr hw.2.2 (fun q _ h => h) (fun q h => h) (fun u b t H1 locs1 ht hvm hp hB hz hk hS => ?_)
  exact kk b H1 locs1 ⟨hw.1, by rw [← ht]; exact hB.2, hS⟩
theorem x_rretS (C : CallFix p m c cc nL s args gtbl own) {b ci : Nat} {u v : Int32} (hw : uw X ((b, .inr (ci, [.int u, .int v])) :: (xcells X z ++ ex)) s H locs) (hr : meth.sig.returnType = some (.object "WordHedges$Hedge")) (hk : meth.locks = false) (hdg : decode cc pc = .ok (.areturn, 1)) : W p l e R s m args below meth c H locs cells slots (MQ below (xQr X ex z ci u v) args s cells slots (xA X)) (F0 m pc ls [.ref b]) := by
  have hw2 : uw X ((xcells X z ++ ex) ++ [(b, .inr (ci, [.int u, .int v]))]) s H locs := uw_front (cs := xcells X z ++ ex) (ws := [(b, .inr (ci, [.int u, .int v]))]) hw
  rw [List.append_assoc] at hw2
  have hw3 : xw X (ex ++ [(b, .inr (ci, [.int u, .int v]))]) z s H locs := hw2
  exact W.aret (v := .ref b) C.1 C.2.1 hr (Or.inl ⟨_, rfl⟩) (Or.inr ⟨_, rfl⟩) (fun t ht hW => ⟨⟨(), b, rfl, trivial, hw3.to ht hW⟩, hw.2.2.F ht⟩) hw.2.2.2.2 hdg hk
end XSIM


theorem in7_succ {x : Int32} (h : inB x 7 = true) : (x + 1).toNatClampNeg = x.toNatClampNeg + 1 := by
  obtain ⟨j, hj, rfl⟩ := vp_in_of (inB_in h) (by decide)
  rw [nI_1, nI_clamp (by omega), nI_clamp (by omega)]

theorem kw_830 : Cond.methodLink RX4 49 yX6_kindOf ∈ gtbl := gm1 215 rfl rfl
theorem kw_831 : Cond.classLink RX4 52 RX8 ∈ gtbl := gm1 216 rfl rfl
theorem kw_832 : Cond.instantiable RX8 2 ∈ gtbl := gm1 217 rfl rfl
theorem kw_833 : Cond.methodLink RX4 54 yX8_init ∈ gtbl := gm1 218 rfl rfl
theorem kw_834 : Cond.classLink RX4 57 RX1 ∈ gtbl := gm1 225 rfl rfl
theorem kw_835 : Cond.instantiable RX1 2 ∈ gtbl := gm1 226 rfl rfl
theorem kw_836 : Cond.code yX1_init cX1_init 3 none ∈ gtbl := gm1 229 rfl rfl
theorem kw_837 : Cond.instanceMethod yX1_init ∈ gtbl := gm1 228 rfl rfl
theorem nd_X1_init : (yX1_init).cls ≠ "java/lang/invoke/MethodHandle" ∧ (yX1_init).cls ≠ "java/lang/invoke/VarHandle" ∧ (parseMethodDescriptor (yX1_init).desc).map (fun d => d.parameters.length) = some 2 := by decide +kernel
theorem cI_X1_init : xc yX1_init cX1_init 3 none 2 ∧ Cond.instanceMethod yX1_init ∈ gtbl := ⟨⟨kw_836, kw_55, nd_X1_init⟩, kw_837⟩
theorem kw_840 : Cond.methodLink RX4 59 yX1_init ∈ gtbl := gm1 227 rfl rfl
theorem kw_841 : Cond.classLink RX4 60 RX2 ∈ gtbl := gm1 234 rfl rfl
theorem kw_842 : Cond.methodLink RX4 62 yX2_init ∈ gtbl := gm1 235 rfl rfl
abbrev rm_X4_seedling : Room := { frames := 4, cells := 1, slots := 2, locals := 78 }
def D_X4_seedling (x0 x1 x2 : Int32) (z : XS) : Option (Nat × XS) :=
  (D_X6_kindOf x1 z).bind fun q1 => some (if q1.1 = 1 then 7 else if q1.1 = 2 then 1 else 2, q1.2)
set_option maxHeartbeats 4000000 in
set_option maxRecDepth 100000 in
theorem c_X4_seedling (l : Launch) (X : XC) (ex : va_W) (x0 x1 x2 : Int32) (z : XS) (R0 : Nat × XS) (hD : D_X4_seedling x0 x1 x2 z = some R0) : xM l X ex yX4_seedling cX4_seedling 3 (some (.object "WordHedges$Hedge")) rm_X4_seedling [.int x0, .int x1, .int x2] z (xQr X ex R0.2 R0.1 x0 x2) := by
  refine x_ent (by decide) (Nat.le_of_ble_eq_true rfl) ?_
  intro p e s m below meth c ls C hr hk hw hl
  replace hl : lv_has ls 3 [(0, .int x0), (1, .int x1), (2, .int x2)] := hl
  unfold D_X4_seedling at hD
  obtain ⟨q1, hq1, hD⟩ := Option.bind_eq_some_iff.mp hD
  obtain rfl := Option.some.inj hD
  refine lv_iload_n C.1 C.2.1 dX4_seedling_0 rfl (lv_at hl 1 rfl) ?_
  refine x_goi hw (x_runS (As := [.int x1]) (rest := []) C hw cS_X6_kindOf kw_830 (c_X6_kindOf l X ex x1 z q1 hq1) ⟨(Nat.le_of_ble_eq_true rfl), (Nat.le_of_ble_eq_true rfl)⟩ rfl hl.1 rfl (Nat.le_of_ble_eq_true rfl) dX4_seedling_1 ⟨(Nat.le_of_ble_eq_true rfl), (Nat.le_of_ble_eq_true rfl)⟩) (fun H locs hw => ?_)
  by_cases c1 : q1.1 = 1
  · refine lv_lookup (off := 28) (tgt := 32) C.1 C.2.1 dX4_seedling_4 (by decide) (by rw [c1]; decide) (by decide) ?_
    rw [if_pos c1]
    refine u_new (ci := 7) (fs := [.int 0, .int 0]) (ws := xcells X q1.2 ++ ex) C hw rfl ixX8 tyX8 tyX8_ok kw_831 kw_832 kw_42 (by decide +kernel) (Nat.le_of_ble_eq_true rfl) (Nat.le_of_ble_eq_true rfl) dX4_seedling_32 (fun b H hw => ?_)
    replace hw : uw X ((b, .inr (7, [.int 0, .int 0])) :: (xcells X q1.2 ++ ex)) s H locs := uw_front hw
    refine lv_dup C.1 C.2.1 dX4_seedling_35 rfl ?_
    refine lv_iload_n C.1 C.2.1 dX4_seedling_36 rfl (lv_at hl 0 rfl) ?_
    refine lv_iload_n C.1 C.2.1 dX4_seedling_37 rfl (lv_at hl 2 rfl) ?_
    refine u_gov hw (u_runI (As := [.int x0, .int x2]) (rest := [.ref b]) (b := b) C hw cI_X8_init rfl kw_833 (i_X8_init_7 l X (xcells X q1.2 ++ ex) b x0 x2 0 0) ⟨(Nat.le_of_ble_eq_true rfl), (Nat.le_of_ble_eq_true rfl)⟩ rfl hl.1 rfl (Nat.le_of_ble_eq_true rfl) dX4_seedling_38 ⟨(Nat.le_of_ble_eq_true rfl), (Nat.le_of_ble_eq_true rfl)⟩) (fun u H locs hw => ?_)
    exact x_rretS C hw hr hk dX4_seedling_41
  · by_cases c2 : q1.1 = 2
    · refine lv_lookup (off := 38) (tgt := 42) C.1 C.2.1 dX4_seedling_4 (by decide) (by rw [c2]; decide) (by decide) ?_
      rw [if_neg c1, if_pos c2]
      refine u_new (ci := 1) (fs := [.int 0, .int 0]) (ws := xcells X q1.2 ++ ex) C hw rfl ixX1 tyX1 tyX1_ok kw_834 kw_835 kw_55 (by decide +kernel) (Nat.le_of_ble_eq_true rfl) (Nat.le_of_ble_eq_true rfl) dX4_seedling_42 (fun b H hw => ?_)
      replace hw : uw X ((b, .inr (1, [.int 0, .int 0])) :: (xcells X q1.2 ++ ex)) s H locs := uw_front hw
      refine lv_dup C.1 C.2.1 dX4_seedling_45 rfl ?_
      refine lv_iload_n C.1 C.2.1 dX4_seedling_46 rfl (lv_at hl 0 rfl) ?_
      refine lv_iload_n C.1 C.2.1 dX4_seedling_47 rfl (lv_at hl 2 rfl) ?_
      refine u_gov hw (u_runI (As := [.int x0, .int x2]) (rest := [.ref b]) (b := b) C hw cI_X1_init rfl kw_840 (i_X1_init_1 l X (xcells X q1.2 ++ ex) b x0 x2 0 0) ⟨(Nat.le_of_ble_eq_true rfl), (Nat.le_of_ble_eq_true rfl)⟩ rfl hl.1 rfl (Nat.le_of_ble_eq_true rfl) dX4_seedling_48 ⟨(Nat.le_of_ble_eq_true rfl), (Nat.le_of_ble_eq_true rfl)⟩) (fun u H locs hw => ?_)
      exact x_rretS C hw hr hk dX4_seedling_51
    · refine lv_lookup (off := 48) (tgt := 52) C.1 C.2.1 dX4_seedling_4 (by decide) (by simp [Op.lookupswitch.offset, sw_ne (n := 1) (1 : Int32) rfl c1, sw_ne (n := 2) (2 : Int32) rfl c2]) (by decide) ?_
      rw [if_neg c1, if_neg c2]
      refine u_new (ci := 2) (fs := [.int 0, .int 0]) (ws := xcells X q1.2 ++ ex) C hw rfl ixX2 tyX2 tyX2_ok kw_841 kw_787 kw_60 (by decide +kernel) (Nat.le_of_ble_eq_true rfl) (Nat.le_of_ble_eq_true rfl) dX4_seedling_52 (fun b H hw => ?_)
      replace hw : uw X ((b, .inr (2, [.int 0, .int 0])) :: (xcells X q1.2 ++ ex)) s H locs := uw_front hw
      refine lv_dup C.1 C.2.1 dX4_seedling_55 rfl ?_
      refine lv_iload_n C.1 C.2.1 dX4_seedling_56 rfl (lv_at hl 0 rfl) ?_
      refine lv_iload_n C.1 C.2.1 dX4_seedling_57 rfl (lv_at hl 2 rfl) ?_
      refine u_gov hw (u_runI (As := [.int x0, .int x2]) (rest := [.ref b]) (b := b) C hw cI_X2_init rfl kw_842 (i_X2_init_2 l X (xcells X q1.2 ++ ex) b x0 x2 0 0) ⟨(Nat.le_of_ble_eq_true rfl), (Nat.le_of_ble_eq_true rfl)⟩ rfl hl.1 rfl (Nat.le_of_ble_eq_true rfl) dX4_seedling_58 ⟨(Nat.le_of_ble_eq_true rfl), (Nat.le_of_ble_eq_true rfl)⟩) (fun u H locs hw => ?_)
      exact x_rretS C hw hr hk dX4_seedling_61
theorem kw_843 : Cond.methodLink RX0 32 yJ7_fill_53178 ∈ gtbl := gm2 0 rfl rfl
theorem kw_844 : Cond.fieldLink RX0 38 "WordHedges$Hedge" "high" "I" ∈ gtbl := gm1 44 rfl rfl
abbrev rm_X0_plant : Room := { frames := 4, cells := 0, slots := 0, locals := 91 }
def B_X0_plant_16 (j0 : Nat) (k16_ : Int32 → XS → Option (XS)) (y2 : Int32) (z : XS) : Option (XS) :=
  (if (1 : Int32) < y2 then some z else gd (inB y2 2) ((D_J7_fill_53178 12 (2 * j0 + y2.toNatClampNeg) (0 : Int32) z).bind fun q4 => (gd (inB y2 2) (gd (isH q4 (j0)) (gd (inB (0 : Int32) 31) ((some (pA q4 14 (2 * j0 + y2.toNatClampNeg) (0 : Int32).toNatClampNeg ((12 : Int32) * (gS q4 10 1 (j0))))).bind fun z8 => ((D_X0_growFrom j0 y2 (0 : Int32) z8).bind fun q9 => (k16_ (y2 + 1) q9))))))))
def L_X0_plant_16 (j0 : Nat) : Nat → Int32 → XS → Option (XS)
  | 0 => fun _ _ => none
  | n + 1 => B_X0_plant_16 j0  (L_X0_plant_16 j0  n)
set_option maxHeartbeats 4000000 in
set_option maxRecDepth 100000 in
theorem w_X0_plant_16 {p : Program} {l : Launch} {e : Env} {s : State} {m : MethodId} {below : List Frame} {meth : Method} {c : Code} {X : XC} {ex : va_W} {AV : Array Value} (j0 : Nat) (hj0 : j0 < 6) (C : CallFix p m c cX0_plant 3 s (AV) gtbl RX0) (hr : meth.sig.returnType = none) (hk : meth.locks = false) (R0 : XS)  : ∀ (n : Nat), ∀ (y2 : Int32) (z : XS), L_X0_plant_16 j0  n y2 z = some R0 → ∀ (H : Heap) (locs : List Loc), xw X ex z s H locs → ∀ (ls : Array Slot), lv_has ls 3 [(0, .ref (X.2.2.1 9 (j0))), (1, .ref (X.2.2.1 10 (j0))), (2, .int (y2))] → W p l e rm_X0_plant s m (AV) below meth c H locs 0 0 (MQ below (xQv X ex R0) (AV) s 0 0 (xA X)) (F0 m 16 ls []) := by
  intro n
  induction n with
  | zero =>
    intro y2 z  hD
    cases hD
  | succ n ih =>
    intro y2 z  hD H locs hw ls hl
    replace hD : B_X0_plant_16 j0  (L_X0_plant_16 j0  n) y2 z = some R0 := hD
    unfold B_X0_plant_16 at hD
    refine lv_iload_n C.1 C.2.1 dX0_plant_16 rfl (lv_at hl 2 rfl) ?_
    refine lv_iconst (v := (1 : Int32)) C.1 C.2.1 dX0_plant_17 (by decide) ?_
    refine lv_icmp_gt (tgt := 58) C.1 C.2.1 dX0_plant_18 (by decide) (fun c2 => ?_) (fun c2 => ?_)
    · replace hD := (if_pos c2).symm.trans hD
      obtain rfl := Option.some.inj hD
      exact x_vret C hw hr hk dX0_plant_58
    · replace hD := (if_neg c2).symm.trans hD
      refine lv_aload_n C.1 C.2.1 dX0_plant_21 rfl (lv_at hl 0 rfl) ?_
      refine gf_X0_1 C hw (j := j0) hj0 kw_73 dX0_plant_22 ?_
      refine lv_iload_n C.1 C.2.1 dX0_plant_25 rfl (lv_at hl 2 rfl) ?_
      obtain ⟨g3, hD⟩ := gd_some hD
      refine x_aald (k := 11) (j := j0) (f := fun i => X.2.2.1 12 (2 * j0 + i)) C hw hj0 1 rfl rfl rfl (inB_in g3) (a := X.2.2.1 12 (2 * j0 + y2.toNatClampNeg)) rfl dX0_plant_26 ?_
      refine lv_iconst (v := (0 : Int32)) C.1 C.2.1 dX0_plant_27 (by decide) ?_
      obtain ⟨q4, hq4, hD⟩ := Option.bind_eq_some_iff.mp hD
      refine x_gov hw (x_runS (As := [.ref (X.2.2.1 12 (2 * j0 + y2.toNatClampNeg)), .int ((0 : Int32))]) (rest := []) C hw cS_J7_fill_53178 kw_843 (c_J7_fill_53178 l X ex 12 (2 * j0 + y2.toNatClampNeg) (0 : Int32) rfl (x_lt2 hj0 (inB_lt g3)) z q4 hq4) ⟨Nat.le_of_ble_eq_true rfl, Nat.le_of_ble_eq_true rfl⟩ rfl hl.1 rfl (Nat.le_of_ble_eq_true rfl) dX0_plant_28 ⟨Nat.le_of_ble_eq_true rfl, Nat.le_of_ble_eq_true rfl⟩) (fun H locs hw => ?_)
      refine lv_aload_n C.1 C.2.1 dX0_plant_31 rfl (lv_at hl 0 rfl) ?_
      refine gf_X0_2 C hw (j := j0) hj0 kw_75 dX0_plant_32 ?_
      refine lv_iload_n C.1 C.2.1 dX0_plant_35 rfl (lv_at hl 2 rfl) ?_
      obtain ⟨g5, hD⟩ := gd_some hD
      refine x_aald (k := 13) (j := j0) (f := fun i => X.2.2.1 14 (2 * j0 + i)) C hw hj0 1 rfl rfl rfl (inB_in g5) (a := X.2.2.1 14 (2 * j0 + y2.toNatClampNeg)) rfl dX0_plant_36 ?_
      refine lv_iconst (v := (0 : Int32)) C.1 C.2.1 dX0_plant_37 (by decide) ?_
      refine lv_bipush (v := (12 : Int32)) C.1 C.2.1 dX0_plant_38 (by decide) ?_
      refine lv_aload_n C.1 C.2.1 dX0_plant_40 rfl (lv_at hl 1 rfl) ?_
      obtain ⟨g6, hD⟩ := gd_some hD
      refine x_getH (j := j0) C hw hj0 g6 1 (by decide) kw_844 dX0_plant_41 ?_
      refine lv_imul C.1 C.2.1 dX0_plant_44 ?_
      obtain ⟨g7, hD⟩ := gd_some hD
      obtain ⟨z8, hz8, hD⟩ := Option.bind_eq_some_iff.mp hD
      refine x_iast (k := 14) (j := 2 * j0 + y2.toNatClampNeg) C hw rfl (x_lt2 hj0 (inB_lt g5)) (inB_in g7) dX0_plant_45 (fun H locs hw => ?_)
      replace hw := xw_eq hz8 hw
      refine lv_aload_n C.1 C.2.1 dX0_plant_46 rfl (lv_at hl 0 rfl) ?_
      refine lv_iload_n C.1 C.2.1 dX0_plant_47 rfl (lv_at hl 2 rfl) ?_
      refine lv_iconst (v := (0 : Int32)) C.1 C.2.1 dX0_plant_48 (by decide) ?_
      obtain ⟨q9, hq9, hD⟩ := Option.bind_eq_some_iff.mp hD
      refine x_gov hw (x_runV (As := [.int (y2), .int ((0 : Int32))]) (rest := []) (k := 9) (j := j0) C hw hj0 rfl rfl cV_X0_growFrom kw_125 (c_X0_growFrom l X ex j0 y2 (0 : Int32) hj0 z8 q9 hq9) ⟨Nat.le_of_ble_eq_true rfl, Nat.le_of_ble_eq_true rfl⟩ rfl hl.1 rfl (Nat.le_of_ble_eq_true rfl) dX0_plant_49 ⟨Nat.le_of_ble_eq_true rfl, Nat.le_of_ble_eq_true rfl⟩) (fun H locs hw => ?_)
      refine lv_iinc (v := y2 + 1) (lv' := [(2, .int (y2 + 1)), (0, .ref (X.2.2.1 9 (j0))), (1, .ref (X.2.2.1 10 (j0)))]) C.1 C.2.1 dX0_plant_52 hl (k := 2) rfl rfl (by decide) rfl (fun ls hl => ?_)
      refine lv_goto (tgt := 16) C.1 C.2.1 dX0_plant_55 (by decide) ?_
      exact ih (y2 + 1) q9  hD _ _ hw _ (lv_sub hl [1, 2, 0] rfl)
def J_X0_plant_5 (j0 : Nat)  (z : XS) : Option (XS) :=
  (D_J7_fill_53178 15 j0 (-9 : Int32) z).bind fun q1 => (L_X0_plant_16 j0  64 (0 : Int32) q1)
set_option maxHeartbeats 4000000 in
set_option maxRecDepth 100000 in
theorem w_X0_plant_5 {p : Program} {l : Launch} {e : Env} {s : State} {m : MethodId} {below : List Frame} {meth : Method} {c : Code} {X : XC} {ex : va_W} {AV : Array Value} (j0 : Nat) (hj0 : j0 < 6) (C : CallFix p m c cX0_plant 3 s (AV) gtbl RX0) (hr : meth.sig.returnType = none) (hk : meth.locks = false) (R0 : XS)  : ∀  (z : XS), J_X0_plant_5 j0   z = some R0 → ∀ (H : Heap) (locs : List Loc), xw X ex z s H locs → ∀ (ls : Array Slot), lv_has ls 3 [(0, .ref (X.2.2.1 9 (j0))), (1, .ref (X.2.2.1 10 (j0)))] → W p l e rm_X0_plant s m (AV) below meth c H locs 0 0 (MQ below (xQv X ex R0) (AV) s 0 0 (xA X)) (F0 m 5 ls []) := by
  intro  z  hD H locs hw ls hl
  unfold J_X0_plant_5 at hD
  refine lv_aload_n C.1 C.2.1 dX0_plant_5 rfl (lv_at hl 0 rfl) ?_
  refine gf_X0_3 C hw (j := j0) hj0 kw_71 dX0_plant_6 ?_
  refine lv_bipush (v := (-9 : Int32)) C.1 C.2.1 dX0_plant_9 (by decide) ?_
  obtain ⟨q1, hq1, hD⟩ := Option.bind_eq_some_iff.mp hD
  refine x_gov hw (x_runS (As := [.ref (X.2.2.1 15 (j0)), .int ((-9 : Int32))]) (rest := []) C hw cS_J7_fill_53178 kw_843 (c_J7_fill_53178 l X ex 15 j0 (-9 : Int32) rfl hj0 z q1 hq1) ⟨Nat.le_of_ble_eq_true rfl, Nat.le_of_ble_eq_true rfl⟩ rfl hl.1 rfl (Nat.le_of_ble_eq_true rfl) dX0_plant_11 ⟨Nat.le_of_ble_eq_true rfl, Nat.le_of_ble_eq_true rfl⟩) (fun H locs hw => ?_)
  refine lv_iconst (v := (0 : Int32)) C.1 C.2.1 dX0_plant_14 (by decide) ?_
  refine lv_istore_n (lv' := [(2, .int ((0 : Int32))), (0, .ref (X.2.2.1 9 (j0))), (1, .ref (X.2.2.1 10 (j0)))]) C.1 C.2.1 dX0_plant_15 rfl hl (by decide) rfl (fun ls hl => ?_)
  exact w_X0_plant_16 j0 hj0 C hr hk R0   64 (0 : Int32) q1  hD _ _ hw _ (lv_sub hl [1, 2, 0] rfl)
def D_X0_plant (j0 ci : Nat) (u v : Int32) (z : XS) : Option XS :=
  (some (pH z j0 ci u v)).bind fun z1 => J_X0_plant_5 j0 z1
set_option maxHeartbeats 4000000 in
set_option maxRecDepth 100000 in
theorem c_X0_plant (l : Launch) (X : XC) (ex : va_W) (j0 : Nat) (hj0 : j0 < 6) (a ci : Nat) (u v : Int32) (z : XS) (R0 : XS) (hD : D_X0_plant j0 ci u v z = some R0) : xM l X (ex ++ [(a, .inr (ci, [.int u, .int v]))]) yX0_plant cX0_plant 3 none rm_X0_plant [.ref (X.2.2.1 9 j0), .ref a] z (xQv (xseth X (hset X j0 a)) ex R0) := by
  refine x_ent (by decide) (Nat.le_of_ble_eq_true rfl) ?_
  intro p e s m below meth c ls C hr hk hw hl
  replace hl : lv_has ls 3 [(0, .ref (X.2.2.1 9 j0)), (1, .ref a)] := hl
  unfold D_X0_plant at hD
  obtain ⟨z1, hz1, hD⟩ := Option.bind_eq_some_iff.mp hD
  refine lv_aload_n C.1 C.2.1 dX0_plant_0 rfl (lv_at hl 0 rfl) ?_
  refine lv_aload_n C.1 C.2.1 dX0_plant_1 rfl (lv_at hl 1 rfl) ?_
  refine x_putH C hw hj0 kw_47 dX0_plant_2 (fun H locs hw => ?_)
  replace hw := xw_eq hz1 hw
  have ea : (xseth X (hset X j0 a)).2.2.1 10 j0 = a := (show hset X j0 a j0 = a from if_pos rfl)
  have hl2 : lv_has ls 3 [(0, .ref ((xseth X (hset X j0 a)).2.2.1 9 j0)), (1, .ref ((xseth X (hset X j0 a)).2.2.1 10 j0))] := by
    rw [ea]
    exact hl
  exact w_X0_plant_5 (X := xseth X (hset X j0 a)) j0 hj0 C hr hk R0 z1 hD H locs hw ls hl2
theorem kw_845 : Cond.code yX6_gardensOf cX6_gardensOf 1 (some .int) ∈ gtbl := gm1 207 rfl rfl
theorem nd_X6_gardensOf : (yX6_gardensOf).cls ≠ "java/lang/invoke/MethodHandle" ∧ (yX6_gardensOf).cls ≠ "java/lang/invoke/VarHandle" ∧ (parseMethodDescriptor (yX6_gardensOf).desc).map (fun d => d.parameters.length) = some 1 := by decide +kernel
theorem kw_847 : Cond.static yX6_gardensOf ∈ gtbl := gm1 206 rfl rfl
theorem cS_X6_gardensOf : xcS yX6_gardensOf cX6_gardensOf 1 (some .int) 1 := ⟨⟨kw_845, kw_13, nd_X6_gardensOf⟩, kw_847⟩
theorem kw_849 : Cond.methodLink RX4 26 yX6_gardensOf ∈ gtbl := gm1 205 rfl rfl
theorem pf_X4_2 {p : Program} {l : Launch} {e : Env} {R : Room} {s : State} {m : MethodId} {args : Array Value} {below : List Frame} {meth : Method} {c : Code} {H : Heap} {locs : List Loc} {cells slots : Nat} {Q : State → Prop} {cc : ByteArray} {pc nL index : Nat} {ls : Array Slot} {rest : List Value} {X : XC} {ex : va_W} {z : XS} {own : String} (C : CallFix p m c cc nL s args gtbl own) (hw : xw X ex z s H locs) {v : Int32} (hlink : Cond.fieldLink own index (TX4 2).1 (TX4 2).2.1 (TX4 2).2.2.1 ∈ gtbl) (hdg : decode cc pc = .ok (.putfield index, 3)) (kk : ∀ (H1 : Heap) (locs1 : List Loc), xw X ex (pS z 1 2 0 v) s H1 locs1 → W p l e R s m args below meth c H1 locs1 cells slots Q (F0 m (pc + 3) ls rest)) : W p l e R s m args below meth c H locs cells slots Q (F0 m pc ls (.int v :: .ref (X.2.2.1 1 0) :: rest)) :=
  x_put (k := 1) (j := 0) C hw (Nat.le_of_ble_eq_true rfl) 2 (v := v) rfl rfl rfl ixX4 tyX4 tyX4_ok nmX4 (by decide) hlink rfl (by decide +kernel) (Nat.le_of_ble_eq_true rfl) hdg kk
theorem kw_851 : Cond.code yX4_seedling cX4_seedling 3 (some (.object "WordHedges$Hedge")) ∈ gtbl := gm1 214 rfl rfl
theorem nd_X4_seedling : (yX4_seedling).cls ≠ "java/lang/invoke/MethodHandle" ∧ (yX4_seedling).cls ≠ "java/lang/invoke/VarHandle" ∧ (parseMethodDescriptor (yX4_seedling).desc).map (fun d => d.parameters.length) = some 3 := by decide +kernel
theorem kw_853 : Cond.static yX4_seedling ∈ gtbl := gm1 213 rfl rfl
theorem cS_X4_seedling : xcS yX4_seedling cX4_seedling 3 (some (.object "WordHedges$Hedge")) 3 := ⟨⟨kw_851, kw_89, nd_X4_seedling⟩, kw_853⟩
theorem kw_855 : Cond.methodLink RX4 41 yX4_seedling ∈ gtbl := gm1 212 rfl rfl
theorem kw_856 : Cond.code yX0_plant cX0_plant 3 none ∈ gtbl := gm1 239 rfl rfl
theorem nd_X0_plant : (yX0_plant).cls ≠ "java/lang/invoke/MethodHandle" ∧ (yX0_plant).cls ≠ "java/lang/invoke/VarHandle" ∧ (parseMethodDescriptor (yX0_plant).desc).map (fun d => d.parameters.length) = some 1 := by decide +kernel
theorem kw_858 : Cond.instanceMethod yX0_plant ∈ gtbl := gm1 237 rfl rfl
theorem kw_859 : Cond.selects RX0 yX0_plant yX0_plant ∈ gtbl := gm1 238 rfl rfl
theorem cV_X0_plant : xcV yX0_plant cX0_plant 3 none 1 := ⟨⟨kw_856, kw_78, nd_X0_plant⟩, kw_858, kw_859⟩
theorem kw_861 : Cond.methodLink RX4 45 yX0_plant ∈ gtbl := gm1 236 rfl rfl
abbrev rm_X4_plant : Room := { frames := 5, cells := 6, slots := 12, locals := 113 }
def B_X4_plant_11 (x1 : Nat) (x2 : Int32) (x3 : Int32) (k11_ : Int32 → XS → Option (XS)) (y4 : Int32) (z : XS) : Option (XS) :=
  (if gS z 1 2 0 ≤ y4 then some z else gd (inB ((x2 + (1 : Int32)) + ((3 : Int32) * y4)) 60) (gd (inB y4 7) ((some (pA z 7 0 y4.toNatClampNeg ((gA z 6 x1 ((x2 + (1 : Int32)) + ((3 : Int32) * y4)).toNatClampNeg) - (48 : Int32)))).bind fun z6 => ((D_X4_isHedge y4 z6).bind fun q7 => ((if q7.1 = 0 then k11_ (y4 + 1) q7.2 else gd (inB y4 6) (gd (inB (((x2 + (1 : Int32)) + ((3 : Int32) * y4)) + (1 : Int32)) 60) (gd (inB (((x2 + (1 : Int32)) + ((3 : Int32) * y4)) + (2 : Int32)) 60) ((D_X4_seedling y4 (gA q7.2 6 x1 (((x2 + (1 : Int32)) + ((3 : Int32) * y4)) + (1 : Int32)).toNatClampNeg) ((gA q7.2 6 x1 (((x2 + (1 : Int32)) + ((3 : Int32) * y4)) + (2 : Int32)).toNatClampNeg) - (48 : Int32)) q7.2).bind fun q12 => ((D_X0_plant y4.toNatClampNeg q12.1 y4 ((gA q7.2 6 x1 (((x2 + (1 : Int32)) + ((3 : Int32) * y4)) + (2 : Int32)).toNatClampNeg) - (48 : Int32)) q12.2).bind fun z13 => (k11_ (y4 + 1) z13)))))))))))
def L_X4_plant_11 (x1 : Nat) (x2 : Int32) (x3 : Int32) : Nat → Int32 → XS → Option (XS)
  | 0 => fun _ _ => none
  | n + 1 => B_X4_plant_11 x1 x2 x3  (L_X4_plant_11 x1 x2 x3  n)
set_option maxHeartbeats 4000000 in
set_option maxRecDepth 100000 in
theorem w_X4_plant_11 {p : Program} {l : Launch} {e : Env} {s : State} {m : MethodId} {below : List Frame} {meth : Method} {c : Code} {X0 : XC} {ex : va_W} {AV : Array Value} (x1 : Nat) (x2 : Int32) (x3 : Int32) (hx1 : x1 < 4) (C : CallFix p m c cX4_plant 6 s (AV) gtbl RX4) (hr : meth.sig.returnType = none) (hk : meth.locks = false) (R0 : XS)  : ∀ (n : Nat), ∀ (h : Nat → Nat) (kc : Nat) (y4 : Int32) (z : XS), L_X4_plant_11 x1 x2 x3  n y4 z = some R0 → kc ≤ 6 → kc ≤ y4.toNatClampNeg → ∀ (H : Heap) (locs : List Loc), xw (xseth X0 h) ex z s H locs → ∀ (ls : Array Slot), lv_has ls 6 [(0, .ref (X0.2.2.1 1 (0))), (1, .ref (X0.2.2.1 5 (x1))), (2, .int (x2)), (4, .int (y4))] → W p l e rm_X4_plant s m AV below meth c H locs kc (2 * kc) (MQ below (xQvS X0 ex R0) AV s 6 12 (xA X0)) (F0 m 11 ls []) := by
  intro n
  induction n with
  | zero =>
    intro h kc y4 z hD
    cases hD
  | succ n ih =>
    intro h kc y4 z hD hkc6 hkcy H locs hw ls hl
    replace hD : B_X4_plant_11 x1 x2 x3  (L_X4_plant_11 x1 x2 x3  n) y4 z = some R0 := hD
    unfold B_X4_plant_11 at hD
    refine lv_iload C.1 C.2.1 dX4_plant_11 (lv_at hl 3 rfl) ?_
    refine lv_aload_n C.1 C.2.1 dX4_plant_13 rfl (lv_at hl 0 rfl) ?_
    refine gf_X4_2 (X := (xseth X0 h)) C hw kw_39 dX4_plant_14 ?_
    refine lv_icmp_ge (tgt := 98) C.1 C.2.1 dX4_plant_17 (by decide) (fun c3 => ?_) (fun c3 => ?_)
    · replace hD := (if_pos c3).symm.trans hD
      obtain rfl := Option.some.inj hD
      refine W.widen (k := 6) (n := 12) (by omega) (by omega) ?_
      exact x_vretS C hw hr hk dX4_plant_98
    · replace hD := (if_neg c3).symm.trans hD
      refine lv_iload_n C.1 C.2.1 dX4_plant_20 rfl (lv_at hl 2 rfl) ?_
      refine lv_iconst (v := (1 : Int32)) C.1 C.2.1 dX4_plant_21 (by decide) ?_
      refine lv_iadd C.1 C.2.1 dX4_plant_22 ?_
      refine lv_iconst (v := (3 : Int32)) C.1 C.2.1 dX4_plant_23 (by decide) ?_
      refine lv_iload C.1 C.2.1 dX4_plant_24 (lv_at hl 3 rfl) ?_
      refine lv_imul C.1 C.2.1 dX4_plant_26 ?_
      refine lv_iadd C.1 C.2.1 dX4_plant_27 ?_
      refine lv_istore (lv' := [(5, .int ((x2 + (1 : Int32)) + ((3 : Int32) * y4))), (0, .ref (X0.2.2.1 1 (0))), (1, .ref (X0.2.2.1 5 (x1))), (2, .int (x2)), (4, .int (y4))]) C.1 C.2.1 dX4_plant_28 hl (by decide) rfl (fun ls hl => ?_)
      refine lv_aload_n C.1 C.2.1 dX4_plant_30 rfl (lv_at hl 1 rfl) ?_
      refine gf_X4_0 (X := (xseth X0 h)) C hw kw_209 dX4_plant_31 ?_
      refine lv_iload C.1 C.2.1 dX4_plant_34 (lv_at hl 4 rfl) ?_
      refine lv_aload_n C.1 C.2.1 dX4_plant_36 rfl (lv_at hl 2 rfl) ?_
      refine gNf_X5_0 (X := (xseth X0 h)) C hw (j := x1) hx1 (List.mem_of_getElem? (i := 12) rfl) dX4_plant_37 ?_
      refine lv_iload C.1 C.2.1 dX4_plant_40 (lv_at hl 0 rfl) ?_
      obtain ⟨g4, hD⟩ := gd_some hD
      refine x_iald (X := (xseth X0 h)) (k := 6) (j := x1) C hw rfl hx1 (inB_in g4) dX4_plant_42 ?_
      refine lv_bipush (v := (48 : Int32)) C.1 C.2.1 dX4_plant_43 (by decide) ?_
      refine lv_isub C.1 C.2.1 dX4_plant_45 ?_
      obtain ⟨g5, hD⟩ := gd_some hD
      obtain ⟨z6, hz6, hD⟩ := Option.bind_eq_some_iff.mp hD
      refine x_iast (X := (xseth X0 h)) (k := 7) (j := 0) C hw rfl (Nat.le_of_ble_eq_true rfl) (inB_in g5) dX4_plant_46 (fun H locs hw => ?_)
      replace hw := xw_eq hz6 hw
      refine lv_aload_n C.1 C.2.1 dX4_plant_47 rfl (lv_at hl 1 rfl) ?_
      refine lv_iload C.1 C.2.1 dX4_plant_48 (lv_at hl 4 rfl) ?_
      obtain ⟨q7, hq7, hD⟩ := Option.bind_eq_some_iff.mp hD
      refine x_goi hw (x_runV (X := (xseth X0 h)) (As := [.int (y4)]) (rest := []) (k := 1) (j := 0) C hw (Nat.le_of_ble_eq_true rfl) rfl rfl cV_X4_isHedge kw_187 (c_X4_isHedge l (xseth X0 h) ex y4  z6 q7 hq7) ⟨Nat.le_of_ble_eq_true rfl, Nat.le_of_ble_eq_true rfl⟩ rfl hl.1 rfl (Nat.le_of_ble_eq_true rfl) dX4_plant_50 ⟨(show kc + 0 ≤ 6 by omega), (show 2 * kc + 0 ≤ 12 by omega)⟩) (fun H locs hw => ?_)
      refine lv_if_eq (tgt := 92) C.1 C.2.1 dX4_plant_53 (by decide) (fun c8 => ?_) (fun c8 => ?_)
      · replace hD := (if_pos c8).symm.trans hD
        refine lv_iinc (v := y4 + 1) (lv' := [(4, .int (y4 + 1)), (5, .int ((x2 + (1 : Int32)) + ((3 : Int32) * y4))), (0, .ref (X0.2.2.1 1 (0))), (1, .ref (X0.2.2.1 5 (x1))), (2, .int (x2))]) C.1 C.2.1 dX4_plant_92 hl (k := 4) rfl rfl (by decide) rfl (fun ls hl => ?_)
        refine lv_goto (tgt := 11) C.1 C.2.1 dX4_plant_95 (by decide) ?_
        exact ih _ kc (y4 + 1) q7.2  hD (by omega) (by rw [in7_succ g5]; omega) _ _ hw _ (lv_sub hl [2, 3, 4, 0] rfl)
      · replace hD := (if_neg c8).symm.trans hD
        refine lv_aload_n C.1 C.2.1 dX4_plant_56 rfl (lv_at hl 1 rfl) ?_
        refine gf_X4_1 (X := (xseth X0 h)) C hw kw_184 dX4_plant_57 ?_
        refine lv_iload C.1 C.2.1 dX4_plant_60 (lv_at hl 4 rfl) ?_
        obtain ⟨g9, hD⟩ := gd_some hD
        refine x_aald (X := (xseth X0 h)) (k := 8) (j := 0) (f := fun i => X0.2.2.1 9 i) C hw (Nat.le_of_ble_eq_true rfl) 2 rfl rfl rfl (inB_in g9) (a := X0.2.2.1 9 (y4.toNatClampNeg)) rfl dX4_plant_62 ?_
        refine lv_iload C.1 C.2.1 dX4_plant_63 (lv_at hl 4 rfl) ?_
        refine lv_aload_n C.1 C.2.1 dX4_plant_65 rfl (lv_at hl 2 rfl) ?_
        refine gNf_X5_0 (X := (xseth X0 h)) C hw (j := x1) hx1 (List.mem_of_getElem? (i := 12) rfl) dX4_plant_66 ?_
        refine lv_iload C.1 C.2.1 dX4_plant_69 (lv_at hl 0 rfl) ?_
        refine lv_iconst (v := (1 : Int32)) C.1 C.2.1 dX4_plant_71 (by decide) ?_
        refine lv_iadd C.1 C.2.1 dX4_plant_72 ?_
        obtain ⟨g10, hD⟩ := gd_some hD
        refine x_iald (X := (xseth X0 h)) (k := 6) (j := x1) C hw rfl hx1 (inB_in g10) dX4_plant_73 ?_
        refine lv_aload_n C.1 C.2.1 dX4_plant_74 rfl (lv_at hl 2 rfl) ?_
        refine gNf_X5_0 (X := (xseth X0 h)) C hw (j := x1) hx1 (List.mem_of_getElem? (i := 12) rfl) dX4_plant_75 ?_
        refine lv_iload C.1 C.2.1 dX4_plant_78 (lv_at hl 0 rfl) ?_
        refine lv_iconst (v := (2 : Int32)) C.1 C.2.1 dX4_plant_80 (by decide) ?_
        refine lv_iadd C.1 C.2.1 dX4_plant_81 ?_
        obtain ⟨g11, hD⟩ := gd_some hD
        refine x_iald (X := (xseth X0 h)) (k := 6) (j := x1) C hw rfl hx1 (inB_in g11) dX4_plant_82 ?_
        refine lv_bipush (v := (48 : Int32)) C.1 C.2.1 dX4_plant_83 (by decide) ?_
        refine lv_isub C.1 C.2.1 dX4_plant_85 ?_
        obtain ⟨q12, hq12, hD⟩ := Option.bind_eq_some_iff.mp hD
        have hkc : kc + 1 ≤ 6 := by have := inB_lt g9; omega
        refine x_gor hw (x_runS (X := (xseth X0 h)) (As := [.int (y4), .int (gA q7.2 6 x1 (((x2 + (1 : Int32)) + ((3 : Int32) * y4)) + (1 : Int32)).toNatClampNeg), .int ((gA q7.2 6 x1 (((x2 + (1 : Int32)) + ((3 : Int32) * y4)) + (2 : Int32)).toNatClampNeg) - (48 : Int32))]) (rest := [.ref (X0.2.2.1 9 (y4.toNatClampNeg))]) C hw cS_X4_seedling kw_855 (c_X4_seedling l (xseth X0 h) ex y4 (gA q7.2 6 x1 (((x2 + (1 : Int32)) + ((3 : Int32) * y4)) + (1 : Int32)).toNatClampNeg) ((gA q7.2 6 x1 (((x2 + (1 : Int32)) + ((3 : Int32) * y4)) + (2 : Int32)).toNatClampNeg) - (48 : Int32)) q7.2 q12 hq12) ⟨(Nat.le_of_ble_eq_true rfl), (Nat.le_of_ble_eq_true rfl)⟩ rfl hl.1 rfl (Nat.le_of_ble_eq_true rfl) dX4_plant_86 ⟨hkc, (show 2 * kc + 2 ≤ 12 by omega)⟩) (fun ad H locs hw => ?_)
        obtain ⟨z13, hz13, hD⟩ := Option.bind_eq_some_iff.mp hD
        refine x_goX hw (x_runV (X := (xseth X0 h)) (As := [.ref ad]) (rest := []) (k := 9) (j := y4.toNatClampNeg) C hw (inB_lt g9) rfl rfl cV_X0_plant kw_861 (c_X0_plant l (xseth X0 h) ex y4.toNatClampNeg (inB_lt g9) ad q12.1 y4 ((gA q7.2 6 x1 (((x2 + (1 : Int32)) + ((3 : Int32) * y4)) + (2 : Int32)).toNatClampNeg) - (48 : Int32)) q12.2 z13 hz13) ⟨(Nat.le_of_ble_eq_true rfl), (Nat.le_of_ble_eq_true rfl)⟩ rfl hl.1 rfl (Nat.le_of_ble_eq_true rfl) dX4_plant_89 ⟨(show kc + 1 + 0 ≤ 6 by omega), (show 2 * kc + 2 + 0 ≤ 12 by omega)⟩) (fun H locs hw => ?_)
        rw [xseth_two] at hw
        refine lv_iinc (v := y4 + 1) (lv' := [(4, .int (y4 + 1)), (5, .int ((x2 + (1 : Int32)) + ((3 : Int32) * y4))), (0, .ref (X0.2.2.1 1 (0))), (1, .ref (X0.2.2.1 5 (x1))), (2, .int (x2))]) C.1 C.2.1 dX4_plant_92 hl (k := 4) rfl rfl (by decide) rfl (fun ls hl => ?_)
        refine lv_goto (tgt := 11) C.1 C.2.1 dX4_plant_95 (by decide) ?_
        exact ih _ (kc + 1) (y4 + 1) z13  hD (by omega) (by rw [in7_succ g5]; omega) _ _ hw _ (lv_sub hl [2, 3, 4, 0] rfl)
def D_X4_plant (x1 : Nat) (x2 : Int32) (x3 : Int32) (z : XS) : Option XS :=
  (D_X6_gardensOf x3 z).bind fun q1 => ((some (pS q1.2 1 2 0 q1.1)).bind fun z2 => (L_X4_plant_11 x1 x2 x3  64 (0 : Int32) z2))
set_option maxHeartbeats 4000000 in
set_option maxRecDepth 100000 in
theorem c_X4_plant (l : Launch) (X0 : XC) (ex : va_W) (x1 : Nat) (x2 : Int32) (x3 : Int32) (hx1 : x1 < 4) (z : XS) (R0 : XS) (hD : D_X4_plant x1 x2 x3 z = some R0) : xM l X0 ex yX4_plant cX4_plant 6 none rm_X4_plant [.ref (X0.2.2.1 1 (0)), .ref (X0.2.2.1 5 (x1)), .int (x2), .int (x3)] z (xQvS X0 ex R0) := by
  refine x_ent (by decide) (Nat.le_of_ble_eq_true rfl) ?_
  intro p e s m below meth c ls C hr hk hw hl
  replace hl : lv_has ls 6 [(0, .ref (X0.2.2.1 1 (0))), (1, .ref (X0.2.2.1 5 (x1))), (2, .int (x2)), (3, .int (x3))] := hl
  unfold D_X4_plant at hD
  refine lv_aload_n C.1 C.2.1 dX4_plant_0 rfl (lv_at hl 0 rfl) ?_
  refine lv_iload_n C.1 C.2.1 dX4_plant_1 rfl (lv_at hl 3 rfl) ?_
  obtain ⟨q1, hq1, hD⟩ := Option.bind_eq_some_iff.mp hD
  refine x_goi hw (x_runS (X := X0) (As := [.int (x3)]) (rest := [.ref (X0.2.2.1 1 (0))]) C hw cS_X6_gardensOf kw_849 (c_X6_gardensOf l X0 ex x3  z q1 hq1) ⟨Nat.le_of_ble_eq_true rfl, Nat.le_of_ble_eq_true rfl⟩ rfl hl.1 rfl (Nat.le_of_ble_eq_true rfl) dX4_plant_2 ⟨Nat.le_of_ble_eq_true rfl, Nat.le_of_ble_eq_true rfl⟩) (fun H locs hw => ?_)
  obtain ⟨z2, hz2, hD⟩ := Option.bind_eq_some_iff.mp hD
  refine pf_X4_2 (X := X0) C hw kw_39 dX4_plant_5 (fun H locs hw => ?_)
  replace hw := xw_eq hz2 hw
  refine lv_iconst (v := (0 : Int32)) C.1 C.2.1 dX4_plant_8 (by decide) ?_
  refine lv_istore (lv' := [(4, .int ((0 : Int32))), (0, .ref (X0.2.2.1 1 (0))), (1, .ref (X0.2.2.1 5 (x1))), (2, .int (x2)), (3, .int (x3))]) C.1 C.2.1 dX4_plant_9 hl (by decide) rfl (fun ls hl => ?_)
  exact w_X4_plant_11 x1 x2 x3 hx1 C hr hk R0   64 _ 0 (0 : Int32) z2  hD (by decide) (Nat.zero_le _) _ _ (xw_self hw) _ (lv_sub hl [1, 2, 3, 0] rfl)
theorem kw_862 : Cond.code yX6_firstFault cX6_firstFault 4 (some .int) ∈ gtbl := gm1 185 rfl rfl
theorem nd_X6_firstFault : (yX6_firstFault).cls ≠ "java/lang/invoke/MethodHandle" ∧ (yX6_firstFault).cls ≠ "java/lang/invoke/VarHandle" ∧ (parseMethodDescriptor (yX6_firstFault).desc).map (fun d => d.parameters.length) = some 3 := by decide +kernel
theorem kw_864 : Cond.static yX6_firstFault ∈ gtbl := gm1 184 rfl rfl
theorem cS_X6_firstFault : xcS yX6_firstFault cX6_firstFault 4 (some .int) 3 := ⟨⟨kw_862, kw_13, nd_X6_firstFault⟩, kw_864⟩
theorem kw_866 : Cond.methodLink RX9 65 yX6_firstFault ∈ gtbl := gm1 183 rfl rfl
theorem kw_867 : Cond.code yX4_plant cX4_plant 6 none ∈ gtbl := gm1 204 rfl rfl
theorem nd_X4_plant : (yX4_plant).cls ≠ "java/lang/invoke/MethodHandle" ∧ (yX4_plant).cls ≠ "java/lang/invoke/VarHandle" ∧ (parseMethodDescriptor (yX4_plant).desc).map (fun d => d.parameters.length) = some 3 := by decide +kernel
theorem kw_869 : Cond.instanceMethod yX4_plant ∈ gtbl := gm1 202 rfl rfl
theorem kw_870 : Cond.selects RX4 yX4_plant yX4_plant ∈ gtbl := gm1 203 rfl rfl
theorem cV_X4_plant : xcV yX4_plant cX4_plant 6 none 3 := ⟨⟨kw_867, kw_89, nd_X4_plant⟩, kw_869, kw_870⟩
theorem kw_872 : Cond.methodLink RX9 71 yX4_plant ∈ gtbl := gm1 201 rfl rfl
theorem kw_873 : Cond.code yX3_clear cX3_clear 1 none ∈ gtbl := gm2 32 rfl rfl
theorem nd_X3_clear : (yX3_clear).cls ≠ "java/lang/invoke/MethodHandle" ∧ (yX3_clear).cls ≠ "java/lang/invoke/VarHandle" ∧ (parseMethodDescriptor (yX3_clear).desc).map (fun d => d.parameters.length) = some 0 := by decide +kernel
theorem kw_875 : Cond.instanceMethod yX3_clear ∈ gtbl := gm2 30 rfl rfl
theorem kw_876 : Cond.selects RX3 yX3_clear yX3_clear ∈ gtbl := gm2 31 rfl rfl
theorem cV_X3_clear : xcV yX3_clear cX3_clear 1 none 0 := ⟨⟨kw_873, kw_251, nd_X3_clear⟩, kw_875, kw_876⟩
theorem kw_878 : Cond.methodLink RX9 75 yX3_clear ∈ gtbl := gm2 29 rfl rfl
abbrev rm_X9_gardens : Room := { frames := 6, cells := 6, slots := 12, locals := 138 }
def D_X9_gardens (x1 : Int32) (x2 : Int32) (x3 : Int32) (x4 : Int32) (z : XS) : Option (Int32 × XS) :=
  (some (pS z 0 4 0 (0 : Int32))).bind fun z1 => ((D_X9_isSheet x1 z1).bind fun q2 => ((if q2.1 = 0 then some ((-1 : Int32), q2.2) else (D_X9_isWithin x2 (2 : Int32) q2.2).bind fun q4 => ((if q4.1 = 0 then some ((-2 : Int32), q4.2) else gd (inB x1 4) ((D_X5_isOfOtherLane x1.toNatClampNeg x2 q4.2).bind fun q7 => ((if q7.1 = 0 then (D_X5_hasNothing x1.toNatClampNeg q7.2).bind fun q9 => ((if q9.1 = 0 then (if 0 ≤ x4 then (D_X5_holdsRun x1.toNatClampNeg x3 x4 q9.2).bind fun q12 => ((if q12.1 = 0 then (D_X9_faulted (3 : Int32) q12.2).bind fun q18 => (some (q18.1, q18.2)) else (D_X6_firstFault x1.toNatClampNeg x3 x4 q12.2).bind fun q14 => ((if q14.1 = (-1 : Int32) then (D_X4_plant x1.toNatClampNeg x3 x4 q14.2).bind fun z16 => ((D_X3_clear  z16).bind fun q17 => (some (gS q17 1 2 0, q17))) else some ((-100 : Int32) - q14.1, q14.2))))) else (D_X9_faulted (4 : Int32) q9.2).bind fun q19 => (some (q19.1, q19.2))) else (D_X9_faulted (1 : Int32) q9.2).bind fun q20 => (some (q20.1, q20.2)))) else (D_X9_faulted (2 : Int32) q7.2).bind fun q21 => (some (q21.1, q21.2))))))))))
set_option maxHeartbeats 4000000 in
set_option maxRecDepth 100000 in
theorem c_X9_gardens (l : Launch) (X : XC) (ex : va_W) (x1 : Int32) (x2 : Int32) (x3 : Int32) (x4 : Int32) (z : XS) (R0 : Int32 × XS) (hD : D_X9_gardens x1 x2 x3 x4 z = some R0) : xM l X ex yX9_gardens cX9_gardens 7 (some .int) rm_X9_gardens [.ref (X.2.2.1 0 (0)), .int (x1), .int (x2), .int (x3), .int (x4)] z (xQiS X ex R0.2 R0.1) := by
  refine x_ent (by decide) (Nat.le_of_ble_eq_true rfl) ?_
  intro p e s m below meth c ls C hr hk hw hl
  replace hl : lv_has ls 7 [(0, .ref (X.2.2.1 0 (0))), (1, .int (x1)), (2, .int (x2)), (3, .int (x3)), (4, .int (x4))] := hl
  unfold D_X9_gardens at hD
  refine lv_aload_n C.1 C.2.1 dX9_gardens_0 rfl (lv_at hl 0 rfl) ?_
  refine lv_iconst (v := (0 : Int32)) C.1 C.2.1 dX9_gardens_1 (by decide) ?_
  obtain ⟨z1, hz1, hD⟩ := Option.bind_eq_some_iff.mp hD
  refine pf_X9_4 C hw kw_8 dX9_gardens_2 (fun H locs hw => ?_)
  replace hw := xw_eq hz1 hw
  refine lv_iload_n C.1 C.2.1 dX9_gardens_5 rfl (lv_at hl 1 rfl) ?_
  obtain ⟨q2, hq2, hD⟩ := Option.bind_eq_some_iff.mp hD
  refine x_goi hw (x_runS (As := [.int (x1)]) (rest := []) C hw cS_X9_isSheet kw_356 (c_X9_isSheet l X ex x1  z1 q2 hq2) ⟨Nat.le_of_ble_eq_true rfl, Nat.le_of_ble_eq_true rfl⟩ rfl hl.1 rfl (Nat.le_of_ble_eq_true rfl) dX9_gardens_6 ⟨Nat.le_of_ble_eq_true rfl, Nat.le_of_ble_eq_true rfl⟩) (fun H locs hw => ?_)
  refine lv_if_ne (tgt := 14) C.1 C.2.1 dX9_gardens_9 (by decide) (fun c3 => ?_) (fun c3 => ?_)
  · replace hD := (if_neg c3).symm.trans hD
    refine lv_iload_n C.1 C.2.1 dX9_gardens_14 rfl (lv_at hl 2 rfl) ?_
    refine lv_iconst (v := (2 : Int32)) C.1 C.2.1 dX9_gardens_15 (by decide) ?_
    obtain ⟨q4, hq4, hD⟩ := Option.bind_eq_some_iff.mp hD
    refine x_goi hw (x_runS (As := [.int (x2), .int ((2 : Int32))]) (rest := []) C hw cS_X9_isWithin kw_5 (c_X9_isWithin l X ex x2 (2 : Int32)  q2.2 q4 hq4) ⟨Nat.le_of_ble_eq_true rfl, Nat.le_of_ble_eq_true rfl⟩ rfl hl.1 rfl (Nat.le_of_ble_eq_true rfl) dX9_gardens_16 ⟨Nat.le_of_ble_eq_true rfl, Nat.le_of_ble_eq_true rfl⟩) (fun H locs hw => ?_)
    refine lv_if_ne (tgt := 25) C.1 C.2.1 dX9_gardens_19 (by decide) (fun c5 => ?_) (fun c5 => ?_)
    · replace hD := (if_neg c5).symm.trans hD
      refine lv_aload_n C.1 C.2.1 dX9_gardens_25 rfl (lv_at hl 0 rfl) ?_
      refine gf_X9_3 C hw kw_357 dX9_gardens_26 ?_
      refine lv_iload_n C.1 C.2.1 dX9_gardens_29 rfl (lv_at hl 1 rfl) ?_
      obtain ⟨g6, hD⟩ := gd_some hD
      refine x_aald (k := 4) (j := 0) (f := fun i => X.2.2.1 5 i) C hw (Nat.le_of_ble_eq_true rfl) 3 rfl rfl rfl (inB_in g6) (a := X.2.2.1 5 (x1.toNatClampNeg)) rfl dX9_gardens_30 ?_
      refine lv_astore (lv' := [(5, .ref (X.2.2.1 5 (x1.toNatClampNeg))), (0, .ref (X.2.2.1 0 (0))), (1, .int (x1)), (2, .int (x2)), (3, .int (x3)), (4, .int (x4))]) C.1 C.2.1 dX9_gardens_31 hl (by decide) rfl (fun ls hl => ?_)
      refine lv_aload C.1 C.2.1 dX9_gardens_33 (lv_at hl 0 rfl) ?_
      refine lv_iload_n C.1 C.2.1 dX9_gardens_35 rfl (lv_at hl 3 rfl) ?_
      obtain ⟨q7, hq7, hD⟩ := Option.bind_eq_some_iff.mp hD
      refine x_goi hw (x_runV (As := [.int (x2)]) (rest := []) (k := 5) (j := x1.toNatClampNeg) C hw (inB_lt g6) rfl rfl cV_X5_isOfOtherLane kw_401 (c_X5_isOfOtherLane l X ex x1.toNatClampNeg x2 (inB_lt g6) q4.2 q7 hq7) ⟨Nat.le_of_ble_eq_true rfl, Nat.le_of_ble_eq_true rfl⟩ rfl hl.1 rfl (Nat.le_of_ble_eq_true rfl) dX9_gardens_36 ⟨Nat.le_of_ble_eq_true rfl, Nat.le_of_ble_eq_true rfl⟩) (fun H locs hw => ?_)
      refine lv_if_eq (tgt := 48) C.1 C.2.1 dX9_gardens_39 (by decide) (fun c8 => ?_) (fun c8 => ?_)
      · replace hD := (if_pos c8).symm.trans hD
        refine lv_aload C.1 C.2.1 dX9_gardens_48 (lv_at hl 0 rfl) ?_
        obtain ⟨q9, hq9, hD⟩ := Option.bind_eq_some_iff.mp hD
        refine x_goi hw (x_runV (As := []) (rest := []) (k := 5) (j := x1.toNatClampNeg) C hw (inB_lt g6) rfl rfl cV_X5_hasNothing kw_377 (c_X5_hasNothing l X ex x1.toNatClampNeg (inB_lt g6) q7.2 q9 hq9) ⟨Nat.le_of_ble_eq_true rfl, Nat.le_of_ble_eq_true rfl⟩ rfl hl.1 rfl (Nat.le_of_ble_eq_true rfl) dX9_gardens_50 ⟨Nat.le_of_ble_eq_true rfl, Nat.le_of_ble_eq_true rfl⟩) (fun H locs hw => ?_)
        refine lv_if_eq (tgt := 62) C.1 C.2.1 dX9_gardens_53 (by decide) (fun c10 => ?_) (fun c10 => ?_)
        · replace hD := (if_pos c10).symm.trans hD
          refine lv_iload C.1 C.2.1 dX9_gardens_62 (lv_at hl 5 rfl) ?_
          refine lv_if_ge (tgt := 73) C.1 C.2.1 dX9_gardens_64 (by decide) (fun c11 => ?_) (fun c11 => ?_)
          · replace hD := (if_pos c11).symm.trans hD
            refine lv_aload C.1 C.2.1 dX9_gardens_73 (lv_at hl 0 rfl) ?_
            refine lv_iload_n C.1 C.2.1 dX9_gardens_75 rfl (lv_at hl 4 rfl) ?_
            refine lv_iload C.1 C.2.1 dX9_gardens_76 (lv_at hl 5 rfl) ?_
            obtain ⟨q12, hq12, hD⟩ := Option.bind_eq_some_iff.mp hD
            refine x_goi hw (x_runV (As := [.int (x3), .int (x4)]) (rest := []) (k := 5) (j := x1.toNatClampNeg) C hw (inB_lt g6) rfl rfl cV_X5_holdsRun kw_414 (c_X5_holdsRun l X ex x1.toNatClampNeg x3 x4 (inB_lt g6) q9.2 q12 hq12) ⟨Nat.le_of_ble_eq_true rfl, Nat.le_of_ble_eq_true rfl⟩ rfl hl.1 rfl (Nat.le_of_ble_eq_true rfl) dX9_gardens_78 ⟨Nat.le_of_ble_eq_true rfl, Nat.le_of_ble_eq_true rfl⟩) (fun H locs hw => ?_)
            refine lv_if_ne (tgt := 90) C.1 C.2.1 dX9_gardens_81 (by decide) (fun c13 => ?_) (fun c13 => ?_)
            · replace hD := (if_neg c13).symm.trans hD
              refine lv_aload C.1 C.2.1 dX9_gardens_90 (lv_at hl 0 rfl) ?_
              refine lv_iload_n C.1 C.2.1 dX9_gardens_92 rfl (lv_at hl 4 rfl) ?_
              refine lv_iload C.1 C.2.1 dX9_gardens_93 (lv_at hl 5 rfl) ?_
              obtain ⟨q14, hq14, hD⟩ := Option.bind_eq_some_iff.mp hD
              refine x_goi hw (x_runS (As := [.ref (X.2.2.1 5 (x1.toNatClampNeg)), .int (x3), .int (x4)]) (rest := []) C hw cS_X6_firstFault kw_866 (c_X6_firstFault l X ex x1.toNatClampNeg x3 x4 (inB_lt g6) q12.2 q14 hq14) ⟨Nat.le_of_ble_eq_true rfl, Nat.le_of_ble_eq_true rfl⟩ rfl hl.1 rfl (Nat.le_of_ble_eq_true rfl) dX9_gardens_95 ⟨Nat.le_of_ble_eq_true rfl, Nat.le_of_ble_eq_true rfl⟩) (fun H locs hw => ?_)
              refine lv_istore (lv' := [(6, .int (q14.1)), (5, .ref (X.2.2.1 5 (x1.toNatClampNeg))), (0, .ref (X.2.2.1 0 (0))), (1, .int (x1)), (2, .int (x2)), (3, .int (x3)), (4, .int (x4))]) C.1 C.2.1 dX9_gardens_98 hl (by decide) rfl (fun ls hl => ?_)
              refine lv_iload C.1 C.2.1 dX9_gardens_100 (lv_at hl 0 rfl) ?_
              refine lv_iconst (v := (-1 : Int32)) C.1 C.2.1 dX9_gardens_102 (by decide) ?_
              refine lv_icmp_eq (tgt := 112) C.1 C.2.1 dX9_gardens_103 (by decide) (fun c15 => ?_) (fun c15 => ?_)
              · replace hD := (if_pos c15).symm.trans hD
                refine lv_aload_n C.1 C.2.1 dX9_gardens_112 rfl (lv_at hl 2 rfl) ?_
                refine gf_X9_0 C hw kw_86 dX9_gardens_113 ?_
                refine lv_aload C.1 C.2.1 dX9_gardens_116 (lv_at hl 1 rfl) ?_
                refine lv_iload_n C.1 C.2.1 dX9_gardens_118 rfl (lv_at hl 5 rfl) ?_
                refine lv_iload C.1 C.2.1 dX9_gardens_119 (lv_at hl 6 rfl) ?_
                obtain ⟨z16, hz16, hD⟩ := Option.bind_eq_some_iff.mp hD
                refine x_goS hw (x_runV (As := [.ref (X.2.2.1 5 (x1.toNatClampNeg)), .int (x3), .int (x4)]) (rest := []) (k := 1) (j := 0) C hw (Nat.le_of_ble_eq_true rfl) rfl rfl cV_X4_plant kw_872 (c_X4_plant l X ex x1.toNatClampNeg x3 x4 (inB_lt g6) q14.2 z16 hz16) ⟨(Nat.le_of_ble_eq_true rfl), (Nat.le_of_ble_eq_true rfl)⟩ rfl hl.1 rfl (Nat.le_of_ble_eq_true rfl) dX9_gardens_121 ⟨(Nat.le_of_ble_eq_true rfl), (Nat.le_of_ble_eq_true rfl)⟩) (fun hh H locs hw => ?_)
                refine lv_aload_n C.1 C.2.1 dX9_gardens_124 rfl (lv_at hl 2 rfl) ?_
                refine gf_X9_1 (X := (xseth X hh)) C hw kw_247 dX9_gardens_125 ?_
                obtain ⟨q17, hq17, hD⟩ := Option.bind_eq_some_iff.mp hD
                refine x_gov hw (x_runV (X := (xseth X hh)) (As := []) (rest := []) (k := 2) (j := 0) C hw (Nat.le_of_ble_eq_true rfl) rfl rfl cV_X3_clear kw_878 (c_X3_clear l (xseth X hh) ex   z16 q17 hq17) ⟨Nat.le_of_ble_eq_true rfl, Nat.le_of_ble_eq_true rfl⟩ rfl hl.1 rfl (Nat.le_of_ble_eq_true rfl) dX9_gardens_128 ⟨Nat.le_of_ble_eq_true rfl, Nat.le_of_ble_eq_true rfl⟩) (fun H locs hw => ?_)
                refine lv_aload_n C.1 C.2.1 dX9_gardens_131 rfl (lv_at hl 2 rfl) ?_
                refine gf_X9_0 (X := (xseth X hh)) C hw kw_86 dX9_gardens_132 ?_
                refine gNf_X4_2 (X := (xseth X hh)) C hw (List.mem_of_getElem? (i := 8) rfl) dX9_gardens_135 ?_
                obtain rfl := Option.some.inj hD
                refine W.widen (k := 6) (n := 12) (Nat.le_of_ble_eq_true rfl) (Nat.le_of_ble_eq_true rfl) ?_
                exact x_iretS C hw hr hk dX9_gardens_138
              · replace hD := (if_neg c15).symm.trans hD
                refine lv_bipush (v := (-100 : Int32)) C.1 C.2.1 dX9_gardens_106 (by decide) ?_
                refine lv_iload C.1 C.2.1 dX9_gardens_108 (lv_at hl 0 rfl) ?_
                refine lv_isub C.1 C.2.1 dX9_gardens_110 ?_
                obtain rfl := Option.some.inj hD
                replace hw := xw_self hw
                refine W.widen (k := 6) (n := 12) (Nat.le_of_ble_eq_true rfl) (Nat.le_of_ble_eq_true rfl) ?_
                exact x_iretS C hw hr hk dX9_gardens_111
            · replace hD := (if_pos c13).symm.trans hD
              refine lv_aload_n C.1 C.2.1 dX9_gardens_84 rfl (lv_at hl 1 rfl) ?_
              refine lv_iconst (v := (3 : Int32)) C.1 C.2.1 dX9_gardens_85 (by decide) ?_
              obtain ⟨q18, hq18, hD⟩ := Option.bind_eq_some_iff.mp hD
              refine x_goi hw (x_runV (As := [.int ((3 : Int32))]) (rest := []) (k := 0) (j := 0) C hw (Nat.le_of_ble_eq_true rfl) rfl rfl cV_X9_faulted kw_371 (c_X9_faulted l X ex (3 : Int32)  q12.2 q18 hq18) ⟨Nat.le_of_ble_eq_true rfl, Nat.le_of_ble_eq_true rfl⟩ rfl hl.1 rfl (Nat.le_of_ble_eq_true rfl) dX9_gardens_86 ⟨Nat.le_of_ble_eq_true rfl, Nat.le_of_ble_eq_true rfl⟩) (fun H locs hw => ?_)
              obtain rfl := Option.some.inj hD
              replace hw := xw_self hw
              refine W.widen (k := 6) (n := 12) (Nat.le_of_ble_eq_true rfl) (Nat.le_of_ble_eq_true rfl) ?_
              exact x_iretS C hw hr hk dX9_gardens_89
          · replace hD := (if_neg c11).symm.trans hD
            refine lv_aload_n C.1 C.2.1 dX9_gardens_67 rfl (lv_at hl 1 rfl) ?_
            refine lv_iconst (v := (4 : Int32)) C.1 C.2.1 dX9_gardens_68 (by decide) ?_
            obtain ⟨q19, hq19, hD⟩ := Option.bind_eq_some_iff.mp hD
            refine x_goi hw (x_runV (As := [.int ((4 : Int32))]) (rest := []) (k := 0) (j := 0) C hw (Nat.le_of_ble_eq_true rfl) rfl rfl cV_X9_faulted kw_371 (c_X9_faulted l X ex (4 : Int32)  q9.2 q19 hq19) ⟨Nat.le_of_ble_eq_true rfl, Nat.le_of_ble_eq_true rfl⟩ rfl hl.1 rfl (Nat.le_of_ble_eq_true rfl) dX9_gardens_69 ⟨Nat.le_of_ble_eq_true rfl, Nat.le_of_ble_eq_true rfl⟩) (fun H locs hw => ?_)
            obtain rfl := Option.some.inj hD
            replace hw := xw_self hw
            refine W.widen (k := 6) (n := 12) (Nat.le_of_ble_eq_true rfl) (Nat.le_of_ble_eq_true rfl) ?_
            exact x_iretS C hw hr hk dX9_gardens_72
        · replace hD := (if_neg c10).symm.trans hD
          refine lv_aload_n C.1 C.2.1 dX9_gardens_56 rfl (lv_at hl 1 rfl) ?_
          refine lv_iconst (v := (1 : Int32)) C.1 C.2.1 dX9_gardens_57 (by decide) ?_
          obtain ⟨q20, hq20, hD⟩ := Option.bind_eq_some_iff.mp hD
          refine x_goi hw (x_runV (As := [.int ((1 : Int32))]) (rest := []) (k := 0) (j := 0) C hw (Nat.le_of_ble_eq_true rfl) rfl rfl cV_X9_faulted kw_371 (c_X9_faulted l X ex (1 : Int32)  q9.2 q20 hq20) ⟨Nat.le_of_ble_eq_true rfl, Nat.le_of_ble_eq_true rfl⟩ rfl hl.1 rfl (Nat.le_of_ble_eq_true rfl) dX9_gardens_58 ⟨Nat.le_of_ble_eq_true rfl, Nat.le_of_ble_eq_true rfl⟩) (fun H locs hw => ?_)
          obtain rfl := Option.some.inj hD
          replace hw := xw_self hw
          refine W.widen (k := 6) (n := 12) (Nat.le_of_ble_eq_true rfl) (Nat.le_of_ble_eq_true rfl) ?_
          exact x_iretS C hw hr hk dX9_gardens_61
      · replace hD := (if_neg c8).symm.trans hD
        refine lv_aload_n C.1 C.2.1 dX9_gardens_42 rfl (lv_at hl 1 rfl) ?_
        refine lv_iconst (v := (2 : Int32)) C.1 C.2.1 dX9_gardens_43 (by decide) ?_
        obtain ⟨q21, hq21, hD⟩ := Option.bind_eq_some_iff.mp hD
        refine x_goi hw (x_runV (As := [.int ((2 : Int32))]) (rest := []) (k := 0) (j := 0) C hw (Nat.le_of_ble_eq_true rfl) rfl rfl cV_X9_faulted kw_371 (c_X9_faulted l X ex (2 : Int32)  q7.2 q21 hq21) ⟨Nat.le_of_ble_eq_true rfl, Nat.le_of_ble_eq_true rfl⟩ rfl hl.1 rfl (Nat.le_of_ble_eq_true rfl) dX9_gardens_44 ⟨Nat.le_of_ble_eq_true rfl, Nat.le_of_ble_eq_true rfl⟩) (fun H locs hw => ?_)
        obtain rfl := Option.some.inj hD
        replace hw := xw_self hw
        refine W.widen (k := 6) (n := 12) (Nat.le_of_ble_eq_true rfl) (Nat.le_of_ble_eq_true rfl) ?_
        exact x_iretS C hw hr hk dX9_gardens_47
    · replace hD := (if_pos c5).symm.trans hD
      refine lv_bipush (v := (-2 : Int32)) C.1 C.2.1 dX9_gardens_22 (by decide) ?_
      obtain rfl := Option.some.inj hD
      replace hw := xw_self hw
      refine W.widen (k := 6) (n := 12) (Nat.le_of_ble_eq_true rfl) (Nat.le_of_ble_eq_true rfl) ?_
      exact x_iretS C hw hr hk dX9_gardens_24
  · replace hD := (if_pos c3).symm.trans hD
    refine lv_iconst (v := (-1 : Int32)) C.1 C.2.1 dX9_gardens_12 (by decide) ?_
    obtain rfl := Option.some.inj hD
    replace hw := xw_self hw
    refine W.widen (k := 6) (n := 12) (Nat.le_of_ble_eq_true rfl) (Nat.le_of_ble_eq_true rfl) ?_
    exact x_iretS C hw hr hk dX9_gardens_13
