set_option maxHeartbeats 8000000 in
set_option maxRecDepth 100000 in
theorem law_loop {p : Program} {l : Launch} {e : Env} {s : State} {m : MethodId} {below : List Frame} {meth : Method} {c : Code} {b L : Nat} {xs : Nat → Int32} (C : CallFix p m c cL_law 4 s #[Value.ref b] gtbl RL) (hr : meth.sig.returnType = ret) (hlocks : meth.locks = false) (hX : va_X b L xs s s.heap) (hbl : b < s.heap.size) (hL : L ≤ 3072) : ∀ (n i : Nat) (X : XC) (z : XS), i ≤ L → L < i + 6 * n → X.2.2.2.1 = s.heap.size → Inv z → ∀ (H : Heap) (locs : List Loc), xw X [] z s H locs → ∀ (ls : Array Slot), lv_has ls 4 [(0, .ref b), (1, .ref (X.2.2.1 0 0)), (2, .ref (X.2.2.1 17 0)), (3, .int (nI i))] → W p l e room_1 s m #[Value.ref b] below meth c H locs (100 + i) (3000 + 2 * i) (lw_Z below #[Value.ref b] s) (F0 m 18 ls []) := by
  intro n
  induction n with
  | zero =>
    intro i X z hi hm
    exact absurd hm (by omega)
  | succ n ih =>
    intro i X z hi hm hB hI H locs hw ls hl
    have hbA : ¬ xA X b := by unfold xA; rw [hB]; exact Nat.not_le.mpr hbl
    refine lv_iload_n C.1 C.2.1 dL_law_18 rfl (lv_at hl 3 rfl) ?_
    refine lv_aload_n C.1 C.2.1 dL_law_19 rfl (lv_at hl 0 rfl) ?_
    refine va_slen (A := xA X) C.1 C.2.1 hX hbl hbA hw.2.2 dL_law_20 ?_
    refine lv_bipush (v := (6 : Int32)) C.1 C.2.1 dL_law_21 (by decide) ?_
    refine lv_isub C.1 C.2.1 dL_law_23 ?_
    refine lv_icmp_gt (tgt := 1246) C.1 C.2.1 dL_law_24 (by decide) (fun c1 => ?_) (fun c1 => ?_)
    · refine lv_iconst (v := 1) C.1 C.2.1 dL_law_1246 (by decide) ?_
      refine va_forget (fun q hq => by have h := hw.2.2.2.2 q hq; unfold xA at h; rw [hB] at h; exact h) ?_
      refine W.widen (k := 600000) (n := 7302250) (by omega) (by omega) ?_
      exact lw_ret C.1 C.2.1 hr hlocks dL_law_1247
    · have hi6 := law_go hL hi c1
      have hN : lw_Nx p l e s m below meth c b i 1240 (100 + i + 6) (3000 + 2 * i + 12) := by
        intro X z hB hI H locs hw ls hl
        refine lv_iinc (v := nI (i + 6)) (lv' := [(3, .int (nI (i + 6))), (0, .ref b), (1, .ref (X.2.2.1 0 0)), (2, .ref (X.2.2.1 17 0))]) C.1 C.2.1 dL_law_1240 hl (k := 3) rfl (nI_add i 6) (by decide) rfl (fun ls hl => ?_)
        refine lv_goto (tgt := 18) C.1 C.2.1 dL_law_1243 (by decide) ?_
        exact ih (i + 6) X z (by omega) (by omega) hB hI H locs hw ls (lv_sub hl [1, 2, 3, 0] rfl)
      refine lv_aload_n C.1 C.2.1 dL_law_27 rfl (lv_at hl 0 rfl) ?_
      refine lv_iload_n C.1 C.2.1 dL_law_28 rfl (lv_at hl 3 rfl) ?_
      refine va_sld (A := xA X) C.1 C.2.1 hX hbl hbA hw.2.2 (law_in0 hi6 hL) dL_law_29 ?_
      refine lv_bipush (v := (31 : Int32)) C.1 C.2.1 dL_law_30 (by decide) ?_
      refine lv_iand C.1 C.2.1 dL_law_32 ?_
      generalize xs (nI i).toNatClampNeg &&& 31 = sel
      by_cases c100 : sel = (0 : Int32)
      · refine lv_tableIn (off := 135) (tgt := 168) C.1 C.2.1 dL_law_33 (by rw [c100]; decide) (by rw [c100]; decide) (by rw [c100]; decide) (by decide) ?_
        exact lc_0 C hX hbl hL hi6 hN X z hB hI H locs hw ls hl
      by_cases c101 : sel = (1 : Int32)
      · refine lv_tableIn (off := 188) (tgt := 221) C.1 C.2.1 dL_law_33 (by rw [c101]; decide) (by rw [c101]; decide) (by rw [c101]; decide) (by decide) ?_
        exact lc_1 C hX hbl hL hi6 hN X z hB hI H locs hw ls hl
      by_cases c102 : sel = (2 : Int32)
      · refine lv_tableIn (off := 211) (tgt := 244) C.1 C.2.1 dL_law_33 (by rw [c102]; decide) (by rw [c102]; decide) (by rw [c102]; decide) (by decide) ?_
        exact lc_2 C hX hbl hL hi6 hN X z hB hI H locs hw ls hl
      by_cases c103 : sel = (3 : Int32)
      · refine lv_tableIn (off := 244) (tgt := 277) C.1 C.2.1 dL_law_33 (by rw [c103]; decide) (by rw [c103]; decide) (by rw [c103]; decide) (by decide) ?_
        exact lc_3 C hX hbl hL hi6 hN X z hB hI H locs hw ls hl
      by_cases c104 : sel = (4 : Int32)
      · refine lv_tableIn (off := 297) (tgt := 330) C.1 C.2.1 dL_law_33 (by rw [c104]; decide) (by rw [c104]; decide) (by rw [c104]; decide) (by decide) ?_
        exact lc_4 C hX hbl hL hi6 hN X z hB hI H locs hw ls hl
      by_cases c105 : sel = (5 : Int32)
      · refine lv_tableIn (off := 340) (tgt := 373) C.1 C.2.1 dL_law_33 (by rw [c105]; decide) (by rw [c105]; decide) (by rw [c105]; decide) (by decide) ?_
        exact lc_5 C hX hbl hL hi6 hN X z hB hI H locs hw ls hl
      by_cases c106 : sel = (6 : Int32)
      · refine lv_tableIn (off := 383) (tgt := 416) C.1 C.2.1 dL_law_33 (by rw [c106]; decide) (by rw [c106]; decide) (by rw [c106]; decide) (by decide) ?_
        exact lc_6 C hX hbl hL hi6 hN X z hB hI H locs hw ls hl
      by_cases c107 : sel = (7 : Int32)
      · refine lv_tableIn (off := 426) (tgt := 459) C.1 C.2.1 dL_law_33 (by rw [c107]; decide) (by rw [c107]; decide) (by rw [c107]; decide) (by decide) ?_
        exact lc_7 C hX hbl hL hi6 hN X z hB hI H locs hw ls hl
      by_cases c108 : sel = (8 : Int32)
      · refine lv_tableIn (off := 459) (tgt := 492) C.1 C.2.1 dL_law_33 (by rw [c108]; decide) (by rw [c108]; decide) (by rw [c108]; decide) (by decide) ?_
        exact lc_8 C hX hbl hL hi6 hN X z hB hI H locs hw ls hl
      by_cases c109 : sel = (9 : Int32)
      · refine lv_tableIn (off := 482) (tgt := 515) C.1 C.2.1 dL_law_33 (by rw [c109]; decide) (by rw [c109]; decide) (by rw [c109]; decide) (by decide) ?_
        exact lc_9 C hX hbl hL hi6 hN X z hB hI H locs hw ls hl
      by_cases c110 : sel = (10 : Int32)
      · refine lv_tableIn (off := 515) (tgt := 548) C.1 C.2.1 dL_law_33 (by rw [c110]; decide) (by rw [c110]; decide) (by rw [c110]; decide) (by decide) ?_
        exact lc_10 C hX hbl hL hi6 hN X z hB hI H locs hw ls hl
      by_cases c111 : sel = (11 : Int32)
      · refine lv_tableIn (off := 568) (tgt := 601) C.1 C.2.1 dL_law_33 (by rw [c111]; decide) (by rw [c111]; decide) (by rw [c111]; decide) (by decide) ?_
        exact lc_11 C hX hbl hL hi6 hN X z hB hI H locs hw ls hl
      by_cases c112 : sel = (12 : Int32)
      · refine lv_tableIn (off := 621) (tgt := 654) C.1 C.2.1 dL_law_33 (by rw [c112]; decide) (by rw [c112]; decide) (by rw [c112]; decide) (by decide) ?_
        exact lc_12 C hX hbl hL hi6 hN X z hB hI H locs hw ls hl
      by_cases c113 : sel = (13 : Int32)
      · refine lv_tableIn (off := 644) (tgt := 677) C.1 C.2.1 dL_law_33 (by rw [c113]; decide) (by rw [c113]; decide) (by rw [c113]; decide) (by decide) ?_
        exact lc_13 C hX hbl hL hi6 hN X z hB hI H locs hw ls hl
      by_cases c114 : sel = (14 : Int32)
      · refine lv_tableIn (off := 687) (tgt := 720) C.1 C.2.1 dL_law_33 (by rw [c114]; decide) (by rw [c114]; decide) (by rw [c114]; decide) (by decide) ?_
        exact lc_14 C hX hbl hL hi6 hN X z hB hI H locs hw ls hl
      by_cases c115 : sel = (15 : Int32)
      · refine lv_tableIn (off := 740) (tgt := 773) C.1 C.2.1 dL_law_33 (by rw [c115]; decide) (by rw [c115]; decide) (by rw [c115]; decide) (by decide) ?_
        exact lc_15 C hX hbl hL hi6 hN X z hB hI H locs hw ls hl
      by_cases c116 : sel = (16 : Int32)
      · refine lv_tableIn (off := 763) (tgt := 796) C.1 C.2.1 dL_law_33 (by rw [c116]; decide) (by rw [c116]; decide) (by rw [c116]; decide) (by decide) ?_
        exact lc_16 C hX hbl hL hi6 hN X z hB hI H locs hw ls hl
      by_cases c117 : sel = (17 : Int32)
      · refine lv_tableIn (off := 796) (tgt := 829) C.1 C.2.1 dL_law_33 (by rw [c117]; decide) (by rw [c117]; decide) (by rw [c117]; decide) (by decide) ?_
        exact lc_17 C hX hbl hL hi6 hN X z hB hI H locs hw ls hl
      by_cases c118 : sel = (18 : Int32)
      · refine lv_tableIn (off := 829) (tgt := 862) C.1 C.2.1 dL_law_33 (by rw [c118]; decide) (by rw [c118]; decide) (by rw [c118]; decide) (by decide) ?_
        exact lc_18 C hX hbl hL hi6 hN X z hB hI H locs hw ls hl
      by_cases c119 : sel = (19 : Int32)
      · refine lv_tableIn (off := 863) (tgt := 896) C.1 C.2.1 dL_law_33 (by rw [c119]; decide) (by rw [c119]; decide) (by rw [c119]; decide) (by decide) ?_
        exact lc_19 C hX hbl hL hi6 hN X z hB hI H locs hw ls hl
      by_cases c120 : sel = (20 : Int32)
      · refine lv_tableIn (off := 906) (tgt := 939) C.1 C.2.1 dL_law_33 (by rw [c120]; decide) (by rw [c120]; decide) (by rw [c120]; decide) (by decide) ?_
        exact lc_20 C hX hbl hL hi6 hN X z hB hI H locs hw ls hl
      by_cases c121 : sel = (21 : Int32)
      · refine lv_tableIn (off := 929) (tgt := 962) C.1 C.2.1 dL_law_33 (by rw [c121]; decide) (by rw [c121]; decide) (by rw [c121]; decide) (by decide) ?_
        exact lc_21 C hX hbl hL hi6 hN X z hB hI H locs hw ls hl
      by_cases c122 : sel = (22 : Int32)
      · refine lv_tableIn (off := 972) (tgt := 1005) C.1 C.2.1 dL_law_33 (by rw [c122]; decide) (by rw [c122]; decide) (by rw [c122]; decide) (by decide) ?_
        exact lc_22 C hX hbl hL hi6 hN X z hB hI H locs hw ls hl
      by_cases c123 : sel = (23 : Int32)
      · refine lv_tableIn (off := 1016) (tgt := 1049) C.1 C.2.1 dL_law_33 (by rw [c123]; decide) (by rw [c123]; decide) (by rw [c123]; decide) (by decide) ?_
        exact lc_23 C hX hbl hL hi6 hN X z hB hI H locs hw ls hl
      by_cases c124 : sel = (24 : Int32)
      · refine lv_tableIn (off := 1079) (tgt := 1112) C.1 C.2.1 dL_law_33 (by rw [c124]; decide) (by rw [c124]; decide) (by rw [c124]; decide) (by decide) ?_
        exact lc_24 C hX hbl hL hi6 hN X z hB hI H locs hw ls hl
      by_cases c125 : sel = (25 : Int32)
      · refine lv_tableIn (off := 1102) (tgt := 1135) C.1 C.2.1 dL_law_33 (by rw [c125]; decide) (by rw [c125]; decide) (by rw [c125]; decide) (by decide) ?_
        exact lc_25 C hX hbl hL hi6 hN X z hB hI H locs hw ls hl
      by_cases c126 : sel = (26 : Int32)
      · refine lv_tableIn (off := 1125) (tgt := 1158) C.1 C.2.1 dL_law_33 (by rw [c126]; decide) (by rw [c126]; decide) (by rw [c126]; decide) (by decide) ?_
        exact lc_26 C hX hbl hL hi6 hN X z hB hI H locs hw ls hl
      by_cases c127 : sel = (27 : Int32)
      · refine lv_tableIn (off := 1158) (tgt := 1191) C.1 C.2.1 dL_law_33 (by rw [c127]; decide) (by rw [c127]; decide) (by rw [c127]; decide) (by decide) ?_
        exact lc_27 C hX hbl hL hi6 hN X z hB hI H locs hw ls hl
      by_cases c128 : sel = (28 : Int32)
      · refine lv_tableIn (off := 1171) (tgt := 1204) C.1 C.2.1 dL_law_33 (by rw [c128]; decide) (by rw [c128]; decide) (by rw [c128]; decide) (by decide) ?_
        exact lc_28 C hX hbl hL hi6 hN X z hB hI H locs hw ls hl
      by_cases c129 : sel = (29 : Int32)
      · refine lv_tableIn (off := 1184) (tgt := 1217) C.1 C.2.1 dL_law_33 (by rw [c129]; decide) (by rw [c129]; decide) (by rw [c129]; decide) (by decide) ?_
        exact lc_29 C hX hbl hL hi6 hN X z hB hI H locs hw ls hl
      refine lv_tableOut (tgt := 1240) C.1 C.2.1 dL_law_33 (by have a0 := sw_ne (n := 0) (0 : Int32) rfl c100; have a1 := sw_ne (n := 1) (1 : Int32) rfl c101; have a2 := sw_ne (n := 2) (2 : Int32) rfl c102; have a3 := sw_ne (n := 3) (3 : Int32) rfl c103; have a4 := sw_ne (n := 4) (4 : Int32) rfl c104; have a5 := sw_ne (n := 5) (5 : Int32) rfl c105; have a6 := sw_ne (n := 6) (6 : Int32) rfl c106; have a7 := sw_ne (n := 7) (7 : Int32) rfl c107; have a8 := sw_ne (n := 8) (8 : Int32) rfl c108; have a9 := sw_ne (n := 9) (9 : Int32) rfl c109; have a10 := sw_ne (n := 10) (10 : Int32) rfl c110; have a11 := sw_ne (n := 11) (11 : Int32) rfl c111; have a12 := sw_ne (n := 12) (12 : Int32) rfl c112; have a13 := sw_ne (n := 13) (13 : Int32) rfl c113; have a14 := sw_ne (n := 14) (14 : Int32) rfl c114; have a15 := sw_ne (n := 15) (15 : Int32) rfl c115; have a16 := sw_ne (n := 16) (16 : Int32) rfl c116; have a17 := sw_ne (n := 17) (17 : Int32) rfl c117; have a18 := sw_ne (n := 18) (18 : Int32) rfl c118; have a19 := sw_ne (n := 19) (19 : Int32) rfl c119; have a20 := sw_ne (n := 20) (20 : Int32) rfl c120; have a21 := sw_ne (n := 21) (21 : Int32) rfl c121; have a22 := sw_ne (n := 22) (22 : Int32) rfl c122; have a23 := sw_ne (n := 23) (23 : Int32) rfl c123; have a24 := sw_ne (n := 24) (24 : Int32) rfl c124; have a25 := sw_ne (n := 25) (25 : Int32) rfl c125; have a26 := sw_ne (n := 26) (26 : Int32) rfl c126; have a27 := sw_ne (n := 27) (27 : Int32) rfl c127; have a28 := sw_ne (n := 28) (28 : Int32) rfl c128; have a29 := sw_ne (n := 29) (29 : Int32) rfl c129; omega) (by decide) ?_
      refine W.widen (k := 100 + i + 6) (n := 3000 + 2 * i + 12) (by omega) (by omega) ?_
      exact hN X z hB hI H locs hw ls hl
theorem xnf_in : ∀ q ∈ xnf, Cond.fieldLinkNest q.1 q.2.1 q.2.2.1 q.2.2.2.1 q.2.2.2.2.1 q.2.2.2.2.2 ∈ lw_tbl := by decide +kernel
theorem xnm_in : ∀ q ∈ xnm, Cond.methodLinkNest q.1 q.2.1 q.2.2.1 q.2.2.2 ∈ lw_tbl := by decide +kernel
set_option maxHeartbeats 8000000 in
set_option maxRecDepth 100000 in
theorem whole_start {p : Program} {e : Env} {s : State} {m : MethodId} {below : List Frame} {meth : Method} {c : Code} (l : Launch) {b L : Nat} {xs : Nat → Int32} (hL : L ≤ 3072) (C0 : lw_At p s m meth c b L xs) : W p l e room_1 s m #[Value.ref b] below meth c s.heap [] 0 0 (lw_Z below #[Value.ref b] s) (entryFrame m ([Value.ref b] : List Value).toArray 4) := by
  obtain ⟨hx, hb, hr, hml, hown, hts0, hX, hbl, hlocks, hgv⟩ := id C0
  have hts : ∀ w ∈ gtbl, w.before #[Value.ref b] s = true := fun w h => hts0 w (List.mem_filter.mp h).1
  obtain ⟨c0, iS0, hKn0⟩ := u_known (C := RX0) (T := TX0) (N := 4) (n := 4) hts ixX0 (hts _ kw_794)
  obtain ⟨c1, iS1, hKn1⟩ := u_known (C := RX1) (T := TX1) (N := 2) (n := 2) hts ixX1 (hts _ kw_835)
  obtain ⟨c2, iS2, hKn2⟩ := u_known (C := RX2) (T := TX2) (N := 2) (n := 2) hts ixX2 (hts _ kw_787)
  obtain ⟨c3, iS3, hKn3⟩ := u_known (C := RX3) (T := TX3) (N := 5) (n := 5) hts ixX3 (hts _ kw_811)
  obtain ⟨c4, iS4, hKn4⟩ := u_known (C := RX4) (T := TX4) (N := 3) (n := 3) hts ixX4 (hts _ kw_804)
  obtain ⟨c5, iS5, hKn5⟩ := u_known (C := RX5) (T := TX5) (N := 3) (n := 3) hts ixX5 (hts _ kw_824)
  obtain ⟨c6, iS6, hKn6⟩ := u_known (C := RX7) (T := TX7) (N := 1) (n := 1) hts ixX7 (hts _ kw_817)
  obtain ⟨c7, iS7, hKn7⟩ := u_known (C := RX8) (T := TX8) (N := 2) (n := 2) hts ixX8 (hts _ kw_832)
  obtain ⟨c8, iS8, hKn8⟩ := u_known (C := RX9) (T := TX9) (N := 5) (n := 5) hts ixX9 (hts _ kw_1239)
  obtain ⟨c9, iS9, hKn9⟩ := u_known (C := RX10) (T := TX10) (N := 23) (n := 23) hts ixX10 (hts _ kw_1240)
  obtain ⟨aI, kI, pI, fI1, fI2, fI3⟩ := Cond.arrayClass_spec (hts _ kw_790)
  have oA : (Cond.arrayOver (.array .int)).before #[Value.ref b] s = true := hts0 _ (List.mem_append_right _ (List.mem_append_left _ (List.mem_of_getElem? (l := tables_1_1) (i := 53) rfl)))
  have oB : (Cond.arrayOver (.object "WordHedges$Border")).before #[Value.ref b] s = true := hts0 _ (List.mem_append_right _ (List.mem_append_left _ (List.mem_of_getElem? (l := tables_1_1) (i := 30) rfl)))
  have oS : (Cond.arrayOver (.object "WordHedges$Sheet")).before #[Value.ref b] s = true := hts0 _ (List.mem_append_right _ (List.mem_append_left _ (List.mem_of_getElem? (l := tables_1_1) (i := 121) rfl)))
  obtain ⟨pA, aA, kA, gA1, gA2, gA3, gA4, gA5⟩ := Stand.arrayOver_specB oA
  obtain ⟨pB, aB, kB, gB1, gB2, gB3, gB4, gB5⟩ := Cond.arrayOver_spec oB
  obtain ⟨pS, aS, kS, gS1, gS2, gS3, gS4, gS5⟩ := Cond.arrayOver_spec oS
  have hn := flat_of_before _ hgv
  have hAn : ∀ a : Nat, a < s.heap.size → ¬ (fun q : Nat => s.heap.size ≤ q) a := fun a h => Nat.not_le.mpr h
  obtain ⟨tC, htC, hT⟩ := va_Tof (args := #[Value.ref b]) (s := s) (tm := .static "WordHedges" "CHOICES" "[I") (ty := .int) (N := 3) (f := chv) (A := fun q => s.heap.size ≤ q) (by decide) (hn _ (by decide +kernel)) (va_eqt (hn (.eq (.length (.static "WordHedges" "CHOICES" "[I")) (.int 3)) (by decide +kernel))) (fun j hj => by
    match j, hj with
    | 0, _ => exact va_eqt (z := 0) (hn (.eq (.elem (.static "WordHedges" "CHOICES" "[I") (.int 0)) (.int 0)) (by decide +kernel))
    | 1, _ => exact va_eqt (z := -1) (hn (.eq (.elem (.static "WordHedges" "CHOICES" "[I") (.int 1)) (.int (-1))) (by decide +kernel))
    | 2, _ => exact va_eqt (z := 1) (hn (.eq (.elem (.static "WordHedges" "CHOICES" "[I") (.int 2)) (.int 1)) (by decide +kernel))) hAn
  have hZ : va_Z "WordHedges" "CHOICES" "[I" (.ref tC) (fun q => s.heap.size ≤ q) s s.heap := va_Zof (hts0 _ (List.mem_append_right _ (List.mem_append_right _ (List.mem_append_left _ (List.mem_of_getElem? (l := tables_1_2) (i := 194) rfl))))) (hts _ kw_1) htC hAn
  obtain ⟨dC, dI, hKc⟩ : ∃ (dC : Nat → ClassId) (dI : Nat → Nat → Nat), ∀ (k : Nat) (q : vw_C), vwCl[k]? = some q → u_Kn s q.1 q.2.1 q.2.2 (dC k) (dI k) := by
    refine ⟨fun k => if k = 0 then c0 else if k = 1 then c1 else if k = 2 then c2 else if k = 3 then c3 else if k = 4 then c4 else if k = 5 then c5 else if k = 6 then c6 else if k = 7 then c7 else if k = 8 then c8 else c9, fun k => if k = 0 then iS0 else if k = 1 then iS1 else if k = 2 then iS2 else if k = 3 then iS3 else if k = 4 then iS4 else if k = 5 then iS5 else if k = 6 then iS6 else if k = 7 then iS7 else if k = 8 then iS8 else iS9, ?_⟩
    intro k q hq
    match k, hq with
    | 0, hq => cases hq; exact hKn0
    | 1, hq => cases hq; exact hKn1
    | 2, hq => cases hq; exact hKn2
    | 3, hq => cases hq; exact hKn3
    | 4, hq => cases hq; exact hKn4
    | 5, hq => cases hq; exact hKn5
    | 6, hq => cases hq; exact hKn6
    | 7, hq => cases hq; exact hKn7
    | 8, hq => cases hq; exact hKn8
    | 9, hq => cases hq; exact hKn9
    | k + 10, hq => simp [vwCl] at hq
  obtain ⟨X, hXe⟩ : ∃ X : XC, X = ((dC, dI), (fun t => if t = 0 then aI else if t = 1 then aA else if t = 2 then aB else aS), (fun _ _ => 0), s.heap.size, tC) := ⟨_, rfl⟩
  have hNw : xN s := by
    refine ⟨?_, ?_⟩
    · intro q hq
      have hm : Cond.fieldLinkNest q.1 q.2.1 q.2.2.1 q.2.2.2.1 q.2.2.2.2.1 q.2.2.2.2.2 ∈ lw_tbl := xnf_in q hq
      exact va_Nw.of rfl (hts0 _ hm)
    · intro q hq
      have hm : Cond.methodLinkNest q.1 q.2.1 q.2.2.1 q.2.2.2 ∈ lw_tbl := xnm_in q hq
      exact va_Nw.of rfl (hts0 _ hm)
  have hG : xG X s := by
    subst hXe
    refine ⟨⟨Nat.le_refl _, va_AO.of oB, va_AO.of oS, va_AOA.of oA⟩, ⟨hKc, fun k q hk => ?_⟩, hNw, hZ, hT⟩
    match k, hk with
    | 0, hk => cases hk; exact ⟨fun N z => ⟨(fun k h => by cases h), kI, fI2, pI, fI3⟩, fI1⟩
    | 1, hk => cases hk; exact ⟨fun N z => ⟨(fun k h => by cases h), kA, gA3, pA, gA4⟩, gA5⟩
    | 2, hk => cases hk; exact ⟨fun N z => ⟨(fun k h => by cases h), kB, gB3, pB, gB4⟩, kB, pB, gB3, gB4, gB1, gB5⟩
    | 3, hk => cases hk; exact ⟨fun N z => ⟨(fun k h => by cases h), kS, gS3, pS, gS4⟩, kS, pS, gS3, gS4, gS1, gS5⟩
    | k + 4, hk => simp [xtys] at hk
  have hB : X.2.2.2.1 = s.heap.size := by rw [hXe]
  clear hXe
  have hw : uw X [] s s.heap [] := ⟨hG, ⟨fun k q h => by simp at h, fun i j p q h => by simp at h, fun k q h => by simp at h⟩, va_S.rf⟩
  have C : CallFix p m c cL_law 4 s #[Value.ref b] gtbl RL := ⟨hx, hb, hml, hown, hts⟩
  have hl := lv_entry ([.ref b]) (n := 4) (Nat.le_of_ble_eq_true rfl)
  rw [lg_entry_eq]
  generalize (lg_sl ([.ref b]) ++ List.replicate (4 - (lg_sl ([.ref b])).length) Slot.unset).toArray = ls at hl ⊢
  replace hl : lv_has ls 4 [(0, .ref b)] := hl
  generalize hH : s.heap = H at hw ⊢
  generalize hlo : ([] : List Loc) = locs at hw ⊢
  refine u_new (ci := 8) (fs := [.null, .null, .null, .null, .int 0]) C hw rfl ixX9 tyX9 tyX9_ok kw_1241 kw_1239 kw_1 (by decide +kernel) (Nat.le_of_ble_eq_true rfl) (Nat.le_of_ble_eq_true rfl) dL_law_0 (fun b1 H hw => ?_)
  replace hw : uw X ((b1, .inr (8, [.null, .null, .null, .null, .int 0])) :: []) s H locs := uw_front hw
  refine lv_dup C.1 C.2.1 dL_law_3 rfl ?_
  refine u_gov hw (u_runI (As := []) (rest := [.ref b1]) (b := b1) C hw cI_X9_init rfl kw_1246 (i_X9_init_8 l X ([]) b1) ⟨(Nat.le_of_ble_eq_true rfl), (Nat.le_of_ble_eq_true rfl)⟩ rfl hl.1 rfl (Nat.le_of_ble_eq_true rfl) dL_law_4 ⟨(Nat.le_of_ble_eq_true rfl), (Nat.le_of_ble_eq_true rfl)⟩) (fun u H locs hw => ?_)
  refine lv_astore_n (lv' := [(1, .ref b1), (0, .ref b)]) C.1 C.2.1 dL_law_7 rfl hl (by decide) rfl (fun ls hl => ?_)
  refine u_new (ci := 9) (fs := [.int 0, .int 0, .null, .null, .null, .null, .null, .int 0, .int 0, .null, .null, .null, .int 0, .null, .null, .null, .null, .null, .null, .null, .null, .null, .int 0]) C hw rfl ixX10 tyX10 tyX10_ok kw_1247 kw_1240 kw_490 (by decide +kernel) (Nat.le_of_ble_eq_true rfl) (Nat.le_of_ble_eq_true rfl) dL_law_8 (fun b2 H hw => ?_)
  replace hw : uw X ((b2, .inr (9, [.int 0, .int 0, .null, .null, .null, .null, .null, .int 0, .int 0, .null, .null, .null, .int 0, .null, .null, .null, .null, .null, .null, .null, .null, .null, .int 0])) :: (bc_X9_init_8 X b1 u ++ [])) s H locs := uw_front hw
  refine lv_dup C.1 C.2.1 dL_law_11 rfl ?_
  refine u_gov hw (u_runI (As := []) (rest := [.ref b2]) (b := b2) C hw cI_X10_init rfl kw_1252 (i_X10_init_9 l X (bc_X9_init_8 X b1 u ++ []) b2) ⟨(Nat.le_of_ble_eq_true rfl), (Nat.le_of_ble_eq_true rfl)⟩ rfl hl.1 rfl (Nat.le_of_ble_eq_true rfl) dL_law_12 ⟨(Nat.le_of_ble_eq_true rfl), (Nat.le_of_ble_eq_true rfl)⟩) (fun w H locs hw => ?_)
  refine lv_astore_n (lv' := [(2, .ref b2), (1, .ref b1), (0, .ref b)]) C.1 C.2.1 dL_law_15 rfl hl (by decide) rfl (fun ls hl => ?_)
  refine lv_iconst (v := (0 : Int32)) C.1 C.2.1 dL_law_16 (by decide) ?_
  refine lv_istore_n (lv' := [(3, .int (0 : Int32)), (2, .ref b2), (1, .ref b1), (0, .ref b)]) C.1 C.2.1 dL_law_17 rfl hl (by decide) rfl (fun ls hl => ?_)
  refine W.widen (k := 100 + 0) (n := 3000 + 2 * 0) (Nat.le_of_ble_eq_true rfl) (Nat.le_of_ble_eq_true rfl) ?_
  exact law_loop C hr hlocks hX hbl hL (L + 1) 0 (X.1, X.2.1, ad_0 b1 b2 u w, X.2.2.2) z_0 (Nat.zero_le L) (by omega) hB inv_0 H locs (xw_0 hw) ls (lv_sub hl [3, 2, 1, 0] rfl)
