/-- what a sheet is: nothing, or a row -/
theorem lane_pos {ln : Nat} (h : ln ≤ 2) : ¬ nI ln = (-1 : Int32) := by
  intro q
  have h1 := (i_eq _ _).mp q
  rw [nI_i (by omega), show ((-1 : Int32)).toInt = -1 from rfl] at h1
  omega
theorem nI_nn {n : Nat} (h : n ≤ 1000000) : (0 : Int32) ≤ nI n := by
  rw [i_le, nI_i h]
  show (0 : Int) ≤ n
  omega
theorem nI_nneg {n : Nat} (h : n ≤ 1000000) : ¬ nI n < (0 : Int32) := by
  rw [i_lt, nI_i h]
  show ¬ (n : Int) < 0
  omega
theorem n10 : ¬ (1 : Int32) ≤ 0 := by decide
theorem n30 : ¬ (3 : Int32) ≤ 0 := by decide
theorem l00 : (0 : Int32) ≤ 0 := by decide
theorem eq_lose (z : XS) (hI : Inv z) (x1 : Int32) : ∃ (r : Int32) (z1 z2 : XS), D_X9_lose x1 z = some (r, z1) ∧ D_X10_lose x1 z1 = some (r, z2) ∧ Inv z2 := by
  have hs0 := hI.2.2.2.2.2.2.2.1
  have hf0 := hI.2.2.2.2.2.2.2.2.1
  unfold D_X9_lose D_X10_lose J_X10_lose_23 D_X5_hasNothing
  rw [sheet_ev, Option.bind_some]
  by_cases h : 0 ≤ x1.toInt ∧ x1.toInt ≤ 3
  · rw [if_pos h, if_neg nm1]
    obtain ⟨k, hk, rfl⟩ := num_of (m := 3) h
    have eB : inB (nI k) 4 = true := inB_nI (by omega) (by decide)
    have eN : (nI k).toNatClampNeg = k := tN_nI (by omega)
    rw [eB, gd_t, eN]
    rcases hs0 k (by omega) with ⟨q1, q2, q3⟩ | ⟨n, ln, q1, q2, q3, q4, q5, q6, q7⟩
    · have q1' : gS (if 0 ≤ (nI k).toInt ∧ (nI k).toInt ≤ 3 then (1 : Int32) else 0, z).2 5 1 k = -1 := q1
      rw [if_pos q1, Option.bind_some, if_neg nm1]
      refine ⟨0, z, z, rfl, ?_, hI⟩
      rw [msheet_ev, Option.bind_some, if_pos h, if_pos nm2, gd_t, q2, if_neg (by decide), gd_t, Option.bind_some]
      have e : pA z 18 13 k (-1) = z := by
        have e2 := pA_self z 18 13 k
        rw [q2] at e2
        exact e2
      rw [e]
    · have n1 : ¬ gS z 5 1 k = -1 := by rw [q3]; exact lane_pos q2
      rw [if_neg n1, Option.bind_some, if_pos nm2]
      refine ⟨1, pS (pS z 5 1 k (-1)) 5 2 k 0, pA (pS (pS z 5 1 k (-1)) 5 2 k 0) 18 13 k (-1), rfl, ?_, ?_⟩
      · rw [msheet_ev, Option.bind_some, if_pos h, if_pos nm2, gd_t]
        have e : gA (pS (pS z 5 1 k (-1)) 5 2 k 0) 18 13 k = nI n := q6
        rw [e, if_pos (nI_nn (by omega)), gd_t]
        rfl
      · refine inv_sh hI ⟨⟨rfl, rfl⟩, fun _ => rfl, fun j hj i => ?_, fun _ => rfl, fun _ _ => rfl, fun _ _ => rfl, fun _ _ => rfl, fun _ _ => rfl⟩ ⟨⟨rfl, rfl⟩, fun _ _ => rfl, fun j hj hj2 i => ?_⟩ ?_ hf0 ⟨rfl, rfl⟩
        · rw [gA_pA', if_neg (by omega)]; rfl
        · rw [gA_pA', if_neg (by omega)]; rfl
        · intro k' hk'
          by_cases e : k' = k
          · subst e
            refine Or.inl ⟨?_, ?_, ?_⟩
            · simp [gS_pS', gS_pA]
            · simp [gA_pA']
            · simp [gS_pS', gS_pA]
          · have a1 : ∀ f, gS (pA (pS (pS z 5 1 k (-1)) 5 2 k 0) 18 13 k (-1)) 5 f k' = gS z 5 f k' := by
              intro f
              simp [gS_pS', gS_pA, e]
            have a2 : gA (pA (pS (pS z 5 1 k (-1)) 5 2 k 0) 18 13 k (-1)) 18 13 k' = gA z 18 13 k' := by
              simp [gA_pA', gA_pS, e]
            rw [a1, a1, a2]
            rcases hs0 k' hk' with q | q
            · exact Or.inl q
            · exact Or.inr q
  · rw [if_neg h, if_pos nm2]
    refine ⟨-1, z, z, rfl, ?_, hI⟩
    rw [msheet_ev, Option.bind_some, if_neg h, if_neg nm1]
/-- what comes to a cell of a lane -/
def cutL (ln : Nat) (v : Int32) : Int32 := if ln = 0 then v.toInt8.toInt32 else if ln = 1 then v.toInt16.toInt32 else v
theorem holds_ev {z : XS} {k n : Nat} (hn : gS z 5 2 k = nI n) (h60 : n ≤ 60) (x : Int32) : D_X5_holds k x z = some (if 0 ≤ x.toInt ∧ x.toInt < (n : Int) then 1 else 0, z) := by
  unfold D_X5_holds
  rw [hn]
  have e := nI_i (n := n) (by omega)
  by_cases h : x < 0
  · have h1 : x.toInt < 0 := (i_lt x 0).mp h
    rw [if_pos h, if_neg (by omega)]
  · have h1 : ¬ x.toInt < 0 := fun q => h ((i_lt x 0).mpr q)
    rw [if_neg h]
    by_cases h2 : nI n ≤ x
    · have h3 := (i_le _ _).mp h2
      rw [if_pos h2, if_neg (by omega)]
    · have h3 : ¬ (nI n).toInt ≤ x.toInt := fun q => h2 ((i_le _ _).mpr q)
      rw [if_neg h2, if_pos (by omega)]
theorem write_ev {z : XS} {k ln i : Nat} (hl : gS z 5 1 k = nI ln) (h2 : ln ≤ 2) (hi : i < 60) (v : Int32) : D_X5_write k (nI i) v z = some (pA z 6 k i (cutL ln v)) := by
  unfold D_X5_write cutL
  rw [hl, inB_nI hi (by decide), gd_t, gd_t, gd_t, tN_nI (by omega)]
  match ln, h2 with
  | 0, _ => rfl
  | 1, _ => rfl
  | 2, _ => rfl
theorem nocell_n {z : XS} {k : Nat} (hk : k < 4) (h : gA z 18 13 k = -1) (x : Int32) : D_X10_noCell (nI k) x z = some (1, z) := by
  unfold D_X10_noCell
  rw [inB_nI hk (by decide), gd_t, tN_nI (by omega), h, if_neg (by decide)]
theorem nocell_r {z : XS} {k n : Nat} (hk : k < 4) (h : gA z 18 13 k = nI n) (h60 : n ≤ 60) (x : Int32) : D_X10_noCell (nI k) x z = some (if 0 ≤ x.toInt ∧ x.toInt < (n : Int) then 0 else 3, z) := by
  unfold D_X10_noCell
  rw [inB_nI hk (by decide), gd_t, gd_t, tN_nI (by omega), h, if_pos (nI_nn (by omega)), in_ev, Option.bind_some, wide, l_sub1, nI_i (by omega), show (0 : Int64).toInt = 0 from rfl]
  by_cases q : 0 ≤ x.toInt ∧ x.toInt < (n : Int)
  · have q2 : 0 ≤ x.toInt ∧ x.toInt ≤ (n : Int) - 1 := by omega
    rw [if_pos q, if_pos q2]
    rfl
  · have q2 : ¬ (0 ≤ x.toInt ∧ x.toInt ≤ (n : Int) - 1) := by omega
    rw [if_neg q, if_neg q2]
    rfl
theorem eq_put (z : XS) (hI : Inv z) (x1 x2 x3 : Int32) : ∃ (r : Int32) (z1 z2 : XS), D_X9_put x1 x2 x3 z = some (r, z1) ∧ D_X10_put x1 x2 x3 z1 = some (r, z2) ∧ Inv z2 := by
  have hs0 := hI.2.2.2.2.2.2.2.1
  unfold D_X9_put D_X10_put
  rw [Option.bind_some, sheet_ev, Option.bind_some]
  by_cases h : 0 ≤ x1.toInt ∧ x1.toInt ≤ 3
  · rw [if_pos h, if_neg nm1]
    obtain ⟨k, hk, rfl⟩ := num_of (m := 3) h
    have eB : inB (nI k) 4 = true := inB_nI (by omega) (by decide)
    have eN : (nI k).toNatClampNeg = k := tN_nI (by omega)
    simp only [eB, gd_t, eN]
    unfold D_X5_hasNothing
    rcases hs0 k (by omega) with ⟨q1, q2, q3⟩ | ⟨n, ln, q1, q2, q3, q4, q5, q6, q7⟩
    · have q1' : gS (pS z 0 4 0 0) 5 1 k = -1 := q1
      rw [if_pos q1', Option.bind_some, if_neg nm1, fl_ev, Option.bind_some, pS_pS]
      refine ⟨-10 - 1, pS z 0 4 0 1, pS (pS z 0 4 0 1) 17 0 0 1, rfl, ?_, inv_fault hI 1⟩
      have q2' : gA (pS z 0 4 0 1) 18 13 k = -1 := q2
      rw [msheet_ev, Option.bind_some, if_pos h, if_pos nm2, nocell_n (by omega) q2', Option.bind_some, if_neg n10, nocell_n (by omega) q2']
      rfl
    · have n1 : ¬ gS (pS z 0 4 0 0) 5 1 k = -1 := by
        intro q
        have q' : gS z 5 1 k = -1 := q
        rw [q3] at q'
        exact lane_pos q2 q'
      have q5' : gS (pS z 0 4 0 0) 5 2 k = nI n := q5
      have q3' : gS (pS z 0 4 0 0) 5 1 k = nI ln := q3
      rw [if_neg n1, Option.bind_some, if_pos nm2, holds_ev q5' q1, Option.bind_some]
      by_cases hi : 0 ≤ x2.toInt ∧ x2.toInt < (n : Int)
      · rw [if_pos hi, if_neg nm1]
        obtain ⟨i, hin, rfl⟩ := garden_n hi
        rw [write_ev q3' q2 (by omega), Option.bind_some]
        refine ⟨1, pA (pS z 0 4 0 0) 6 k i (cutL ln x3), pS (pA (pA (pS z 0 4 0 0) 6 k i (cutL ln x3)) 18 15 (60 * k + i) (cutL ln x3)) 17 0 0 0, rfl, ?_, ?_⟩
        · have q6' : gA (pA (pS z 0 4 0 0) 6 k i (cutL ln x3)) 18 13 k = nI n := q6
          have q4' : gA (pA (pS z 0 4 0 0) 6 k i (cutL ln x3)) 18 14 k = nI ln := q4
          rw [msheet_ev, Option.bind_some, if_pos h, if_pos nm2, nocell_r (by omega) q6' q1, Option.bind_some, if_pos hi, if_pos l00, pk60 (by omega) (by omega), inB_nI (by omega) (by decide), gd_t, gd_t, gd_t, tN_nI (by omega), q4']
          unfold cutL
          match ln, q2 with
          | 0, _ => rfl
          | 1, _ => rfl
          | 2, _ => rfl
        · refine inv_sh hI ⟨⟨rfl, rfl⟩, fun _ => rfl, fun j hj i => ?_, fun _ => rfl, fun _ _ => rfl, fun _ _ => rfl, fun _ _ => rfl, fun _ _ => rfl⟩ ⟨⟨rfl, rfl⟩, fun _ _ => rfl, fun j hj hj2 i => ?_⟩ ?_ rfl ⟨rfl, rfl⟩
          · rw [gA_pS, gA_pA', if_neg (by omega)]; rfl
          · rw [gA_pS, gA_pA', if_neg (by omega)]; rfl
          · intro k' hk'
            rcases hs0 k' hk' with q | ⟨n', ln', p1, p2, p3, p4, p5, p6, p7⟩
            · exact Or.inl q
            · refine Or.inr ⟨n', ln', p1, p2, p3, p4, p5, p6, fun t ht => ?_⟩
              rw [gA_pS, gA_pA', if_neg (by omega), gA_pA', gA_pS, gA_pS, gA_pA', gA_pA', gA_pS]
              have p8 := p7 t ht
              by_cases e : k' = k ∧ t = i
              · rw [if_pos ⟨rfl, e.1, e.2⟩, if_pos ⟨rfl, rfl, by rw [e.1, e.2]⟩]
              · rw [if_neg (fun w => e ⟨w.2.1, w.2.2⟩), if_neg (by omega), if_neg (by omega)]
                exact p8
      · rw [if_neg hi, if_pos nm2, fl_ev, Option.bind_some, pS_pS]
        refine ⟨-10 - 3, pS z 0 4 0 3, pS (pS z 0 4 0 3) 17 0 0 3, rfl, ?_, inv_fault hI 3⟩
        have q6' : gA (pS z 0 4 0 3) 18 13 k = nI n := q6
        rw [msheet_ev, Option.bind_some, if_pos h, if_pos nm2, nocell_r (by omega) q6' q1, Option.bind_some, if_neg hi, if_neg n30, nocell_r (by omega) q6' q1, Option.bind_some, if_neg hi]
        rfl
  · rw [if_neg h, if_pos nm2]
    refine ⟨-1, pS z 0 4 0 0, pS (pS z 0 4 0 0) 17 0 0 0, rfl, ?_, inv_fault hI 0⟩
    rw [msheet_ev, Option.bind_some, if_neg h, if_neg nm1]
    rfl
theorem lb_ev (v : Int32) (z : XS) : D_X9_lostBy v z = some (-9223372036854775808, pS z 0 4 0 v) := rfl
theorem fdl_ev (v : Int32) (z : XS) : D_X10_failedLong v z = some (-9223372036854775808, pS z 17 0 0 v) := rfl
theorem lane_ev (k : Nat) (x : Int32) (z : XS) : D_X5_isOfOtherLane k x z = some (if gS z 5 1 k = -1 then 0 else if gS z 5 1 k = x then 0 else 1, z) := by
  unfold D_X5_isOfOtherLane
  by_cases h : gS z 5 1 k = -1
  · rw [if_pos h, if_pos h]
  · rw [if_neg h, if_neg h]
    by_cases h2 : gS z 5 1 k = x
    · rw [if_pos h2, if_pos h2]
    · rw [if_neg h2, if_neg h2]
theorem pS_two (z : XS) (v w u : Int32) : pS (pS (pS z 0 4 0 v) 17 0 0 w) 17 0 0 u = pS (pS z 0 4 0 v) 17 0 0 u := pS_pS _ _ _ _ _ _
theorem eq_cell (z : XS) (hI : Inv z) (x1 x2 x3 : Int32) : ∃ (r : Int64) (z1 z2 : XS), D_X9_cell x1 x2 x3 z = some (r, z1) ∧ D_X10_cell x1 x2 x3 z1 = some (r, z2) ∧ Inv z2 := by
  have hs0 := hI.2.2.2.2.2.2.2.1
  unfold D_X9_cell D_X10_cell
  rw [Option.bind_some, sheet_ev, Option.bind_some]
  by_cases h : 0 ≤ x1.toInt ∧ x1.toInt ≤ 3
  · rw [if_pos h, if_neg nm1, within_ev, Option.bind_some]
    obtain ⟨k, hk, rfl⟩ := num_of (m := 3) h
    have eB : inB (nI k) 4 = true := inB_nI (by omega) (by decide)
    have eN : (nI k).toNatClampNeg = k := tN_nI (by omega)
    by_cases h2 : 0 ≤ x3.toInt ∧ x3.toInt ≤ 2
    · have h2' : 0 ≤ x3.toInt ∧ x3.toInt ≤ (2 : Int32).toInt := h2
      have h2'' : (0 : Int64).toInt ≤ x3.toInt ∧ x3.toInt ≤ (2 : Int64).toInt := h2
      rw [if_pos h2', if_neg nm1, eB, gd_t, eN, lane_ev, Option.bind_some]
      unfold J_X10_cell_53
      rcases hs0 k (by omega) with ⟨q1, q2, q3⟩ | ⟨n, ln, q1, q2, q3, q4, q5, q6, q7⟩
      · have q1' : gS (pS z 0 4 0 0) 5 1 k = -1 := q1
        unfold D_X5_hasNothing
        rw [if_pos q1', if_pos nm2, if_pos q1', Option.bind_some, if_neg nm1, lb_ev, Option.bind_some, pS_pS]
        refine ⟨-9223372036854775808, pS z 0 4 0 1, pS (pS z 0 4 0 1) 17 0 0 1, rfl, ?_, inv_fault hI 1⟩
        have q2' : gA (pS (pS z 0 4 0 1) 17 0 0 0) 18 13 k = -1 := q2
        rw [Option.bind_some, msheet_ev, Option.bind_some, if_pos h, if_pos nm2, in_ev, Option.bind_some, wide, if_pos h2'', if_neg nm1, gd_t, q2', if_pos (by decide), nocell_n (by omega) q2', Option.bind_some, if_neg n10, nocell_n (by omega) q2', Option.bind_some, fdl_ev, Option.bind_some, pS_pS]
      · have n1 : ¬ gS (pS z 0 4 0 0) 5 1 k = -1 := by
          intro q
          have q' : gS z 5 1 k = -1 := q
          rw [q3] at q'
          exact lane_pos q2 q'
        have q5' : gS (pS z 0 4 0 0) 5 2 k = nI n := q5
        have q3' : gS (pS z 0 4 0 0) 5 1 k = nI ln := q3
        have ng : ¬ nI n < (0 : Int32) := nI_nneg (by omega)
        rw [if_neg n1, q3']
        by_cases hl : nI ln = x3
        · rw [if_pos hl, if_pos nm2]
          unfold D_X5_hasNothing
          rw [if_neg n1, Option.bind_some, if_pos nm2, holds_ev q5' q1, Option.bind_some]
          by_cases hi : 0 ≤ x2.toInt ∧ x2.toInt < (n : Int)
          · obtain ⟨i, hin, rfl⟩ := garden_n hi
            rw [if_pos hi, if_neg nm1, inB_nI (by omega) (by decide), gd_t, tN_nI (by omega)]
            refine ⟨(gA z 6 k i).toInt64, pS z 0 4 0 0, pS (pS z 0 4 0 0) 17 0 0 0, rfl, ?_, inv_fault hI 0⟩
            have q6' : gA (pS (pS z 0 4 0 0) 17 0 0 0) 18 13 k = nI n := q6
            have q4' : gA (pS (pS z 0 4 0 0) 17 0 0 0) 18 14 k = nI ln := q4
            rw [Option.bind_some, msheet_ev, Option.bind_some, if_pos h, if_pos nm2, in_ev, Option.bind_some, wide, if_pos h2'', if_neg nm1, gd_t, q6', if_neg ng, gd_t, q4', if_pos hl, nocell_r (by omega) q6' q1, Option.bind_some, if_pos hi, if_pos l00, pk60 (by omega) (by omega), inB_nI (by omega) (by decide), gd_t, tN_nI (by omega)]
            show some ((gA z 18 15 (60 * k + i)).toInt64, _) = _
            rw [← q7 i hin]
          · rw [if_neg hi, if_pos nm2, lb_ev, Option.bind_some, pS_pS]
            refine ⟨-9223372036854775808, pS z 0 4 0 3, pS (pS z 0 4 0 3) 17 0 0 3, rfl, ?_, inv_fault hI 3⟩
            have q6' : gA (pS (pS z 0 4 0 3) 17 0 0 0) 18 13 k = nI n := q6
            have q4' : gA (pS (pS z 0 4 0 3) 17 0 0 0) 18 14 k = nI ln := q4
            rw [Option.bind_some, msheet_ev, Option.bind_some, if_pos h, if_pos nm2, in_ev, Option.bind_some, wide, if_pos h2'', if_neg nm1, gd_t, q6', if_neg ng, gd_t, q4', if_pos hl, nocell_r (by omega) q6' q1, Option.bind_some, if_neg hi, if_neg n30, nocell_r (by omega) q6' q1, Option.bind_some, if_neg hi, fdl_ev, Option.bind_some, pS_pS]
        · rw [if_neg hl, if_neg nm1, lb_ev, Option.bind_some, pS_pS]
          refine ⟨-9223372036854775808, pS z 0 4 0 2, pS (pS z 0 4 0 2) 17 0 0 2, rfl, ?_, inv_fault hI 2⟩
          have q6' : gA (pS (pS z 0 4 0 2) 17 0 0 0) 18 13 k = nI n := q6
          have q4' : gA (pS (pS z 0 4 0 2) 17 0 0 0) 18 14 k = nI ln := q4
          rw [Option.bind_some, msheet_ev, Option.bind_some, if_pos h, if_pos nm2, in_ev, Option.bind_some, wide, if_pos h2'', if_neg nm1, gd_t, q6', if_neg ng, gd_t, q4', if_neg hl, fdl_ev, Option.bind_some, pS_pS]
    · have h2' : ¬ (0 ≤ x3.toInt ∧ x3.toInt ≤ (2 : Int32).toInt) := h2
      have h2'' : ¬ ((0 : Int64).toInt ≤ x3.toInt ∧ x3.toInt ≤ (2 : Int64).toInt) := h2
      rw [if_neg h2', if_pos nm2]
      refine ⟨-9223372036854775808, pS z 0 4 0 0, pS (pS z 0 4 0 0) 17 0 0 0, rfl, ?_, inv_fault hI 0⟩
      rw [Option.bind_some, msheet_ev, Option.bind_some, if_pos h, if_pos nm2, in_ev, Option.bind_some, wide, if_neg h2'', if_pos nm2]
      rfl
  · rw [if_neg h, if_pos nm2]
    refine ⟨-9223372036854775808, pS z 0 4 0 0, pS (pS z 0 4 0 0) 17 0 0 0, rfl, ?_, inv_fault hI 0⟩
    rw [Option.bind_some, msheet_ev, Option.bind_some, if_neg h, if_neg nm1]
    rfl
