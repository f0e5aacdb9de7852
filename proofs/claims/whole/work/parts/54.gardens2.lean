theorem in02 (x : Int32) (z : XS) : D_X10_in x.toInt64 0 2 z = some (if 0 ≤ x.toInt ∧ x.toInt ≤ 2 then 1 else 0, z) := by
  rw [in_ev, wide]; rfl
theorem eq_gardens (z : XS) (hI : Inv z) (x1 x2 x3 x4 : Int32) : ∃ (r : Int32) (z1 z2 : XS), D_X9_gardens x1 x2 x3 x4 z = some (r, z1) ∧ D_X10_gardens x1 x2 x3 x4 z1 = some (r, z2) ∧ Inv z2 := by
  have hs0 := hI.2.2.2.2.2.2.2.1
  unfold D_X9_gardens D_X10_gardens J_X10_gardens_57
  rw [Option.bind_some, sheet_ev, Option.bind_some]
  by_cases h : 0 ≤ x1.toInt ∧ x1.toInt ≤ 3
  · rw [if_pos h, if_neg nm1, within_ev, Option.bind_some, show (2 : Int32).toInt = 2 from rfl]
    obtain ⟨k, hk, rfl⟩ := num_of (m := 3) h
    have eB : inB (nI k) 4 = true := inB_nI (by omega) (by decide)
    have eN : (nI k).toNatClampNeg = k := tN_nI (by omega)
    by_cases h2 : 0 ≤ x2.toInt ∧ x2.toInt ≤ 2
    · rw [if_pos h2, if_neg nm1, eB, gd_t, eN, lane_ev, Option.bind_some]
      rcases hs0 k (by omega) with ⟨q1, q2, q3⟩ | ⟨n, ln, q1, q2, q3, q4, q5, q6, q7⟩
      · have q1' : gS (pS z 0 4 0 0) 5 1 k = -1 := q1
        unfold D_X5_hasNothing
        rw [if_pos q1', if_pos nm2, if_pos q1', Option.bind_some, if_neg nm1, fl_ev, Option.bind_some, pS_pS]
        refine ⟨-10 - 1, pS z 0 4 0 1, pS (pS z 0 4 0 1) 17 0 0 1, rfl, ?_, inv_fault hI 1⟩
        have q2' : gA (pS z 0 4 0 1) 18 13 k = -1 := q2
        rw [msheet_ev, Option.bind_some, if_pos h, if_pos nm2, in02, Option.bind_some, if_pos h2, if_neg nm1, gd_t, q2', if_pos (by decide), gd_t, if_neg (by decide)]
        rfl
      · have n1 : ¬ gS (pS z 0 4 0 0) 5 1 k = -1 := by
          intro q
          have q' : gS z 5 1 k = -1 := q
          rw [q3] at q'
          exact lane_pos q2 q'
        have q3' : gS (pS z 0 4 0 0) 5 1 k = nI ln := q3
        have q5' : gS (pS z 0 4 0 0) 5 2 k = nI n := q5
        have q6' : ∀ v, gA (pS z 0 4 0 v) 18 13 k = nI n := fun _ => q6
        have q4' : ∀ v, gA (pS z 0 4 0 v) 18 14 k = nI ln := fun _ => q4
        have ng : ¬ nI n < (0 : Int32) := nI_nneg (by omega)
        have pn : (0 : Int32) ≤ nI n := nI_nn (by omega)
        rw [if_neg n1, q3']
        by_cases hl : nI ln = x2
        · rw [if_pos hl, if_pos nm2]
          unfold D_X5_hasNothing
          rw [if_neg n1, Option.bind_some, if_pos nm2]
          by_cases hn0 : 0 ≤ x4
          · rw [if_pos hn0, run_ev q5' q1, Option.bind_some]
            by_cases hr : 0 ≤ x3.toInt ∧ 0 ≤ x4.toInt ∧ x3.toInt + x4.toInt ≤ (n : Int)
            · rw [if_pos hr, if_neg nm1]
              obtain ⟨i, c, rfl, rfl, hic⟩ := num3 hr
              have hTc : ∀ t, t < c → gA (pS z 0 4 0 0) 6 k (i + t) = (fun t => gA z 18 15 (60 * k + i + t)) t := fun t ht => by
                show gA z 6 k (i + t) = gA z 18 15 (60 * k + i + t)
                rw [q7 (i + t) (by omega), Nat.add_assoc]
              rcases ff_ev (z := pS z 0 4 0 0) (k := k) (i := i) (n := c) (T := fun t => gA z 18 15 (60 * k + i + t)) (by omega) hTc with ⟨p, hp, ef⟩ | ⟨hG, ef⟩
              · have hpl := hp.1
                rw [ef, Option.bind_some, if_neg (nI_nm1 (by omega))]
                rcases all_ev (z := pS z 0 4 0 0) (F := 60 * k + i) (n := c) (T := fun t => gA z 18 15 (60 * k + i + t)) (by omega) (by omega) (fun t ht => rfl) with ⟨p', b, g5, g6, g7, hp', ea⟩ | ⟨g5, g6, g7, hG, hRd, ea⟩
                · have epp := flt_uni hp hp'
                  subst epp
                  refine ⟨-100 - nI p, pS z 0 4 0 0, pS (rst (pS z 0 4 0 0) (nI p) b g5 g6 g7) 17 0 0 0, rfl, ?_, inv_rst (inv_fault hI 0) _ _ _ _ _⟩
                  rw [msheet_ev, Option.bind_some, if_pos h, if_pos nm2, in02, Option.bind_some, if_pos h2, if_neg nm1, gd_t, q6', if_neg ng, gd_t, q4', if_pos hl, gd_t, if_pos pn, if_pos hn0, gd_t, beyond_ev q1, Option.bind_some, if_pos hr, if_pos nm2, pk60 (by omega) (by omega), ea, Option.bind_some, if_pos nm2]
                  rfl
                · exact absurd (flt_good hp hG) (fun x => x)
              · obtain ⟨w, ew, hP⟩ := row_ev (z := pS z 0 4 0 0) (k := k) (i := i) (n := c) (T := fun t => gA z 18 15 (60 * k + i + t)) (by omega) hTc hG
                have wS := hP.2.2.1
                have wA := hP.2.2.2
                rw [ef, Option.bind_some, if_pos rfl, ew, Option.bind_some]
                unfold D_X3_clear
                rw [Option.bind_some, Option.bind_some]
                have e12 : gS (pS w 2 4 0 0) 1 2 0 = nI ((c + 1) / 3) := wS 1 2 0 (by decide)
                have hTw : ∀ t, t < c → gA (pS w 2 4 0 0) 18 15 (60 * k + i + t) = (fun t => gA z 18 15 (60 * k + i + t)) t := fun t ht => wA 18 15 _ (by decide) (by decide) (by decide) (by decide)
                rcases all_ev (z := pS w 2 4 0 0) (F := 60 * k + i) (n := c) (T := fun t => gA z 18 15 (60 * k + i + t)) (by omega) (by omega) hTw with ⟨p', b, g5, g6, g7, hp', ea⟩ | ⟨g5, g6, g7, hG', hRd, ea⟩
                · exact absurd (flt_good hp' hG) (fun x => x)
                · obtain ⟨z2, e2, I2⟩ := new_ev (z := z) (w := w) hI (k := k) (i := i) (n := c) (T := fun t => gA z 18 15 (60 * k + i + t)) (nI k) x2 (nI i) (nI c) hG hP hRd
                  refine ⟨nI ((c + 1) / 3), pS w 2 4 0 0, z2, by rw [e12], ?_, I2⟩
                  have w13 : gA (pS w 2 4 0 0) 18 13 k = nI n := (wA 18 13 k (by decide) (by decide) (by decide) (by decide)).trans q6
                  have w14 : gA (pS w 2 4 0 0) 18 14 k = nI ln := (wA 18 14 k (by decide) (by decide) (by decide) (by decide)).trans q4
                  rw [msheet_ev, Option.bind_some, if_pos h, if_pos nm2, in02, Option.bind_some, if_pos h2, if_neg nm1, gd_t, w13, if_neg ng, gd_t, w14, if_pos hl, gd_t, if_pos pn, if_pos hn0, gd_t, beyond_ev q1, Option.bind_some, if_pos hr, if_pos nm2, pk60 (by omega) (by omega), ea, Option.bind_some, if_neg nm1, Option.bind_some, rst_g8]
                  exact e2
            · rw [if_neg hr, if_pos nm2, fl_ev, Option.bind_some, pS_pS]
              refine ⟨-10 - 3, pS z 0 4 0 3, pS (pS z 0 4 0 3) 17 0 0 3, rfl, ?_, inv_fault hI 3⟩
              rw [msheet_ev, Option.bind_some, if_pos h, if_pos nm2, in02, Option.bind_some, if_pos h2, if_neg nm1, gd_t, q6', if_neg ng, gd_t, q4', if_pos hl, gd_t, if_pos pn, if_pos hn0, gd_t, beyond_ev q1, Option.bind_some, if_neg hr, if_neg nm1]
              rfl
          · rw [if_neg hn0, fl_ev, Option.bind_some, pS_pS]
            refine ⟨-10 - 4, pS z 0 4 0 4, pS (pS z 0 4 0 4) 17 0 0 4, rfl, ?_, inv_fault hI 4⟩
            rw [msheet_ev, Option.bind_some, if_pos h, if_pos nm2, in02, Option.bind_some, if_pos h2, if_neg nm1, gd_t, q6', if_neg ng, gd_t, q4', if_pos hl, gd_t, if_pos pn, if_neg hn0]
            rfl
        · rw [if_neg hl, if_neg nm1, fl_ev, Option.bind_some, pS_pS]
          refine ⟨-10 - 2, pS z 0 4 0 2, pS (pS z 0 4 0 2) 17 0 0 2, rfl, ?_, inv_fault hI 2⟩
          rw [msheet_ev, Option.bind_some, if_pos h, if_pos nm2, in02, Option.bind_some, if_pos h2, if_neg nm1, gd_t, q6', if_neg ng, gd_t, q4', if_neg hl]
          rfl
    · rw [if_neg h2, if_pos nm2]
      refine ⟨-2, pS z 0 4 0 0, pS (pS z 0 4 0 0) 17 0 0 0, rfl, ?_, inv_fault hI 0⟩
      rw [msheet_ev, Option.bind_some, if_pos h, if_pos nm2, in02, Option.bind_some, if_neg h2, if_pos nm2]
      rfl
  · rw [if_neg h, if_pos nm2]
    refine ⟨-1, pS z 0 4 0 0, pS (pS z 0 4 0 0) 17 0 0 0, rfl, ?_, inv_fault hI 0⟩
    rw [msheet_ev, Option.bind_some, if_neg h, if_neg nm1]
    rfl
