theorem pS_pS (z : XS) (k f j : Nat) (v w : Int32) : pS (pS z k f j v) k f j w = pS z k f j w := by
  apply xs_ext
  · intro k' f' j'
    rw [gS_pS', gS_pS', gS_pS']
    by_cases h : k' = k ∧ f' = f ∧ j' = j
    · rw [if_pos h, if_pos h]
    · rw [if_neg h, if_neg h, if_neg h]
  · intro _ _ _; rfl
  · intro _; rfl
theorem inv_fault {z : XS} (hI : Inv z) (v : Int32) : Inv (pS (pS z 0 4 0 v) 17 0 0 v) := by
  obtain ⟨h1, h2, h3, h4, h5, h6, h7, h8, h9, h10⟩ := hI
  exact ⟨h1, h2, h3, h4, h5, h6, h7, h8, rfl, h10⟩
theorem inv_trace {z : XS} (hI : Inv z) (v : Int32) : Inv (pS (pS z 3 0 0 v) 17 22 0 v) := by
  obtain ⟨h1, h2, h3, h4, h5, h6, h7, h8, h9, h10⟩ := hI
  exact ⟨h1, h2, h3, h4, h5, h6, h7, h8, h9, rfl⟩
theorem eq_many (z : XS) (hI : Inv z) (x1 : Int32) : ∃ (r : Int32) (z1 z2 : XS), D_X9_many x1 z = some (r, z1) ∧ D_X10_many x1 z1 = some (r, z2) ∧ Inv z2 := by
  obtain ⟨⟨c1, c2, c3, c4⟩, hg, hh, -, -, -, ⟨r, r1, r2, r3, -⟩, -⟩ := id hI
  unfold D_X9_many D_X10_many
  by_cases h0 : x1 = 0
  · rw [if_pos h0, c1]
    exact ⟨nI (cN z), z, z, rfl, by rw [if_pos h0, c4], hI⟩
  · rw [if_neg h0]
    by_cases h1 : x1 = 1
    · rw [if_pos h1]
      refine ⟨nI (cN z - 1), z, z, ?_, ?_, hI⟩
      · rw [c1]
        have e := nI_m1 (c := cN z) (by omega)
        have e0 : (0 : Int32).toInt = 0 := rfl
        by_cases q : (0 : Int32) < nI (cN z) - 1
        · have q2 := (i_lt _ _).mp q
          rw [if_pos q, show (1 : Int32) = nI 1 from rfl, pk_sub (by omega)]
        · have q2 : ¬ (0 : Int32).toInt < (nI (cN z) - 1).toInt := fun w => q ((i_lt _ _).mpr w)
          rw [if_neg q, show cN z - 1 = 0 by omega]
          rfl
      · rw [if_neg h0, if_pos h1, mhedges_ev c4 c3]
        rfl
    · rw [if_neg h1]
      by_cases h2 : x1 = 2
      · rw [if_pos h2, r2]
        exact ⟨nI r, z, z, rfl, by rw [if_neg h0, if_neg h1, if_pos h2, r3], hI⟩
      · rw [if_neg h2]
        exact ⟨-2, z, z, rfl, by rw [if_neg h0, if_neg h1, if_neg h2], hI⟩
theorem fl_ev (v : Int32) (z : XS) : D_X9_faulted v z = some (-10 - v, pS z 0 4 0 v) := rfl
theorem rf_ev (v : Int32) (z : XS) : D_X10_refused v z = some (v, pS z 17 0 0 0) := rfl
theorem fd_ev (v : Int32) (z : XS) : D_X10_failed v z = some (-10 - v, pS z 17 0 0 v) := rfl
theorem eq_as (z : XS) (hI : Inv z) (x1 x2 : Int32) : ∃ (r : Int32) (z1 z2 : XS), D_X9_as x1 x2 z = some (r, z1) ∧ D_X10_as x1 x2 z1 = some (r, z2) ∧ Inv z2 := by
  obtain ⟨⟨c1, c2, c3, c4⟩, hg, hh, -⟩ := id hI
  have d1 : gS (pS z 0 4 0 0) 1 2 0 = nI (cN z) := c1
  have d4 : ∀ v, gS (pS z 0 4 0 v) 17 1 0 = nI (cN z) := fun v => c4
  unfold D_X9_as D_X10_as
  rw [Option.bind_some, hedge_ev d1 c3, Option.bind_some]
  by_cases h : 0 ≤ x1.toInt ∧ x1.toInt + 1 < (cN z : Int)
  · obtain ⟨g, hgc, rfl⟩ := hedge_n h
    obtain ⟨k1, k2, k3, k4⟩ := hh g hgc
    have eB : inB (nI g) 6 = true := inB_nI (by omega) (by decide)
    have eN : (nI g).toNatClampNeg = g := tN_nI (by omega)
    have k1' : KH ((pS z 0 4 0 0).2.2 g) (gA z 18 1 g) := k1
    rw [if_pos h, if_neg nm1, within_ev, Option.bind_some]
    by_cases h2 : 0 ≤ x2.toInt ∧ x2.toInt ≤ 2
    · have h2' : 0 ≤ x2.toInt ∧ x2.toInt ≤ (2 : Int32).toInt := h2
      rw [if_pos h2', if_neg nm1, eB, gd_t, eN, kind_ev k1', Option.bind_some]
      by_cases h3 : gA z 18 1 g < x2
      · refine ⟨-10 - 2, pS z 0 4 0 2, pS (pS z 0 4 0 2) 17 0 0 2, ?_, ?_, inv_fault hI 2⟩
        · rw [if_pos h3, fl_ev, Option.bind_some, pS_pS]
        · rw [mhedge_ev (d4 2) c3, Option.bind_some, if_pos h, if_pos nm2, in_ev, Option.bind_some, wide]
          have h2'' : (0 : Int64).toInt ≤ x2.toInt ∧ x2.toInt ≤ (2 : Int64).toInt := h2
          rw [if_pos h2'', if_neg nm1, gd_t]
          show (if gA z 18 1 g < x2 then _ else _) = _
          rw [if_pos h3]
          rfl
      · refine ⟨1, pS z 0 4 0 0, pS (pS z 0 4 0 0) 17 0 0 0, ?_, ?_, inv_fault hI 0⟩
        · rw [if_neg h3]
        · rw [mhedge_ev (d4 0) c3, Option.bind_some, if_pos h, if_pos nm2, in_ev, Option.bind_some, wide]
          have h2'' : (0 : Int64).toInt ≤ x2.toInt ∧ x2.toInt ≤ (2 : Int64).toInt := h2
          rw [if_pos h2'', if_neg nm1, gd_t]
          show (if gA z 18 1 g < x2 then _ else _) = _
          rw [if_neg h3]
          rfl
    · have h2' : ¬ (0 ≤ x2.toInt ∧ x2.toInt ≤ (2 : Int32).toInt) := h2
      refine ⟨-2, pS z 0 4 0 0, pS (pS z 0 4 0 0) 17 0 0 0, ?_, ?_, inv_fault hI 0⟩
      · rw [if_neg h2', if_pos nm2]
      · rw [mhedge_ev (d4 0) c3, Option.bind_some, if_pos h, if_pos nm2, in_ev, Option.bind_some, wide]
        have h2'' : ¬ ((0 : Int64).toInt ≤ x2.toInt ∧ x2.toInt ≤ (2 : Int64).toInt) := h2
        rw [if_neg h2'', if_pos nm2]
        rfl
  · refine ⟨-1, pS z 0 4 0 0, pS (pS z 0 4 0 0) 17 0 0 0, ?_, ?_, inv_fault hI 0⟩
    · rw [if_neg h, if_pos nm2]
    · rw [mhedge_ev (d4 0) c3, Option.bind_some, if_neg h, if_neg nm1]
      rfl
theorem en_ev (v : Int32) (z : XS) : D_X7_enter v z = some (pS z 3 0 0 (31 * gS z 3 0 0 + v)) := rfl
theorem tr_ev (v : Int32) (z : XS) : D_X10_traced v z = some (pS z 17 22 0 (31 * gS z 17 22 0 + v)) := rfl
theorem isH_pS (z : XS) (k f j h : Nat) (v : Int32) : isH (pS z k f j v) h = isH z h := rfl
theorem pt_ev {z : XS} {h : Nat} (hh : isH z h = true) : D_X2_plainTelling h z = some (gS z 10 1 h, pS z 3 0 0 (31 * gS z 3 0 0 + 1)) := by
  unfold D_X2_plainTelling
  rw [en_ev, Option.bind_some, isH_pS, hh]
  rfl
theorem gS3 (z : XS) (v : Int32) : gS (pS z 3 0 0 v) 3 0 0 = v := rfl
theorem t2_ev {z : XS} {h : Nat} (hh : isH z h = true) : D_X2_telling h z = some (gS z 10 1 h, pS z 3 0 0 (31 * gS z 3 0 0 + 1)) := by
  unfold D_X2_telling DV_plainTelling_X2_18
  rw [pt_ev hh]
  rcases isH_or hh with q | q | q
  · rw [if_pos q]; rfl
  · rw [if_neg (by omega), if_neg (by omega), if_pos q]; rfl
  · rw [if_neg (by omega), if_pos q]; rfl
theorem t8_ev {z : XS} {h : Nat} (hh : isH z h = true) : D_X8_telling h z = some (gS z 10 1 h + 100, pS z 3 0 0 (31 * (31 * gS z 3 0 0 + 2) + 1)) := by
  unfold D_X8_telling
  rw [en_ev, Option.bind_some, isH_pS, hh, gd_t, t2_ev (by rw [isH_pS]; exact hh), Option.bind_some, pS_pS]
  rfl
theorem t1_ev {z : XS} {h : Nat} (hk : z.2.2 h = 1) : D_X1_telling h z = some (gS z 10 1 h + 100 + gS z 10 1 h, pS z 3 0 0 (31 * (31 * (31 * (31 * gS z 3 0 0 + 3) + 2) + 1) + 1)) := by
  have hh : isH z h = true := by unfold isH; rw [hk]; rfl
  unfold D_X1_telling DV_plainTelling_X1_21
  rw [en_ev, Option.bind_some, isH_pS, hh, gd_t, t8_ev (by rw [isH_pS]; exact hh), Option.bind_some, pS_pS]
  have hk2 : (pS z 3 0 0 (31 * (31 * gS (pS z 3 0 0 (31 * gS z 3 0 0 + 3)) 3 0 0 + 2) + 1)).2.2 h = 1 := hk
  rw [if_pos hk2, pt_ev (by rw [isH_pS]; exact hh), Option.bind_some, pS_pS]
  rfl
theorem small_two {v : Nat} (h : v ≤ 9) : nI v + 100 + nI v = 2 * nI v + 100 := by
  have e : ∀ v, v < 10 → nI v + 100 + nI v = 2 * nI v + 100 := by decide
  exact e v (by omega)
theorem gS22 (z : XS) (v : Int32) : gS (pS z 17 22 0 v) 17 22 0 = v := rfl
theorem eq_tell (z : XS) (hI : Inv z) (x1 : Int32) : ∃ (r : Int32) (z1 z2 : XS), D_X9_tell x1 z = some (r, z1) ∧ D_X10_tell x1 z1 = some (r, z2) ∧ Inv z2 := by
  obtain ⟨⟨c1, c2, c3, c4⟩, hg, hh, -, -, -, -, -, -, ht⟩ := id hI
  have d4 : ∀ v, gS (pS z 3 0 0 v) 17 1 0 = nI (cN z) := fun v => c4
  have dt : ∀ v, gS (pS z 3 0 0 v) 17 22 0 = gS z 3 0 0 := fun v => ht.symm
  unfold D_X9_tell
  rw [hedge_ev c1 c3, Option.bind_some]
  by_cases h : 0 ≤ x1.toInt ∧ x1.toInt + 1 < (cN z : Int)
  · obtain ⟨g, hgc, rfl⟩ := hedge_n h
    obtain ⟨k1, k2, k3, v, hv, k4⟩ := hh g hgc
    have eB : inB (nI g) 6 = true := inB_nI (by omega) (by decide)
    have eN : (nI g).toNatClampNeg = g := tN_nI (by omega)
    rw [if_pos h, if_neg nm1, eB, gd_t, eN]
    unfold DV_telling_X9_225
    rcases k1 with ⟨q, e⟩ | ⟨q, e⟩ | ⟨q, e⟩
    · have hH : isH z g = true := by unfold isH; rw [q]; rfl
      rw [if_neg (show ¬ z.2.2 g = 1 by omega), if_neg (show ¬ z.2.2 g = 7 by omega), if_pos q, t2_ev hH, Option.bind_some]
      refine ⟨_, _, pS (pS z 3 0 0 (31 * gS z 3 0 0 + 1)) 17 22 0 (31 * gS z 3 0 0 + 1), rfl, ?_, inv_trace hI _⟩
      unfold D_X10_tell
      rw [mhedge_ev (d4 _) c3, Option.bind_some, if_pos h, if_pos nm2, eB, gd_t, eN]
      have e' : gA (pS z 3 0 0 (31 * gS z 3 0 0 + 1)) 18 1 g = 0 := e
      rw [e', if_neg (by decide)]
      unfold J_X10_tell_27 J_X10_tell_36 J_X10_tell_51
      rw [if_pos (by decide), tr_ev, Option.bind_some, if_neg (by decide), eB, gd_t, if_pos rfl, eN, dt, k3]
      rfl
    · have hH : isH z g = true := by unfold isH; rw [q]; rfl
      rw [if_neg (show ¬ z.2.2 g = 1 by omega), if_pos q, t8_ev hH, Option.bind_some]
      refine ⟨_, _, pS (pS z 3 0 0 (31 * (31 * gS z 3 0 0 + 2) + 1)) 17 22 0 (31 * (31 * gS z 3 0 0 + 2) + 1), rfl, ?_, inv_trace hI _⟩
      unfold D_X10_tell
      rw [mhedge_ev (d4 _) c3, Option.bind_some, if_pos h, if_pos nm2, eB, gd_t, eN]
      have e' : gA (pS z 3 0 0 (31 * (31 * gS z 3 0 0 + 2) + 1)) 18 1 g = 1 := e
      rw [e', if_neg (by decide)]
      unfold J_X10_tell_27 J_X10_tell_36 J_X10_tell_51
      rw [if_neg (by decide), tr_ev, Option.bind_some, tr_ev, Option.bind_some, if_neg (by decide), eB, gd_t, if_neg (by decide), if_pos rfl, eN, pS_pS, gS22, dt, k3]
      rfl
    · rw [if_pos q, t1_ev q, Option.bind_some]
      refine ⟨_, _, pS (pS z 3 0 0 (31 * (31 * (31 * (31 * gS z 3 0 0 + 3) + 2) + 1) + 1)) 17 22 0 (31 * (31 * (31 * (31 * gS z 3 0 0 + 3) + 2) + 1) + 1), rfl, ?_, inv_trace hI _⟩
      unfold D_X10_tell
      rw [mhedge_ev (d4 _) c3, Option.bind_some, if_pos h, if_pos nm2, eB, gd_t, eN]
      have e' : gA (pS z 3 0 0 (31 * (31 * (31 * (31 * gS z 3 0 0 + 3) + 2) + 1) + 1)) 18 1 g = 2 := e
      rw [e', if_pos rfl, tr_ev, Option.bind_some]
      unfold J_X10_tell_27 J_X10_tell_36 J_X10_tell_51
      rw [if_neg (by decide), tr_ev, Option.bind_some, tr_ev, Option.bind_some, if_pos rfl, tr_ev, Option.bind_some, eB, gd_t, if_neg (by decide), if_neg (by decide), eN, pS_pS, pS_pS, pS_pS, gS22, gS22, gS22, dt, k3, k4, small_two hv]
      show some (2 * gA z 18 2 g + 100, _) = _
      rw [k4]
  · rw [if_neg h, if_pos nm2]
    refine ⟨-1, z, z, rfl, ?_, hI⟩
    unfold D_X10_tell
    rw [mhedge_ev c4 c3, Option.bind_some, if_neg h]
    rfl
theorem eq_lean (z : XS) (hI : Inv z) (x1 : Int32) : ∃ (r : Int32) (z1 z2 : XS), D_X9_lean x1 z = some (r, z1) ∧ D_X10_lean x1 z1 = some (r, z2) ∧ Inv z2 := by
  obtain ⟨⟨c1, c2, c3, c4⟩, hg, hh, -, -, -, -, -, -, ht⟩ := id hI
  have d4 : ∀ v, gS (pS z 3 0 0 v) 17 1 0 = nI (cN z) := fun v => c4
  have dt : ∀ v, gS (pS z 3 0 0 v) 17 22 0 = gS z 3 0 0 := fun v => ht.symm
  unfold D_X9_lean
  rw [hedge_ev c1 c3, Option.bind_some]
  by_cases h : 0 ≤ x1.toInt ∧ x1.toInt + 1 < (cN z : Int)
  · obtain ⟨g, hgc, rfl⟩ := hedge_n h
    obtain ⟨k1, k2, k3, v, hv, k4⟩ := hh g hgc
    have eB : inB (nI g) 6 = true := inB_nI (by omega) (by decide)
    have eN : (nI g).toNatClampNeg = g := tN_nI (by omega)
    have hH := KH_H k1
    rw [if_pos h, if_neg nm1, eB, gd_t, eN]
    have e2 : D_X2_leaning g z = some (nI g, pS z 3 0 0 (31 * gS z 3 0 0 + 4)) := by
      unfold D_X2_leaning
      rw [en_ev, Option.bind_some, isH_pS, hH, gd_t]
      show some (gS z 10 0 g, _) = _
      rw [k2]
    have e1 : D_X1_leaning g z = some (20, pS z 3 0 0 (31 * gS z 3 0 0 + 5)) := rfl
    have M : ∀ T kd, gA z 18 1 g = kd → D_X10_lean (nI g) (pS z 3 0 0 T) = some (if kd = 2 then 20 else nI g, pS (pS z 3 0 0 T) 17 22 0 (31 * gS z 3 0 0 + (if kd = 2 then 5 else 4))) := by
      intro T kd e
      unfold D_X10_lean J_X10_lean_26
      rw [mhedge_ev (d4 _) c3, Option.bind_some, if_pos h, if_pos nm2, eB, gd_t, eN, tr_ev, Option.bind_some, tr_ev, Option.bind_some, gd_t, gd_t, dt]
      show (if gA z 18 1 g = 2 then (if gA z 18 1 g = 2 then _ else _) else (if gA z 18 1 g = 2 then _ else _)) = _
      rw [e]
      by_cases q : kd = 2
      · rw [if_pos q, if_pos q, if_pos q, if_pos q]
      · rw [if_neg q, if_neg q, if_neg q, if_neg q]
    unfold DV_leaning_X9_229
    rcases k1 with ⟨q, e⟩ | ⟨q, e⟩ | ⟨q, e⟩
    · rw [if_neg (show ¬ z.2.2 g = 1 by omega), if_neg (show ¬ z.2.2 g = 7 by omega), if_pos q, e2, Option.bind_some]
      exact ⟨_, _, _, rfl, M _ 0 e, inv_trace hI _⟩
    · rw [if_neg (show ¬ z.2.2 g = 1 by omega), if_pos q, e2, Option.bind_some]
      exact ⟨_, _, _, rfl, M _ 1 e, inv_trace hI _⟩
    · rw [if_pos q, e1, Option.bind_some]
      exact ⟨_, _, _, rfl, M _ 2 e, inv_trace hI _⟩
  · rw [if_neg h, if_pos nm2]
    refine ⟨-1, z, z, rfl, ?_, hI⟩
    unfold D_X10_lean
    rw [mhedge_ev c4 c3, Option.bind_some, if_neg h]
    rfl
