theorem inv_of {z w : XS} (hI : Inv z) (hg : Gp z w) (hr : I_rng w) (hs : I_sht w) (hf : I_flt w) (ht : I_trc w) : Inv w := by
  obtain ⟨h1, h2, h3, h4, h5, h6, h7, h8, h9, h10⟩ := hI
  have ec := Gp_c hg
  obtain ⟨⟨g1, g2⟩, g3, g4, g5, g6, g7, g8, g9⟩ := id hg
  refine ⟨?_, ?_, ?_, ?_, ?_, ?_, hr, hs, hf, ht⟩
  · unfold I_cnt
    rw [ec, g1, g2]
    exact h1
  · intro g hgc
    rw [g3, g4 0 (by decide)]
    exact h2 g (by omega)
  · intro h hh
    rw [g5, g4 1 (by decide), g4 2 (by decide), g6, g6]
    exact h3 h (by omega)
  · intro h hh s hs d hd
    rw [g7, Gp_wd hg]
    exact h4 h (by omega) s hs d hd
  · intro h hh d hd
    rw [g9, Gp_cl hg]
    exact h5 h (by omega) d hd
  · intro h hh s hs n hn
    rw [g8, Gp_f hg]
    exact h6 h (by omega) s hs n hn
theorem in240 (x : Int32) (z : XS) : D_X10_in x.toInt64 0 240 z = some (if 0 ≤ x.toInt ∧ x.toInt ≤ 240 then 1 else 0, z) := by
  rw [in_ev, wide]; rfl
theorem n10' : (10 : Int32) = nI 10 := rfl
theorem nI_lt'' {a b : Nat} (ha : a ≤ 1000000) (hb : b ≤ 1000000) : (nI a < nI b) ↔ a < b := by
  rw [i_lt, nI_i ha, nI_i hb]
  omega
theorem nI_inj {a b : Nat} (ha : a ≤ 1000000) (hb : b ≤ 1000000) : (nI a = nI b) ↔ a = b := by
  rw [i_eq, nI_i ha, nI_i hb]
  omega
theorem nI_p1s (r : Nat) : nI (r + 1) - 1 = nI r := by
  rw [← nI_1]
  exact Int32.add_sub_cancel _ _
theorem keep_ev {z : XS} {r : Nat} (hr : r < 10) (e : gS z 2 4 0 = nI r) (x1 x2 x3 x4 : Int32) : D_X3_keep x1 x2 x3 x4 z = some (nI r, pS (pA (pA (pA (pA z 16 0 r x1) 16 1 r x2) 16 2 r x3) 16 3 r x4) 2 4 0 (nI (r + 1))) := by
  unfold D_X3_keep
  have eB : inB (nI r) 10 = true := inB_nI (by omega) (by decide)
  have eN : (nI r).toNatClampNeg = r := tN_nI (by omega)
  rw [e, eB, gd_t, Option.bind_some, gS_pA, e, eB, gd_t, Option.bind_some, gS_pA, gS_pA, e, eB, gd_t, Option.bind_some, gS_pA, gS_pA, gS_pA, e, eB, gd_t, Option.bind_some, Option.bind_some, gS_pA, gS_pA, gS_pA, gS_pA, e, eN, nI_1]
  show some (nI (r + 1) - 1, _) = _
  rw [nI_p1s]
theorem eq_reading (z : XS) (hI : Inv z) (x1 x2 x3 x4 : Int32) : ∃ (r : Int32) (z1 z2 : XS), D_X9_reading x1 x2 x3 x4 z = some (r, z1) ∧ D_X10_reading x1 x2 x3 x4 z1 = some (r, z2) ∧ Inv z2 := by
  obtain ⟨⟨c1, c2, c3, c4⟩, -⟩ := id hI
  obtain ⟨r, r1, r2, r3, r4⟩ := hI.2.2.2.2.2.2.1
  unfold D_X9_reading D_X10_reading
  rw [hedge_ev c1 c3, Option.bind_some]
  by_cases h : 0 ≤ x1.toInt ∧ x1.toInt + 1 < (cN z : Int)
  · rw [if_pos h, if_neg nm1, side_ev, Option.bind_some]
    by_cases h2 : 0 ≤ x2.toInt ∧ x2.toInt ≤ 1
    · rw [if_pos h2, if_neg nm1, dawn_ev, Option.bind_some]
      by_cases h3 : 0 ≤ x3.toInt ∧ x3.toInt ≤ 30
      · rw [if_pos h3, if_neg nm1, within_ev, Option.bind_some, show (240 : Int32).toInt = 240 from rfl]
        by_cases h4 : 0 ≤ x4.toInt ∧ x4.toInt ≤ 240
        · rw [if_pos h4, if_neg nm1, r2]
          by_cases h5 : r = 10
          · subst h5
            rw [if_neg (show ¬ nI 10 < 10 by decide)]
            refine ⟨-4, z, z, rfl, ?_, hI⟩
            rw [mhedge_ev c4 c3, Option.bind_some, if_pos h, if_pos nm2, mside_ev, Option.bind_some, if_pos h2, if_neg nm1, mdawn_ev, Option.bind_some, if_pos h3, if_neg nm1, in240, Option.bind_some, if_pos h4, if_neg nm1, r3, if_pos (show nI 10 = 10 from rfl)]
          · rw [if_pos (by rw [n10']; exact (nI_lt'' (by omega) (by omega)).mpr (by omega)), keep_ev (by omega) r2, Option.bind_some]
            refine ⟨nI r, pS (pA (pA (pA (pA z 16 0 r x1) 16 1 r x2) 16 2 r x3) 16 3 r x4) 2 4 0 (nI (r + 1)), pS (pA (pA (pA (pA (pS (pA (pA (pA (pA z 16 0 r x1) 16 1 r x2) 16 2 r x3) 16 3 r x4) 2 4 0 (nI (r + 1))) 18 8 r x1) 18 9 r x2) 18 10 r x3) 18 11 r x4) 17 12 0 (nI (r + 1)), rfl, ?_, ?_⟩
            · generalize ew : pS (pA (pA (pA (pA z 16 0 r x1) 16 1 r x2) 16 2 r x3) 16 3 r x4) 2 4 0 (nI (r + 1)) = w
              have w4 : gS w 17 1 0 = nI (cN z) := by rw [← ew]; exact c4
              have w3 : gS w 17 12 0 = nI r := by rw [← ew]; exact r3
              have eB : inB (nI r) 10 = true := inB_nI (by omega) (by decide)
              have eN : (nI r).toNatClampNeg = r := tN_nI (by omega)
              rw [mhedge_ev w4 c3, Option.bind_some, if_pos h, if_pos nm2, mside_ev, Option.bind_some, if_pos h2, if_neg nm1, mdawn_ev, Option.bind_some, if_pos h3, if_neg nm1, in240, Option.bind_some, if_pos h4, if_neg nm1, w3, if_neg (by rw [n10']; exact fun q => h5 ((nI_inj (by omega) (by omega)).mp q)), eB, gd_t, Option.bind_some, gS_pA, w3, eB, gd_t, Option.bind_some, gS_pA, gS_pA, w3, eB, gd_t, Option.bind_some, gS_pA, gS_pA, gS_pA, w3, eB, gd_t, Option.bind_some, Option.bind_some, gS_pA, gS_pA, gS_pA, gS_pA, w3, eN, nI_1]
              show some (nI (r + 1) - 1, _) = _
              rw [nI_p1s]
            · refine inv_of hI ⟨⟨rfl, rfl⟩, fun _ => rfl, fun j hj i => ?_, fun _ => rfl, fun _ _ => rfl, fun _ _ => rfl, fun _ _ => rfl, fun _ _ => rfl⟩ ⟨r + 1, by omega, rfl, rfl, fun k hk => ?_⟩ ?_ hI.2.2.2.2.2.2.2.2.1 hI.2.2.2.2.2.2.2.2.2
              · rw [gA_pS, gA_pA', if_neg (by omega), gA_pA', if_neg (by omega), gA_pA', if_neg (by omega), gA_pA', if_neg (by omega)]
                rfl
              · obtain ⟨g, hg, rfl⟩ := hedge_n h
                obtain ⟨s, hs, rfl⟩ := num_of (m := 1) h2
                obtain ⟨n, hn, rfl⟩ := num_of (m := 30) h3
                show ((if 16 = 16 ∧ 0 = 0 ∧ k = r then nI g else gA z 16 0 k) = (if 18 = 18 ∧ 8 = 8 ∧ k = r then nI g else gA z 18 8 k) ∧ (if 16 = 16 ∧ 1 = 1 ∧ k = r then nI s else gA z 16 1 k) = (if 18 = 18 ∧ 9 = 9 ∧ k = r then nI s else gA z 18 9 k) ∧ (if 16 = 16 ∧ 2 = 2 ∧ k = r then nI n else gA z 16 2 k) = (if 18 = 18 ∧ 10 = 10 ∧ k = r then nI n else gA z 18 10 k) ∧ (if 16 = 16 ∧ 3 = 3 ∧ k = r then x4 else gA z 16 3 k) = (if 18 = 18 ∧ 11 = 11 ∧ k = r then x4 else gA z 18 11 k)) ∧ (∃ h, h + 1 < cN z ∧ (if 18 = 18 ∧ 8 = 8 ∧ k = r then nI g else gA z 18 8 k) = nI h) ∧ (∃ s', s' < 2 ∧ (if 18 = 18 ∧ 9 = 9 ∧ k = r then nI s else gA z 18 9 k) = nI s') ∧ ∃ n', n' ≤ 30 ∧ (if 18 = 18 ∧ 10 = 10 ∧ k = r then nI n else gA z 18 10 k) = nI n'
                by_cases e : k = r
                · subst e
                  simp only [and_self, if_true]
                  exact ⟨trivial, ⟨g, hg, rfl⟩, ⟨s, by omega, rfl⟩, n, hn, rfl⟩
                · simp only [e, and_false, if_false]
                  exact r4 k (by omega)
              · exact hI.2.2.2.2.2.2.2.1
        · rw [if_neg h4, if_pos nm2]
          refine ⟨-2, z, z, rfl, ?_, hI⟩
          rw [mhedge_ev c4 c3, Option.bind_some, if_pos h, if_pos nm2, mside_ev, Option.bind_some, if_pos h2, if_neg nm1, mdawn_ev, Option.bind_some, if_pos h3, if_neg nm1, in240, Option.bind_some, if_neg h4, if_pos nm2]
      · rw [if_neg h3, if_pos nm2]
        refine ⟨-2, z, z, rfl, ?_, hI⟩
        rw [mhedge_ev c4 c3, Option.bind_some, if_pos h, if_pos nm2, mside_ev, Option.bind_some, if_pos h2, if_neg nm1, mdawn_ev, Option.bind_some, if_neg h3, if_pos nm2]
    · rw [if_neg h2, if_pos nm2]
      refine ⟨-2, z, z, rfl, ?_, hI⟩
      rw [mhedge_ev c4 c3, Option.bind_some, if_pos h, if_pos nm2, mside_ev, Option.bind_some, if_neg h2, if_pos nm2]
  · rw [if_neg h, if_pos nm2]
    refine ⟨-1, z, z, rfl, ?_, hI⟩
    rw [mhedge_ev c4 c3, Option.bind_some, if_neg h, if_neg nm1]
theorem nI_sub {a b : Nat} (h : b ≤ a) : nI a - nI b = nI (a - b) := by
  have e : nI a = nI (a - b) + nI b := by rw [nI_add, Nat.sub_add_cancel h]
  rw [e]
  exact Int32.add_sub_cancel _ _
theorem eq_back (z : XS) (hI : Inv z) (x1 : Int32) : ∃ (r : Int32) (z1 z2 : XS), D_X9_back x1 z = some (r, z1) ∧ D_X10_back x1 z1 = some (r, z2) ∧ Inv z2 := by
  obtain ⟨r, r1, r2, r3, r4⟩ := hI.2.2.2.2.2.2.1
  unfold D_X9_back D_X10_back
  rw [r2, within_ev, Option.bind_some, nI_i (by omega)]
  by_cases h : 0 ≤ x1.toInt ∧ x1.toInt ≤ (r : Int)
  · obtain ⟨k, hk, rfl⟩ := num_of h
    rw [if_pos h, if_neg nm1, Option.bind_some, r2, nI_sub hk]
    refine ⟨nI (r - k), pS z 2 4 0 (nI (r - k)), pS (pS z 2 4 0 (nI (r - k))) 17 12 0 (nI (r - k)), rfl, ?_, ?_⟩
    · have w3 : gS (pS z 2 4 0 (nI (r - k))) 17 12 0 = nI r := r3
      rw [w3, in_ev, Option.bind_some, wide, wide, show (0 : Int64).toInt = 0 from rfl, nI_i (n := r) (by omega), if_pos h, if_neg nm1, w3, nI_sub hk, Option.bind_some]
      rfl
    · refine inv_of hI ⟨⟨rfl, rfl⟩, fun _ => rfl, fun j hj i => rfl, fun _ => rfl, fun _ _ => rfl, fun _ _ => rfl, fun _ _ => rfl, fun _ _ => rfl⟩ ⟨r - k, by omega, rfl, rfl, fun k' hk' => r4 k' (by omega)⟩ hI.2.2.2.2.2.2.2.1 hI.2.2.2.2.2.2.2.2.1 hI.2.2.2.2.2.2.2.2.2
  · rw [if_neg h, if_pos nm2]
    refine ⟨-2, z, z, rfl, ?_, hI⟩
    rw [r3, in_ev, Option.bind_some, wide, wide, show (0 : Int64).toInt = 0 from rfl, nI_i (n := r) (by omega), if_neg h, if_pos nm2]
