theorem nI_i {n : Nat} (h : n ≤ 1000000) : (nI n).toInt = (n : Int) := nI_toInt (by omega)
theorem garden_ev {z : XS} {c : Nat} (hc : gS z 1 2 0 = nI c) (h7 : c ≤ 7) (x : Int32) : D_X4_isGarden x z = some (if 0 ≤ x.toInt ∧ x.toInt < (c : Int) then 1 else 0, z) := by
  unfold D_X4_isGarden
  have e := nI_i (n := c) (by omega)
  by_cases h : x < 0
  · have h1 : x.toInt < 0 := (i_lt x 0).mp h
    rw [if_pos h, if_neg (by omega)]
  · have h1 : ¬ x.toInt < 0 := fun q => h ((i_lt x 0).mpr q)
    rw [if_neg h, hc]
    by_cases h2 : nI c ≤ x
    · have h3 := (i_le _ _).mp h2
      rw [if_pos h2, if_neg (by omega)]
    · have h3 : ¬ (nI c).toInt ≤ x.toInt := fun q => h2 ((i_le _ _).mpr q)
      rw [if_neg h2, if_pos (by omega)]
theorem nI_m1 {c : Nat} (h : c ≤ 1000000) : (nI c - 1).toInt = (c : Int) - 1 := by
  have e := nI_i (n := c) (by omega)
  have e1 : (1 : Int32).toInt = 1 := rfl
  rw [i_sub (by omega) (by omega), e, e1]
theorem hedge_ev {z : XS} {c : Nat} (hc : gS z 1 2 0 = nI c) (h7 : c ≤ 7) (x : Int32) : D_X4_isHedge x z = some (if 0 ≤ x.toInt ∧ x.toInt + 1 < (c : Int) then 1 else 0, z) := by
  unfold D_X4_isHedge
  have e := nI_m1 (c := c) (by omega)
  by_cases h : x < 0
  · have h1 : x.toInt < 0 := (i_lt x 0).mp h
    rw [if_pos h, if_neg (by omega)]
  · have h1 : ¬ x.toInt < 0 := fun q => h ((i_lt x 0).mpr q)
    rw [if_neg h, hc]
    by_cases h2 : nI c - 1 ≤ x
    · have h3 := (i_le _ _).mp h2
      rw [if_pos h2, if_neg (by omega)]
    · have h3 : ¬ (nI c - 1).toInt ≤ x.toInt := fun q => h2 ((i_le _ _).mpr q)
      rw [if_neg h2, if_pos (by omega)]
theorem l_sub1 {x : Int32} : (x.toInt64 - 1).toInt = x.toInt - 1 := by
  have h := i_rng x
  rw [Int64.toInt_sub, wide, show (1 : Int64).toInt = 1 from rfl, Int.bmod_eq_of_le (by omega) (by omega)]
theorem mgarden_ev {z : XS} {c : Nat} (hc : gS z 17 1 0 = nI c) (h7 : c ≤ 7) (x : Int32) : D_X10_noGarden x z = some (if 0 ≤ x.toInt ∧ x.toInt < (c : Int) then 0 else 1, z) := by
  unfold D_X10_noGarden
  have e := nI_i (n := c) (by omega)
  rw [in_ev, Option.bind_some, wide, l_sub1, hc, e, show (0 : Int64).toInt = 0 from rfl]
  by_cases h : 0 ≤ x.toInt ∧ x.toInt < (c : Int)
  · have h2 : 0 ≤ x.toInt ∧ x.toInt ≤ (c : Int) - 1 := by omega
    rw [if_pos h, if_pos h2]
    rfl
  · have h2 : ¬ (0 ≤ x.toInt ∧ x.toInt ≤ (c : Int) - 1) := by omega
    rw [if_neg h, if_neg h2]
    rfl
theorem mhedges_ev {z : XS} {c : Nat} (hc : gS z 17 1 0 = nI c) (h7 : c ≤ 7) : D_X10_hedges z = some (nI (c - 1), z) := by
  unfold D_X10_hedges
  rw [hc]
  by_cases h : nI c ≤ 0
  · have h1 := (i_le _ _).mp h
    rw [nI_i (by omega)] at h1
    have h2 : (0 : Int32).toInt = 0 := rfl
    have h3 : c = 0 := by omega
    subst h3
    rfl
  · have h1 : ¬ (nI c).toInt ≤ (0 : Int32).toInt := fun q => h ((i_le _ _).mpr q)
    rw [nI_i (by omega)] at h1
    have h2 : (0 : Int32).toInt = 0 := rfl
    have h3 : 1 ≤ c := by omega
    rw [if_neg h, show (1 : Int32) = nI 1 from rfl, pk_sub h3]
theorem mhedge_ev {z : XS} {c : Nat} (hc : gS z 17 1 0 = nI c) (h7 : c ≤ 7) (x : Int32) : D_X10_noHedge x z = some (if 0 ≤ x.toInt ∧ x.toInt + 1 < (c : Int) then 0 else 1, z) := by
  unfold D_X10_noHedge
  rw [mhedges_ev hc h7, Option.bind_some, in_ev, Option.bind_some, wide, l_sub1, show (0 : Int64).toInt = 0 from rfl]
  have e := nI_i (n := c - 1) (by omega)
  show (if (if (0 : Int) ≤ x.toInt ∧ x.toInt ≤ (nI (c - 1)).toInt - 1 then (1 : Int32) else 0) = 0 then _ else _) = _
  rw [e]
  by_cases h : 0 ≤ x.toInt ∧ x.toInt + 1 < (c : Int)
  · have h2 : 0 ≤ x.toInt ∧ x.toInt ≤ ((c - 1 : Nat) : Int) - 1 := by omega
    rw [if_pos h, if_pos h2]
    rfl
  · have h2 : ¬ (0 ≤ x.toInt ∧ x.toInt ≤ ((c - 1 : Nat) : Int) - 1) := by omega
    rw [if_neg h, if_neg h2]
    rfl
theorem nm1 : ¬ ((1 : Int32) = 0) := by decide
theorem nm2 : (0 : Int32) = 0 := rfl
/-- what a garden's, a hedge's number is -/
theorem garden_n {x : Int32} {c : Nat} (h : 0 ≤ x.toInt ∧ x.toInt < (c : Int)) : ∃ g : Nat, g < c ∧ x = nI g := by
  obtain ⟨g, hg, e⟩ := num_of (x := x) (m := c - 1) (by omega)
  exact ⟨g, by omega, e⟩
theorem hedge_n {x : Int32} {c : Nat} (h : 0 ≤ x.toInt ∧ x.toInt + 1 < (c : Int)) : ∃ g : Nat, g + 1 < c ∧ x = nI g := by
  obtain ⟨g, hg, e⟩ := num_of (x := x) (m := c - 2) (by omega)
  exact ⟨g, by omega, e⟩
theorem KH_H {z : XS} {h : Nat} {kd : Int32} (q : KH (z.2.2 h) kd) : isH z h = true := by
  unfold isH
  rcases q with ⟨q, -⟩ | ⟨q, -⟩ | ⟨q, -⟩ <;> rw [q] <;> rfl
theorem eq_wants (z : XS) (hI : Inv z) (x1 : Int32) : ∃ (r : Int32) (z1 z2 : XS), D_X9_wants x1 z = some (r, z1) ∧ D_X10_wants x1 z1 = some (r, z2) ∧ Inv z2 := by
  obtain ⟨⟨c1, c2, c3, c4⟩, hg, -⟩ := id hI
  by_cases h : 0 ≤ x1.toInt ∧ x1.toInt < (cN z : Int)
  · obtain ⟨g, hgc, rfl⟩ := garden_n h
    refine ⟨gA z 7 0 g, z, z, ?_, ?_, hI⟩
    · unfold D_X9_wants
      rw [garden_ev c1 c3, Option.bind_some, if_pos h, if_neg nm1, inB_nI (by omega) (by decide), gd_t, tN_nI (by omega)]
    · unfold D_X10_wants
      rw [mgarden_ev c4 c3, Option.bind_some, if_pos h, if_pos nm2, inB_nI (by omega) (by decide), gd_t, tN_nI (by omega), hg g hgc]
  · refine ⟨-1, z, z, ?_, ?_, hI⟩
    · unfold D_X9_wants
      rw [garden_ev c1 c3, Option.bind_some, if_neg h]
      rfl
    · unfold D_X10_wants
      rw [mgarden_ev c4 c3, Option.bind_some, if_neg h]
      rfl
theorem kind_ev {z : XS} {h : Nat} {kd : Int32} (q : KH (z.2.2 h) kd) : DV_kind_X9_101 h z = some (kd, z) := by
  unfold DV_kind_X9_101
  rcases q with ⟨q, e⟩ | ⟨q, e⟩ | ⟨q, e⟩
  · rw [if_neg (by omega), if_neg (by omega), if_pos q, e]; rfl
  · rw [if_neg (by omega), if_pos q, e]; rfl
  · rw [if_pos q, e]; rfl
theorem eq_ofHedge (z : XS) (hI : Inv z) (x1 x2 : Int32) : ∃ (r : Int32) (z1 z2 : XS), D_X9_ofHedge x1 x2 z = some (r, z1) ∧ D_X10_ofHedge x1 x2 z1 = some (r, z2) ∧ Inv z2 := by
  obtain ⟨⟨c1, c2, c3, c4⟩, hg, hh, -⟩ := id hI
  by_cases h : 0 ≤ x1.toInt ∧ x1.toInt + 1 < (cN z : Int)
  · obtain ⟨g, hgc, rfl⟩ := hedge_n h
    obtain ⟨k1, k2, k3, k4⟩ := hh g hgc
    have eB : inB (nI g) 6 = true := inB_nI (by omega) (by decide)
    have eN : (nI g).toNatClampNeg = g := tN_nI (by omega)
    have A : ∀ t, D_X9_ofHedge (nI g) x2 z = t ↔ (if (if 0 ≤ x2.toInt ∧ x2.toInt ≤ 1 then (1 : Int32) else 0) = 0 then some ((-2 : Int32), z) else if x2 = 0 then some (gA z 18 1 g, z) else some (gA z 18 2 g, z)) = t := by
      intro t
      unfold D_X9_ofHedge
      rw [hedge_ev c1 c3, Option.bind_some, if_pos h, if_neg nm1, within_ev, Option.bind_some, eB, gd_t, eN, kind_ev k1, Option.bind_some, KH_H k1, gd_t, k3]
      exact Iff.rfl
    have B : ∀ t, D_X10_ofHedge (nI g) x2 z = t ↔ (if x2 = 0 then some (gA z 18 1 g, z) else if x2 = 1 then some (gA z 18 2 g, z) else some (-2, z)) = t := by
      intro t
      unfold D_X10_ofHedge
      rw [mhedge_ev c4 c3, Option.bind_some, if_pos h, if_pos nm2, eB, gd_t, gd_t, eN]
    by_cases h0 : x2 = 0
    · subst h0
      exact ⟨gA z 18 1 g, z, z, (A _).mpr rfl, (B _).mpr rfl, hI⟩
    · by_cases h1 : x2 = 1
      · subst h1
        exact ⟨gA z 18 2 g, z, z, (A _).mpr rfl, (B _).mpr rfl, hI⟩
      · have n0 : ¬ x2.toInt = 0 := fun q => h0 ((i_eq x2 0).mpr q)
        have n1 : ¬ x2.toInt = 1 := fun q => h1 ((i_eq x2 1).mpr q)
        refine ⟨-2, z, z, (A _).mpr ?_, (B _).mpr ?_, hI⟩
        · rw [if_neg (show ¬ (0 ≤ x2.toInt ∧ x2.toInt ≤ 1) by omega), if_pos nm2]
        · rw [if_neg h0, if_neg h1]
  · refine ⟨-1, z, z, ?_, ?_, hI⟩
    · unfold D_X9_ofHedge
      rw [hedge_ev c1 c3, Option.bind_some, if_neg h]
      rfl
    · unfold D_X10_ofHedge
      rw [mhedge_ev c4 c3, Option.bind_some, if_neg h]
      rfl
theorem eq_trace (z : XS) (hI : Inv z) : ∃ (r : Int32) (z1 z2 : XS), D_X9_trace z = some (r, z1) ∧ D_X10_trace z1 = some (r, z2) ∧ Inv z2 := by
  obtain ⟨-, -, -, -, -, -, -, -, -, ht⟩ := id hI
  refine ⟨gS z 3 0 0, z, z, rfl, ?_, hI⟩
  unfold D_X10_trace
  rw [← ht]
theorem eq_fault (z : XS) (hI : Inv z) : ∃ (r : Int32) (z1 z2 : XS), D_X9_fault z = some (r, z1) ∧ D_X10_fault z1 = some (r, z2) ∧ Inv z2 := by
  obtain ⟨-, -, -, -, -, -, -, -, ht, -⟩ := id hI
  refine ⟨gS z 0 4 0, z, z, rfl, ?_, hI⟩
  unfold D_X10_fault
  rw [← ht]
