def Inv (z : XS) : Prop := sorry
theorem eq_gardens (z : XS) (hI : Inv z) (x1 x2 x3 x4 : Int32) : ∃ (r : Int32) (z1 z2 : XS), D_X9_gardens x1 x2 x3 x4 z = some (r, z1) ∧ D_X10_gardens x1 x2 x3 x4 z1 = some (r, z2) ∧ Inv z2 := sorry
theorem eq_wants (z : XS) (hI : Inv z) (x1 : Int32) : ∃ (r : Int32) (z1 z2 : XS), D_X9_wants x1 z = some (r, z1) ∧ D_X10_wants x1 z1 = some (r, z2) ∧ Inv z2 := sorry
theorem eq_ofHedge (z : XS) (hI : Inv z) (x1 x2 : Int32) : ∃ (r : Int32) (z1 z2 : XS), D_X9_ofHedge x1 x2 z = some (r, z1) ∧ D_X10_ofHedge x1 x2 z1 = some (r, z2) ∧ Inv z2 := sorry
theorem eq_say (z : XS) (hI : Inv z) (x1 x2 x3 x4 : Int32) : ∃ (r : Int32) (z1 z2 : XS), D_X9_say x1 x2 x3 x4 z = some (r, z1) ∧ D_X10_say x1 x2 x3 x4 z1 = some (r, z2) ∧ Inv z2 := sorry
theorem eq_clip (z : XS) (hI : Inv z) (x1 x2 x3 : Int32) : ∃ (r : Int32) (z1 z2 : XS), D_X9_clip x1 x2 x3 z = some (r, z1) ∧ D_X10_clip x1 x2 x3 z1 = some (r, z2) ∧ Inv z2 := sorry
theorem eq_face (z : XS) (hI : Inv z) (x1 x2 x3 : Int32) : ∃ (r : Int32) (z1 z2 : XS), D_X9_face x1 x2 x3 z = some (r, z1) ∧ D_X10_face x1 x2 x3 z1 = some (r, z2) ∧ Inv z2 := sorry
theorem eq_height (z : XS) (hI : Inv z) (x1 x2 x3 : Int32) : ∃ (r : Int32) (z1 z2 : XS), D_X9_height x1 x2 x3 z = some (r, z1) ∧ D_X10_height x1 x2 x3 z1 = some (r, z2) ∧ Inv z2 := sorry
theorem eq_light (z : XS) (hI : Inv z) (x1 x2 : Int32) : ∃ (r : Int32) (z1 z2 : XS), D_X9_light x1 x2 z = some (r, z1) ∧ D_X10_light x1 x2 z1 = some (r, z2) ∧ Inv z2 := sorry
theorem eq_goats (z : XS) (hI : Inv z) (x1 : Int32) : ∃ (r : Int32) (z1 z2 : XS), D_X9_goats x1 z = some (r, z1) ∧ D_X10_goats x1 z1 = some (r, z2) ∧ Inv z2 := sorry
theorem eq_off (z : XS) (hI : Inv z) (x1 x2 : Int32) : ∃ (r : Int32) (z1 z2 : XS), D_X9_off x1 x2 z = some (r, z1) ∧ D_X10_off x1 x2 z1 = some (r, z2) ∧ Inv z2 := sorry
theorem eq_scold (z : XS) (hI : Inv z) (x1 x2 x3 x4 : Int32) : ∃ (r : Int32) (z1 z2 : XS), D_X9_scold x1 x2 x3 x4 z = some (r, z1) ∧ D_X10_scold x1 x2 x3 x4 z1 = some (r, z2) ∧ Inv z2 := sorry
theorem eq_reading (z : XS) (hI : Inv z) (x1 x2 x3 x4 : Int32) : ∃ (r : Int32) (z1 z2 : XS), D_X9_reading x1 x2 x3 x4 z = some (r, z1) ∧ D_X10_reading x1 x2 x3 x4 z1 = some (r, z2) ∧ Inv z2 := sorry
theorem eq_back (z : XS) (hI : Inv z) (x1 : Int32) : ∃ (r : Int32) (z1 z2 : XS), D_X9_back x1 z = some (r, z1) ∧ D_X10_back x1 z1 = some (r, z2) ∧ Inv z2 := sorry
theorem eq_said (z : XS) (hI : Inv z) (x1 x2 x3 : Int32) : ∃ (r : Int32) (z1 z2 : XS), D_X9_said x1 x2 x3 z = some (r, z1) ∧ D_X10_said x1 x2 x3 z1 = some (r, z2) ∧ Inv z2 := sorry
theorem eq_quarrel (z : XS) (hI : Inv z) (x1 x2 x3 x4 : Int32) : ∃ (r : Int32) (z1 z2 : XS), D_X9_quarrel x1 x2 x3 x4 z = some (r, z1) ∧ D_X10_quarrel x1 x2 x3 x4 z1 = some (r, z2) ∧ Inv z2 := sorry
theorem eq_peace (z : XS) (hI : Inv z) (x1 : Int32) : ∃ (r : Int32) (z1 z2 : XS), D_X9_peace x1 z = some (r, z1) ∧ D_X10_peace x1 z1 = some (r, z2) ∧ Inv z2 := sorry
theorem eq_round (z : XS) (hI : Inv z) (x1 x2 : Int32) : ∃ (r : Int32) (z1 z2 : XS), D_X9_round x1 x2 z = some (r, z1) ∧ D_X10_round x1 x2 z1 = some (r, z2) ∧ Inv z2 := sorry
theorem eq_fines (z : XS) (hI : Inv z) (x1 x2 : Int32) : ∃ (r : Int32) (z1 z2 : XS), D_X9_fines x1 x2 z = some (r, z1) ∧ D_X10_fines x1 x2 z1 = some (r, z2) ∧ Inv z2 := sorry
theorem eq_mean (z : XS) (hI : Inv z) (x1 x2 : Int32) : ∃ (r : Int64) (z1 z2 : XS), D_X9_mean x1 x2 z = some (r, z1) ∧ D_X10_mean x1 x2 z1 = some (r, z2) ∧ Inv z2 := sorry
theorem eq_sheet (z : XS) (hI : Inv z) (x1 x2 x3 : Int32) : ∃ (r : Int32) (z1 z2 : XS), D_X9_sheet x1 x2 x3 z = some (r, z1) ∧ D_X10_sheet x1 x2 x3 z1 = some (r, z2) ∧ Inv z2 := sorry
theorem eq_lose (z : XS) (hI : Inv z) (x1 : Int32) : ∃ (r : Int32) (z1 z2 : XS), D_X9_lose x1 z = some (r, z1) ∧ D_X10_lose x1 z1 = some (r, z2) ∧ Inv z2 := sorry
theorem eq_put (z : XS) (hI : Inv z) (x1 x2 x3 : Int32) : ∃ (r : Int32) (z1 z2 : XS), D_X9_put x1 x2 x3 z = some (r, z1) ∧ D_X10_put x1 x2 x3 z1 = some (r, z2) ∧ Inv z2 := sorry
theorem eq_cell (z : XS) (hI : Inv z) (x1 x2 x3 : Int32) : ∃ (r : Int64) (z1 z2 : XS), D_X9_cell x1 x2 x3 z = some (r, z1) ∧ D_X10_cell x1 x2 x3 z1 = some (r, z2) ∧ Inv z2 := sorry
theorem eq_copy (z : XS) (hI : Inv z) (x1 x2 x3 x4 x5 : Int32) : ∃ (r : Int32) (z1 z2 : XS), D_X9_copy x1 x2 x3 x4 x5 z = some (r, z1) ∧ D_X10_copy x1 x2 x3 x4 x5 z1 = some (r, z2) ∧ Inv z2 := sorry
theorem eq_tell (z : XS) (hI : Inv z) (x1 : Int32) : ∃ (r : Int32) (z1 z2 : XS), D_X9_tell x1 z = some (r, z1) ∧ D_X10_tell x1 z1 = some (r, z2) ∧ Inv z2 := sorry
theorem eq_lean (z : XS) (hI : Inv z) (x1 : Int32) : ∃ (r : Int32) (z1 z2 : XS), D_X9_lean x1 z = some (r, z1) ∧ D_X10_lean x1 z1 = some (r, z2) ∧ Inv z2 := sorry
theorem eq_as (z : XS) (hI : Inv z) (x1 x2 : Int32) : ∃ (r : Int32) (z1 z2 : XS), D_X9_as x1 x2 z = some (r, z1) ∧ D_X10_as x1 x2 z1 = some (r, z2) ∧ Inv z2 := sorry
theorem eq_trace (z : XS) (hI : Inv z) : ∃ (r : Int32) (z1 z2 : XS), D_X9_trace  z = some (r, z1) ∧ D_X10_trace  z1 = some (r, z2) ∧ Inv z2 := sorry
theorem eq_fault (z : XS) (hI : Inv z) : ∃ (r : Int32) (z1 z2 : XS), D_X9_fault  z = some (r, z1) ∧ D_X10_fault  z1 = some (r, z2) ∧ Inv z2 := sorry
theorem eq_many (z : XS) (hI : Inv z) (x1 : Int32) : ∃ (r : Int32) (z1 z2 : XS), D_X9_many x1 z = some (r, z1) ∧ D_X10_many x1 z1 = some (r, z2) ∧ Inv z2 := sorry
