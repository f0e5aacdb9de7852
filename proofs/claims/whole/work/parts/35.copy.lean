theorem run_ev {z : XS} {k n : Nat} (hn : gS z 5 2 k = nI n) (h60 : n ≤ 60) (x y : Int32) : D_X5_holdsRun k x y z = some (if 0 ≤ x.toInt ∧ 0 ≤ y.toInt ∧ x.toInt + y.toInt ≤ (n : Int) then 1 else 0, z) := by
  unfold D_X5_holdsRun
  rw [hn]
  have e := nI_i (n := n) (by omega)
  have ry := i_rng y
  by_cases h : x < 0
  · have h1 : x.toInt < 0 := (i_lt x 0).mp h
    rw [if_pos h, if_neg (by omega)]
  · have h1 : ¬ x.toInt < 0 := fun q => h ((i_lt x 0).mpr q)
    rw [if_neg h]
    by_cases h2 : nI n < x
    · have h3 := (i_lt _ _).mp h2
      rw [if_pos h2, if_neg (by omega)]
    · have h3 : ¬ (nI n).toInt < x.toInt := fun q => h2 ((i_lt _ _).mpr q)
      rw [if_neg h2]
      by_cases h4 : y < 0
      · have h5 : y.toInt < 0 := (i_lt y 0).mp h4
        rw [if_pos h4, if_neg (by omega)]
      · have h5 : ¬ y.toInt < 0 := fun q => h4 ((i_lt y 0).mpr q)
        rw [if_neg h4]
        have es : (nI n - x).toInt = (n : Int) - x.toInt := by rw [i_sub (by omega) (by omega), e]
        by_cases h6 : nI n - x < y
        · have h7 := (i_lt _ _).mp h6
          rw [if_pos h6, if_neg (by omega)]
        · have h7 : ¬ (nI n - x).toInt < y.toInt := fun q => h6 ((i_lt _ _).mpr q)
          rw [if_neg h6, if_pos (by omega)]
theorem beyond_ev {n : Nat} (h60 : n ≤ 60) (x y : Int32) (z : XS) : D_X10_isBeyond x y.toInt64 (nI n) z = some (if 0 ≤ x.toInt ∧ 0 ≤ y.toInt ∧ x.toInt + y.toInt ≤ (n : Int) then 0 else 1, z) := by
  unfold D_X10_isBeyond
  have e := nI_i (n := n) (by omega)
  have rx := i_rng x
  have ry := i_rng y
  by_cases h : x < 0
  · have h1 : x.toInt < 0 := (i_lt x 0).mp h
    rw [if_pos h, if_neg (by omega)]
  · have h1 : ¬ x.toInt < 0 := fun q => h ((i_lt x 0).mpr q)
    rw [if_neg h]
    by_cases h2 : lg_cmp y.toInt64 0 < 0
    · have h3 := (lg_lt _ _).mp h2
      rw [wide, show (0 : Int64).toInt = 0 from rfl] at h3
      rw [if_pos h2, if_neg (by omega)]
    · have h3 : ¬ y.toInt64.toInt < (0 : Int64).toInt := fun q => h2 ((lg_lt _ _).mpr q)
      rw [wide, show (0 : Int64).toInt = 0 from rfl] at h3
      rw [if_neg h2]
      have es : (x.toInt64 + y.toInt64).toInt = x.toInt + y.toInt := by
        rw [Int64.toInt_add, wide, wide, Int.bmod_eq_of_le (by omega) (by omega)]
      by_cases h4 : lg_cmp (x.toInt64 + y.toInt64) (nI n).toInt64 ≤ 0
      · have h5 : ¬ (nI n).toInt64.toInt < (x.toInt64 + y.toInt64).toInt := fun q => by
          have q2 := (lg_gt _ _).mpr q
          exact absurd h4 (Int32.not_le.mpr q2)
        rw [wide, es] at h5
        rw [if_pos h4, if_pos (by omega)]
      · have h5 : (nI n).toInt64.toInt < (x.toInt64 + y.toInt64).toInt := (lg_gt _ _).mp (Int32.not_le.mp h4)
        rw [wide, es] at h5
        rw [if_neg h4, if_neg (by omega)]
theorem copy_L2 {a b n : Nat} (x1 x2 : Int32) (ha : a < 4) (hn : b + n ≤ 60) : ∀ (m y : Nat) (z : XS), y ≤ n → n - y < m → L_X10_copy_144 x1 x2 (nI a) (nI b) (nI n) m (nI y) z = some (nI n, pS (pR z 18 15 (fun t => if 60 * a + b + y ≤ t ∧ t < 60 * a + b + n then gA z 18 16 (t - (60 * a + b)) else gA z 18 15 t)) 17 0 0 0) := by
  intro m
  induction m with
  | zero => intro y z _ h; omega
  | succ m ih =>
    intro y z hy hm
    show B_X10_copy_144 x1 x2 (nI a) (nI b) (nI n) (L_X10_copy_144 x1 x2 (nI a) (nI b) (nI n) m) (nI y) z = _
    unfold B_X10_copy_144
    by_cases h : y = n
    · subst h
      rw [if_pos ((nI_lt' (by omega) (by omega)).mpr (Nat.le_refl _)), rf_ev, Option.bind_some]
      have e : pR z 18 15 (fun t => if 60 * a + b + y ≤ t ∧ t < 60 * a + b + y then gA z 18 16 (t - (60 * a + b)) else gA z 18 15 t) = z := by
        apply xs_ext
        · intro _ _ _; rfl
        · intro k' j' i'
          rw [gA_pR']
          by_cases q : k' = 18 ∧ j' = 15
          · rw [if_pos q, if_neg (by omega), q.1, q.2]
          · rw [if_neg q]
        · intro _; rfl
      rw [e]
    · rw [if_neg (fun q => by have := (nI_lt' (by omega) (by omega)).mp q; omega), inB_nI (by omega) (by decide), gd_t, pk60 (by omega) (by omega), nI_add, inB_nI (by omega) (by decide), gd_t, Option.bind_some, tN_nI (by omega), tN_nI (by omega), nI_1, ih (y + 1) _ (by omega) (by omega)]
      congr 2
      congr 1
      apply xs_ext
      · intro _ _ _; rfl
      · intro k' j' i'
        rw [gA_pR', gA_pR']
        by_cases q : k' = 18 ∧ j' = 15
        · rw [if_pos q, if_pos q, gA_pA', gA_pA']
          by_cases e : i' = 60 * a + b + y
          · rw [if_neg (by omega), if_pos ⟨rfl, rfl, e⟩, if_pos (by omega), e, show 60 * a + b + y - (60 * a + b) = y by omega]
          · by_cases w : 60 * a + b + (y + 1) ≤ i' ∧ i' < 60 * a + b + n
            · rw [if_pos w, if_neg (by omega), if_pos (by omega)]
            · rw [if_neg w, if_neg (fun x => e x.2.2), if_neg (by omega)]
        · rw [if_neg q, if_neg q, gA_pA', if_neg (fun x => q ⟨x.1, x.2.1⟩)]
      · intro _; rfl
theorem copy_L1 {c d a b n : Nat} (hc : c < 4) (hn : d + n ≤ 60) : ∀ (m y : Nat) (z : XS), y ≤ n → n - y < m → L_X10_copy_107 (nI c) (nI d) (nI a) (nI b) (nI n) m (nI y) z = L_X10_copy_144 (nI c) (nI d) (nI a) (nI b) (nI n) 64 0 (pR z 18 16 (fun t => if y ≤ t ∧ t < n then gA z 18 15 (60 * c + d + t) else gA z 18 16 t)) := by
  intro m
  induction m with
  | zero => intro y z _ h; omega
  | succ m ih =>
    intro y z hy hm
    show B_X10_copy_107 (nI c) (nI d) (nI a) (nI b) (nI n) (L_X10_copy_107 (nI c) (nI d) (nI a) (nI b) (nI n) m) (nI y) z = _
    unfold B_X10_copy_107
    by_cases h : y = n
    · subst h
      rw [if_pos ((nI_lt' (by omega) (by omega)).mpr (Nat.le_refl _))]
      have e : pR z 18 16 (fun t => if y ≤ t ∧ t < y then gA z 18 15 (60 * c + d + t) else gA z 18 16 t) = z := by
        apply xs_ext
        · intro _ _ _; rfl
        · intro k' j' i'
          rw [gA_pR']
          by_cases q : k' = 18 ∧ j' = 16
          · rw [if_pos q, if_neg (by omega), q.1, q.2]
          · rw [if_neg q]
        · intro _; rfl
      rw [e]
    · rw [if_neg (fun q => by have := (nI_lt' (by omega) (by omega)).mp q; omega), pk60 (by omega) (by omega), nI_add, inB_nI (by omega) (by decide), gd_t, inB_nI (by omega) (by decide), gd_t, Option.bind_some, tN_nI (by omega), tN_nI (by omega), nI_1, ih (y + 1) _ (by omega) (by omega)]
      congr 1
      apply xs_ext
      · intro _ _ _; rfl
      · intro k' j' i'
        rw [gA_pR', gA_pR']
        by_cases q : k' = 18 ∧ j' = 16
        · rw [if_pos q, if_pos q, gA_pA', gA_pA']
          by_cases e : i' = y
          · rw [if_neg (by omega), if_pos ⟨rfl, rfl, e⟩, if_pos (by omega), e]
          · by_cases w : y + 1 ≤ i' ∧ i' < n
            · rw [if_pos w, if_neg (by omega), if_pos (by omega)]
            · rw [if_neg w, if_neg (fun x => e x.2.2), if_neg (by omega)]
        · rw [if_neg q, if_neg q, gA_pA', if_neg (fun x => q ⟨x.1, x.2.1⟩)]
      · intro _; rfl
theorem num_self {x : Int32} (h : 0 ≤ x.toInt) : x = nI x.toInt.toNat := (i_eq _ _).mpr (by
  have := i_rng x
  rw [nI_toInt (by omega)]
  omega)
theorem num3 {x y : Int32} {n : Nat} (h : 0 ≤ x.toInt ∧ 0 ≤ y.toInt ∧ x.toInt + y.toInt ≤ (n : Int)) : ∃ i j : Nat, x = nI i ∧ y = nI j ∧ i + j ≤ n := ⟨x.toInt.toNat, y.toInt.toNat, num_self h.1, num_self h.2.1, by omega⟩
theorem eq_copy (z : XS) (hI : Inv z) (x1 x2 x3 x4 x5 : Int32) : ∃ (r : Int32) (z1 z2 : XS), D_X9_copy x1 x2 x3 x4 x5 z = some (r, z1) ∧ D_X10_copy x1 x2 x3 x4 x5 z1 = some (r, z2) ∧ Inv z2 := by
  have hs0 := hI.2.2.2.2.2.2.2.1
  unfold D_X9_copy D_X10_copy
  rw [Option.bind_some, sheet_ev, Option.bind_some]
  by_cases h : 0 ≤ x1.toInt ∧ x1.toInt ≤ 3
  · rw [if_pos h, if_neg nm1, sheet_ev, Option.bind_some]
    by_cases h' : 0 ≤ x3.toInt ∧ x3.toInt ≤ 3
    · rw [if_pos h', if_neg nm1]
      obtain ⟨k, hk, rfl⟩ := num_of (m := 3) h
      obtain ⟨o, ho, rfl⟩ := num_of (m := 3) h'
      have eB : inB (nI k) 4 = true := inB_nI (by omega) (by decide)
      have eN : (nI k).toNatClampNeg = k := tN_nI (by omega)
      have eB' : inB (nI o) 4 = true := inB_nI (by omega) (by decide)
      have eN' : (nI o).toNatClampNeg = o := tN_nI (by omega)
      simp only [eB, eB', gd_t, eN, eN', D_X5_hasNothing]
      rcases hs0 k (by omega) with ⟨q1, q2, q3⟩ | ⟨n, ln, q1, q2, q3, q4, q5, q6, q7⟩
      · have q1' : gS (pS z 0 4 0 0) 5 1 k = -1 := q1
        rw [if_pos q1', Option.bind_some, if_neg nm1, fl_ev, Option.bind_some, pS_pS]
        refine ⟨-10 - 1, pS z 0 4 0 1, pS (pS z 0 4 0 1) 17 0 0 1, rfl, ?_, inv_fault hI 1⟩
        have q2' : gA (pS z 0 4 0 1) 18 13 k < 0 := by show gA z 18 13 k < 0; rw [q2]; decide
        rw [msheet_ev, Option.bind_some, if_pos h, if_pos nm2, msheet_ev, Option.bind_some, if_pos h', if_pos nm2, if_pos q2']
        rfl
      · have n1 : ¬ gS (pS z 0 4 0 0) 5 1 k = -1 := by
          intro q
          have q' : gS z 5 1 k = -1 := q
          rw [q3] at q'
          exact lane_pos q2 q'
        rw [if_neg n1, Option.bind_some, if_pos nm2]
        have ng : ¬ nI n < (0 : Int32) := nI_nneg (by omega)
        rcases hs0 o (by omega) with ⟨p1, p2, p3⟩ | ⟨n', ln', p1, p2, p3, p4, p5, p6, p7⟩
        · have p1' : gS (pS z 0 4 0 0) 5 1 o = -1 := p1
          rw [if_pos p1', Option.bind_some, if_neg nm1, fl_ev, Option.bind_some, pS_pS]
          refine ⟨-10 - 1, pS z 0 4 0 1, pS (pS z 0 4 0 1) 17 0 0 1, rfl, ?_, inv_fault hI 1⟩
          have q6' : gA (pS z 0 4 0 1) 18 13 k = nI n := q6
          have p2' : ¬ 0 ≤ gA (pS z 0 4 0 1) 18 13 o := by show ¬ 0 ≤ gA z 18 13 o; rw [p2]; decide
          rw [msheet_ev, Option.bind_some, if_pos h, if_pos nm2, msheet_ev, Option.bind_some, if_pos h', if_pos nm2, q6', if_neg ng, if_neg p2']
          rfl
        · have n2 : ¬ gS (pS z 0 4 0 0) 5 1 o = -1 := by
            intro q
            have q' : gS z 5 1 o = -1 := q
            rw [p3] at q'
            exact lane_pos p2 q'
          have q3' : gS (pS z 0 4 0 0) 5 1 k = nI ln := q3
          have p3' : gS (pS z 0 4 0 0) 5 1 o = nI ln' := p3
          have q5' : gS (pS z 0 4 0 0) 5 2 k = nI n := q5
          have p5' : gS (pS z 0 4 0 0) 5 2 o = nI n' := p5
          have q6' : ∀ v, gA (pS z 0 4 0 v) 18 13 k = nI n := fun _ => q6
          have p6' : ∀ v, gA (pS z 0 4 0 v) 18 13 o = nI n' := fun _ => p6
          have q4' : ∀ v, gA (pS z 0 4 0 v) 18 14 k = nI ln := fun _ => q4
          have p4' : ∀ v, gA (pS z 0 4 0 v) 18 14 o = nI ln' := fun _ => p4
          have pn : (0 : Int32) ≤ nI n' := nI_nn (by omega)
          rw [if_neg n2, Option.bind_some, if_pos nm2, lane_ev, Option.bind_some, if_neg n1, q3', p3']
          by_cases hl : nI ln = nI ln'
          · rw [if_pos hl, if_pos nm2, run_ev q5' q1, Option.bind_some]
            by_cases hr : 0 ≤ x2.toInt ∧ 0 ≤ x5.toInt ∧ x2.toInt + x5.toInt ≤ (n : Int)
            · rw [if_pos hr, if_neg nm1, run_ev p5' p1, Option.bind_some]
              by_cases hr' : 0 ≤ x4.toInt ∧ 0 ≤ x5.toInt ∧ x4.toInt + x5.toInt ≤ (n' : Int)
              · rw [if_pos hr', if_neg nm1]
                obtain ⟨i, c, rfl, rfl, hic⟩ := num3 hr
                obtain ⟨j, c', rfl, hcc, hjc⟩ := num3 hr'
                have e8 : c' = c := by
                  have e9 := (i_eq _ _).mp hcc
                  by_cases hc2 : c' < 2147483648
                  · rw [nI_i (by omega), nI_toInt hc2] at e9
                    omega
                  · omega
                subst e8
                have cp : cpB (nI i) (nI j) (nI c') 60 60 = true := by
                  unfold cpB
                  rw [tN_nI (by omega), tN_nI (by omega), tN_nI (by omega)]
                  simp only [Bool.and_eq_true, decide_eq_true_eq]
                  exact ⟨⟨⟨⟨nI_nneg (by omega), nI_nneg (by omega)⟩, nI_nneg (by omega)⟩, by omega⟩, by omega⟩
                rw [cp, gd_t, Option.bind_some, tN_nI (by omega), tN_nI (by omega), tN_nI (by omega)]
                refine ⟨nI c', (pR (pS z 0 4 0 0) 6 o (va_cpy (fun t => gA (pS z 0 4 0 0) 6 k t) (fun t => gA (pS z 0 4 0 0) 6 o t) i j c')), (pS (pR (pR (pR (pS z 0 4 0 0) 6 o (va_cpy (fun t => gA (pS z 0 4 0 0) 6 k t) (fun t => gA (pS z 0 4 0 0) 6 o t) i j c')) 18 16 (fun t => if 0 ≤ t ∧ t < c' then gA (pR (pS z 0 4 0 0) 6 o (va_cpy (fun t => gA (pS z 0 4 0 0) 6 k t) (fun t => gA (pS z 0 4 0 0) 6 o t) i j c')) 18 15 (60 * k + i + t) else gA (pR (pS z 0 4 0 0) 6 o (va_cpy (fun t => gA (pS z 0 4 0 0) 6 k t) (fun t => gA (pS z 0 4 0 0) 6 o t) i j c')) 18 16 t)) 18 15 (fun t => if 60 * o + j + 0 ≤ t ∧ t < 60 * o + j + c' then gA (pR (pR (pS z 0 4 0 0) 6 o (va_cpy (fun t => gA (pS z 0 4 0 0) 6 k t) (fun t => gA (pS z 0 4 0 0) 6 o t) i j c')) 18 16 (fun t => if 0 ≤ t ∧ t < c' then gA (pR (pS z 0 4 0 0) 6 o (va_cpy (fun t => gA (pS z 0 4 0 0) 6 k t) (fun t => gA (pS z 0 4 0 0) 6 o t) i j c')) 18 15 (60 * k + i + t) else gA (pR (pS z 0 4 0 0) 6 o (va_cpy (fun t => gA (pS z 0 4 0 0) 6 k t) (fun t => gA (pS z 0 4 0 0) 6 o t) i j c')) 18 16 t)) 18 16 (t - (60 * o + j)) else gA (pR (pR (pS z 0 4 0 0) 6 o (va_cpy (fun t => gA (pS z 0 4 0 0) 6 k t) (fun t => gA (pS z 0 4 0 0) 6 o t) i j c')) 18 16 (fun t => if 0 ≤ t ∧ t < c' then gA (pR (pS z 0 4 0 0) 6 o (va_cpy (fun t => gA (pS z 0 4 0 0) 6 k t) (fun t => gA (pS z 0 4 0 0) 6 o t) i j c')) 18 15 (60 * k + i + t) else gA (pR (pS z 0 4 0 0) 6 o (va_cpy (fun t => gA (pS z 0 4 0 0) 6 k t) (fun t => gA (pS z 0 4 0 0) 6 o t) i j c')) 18 16 t)) 18 15 t)) 17 0 0 0), rfl, ?_, ?_⟩
                · rw [msheet_ev, Option.bind_some, if_pos h, if_pos nm2, msheet_ev, Option.bind_some, if_pos h', if_pos nm2]
                  have w6 : gA (pR (pS z 0 4 0 0) 6 o (va_cpy (fun t => gA (pS z 0 4 0 0) 6 k t) (fun t => gA (pS z 0 4 0 0) 6 o t) i j c')) 18 13 k = nI n := q6
                  have v6 : gA (pR (pS z 0 4 0 0) 6 o (va_cpy (fun t => gA (pS z 0 4 0 0) 6 k t) (fun t => gA (pS z 0 4 0 0) 6 o t) i j c')) 18 13 o = nI n' := p6
                  have w4 : gA (pR (pS z 0 4 0 0) 6 o (va_cpy (fun t => gA (pS z 0 4 0 0) 6 k t) (fun t => gA (pS z 0 4 0 0) 6 o t) i j c')) 18 14 k = gA (pR (pS z 0 4 0 0) 6 o (va_cpy (fun t => gA (pS z 0 4 0 0) 6 k t) (fun t => gA (pS z 0 4 0 0) 6 o t) i j c')) 18 14 o := by
                    show gA z 18 14 k = gA z 18 14 o
                    rw [q4, p4, hl]
                  rw [w6, if_neg ng, v6, if_pos pn, if_pos w4, beyond_ev q1, Option.bind_some, if_pos hr, if_pos nm2, v6, beyond_ev p1, Option.bind_some, if_pos hr', if_pos nm2]
                  have e1 := copy_L1 (c := k) (d := i) (a := o) (b := j) (n := c') (by omega) (by omega) 64 0 (pR (pS z 0 4 0 0) 6 o (va_cpy (fun t => gA (pS z 0 4 0 0) 6 k t) (fun t => gA (pS z 0 4 0 0) 6 o t) i j c')) (Nat.zero_le _) (by omega)
                  have e2 := copy_L2 (a := o) (b := j) (n := c') (nI k) (nI i) (by omega) (by omega) 64 0 (pR (pR (pS z 0 4 0 0) 6 o (va_cpy (fun t => gA (pS z 0 4 0 0) 6 k t) (fun t => gA (pS z 0 4 0 0) 6 o t) i j c')) 18 16 (fun t => if 0 ≤ t ∧ t < c' then gA (pR (pS z 0 4 0 0) 6 o (va_cpy (fun t => gA (pS z 0 4 0 0) 6 k t) (fun t => gA (pS z 0 4 0 0) 6 o t) i j c')) 18 15 (60 * k + i + t) else gA (pR (pS z 0 4 0 0) 6 o (va_cpy (fun t => gA (pS z 0 4 0 0) 6 k t) (fun t => gA (pS z 0 4 0 0) 6 o t) i j c')) 18 16 t)) (Nat.zero_le _) (by omega)
                  exact e1.trans e2
                · refine inv_sh hI ⟨⟨rfl, rfl⟩, fun _ => rfl, fun j hj i => ?_, fun _ => rfl, fun _ _ => rfl, fun _ _ => rfl, fun _ _ => rfl, fun _ _ => rfl⟩ ⟨⟨rfl, rfl⟩, fun _ _ => rfl, fun j hj hj2 i => ?_⟩ ?_ rfl ⟨rfl, rfl⟩
                  · rw [gA_pS, gA_pR', if_neg (by omega), gA_pR', if_neg (by omega)]; rfl
                  · rw [gA_pS, gA_pR', if_neg (by omega), gA_pR', if_neg (by omega)]; rfl
                  · intro k' hk'
                    rcases hs0 k' hk' with q | ⟨m, lm, m1, m2, m3, m4, m5, m6, m7⟩
                    · exact Or.inl q
                    · refine Or.inr ⟨m, lm, m1, m2, m3, m4, m5, m6, fun t ht => ?_⟩
                      have m8 := m7 t ht
                      show (if 6 = 6 ∧ k' = o then va_cpy (fun t => gA z 6 k t) (fun t => gA z 6 o t) i j c' t else gA z 6 k' t) = (if 60 * o + j + 0 ≤ 60 * k' + t ∧ 60 * k' + t < 60 * o + j + c' then (if 0 ≤ (60 * k' + t - (60 * o + j)) ∧ (60 * k' + t - (60 * o + j)) < c' then gA z 18 15 (60 * k + i + (60 * k' + t - (60 * o + j))) else gA z 18 16 (60 * k' + t - (60 * o + j))) else gA z 18 15 (60 * k' + t))
                      by_cases e : k' = o
                      · rw [if_pos ⟨rfl, e⟩]
                        subst e
                        have em : m = n' := by
                          have e9 := (i_eq _ _).mp (m5.symm.trans p5)
                          rw [nI_i (by omega), nI_i (by omega)] at e9
                          omega
                        subst em
                        unfold va_cpy
                        by_cases w : j ≤ t ∧ t < j + c'
                        · rw [if_pos w, if_pos (by omega), if_pos (by omega)]
                          show gA z 6 k (i + (t - j)) = gA z 18 15 (60 * k + i + (60 * k' + t - (60 * k' + j)))
                          rw [q7 (i + (t - j)) (by omega), show 60 * k + i + (60 * k' + t - (60 * k' + j)) = 60 * k + (i + (t - j)) by omega]
                        · rw [if_neg w, if_neg (by omega)]
                          exact m8
                      · rw [if_neg (fun w => e w.2), if_neg (by omega)]
                        exact m8
              · rw [if_neg hr', if_pos nm2, fl_ev, Option.bind_some, pS_pS]
                refine ⟨-10 - 3, pS z 0 4 0 3, pS (pS z 0 4 0 3) 17 0 0 3, rfl, ?_, inv_fault hI 3⟩
                rw [msheet_ev, Option.bind_some, if_pos h, if_pos nm2, msheet_ev, Option.bind_some, if_pos h', if_pos nm2, q6', if_neg ng, p6', if_pos pn, q4', p4', if_pos hl, beyond_ev q1, Option.bind_some, if_pos hr, if_pos nm2, p6', beyond_ev p1, Option.bind_some, if_neg hr', if_neg nm1]
                rfl
            · rw [if_neg hr, if_pos nm2, fl_ev, Option.bind_some, pS_pS]
              refine ⟨-10 - 3, pS z 0 4 0 3, pS (pS z 0 4 0 3) 17 0 0 3, rfl, ?_, inv_fault hI 3⟩
              rw [msheet_ev, Option.bind_some, if_pos h, if_pos nm2, msheet_ev, Option.bind_some, if_pos h', if_pos nm2, q6', if_neg ng, p6', if_pos pn, q4', p4', if_pos hl, beyond_ev q1, Option.bind_some, if_neg hr, if_neg nm1]
              rfl
          · rw [if_neg hl, if_neg nm1, fl_ev, Option.bind_some, pS_pS]
            refine ⟨-10 - 2, pS z 0 4 0 2, pS (pS z 0 4 0 2) 17 0 0 2, rfl, ?_, inv_fault hI 2⟩
            rw [msheet_ev, Option.bind_some, if_pos h, if_pos nm2, msheet_ev, Option.bind_some, if_pos h', if_pos nm2, q6', if_neg ng, p6', if_pos pn, q4', p4', if_neg hl]
            rfl
    · rw [if_neg h', if_pos nm2]
      refine ⟨-1, pS z 0 4 0 0, pS (pS z 0 4 0 0) 17 0 0 0, rfl, ?_, inv_fault hI 0⟩
      rw [msheet_ev, Option.bind_some, if_pos h, if_pos nm2, msheet_ev, Option.bind_some, if_neg h', if_neg nm1]
      rfl
  · rw [if_neg h, if_pos nm2]
    refine ⟨-1, pS z 0 4 0 0, pS (pS z 0 4 0 0) 17 0 0 0, rfl, ?_, inv_fault hI 0⟩
    rw [msheet_ev, Option.bind_some, if_neg h, if_neg nm1]
    rfl
