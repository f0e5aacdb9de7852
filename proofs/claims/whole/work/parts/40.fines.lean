/-! fines -/
def sm (F : Nat → Int32) : Nat → Nat → Int32
  | 0, _ => 0
  | m + 1, a => F a + sm F m (a + 1)
theorem sm_add (F G : Nat → Int32) : ∀ m a, sm (fun t => F t + G t) m a = sm F m a + sm G m a := by
  intro m
  induction m with
  | zero => intro a; rfl
  | succ m ih =>
    intro a
    show (F a + G a) + sm (fun t => F t + G t) m (a + 1) = (F a + sm F m (a + 1)) + (G a + sm G m (a + 1))
    rw [ih, Int32.add_assoc, Int32.add_assoc, ← Int32.add_assoc (G a), Int32.add_comm (G a), Int32.add_assoc]
theorem sm_0 : ∀ m a, sm (fun _ => 0) m a = 0 := by
  intro m
  induction m with
  | zero => intro a; rfl
  | succ m ih =>
    intro a
    show (0 : Int32) + sm (fun _ => 0) m (a + 1) = 0
    rw [ih]; rfl
theorem sm_congr {F G : Nat → Int32} : ∀ m a, (∀ t, a ≤ t → t < a + m → F t = G t) → sm F m a = sm G m a := by
  intro m
  induction m with
  | zero => intro a _; rfl
  | succ m ih =>
    intro a e
    show F a + sm F m (a + 1) = G a + sm G m (a + 1)
    rw [e a (by omega) (by omega), ih (a + 1) (fun t h1 h2 => e t (by omega) (by omega))]
/-- the fine for a HEDGE at a DAWN, for one side -/
def fnM (z : XS) (h : Nat) (s x : Int32) (n : Nat) : Int32 :=
  if 12 * x < hM z h n then hM z h n / 12 / 2 + (if (if fM z h 0 n < fM z h 1 n then (1 : Int32) else 0) = s then hM z h n / 12 - hM z h n / 12 / 2 * 2 else 0) else 0
theorem fined_ev {z : XS} {h n : Nat} (s x : Int32) (hh : h < 6) (hn : n ≤ 30) : D_X10_finedAt (nI h) s (nI n) x z = some (fnM z h s x n, z) := by
  unfold D_X10_finedAt
  rw [n0', face_ev z hh (by decide) hn, Option.bind_some, n1', face_ev z hh (by decide) hn, Option.bind_some, lesser_ev, Option.bind_some]
  show (if 12 * x < hM z h n then (if fM z h 0 n < fM z h 1 n then J_X10_finedAt_58 (nI h) s (nI n) x (hM z h n / 12) 1 z else J_X10_finedAt_58 (nI h) s (nI n) x (hM z h n / 12) 0 z) else some (0, z)) = _
  unfold fnM
  have J : ∀ t, J_X10_finedAt_58 (nI h) s (nI n) x (hM z h n / 12) t z = some (hM z h n / 12 / 2 + (if t = s then hM z h n / 12 - hM z h n / 12 / 2 * 2 else 0), z) := by
    intro t
    unfold J_X10_finedAt_58 J_X10_finedAt_67
    by_cases q : t = s
    · rw [if_pos q, if_pos q, if_neg nm1]
    · rw [if_neg q, if_neg q, if_pos nm2]
  rw [J, J]
  by_cases q : 12 * x < hM z h n
  · rw [if_pos q, if_pos q]
    by_cases t : fM z h 0 n < fM z h 1 n
    · rw [if_pos t, if_pos t]
    · rw [if_neg t, if_neg t]
  · rw [if_neg q, if_neg q]
theorem oddC_ev {z : XS} (hI : Inv z) {h n : Nat} (hh : h + 1 < cN z) (hn : n ≤ 30) : D_X0_oddCoinSide h (nI n) z = some (if fM z h 0 n < fM z h 1 n then 1 else 0, z) := by
  obtain ⟨a, ha, ea⟩ := fM_n hI (s := 0) hh hn
  obtain ⟨b, hb, eb⟩ := fM_n hI (s := 1) hh hn
  unfold D_X0_oddCoinSide
  rw [leanC_ev z hn, Option.bind_some, inc_of hI hh (by decide) hn, inc_of hI hh (by decide) hn, ea, eb]
  have es : (nI a - nI b).toInt = (a : Int) - b := by
    rw [i_sub (by rw [nI_i (by omega), nI_i (by omega)]; omega) (by rw [nI_i (by omega), nI_i (by omega)]; omega), nI_i (by omega), nI_i (by omega)]
  by_cases h : a < b
  · rw [if_pos ((nI_lt'' (by omega) (by omega)).mpr h), if_pos ((i_lt _ _).mpr (by rw [es, show (0 : Int32).toInt = 0 from rfl]; omega))]
  · rw [if_neg (fun q => h ((nI_lt'' (by omega) (by omega)).mp q)), if_neg (fun q => by have := (i_lt _ _).mp q; rw [es, show (0 : Int32).toInt = 0 from rfl] at this; omega)]
theorem finesBy_L {z : XS} (hI : Inv z) {h : Nat} (s x : Int32) (hh : h + 1 < cN z) : ∀ (m a : Nat) (y : Int32), a ≤ 31 → 31 - a < m → L_X0_finesBy_5 h s x m y (nI a) z = some (y + sm (fnM z h s x) (31 - a) a, z) := by
  intro m
  induction m with
  | zero => intro a _ _ h; omega
  | succ m ih =>
    intro a y ha hm
    show B_X0_finesBy_5 h s x (L_X0_finesBy_5 h s x m) y (nI a) z = _
    unfold B_X0_finesBy_5
    by_cases e : a = 31
    · subst e
      rw [if_pos (show (30 : Int32) < nI 31 by decide)]
      show some (y, z) = some (y + 0, z)
      rw [Int32.add_zero]
    · have hn : a ≤ 30 := by omega
      rw [if_neg (fun q => by have := (nI_lt'' (a := 30) (by omega) (by omega)).mp q; omega), heightC_ev z hn, Option.bind_some, hC_of hI hh hn]
      rw [show 31 - a = (31 - (a + 1)) + 1 by omega]
      show _ = some (y + (fnM z h s x a + sm (fnM z h s x) (31 - (a + 1)) (a + 1)), z)
      rw [← Int32.add_assoc, ← ih (a + 1) _ (by omega) (by omega), oddC_ev hI hh hn, Option.bind_some, nI_1]
      unfold fnM
      by_cases q : 12 * x < hM z h a
      · rw [if_pos q, if_pos q]
        by_cases t : (if fM z h 0 a < fM z h 1 a then (1 : Int32) else 0) = s
        · rw [if_pos t, if_pos t, ← Int32.add_assoc]
        · rw [if_neg t, if_neg t, Int32.add_zero]
      · rw [if_neg q, if_neg q, Int32.add_zero]
theorem finesBy_ev {z : XS} (hI : Inv z) {h : Nat} (s x : Int32) (hh : h + 1 < cN z) : D_X0_finesBy h s x z = some (sm (fnM z h s x) 30 1, z) := by
  have := finesBy_L hI s x hh 64 1 0 (by decide) (by decide)
  rw [Int32.zero_add] at this
  exact this
/-- what a garden pays for both HEDGES at a DAWN -/
def fnG (z : XS) (g : Nat) (x : Int32) (n : Nat) : Int32 := (if 1 ≤ g then fnM z (g - 1) 1 x n else 0) + (if g + 1 < cN z then fnM z g 0 x n else 0)
theorem finesC_ev {z : XS} (hI : Inv z) {g : Nat} (x : Int32) (hg : g < cN z) : D_X4_finesOf (nI g) x z = some (sm (fnG z g x) 30 1, z) := by
  have c1 := hI.1.1
  have c3 := hI.1.2.2.1
  have e1 : sm (fnG z g x) 30 1 = sm (fun n => if 1 ≤ g then fnM z (g - 1) 1 x n else 0) 30 1 + sm (fun n => if g + 1 < cN z then fnM z g 0 x n else 0) 30 1 := sm_add _ _ 30 1
  have J : ∀ y, J_X4_finesOf_28 (nI g) x y z = some (y + sm (fun n => if g + 1 < cN z then fnM z g 0 x n else 0) 30 1, z) := by
    intro y
    unfold J_X4_finesOf_28
    rw [isH_r c1 c3 (by omega), Option.bind_some]
    by_cases e : g + 1 < cN z
    · rw [if_pos e, if_neg nm1, inB_nI (by omega) (by decide), gd_t, tN_nI (by omega), finesBy_ev hI _ _ e, Option.bind_some]
      simp only [if_pos e]
    · rw [if_neg e, if_pos nm2]
      simp only [if_neg e]
      rw [sm_0, Int32.add_zero]
  unfold D_X4_finesOf
  rw [e1, isH_l c1 c3 hg, Option.bind_some]
  by_cases e : 1 ≤ g
  · rw [if_pos e, if_neg nm1, show nI g - 1 = nI (g - 1) from nI_sub (b := 1) e, inB_nI (by omega) (by decide), gd_t, tN_nI (by omega), finesBy_ev hI _ _ (by omega), Option.bind_some, J, Int32.zero_add]
    simp only [if_pos e]
  · rw [if_neg e, if_pos nm2, J]
    simp only [if_neg e]
    rw [sm_0]
theorem fines_in {z : XS} {c : Nat} (hc : gS z 17 1 0 = nI c) (ec : cN z = c) (h7 : c ≤ 7) {g a : Nat} (x : Int32) (hg : g < c) (ha : a ≤ 30) (k : Int32 → Int32 → XS → Option (Int32 × XS)) (y : Int32) : L_X10_finesOf_15 (nI g) x k 64 y (nI a) 0 z = k (y + fnG z g x a) (nI (a + 1)) z := by
  have st2 : ∀ (m : Nat) (y : Int32), L_X10_finesOf_15 (nI g) x k (m + 1) y (nI a) (nI 2) z = k y (nI (a + 1)) z := by
    intro m y
    show B_X10_finesOf_15 (nI g) x k (L_X10_finesOf_15 (nI g) x k m) y (nI a) (nI 2) z = _
    unfold B_X10_finesOf_15
    rw [if_pos (show (2 : Int32) ≤ nI 2 by decide), nI_1]
  have st1 : ∀ (m : Nat) (y : Int32), L_X10_finesOf_15 (nI g) x k (m + 2) y (nI a) (nI 1) z = k (y + (if g + 1 < c then fnM z g 0 x a else 0)) (nI (a + 1)) z := by
    intro m y
    show B_X10_finesOf_15 (nI g) x k (L_X10_finesOf_15 (nI g) x k (m + 1)) y (nI a) (nI 1) z = _
    unfold B_X10_finesOf_15
    rw [if_neg (show ¬ (2 : Int32) ≤ nI 1 by decide), hb_ev, Option.bind_some, if_neg (show ¬ nI 1 = 0 by decide), noh_r hc h7 (by omega), Option.bind_some, nI_1]
    by_cases e : g + 1 < c
    · rw [if_pos e, if_pos nm2, fined_ev _ _ (by omega) ha, Option.bind_some, if_pos e]
      exact st2 m _
    · rw [if_neg e, if_neg nm1, if_neg e]
      exact st2 m _
  show B_X10_finesOf_15 (nI g) x k (L_X10_finesOf_15 (nI g) x k 63) y (nI a) (nI 0) z = _
  unfold B_X10_finesOf_15 fnG
  rw [if_neg (show ¬ (2 : Int32) ≤ nI 0 by decide), hb_ev, Option.bind_some, if_pos (show nI 0 = 0 from rfl), noh_l hc h7 hg, Option.bind_some, ← Int32.add_assoc, ec, nI_1]
  by_cases e : 1 ≤ g
  · rw [if_pos e, if_pos nm2, show (nI g - 1, z).1 = nI (g - 1) from nI_sub (b := 1) e, fined_ev _ _ (by omega) ha, Option.bind_some, if_pos e]
    exact st1 61 _
  · rw [if_neg e, if_neg nm1, if_neg e]
    exact st1 61 _
theorem finesM_L {z : XS} {c : Nat} (hc : gS z 17 1 0 = nI c) (ec : cN z = c) (h7 : c ≤ 7) {g : Nat} (x : Int32) (hg : g < c) : ∀ (m a : Nat) (y : Int32), a ≤ 31 → 31 - a < m → L_X10_finesOf_5 (nI g) x m y (nI a) z = some (y + sm (fnG z g x) (31 - a) a, z) := by
  intro m
  induction m with
  | zero => intro a _ _ h; omega
  | succ m ih =>
    intro a y ha hm
    show B_X10_finesOf_5 (nI g) x (L_X10_finesOf_5 (nI g) x m) y (nI a) z = _
    unfold B_X10_finesOf_5
    by_cases e : a = 31
    · subst e
      rw [if_pos (show (30 : Int32) < nI 31 by decide)]
      show some (y, z) = some (y + 0, z)
      rw [Int32.add_zero]
    · rw [if_neg (fun q => by have := (nI_lt'' (a := 30) (by omega) (by omega)).mp q; omega), fines_in hc ec h7 x hg (by omega), ih (a + 1) _ (by omega) (by omega)]
      rw [show 31 - a = (31 - (a + 1)) + 1 by omega]
      show _ = some (y + (fnG z g x a + sm (fnG z g x) (31 - (a + 1)) (a + 1)), z)
      rw [← Int32.add_assoc]
theorem finesM_ev {z : XS} {c : Nat} (hc : gS z 17 1 0 = nI c) (ec : cN z = c) (h7 : c ≤ 7) {g : Nat} (x : Int32) (hg : g < c) : D_X10_finesOf (nI g) x z = some (sm (fnG z g x) 30 1, z) := by
  have := finesM_L hc ec h7 x hg 64 1 0 (by decide) (by decide)
  rw [Int32.zero_add] at this
  exact this
theorem allC_L {z : XS} (hI : Inv z) (x1 x : Int32) : ∀ (m a : Nat) (y : Int32), a ≤ cN z → cN z - a < m → L_X9_fines_48 x1 x m y (nI a) z = some (y + sm (fun g => sm (fnG z g x) 30 1) (cN z - a) a, z) := by
  have c1 := hI.1.1
  have c3 := hI.1.2.2.1
  intro m
  induction m with
  | zero => intro a _ _ h; omega
  | succ m ih =>
    intro a y ha hm
    show B_X9_fines_48 x1 x (L_X9_fines_48 x1 x m) y (nI a) z = _
    unfold B_X9_fines_48
    rw [c1]
    by_cases e : a = cN z
    · subst e
      rw [if_pos ((nI_lt' (by omega) (by omega)).mpr (Nat.le_refl _)), Nat.sub_self]
      show some (y, z) = some (y + 0, z)
      rw [Int32.add_zero]
    · rw [if_neg (fun q => by have := (nI_lt' (by omega) (by omega)).mp q; omega), finesC_ev hI _ (by omega), Option.bind_some, nI_1, ih (a + 1) _ (by omega) (by omega)]
      rw [show cN z - a = (cN z - (a + 1)) + 1 by omega]
      show _ = some (y + (sm (fnG z a x) 30 1 + sm (fun g => sm (fnG z g x) 30 1) (cN z - (a + 1)) (a + 1)), z)
      rw [← Int32.add_assoc]
theorem allM_L {z : XS} (hI : Inv z) (x1 x : Int32) : ∀ (m a : Nat) (y : Int32), a ≤ cN z → cN z - a < m → L_X10_fines_41 x1 x m y (nI a) z = some (y + sm (fun g => sm (fnG z g x) 30 1) (cN z - a) a, z) := by
  have c4 := hI.1.2.2.2
  have c3 := hI.1.2.2.1
  intro m
  induction m with
  | zero => intro a _ _ h; omega
  | succ m ih =>
    intro a y ha hm
    show B_X10_fines_41 x1 x (L_X10_fines_41 x1 x m) y (nI a) z = _
    unfold B_X10_fines_41
    rw [c4]
    by_cases e : a = cN z
    · subst e
      rw [if_pos ((nI_lt' (by omega) (by omega)).mpr (Nat.le_refl _)), Nat.sub_self]
      show some (y, z) = some (y + 0, z)
      rw [Int32.add_zero]
    · rw [if_neg (fun q => by have := (nI_lt' (by omega) (by omega)).mp q; omega), finesM_ev c4 rfl c3 _ (by omega), Option.bind_some, nI_1, ih (a + 1) _ (by omega) (by omega)]
      rw [show cN z - a = (cN z - (a + 1)) + 1 by omega]
      show _ = some (y + (sm (fnG z a x) 30 1 + sm (fun g => sm (fnG z g x) 30 1) (cN z - (a + 1)) (a + 1)), z)
      rw [← Int32.add_assoc]
theorem nI_nm1 {n : Nat} (h : n ≤ 1000) : ¬ nI n = (-1 : Int32) := by
  intro q
  have e := (i_eq _ _).mp q
  rw [nI_i (by omega), show (-1 : Int32).toInt = -1 from rfl] at e
  omega
theorem eq_fines (z : XS) (hI : Inv z) (x1 x2 : Int32) : ∃ (r : Int32) (z1 z2 : XS), D_X9_fines x1 x2 z = some (r, z1) ∧ D_X10_fines x1 x2 z1 = some (r, z2) ∧ Inv z2 := by
  obtain ⟨⟨c1, c2, c3, c4⟩, -⟩ := id hI
  unfold D_X9_fines D_X10_fines
  by_cases e : x1 = -1
  · simp only [if_pos e]
    unfold J_X9_fines_18 J_X10_fines_15
    rw [feet_ev, Option.bind_some]
    by_cases h3 : 0 ≤ x2.toInt ∧ x2.toInt ≤ 20
    · rw [if_pos h3, if_neg nm1]
      refine ⟨0 + sm (fun g => sm (fnG z g x2) 30 1) (cN z - 0) 0, z, z, ?_, ?_, hI⟩
      · rw [if_pos e]
        exact allC_L hI x1 x2 64 0 0 (Nat.zero_le _) (by omega)
      · rw [mfeet_ev, Option.bind_some, if_pos h3, if_neg nm1, if_pos (by rw [e]; decide)]
        exact allM_L hI x1 x2 64 0 0 (Nat.zero_le _) (by omega)
    · rw [if_neg h3, if_pos nm2]
      refine ⟨-2, z, z, rfl, ?_, hI⟩
      rw [mfeet_ev, Option.bind_some, if_neg h3, if_pos nm2]
  · simp only [if_neg e]
    rw [garden_ev c1 c3, Option.bind_some]
    by_cases h : 0 ≤ x1.toInt ∧ x1.toInt < (cN z : Int)
    · rw [if_pos h, if_neg nm1]
      unfold J_X9_fines_18 J_X10_fines_15
      obtain ⟨g, hg, rfl⟩ := garden_n h
      rw [feet_ev, Option.bind_some]
      by_cases h3 : 0 ≤ x2.toInt ∧ x2.toInt ≤ 20
      · rw [if_pos h3, if_neg nm1]
        refine ⟨sm (fnG z g x2) 30 1, z, z, ?_, ?_, hI⟩
        · rw [if_neg e, finesC_ev hI _ hg, Option.bind_some]
        · rw [mgarden_ev c4 c3, Option.bind_some, if_pos h, if_pos nm2, mfeet_ev, Option.bind_some, if_pos h3, if_neg nm1, if_neg (nI_nneg (by omega)), finesM_ev c4 rfl c3 _ hg, Option.bind_some]
      · rw [if_neg h3, if_pos nm2]
        refine ⟨-2, z, z, rfl, ?_, hI⟩
        rw [mgarden_ev c4 c3, Option.bind_some, if_pos h, if_pos nm2, mfeet_ev, Option.bind_some, if_neg h3, if_pos nm2]
    · rw [if_neg h, if_pos nm2]
      refine ⟨-1, z, z, rfl, ?_, hI⟩
      rw [mgarden_ev c4 c3, Option.bind_some, if_neg h, if_neg nm1]
