/-! a day in the class; say, clip -/
theorem wB_cases {w : Int32} (h : wB w) : w = -3 ∨ w = -2 ∨ w = -1 ∨ w = 0 ∨ w = 1 ∨ w = 2 ∨ w = 3 := by
  obtain ⟨h1, h2⟩ := h
  rw [i_eq, i_eq, i_eq, i_eq, i_eq, i_eq, i_eq, show (-3 : Int32).toInt = -3 from rfl, show (-2 : Int32).toInt = -2 from rfl, show (-1 : Int32).toInt = -1 from rfl, show (0 : Int32).toInt = 0 from rfl, show (1 : Int32).toInt = 1 from rfl, show (2 : Int32).toInt = 2 from rfl, show (3 : Int32).toInt = 3 from rfl]
  omega
theorem half_w {w : Int32} (h : wB w) : 12 * w / 2 = 6 * w := by
  rcases wB_cases h with rfl | rfl | rfl | rfl | rfl | rfl | rfl <;> decide
theorem grow_ev {z : XS} {h : Nat} {kd w : Int32} (q : KH (z.2.2 h) kd) (hw : wB w) : DV_growth_X0_49 h w z = some (gM kd w, z) := by
  unfold DV_growth_X0_49 gM
  have hH := KH_H q
  rcases q with ⟨q, e⟩ | ⟨q, e⟩ | ⟨q, e⟩
  · rw [if_neg (by omega), if_neg (by omega), if_pos q]
    subst e
    unfold D_X2_growth
    by_cases h1 : w ≤ 0
    · rw [if_pos h1, if_pos h1]; rfl
    · rw [if_neg h1, if_neg h1]; rfl
  · rw [if_neg (by omega), if_pos q]
    subst e
    unfold D_X8_growth
    by_cases h1 : w ≤ 0
    · rw [if_pos h1, if_pos h1]; rfl
    · rw [if_neg h1, if_neg h1, half_w hw]; rfl
  · rw [if_pos q]
    subst e
    unfold D_X1_growth D_X8_growth
    by_cases h1 : w ≤ 0
    · rw [if_pos h1, if_pos h1, if_pos rfl]
      by_cases h2 : w = 0
      · rw [if_pos h2, if_pos h2]
      · rw [if_neg h2, if_neg h2]
    · rw [if_neg h1, if_neg h1, if_neg h1, hH, gd_t, half_w hw]; rfl
theorem mxmn (x : Int32) : (if (0 : Int32) < (if x < 240 then x else 240) then (if x < 240 then x else 240) else 0) = bM x := by
  unfold bM
  have e240 : (240 : Int32).toInt = 240 := rfl
  have e0 : (0 : Int32).toInt = 0 := rfl
  by_cases h1 : x < 240
  · rw [if_pos h1]
    have a1 := (i_lt x 240).mp h1
    rw [mx0]
    by_cases h2 : 0 ≤ x
    · rw [if_pos h2, if_pos h2, if_pos ((i_le _ _).mpr (by omega))]
    · rw [if_neg h2, if_neg h2]
  · rw [if_neg h1, if_pos (by decide)]
    have a1 : ¬ x.toInt < (240 : Int32).toInt := fun q => h1 ((i_lt x 240).mpr q)
    rw [if_pos ((i_le _ _).mpr (by omega))]
    by_cases h2 : x ≤ 240
    · rw [if_pos h2]
      have a2 := (i_le _ _).mp h2
      exact ((i_eq _ _).mpr (by omega))
    · rw [if_neg h2]
theorem mnmn (a b : Int32) : (if a < b then a else b) = (if a ≤ b then a else b) := by
  by_cases h1 : a < b
  · rw [if_pos h1, if_pos (Int32.le_of_lt h1)]
  · rw [if_neg h1]
    by_cases h2 : a ≤ b
    · rw [if_pos h2]
      have a2 := (i_le _ _).mp h2
      have a1 : ¬ a.toInt < b.toInt := fun q => h1 ((i_lt _ _).mpr q)
      exact ((i_eq _ _).mpr (by omega))
    · rw [if_neg h2]
theorem dayC {z : XS} {h d : Nat} {kd b w : Int32} (q : KH (z.2.2 h) kd) (hw : wB w) (hd : d < 30) (hc : cB (gA z 15 h d)) : D_X0_dayOver h b (nI d) w z = some (dM kd (gA z 15 h d) b w, z) := by
  unfold D_X0_dayOver dM
  have eB : inB (nI d) 30 = true := inB_nI hd (by decide)
  rw [grow_ev q hw, Option.bind_some, eB, gd_t, gd_t, tN_nI (by omega), mxmn]
  rcases hc with e | hc
  · rw [if_pos e, e, if_pos (by decide)]
  · obtain ⟨t, ht, e⟩ := num_of (m := 20) hc
    have n1 : ¬ gA z 15 h d = -9 := by
      intro q
      rw [q] at hc
      exact absurd hc.1 (by decide)
    rw [if_neg n1, e, if_neg (nI_nneg (by omega)), mnmn]
theorem fc_congr {k b : Int32} {C C' W W' : Nat → Int32} : ∀ (n : Nat), (∀ t, t < n → C t = C' t ∧ W t = W' t) → fc k b C W n = fc k b C' W' n := by
  intro n
  induction n with
  | zero => intro _; rfl
  | succ n ih =>
    intro e
    show dM k (C n) (fc k b C W n) (W n) = dM k (C' n) (fc k b C' W' n) (W' n)
    rw [ih (fun t ht => e t (by omega)), (e n (by omega)).1, (e n (by omega)).2]
theorem pR_self (z : XS) (k j : Nat) : pR z k j (fun t => gA z k j t) = z := by
  apply xs_ext
  · intro _ _ _; rfl
  · intro k' j' i'
    rw [gA_pR']
    by_cases q : k' = k ∧ j' = j
    · rw [if_pos q, q.1, q.2]
    · rw [if_neg q]
  · intro _; rfl
theorem pR_pA (z : XS) (k j i : Nat) (v : Int32) (f : Nat → Int32) : pR (pA z k j i v) k j f = pR z k j f := by
  apply xs_ext
  · intro _ _ _; rfl
  · intro k' j' i'
    rw [gA_pR', gA_pR', gA_pA']
    by_cases q : k' = k ∧ j' = j
    · rw [if_pos q, if_pos q]
    · rw [if_neg q, if_neg q, if_neg (fun x => q ⟨x.1, x.2.1⟩)]
  · intro _; rfl
theorem grow_L {h s : Nat} {kd b0 : Int32} {C W : Nat → Int32} (x1 x2 : Int32) : ∀ (m a : Nat) (z : XS), KH (z.2.2 h) kd → (∀ d, d < 30 → gA z 15 h d = C d ∧ cB (C d)) → (∀ d, d < 30 → gA z 12 (2 * h + s) d = W d ∧ wB (W d)) → (∀ t, t ≤ a → gA z 14 (2 * h + s) t = fc kd b0 C W t) → a ≤ 30 → 30 - a < m → ∃ f, L_X0_growFrom_18 h x1 x2 m (2 * h + s) (2 * h + s) (nI a) z = some (pR z 14 (2 * h + s) f) ∧ ∀ t, t ≤ 30 → f t = fc kd b0 C W t := by
  intro m
  induction m with
  | zero => intro a z _ _ _ _ _ h; omega
  | succ m ih =>
    intro a z hk hC hW hP ha hm
    show ∃ f, B_X0_growFrom_18 h x1 x2 (L_X0_growFrom_18 h x1 x2 m) (2 * h + s) (2 * h + s) (nI a) z = _ ∧ _
    unfold B_X0_growFrom_18
    by_cases e : a = 30
    · subst e
      refine ⟨fun t => gA z 14 (2 * h + s) t, ?_, hP⟩
      rw [if_pos (show (30 : Int32) ≤ nI 30 by decide), pR_self]
    · have e1 := hC a (by omega)
      have e2 := hW a (by omega)
      have e3 := hP a (Nat.le_refl _)
      rw [if_neg (show ¬ (30 : Int32) ≤ nI a from fun q => by have := (nI_lt' (a := 30) (by omega) (by omega)).mp q; omega), inB_nI (by omega) (by decide), gd_t, inB_nI (by omega) (by decide), gd_t, tN_nI (by omega), e2.1, e3, dayC hk e2.2 (by omega) (by rw [e1.1]; exact e1.2), Option.bind_some, nI_1, inB_nI (by omega) (by decide), gd_t, Option.bind_some, tN_nI (by omega), e1.1]
      obtain ⟨f, q1, q2⟩ := ih (a + 1) (pA z 14 (2 * h + s) (a + 1) (dM kd (C a) (fc kd b0 C W a) (W a))) hk hC hW (fun t ht => by
        rw [gA_pA']
        by_cases et : t = a + 1
        · rw [if_pos ⟨rfl, rfl, et⟩, et]; rfl
        · rw [if_neg (fun x => et x.2.2)]
          exact hP t (by omega)) (by omega) (by omega)
      exact ⟨f, by rw [← pR_pA z 14 (2 * h + s) (a + 1) (dM kd (C a) (fc kd b0 C W a) (W a)) f]; exact q1, q2⟩
theorem growF_ev {h s a : Nat} {kd b0 : Int32} {C W : Nat → Int32} {z : XS} (hs : s < 2) (hk : KH (z.2.2 h) kd) (hC : ∀ d, d < 30 → gA z 15 h d = C d ∧ cB (C d)) (hW : ∀ d, d < 30 → gA z 12 (2 * h + s) d = W d ∧ wB (W d)) (hP : ∀ t, t ≤ a → gA z 14 (2 * h + s) t = fc kd b0 C W t) (ha : a ≤ 30) : ∃ f, D_X0_growFrom h (nI s) (nI a) z = some (pR z 14 (2 * h + s) f) ∧ ∀ t, t ≤ 30 → f t = fc kd b0 C W t := by
  unfold D_X0_growFrom
  rw [inB_nI hs (by decide), gd_t, gd_t, tN_nI (by omega)]
  exact grow_L (nI s) (nI a) 64 a z hk hC hW hP ha (by omega)
def wup (f : Nat → Int32) (d : Nat) (w : Int32) : Nat → Int32 := fun t => if t = d then w else f t
/-- a word of the reference set: one flank's words change on a day -/
theorem wd_set (z : XS) {h s d h' s' d' : Nat} (w : Int32) (hs : s < 2) (hs' : s' < 2) (hd : d < 30) (hd' : d' < 30) : wd (pA z 18 3 (hr h s d) w) h' s' d' = if h' = h ∧ s' = s then wup (wd z h s) d w d' else wd z h' s' d' := by
  unfold wd wup
  rw [gA_pA']
  by_cases e : h' = h ∧ s' = s
  · rw [if_pos e, e.1, e.2]
    by_cases e2 : d' = d
    · rw [if_pos ⟨rfl, rfl, by rw [e2]⟩, if_pos e2]
    · rw [if_neg (fun x => e2 (hr_inj hs hs hd' hd x.2.2).2.2), if_neg e2]
  · rw [if_neg e, if_neg (fun x => e ⟨(hr_inj hs' hs hd' hd x.2.2).1, (hr_inj hs' hs hd' hd x.2.2).2.1⟩)]
theorem fM_set (z : XS) {h s d h' s' n : Nat} (w : Int32) (hs : s < 2) (hs' : s' < 2) (hd : d < 30) (hn : n ≤ 30) : fM (pA z 18 3 (hr h s d) w) h' s' n = if h' = h ∧ s' = s then fc (gA z 18 1 h) (12 * gA z 18 2 h) (cl z h) (wup (wd z h s) d w) n else fM z h' s' n := by
  have e0 : fM (pA z 18 3 (hr h s d) w) h' s' n = fc (gA z 18 1 h') (12 * gA z 18 2 h') (cl z h') (wd (pA z 18 3 (hr h s d) w) h' s') n := rfl
  rw [e0]
  by_cases e : h' = h ∧ s' = s
  · rw [if_pos e]
    obtain ⟨rfl, rfl⟩ := e
    exact fc_congr n (fun t ht => ⟨rfl, by rw [wd_set z w hs hs hd (by omega), if_pos ⟨rfl, rfl⟩]⟩)
  · rw [if_neg e]
    exact fc_congr n (fun t ht => ⟨rfl, by rw [wd_set z w hs hs' hd (by omega), if_neg e]⟩)
theorem two_inj {h s h' s' : Nat} (hs : s < 2) (hs' : s' < 2) : 2 * h' + s' = 2 * h + s ↔ h' = h ∧ s' = s := by omega
theorem upd_ge {k b : Int32} {C W : Nat → Int32} {d : Nat} {w : Int32} : ∀ t, t ≤ d → fc k b C (wup W d w) t = fc k b C W t := fun t ht => fc_congr t (fun u hu => ⟨rfl, by unfold wup; rw [if_neg (by omega)]⟩)
theorem speak_ev {z : XS} (hI : Inv z) {h s d : Nat} {w : Int32} (hh : h + 1 < cN z) (hs : s < 2) (hd : d < 30) (hw : wB w) : ∃ f, D_X0_speak h (nI s) (nI d) w z = some (wd z h s d, pR (pA z 12 (2 * h + s) d w) 14 (2 * h + s) f) ∧ Inv (pA (pR (pA z 12 (2 * h + s) d w) 14 (2 * h + s) f) 18 3 (hr h s d) w) := by
  obtain ⟨k1, k2, k3, k4⟩ := hI.2.2.1 h hh
  have hC := hI.2.2.2.2.1 h hh
  have hW := hI.2.2.2.1 h hh s hs
  have hN := hI.2.2.2.2.2.1 h hh s hs
  obtain ⟨f, q1, q2⟩ := growF_ev (z := pA z 12 (2 * h + s) d w) (h := h) (s := s) (a := d) (b0 := 12 * gA z 18 2 h) (C := cl z h) (W := wup (wd z h s) d w) hs k1 hC (fun t ht => by
    rw [gA_pA']
    unfold wup
    by_cases e : t = d
    · rw [if_pos ⟨rfl, rfl, e⟩, if_pos e]
      exact ⟨rfl, hw⟩
    · rw [if_neg (fun x => e x.2.2), if_neg e]
      exact hW t ht) (fun t ht => by
    rw [upd_ge t ht]
    exact hN t (by omega)) (by omega)
  refine ⟨f, ?_, ?_⟩
  · unfold D_X0_speak
    rw [inB_nI hs (by decide), inB_nI hd (by decide), gd_t, gd_t, gd_t, gd_t, Option.bind_some, tN_nI (by omega), tN_nI (by omega), q1, Option.bind_some, (hW d hd).1]
  · refine ⟨hI.1, hI.2.1, hI.2.2.1, ?_, ?_, ?_, hI.2.2.2.2.2.2.1, hI.2.2.2.2.2.2.2.1, hI.2.2.2.2.2.2.2.2.1, hI.2.2.2.2.2.2.2.2.2⟩
    · intro h' hh' s' hs' d' hd'
      have old := hI.2.2.2.1 h' hh' s' hs' d' hd'
      have e1 : wd (pA (pR (pA z 12 (2 * h + s) d w) 14 (2 * h + s) f) 18 3 (hr h s d) w) h' s' d' = wd (pA z 18 3 (hr h s d) w) h' s' d' := rfl
      have e2 : gA (pA (pR (pA z 12 (2 * h + s) d w) 14 (2 * h + s) f) 18 3 (hr h s d) w) 12 (2 * h' + s') d' = if 12 = 12 ∧ 2 * h' + s' = 2 * h + s ∧ d' = d then w else gA z 12 (2 * h' + s') d' := rfl
      rw [e1, e2, wd_set z w hs hs' hd hd']
      unfold wup
      by_cases e : h' = h ∧ s' = s
      · rw [if_pos e, (two_inj hs hs').mpr e]
        by_cases t : d' = d
        · rw [if_pos ⟨rfl, rfl, t⟩, if_pos t]
          exact ⟨rfl, hw⟩
        · rw [if_neg (fun x => t x.2.2), if_neg t]
          exact hW d' hd'
      · rw [if_neg e, if_neg (fun x => e ((two_inj hs hs').mp x.2.1))]
        exact old
    · exact hI.2.2.2.2.1
    · intro h' hh' s' hs' n hn
      have e1 : fM (pA (pR (pA z 12 (2 * h + s) d w) 14 (2 * h + s) f) 18 3 (hr h s d) w) h' s' n = fM (pA z 18 3 (hr h s d) w) h' s' n := rfl
      have e2 : gA (pA (pR (pA z 12 (2 * h + s) d w) 14 (2 * h + s) f) 18 3 (hr h s d) w) 14 (2 * h' + s') n = if 14 = 14 ∧ 2 * h' + s' = 2 * h + s then f n else gA z 14 (2 * h' + s') n := rfl
      rw [e1, e2, fM_set z w hs hs' hd hn]
      by_cases e : h' = h ∧ s' = s
      · rw [if_pos e, if_pos ⟨rfl, (two_inj hs hs').mpr e⟩]
        exact q2 n hn
      · rw [if_neg e, if_neg (fun x => e ((two_inj hs hs').mp x.2))]
        exact hI.2.2.2.2.2.1 h' hh' s' hs' n hn
theorem in33 (x : Int32) (z : XS) : D_X10_in x.toInt64 (-3) 3 z = some (if -3 ≤ x.toInt ∧ x.toInt ≤ 3 then 1 else 0, z) := by
  rw [in_ev, wide]; rfl
theorem abs_ev (x : Int32) (z : XS) : D_X9_isWithin (if 0 ≤ x then x else 0 - x) 3 z = some (if -3 ≤ x.toInt ∧ x.toInt ≤ 3 then 1 else 0, z) := by
  rw [within_ev, show (3 : Int32).toInt = 3 from rfl]
  have e0 : (0 : Int32).toInt = 0 := rfl
  have rx := i_rng x
  by_cases h : 0 ≤ x
  · have h1 := (i_le _ _).mp h
    rw [if_pos h]
    by_cases h2 : x.toInt ≤ 3
    · rw [if_pos (by omega), if_pos (by omega)]
    · rw [if_neg (by omega), if_neg (by omega)]
  · have h1 : ¬ (0 : Int32).toInt ≤ x.toInt := fun q => h ((i_le _ _).mpr q)
    rw [if_neg h]
    by_cases hm : x.toInt = -2147483648
    · have e : (0 - x : Int32).toInt = -2147483648 := by
        rw [Int32.toInt_sub, e0, hm]; decide
      rw [if_neg (by omega), if_neg (by omega)]
    · have e : (0 - x : Int32).toInt = - x.toInt := by
        rw [i_sub (by omega) (by omega)]; omega
      by_cases h2 : -3 ≤ x.toInt
      · rw [if_pos (by omega), if_pos (by omega)]
      · rw [if_neg (by omega), if_neg (by omega)]
theorem hb9_ev {g : Nat} (s : Nat) (z : XS) : D_X9_hedgeBeside (nI g) (nI s) z = some (if nI s = 0 then nI g - 1 else nI g, z) := by
  unfold D_X9_hedgeBeside
  by_cases e : nI s = 0
  · rw [if_pos e, if_pos e]
  · rw [if_neg e, if_neg e]
theorem eq_say (z : XS) (hI : Inv z) (x1 x2 x3 x4 : Int32) : ∃ (r : Int32) (z1 z2 : XS), D_X9_say x1 x2 x3 x4 z = some (r, z1) ∧ D_X10_say x1 x2 x3 x4 z1 = some (r, z2) ∧ Inv z2 := by
  obtain ⟨⟨c1, c2, c3, c4⟩, -⟩ := id hI
  unfold D_X9_say D_X10_say
  rw [garden_ev c1 c3, Option.bind_some]
  by_cases h : 0 ≤ x1.toInt ∧ x1.toInt < (cN z : Int)
  · rw [if_pos h, if_neg nm1, side_ev, Option.bind_some]
    by_cases h2 : 0 ≤ x2.toInt ∧ x2.toInt ≤ 1
    · rw [if_pos h2, if_neg nm1, day_ev, Option.bind_some]
      by_cases h3 : 0 ≤ x3.toInt ∧ x3.toInt ≤ 29
      · rw [if_pos h3, if_neg nm1, abs_ev, Option.bind_some]
        by_cases h4 : -3 ≤ x4.toInt ∧ x4.toInt ≤ 3
        · rw [if_pos h4, if_neg nm1]
          obtain ⟨g, hg, rfl⟩ := garden_n h
          obtain ⟨s, hs, rfl⟩ := num_of (m := 1) h2
          obtain ⟨d, hd, rfl⟩ := num_of (m := 29) h3
          rw [hb9_ev, Option.bind_some]
          have core : ∀ (hh ss : Nat), hh + 1 < cN z → ss < 2 → 60 * g + 30 * s + d = hr hh ss d → ∀ (p : Int32), p = nI hh → ∃ (r : Int32) (z1 z2 : XS), gd (inB (nI hh) 6) ((D_X0_speak (nI hh).toNatClampNeg (nI ss) (nI d) x4 z).bind fun q14 => (some (q14.1 + (10 : Int32), q14.2))) = some (r, z1) ∧ ((D_X10_placeOf (nI g) (nI s) (nI d) z1).bind fun q12 => (gd (inB q12.1 420) ((D_X10_placeOf (nI g) (nI s) (nI d) q12.2).bind fun q14 => (gd (inB q14.1 420) ((some (pA q14.2 18 3 q14.1.toNatClampNeg x4)).bind fun z16 => (some ((gA q12.2 18 3 q12.1.toNatClampNeg) + (10 : Int32), z16))))))) = some (r, z2) ∧ Inv z2 ∧ gS z1 17 1 0 = nI (cN z) := by
            intro hh ss h1 hss ep p hp
            obtain ⟨f, q1, q2⟩ := speak_ev hI h1 hss (show d < 30 by omega) h4
            have hlt := hr_lt (h := hh) (s := ss) (d := d) (by omega) (by omega)
            refine ⟨wd z hh ss d + 10, pR (pA z 12 (2 * hh + ss) d x4) 14 (2 * hh + ss) f, pA (pR (pA z 12 (2 * hh + ss) d x4) 14 (2 * hh + ss) f) 18 3 (hr hh ss d) x4, ?_, ?_, q2, ?_⟩
            · rw [inB_nI (by omega) (by decide), gd_t, tN_nI (by omega), q1, Option.bind_some]
            · rw [place_ev, Option.bind_some, ep, inB_nI hlt (by decide), gd_t, place_ev, Option.bind_some, ep, inB_nI hlt (by decide), gd_t, Option.bind_some, tN_nI (by omega)]
              rfl
            · exact c4
          by_cases es : s = 0
          · subst es
            rw [if_pos (show nI 0 = 0 from rfl), isH_l c1 c3 hg, Option.bind_some]
            by_cases e : 1 ≤ g
            · rw [if_pos e, if_neg nm1]
              obtain ⟨r, z1, z2, A, B, I2, C⟩ := core (g - 1) 1 (by omega) (by decide) (by unfold hr; rw [if_neg (by decide)]; omega) _ rfl
              refine ⟨r, z1, z2, ?_, ?_, I2⟩
              · rw [show (nI g - 1, z).1 = nI (g - 1) from nI_sub (b := 1) e]
                exact A
              · rw [mgarden_ev C c3, Option.bind_some, if_pos h, if_pos nm2, mside_ev, Option.bind_some, if_pos h2, if_neg nm1, mday_ev, Option.bind_some, if_pos h3, if_neg nm1, in33, Option.bind_some, if_pos h4, if_neg nm1, hb_ev, Option.bind_some, if_pos (show nI 0 = 0 from rfl), noh_l C c3 hg, Option.bind_some, if_pos e, if_pos nm2]
                exact B
            · rw [if_neg e, if_pos nm2]
              refine ⟨-1, z, z, rfl, ?_, hI⟩
              rw [mgarden_ev c4 c3, Option.bind_some, if_pos h, if_pos nm2, mside_ev, Option.bind_some, if_pos h2, if_neg nm1, mday_ev, Option.bind_some, if_pos h3, if_neg nm1, in33, Option.bind_some, if_pos h4, if_neg nm1, hb_ev, Option.bind_some, if_pos (show nI 0 = 0 from rfl), noh_l c4 c3 hg, Option.bind_some, if_neg e, if_neg nm1]
          · have es1 : s = 1 := by omega
            subst es1
            rw [if_neg (show ¬ nI 1 = 0 by decide), isH_r c1 c3 (by omega), Option.bind_some]
            by_cases e : g + 1 < cN z
            · rw [if_pos e, if_neg nm1]
              obtain ⟨r, z1, z2, A, B, I2, C⟩ := core g 0 e (by decide) (by unfold hr; rw [if_pos rfl]) _ rfl
              refine ⟨r, z1, z2, ?_, ?_, I2⟩
              · exact A
              · rw [mgarden_ev C c3, Option.bind_some, if_pos h, if_pos nm2, mside_ev, Option.bind_some, if_pos h2, if_neg nm1, mday_ev, Option.bind_some, if_pos h3, if_neg nm1, in33, Option.bind_some, if_pos h4, if_neg nm1, hb_ev, Option.bind_some, if_neg (show ¬ nI 1 = 0 by decide), noh_r C c3 (by omega), Option.bind_some, if_pos e, if_pos nm2]
                exact B
            · rw [if_neg e, if_pos nm2]
              refine ⟨-1, z, z, rfl, ?_, hI⟩
              rw [mgarden_ev c4 c3, Option.bind_some, if_pos h, if_pos nm2, mside_ev, Option.bind_some, if_pos h2, if_neg nm1, mday_ev, Option.bind_some, if_pos h3, if_neg nm1, in33, Option.bind_some, if_pos h4, if_neg nm1, hb_ev, Option.bind_some, if_neg (show ¬ nI 1 = 0 by decide), noh_r c4 c3 (by omega), Option.bind_some, if_neg e, if_neg nm1]
        · rw [if_neg h4, if_pos nm2]
          refine ⟨-2, z, z, rfl, ?_, hI⟩
          rw [mgarden_ev c4 c3, Option.bind_some, if_pos h, if_pos nm2, mside_ev, Option.bind_some, if_pos h2, if_neg nm1, mday_ev, Option.bind_some, if_pos h3, if_neg nm1, in33, Option.bind_some, if_neg h4, if_pos nm2]
      · rw [if_neg h3, if_pos nm2]
        refine ⟨-2, z, z, rfl, ?_, hI⟩
        rw [mgarden_ev c4 c3, Option.bind_some, if_pos h, if_pos nm2, mside_ev, Option.bind_some, if_pos h2, if_neg nm1, mday_ev, Option.bind_some, if_neg h3, if_pos nm2]
    · rw [if_neg h2, if_pos nm2]
      refine ⟨-2, z, z, rfl, ?_, hI⟩
      rw [mgarden_ev c4 c3, Option.bind_some, if_pos h, if_pos nm2, mside_ev, Option.bind_some, if_neg h2, if_pos nm2]
  · rw [if_neg h, if_pos nm2]
    refine ⟨-1, z, z, rfl, ?_, hI⟩
    rw [mgarden_ev c4 c3, Option.bind_some, if_neg h, if_neg nm1]
