/-! gardens -/
theorem g143_L {c : Nat} (x1 x2 x3 x4 : Int32) (h7 : c ≤ 7) : ∀ (m a : Nat) (u : XS), gS u 17 1 0 = nI c → a ≤ c → c - a < m → L_X10_gardens_143 x1 x2 x3 x4 m (nI a) u = L_X10_gardens_175 x1 x2 x3 x4 64 0 (pR u 18 0 (fun t => if a ≤ t ∧ t < c then gA u 18 5 t else gA u 18 0 t)) := by
  intro m
  induction m with
  | zero => intro a u _ _ h; omega
  | succ m ih =>
    intro a u hc ha hm
    show B_X10_gardens_143 x1 x2 x3 x4 (L_X10_gardens_143 x1 x2 x3 x4 m) (nI a) u = _
    unfold B_X10_gardens_143
    rw [hc]
    by_cases e : a = c
    · subst e
      rw [if_pos ((nI_lt' (by omega) (by omega)).mpr (Nat.le_refl _))]
      have e2 : pR u 18 0 (fun t => if a ≤ t ∧ t < a then gA u 18 5 t else gA u 18 0 t) = u := by
        apply xs_ext
        · intro _ _ _; rfl
        · intro k' j' i'
          rw [gA_pR']
          by_cases q : k' = 18 ∧ j' = 0
          · rw [if_pos q, if_neg (by omega), q.1, q.2]
          · rw [if_neg q]
        · intro _; rfl
      rw [e2]
    · rw [if_neg (fun q => by have := (nI_lt' (by omega) (by omega)).mp q; omega), inB_nI (by omega) (by decide), gd_t, gd_t, Option.bind_some, tN_nI (by omega), nI_1, ih (a + 1) (pA u 18 0 a (gA u 18 5 a)) hc (by omega) (by omega)]
      congr 1
      apply xs_ext
      · intro _ _ _; rfl
      · intro k' j' i'
        rw [gA_pR', gA_pR']
        by_cases q : k' = 18 ∧ j' = 0
        · rw [if_pos q, if_pos q]
          show (if a + 1 ≤ i' ∧ i' < c then gA u 18 5 i' else (if 18 = 18 ∧ 0 = 0 ∧ i' = a then gA u 18 5 a else gA u 18 0 i')) = _
          by_cases e3 : i' = a
          · rw [if_neg (by omega), if_pos ⟨rfl, rfl, e3⟩, if_pos (by omega), e3]
          · by_cases w : a + 1 ≤ i' ∧ i' < c
            · rw [if_pos w, if_pos (by omega)]
            · rw [if_neg w, if_neg (fun x => e3 x.2.2), if_neg (by omega)]
        · rw [if_neg q, if_neg q, gA_pA', if_neg (fun x => q ⟨x.1, x.2.1⟩)]
      · intro _; rfl
def cp12 (u : XS) (a b : Nat) : XS := pR (pR u 18 1 (fun t => if a ≤ t ∧ t < b then gA u 18 6 t else gA u 18 1 t)) 18 2 (fun t => if a ≤ t ∧ t < b then gA u 18 7 t else gA u 18 2 t)
theorem cp12_0 (u : XS) (a : Nat) : cp12 u a a = u := by
  apply xs_ext
  · intro _ _ _; rfl
  · intro k' j' i'
    unfold cp12
    rw [gA_pR', gA_pR']
    by_cases q : k' = 18 ∧ j' = 2
    · rw [if_pos q, if_neg (by omega), q.1, q.2]
    · rw [if_neg q]
      by_cases q2 : k' = 18 ∧ j' = 1
      · rw [if_pos q2, if_neg (by omega), q2.1, q2.2]
      · rw [if_neg q2]
  · intro _; rfl
theorem cp12_s (u : XS) (a b : Nat) (h : a < b) : cp12 (pA (pA u 18 1 a (gA u 18 6 a)) 18 2 a (gA u 18 7 a)) (a + 1) b = cp12 u a b := by
  apply xs_ext
  · intro _ _ _; rfl
  · intro k' j' i'
    by_cases q : k' = 18 ∧ j' = 2
    · obtain ⟨rfl, rfl⟩ := q
      show (if a + 1 ≤ i' ∧ i' < b then gA u 18 7 i' else (if 18 = 18 ∧ 2 = 2 ∧ i' = a then gA u 18 7 a else gA u 18 2 i')) = (if a ≤ i' ∧ i' < b then gA u 18 7 i' else gA u 18 2 i')
      by_cases e3 : i' = a
      · rw [if_neg (by omega), if_pos ⟨rfl, rfl, e3⟩, if_pos (by omega), e3]
      · by_cases w : a + 1 ≤ i' ∧ i' < b
        · rw [if_pos w, if_pos (by omega)]
        · rw [if_neg w, if_neg (fun x => e3 x.2.2), if_neg (by omega)]
    · by_cases q2 : k' = 18 ∧ j' = 1
      · obtain ⟨rfl, rfl⟩ := q2
        show (if a + 1 ≤ i' ∧ i' < b then gA u 18 6 i' else (if 18 = 18 ∧ 1 = 1 ∧ i' = a then gA u 18 6 a else gA u 18 1 i')) = (if a ≤ i' ∧ i' < b then gA u 18 6 i' else gA u 18 1 i')
        by_cases e3 : i' = a
        · rw [if_neg (by omega), if_pos ⟨rfl, rfl, e3⟩, if_pos (by omega), e3]
        · by_cases w : a + 1 ≤ i' ∧ i' < b
          · rw [if_pos w, if_pos (by omega)]
          · rw [if_neg w, if_neg (fun x => e3 x.2.2), if_neg (by omega)]
      · unfold cp12
        rw [gA_pR', if_neg q, gA_pR', if_neg q2, gA_pR', if_neg q, gA_pR', if_neg q2, gA_pA', if_neg (fun x => q ⟨x.1, x.2.1⟩), gA_pA', if_neg (fun x => q2 ⟨x.1, x.2.1⟩)]
  · intro _; rfl
theorem g175_L {c : Nat} (x1 x2 x3 x4 : Int32) (h7 : c ≤ 7) : ∀ (m a : Nat) (u : XS), gS u 17 1 0 = nI c → a ≤ c - 1 → c - 1 - a < m → L_X10_gardens_175 x1 x2 x3 x4 m (nI a) u = L_X10_gardens_221 x1 x2 x3 x4 450 0 (cp12 u a (c - 1)) := by
  intro m
  induction m with
  | zero => intro a u _ _ h; omega
  | succ m ih =>
    intro a u hc ha hm
    show B_X10_gardens_175 x1 x2 x3 x4 (L_X10_gardens_175 x1 x2 x3 x4 m) (nI a) u = _
    unfold B_X10_gardens_175
    rw [mhedges_ev hc h7, Option.bind_some]
    by_cases e : a = c - 1
    · rw [e, if_pos ((nI_lt' (by omega) (by omega)).mpr (Nat.le_refl _)), cp12_0]
    · rw [if_neg (fun q => by have := (nI_lt' (by omega) (by omega)).mp q; omega), inB_nI (by omega) (by decide), gd_t, gd_t, Option.bind_some, gd_t, gd_t, Option.bind_some, tN_nI (by omega), nI_1]
      refine Eq.trans (ih (a + 1) (pA (pA u 18 1 a (gA u 18 6 a)) 18 2 a (gA u 18 7 a)) hc (by omega) (by omega)) ?_
      rw [cp12_s u a (c - 1) (by omega)]
theorem g221_L (x1 x2 x3 x4 : Int32) : ∀ (m a : Nat) (u : XS), a ≤ 420 → 420 - a < m → L_X10_gardens_221 x1 x2 x3 x4 m (nI a) u = L_X10_gardens_246 x1 x2 x3 x4 200 0 (fl u 18 3 a 420 0) := by
  intro m
  induction m with
  | zero => intro a u _ h; omega
  | succ m ih =>
    intro a u ha hm
    show B_X10_gardens_221 x1 x2 x3 x4 (L_X10_gardens_221 x1 x2 x3 x4 m) (nI a) u = _
    unfold B_X10_gardens_221
    by_cases e : a = 420
    · subst e
      rw [if_pos (show (420 : Int32) ≤ nI 420 by decide), fl_0]
    · rw [if_neg (show ¬ (420 : Int32) ≤ nI a from fun q => by have := (nI_lt' (a := 420) (by omega) (by omega)).mp q; omega), inB_nI (by omega) (by decide), gd_t, Option.bind_some, tN_nI (by omega), nI_1, ih (a + 1) _ (by omega) (by omega), fl_s _ _ _ _ _ _ (by omega)]
theorem g246_L (x1 x2 x3 x4 : Int32) : ∀ (m a : Nat) (u : XS), a ≤ 180 → 180 - a < m → L_X10_gardens_246 x1 x2 x3 x4 m (nI a) u = some (gS u 17 1 0, pS (pS (fl u 18 4 a 180 (-9)) 17 12 0 0) 17 0 0 0) := by
  intro m
  induction m with
  | zero => intro a u _ h; omega
  | succ m ih =>
    intro a u ha hm
    show B_X10_gardens_246 x1 x2 x3 x4 (L_X10_gardens_246 x1 x2 x3 x4 m) (nI a) u = _
    unfold B_X10_gardens_246
    by_cases e : a = 180
    · subst e
      rw [if_pos (show (180 : Int32) ≤ nI 180 by decide), Option.bind_some, rf_ev, Option.bind_some, fl_0]
      rfl
    · rw [if_neg (show ¬ (180 : Int32) ≤ nI a from fun q => by have := (nI_lt' (a := 180) (by omega) (by omega)).mp q; omega), inB_nI (by omega) (by decide), gd_t, Option.bind_some, tN_nI (by omega), nI_1, ih (a + 1) _ (by omega) (by omega), fl_s _ _ _ _ _ _ (by omega)]
      rfl
theorem inv_new {w : XS} {c : Nat} (h1 : gS w 1 2 0 = nI c) (h2 : 2 ≤ c) (h7 : c ≤ 7) (h3 : gS w 17 1 0 = nI c) (hg : ∀ g, g < c → gA w 7 0 g = gA w 18 0 g) (hh : ∀ h, h + 1 < c → ∃ ci kd v, KH ci kd ∧ Pl w h ci kd (nI v) ∧ v ≤ 9 ∧ gA w 18 1 h = kd ∧ gA w 18 2 h = nI v) (hw : ∀ j, j < 420 → gA w 18 3 j = 0) (hc : ∀ j, j < 180 → gA w 18 4 j = -9) (r1 : gS w 2 4 0 = 0) (r2 : gS w 17 12 0 = 0) (hs : I_sht w) (hf : I_flt w) (ht : I_trc w) : Inv w := by
  have ec : cN w = c := by
    unfold cN
    rw [h1, tN_nI (by omega)]
  have wz : ∀ h, h < 6 → ∀ s d, d < 30 → wd w h s d = 0 := fun h hh6 s d hd => hw _ (hr_lt hh6 hd)
  have cz : ∀ h, h < 6 → ∀ d, d < 30 → cl w h d = -9 := fun h hh6 d hd => hc _ (by omega)
  refine ⟨⟨by rw [ec]; exact h1, by rw [ec]; exact Or.inr h2, by rw [ec]; exact h7, by rw [ec]; exact h3⟩, ?_, ?_, ?_, ?_, ?_, ?_, hs, hf, ht⟩
  · intro g hgc
    exact hg g (by omega)
  · intro h hhc
    obtain ⟨ci, kd, v, k1, ⟨p1, p2, p3, p4, p5⟩, k2, k3, k4⟩ := hh h (by omega)
    refine ⟨by rw [p1, k3]; exact k1, p2, by rw [p3, k4], v, k2, k4⟩
  · intro h hhc s hs' d hd
    obtain ⟨ci, kd, v, k1, ⟨p1, p2, p3, p4, p5⟩, k2, k3, k4⟩ := hh h (by omega)
    rw [wz h (by omega) s d hd]
    exact ⟨(p5 s hs').1 d hd, by unfold wB; decide⟩
  · intro h hhc d hd
    obtain ⟨ci, kd, v, k1, ⟨p1, p2, p3, p4, p5⟩, k2, k3, k4⟩ := hh h (by omega)
    rw [cz h (by omega) d hd]
    exact ⟨p4 d hd, Or.inl rfl⟩
  · intro h hhc s hs' n hn
    obtain ⟨ci, kd, v, k1, ⟨p1, p2, p3, p4, p5⟩, k2, k3, k4⟩ := hh h (by omega)
    rw [(p5 s hs').2 n hn]
    unfold fM
    rw [k3, k4]
    exact fc_congr n (fun t ht' => ⟨(cz h (by omega) t (by omega)).symm, (wz h (by omega) s t (by omega)).symm⟩)
  · exact ⟨0, by omega, r1, r2, fun k hk => by omega⟩
theorem inv_rst {z : XS} (hI : Inv (pS z 17 0 0 0)) (a b : Int32) (f5 f6 f7 : Nat → Int32) : Inv (pS (rst z a b f5 f6 f7) 17 0 0 0) := ⟨hI.1, hI.2.1, hI.2.2.1, hI.2.2.2.1, hI.2.2.2.2.1, hI.2.2.2.2.2.1, hI.2.2.2.2.2.2.1, hI.2.2.2.2.2.2.2.1, hI.2.2.2.2.2.2.2.2.1, hI.2.2.2.2.2.2.2.2.2⟩
/-- a good text, read by the reference in a state that the class has planted -/
theorem new_ev {z w : XS} (hI : Inv z) {k i n : Nat} {T : Nat → Int32} (x1 x2 x3 x4 : Int32) (hG : Good T n) (hP : Pd T ((n + 1) / 3) (pS (pS z 0 4 0 0) 1 2 0 (nI ((n + 1) / 3))) w ((n + 1) / 3)) {g5 g6 g7 : Nat → Int32} (hR : Rd T ((n + 1) / 3 - 1) g5 g6 g7) : ∃ z2, L_X10_gardens_143 x1 x2 x3 x4 64 0 (pS (rst (pS w 2 4 0 0) (nI n) (nI ((n + 1) / 3)) g5 g6 g7) 17 1 0 (nI ((n + 1) / 3))) = some (nI ((n + 1) / 3), z2) ∧ Inv z2 := by
  have h20 := good_20 hG
  have h5 := hG.2
  obtain ⟨d1, d2, d3, d4⟩ := hP
  generalize ec : (n + 1) / 3 = c at *
  have hc7 : c ≤ 7 := by omega
  have hc2 : 2 ≤ c := by omega
  have A := g143_L x1 x2 x3 x4 hc7 64 0 (pS (rst (pS w 2 4 0 0) (nI n) (nI c) g5 g6 g7) 17 1 0 (nI c)) rfl (by omega) (by omega)
  generalize eu : (pR (pS (rst (pS w 2 4 0 0) (nI n) (nI c) g5 g6 g7) 17 1 0 (nI c)) 18 0 (fun t => if 0 ≤ t ∧ t < c then gA (pS (rst (pS w 2 4 0 0) (nI n) (nI c) g5 g6 g7) 17 1 0 (nI c)) 18 5 t else gA (pS (rst (pS w 2 4 0 0) (nI n) (nI c) g5 g6 g7) 17 1 0 (nI c)) 18 0 t)) = u at A
  have u17 : gS u 17 1 0 = nI c := by rw [← eu]; rfl
  have B := g175_L x1 x2 x3 x4 hc7 64 0 u u17 (by omega) (by omega)
  have C := g221_L x1 x2 x3 x4 450 0 (cp12 u 0 (c - 1)) (by omega) (by omega)
  have D := g246_L x1 x2 x3 x4 200 0 (fl (cp12 u 0 (c - 1)) 18 3 0 420 0) (by omega) (by omega)
  have E : gS (fl (cp12 u 0 (c - 1)) 18 3 0 420 0) 17 1 0 = nI c := u17
  rw [E] at D
  refine ⟨_, A.trans (B.trans (C.trans D)), ?_⟩
  -- what u has
  have uS : ∀ k f j, ¬ k = 17 → ¬ k = 2 → gS u k f j = gS w k f j := fun k f j n17 n2 => by
    rw [← eu]
    show gS (pS (pS (pS (pS w 2 4 0 0) 17 7 0 (nI n)) 17 8 0 (nI c)) 17 1 0 (nI c)) k f j = _
    rw [gS_pS', if_neg (by omega), gS_pS', if_neg (by omega), gS_pS', if_neg (by omega), gS_pS', if_neg (by omega)]
  have uA : ∀ k j i, ¬ k = 18 → gA u k j i = gA w k j i := fun k j i n18 => by
    rw [← eu, gA_pR', if_neg (by omega)]
    show gA (pR (pR (pR (pS w 2 4 0 0) 18 5 g5) 18 6 g6) 18 7 g7) k j i = _
    rw [gA_pR', if_neg (by omega), gA_pR', if_neg (by omega), gA_pR', if_neg (by omega)]
    rfl
  have uH : ∀ h, u.2.2 h = w.2.2 h := fun h => by rw [← eu]; rfl
  have u0 : ∀ g, g < c → gA u 18 0 g = g5 g := fun g hg => by
    rw [← eu]
    show (if 0 ≤ g ∧ g < c then g5 g else _) = g5 g
    rw [if_pos ⟨Nat.zero_le _, hg⟩]
  have u6 : ∀ h, gA u 18 6 h = g6 h := fun h => by rw [← eu]; rfl
  have u7 : ∀ h, gA u 18 7 h = g7 h := fun h => by rw [← eu]; rfl
  have uo : ∀ j i, 12 < j → gA u 18 j i = gA w 18 j i := fun j i hj => by
    rw [← eu, gA_pR', if_neg (by omega)]
    show gA (pR (pR (pR (pS w 2 4 0 0) 18 5 g5) 18 6 g6) 18 7 g7) 18 j i = _
    rw [gA_pR', if_neg (by omega), gA_pR', if_neg (by omega), gA_pR', if_neg (by omega)]
    rfl
  have u22 : gS u 17 22 0 = gS w 17 22 0 := by rw [← eu]; rfl
  have u24 : gS u 2 4 0 = 0 := by rw [← eu]; rfl
  -- the last state
  generalize ez2 : pS (pS (fl (fl (cp12 u 0 (c - 1)) 18 3 0 420 0) 18 4 0 180 (-9)) 17 12 0 0) 17 0 0 0 = z2
  have zS : ∀ k f j, ¬ k = 17 → gS z2 k f j = gS u k f j := fun k f j n17 => by
    rw [← ez2]
    show gS (pS (pS u 17 12 0 0) 17 0 0 0) k f j = _
    rw [gS_pS', if_neg (by omega), gS_pS', if_neg (by omega)]
  have zA : ∀ k j i, ¬ k = 18 → gA z2 k j i = gA u k j i := fun k j i n18 => by
    rw [← ez2, gA_pS, gA_pS, gA_fl, if_neg (by omega), gA_fl, if_neg (by omega)]
    unfold cp12
    rw [gA_pR', if_neg (by omega), gA_pR', if_neg (by omega)]
  have zo : ∀ j i, 12 < j → gA z2 18 j i = gA u 18 j i := fun j i hj => by
    rw [← ez2, gA_pS, gA_pS, gA_fl, if_neg (by omega), gA_fl, if_neg (by omega)]
    unfold cp12
    rw [gA_pR', if_neg (by omega), gA_pR', if_neg (by omega)]
  have zH : ∀ h, z2.2.2 h = u.2.2 h := fun h => by rw [← ez2]; rfl
  have z17 : gS z2 17 1 0 = nI c := by rw [← ez2]; exact u17
  have z12 : gS z2 17 12 0 = 0 := by rw [← ez2]; rfl
  have zf : gS z2 17 0 0 = 0 := by rw [← ez2]; rfl
  have z22 : gS z2 17 22 0 = gS w 17 22 0 := by rw [← ez2]; exact u22
  have z0 : ∀ g, g < c → gA z2 18 0 g = g5 g := fun g hg => by rw [← ez2]; exact u0 g hg
  have z1 : ∀ h, h < c - 1 → gA z2 18 1 h = g6 h := fun h hh => by
    rw [← ez2]
    show (if 0 ≤ h ∧ h < c - 1 then gA u 18 6 h else gA u 18 1 h) = g6 h
    rw [if_pos ⟨Nat.zero_le _, hh⟩, u6]
  have z2' : ∀ h, h < c - 1 → gA z2 18 2 h = g7 h := fun h hh => by
    rw [← ez2]
    show (if 0 ≤ h ∧ h < c - 1 then gA u 18 7 h else gA u 18 2 h) = g7 h
    rw [if_pos ⟨Nat.zero_le _, hh⟩, u7]
  have z3 : ∀ j, j < 420 → gA z2 18 3 j = 0 := fun j hj => by
    rw [← ez2]
    show (if 0 ≤ j ∧ j < 420 then (0 : Int32) else gA (cp12 u 0 (c - 1)) 18 3 j) = 0
    rw [if_pos ⟨Nat.zero_le _, hj⟩]
  have z4 : ∀ j, j < 180 → gA z2 18 4 j = -9 := fun j hj => by
    rw [← ez2]
    show (if 0 ≤ j ∧ j < 180 then (-9 : Int32) else gA (fl (cp12 u 0 (c - 1)) 18 3 0 420 0) 18 4 j) = -9
    rw [if_pos ⟨Nat.zero_le _, hj⟩]
  have wS : ∀ k f j, ¬ k = 10 → ¬ k = 17 → ¬ k = 2 → gS z2 k f j = gS (pS (pS z 0 4 0 0) 1 2 0 (nI c)) k f j := fun k f j n10 n17 n2 => by
    rw [zS k f j n17, uS k f j n17 n2]
    exact d3 k f j n10
  refine inv_new (c := c) (wS 1 2 0 (by decide) (by decide) (by decide)) hc2 hc7 z17 (fun g hg => ?_) (fun h hh => ?_) z3 z4 (by rw [zS 2 4 0 (by decide)]; exact u24) z12 ?_ ?_ ?_
  · rw [zA 7 0 g (by decide), uA 7 0 g (by decide), d1 g hg, z0 g hg, hR.1 g (by omega)]
  · have ok2 := hG.1 (3 * h + 2) (by omega)
    have ok3 := hG.1 (3 * h + 3) (by omega)
    have lt := ((okL h _).mp ok2).2
    have dg := (okD (by omega) (by omega) _).mp ok3
    obtain ⟨v, hv, ev⟩ := dig_n dg
    rw [show 3 * h + 2 = 2 + 3 * h by omega] at lt
    rw [show 3 * h + 3 = 3 + 3 * h by omega] at ev
    have p := d2 h (by omega) hh
    rw [ev] at p
    refine ⟨clsOf (T (2 + 3 * h)), kdx (T (2 + 3 * h)), v, cls_KH lt, ?_, hv, ?_, ?_⟩
    · refine Pl_keep p ((zH h).trans (uH h)) (fun f => (zS 10 f h (by decide)).trans (uS 10 f h (by decide) (by decide))) (fun i => (zA 15 h i (by decide)).trans (uA 15 h i (by decide))) (fun s i hs => ⟨(zA 12 _ i (by decide)).trans (uA 12 _ i (by decide)), (zA 14 _ i (by decide)).trans (uA 14 _ i (by decide))⟩)
    · rw [z1 h (by omega), (hR.2 h (by omega)).1]
    · rw [z2' h (by omega), (hR.2 h (by omega)).2, ev]
  · have old := hI.2.2.2.2.2.2.2.1
    have s18 : ∀ j i, 12 < j → gA z2 18 j i = gA z 18 j i := fun j i hj => by
      rw [zo j i hj, uo j i hj, d4 18 j i (by decide) (by decide) (by decide) (by decide)]
      rfl
    have s5 : ∀ f j, gS z2 5 f j = gS z 5 f j := fun f j => wS 5 f j (by decide) (by decide) (by decide)
    have s6 : ∀ j i, gA z2 6 j i = gA z 6 j i := fun j i => by
      rw [zA 6 j i (by decide), uA 6 j i (by decide), d4 6 j i (by decide) (by decide) (by decide) (by decide)]
      rfl
    intro k' hk'
    rcases old k' hk' with ⟨q1, q2, q3⟩ | ⟨m, lm, m1, m2, m3, m4, m5, m6, m7⟩
    · exact Or.inl ⟨by rw [s5]; exact q1, by rw [s18 _ _ (by decide)]; exact q2, by rw [s5]; exact q3⟩
    · exact Or.inr ⟨m, lm, m1, m2, by rw [s5]; exact m3, by rw [s18 _ _ (by decide)]; exact m4, by rw [s5]; exact m5, by rw [s18 _ _ (by decide)]; exact m6, fun t ht => by rw [s6, s18 _ _ (by decide)]; exact m7 t ht⟩
  · unfold I_flt
    rw [wS 0 4 0 (by decide) (by decide) (by decide), zf]
    rfl
  · unfold I_trc
    rw [wS 3 0 0 (by decide) (by decide) (by decide), z22, d3 17 22 0 (by decide)]
    exact hI.2.2.2.2.2.2.2.2.2
