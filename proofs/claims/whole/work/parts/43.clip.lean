/-! clip; a flank if another word is said; scold, said -/
theorem cl_set (z : XS) {h d h' d' : Nat} (c : Int32) (hd : d < 30) (hd' : d' < 30) : cl (pA z 18 4 (30 * h + d) c) h' d' = if h' = h then wup (cl z h) d c d' else cl z h' d' := by
  unfold cl wup
  rw [gA_pA']
  by_cases e : h' = h
  · rw [if_pos e, e]
    by_cases e2 : d' = d
    · rw [if_pos ⟨rfl, rfl, by rw [e2]⟩, if_pos e2]
    · rw [if_neg (fun x => e2 (by omega)), if_neg e2]
  · rw [if_neg e, if_neg (fun x => e (by omega))]
theorem fM_cset (z : XS) {h d h' s' n : Nat} (c : Int32) (hd : d < 30) (hn : n ≤ 30) : fM (pA z 18 4 (30 * h + d) c) h' s' n = if h' = h then fc (gA z 18 1 h) (12 * gA z 18 2 h) (wup (cl z h) d c) (wd z h s') n else fM z h' s' n := by
  have e0 : fM (pA z 18 4 (30 * h + d) c) h' s' n = fc (gA z 18 1 h') (12 * gA z 18 2 h') (cl (pA z 18 4 (30 * h + d) c) h') (wd z h' s') n := rfl
  rw [e0]
  by_cases e : h' = h
  · rw [if_pos e]
    subst e
    exact fc_congr n (fun t ht => ⟨by rw [cl_set z c hd (by omega), if_pos rfl], rfl⟩)
  · rw [if_neg e]
    exact fc_congr n (fun t ht => ⟨by rw [cl_set z c hd (by omega), if_neg e], rfl⟩)
theorem cup_ge {k b : Int32} {C W : Nat → Int32} {d : Nat} {w : Int32} : ∀ t, t ≤ d → fc k b (wup C d w) W t = fc k b C W t := fun t ht => fc_congr t (fun u hu => ⟨by unfold wup; rw [if_neg (by omega)], rfl⟩)
theorem cut_ev {z : XS} (hI : Inv z) {h d : Nat} {c : Int32} (hh : h + 1 < cN z) (hd : d < 30) (hc : cB c) : ∃ f0 f1, D_X0_cutBack h (nI d) c z = some (cl z h d, pR (pR (pA z 15 h d c) 14 (2 * h + 0) f0) 14 (2 * h + 1) f1) ∧ Inv (pA (pR (pR (pA z 15 h d c) 14 (2 * h + 0) f0) 14 (2 * h + 1) f1) 18 4 (30 * h + d) c) := by
  obtain ⟨k1, k2, k3, k4⟩ := hI.2.2.1 h hh
  have hC := hI.2.2.2.2.1 h hh
  have hW := hI.2.2.2.1 h hh
  have hN := hI.2.2.2.2.2.1 h hh
  have hC' : ∀ t, t < 30 → gA (pA z 15 h d c) 15 h t = wup (cl z h) d c t ∧ cB (wup (cl z h) d c t) := by
    intro t ht
    rw [gA_pA']
    unfold wup
    by_cases e : t = d
    · rw [if_pos ⟨rfl, rfl, e⟩, if_pos e]
      exact ⟨rfl, hc⟩
    · rw [if_neg (fun x => e x.2.2), if_neg e]
      exact hC t ht
  obtain ⟨f0, q1, q2⟩ := growF_ev (z := pA z 15 h d c) (h := h) (s := 0) (a := d) (b0 := 12 * gA z 18 2 h) (C := wup (cl z h) d c) (W := wd z h 0) (by decide) k1 hC' (hW 0 (by decide)) (fun t ht => by
    rw [cup_ge t ht]
    exact hN 0 (by decide) t (by omega)) (by omega)
  obtain ⟨f1, p1, p2⟩ := growF_ev (z := pR (pA z 15 h d c) 14 (2 * h + 0) f0) (h := h) (s := 1) (a := d) (b0 := 12 * gA z 18 2 h) (C := wup (cl z h) d c) (W := wd z h 1) (by decide) k1 hC' (hW 1 (by decide)) (fun t ht => by
    rw [cup_ge t ht, gA_pR', if_neg (by omega)]
    exact hN 1 (by decide) t (by omega)) (by omega)
  refine ⟨f0, f1, ?_, ?_⟩
  · unfold D_X0_cutBack
    have q1' : D_X0_growFrom h 0 (nI d) (pA z 15 h d c) = _ := q1
    have p1' : D_X0_growFrom h 1 (nI d) (pR (pA z 15 h d c) 14 (2 * h + 0) f0) = _ := p1
    rw [inB_nI hd (by decide), gd_t, gd_t, Option.bind_some, tN_nI (by omega), q1', Option.bind_some, p1', Option.bind_some, (hC d hd).1]
  · refine ⟨hI.1, hI.2.1, hI.2.2.1, hI.2.2.2.1, ?_, ?_, hI.2.2.2.2.2.2.1, hI.2.2.2.2.2.2.2.1, hI.2.2.2.2.2.2.2.2.1, hI.2.2.2.2.2.2.2.2.2⟩
    · intro h' hh' d' hd'
      have old := hI.2.2.2.2.1 h' hh' d' hd'
      have e1 : cl (pA (pR (pR (pA z 15 h d c) 14 (2 * h + 0) f0) 14 (2 * h + 1) f1) 18 4 (30 * h + d) c) h' d' = cl (pA z 18 4 (30 * h + d) c) h' d' := rfl
      have e2 : gA (pA (pR (pR (pA z 15 h d c) 14 (2 * h + 0) f0) 14 (2 * h + 1) f1) 18 4 (30 * h + d) c) 15 h' d' = if 15 = 15 ∧ h' = h ∧ d' = d then c else gA z 15 h' d' := rfl
      rw [e1, e2, cl_set z c hd hd']
      unfold wup
      by_cases e : h' = h
      · rw [if_pos e, e]
        by_cases t : d' = d
        · rw [if_pos ⟨rfl, rfl, t⟩, if_pos t]
          exact ⟨rfl, hc⟩
        · rw [if_neg (fun x => t x.2.2), if_neg t]
          exact hC d' hd'
      · rw [if_neg e, if_neg (fun x => e x.2.1)]
        exact old
    · intro h' hh' s' hs' n hn
      have e1 : fM (pA (pR (pR (pA z 15 h d c) 14 (2 * h + 0) f0) 14 (2 * h + 1) f1) 18 4 (30 * h + d) c) h' s' n = fM (pA z 18 4 (30 * h + d) c) h' s' n := rfl
      have e2 : gA (pA (pR (pR (pA z 15 h d c) 14 (2 * h + 0) f0) 14 (2 * h + 1) f1) 18 4 (30 * h + d) c) 14 (2 * h' + s') n = if 14 = 14 ∧ 2 * h' + s' = 2 * h + 1 then f1 n else if 14 = 14 ∧ 2 * h' + s' = 2 * h + 0 then f0 n else gA z 14 (2 * h' + s') n := rfl
      rw [e1, e2, fM_cset z c hd hn]
      by_cases e : h' = h
      · rw [if_pos e]
        by_cases t : s' = 0
        · rw [if_neg (by omega), if_pos (by omega), t]
          exact q2 n hn
        · rw [if_pos (by omega), show s' = 1 by omega]
          exact p2 n hn
      · rw [if_neg e, if_neg (by omega), if_neg (by omega)]
        exact hI.2.2.2.2.2.1 h' hh' s' hs' n hn
theorem eq_clip (z : XS) (hI : Inv z) (x1 x2 x3 : Int32) : ∃ (r : Int32) (z1 z2 : XS), D_X9_clip x1 x2 x3 z = some (r, z1) ∧ D_X10_clip x1 x2 x3 z1 = some (r, z2) ∧ Inv z2 := by
  obtain ⟨⟨c1, c2, c3, c4⟩, -⟩ := id hI
  unfold D_X9_clip D_X10_clip
  rw [hedge_ev c1 c3, Option.bind_some]
  by_cases h : 0 ≤ x1.toInt ∧ x1.toInt + 1 < (cN z : Int)
  · rw [if_pos h, if_neg nm1, day_ev, Option.bind_some]
    by_cases h2 : 0 ≤ x2.toInt ∧ x2.toInt ≤ 29
    · rw [if_pos h2, if_neg nm1]
      have core : cB x3 → ∃ (r : Int32) (z1 z2 : XS), J_X9_clip_36 x1 x2 x3 z = some (r, z1) ∧ J_X10_clip_33 x1 x2 x3 z1 = some (r, z2) ∧ Inv z2 ∧ gS z1 17 1 0 = nI (cN z) := by
        intro hc
        obtain ⟨g, hg, rfl⟩ := hedge_n h
        obtain ⟨d, hd, rfl⟩ := num_of (m := 29) h2
        obtain ⟨f0, f1, q1, q2⟩ := cut_ev hI hg (show d < 30 by omega) hc
        refine ⟨cl z g d, pR (pR (pA z 15 g d x3) 14 (2 * g + 0) f0) 14 (2 * g + 1) f1, pA (pR (pR (pA z 15 g d x3) 14 (2 * g + 0) f0) 14 (2 * g + 1) f1) 18 4 (30 * g + d) x3, ?_, ?_, q2, c4⟩
        · unfold J_X9_clip_36
          rw [inB_nI (by omega) (by decide), gd_t, tN_nI (by omega), q1, Option.bind_some]
        · unfold J_X10_clip_33
          rw [pk30, inB_nI (by omega) (by decide), gd_t, gd_t, Option.bind_some, tN_nI (by omega)]
          rfl
      by_cases e : x3 = -9
      · simp only [if_pos e]
        obtain ⟨r, z1, z2, A, B, I2, C⟩ := core (Or.inl e)
        refine ⟨r, z1, z2, A, ?_, I2⟩
        rw [mhedge_ev C c3, Option.bind_some, if_pos h, if_pos nm2, mday_ev, Option.bind_some, if_pos h2, if_neg nm1]
        exact B
      · simp only [if_neg e]
        rw [feet_ev, Option.bind_some]
        by_cases h3 : 0 ≤ x3.toInt ∧ x3.toInt ≤ 20
        · rw [if_pos h3, if_neg nm1]
          obtain ⟨r, z1, z2, A, B, I2, C⟩ := core (Or.inr h3)
          refine ⟨r, z1, z2, A, ?_, I2⟩
          rw [mhedge_ev C c3, Option.bind_some, if_pos h, if_pos nm2, mday_ev, Option.bind_some, if_pos h2, if_neg nm1, mfeet_ev, Option.bind_some, if_pos h3, if_neg nm1]
          exact B
        · rw [if_neg h3, if_pos nm2]
          refine ⟨-2, z, z, rfl, ?_, hI⟩
          rw [mhedge_ev c4 c3, Option.bind_some, if_pos h, if_pos nm2, mday_ev, Option.bind_some, if_pos h2, if_neg nm1, mfeet_ev, Option.bind_some, if_neg h3, if_pos nm2]
    · rw [if_neg h2, if_pos nm2]
      refine ⟨-2, z, z, rfl, ?_, hI⟩
      rw [mhedge_ev c4 c3, Option.bind_some, if_pos h, if_pos nm2, mday_ev, Option.bind_some, if_neg h2, if_pos nm2]
  · rw [if_neg h, if_pos nm2]
    refine ⟨-1, z, z, rfl, ?_, hI⟩
    rw [mhedge_ev c4 c3, Option.bind_some, if_neg h, if_neg nm1]
/-- a flank's inches if a word is said on a day -/
def fW (z : XS) (h s d : Nat) (w : Int32) (n : Nat) : Int32 := fc (gA z 18 1 h) (12 * gA z 18 2 h) (cl z h) (wup (wd z h s) d w) n
theorem iif_L {z : XS} (hI : Inv z) {h s d n : Nat} {w : Int32} (x3 x4 : Int32) (hh : h + 1 < cN z) (hs : s < 2) (hn : n ≤ 30) : ∀ (m a : Nat), d < a → a ≤ n → n - a < m → L_X0_inchesIf_36 h (nI s) (nI n) x3 x4 m (fW z h s d w a) (nI a) z = some (fW z h s d w n, z) := by
  obtain ⟨k1, k2, k3, k4⟩ := hI.2.2.1 h hh
  have hC := hI.2.2.2.2.1 h hh
  have hW := hI.2.2.2.1 h hh s hs
  intro m
  induction m with
  | zero => intro a _ _ h; omega
  | succ m ih =>
    intro a hda ha hm
    show B_X0_inchesIf_36 h (nI s) (nI n) x3 x4 (L_X0_inchesIf_36 h (nI s) (nI n) x3 x4 m) (fW z h s d w a) (nI a) z = _
    unfold B_X0_inchesIf_36
    by_cases e : a = n
    · subst e
      rw [if_pos ((nI_lt' (by omega) (by omega)).mpr (Nat.le_refl _))]
    · have e1 := hC a (by omega)
      have e2 := hW a (by omega)
      have ih' := ih (a + 1) (by omega) (by omega) (by omega)
      have e3 : fW z h s d w (a + 1) = dM (gA z 18 1 h) (cl z h a) (fW z h s d w a) (wd z h s a) := by
        show dM (gA z 18 1 h) (cl z h a) (fW z h s d w a) (wup (wd z h s) d w a) = _
        unfold wup
        rw [if_neg (show ¬ a = d by omega)]
      rw [if_neg (fun q => by have := (nI_lt' (by omega) (by omega)).mp q; omega), inB_nI (by omega) (by decide), gd_t, inB_nI (by omega) (by decide), gd_t, tN_nI (by omega), tN_nI (by omega), e2.1, dayC k1 e2.2 (by omega) (by rw [e1.1]; exact e1.2), Option.bind_some, nI_1, e1.1]
      rw [e3] at ih'
      exact ih'
theorem iif_ev {z : XS} (hI : Inv z) {h s d n : Nat} {w : Int32} (hh : h + 1 < cN z) (hs : s < 2) (hd : d < 30) (hn : n ≤ 30) (hw : wB w) : D_X0_inchesIf h (nI s) (nI n) (nI d) w z = some (fW z h s d w n, z) := by
  obtain ⟨k1, k2, k3, k4⟩ := hI.2.2.1 h hh
  have hC := hI.2.2.2.2.1 h hh
  unfold D_X0_inchesIf
  rw [inB_nI hs (by decide), gd_t, gd_t, tN_nI (by omega)]
  by_cases e : d < n
  · have e1 := hC d hd
    have e3 : fW z h s d w (d + 1) = dM (gA z 18 1 h) (cl z h d) (fM z h s d) w := by
      show dM (gA z 18 1 h) (cl z h d) (fW z h s d w d) (wup (wd z h s) d w d) = _
      have e4 : fW z h s d w d = fM z h s d := upd_ge d (Nat.le_refl _)
      rw [e4]
      unfold wup
      rw [if_pos rfl]
    rw [if_pos ((nI_lt'' (by omega) (by omega)).mpr e), inB_nI (by omega) (by decide), gd_t, tN_nI (by omega), inc_of hI hh hs (by omega), dayC k1 hw hd (by rw [e1.1]; exact e1.2), Option.bind_some, nI_1, e1.1, ← e3]
    exact iif_L hI (nI d) w hh hs hn 64 (d + 1) (by omega) (by omega) (by omega)
  · rw [if_neg (fun q => e ((nI_lt'' (by omega) (by omega)).mp q)), inB_nI (by omega) (by decide), gd_t, tN_nI (by omega), inc_of hI hh hs hn]
    have e4 : fW z h s d w n = fM z h s n := upd_ge n (by omega)
    rw [e4]
