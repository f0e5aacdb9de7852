/-! peace -/
def peO (z : XS) (g h s d : Nat) (w : Int32) : Int32 := offM (cN z) (fun h' => hM (pA z 18 3 (hr h s d) w) h' (d + 1)) (gA z 18 0 g) g
def nowO (z : XS) (g d : Nat) : Int32 := offM (cN z) (fun h' => hM z h' (d + 1)) (gA z 18 0 g) g
def gn (O : Int32 → Int32) (v : Int32) : Bool := (decide (¬ O (-1) ≤ v) || decide (¬ O 0 ≤ v)) || decide (¬ O 1 ≤ v)
theorem oth_ev {s : Nat} (hs : s < 2) (z : XS) : D_X9_otherSide (nI s) z = some (nI (1 - s), z) := by
  by_cases e : s = 0
  · subst e; rfl
  · have : s = 1 := by omega
    subst this; rfl
theorem fW_s (z : XS) (h s d : Nat) (w : Int32) : fW z h s d w (d + 1) = dM (gA z 18 1 h) (cl z h d) (fM z h s d) w := by
  show dM (gA z 18 1 h) (cl z h d) (fW z h s d w d) (wup (wd z h s) d w d) = _
  have e4 : fW z h s d w d = fM z h s d := upd_ge d (Nat.le_refl _)
  rw [e4, wupE]
theorem hIf_ev {z : XS} (hI : Inv z) {h s d : Nat} {w : Int32} (hh : h + 1 < cN z) (hs : s < 2) (hd : d < 30) (hw : wB w) : D_X0_heightIf h (nI s) (nI d) w z = some (mn (dM (gA z 18 1 h) (cl z h d) (fM z h s d) w) (fM z h (1 - s) (d + 1)), z) := by
  obtain ⟨k1, k2, k3, k4⟩ := hI.2.2.1 h hh
  have e1 := hI.2.2.2.2.1 h hh d hd
  unfold D_X0_heightIf
  rw [inB_nI hs (by decide), gd_t, inB_nI (by omega) (by decide), gd_t, tN_nI (by omega), tN_nI (by omega), inc_of hI hh hs (by omega), dayC k1 hw hd (by rw [e1.1]; exact e1.2), Option.bind_some, oth_ev hs, Option.bind_some, inB_nI (by omega) (by decide), gd_t, nI_1, inB_nI (by omega) (by decide), gd_t, tN_nI (by omega), tN_nI (by omega), inc_of hI hh (by omega) (by omega), e1.1, mn_lt]
theorem pe_o {z : XS} (hI : Inv z) {g h s d : Nat} (w : Int32) (hg : g < cN z) (hh : h + 1 < cN z) (hs : s < 2) (hd : d < 30) : offM (cN z) (hX z (d + 1) (nI h) (mn (dM (gA z 18 1 h) (cl z h d) (fM z h s d) w) (fM z h (1 - s) (d + 1)))) (gA z 7 0 g) g = peO z g h s d w := by
  have c3 := hI.1.2.2.1
  unfold peO
  rw [hI.2.1 g hg]
  refine offM_congr hg (fun h' hh' => ?_)
  unfold hX
  by_cases e : h' = h
  · rw [if_pos (by rw [e])]
    subst e
    have own := fM_fW z (h := h') (s := s) (d := d) (n := d + 1) w hs hd (by omega)
    rw [fW_s] at own
    have oth := fM_set z (h := h') (s := s) (d := d) (h' := h') (s' := 1 - s) (n := d + 1) w hs (by omega) hd (by omega)
    rw [if_neg (by omega)] at oth
    unfold hM
    by_cases es : s = 0
    · subst es
      rw [own, show (1 : Nat) = 1 - 0 from rfl, oth]
    · have : s = 1 := by omega
      subst this
      rw [mn_comm (fM (pA z 18 3 (hr h' 1 d) w) h' 0 (d + 1)), own, show (0 : Nat) = 1 - 1 from rfl, oth]
  · rw [if_neg (fun q => e ((nI_inj (by omega) (by omega)).mp q)), hC_of hI hh' (by omega)]
    unfold hM
    rw [fM_set z w hs (by decide) hd (by omega), if_neg (by omega), fM_set z w hs (by decide) hd (by omega), if_neg (by omega)]
theorem gain_ev {z : XS} (hI : Inv z) {g h s sd d : Nat} (hg : g < cN z) (hh : h + 1 < cN z) (hs : s < 2) (hd : d < 30) (v : Int32) (ho : ∀ z', D_X9_otherSide (nI sd) z' = some (nI s, z')) : L_X4_wouldGain_43 (nI g) (nI sd) (nI d) 64 (nI h) v 3 (nI 0) z = some (if gn (peO z g h s d) v = true then 1 else 0, z) := by
  obtain ⟨⟨c1, c2, c3, c4⟩, -⟩ := id hI
  have sw : ∀ (m i : Nat), i < 3 → wB (chI i) → L_X4_wouldGain_43 (nI g) (nI sd) (nI d) (m + 1) (nI h) v 3 (nI i) z = if peO z g h s d (chI i) ≤ v then L_X4_wouldGain_43 (nI g) (nI sd) (nI d) m (nI h) v 3 (nI (i + 1)) z else some (1, z) := by
    intro m i hi hw
    show B_X4_wouldGain_43 (nI g) (nI sd) (nI d) (L_X4_wouldGain_43 (nI g) (nI sd) (nI d) m) (nI h) v 3 (nI i) z = _
    unfold B_X4_wouldGain_43
    rw [if_neg (show ¬ (3 : Int32) ≤ nI i from fun q => by have := (nI_lt' (a := 3) (by omega) (by omega)).mp q; omega), inB_nI hi (by decide), gd_t, inB_nI (by omega) (by decide), gd_t, ho, Option.bind_some, tN_nI (by omega), tN_nI (by omega), hIf_ev hI hh hs hd hw, Option.bind_some, nI_1, offC_ev c1 c3 hg (by omega), Option.bind_some, pe_o hI _ hg hh hs hd, nI_1]
  have s3 : ∀ (m : Nat), L_X4_wouldGain_43 (nI g) (nI sd) (nI d) (m + 1) (nI h) v 3 (nI 3) z = some (0, z) := by
    intro m
    show B_X4_wouldGain_43 (nI g) (nI sd) (nI d) (L_X4_wouldGain_43 (nI g) (nI sd) (nI d) m) (nI h) v 3 (nI 3) z = _
    unfold B_X4_wouldGain_43
    rw [if_pos (show (3 : Int32) ≤ nI 3 by decide)]
  refine Eq.trans (sw 63 0 (by decide) (by unfold wB chI; decide)) ?_
  unfold gn
  by_cases q0 : peO z g h s d 0 ≤ v
  · refine Eq.trans (if_pos q0) ?_
    refine Eq.trans (sw 62 1 (by decide) (by unfold wB chI; decide)) ?_
    by_cases q1 : peO z g h s d (-1) ≤ v
    · refine Eq.trans (if_pos q1) ?_
      refine Eq.trans (sw 61 2 (by decide) (by unfold wB chI; decide)) ?_
      by_cases q2 : peO z g h s d 1 ≤ v
      · refine Eq.trans (if_pos q2) ?_
        refine Eq.trans (s3 60) ?_
        simp [q0, q1, q2]
      · refine Eq.trans (if_neg q2) ?_
        simp [q2]
    · refine Eq.trans (if_neg q1) ?_
      simp [q1]
  · refine Eq.trans (if_neg q0) ?_
    simp [q0]
def aL (z : XS) (g d : Nat) : Bool := decide (1 ≤ g) && gn (peO z g (g - 1) 1 d) (nowO z g d)
def aR (z : XS) (g d : Nat) : Bool := decide (g + 1 < cN z) && gn (peO z g g 0 d) (nowO z g d)
theorem nowC {z : XS} (hI : Inv z) {g d : Nat} (hg : g < cN z) (hd : d < 30) : D_X4_betterOffIf (nI g) (nI d + 1) (-1) 0 z = some (nowO z g d, z) := by
  rw [nI_1, offC_ev hI.1.1 hI.1.2.2.1 hg (by omega), hI.2.1 g hg, offM_congr hg (fun h hh => hX_no hI (show d + 1 ≤ 30 by omega) 0 hh)]
  rfl
theorem gainL_ev {z : XS} (hI : Inv z) {g d : Nat} (hg : g < cN z) (hd : d < 30) : D_X4_wouldGain (nI g) 0 (nI d) z = some (if aL z g d = true then 1 else 0, z) := by
  obtain ⟨⟨c1, c2, c3, c4⟩, -⟩ := id hI
  unfold D_X4_wouldGain aL
  rw [show D_X9_hedgeBeside (nI g) 0 z = some (nI g - 1, z) from rfl, Option.bind_some, isH_l c1 c3 hg, Option.bind_some]
  by_cases e : 1 ≤ g
  · rw [if_pos e, if_neg nm1, nowC hI hg hd, Option.bind_some, show (nI g - 1, z).1 = nI (g - 1) from nI_sub (b := 1) e]
    have k := gain_ev hI (g := g) (h := g - 1) (s := 1) (sd := 0) (d := d) hg (by omega) (by decide) hd (nowO z g d) (fun _ => rfl)
    rw [show (decide (1 ≤ g) && gn (peO z g (g - 1) 1 d) (nowO z g d)) = gn (peO z g (g - 1) 1 d) (nowO z g d) by simp [e]]
    exact k
  · rw [if_neg e, if_pos nm2]
    simp [e]
theorem gainR_ev {z : XS} (hI : Inv z) {g d : Nat} (hg : g < cN z) (hd : d < 30) : D_X4_wouldGain (nI g) 1 (nI d) z = some (if aR z g d = true then 1 else 0, z) := by
  obtain ⟨⟨c1, c2, c3, c4⟩, -⟩ := id hI
  unfold D_X4_wouldGain aR
  rw [show D_X9_hedgeBeside (nI g) 1 z = some (nI g, z) from rfl, Option.bind_some, isH_r c1 c3 (by omega), Option.bind_some]
  by_cases e : g + 1 < cN z
  · rw [if_pos e, if_neg nm1, nowC hI hg hd, Option.bind_some]
    have k := gain_ev hI (g := g) (h := g) (s := 0) (sd := 1) (d := d) hg (by omega) (by decide) hd (nowO z g d) (fun _ => rfl)
    rw [show (decide (g + 1 < cN z) && gn (peO z g g 0 d) (nowO z g d)) = gn (peO z g g 0 d) (nowO z g d) by simp [e]]
    exact k
  · rw [if_neg e, if_pos nm2]
    simp [e]
def bI (b : Bool) : Int32 := if b = true then 1 else 0
theorem isZ_bI (b : Bool) : isZ (bI b) = true := by cases b <;> decide
theorem chg_in {z : XS} {g h s d : Nat} (hc : gS z 17 1 0 = nI (cN z)) (h7 : cN z ≤ 7) (hg : g < cN z) (hh : h < 6) (hd : d < 30) (k : Int32 → Int32 → Int32 → XS → Option (Int32 × XS)) (v y5 : Int32) (b : Bool) : L_X10_wouldChange_55 (nI g) (nI d) k 64 v (bI b) y5 (nI (hr h s d)) (gA z 18 3 (hr h s d)) (-1) z = k v (bI (b || gn (peO z g h s d) v)) (y5 + 1) z := by
  have hp := hr_lt (h := h) (s := s) (d := d) hh hd
  have o : ∀ w, D_X10_offAt (nI g) (nI (d + 1)) (pA z 18 3 (hr h s d) w) = some (peO z g h s d w, pA z 18 3 (hr h s d) w) := fun w => off_ev (z := pA z 18 3 (hr h s d) w) hc h7 hg (by omega)
  have s3 : ∀ (m : Nat) (y4 u : Int32), L_X10_wouldChange_55 (nI g) (nI d) k (m + 1) v y4 y5 (nI (hr h s d)) (gA z 18 3 (hr h s d)) 2 (pA z 18 3 (hr h s d) u) = k v y4 (y5 + 1) z := by
    intro m y4 u
    show B_X10_wouldChange_55 (nI g) (nI d) k (L_X10_wouldChange_55 (nI g) (nI d) k m) v y4 y5 (nI (hr h s d)) (gA z 18 3 (hr h s d)) 2 (pA z 18 3 (hr h s d) u) = _
    unfold B_X10_wouldChange_55
    rw [if_pos (by decide), inB_nI hp (by decide), gd_t, Option.bind_some, tN_nI (by omega), pA_pA, pA_self]
  have sw : ∀ (m : Nat) (b : Bool) (w u : Int32), ¬ (2 : Int32) ≤ w → L_X10_wouldChange_55 (nI g) (nI d) k (m + 1) v (bI b) y5 (nI (hr h s d)) (gA z 18 3 (hr h s d)) w (pA z 18 3 (hr h s d) u) = L_X10_wouldChange_55 (nI g) (nI d) k m v (bI (b || decide (¬ peO z g h s d w ≤ v))) y5 (nI (hr h s d)) (gA z 18 3 (hr h s d)) (w + 1) (pA z 18 3 (hr h s d) w) := by
    intro m b w u hw
    show B_X10_wouldChange_55 (nI g) (nI d) k (L_X10_wouldChange_55 (nI g) (nI d) k m) v (bI b) y5 (nI (hr h s d)) (gA z 18 3 (hr h s d)) w (pA z 18 3 (hr h s d) u) = _
    unfold B_X10_wouldChange_55
    rw [if_neg hw, inB_nI hp (by decide), gd_t, Option.bind_some, tN_nI (by omega), pA_pA, nI_1, o, Option.bind_some]
    cases b with
    | false =>
      rw [if_pos (show bI false = 0 from rfl)]
      by_cases q : peO z g h s d w ≤ v
      · rw [if_pos q, show (false || decide (¬ peO z g h s d w ≤ v)) = false by simp [q]]
        rfl
      · rw [if_neg q, show (false || decide (¬ peO z g h s d w ≤ v)) = true by simp [q]]
        rfl
    | true =>
      rw [if_neg (show ¬ bI true = 0 by decide), Bool.true_or]
      rfl
  have r0 := sw 63 b (-1) (gA z 18 3 (hr h s d)) (by decide)
  rw [pA_self] at r0
  rw [r0, show (-1 : Int32) + 1 = 0 from by decide, sw 62 _ 0 _ (by decide), show (0 : Int32) + 1 = 1 from by decide, sw 61 _ 1 _ (by decide), show (1 : Int32) + 1 = 2 from by decide, s3 60, Bool.or_assoc, Bool.or_assoc]
  unfold gn
  rw [Bool.or_assoc]
theorem chg_ev {z : XS} (hI : Inv z) {g d : Nat} (hg : g < cN z) (hd : d < 30) : D_X10_wouldChange (nI g) (nI d) z = some (bI (aL z g d || aR z g d), z) := by
  obtain ⟨⟨c1, c2, c3, c4⟩, -⟩ := id hI
  have s2 : ∀ (m : Nat) (v : Int32) (b : Bool), L_X10_wouldChange_15 (nI g) (nI d) (m + 1) v (bI b) (nI 2) z = some (bI b, z) := by
    intro m v b
    show B_X10_wouldChange_15 (nI g) (nI d) (L_X10_wouldChange_15 (nI g) (nI d) m) v (bI b) (nI 2) z = _
    unfold B_X10_wouldChange_15
    rw [if_pos (show (2 : Int32) ≤ nI 2 by decide), isZ_bI, gd_t]
  have s1 : ∀ (m : Nat) (b : Bool), L_X10_wouldChange_15 (nI g) (nI d) (m + 2) (nowO z g d) (bI b) (nI 1) z = some (bI (b || aR z g d), z) := by
    intro m b
    show B_X10_wouldChange_15 (nI g) (nI d) (L_X10_wouldChange_15 (nI g) (nI d) (m + 1)) (nowO z g d) (bI b) (nI 1) z = _
    unfold B_X10_wouldChange_15 aR
    rw [if_neg (show ¬ (2 : Int32) ≤ nI 1 by decide), hb_ev, Option.bind_some, if_neg (show ¬ nI 1 = 0 by decide), noh_r c4 c3 (by omega), Option.bind_some]
    by_cases e : g + 1 < cN z
    · have hp := hr_lt (h := g) (s := 0) (d := d) (by omega) hd
      rw [if_pos e, if_pos nm2, place_ev, Option.bind_some, show 60 * g + 30 * 1 + d = hr g 0 d from rfl, inB_nI hp (by decide), gd_t, tN_nI (by omega)]
      refine Eq.trans (chg_in (s := 0) c4 c3 hg (show g < 6 by omega) hd _ _ _ _) ?_
      rw [nI_1, s2, show (decide (g + 1 < cN z) && gn (peO z g g 0 d) (nowO z g d)) = gn (peO z g g 0 d) (nowO z g d) by simp [e]]
    · rw [if_neg e, if_neg nm1, nI_1, s2, show (decide (g + 1 < cN z) && gn (peO z g g 0 d) (nowO z g d)) = false by simp [e], Bool.or_false]
  unfold D_X10_wouldChange
  rw [nI_1, off_ev c4 c3 hg (by omega), Option.bind_some]
  show B_X10_wouldChange_15 (nI g) (nI d) (L_X10_wouldChange_15 (nI g) (nI d) 63) (nowO z g d) (bI false) (nI 0) z = _
  unfold B_X10_wouldChange_15
  rw [if_neg (show ¬ (2 : Int32) ≤ nI 0 by decide), hb_ev, Option.bind_some, if_pos (show nI 0 = 0 from rfl), noh_l c4 c3 hg, Option.bind_some]
  by_cases e : 1 ≤ g
  · have hp := hr_lt (h := g - 1) (s := 1) (d := d) (by omega) hd
    rw [if_pos e, if_pos nm2, place_ev, Option.bind_some, show 60 * g + 30 * 0 + d = hr (g - 1) 1 d by unfold hr; rw [if_neg (by decide)]; omega, inB_nI hp (by decide), gd_t, tN_nI (by omega)]
    refine Eq.trans (chg_in (s := 1) c4 c3 hg (show g - 1 < 6 by omega) hd _ _ _ _) ?_
    rw [nI_1, s1 61]
    unfold aL
    rw [show (decide (1 ≤ g) && gn (peO z g (g - 1) 1 d) (nowO z g d)) = gn (peO z g (g - 1) 1 d) (nowO z g d) by simp [e], Bool.false_or]
  · rw [if_neg e, if_neg nm1, nI_1, s1 61]
    unfold aL
    rw [show (decide (1 ≤ g) && gn (peO z g (g - 1) 1 d) (nowO z g d)) = false by simp [e]]
def psM (F : Nat → Bool) : Nat → Nat → Int32 → Int32
  | 0, _, y => y
  | m + 1, i, y => psM F m (i + 1) (if F i = true then y ||| ((1 : Int32) <<< (nI i &&& 31)) else y)
theorem peaceC_L {z : XS} (hI : Inv z) {d : Nat} (hd : d < 30) : ∀ (m i : Nat) (y : Int32), i ≤ cN z → cN z - i < m → L_X9_peace_27 (nI d) m y (nI i) z = some (psM (fun g => aL z g d || aR z g d) (cN z - i) i y, z) := by
  have c1 := hI.1.1
  have c3 := hI.1.2.2.1
  intro m
  induction m with
  | zero => intro i _ _ h; omega
  | succ m ih =>
    intro i y hi hm
    show B_X9_peace_27 (nI d) (L_X9_peace_27 (nI d) m) y (nI i) z = _
    unfold B_X9_peace_27 J_X9_peace_64
    rw [c1]
    by_cases e : i = cN z
    · rw [if_pos ((nI_lt' (by omega) (by omega)).mpr (by omega)), show cN z - i = 0 by omega]
      rfl
    · rw [if_neg (fun q => by have := (nI_lt' (by omega) (by omega)).mp q; omega), gainL_ev hI (by omega) hd, Option.bind_some, gainR_ev hI (by omega) hd, Option.bind_some, nI_1]
      rw [show cN z - i = (cN z - (i + 1)) + 1 by omega]
      show _ = some (psM (fun g => aL z g d || aR z g d) (cN z - (i + 1)) (i + 1) (if (aL z i d || aR z i d) = true then y ||| ((1 : Int32) <<< (nI i &&& 31)) else y), z)
      rw [← ih (i + 1) _ (by omega) (by omega)]
      by_cases q1 : aL z i d = true
      · rw [if_pos q1, if_neg nm1, if_pos (by rw [q1]; rfl)]
      · rw [if_neg q1, if_pos nm2]
        by_cases q2 : aR z i d = true
        · rw [if_pos q2, if_neg nm1, if_pos (by rw [q2, Bool.or_true])]
        · rw [if_neg q2, if_pos nm2, if_neg (by rw [Bool.or_eq_true]; exact fun x => x.elim q1 q2)]
theorem peaceM_L {z : XS} (hI : Inv z) {d : Nat} (hd : d < 30) : ∀ (m i : Nat) (y : Int32), i ≤ cN z → cN z - i < m → L_X10_peace_24 (nI d) m y (nI i) z = some (psM (fun g => aL z g d || aR z g d) (cN z - i) i y, z) := by
  have c4 := hI.1.2.2.2
  have c3 := hI.1.2.2.1
  intro m
  induction m with
  | zero => intro i _ _ h; omega
  | succ m ih =>
    intro i y hi hm
    show B_X10_peace_24 (nI d) (L_X10_peace_24 (nI d) m) y (nI i) z = _
    unfold B_X10_peace_24
    rw [c4]
    by_cases e : i = cN z
    · rw [if_pos ((nI_lt' (by omega) (by omega)).mpr (by omega)), show cN z - i = 0 by omega]
      rfl
    · rw [if_neg (fun q => by have := (nI_lt' (by omega) (by omega)).mp q; omega), chg_ev hI (by omega) hd, Option.bind_some, nI_1]
      rw [show cN z - i = (cN z - (i + 1)) + 1 by omega]
      show _ = some (psM (fun g => aL z g d || aR z g d) (cN z - (i + 1)) (i + 1) (if (aL z i d || aR z i d) = true then y ||| ((1 : Int32) <<< (nI i &&& 31)) else y), z)
      rw [← ih (i + 1) _ (by omega) (by omega)]
      unfold bI
      by_cases q1 : (aL z i d || aR z i d) = true
      · rw [if_pos q1, if_neg nm1, if_pos q1]
      · rw [if_neg q1, if_pos nm2, if_neg q1, Int32.or_zero]
theorem eq_peace (z : XS) (hI : Inv z) (x1 : Int32) : ∃ (r : Int32) (z1 z2 : XS), D_X9_peace x1 z = some (r, z1) ∧ D_X10_peace x1 z1 = some (r, z2) ∧ Inv z2 := by
  obtain ⟨⟨c1, c2, c3, c4⟩, -⟩ := id hI
  unfold D_X9_peace D_X10_peace
  rw [day_ev, Option.bind_some]
  by_cases h2 : 0 ≤ x1.toInt ∧ x1.toInt ≤ 29
  · rw [if_pos h2, if_neg nm1]
    by_cases h0 : cN z = 0
    · refine ⟨-3, z, z, ?_, ?_, hI⟩
      · rw [if_pos ((cN0 hI).mpr h0)]
      · rw [mday_ev, Option.bind_some, if_pos h2, if_neg nm1, if_pos ((cN0' hI).mpr h0)]
    · obtain ⟨d, hd, rfl⟩ := num_of (m := 29) h2
      refine ⟨psM (fun g => aL z g d || aR z g d) (cN z - 0) 0 0, z, z, ?_, ?_, hI⟩
      · rw [if_neg (fun q => h0 ((cN0 hI).mp q))]
        exact peaceC_L hI (by omega) 64 0 0 (Nat.zero_le _) (by omega)
      · rw [mday_ev, Option.bind_some, if_pos h2, if_neg nm1, if_neg (fun q => h0 ((cN0' hI).mp q))]
        exact peaceM_L hI (by omega) 64 0 0 (Nat.zero_le _) (by omega)
  · rw [if_neg h2, if_pos nm2]
    refine ⟨-2, z, z, rfl, ?_, hI⟩
    rw [mday_ev, Option.bind_some, if_neg h2, if_pos nm2]
