/-! light, goats, who is better off, over a function of heights -/
def lgt (c : Nat) (H : Nat → Int32) (g : Nat) : Int32 :=
  let a := if 1 ≤ g then (20 : Int32) - H (g - 1) / 12 else 20
  let b := if g + 1 < c then a - H g / 12 else a
  if 0 ≤ b then b else 0
def gtB (H : Nat → Int32) : Nat → Bool
  | 0 => true
  | g + 1 => gtB H g && decide (H g < 36)
abbrev gts (H : Nat → Int32) (g : Nat) : Prop := gtB H g = true
theorem gts_s {H : Nat → Int32} {g : Nat} : gts H (g + 1) ↔ gts H g ∧ H g < 36 := by
  show (gtB H g && decide (H g < 36)) = true ↔ _
  rw [Bool.and_eq_true, decide_eq_true_eq]
def offM (c : Nat) (H : Nat → Int32) (w : Int32) (g : Nat) : Int32 :=
  (if lgt c H g < w then (0 : Int32) else 1) + (if gts H g then 0 else 1)
theorem gts_mono {H : Nat → Int32} {a b : Nat} (hab : a ≤ b) (h : gts H b) : gts H a := by
  induction b with
  | zero => have : a = 0 := by omega
            subst this; exact h
  | succ b ih =>
    by_cases e : a = b + 1
    · subst e; exact h
    · exact ih (by omega) (gts_s.mp h).1
theorem gts_congr {H K : Nat → Int32} : ∀ (g : Nat), (∀ h, h < g → H h = K h) → (gts H g ↔ gts K g) := by
  intro g
  induction g with
  | zero => intro _; exact Iff.rfl
  | succ g ih =>
    intro e
    have := ih (fun h hh => e h (by omega))
    rw [gts_s, gts_s, this, e g (by omega)]
theorem lgt_congr {c : Nat} {H K : Nat → Int32} {g : Nat} (hg : g < c) (e : ∀ h, h + 1 < c → H h = K h) : lgt c H g = lgt c K g := by
  unfold lgt
  have e1 : (if 1 ≤ g then (20 : Int32) - H (g - 1) / 12 else 20) = (if 1 ≤ g then (20 : Int32) - K (g - 1) / 12 else 20) := by
    by_cases h1 : 1 ≤ g
    · rw [if_pos h1, if_pos h1, e (g - 1) (by omega)]
    · rw [if_neg h1, if_neg h1]
  have e2 : ∀ a : Int32, (if g + 1 < c then a - H g / 12 else a) = (if g + 1 < c then a - K g / 12 else a) := by
    intro a
    by_cases h1 : g + 1 < c
    · rw [if_pos h1, if_pos h1, e g h1]
    · rw [if_neg h1, if_neg h1]
  simp only [e1, e2]
theorem offM_congr {c : Nat} {H K : Nat → Int32} {w : Int32} {g : Nat} (hg : g < c) (e : ∀ h, h + 1 < c → H h = K h) : offM c H w g = offM c K w g := by
  unfold offM
  rw [lgt_congr hg e]
  have := gts_congr (H := H) (K := K) g (fun h hh => e h (by omega))
  by_cases q : gts H g
  · rw [if_pos q, if_pos (this.mp q)]
  · rw [if_neg q, if_neg (fun p => q (this.mpr p))]
-- the reference
theorem sub0 (a : Int32) : a - 0 = a := Int32.sub_zero a
theorem hb_ev {g : Nat} (s : Nat) (z : XS) : D_X10_hedgeAt (nI g) (nI s) z = some (if nI s = 0 then nI g - 1 else nI g, z) := by
  unfold D_X10_hedgeAt
  by_cases e : nI s = 0
  · rw [if_pos e, if_pos e]
  · rw [if_neg e, if_neg e]
theorem nI_0m : (nI 0 - 1).toInt = -1 := by decide
theorem noh_r {z : XS} {c : Nat} (hc : gS z 17 1 0 = nI c) (h7 : c ≤ 7) {h : Nat} (hh : h ≤ 1000) : D_X10_noHedge (nI h) z = some (if h + 1 < c then 0 else 1, z) := by
  rw [mhedge_ev hc h7, nI_i (by omega)]
  by_cases e : h + 1 < c
  · rw [if_pos e, if_pos (by omega)]
  · rw [if_neg e, if_neg (by omega)]
theorem noh_l {z : XS} {c : Nat} (hc : gS z 17 1 0 = nI c) (h7 : c ≤ 7) {g : Nat} (hg : g < c) : D_X10_noHedge (nI g - 1) z = some (if 1 ≤ g then 0 else 1, z) := by
  rw [mhedge_ev hc h7, nI_m1 (by omega)]
  by_cases e : 1 ≤ g
  · rw [if_pos e, if_pos (by omega)]
  · rw [if_neg e, if_neg (by omega)]
theorem light_ev {z : XS} {c : Nat} (hc : gS z 17 1 0 = nI c) (h7 : c ≤ 7) {g n : Nat} (hg : g < c) (hn : n ≤ 30) : D_X10_lightAt (nI g) (nI n) z = some (lgt c (fun h => hM z h n) g, z) := by
  unfold D_X10_lightAt
  have st2 : ∀ (m : Nat) (y : Int32), L_X10_lightAt_6 (nI g) (nI n) (m + 1) y 2 z = some (if 0 ≤ y then y else 0, z) := by
    intro m y
    show B_X10_lightAt_6 (nI g) (nI n) (L_X10_lightAt_6 (nI g) (nI n) m) y 2 z = _
    unfold B_X10_lightAt_6
    rw [if_pos (show (2 : Int32) ≤ 2 by decide)]
    by_cases e : 0 ≤ y
    · rw [if_pos e, if_pos e]
    · rw [if_neg e, if_neg e]
  have st1 : ∀ (m : Nat) (y : Int32), L_X10_lightAt_6 (nI g) (nI n) (m + 2) y 1 z = some (if 0 ≤ (if g + 1 < c then y - hM z g n / 12 else y) then (if g + 1 < c then y - hM z g n / 12 else y) else 0, z) := by
    intro m y
    show B_X10_lightAt_6 (nI g) (nI n) (L_X10_lightAt_6 (nI g) (nI n) (m + 1)) y (nI 1) z = _
    unfold B_X10_lightAt_6
    rw [if_neg (show ¬ (2 : Int32) ≤ nI 1 by decide), hb_ev, Option.bind_some, if_neg (show ¬ nI 1 = 0 by decide), noh_r hc h7 (by omega), Option.bind_some]
    by_cases e : g + 1 < c
    · rw [if_pos e, if_pos nm2, height_ev z (by omega) hn, Option.bind_some, if_pos e]
      exact st2 m _
    · rw [if_neg e, if_neg nm1, if_neg e, sub0]
      exact st2 m _
  show B_X10_lightAt_6 (nI g) (nI n) (L_X10_lightAt_6 (nI g) (nI n) 63) 20 (nI 0) z = _
  unfold B_X10_lightAt_6 lgt
  rw [if_neg (show ¬ (2 : Int32) ≤ nI 0 by decide), hb_ev, Option.bind_some, if_pos (show nI 0 = 0 from rfl), noh_l hc h7 hg, Option.bind_some]
  by_cases e : 1 ≤ g
  · rw [if_pos e, if_pos nm2, show (nI g - 1, z).1 = nI (g - 1) from nI_sub (b := 1) e, height_ev z (by omega) hn, Option.bind_some]
    simp only [if_pos e]
    exact st1 61 _
  · rw [if_neg e, if_neg nm1, sub0]
    simp only [if_neg e]
    exact st1 61 _
theorem come_L {z : XS} {g n : Nat} (hg : g < 7) (hn : n ≤ 30) : ∀ (m a : Nat), a ≤ g → g - a < m → L_X10_doGoatsCome_5 (nI g) (nI n) m (if gts (fun h => hM z h n) a then 1 else 0) (nI a) z = some (if gts (fun h => hM z h n) g then 1 else 0, z) := by
  intro m
  induction m with
  | zero => intro a _ h; omega
  | succ m ih =>
    intro a ha hm
    show B_X10_doGoatsCome_5 (nI g) (nI n) (L_X10_doGoatsCome_5 (nI g) (nI n) m) (if gts (fun h => hM z h n) a then 1 else 0) (nI a) z = _
    unfold B_X10_doGoatsCome_5
    rw [isZ_ite, gd_t]
    by_cases e : a = g
    · subst e
      rw [if_pos ((nI_lt' (by omega) (by omega)).mpr (Nat.le_refl _))]
    · rw [if_neg (fun q => by have := (nI_lt' (by omega) (by omega)).mp q; omega)]
      by_cases t : gts (fun h => hM z h n) a
      · rw [if_pos t, if_neg nm1, height_ev z (by omega) hn, Option.bind_some, nI_1]
        have ih' := ih (a + 1) (by omega) (by omega)
        by_cases w : hM z a n < 36
        · rw [if_pos (show gts (fun h => hM z h n) (a + 1) from gts_s.mpr ⟨t, w⟩)] at ih'
          rw [if_neg (show ¬ (36 : Int32) ≤ hM z a n from Int32.not_le.mpr w)]
          exact ih'
        · rw [if_neg (show ¬ gts (fun h => hM z h n) (a + 1) from fun q => w (gts_s.mp q).2)] at ih'
          rw [if_pos (show (36 : Int32) ≤ hM z a n from Int32.not_lt.mp w)]
          exact ih'
      · rw [if_neg t, if_pos nm2, if_neg (fun q => t (gts_mono ha q))]
theorem come_ev {z : XS} {g n : Nat} (hg : g < 7) (hn : n ≤ 30) : D_X10_doGoatsCome (nI g) (nI n) z = some (if gts (fun h => hM z h n) g then 1 else 0, z) := come_L hg hn 64 0 (Nat.zero_le _) (by omega)
theorem off_ev {z : XS} {c : Nat} (hc : gS z 17 1 0 = nI c) (h7 : c ≤ 7) {g n : Nat} (hg : g < c) (hn : n ≤ 30) : D_X10_offAt (nI g) (nI n) z = some (offM c (fun h => hM z h n) (gA z 18 0 g) g, z) := by
  have J : ∀ t, J_X10_offAt_20 (nI g) (nI n) t z = some (t + (if gts (fun h => hM z h n) g then 0 else 1), z) := by
    intro t
    unfold J_X10_offAt_20
    rw [come_ev (by omega) hn, Option.bind_some]
    by_cases q : gts (fun h => hM z h n) g
    · rw [if_pos q, if_pos q, if_neg nm1, Int32.add_zero]
    · rw [if_neg q, if_neg q, if_pos nm2]
  unfold D_X10_offAt offM
  rw [light_ev hc h7 hg hn, Option.bind_some, inB_nI (by omega) (by decide), gd_t, tN_nI (by omega), J, J]
  by_cases q : lgt c (fun h => hM z h n) g < gA z 18 0 g
  · rw [if_pos q, if_pos q]
  · rw [if_neg q, if_neg q]
-- the class
def hX (z : XS) (n : Nat) (x v : Int32) : Nat → Int32 := fun h => if nI h = x then v else hC z h n
theorem orIf_ev {z : XS} {h n : Nat} (hh : h < 6) (hn : n ≤ 30) (x v : Int32) : D_X4_heightOrIf (nI h) (nI n) x v z = some (hX z n x v h, z) := by
  unfold D_X4_heightOrIf hX
  by_cases e : nI h = x
  · rw [if_pos e, if_pos e]
  · rw [if_neg e, if_neg e, inB_nI hh (by decide), gd_t, tN_nI (by omega), heightC_ev z hn, Option.bind_some]
theorem isH_r {z : XS} {c : Nat} (hc : gS z 1 2 0 = nI c) (h7 : c ≤ 7) {h : Nat} (hh : h ≤ 1000) : D_X4_isHedge (nI h) z = some (if h + 1 < c then 1 else 0, z) := by
  rw [hedge_ev hc h7, nI_i (by omega)]
  by_cases e : h + 1 < c
  · rw [if_pos e, if_pos (by omega)]
  · rw [if_neg e, if_neg (by omega)]
theorem isH_l {z : XS} {c : Nat} (hc : gS z 1 2 0 = nI c) (h7 : c ≤ 7) {g : Nat} (hg : g < c) : D_X4_isHedge (nI g - 1) z = some (if 1 ≤ g then 1 else 0, z) := by
  rw [hedge_ev hc h7, nI_m1 (by omega)]
  by_cases e : 1 ≤ g
  · rw [if_pos e, if_pos (by omega)]
  · rw [if_neg e, if_neg (by omega)]
theorem mx0 (y : Int32) : (if 0 < y then y else 0) = (if 0 ≤ y then y else 0) := by
  by_cases e : 0 < y
  · rw [if_pos e, if_pos (Int32.le_of_lt e)]
  · rw [if_neg e]
    by_cases e2 : 0 ≤ y
    · rw [if_pos e2]
      have h1 := (i_le 0 y).mp e2
      have h2 : ¬ (0 : Int32).toInt < y.toInt := fun q => e ((i_lt 0 y).mpr q)
      exact (i_eq _ _).mpr (by omega)
    · rw [if_neg e2]
theorem lightC_ev {z : XS} {c : Nat} (hc : gS z 1 2 0 = nI c) (h7 : c ≤ 7) {g n : Nat} (hg : g < c) (hn : n ≤ 30) (x v : Int32) : D_X4_lightIf (nI g) (nI n) x v z = some (lgt c (hX z n x v) g, z) := by
  have J : ∀ y, J_X4_lightIf_33 (nI g) (nI n) x v y z = some (if 0 ≤ (if g + 1 < c then y - hX z n x v g / 12 else y) then (if g + 1 < c then y - hX z n x v g / 12 else y) else 0, z) := by
    intro y
    unfold J_X4_lightIf_33
    rw [isH_r hc h7 (by omega), Option.bind_some]
    by_cases e : g + 1 < c
    · rw [if_pos e, if_neg nm1, orIf_ev (by omega) hn, Option.bind_some, if_pos e, mx0]
    · rw [if_neg e, if_pos nm2, if_neg e, mx0]
  unfold D_X4_lightIf lgt
  rw [isH_l hc h7 hg, Option.bind_some]
  by_cases e : 1 ≤ g
  · rw [if_pos e, if_neg nm1, show nI g - 1 = nI (g - 1) from nI_sub (b := 1) e, orIf_ev (by omega) hn, Option.bind_some, J]
    simp only [if_pos e]
  · rw [if_neg e, if_pos nm2, J]
    simp only [if_neg e]
theorem reach_L {z : XS} {c : Nat} (hc : gS z 1 2 0 = nI c) (h1 : 1 ≤ c) (h7 : c ≤ 7) {n : Nat} (hn : n ≤ 30) (x v : Int32) : ∀ (m a : Nat), a ≤ c - 1 → c - 1 - a < m → gts (hX z n x v) a → ∃ r, L_X4_goatsReachIf_3 (nI n) x v m (nI a) z = some (nI r, z) ∧ r ≤ c - 1 ∧ gts (hX z n x v) r ∧ (r < c - 1 → ¬ hX z n x v r < 36) := by
  intro m
  induction m with
  | zero => intro a _ h; omega
  | succ m ih =>
    intro a ha hm hg
    show ∃ r, B_X4_goatsReachIf_3 (nI n) x v (L_X4_goatsReachIf_3 (nI n) x v m) (nI a) z = _ ∧ _
    unfold B_X4_goatsReachIf_3
    rw [hc, show nI c - 1 = nI (c - 1) from nI_sub (b := 1) h1]
    by_cases e : a = c - 1
    · refine ⟨c - 1, ?_, Nat.le_refl _, e ▸ hg, fun q => absurd q (by omega)⟩
      rw [if_pos ((nI_lt' (by omega) (by omega)).mpr (by omega))]
    · rw [if_neg (fun q => by have := (nI_lt' (by omega) (by omega)).mp q; omega), orIf_ev (by omega) hn, Option.bind_some, nI_1]
      by_cases w : hX z n x v a < 36
      · obtain ⟨r, q1, q2⟩ := ih (a + 1) (by omega) (by omega) (gts_s.mpr ⟨hg, w⟩)
        exact ⟨r, by rw [if_pos w]; exact q1, q2⟩
      · exact ⟨a, by rw [if_neg w], ha, hg, fun _ => w⟩
theorem reach_ev {z : XS} {c : Nat} (hc : gS z 1 2 0 = nI c) (h1 : 1 ≤ c) (h7 : c ≤ 7) {n : Nat} (hn : n ≤ 30) (x v : Int32) : ∃ r, D_X4_goatsReachIf (nI n) x v z = some (nI r, z) ∧ r ≤ c - 1 ∧ ∀ g, g < c → (g ≤ r ↔ gts (hX z n x v) g) := by
  obtain ⟨r, q1, q2, q3, q4⟩ := reach_L hc h1 h7 hn x v 64 0 (Nat.zero_le _) (by omega) rfl
  refine ⟨r, q1, q2, fun g hg => ⟨fun q => gts_mono q q3, fun q => ?_⟩⟩
  by_cases e : g ≤ r
  · exact e
  · have := gts_mono (show r + 1 ≤ g by omega) q
    exact absurd (gts_s.mp this).2 (q4 (by omega))
theorem offC_ev {z : XS} {c : Nat} (hc : gS z 1 2 0 = nI c) (h7 : c ≤ 7) {g n : Nat} (hg : g < c) (hn : n ≤ 30) (x v : Int32) : D_X4_betterOffIf (nI g) (nI n) x v z = some (offM c (hX z n x v) (gA z 7 0 g) g, z) := by
  have J : ∀ t, J_X4_betterOffIf_24 (nI g) (nI n) x v t z = some (t + (if gts (hX z n x v) g then 0 else 1), z) := by
    intro t
    unfold J_X4_betterOffIf_24
    obtain ⟨r, q1, q2, q3⟩ := reach_ev hc (by omega) h7 hn x v
    rw [q1, Option.bind_some]
    by_cases q : gts (hX z n x v) g
    · rw [if_pos ((nI_lt' (by omega) (by omega)).mpr ((q3 g hg).mpr q)), if_pos q, Int32.add_zero]
    · rw [if_neg (fun w => q ((q3 g hg).mp ((nI_lt' (by omega) (by omega)).mp w))), if_neg q]
  unfold D_X4_betterOffIf offM
  rw [lightC_ev hc h7 hg hn, Option.bind_some, inB_nI (by omega) (by decide), gd_t, tN_nI (by omega), J, J]
  by_cases q : lgt c (hX z n x v) g < gA z 7 0 g
  · rw [if_pos q, if_pos q]
  · rw [if_neg q, if_neg q]; rfl
theorem hX_no {z : XS} (hI : Inv z) {n : Nat} (hn : n ≤ 30) (v : Int32) {h : Nat} (hh : h + 1 < cN z) : hX z n (-1) v h = hM z h n := by
  have := hI.1.2.2.1
  unfold hX
  rw [if_neg, hC_of hI hh hn]
  intro q
  have e := (i_eq _ _).mp q
  rw [nI_i (by omega), show (-1 : Int32).toInt = -1 from rfl] at e
  omega
theorem eq_light (z : XS) (hI : Inv z) (x1 x2 : Int32) : ∃ (r : Int32) (z1 z2 : XS), D_X9_light x1 x2 z = some (r, z1) ∧ D_X10_light x1 x2 z1 = some (r, z2) ∧ Inv z2 := by
  obtain ⟨⟨c1, c2, c3, c4⟩, -⟩ := id hI
  unfold D_X9_light D_X10_light
  rw [garden_ev c1 c3, Option.bind_some]
  by_cases h : 0 ≤ x1.toInt ∧ x1.toInt < (cN z : Int)
  · rw [if_pos h, if_neg nm1, dawn_ev, Option.bind_some]
    by_cases h2 : 0 ≤ x2.toInt ∧ x2.toInt ≤ 30
    · rw [if_pos h2, if_neg nm1]
      obtain ⟨g, hg, rfl⟩ := garden_n h
      obtain ⟨n, hn, rfl⟩ := num_of (m := 30) h2
      refine ⟨lgt (cN z) (fun h => hM z h n) g, z, z, ?_, ?_, hI⟩
      · rw [lightC_ev c1 c3 hg hn, Option.bind_some, lgt_congr hg (fun h hh => hX_no hI hn 0 hh)]
      · rw [mgarden_ev c4 c3, Option.bind_some, if_pos h, if_pos nm2, mdawn_ev, Option.bind_some, if_pos h2, if_neg nm1, light_ev c4 c3 hg hn, Option.bind_some]
    · rw [if_neg h2, if_pos nm2]
      refine ⟨-2, z, z, rfl, ?_, hI⟩
      rw [mgarden_ev c4 c3, Option.bind_some, if_pos h, if_pos nm2, mdawn_ev, Option.bind_some, if_neg h2, if_pos nm2]
  · rw [if_neg h, if_pos nm2]
    refine ⟨-1, z, z, rfl, ?_, hI⟩
    rw [mgarden_ev c4 c3, Option.bind_some, if_neg h, if_neg nm1]
theorem eq_off (z : XS) (hI : Inv z) (x1 x2 : Int32) : ∃ (r : Int32) (z1 z2 : XS), D_X9_off x1 x2 z = some (r, z1) ∧ D_X10_off x1 x2 z1 = some (r, z2) ∧ Inv z2 := by
  obtain ⟨⟨c1, c2, c3, c4⟩, hga, -⟩ := id hI
  unfold D_X9_off D_X10_off
  rw [garden_ev c1 c3, Option.bind_some]
  by_cases h : 0 ≤ x1.toInt ∧ x1.toInt < (cN z : Int)
  · rw [if_pos h, if_neg nm1, dawn_ev, Option.bind_some]
    by_cases h2 : 0 ≤ x2.toInt ∧ x2.toInt ≤ 30
    · rw [if_pos h2, if_neg nm1]
      obtain ⟨g, hg, rfl⟩ := garden_n h
      obtain ⟨n, hn, rfl⟩ := num_of (m := 30) h2
      refine ⟨offM (cN z) (fun h => hM z h n) (gA z 18 0 g) g, z, z, ?_, ?_, hI⟩
      · rw [offC_ev c1 c3 hg hn, Option.bind_some, hga g hg, offM_congr hg (fun h hh => hX_no hI hn 0 hh)]
      · rw [mgarden_ev c4 c3, Option.bind_some, if_pos h, if_pos nm2, mdawn_ev, Option.bind_some, if_pos h2, if_neg nm1, off_ev c4 c3 hg hn, Option.bind_some]
    · rw [if_neg h2, if_pos nm2]
      refine ⟨-2, z, z, rfl, ?_, hI⟩
      rw [mgarden_ev c4 c3, Option.bind_some, if_pos h, if_pos nm2, mdawn_ev, Option.bind_some, if_neg h2, if_pos nm2]
  · rw [if_neg h, if_pos nm2]
    refine ⟨-1, z, z, rfl, ?_, hI⟩
    rw [mgarden_ev c4 c3, Option.bind_some, if_neg h, if_neg nm1]
