/-! quarrels -/
theorem mn_comm (a b : Int32) : mn a b = mn b a := by
  unfold mn
  by_cases h1 : b ≤ a
  · rw [if_pos h1]
    by_cases h2 : a ≤ b
    · rw [if_pos h2]
      have a1 := (i_le _ _).mp h1
      have a2 := (i_le _ _).mp h2
      exact (i_eq _ _).mpr (by omega)
    · rw [if_neg h2]
  · rw [if_neg h1]
    have a1 : ¬ b.toInt ≤ a.toInt := fun q => h1 ((i_le _ _).mpr q)
    rw [if_pos ((i_le _ _).mpr (by omega))]
theorem mn_lt (a b : Int32) : (if b < a then b else a) = mn a b := mnmn b a
theorem wupE (f : Nat → Int32) (i : Nat) (v : Int32) : wup f i v i = v := by unfold wup; rw [if_pos rfl]
theorem wupN {f : Nat → Int32} {i j : Nat} {v : Int32} (h : ¬ i = j) : wup f j v i = f i := by unfold wup; rw [if_neg h]
/-- the reference's words and kept words as told -/
def st (z : XS) (f g : Nat → Int32) : XS := pR (pR z 18 3 f) 18 12 g
theorem st_3 (z : XS) (f g : Nat → Int32) (i : Nat) (v : Int32) : pA (st z f g) 18 3 i v = st z (wup f i v) g := by
  apply xs_ext
  · intro _ _ _; rfl
  · intro k' j' i'
    unfold st
    rw [gA_pA', gA_pR', gA_pR', gA_pR', gA_pR']
    by_cases q : k' = 18 ∧ j' = 3
    · obtain ⟨rfl, rfl⟩ := q
      show (if 18 = 18 ∧ 3 = 3 ∧ i' = i then v else f i') = wup f i v i'
      unfold wup
      by_cases e : i' = i
      · rw [if_pos ⟨rfl, rfl, e⟩, if_pos e]
      · rw [if_neg (fun x => e x.2.2), if_neg e]
    · rw [if_neg (fun x => q ⟨x.1, x.2.1⟩), if_neg q, if_neg q]
  · intro _; rfl
theorem st_12 (z : XS) (f g : Nat → Int32) (i : Nat) (v : Int32) : pA (st z f g) 18 12 i v = st z f (wup g i v) := by
  apply xs_ext
  · intro _ _ _; rfl
  · intro k' j' i'
    unfold st
    rw [gA_pA', gA_pR', gA_pR', gA_pR', gA_pR']
    by_cases q : k' = 18 ∧ j' = 12
    · obtain ⟨rfl, rfl⟩ := q
      show (if 18 = 18 ∧ 12 = 12 ∧ i' = i then v else g i') = wup g i v i'
      unfold wup
      by_cases e : i' = i
      · rw [if_pos ⟨rfl, rfl, e⟩, if_pos e]
      · rw [if_neg (fun x => e x.2.2), if_neg e]
    · rw [if_neg (fun x => q ⟨x.1, x.2.1⟩), if_neg q, if_neg q]
  · intro _; rfl
theorem st_g3 (z : XS) (f g : Nat → Int32) (i : Nat) : gA (st z f g) 18 3 i = f i := rfl
theorem st_g12 (z : XS) (f g : Nat → Int32) (i : Nat) : gA (st z f g) 18 12 i = g i := rfl
def f0 (z : XS) : Nat → Int32 := fun i => gA z 18 3 i
theorem st_0 (z : XS) (g : Nat → Int32) : st z (f0 z) g = pR z 18 12 g := by
  unfold st f0
  rw [pR_self]
theorem st_z (z : XS) : st z (f0 z) (fun i => gA z 18 12 i) = z := by
  rw [st_0, pR_self]
theorem pk3030 (a : Nat) : (30 : Int32) + nI a = nI (30 + a) := nI_add 30 a
theorem save_L {z : XS} {h : Nat} (x2 x3 x4 : Int32) (f : Nat → Int32) (hh : h < 6) : ∀ (m a : Nat) (g : Nat → Int32), a ≤ 30 → 30 - a < m → (∀ t, t < a → g t = f (hr h 0 t) ∧ g (30 + t) = f (hr h 1 t)) → ∃ g', L_X10_quarrel_43 (nI h) x2 x3 x4 m (nI a) (st z f g) = L_X10_quarrel_103 (nI h) x2 x3 x4 64 0 x2 (st z f g') ∧ ∀ t, t < 30 → g' t = f (hr h 0 t) ∧ g' (30 + t) = f (hr h 1 t) := by
  intro m
  induction m with
  | zero => intro a g _ h; omega
  | succ m ih =>
    intro a g ha hm hg
    show ∃ g', B_X10_quarrel_43 (nI h) x2 x3 x4 (L_X10_quarrel_43 (nI h) x2 x3 x4 m) (nI a) (st z f g) = _ ∧ _
    unfold B_X10_quarrel_43
    by_cases e : a = 30
    · subst e
      rw [if_pos (show (30 : Int32) ≤ nI 30 by decide)]
      exact ⟨g, rfl, hg⟩
    · have l0 := hr_lt (h := h) (s := 0) (d := a) hh (by omega)
      have l1 := hr_lt (h := h) (s := 1) (d := a) hh (by omega)
      rw [if_neg (show ¬ (30 : Int32) ≤ nI a from fun q => by have := (nI_lt' (a := 30) (by omega) (by omega)).mp q; omega), n0', heard_ev _ _ _ (by decide), Option.bind_some, inB_nI l0 (by decide), gd_t, inB_nI (show a < 60 by omega) (by decide), gd_t, Option.bind_some, tN_nI (by omega), tN_nI (by omega), st_g3, st_12, n1', heard_ev _ _ _ (by decide), Option.bind_some, inB_nI l1 (by decide), gd_t, pk3030, inB_nI (show 30 + a < 60 by omega) (by decide), gd_t, Option.bind_some, tN_nI (by omega), tN_nI (by omega), st_g3, st_12, nI_add a 1]
      refine ih (a + 1) _ (by omega) (by omega) (fun t ht => ?_)
      by_cases et : t = a
      · subst et
        rw [wupN (by omega), wupE, wupE]
        exact ⟨rfl, rfl⟩
      · rw [wupN (by omega), wupN (by omega), wupN (by omega), wupN (by omega)]
        exact hg t (by omega)
theorem back_L {z : XS} {h : Nat} (x2 x3 x4 y : Int32) (g : Nat → Int32) (hh : h < 6) (hg : ∀ t, t < 30 → g t = f0 z (hr h 0 t) ∧ g (30 + t) = f0 z (hr h 1 t)) : ∀ (m a : Nat) (f : Nat → Int32), a ≤ 30 → 30 - a < m → (∀ i, (∀ s t, s < 2 → a ≤ t → t < 30 → ¬ i = hr h s t) → f i = f0 z i) → L_X10_quarrel_212 (nI h) x2 x3 x4 m y (nI a) (st z f g) = some (y + 10, st z (f0 z) g) := by
  intro m
  induction m with
  | zero => intro a g _ h; omega
  | succ m ih =>
    intro a f ha hm hf
    show B_X10_quarrel_212 (nI h) x2 x3 x4 (L_X10_quarrel_212 (nI h) x2 x3 x4 m) y (nI a) (st z f g) = _
    unfold B_X10_quarrel_212
    by_cases e : a = 30
    · subst e
      rw [if_pos (show (30 : Int32) ≤ nI 30 by decide), show f = f0 z from funext fun i => hf i (fun s t _ h1 h2 => by omega)]
    · have l0 := hr_lt (h := h) (s := 0) (d := a) hh (by omega)
      have l1 := hr_lt (h := h) (s := 1) (d := a) hh (by omega)
      obtain ⟨g1, g2⟩ := hg a (by omega)
      rw [if_neg (show ¬ (30 : Int32) ≤ nI a from fun q => by have := (nI_lt' (a := 30) (by omega) (by omega)).mp q; omega), n0', heard_ev _ _ _ (by decide), Option.bind_some, inB_nI (show a < 60 by omega) (by decide), gd_t, inB_nI l0 (by decide), gd_t, Option.bind_some, tN_nI (by omega), tN_nI (by omega), st_g12, st_3, n1', heard_ev _ _ _ (by decide), Option.bind_some, pk3030, inB_nI (show 30 + a < 60 by omega) (by decide), gd_t, inB_nI l1 (by decide), gd_t, Option.bind_some, tN_nI (by omega), tN_nI (by omega), st_g12, st_3, nI_add a 1, g1, g2]
      refine ih (a + 1) _ (by omega) (by omega) (fun i hi => ?_)
      by_cases e1 : i = hr h 1 a
      · rw [e1, wupE]
      · rw [wupN e1]
        by_cases e2 : i = hr h 0 a
        · rw [e2, wupE]
        · rw [wupN e2]
          refine hf i (fun s t hs h1 h2 => ?_)
          by_cases et : t = a
          · subst et
            by_cases es : s = 0
            · subst es; exact e2
            · have : s = 1 := by omega
              subst this; exact e1
          · exact hi s t hs (by omega) h2
/-- the word chosen, by what each word brings -/
def pk (O : Int32 → Int32) : Int32 := if O (-1) ≤ O 0 then (if O 1 ≤ O 0 then 0 else 1) else (if O 1 ≤ O (-1) then -1 else 1)
theorem pk_B (O : Int32 → Int32) : wB (pk O) := by
  unfold pk wB
  by_cases h1 : O (-1) ≤ O 0
  · rw [if_pos h1]
    by_cases h2 : O 1 ≤ O 0
    · rw [if_pos h2]; decide
    · rw [if_neg h2]; decide
  · rw [if_neg h1]
    by_cases h2 : O 1 ≤ O (-1)
    · rw [if_pos h2]; decide
    · rw [if_neg h2]; decide
theorem pk_congr {O P : Int32 → Int32} (h : ∀ w, wB w → O w = P w) : pk O = pk P := by
  unfold pk
  rw [h 0 (by unfold wB; decide), h (-1) (by unfold wB; decide), h 1 (by unfold wB; decide)]
theorem chosen_ev {z : XS} {c : Nat} (hc : gS z 17 1 0 = nI c) (h7 : c ≤ 7) {g n p : Nat} (hg : g < c) (hn : n ≤ 30) (hp : p < 420) : D_X10_chosenFor (nI g) (nI p) (nI n) z = some (pk (fun w => offM c (fun h => hM (pA z 18 3 p w) h n) (gA z 18 0 g) g), z) := by
  have o : ∀ w, D_X10_offAt (nI g) (nI n) (pA z 18 3 p w) = some (offM c (fun h => hM (pA z 18 3 p w) h n) (gA z 18 0 g) g, pA z 18 3 p w) := fun w => off_ev (z := pA z 18 3 p w) hc h7 hg hn
  have s3 : ∀ (m : Nat) (y5 y6 v : Int32), L_X10_chosenFor_29 (nI g) (nI p) (nI n) (m + 1) (gA z 18 3 p) y5 y6 3 (pA z 18 3 p v) = some (y5, z) := by
    intro m y5 y6 v
    show B_X10_chosenFor_29 (nI g) (nI p) (nI n) (L_X10_chosenFor_29 (nI g) (nI p) (nI n) m) (gA z 18 3 p) y5 y6 3 (pA z 18 3 p v) = _
    unfold B_X10_chosenFor_29
    rw [if_pos (by decide), inB_nI hp (by decide), gd_t, Option.bind_some, tN_nI (by omega), pA_pA, pA_self]
  have sw : ∀ (m : Nat) (y5 y6 v w : Int32), ¬ (2 : Int32) ≤ w → L_X10_chosenFor_29 (nI g) (nI p) (nI n) (m + 1) (gA z 18 3 p) y5 y6 w (pA z 18 3 p v) = if offM c (fun h => hM (pA z 18 3 p w) h n) (gA z 18 0 g) g ≤ y6 then L_X10_chosenFor_29 (nI g) (nI p) (nI n) m (gA z 18 3 p) y5 y6 (w + 2) (pA z 18 3 p w) else L_X10_chosenFor_29 (nI g) (nI p) (nI n) m (gA z 18 3 p) w (offM c (fun h => hM (pA z 18 3 p w) h n) (gA z 18 0 g) g) (w + 2) (pA z 18 3 p w) := by
    intro m y5 y6 v w hw
    show B_X10_chosenFor_29 (nI g) (nI p) (nI n) (L_X10_chosenFor_29 (nI g) (nI p) (nI n) m) (gA z 18 3 p) y5 y6 w (pA z 18 3 p v) = _
    unfold B_X10_chosenFor_29
    rw [if_neg hw, inB_nI hp (by decide), gd_t, Option.bind_some, tN_nI (by omega), pA_pA, o, Option.bind_some]
  unfold D_X10_chosenFor pk
  rw [inB_nI hp (by decide), gd_t, gd_t, Option.bind_some, tN_nI (by omega), o, Option.bind_some]
  refine Eq.trans (sw 63 _ _ 0 (-1) (by decide)) ?_
  rw [show (-1 : Int32) + 2 = 1 from by decide]
  by_cases h1 : offM c (fun h => hM (pA z 18 3 p (-1)) h n) (gA z 18 0 g) g ≤ offM c (fun h => hM (pA z 18 3 p 0) h n) (gA z 18 0 g) g
  · rw [if_pos h1, if_pos h1]
    refine Eq.trans (sw 62 _ _ (-1) 1 (by decide)) ?_
    rw [show (1 : Int32) + 2 = 3 from by decide]
    by_cases h2 : offM c (fun h => hM (pA z 18 3 p 1) h n) (gA z 18 0 g) g ≤ offM c (fun h => hM (pA z 18 3 p 0) h n) (gA z 18 0 g) g
    · rw [if_pos h2, if_pos h2]
      exact s3 61 _ _ _
    · rw [if_neg h2, if_neg h2]
      exact s3 61 _ _ _
  · rw [if_neg h1, if_neg h1]
    refine Eq.trans (sw 62 _ _ (-1) 1 (by decide)) ?_
    rw [show (1 : Int32) + 2 = 3 from by decide]
    by_cases h2 : offM c (fun h => hM (pA z 18 3 p 1) h n) (gA z 18 0 g) g ≤ offM c (fun h => hM (pA z 18 3 p (-1)) h n) (gA z 18 0 g) g
    · rw [if_pos h2, if_pos h2]
      exact s3 61 _ _ _
    · rw [if_neg h2, if_neg h2]
      exact s3 61 _ _ _
theorem offM_nn (c : Nat) (H : Nat → Int32) (w : Int32) (g : Nat) : ¬ offM c H w g ≤ -1 := by
  unfold offM
  by_cases h1 : lgt c H g < w
  · rw [if_pos h1]
    by_cases h2 : gts H g
    · rw [if_pos h2]; decide
    · rw [if_neg h2]; decide
  · rw [if_neg h1]
    by_cases h2 : gts H g
    · rw [if_pos h2]; decide
    · rw [if_neg h2]; decide
def evO (z : XS) (g h d : Nat) (own quiet : Int32) (w : Int32) : Int32 := offM (cN z) (hX z (d + 1) (nI h) (mn (dM (gA z 18 1 h) (cl z h d) own w) quiet)) (gA z 7 0 g) g
theorem evening_ev {z : XS} (hI : Inv z) {g h d : Nat} (own quiet : Int32) (hg : g < cN z) (hh : h + 1 < cN z) (hd : d < 30) : D_X4_eveningChoice (nI g) (nI h) (nI d) own quiet z = some (pk (evO z g h d own quiet), z) := by
  obtain ⟨⟨c1, c2, c3, c4⟩, -⟩ := id hI
  obtain ⟨k1, k2, k3, k4⟩ := hI.2.2.1 h hh
  have e1 := hI.2.2.2.2.1 h hh d hd
  have sw : ∀ (m i : Nat) (y6 y7 : Int32), i < 3 → wB (chI i) → L_X4_eveningChoice_19 (nI g) (nI h) (nI d) own quiet (m + 1) y6 y7 3 (nI i) z = if evO z g h d own quiet (chI i) ≤ y7 then L_X4_eveningChoice_19 (nI g) (nI h) (nI d) own quiet m y6 y7 3 (nI (i + 1)) z else L_X4_eveningChoice_19 (nI g) (nI h) (nI d) own quiet m (chI i) (evO z g h d own quiet (chI i)) 3 (nI (i + 1)) z := by
    intro m i y6 y7 hi hw
    show B_X4_eveningChoice_19 (nI g) (nI h) (nI d) own quiet (L_X4_eveningChoice_19 (nI g) (nI h) (nI d) own quiet m) y6 y7 3 (nI i) z = _
    unfold B_X4_eveningChoice_19
    rw [if_neg (show ¬ (3 : Int32) ≤ nI i from fun q => by have := (nI_lt' (a := 3) (by omega) (by omega)).mp q; omega), inB_nI hi (by decide), gd_t, inB_nI (by omega) (by decide), gd_t, tN_nI (by omega), tN_nI (by omega), dayC k1 hw hd (by rw [e1.1]; exact e1.2), Option.bind_some, nI_1, e1.1, mn_lt, offC_ev c1 c3 hg (by omega), Option.bind_some, nI_1]
    rfl
  have s3 : ∀ (m : Nat) (y6 y7 : Int32), L_X4_eveningChoice_19 (nI g) (nI h) (nI d) own quiet (m + 1) y6 y7 3 (nI 3) z = some (y6, z) := by
    intro m y6 y7
    show B_X4_eveningChoice_19 (nI g) (nI h) (nI d) own quiet (L_X4_eveningChoice_19 (nI g) (nI h) (nI d) own quiet m) y6 y7 3 (nI 3) z = _
    unfold B_X4_eveningChoice_19
    rw [if_pos (show (3 : Int32) ≤ nI 3 by decide)]
  unfold D_X4_eveningChoice pk
  refine Eq.trans (sw 63 0 0 (-1) (by decide) (by unfold wB chI; decide)) ?_
  rw [if_neg (show ¬ evO z g h d own quiet (chI 0) ≤ -1 from offM_nn _ _ _ _)]
  refine Eq.trans (sw 62 1 _ _ (by decide) (by unfold wB chI; decide)) ?_
  by_cases h1 : evO z g h d own quiet (-1) ≤ evO z g h d own quiet 0
  · rw [if_pos h1]
    refine Eq.trans (if_pos h1) ?_
    refine Eq.trans (sw 61 2 _ _ (by decide) (by unfold wB chI; decide)) ?_
    by_cases h2 : evO z g h d own quiet 1 ≤ evO z g h d own quiet 0
    · rw [if_pos h2]
      refine Eq.trans (if_pos h2) ?_
      exact s3 60 _ _
    · rw [if_neg h2]
      refine Eq.trans (if_neg h2) ?_
      exact s3 60 _ _
  · rw [if_neg h1]
    refine Eq.trans (if_neg h1) ?_
    refine Eq.trans (sw 61 2 _ _ (by decide) (by unfold wB chI; decide)) ?_
    by_cases h2 : evO z g h d own quiet 1 ≤ evO z g h d own quiet (-1)
    · rw [if_pos h2]
      refine Eq.trans (if_pos h2) ?_
      exact s3 60 _ _
    · rw [if_neg h2]
      refine Eq.trans (if_neg h2) ?_
      exact s3 60 _ _
