/-! scold -/
/-- the words by number: 0 is -3 -/
def wI (i : Nat) : Int32 := nI i + (-3)
theorem wI_s (i : Nat) : wI i + 1 = wI (i + 1) := by
  unfold wI
  rw [← nI_1, Int32.add_assoc, Int32.add_assoc, Int32.add_comm (-3) 1]
theorem wI_p (i : Nat) : wI (i + 1) + (-1) = wI i := by
  rw [← wI_s, Int32.add_assoc]
  exact Int32.add_zero _
theorem wI_lt : ∀ i, i < 8 → ∀ j, j < 8 → (wI i + (-1) < wI j ↔ i ≤ j) := by decide
theorem wI_3 : ∀ i, i < 8 → ((3 : Int32) < wI i ↔ 7 ≤ i) := by decide
theorem wI_4 : ∀ i, i < 8 → ((4 : Int32) ≤ wI i ↔ 7 ≤ i) := by decide
theorem wI_m3 : ∀ i, i < 8 → (-3 : Int32) ≤ wI i := by decide
theorem wI_m9 : ∀ i, i < 8 → ¬ wI i = (-9 : Int32) := by decide
theorem wI_B {i : Nat} (h : i < 7) : wB (wI i) := by
  have : ∀ i, i < 7 → -3 ≤ (wI i).toInt ∧ (wI i).toInt ≤ 3 := by decide
  exact this i h
theorem wB_I {w : Int32} (h : wB w) : ∃ i, i < 7 ∧ w = wI i := by
  rcases wB_cases h with rfl | rfl | rfl | rfl | rfl | rfl | rfl
  · exact ⟨0, by decide, by decide⟩
  · exact ⟨1, by decide, by decide⟩
  · exact ⟨2, by decide, by decide⟩
  · exact ⟨3, by decide, by decide⟩
  · exact ⟨4, by decide, by decide⟩
  · exact ⟨5, by decide, by decide⟩
  · exact ⟨6, by decide, by decide⟩
/-- the least word that is enough, among m from number a on -/
def lw (P : Int32 → Bool) : Nat → Nat → Int32
  | 0, _ => -9
  | m + 1, a => if P (wI a) = true then wI a else lw P m (a + 1)
theorem lw_cases (P : Int32 → Bool) : ∀ m a, a + m ≤ 7 → lw P m a = -9 ∨ ∃ i, i < 7 ∧ lw P m a = wI i := by
  intro m
  induction m with
  | zero => intro a _; exact Or.inl rfl
  | succ m ih =>
    intro a ha
    show (if P (wI a) = true then wI a else lw P m (a + 1)) = -9 ∨ ∃ i, i < 7 ∧ (if P (wI a) = true then wI a else lw P m (a + 1)) = wI i
    by_cases q : P (wI a) = true
    · rw [if_pos q]
      exact Or.inr ⟨a, by omega, rfl⟩
    · rw [if_neg q]
      exact ih (a + 1) (by omega)
def enB (z : XS) (h s d : Nat) (x : Int32) (w : Int32) : Bool := decide (¬ fW z h s d w 30 < 12 * x)
theorem scw_L {z : XS} (hI : Inv z) {h s d : Nat} (x : Int32) (hh : h + 1 < cN z) (hs : s < 2) (hd : d < 30) : ∀ (m a : Nat), a ≤ 7 → 7 - a < m → L_X0_scoldedWord_10 h (nI s) (nI d) x m (wI a) z = some (lw (enB z h s d x) (7 - a) a, z) := by
  intro m
  induction m with
  | zero => intro a _ h; omega
  | succ m ih =>
    intro a ha hm
    show B_X0_scoldedWord_10 h (nI s) (nI d) x (L_X0_scoldedWord_10 h (nI s) (nI d) x m) (wI a) z = _
    unfold B_X0_scoldedWord_10
    by_cases e : a = 7
    · subst e
      rw [if_pos (by decide)]
      rfl
    · rw [if_neg (fun q => by have := (wI_3 a (by omega)).mp q; omega), n30', iif_ev hI hh hs hd (by decide) (wI_B (by omega)), Option.bind_some, wI_s]
      rw [show 7 - a = (7 - (a + 1)) + 1 by omega]
      show _ = some (if enB z h s d x (wI a) = true then wI a else lw (enB z h s d x) (7 - (a + 1)) (a + 1), z)
      by_cases q : fW z h s d (wI a) 30 < 12 * x
      · rw [if_neg (show ¬ enB z h s d x (wI a) = true by unfold enB; rw [decide_eq_true_eq]; exact fun t => t q), ← ih (a + 1) (by omega) (by omega)]
        exact if_pos q
      · rw [if_pos (show enB z h s d x (wI a) = true by unfold enB; rw [decide_eq_true_eq]; exact q)]
        exact if_neg q
theorem scw_ev {z : XS} (hI : Inv z) {h s d a : Nat} (x : Int32) (hh : h + 1 < cN z) (hs : s < 2) (hd : d < 30) (ha : a < 7) (ea : wd z h s d = wI a) : D_X0_scoldedWord h (nI s) (nI d) x z = some (lw (enB z h s d x) (7 - a) a, z) := by
  unfold D_X0_scoldedWord
  rw [inB_nI hs (by decide), gd_t, inB_nI hd (by decide), gd_t, tN_nI (by omega), tN_nI (by omega), (hI.2.2.2.1 h hh s hs d hd).1, ea]
  exact scw_L hI x hh hs hd 64 a (by omega) (by omega)
theorem fM_fW (z : XS) {h s d n : Nat} (w : Int32) (hs : s < 2) (hd : d < 30) (hn : n ≤ 30) : fM (pA z 18 3 (hr h s d) w) h s n = fW z h s d w n := by
  rw [fM_set z w hs hs hd hn, if_pos ⟨rfl, rfl⟩]
  rfl
theorem enough_L {z : XS} {h s d a : Nat} (x1 x : Int32) (hh : h < 6) (hs : s < 2) (hd : d < 30) (ha : a < 7) (ea : wd z h s d = wI a) : ∀ (m j : Nat) (v : Int32), a ≤ j → j ≤ 7 → j - a < m → L_X10_enoughFor_25 x1 x (nI h) (nI s) m (nI (hr h s d)) (wI a) (lw (enB z h s d x) (7 - j) j) (wI j + (-1)) (pA z 18 3 (hr h s d) v) = some (lw (enB z h s d x) (7 - a) a, z) := by
  have hlt := hr_lt (h := h) (s := s) (d := d) hh hd
  intro m
  induction m with
  | zero => intro j _ _ _ h; omega
  | succ m ih =>
    intro j v haj hj hm
    show B_X10_enoughFor_25 x1 x (nI h) (nI s) (L_X10_enoughFor_25 x1 x (nI h) (nI s) m) (nI (hr h s d)) (wI a) (lw (enB z h s d x) (7 - j) j) (wI j + (-1)) (pA z 18 3 (hr h s d) v) = _
    unfold B_X10_enoughFor_25
    rw [inB_nI hlt (by decide), gd_t, gd_t, Option.bind_some, tN_nI (by omega), pA_pA, Option.bind_some, pA_pA]
    by_cases e : j = a
    · subst e
      rw [if_pos ((wI_lt j (by omega) j (by omega)).mpr (Nat.le_refl _)), ← ea]
      show some (_, pA z 18 3 (hr h s d) (gA z 18 3 (hr h s d))) = _
      rw [pA_self]
    · obtain ⟨i, rfl⟩ : ∃ i, j = i + 1 := ⟨j - 1, by omega⟩
      rw [if_neg (fun q => by have := (wI_lt (i + 1) (by omega) a (by omega)).mp q; omega), wI_p, n30', face_ev _ hh hs (by decide), Option.bind_some, fM_fW z (wI i) hs hd (by decide)]
      have ih' := ih i (wI i) (by omega) (by omega) (by omega)
      rw [show 7 - i = (7 - (i + 1)) + 1 by omega] at ih'
      have e1 : lw (enB z h s d x) (7 - (i + 1) + 1) i = if enB z h s d x (wI i) = true then wI i else lw (enB z h s d x) (7 - (i + 1)) (i + 1) := rfl
      rw [e1] at ih'
      by_cases q : fW z h s d (wI i) 30 < 12 * x
      · rw [if_neg (show ¬ enB z h s d x (wI i) = true by unfold enB; rw [decide_eq_true_eq]; exact fun t => t q)] at ih'
        refine Eq.trans (if_pos q) ih'
      · rw [if_pos (show enB z h s d x (wI i) = true by unfold enB; rw [decide_eq_true_eq]; exact q)] at ih'
        refine Eq.trans (if_neg q) ih'
theorem enough_ev {z : XS} {h s d a : Nat} (x : Int32) (hh : h < 6) (hs : s < 2) (hd : d < 30) (ha : a < 7) (ea : wd z h s d = wI a) : D_X10_enoughFor (nI d) x (nI h) (nI s) z = some (lw (enB z h s d x) (7 - a) a, z) := by
  have hlt := hr_lt (h := h) (s := s) (d := d) hh hd
  unfold D_X10_enoughFor
  rw [heard_ev _ _ _ hs, Option.bind_some, inB_nI hlt (by decide), gd_t, tN_nI (by omega)]
  have k := enough_L (nI d) x hh hs hd ha ea 64 7 (gA z 18 3 (hr h s d)) (by omega) (by omega) (by omega)
  rw [pA_self] at k
  have ea' : gA z 18 3 (hr h s d) = wI a := ea
  rw [show (nI (hr h s d), z).2 = z from rfl, ea']
  exact k
/-- all flanks: m from number k on -/
def scM (E V : Nat → Int32) : Nat → Nat → Int32 → Int32
  | 0, _, y => y
  | m + 1, k, y => if E k = -9 then -9 else scM E V m (k + 1) (y + (E k - V k))
def wn (z : XS) (h s d : Nat) : Nat := ((wd z h s d) + 3).toNatClampNeg
theorem wn_ev {z : XS} (hI : Inv z) {h s d : Nat} (hh : h + 1 < cN z) (hs : s < 2) (hd : d < 30) : wn z h s d < 7 ∧ wd z h s d = wI (wn z h s d) := by
  obtain ⟨i, hi, e⟩ := wB_I (hI.2.2.2.1 h hh s hs d hd).2
  have k : wn z h s d = i := by
    unfold wn
    rw [e]
    have : ∀ i, i < 7 → (wI i + 3).toNatClampNeg = i := by decide
    exact this i hi
  rw [k]
  exact ⟨hi, e⟩
def scE (z : XS) (d : Nat) (x : Int32) (k : Nat) : Int32 := lw (enB z (k / 2) (k % 2) d x) (7 - wn z (k / 2) (k % 2) d) (wn z (k / 2) (k % 2) d)
def scV (z : XS) (d : Nat) (k : Nat) : Int32 := wd z (k / 2) (k % 2) d
theorem scE_9 {z : XS} (hI : Inv z) {d k : Nat} (x : Int32) (hd : d < 30) (hk : k / 2 + 1 < cN z) : ((-3 : Int32) ≤ scE z d x k ↔ ¬ scE z d x k = -9) := by
  obtain ⟨h1, h2⟩ := wn_ev hI hk (show k % 2 < 2 by omega) hd
  unfold scE
  rcases lw_cases (enB z (k / 2) (k % 2) d x) (7 - wn z (k / 2) (k % 2) d) (wn z (k / 2) (k % 2) d) (by omega) with e | ⟨i, hi, e⟩
  · rw [e]; decide
  · rw [e]
    exact ⟨fun _ => wI_m9 i (by omega), fun _ => wI_m3 i (by omega)⟩
theorem scoldM_L {z : XS} (hI : Inv z) {d : Nat} (x x3 x4 : Int32) (hd : d < 30) (h0 : 1 ≤ cN z) : ∀ (m k : Nat) (y : Int32), k ≤ 2 * (cN z - 1) → 2 * (cN z - 1) - k < m → L_X10_scold_89 (nI d) x x3 x4 m y (nI k) z = some (scM (scE z d x) (scV z d) (2 * (cN z - 1) - k) k y, z) := by
  have c4 := hI.1.2.2.2
  have c3 := hI.1.2.2.1
  intro m
  induction m with
  | zero => intro k _ _ h; omega
  | succ m ih =>
    intro k y hk hm
    show B_X10_scold_89 (nI d) x x3 x4 (L_X10_scold_89 (nI d) x x3 x4 m) y (nI k) z = _
    unfold B_X10_scold_89
    rw [mhedges_ev c4 c3, Option.bind_some, show (2 : Int32) * nI (cN z - 1) = nI (2 * (cN z - 1)) from pk_mul 2 _]
    by_cases e : k = 2 * (cN z - 1)
    · rw [if_pos ((nI_lt' (by omega) (by omega)).mpr (by omega)), show 2 * (cN z - 1) - k = 0 by omega]
      rfl
    · have hk2 : k / 2 + 1 < cN z := by omega
      obtain ⟨w1, w2⟩ := wn_ev hI hk2 (show k % 2 < 2 by omega) hd
      have hlt := hr_lt (h := k / 2) (s := k % 2) (d := d) (by omega) hd
      rw [if_neg (fun q => by have := (nI_lt' (by omega) (by omega)).mp q; omega), show nI k / 2 = nI (k / 2) from pk_div (by omega) (by decide) (by decide), show nI k - nI (k / 2) * 2 = nI (k % 2) from by
        rw [show nI (k / 2) * 2 = nI (k / 2 * 2) from pk_mul _ 2, nI_sub (by omega)]
        congr 1
        omega, enough_ev x (by omega) (by omega) hd w1 w2, Option.bind_some]
      rw [show 2 * (cN z - 1) - k = (2 * (cN z - 1) - (k + 1)) + 1 by omega]
      show _ = some (if scE z d x k = -9 then -9 else scM (scE z d x) (scV z d) (2 * (cN z - 1) - (k + 1)) (k + 1) (y + (scE z d x k - scV z d k)), z)
      have k9 := scE_9 hI x hd hk2
      by_cases q : scE z d x k = -9
      · rw [if_pos q]
        exact if_neg (fun t => (k9.mp t) q)
      · rw [if_neg q, ← ih (k + 1) _ (by omega) (by omega)]
        refine Eq.trans (if_pos (k9.mpr q)) ?_
        rw [heard_ev _ _ _ (by omega), Option.bind_some, inB_nI hlt (by decide), gd_t, tN_nI (by omega), nI_1]
        rfl
theorem scoldC_in {z : XS} (hI : Inv z) {d h : Nat} (x : Int32) (hd : d < 30) (hh : h + 1 < cN z) (k : Int32 → Int32 → XS → Option (Int32 × XS)) (y : Int32) : L_X4_scoldedMore_19 (nI d) x k 64 y (nI h) 0 z = if scE z d x (2 * h) = -9 then some (-9, z) else if scE z d x (2 * h + 1) = -9 then some (-9, z) else k (y + (scE z d x (2 * h) - scV z d (2 * h)) + (scE z d x (2 * h + 1) - scV z d (2 * h + 1))) (nI (h + 1)) z := by
  have c3 := hI.1.2.2.1
  have st : ∀ (m s : Nat) (y : Int32), s < 2 → L_X4_scoldedMore_19 (nI d) x k (m + 1) y (nI h) (nI s) z = if scE z d x (2 * h + s) = -9 then some (-9, z) else L_X4_scoldedMore_19 (nI d) x k m (y + (scE z d x (2 * h + s) - scV z d (2 * h + s))) (nI h) (nI (s + 1)) z := by
    intro m s y hs
    show B_X4_scoldedMore_19 (nI d) x k (L_X4_scoldedMore_19 (nI d) x k m) y (nI h) (nI s) z = _
    unfold B_X4_scoldedMore_19
    obtain ⟨w1, w2⟩ := wn_ev hI hh hs hd
    have e1 : scE z d x (2 * h + s) = lw (enB z h s d x) (7 - wn z h s d) (wn z h s d) := by
      unfold scE
      rw [show (2 * h + s) / 2 = h by omega, show (2 * h + s) % 2 = s by omega]
    have e2 : scV z d (2 * h + s) = wd z h s d := by
      unfold scV
      rw [show (2 * h + s) / 2 = h by omega, show (2 * h + s) % 2 = s by omega]
    rw [if_neg (show ¬ (1 : Int32) < nI s from fun q => by have := (nI_lt'' (a := 1) (by omega) (by omega)).mp q; omega), inB_nI (by omega) (by decide), gd_t, tN_nI (by omega), scw_ev hI x hh hs hd w1 w2, Option.bind_some, gd_t, inB_nI hs (by decide), gd_t, inB_nI hd (by decide), gd_t, tN_nI (by omega), tN_nI (by omega), (hI.2.2.2.1 h hh s hs d hd).1, nI_1, e1, e2]
  have st2 : ∀ (m : Nat) (y : Int32), L_X4_scoldedMore_19 (nI d) x k (m + 1) y (nI h) (nI 2) z = k y (nI (h + 1)) z := by
    intro m y
    show B_X4_scoldedMore_19 (nI d) x k (L_X4_scoldedMore_19 (nI d) x k m) y (nI h) (nI 2) z = _
    unfold B_X4_scoldedMore_19
    rw [if_pos (show (1 : Int32) < nI 2 by decide), nI_1]
  have r0 := st 63 0 y (by decide)
  refine Eq.trans r0 ?_
  rw [st 62 1 _ (by decide), st2 61]
  rfl
theorem scoldC_L {z : XS} (hI : Inv z) {d : Nat} (x : Int32) (hd : d < 30) (h0 : 1 ≤ cN z) : ∀ (m h : Nat) (y : Int32), h ≤ cN z - 1 → cN z - 1 - h < m → L_X4_scoldedMore_5 (nI d) x m y (nI h) z = some (scM (scE z d x) (scV z d) (2 * (cN z - 1) - 2 * h) (2 * h) y, z) := by
  have c1 := hI.1.1
  have c3 := hI.1.2.2.1
  intro m
  induction m with
  | zero => intro h _ _ h; omega
  | succ m ih =>
    intro h y hh hm
    show B_X4_scoldedMore_5 (nI d) x (L_X4_scoldedMore_5 (nI d) x m) y (nI h) z = _
    unfold B_X4_scoldedMore_5
    rw [c1, show nI (cN z) - 1 = nI (cN z - 1) from nI_sub (b := 1) h0]
    by_cases e : h = cN z - 1
    · rw [if_pos ((nI_lt' (by omega) (by omega)).mpr (by omega)), show 2 * (cN z - 1) - 2 * h = 0 by omega]
      rfl
    · rw [if_neg (fun q => by have := (nI_lt' (by omega) (by omega)).mp q; omega), scoldC_in hI x hd (by omega), ih (h + 1) _ (by omega) (by omega)]
      rw [show 2 * (cN z - 1) - 2 * h = (2 * (cN z - 1) - 2 * (h + 1)) + 1 + 1 by omega]
      show _ = some (if scE z d x (2 * h) = -9 then -9 else if scE z d x (2 * h + 1) = -9 then -9 else scM (scE z d x) (scV z d) (2 * (cN z - 1) - 2 * (h + 1)) (2 * h + 1 + 1) (y + (scE z d x (2 * h) - scV z d (2 * h)) + (scE z d x (2 * h + 1) - scV z d (2 * h + 1))), z)
      by_cases q1 : scE z d x (2 * h) = -9
      · rw [if_pos q1, if_pos q1]
      · rw [if_neg q1, if_neg q1]
        by_cases q2 : scE z d x (2 * h + 1) = -9
        · rw [if_pos q2, if_pos q2]
        · rw [if_neg q2, if_neg q2]
          rfl
theorem eq_scold (z : XS) (hI : Inv z) (x1 x2 x3 x4 : Int32) : ∃ (r : Int32) (z1 z2 : XS), D_X9_scold x1 x2 x3 x4 z = some (r, z1) ∧ D_X10_scold x1 x2 x3 x4 z1 = some (r, z2) ∧ Inv z2 := by
  obtain ⟨⟨c1, c2, c3, c4⟩, -⟩ := id hI
  have core : (x3 = -1 ∨ (0 ≤ x3.toInt ∧ x3.toInt + 1 < (cN z : Int))) → ∃ r, J_X9_scold_18 x1 x2 x3 x4 z = some (r, z) ∧ J_X10_scold_15 x1 x2 x3 x4 z = some (r, z) := by
    intro hx
    unfold J_X9_scold_18 J_X10_scold_15
    rw [day_ev, Option.bind_some, mday_ev, Option.bind_some]
    by_cases h1 : 0 ≤ x1.toInt ∧ x1.toInt ≤ 29
    · rw [if_pos h1, if_neg nm1, if_neg nm1, feet_ev, Option.bind_some, mfeet_ev, Option.bind_some]
      by_cases h2 : 0 ≤ x2.toInt ∧ x2.toInt ≤ 20
      · rw [if_pos h2, if_neg nm1, if_neg nm1, side_ev, Option.bind_some, mside_ev, Option.bind_some]
        by_cases h4 : 0 ≤ x4.toInt ∧ x4.toInt ≤ 1
        · rw [if_pos h4, if_neg nm1, if_neg nm1]
          by_cases h0 : cN z = 0
          · refine ⟨-3, ?_, ?_⟩
            · rw [if_pos ((cN0 hI).mpr h0)]
            · rw [if_pos ((cN0' hI).mpr h0)]
          · obtain ⟨d, hd, rfl⟩ := num_of (m := 29) h1
            obtain ⟨s, hs, rfl⟩ := num_of (m := 1) h4
            rw [if_neg (show ¬ gS z 1 2 0 = 0 from fun q => h0 ((cN0 hI).mp q)), if_neg (show ¬ gS z 17 1 0 = 0 from fun q => h0 ((cN0' hI).mp q))]
            rcases hx with e | hx
            · refine ⟨scM (scE z d x2) (scV z d) (2 * (cN z - 1) - 2 * 0) (2 * 0) 0, ?_, ?_⟩
              · rw [if_pos e]
                unfold D_X4_scoldedMore
                have k := scoldC_L hI x2 (show d < 30 by omega) (by omega) 64 0 0 (Nat.zero_le _) (by omega)
                rw [show L_X4_scoldedMore_5 (nI d) x2 64 0 0 z = _ from k, Option.bind_some]
              · rw [if_pos (by rw [e]; decide)]
                exact scoldM_L hI x2 x3 (nI s) (show d < 30 by omega) (by omega) 64 0 0 (Nat.zero_le _) (by omega)
            · obtain ⟨g, hg, rfl⟩ := hedge_n hx
              obtain ⟨w1, w2⟩ := wn_ev hI hg (show s < 2 by omega) (show d < 30 by omega)
              rw [if_neg (nI_nm1 (by omega)), if_neg (nI_nneg (by omega)), inB_nI (by omega) (by decide), gd_t, tN_nI (by omega), scw_ev hI x2 hg (by omega) (by omega) w1 w2, Option.bind_some, enough_ev x2 (by omega) (by omega) (by omega) w1 w2, Option.bind_some]
              rcases lw_cases (enB z g s d x2) (7 - wn z g s d) (wn z g s d) (by omega) with e | ⟨i, hi, e⟩
              · rw [e]
                exact ⟨-9, if_pos rfl, if_neg (show ¬ (-3 : Int32) ≤ -9 by decide)⟩
              · rw [e]
                exact ⟨wI i + 10, if_neg (wI_m9 i (by omega)), if_pos (wI_m3 i (by omega))⟩
        · rw [if_neg h4, if_pos nm2, if_pos nm2]
          exact ⟨-2, rfl, rfl⟩
      · rw [if_neg h2, if_pos nm2, if_pos nm2]
        exact ⟨-2, rfl, rfl⟩
    · rw [if_neg h1, if_pos nm2, if_pos nm2]
      exact ⟨-2, rfl, rfl⟩
  unfold D_X9_scold D_X10_scold
  by_cases e : x3 = -1
  · simp only [if_pos e]
    obtain ⟨r, A, B⟩ := core (Or.inl e)
    exact ⟨r, z, z, A, B, hI⟩
  · simp only [if_neg e]
    rw [hedge_ev c1 c3, Option.bind_some]
    by_cases h : 0 ≤ x3.toInt ∧ x3.toInt + 1 < (cN z : Int)
    · rw [if_pos h, if_neg nm1]
      obtain ⟨r, A, B⟩ := core (Or.inr h)
      refine ⟨r, z, z, A, ?_, hI⟩
      rw [mhedge_ev c4 c3, Option.bind_some, if_pos h, if_pos nm2]
      exact B
    · rw [if_neg h, if_pos nm2]
      refine ⟨-1, z, z, rfl, ?_, hI⟩
      rw [mhedge_ev c4 c3, Option.bind_some, if_neg h, if_neg nm1]
