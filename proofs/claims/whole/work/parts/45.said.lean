/-! said -/
def soB (z : XS) (k : Nat) : Bool := decide (fM z (gA z 18 8 k).toNatClampNeg (gA z 18 9 k).toNatClampNeg (gA z 18 10 k).toNatClampNeg = gA z 18 11 k)
def soP (z : XS) : Nat → Bool
  | 0 => true
  | k + 1 => soP z k && soB z k
theorem soP_s {z : XS} {k : Nat} : soP z (k + 1) = true ↔ soP z k = true ∧ soB z k = true := by
  show (soP z k && soB z k) = true ↔ _
  rw [Bool.and_eq_true]
theorem soP_mono {z : XS} {a b : Nat} (hab : a ≤ b) (h : soP z b = true) : soP z a = true := by
  induction b with
  | zero => have : a = 0 := by omega
            subst this; exact h
  | succ b ih =>
    by_cases e : a = b + 1
    · subst e; exact h
    · exact ih (by omega) (soP_s.mp h).1
def rOK (z : XS) (r : Nat) : Prop := r ≤ 10 ∧ gS z 17 12 0 = nI r ∧ ∀ k, k < r → ∃ h s n, h < 6 ∧ s < 2 ∧ n ≤ 30 ∧ gA z 18 8 k = nI h ∧ gA z 18 9 k = nI s ∧ gA z 18 10 k = nI n
theorem soB_ev {z : XS} {k h s n : Nat} (hh : h < 6) (hs : s < 2) (hn : n ≤ 30) (e1 : gA z 18 8 k = nI h) (e2 : gA z 18 9 k = nI s) (e3 : gA z 18 10 k = nI n) : soB z k = true ↔ fM z h s n = gA z 18 11 k := by
  unfold soB
  rw [decide_eq_true_eq, e1, e2, e3, tN_nI (by omega), tN_nI (by omega), tN_nI (by omega)]
theorem areSo_L {z : XS} {r : Nat} (ho : rOK z r) : ∀ (m a : Nat), a ≤ r → r - a < m → L_X10_areSo_4 m (if soP z a = true then 1 else 0) (nI a) z = some (if soP z r = true then 1 else 0, z) := by
  obtain ⟨o1, o2, o3⟩ := ho
  intro m
  induction m with
  | zero => intro a _ h; omega
  | succ m ih =>
    intro a ha hm
    show B_X10_areSo_4 (L_X10_areSo_4 m) (if soP z a = true then 1 else 0) (nI a) z = _
    unfold B_X10_areSo_4
    rw [isZ_ite, gd_t, o2]
    by_cases e : a = r
    · subst e
      rw [if_pos ((nI_lt' (by omega) (by omega)).mpr (Nat.le_refl _))]
    · rw [if_neg (fun q => by have := (nI_lt' (by omega) (by omega)).mp q; omega)]
      by_cases t : soP z a = true
      · obtain ⟨h, s, n, hh, hs, hn, e1, e2, e3⟩ := o3 a (by omega)
        have k := soB_ev hh hs hn e1 e2 e3
        rw [if_pos t, if_neg nm1, inB_nI (by omega) (by decide), gd_t, gd_t, gd_t, tN_nI (by omega), e1, e2, e3, face_ev z hh hs hn, Option.bind_some, gd_t, nI_1]
        have ih' := ih (a + 1) (by omega) (by omega)
        by_cases w : fM z h s n = gA z 18 11 a
        · rw [if_pos (soP_s.mpr ⟨t, k.mpr w⟩)] at ih'
          exact (if_pos w).trans ih'
        · rw [if_neg (fun q => w (k.mp (soP_s.mp q).2))] at ih'
          exact (if_neg w).trans ih'
      · rw [if_neg t, if_pos nm2, if_neg (fun q => t (soP_mono ha q))]
theorem areSo_ev {z : XS} {r : Nat} (ho : rOK z r) : D_X10_areSo z = some (if soP z r = true then 1 else 0, z) := areSo_L ho 64 0 (Nat.zero_le _) (by have := ho.1; omega)
theorem allSo_L {z : XS} (hI : Inv z) {r h s d : Nat} {w : Int32} (hh : h + 1 < cN z) (hs : s < 2) (hd : d < 30) (hw : wB w) (r1 : r ≤ 10) (r2 : gS z 2 4 0 = nI r) (r4 : ∀ k, k < r → (gA z 16 0 k = gA z 18 8 k ∧ gA z 16 1 k = gA z 18 9 k ∧ gA z 16 2 k = gA z 18 10 k ∧ gA z 16 3 k = gA z 18 11 k) ∧ (∃ h, h + 1 < cN z ∧ gA z 18 8 k = nI h) ∧ (∃ s, s < 2 ∧ gA z 18 9 k = nI s) ∧ ∃ n, n ≤ 30 ∧ gA z 18 10 k = nI n) : ∀ (m a : Nat), a ≤ r → r - a < m → soP (pA z 18 3 (hr h s d) w) a = true → L_X3_allSoIf_3 (nI h) (nI s) (nI d) w m (nI a) z = some (if soP (pA z 18 3 (hr h s d) w) r = true then 1 else 0, z) := by
  have c3 := hI.1.2.2.1
  intro m
  induction m with
  | zero => intro a _ h; omega
  | succ m ih =>
    intro a ha hm ht
    show B_X3_allSoIf_3 (nI h) (nI s) (nI d) w (L_X3_allSoIf_3 (nI h) (nI s) (nI d) w m) (nI a) z = _
    unfold B_X3_allSoIf_3
    rw [r2]
    by_cases e : a = r
    · subst e
      rw [if_pos ((nI_lt' (by omega) (by omega)).mpr (Nat.le_refl _)), if_pos ht]
    · obtain ⟨⟨p1, p2, p3, p4⟩, ⟨ha', hha, e1⟩, ⟨sa, hsa, e2⟩, na, hna, e3⟩ := r4 a (by omega)
      have hB : inB (nI a) 10 = true := inB_nI (by omega) (by decide)
      have hN : (nI a).toNatClampNeg = a := tN_nI (by omega)
      have k := soB_ev (z := pA z 18 3 (hr h s d) w) (k := a) (show ha' < 6 by omega) hsa hna e1 e2 e3
      have fin : ∀ t, t = fM (pA z 18 3 (hr h s d) w) ha' sa na → J_X3_allSoIf_101 (nI h) (nI s) (nI d) w (L_X3_allSoIf_3 (nI h) (nI s) (nI d) w m) (nI a) t z = some (if soP (pA z 18 3 (hr h s d) w) r = true then 1 else 0, z) := by
        intro t et
        subst et
        unfold J_X3_allSoIf_101
        rw [hB, gd_t, hN, p4, nI_1]
        by_cases q : fM (pA z 18 3 (hr h s d) w) ha' sa na = gA z 18 11 a
        · rw [if_pos q]
          exact ih (a + 1) (by omega) (by omega) (soP_s.mpr ⟨ht, k.mpr q⟩)
        · rw [if_neg q, if_neg (fun x => q (k.mp (soP_s.mp (soP_mono (show a + 1 ≤ r by omega) x)).2))]
      have fin0 : ¬ (ha' = h ∧ sa = s) → J_X3_allSoIf_52 (nI h) (nI s) (nI d) w (L_X3_allSoIf_3 (nI h) (nI s) (nI d) w m) (nI a) ha' z = some (if soP (pA z 18 3 (hr h s d) w) r = true then 1 else 0, z) := by
        intro hne
        unfold J_X3_allSoIf_52 J_X3_allSoIf_53
        rw [if_pos nm2, hB, gd_t, hN, p2, e2, p3, e3, inB_nI hsa (by decide), gd_t, gd_t, inB_nI (show na < 31 by omega) (by decide), gd_t, tN_nI (by omega), tN_nI (by omega)]
        refine fin _ ?_
        rw [inc_of hI hha hsa hna, fM_set z w hs hsa hd hna, if_neg hne]
      rw [if_neg (fun q => by have := (nI_lt' (by omega) (by omega)).mp q; omega), hB, gd_t, gd_t, gd_t, hN, p1, e1, inB_nI (by omega) (by decide), gd_t, p2, e2, tN_nI (by omega)]
      by_cases q1 : ha' = h
      · rw [if_pos (by rw [q1])]
        by_cases q2 : sa = s
        · rw [if_pos (by rw [q2])]
          subst q1
          subst q2
          unfold J_X3_allSoIf_53
          rw [if_neg nm1, hB, gd_t, hN, p3, e3, iif_ev hI hha hs hd hna hw, Option.bind_some]
          refine fin _ ?_
          rw [fM_fW z w hs hd hna]
        · rw [if_neg (fun x => q2 ((nI_inj (by omega) (by omega)).mp x))]
          exact fin0 (fun x => q2 x.2)
      · rw [if_neg (fun x => q1 ((nI_inj (by omega) (by omega)).mp x))]
        exact fin0 (fun x => q1 x.1)
theorem allSo_ev {z : XS} (hI : Inv z) {h s d : Nat} {w : Int32} (hh : h + 1 < cN z) (hs : s < 2) (hd : d < 30) (hw : wB w) {r : Nat} (r1 : r ≤ 10) (r2 : gS z 2 4 0 = nI r) (r4 : ∀ k, k < r → (gA z 16 0 k = gA z 18 8 k ∧ gA z 16 1 k = gA z 18 9 k ∧ gA z 16 2 k = gA z 18 10 k ∧ gA z 16 3 k = gA z 18 11 k) ∧ (∃ h, h + 1 < cN z ∧ gA z 18 8 k = nI h) ∧ (∃ s, s < 2 ∧ gA z 18 9 k = nI s) ∧ ∃ n, n ≤ 30 ∧ gA z 18 10 k = nI n) : D_X3_allSoIf (nI h) (nI s) (nI d) w z = some (if soP (pA z 18 3 (hr h s d) w) r = true then 1 else 0, z) := allSo_L hI hh hs hd hw r1 r2 r4 64 0 (Nat.zero_le _) (by omega) rfl
def sdM (F : Nat → Bool) : Nat → Nat → Int32 → Int32
  | 0, _, y => y
  | m + 1, i, y => sdM F m (i + 1) (if F i = true then y ||| ((1 : Int32) <<< ((wI i + 3) &&& 31)) else y)
theorem saidC_L {z : XS} (hI : Inv z) {h s sd d : Nat} (x1 : Int32) (hh : h + 1 < cN z) (hs : s < 2) (hd : d < 30) (ho : ∀ z', D_X9_otherSide (nI sd) z' = some (nI s, z')) {r : Nat} (r1 : r ≤ 10) (r2 : gS z 2 4 0 = nI r) (r4 : ∀ k, k < r → (gA z 16 0 k = gA z 18 8 k ∧ gA z 16 1 k = gA z 18 9 k ∧ gA z 16 2 k = gA z 18 10 k ∧ gA z 16 3 k = gA z 18 11 k) ∧ (∃ h, h + 1 < cN z ∧ gA z 18 8 k = nI h) ∧ (∃ s, s < 2 ∧ gA z 18 9 k = nI s) ∧ ∃ n, n ≤ 30 ∧ gA z 18 10 k = nI n) : ∀ (m i : Nat) (y : Int32), i ≤ 7 → 7 - i < m → L_X9_said_58 x1 (nI sd) (nI d) m (nI h) y (wI i) z = some (sdM (fun j => soP (pA z 18 3 (hr h s d) (wI j)) r) (7 - i) i y, z) := by
  intro m
  induction m with
  | zero => intro i _ _ h; omega
  | succ m ih =>
    intro i y hi hm
    show B_X9_said_58 x1 (nI sd) (nI d) (L_X9_said_58 x1 (nI sd) (nI d) m) (nI h) y (wI i) z = _
    unfold B_X9_said_58
    by_cases e : i = 7
    · subst e
      rw [if_pos (by decide)]
      rfl
    · rw [if_neg (fun q => by have := (wI_3 i (by omega)).mp q; omega), ho, Option.bind_some, allSo_ev hI hh hs hd (wI_B (by omega)) r1 r2 r4, Option.bind_some, wI_s]
      rw [show 7 - i = (7 - (i + 1)) + 1 by omega]
      show _ = some (sdM (fun j => soP (pA z 18 3 (hr h s d) (wI j)) r) (7 - (i + 1)) (i + 1) (if soP (pA z 18 3 (hr h s d) (wI i)) r = true then y ||| ((1 : Int32) <<< ((wI i + 3) &&& 31)) else y), z)
      rw [← ih (i + 1) _ (by omega) (by omega)]
      by_cases q : soP (pA z 18 3 (hr h s d) (wI i)) r = true
      · rw [if_pos q, if_neg nm1, if_pos q]
      · rw [if_neg q, if_pos nm2, if_neg q]
theorem saidM_L {z : XS} {h s d : Nat} (x1 x2 x3 : Int32) (hh : h < 6) (hs : s < 2) (hd : d < 30) {r : Nat} (ho : rOK z r) : ∀ (m i : Nat) (y v : Int32), i ≤ 7 → 7 - i < m → L_X10_said_65 x1 x2 x3 m (nI (hr h s d)) (wd z h s d) y (wI i) (pA z 18 3 (hr h s d) v) = some (sdM (fun j => soP (pA z 18 3 (hr h s d) (wI j)) r) (7 - i) i y, z) := by
  have hlt := hr_lt (h := h) (s := s) (d := d) hh hd
  intro m
  induction m with
  | zero => intro i _ _ _ h; omega
  | succ m ih =>
    intro i y v hi hm
    show B_X10_said_65 x1 x2 x3 (L_X10_said_65 x1 x2 x3 m) (nI (hr h s d)) (wd z h s d) y (wI i) (pA z 18 3 (hr h s d) v) = _
    unfold B_X10_said_65
    rw [inB_nI hlt (by decide), gd_t, gd_t, Option.bind_some, Option.bind_some, tN_nI (by omega), pA_pA, pA_pA]
    by_cases e : i = 7
    · subst e
      rw [if_pos (by decide)]
      show some (y, pA z 18 3 (hr h s d) (gA z 18 3 (hr h s d))) = _
      rw [pA_self]
      rfl
    · have ho' : rOK (pA z 18 3 (hr h s d) (wI i)) r := ho
      rw [if_neg (fun q => by have := (wI_4 i (by omega)).mp q; omega), areSo_ev ho', Option.bind_some, wI_s, Int32.add_comm 3 (wI i)]
      rw [show 7 - i = (7 - (i + 1)) + 1 by omega]
      show _ = some (sdM (fun j => soP (pA z 18 3 (hr h s d) (wI j)) r) (7 - (i + 1)) (i + 1) (if soP (pA z 18 3 (hr h s d) (wI i)) r = true then y ||| ((1 : Int32) <<< ((wI i + 3) &&& 31)) else y), z)
      rw [← ih (i + 1) _ (wI i) (by omega) (by omega)]
      by_cases q : soP (pA z 18 3 (hr h s d) (wI i)) r = true
      · rw [if_pos q, if_neg nm1, if_pos q]
      · rw [if_neg q, if_pos nm2, if_neg q, Int32.or_zero]
theorem eq_said (z : XS) (hI : Inv z) (x1 x2 x3 : Int32) : ∃ (r : Int32) (z1 z2 : XS), D_X9_said x1 x2 x3 z = some (r, z1) ∧ D_X10_said x1 x2 x3 z1 = some (r, z2) ∧ Inv z2 := by
  obtain ⟨⟨c1, c2, c3, c4⟩, -⟩ := id hI
  obtain ⟨r, r1, r2, r3, r4⟩ := hI.2.2.2.2.2.2.1
  have ho : rOK z r := ⟨r1, r3, fun k hk => by
    obtain ⟨-, ⟨h, hh, e1⟩, ⟨s, hs, e2⟩, n, hn, e3⟩ := r4 k hk
    exact ⟨h, s, n, by omega, hs, hn, e1, e2, e3⟩⟩
  unfold D_X9_said D_X10_said
  rw [garden_ev c1 c3, Option.bind_some]
  by_cases h : 0 ≤ x1.toInt ∧ x1.toInt < (cN z : Int)
  · rw [if_pos h, if_neg nm1, side_ev, Option.bind_some]
    by_cases h2 : 0 ≤ x2.toInt ∧ x2.toInt ≤ 1
    · rw [if_pos h2, if_neg nm1, day_ev, Option.bind_some]
      by_cases h3 : 0 ≤ x3.toInt ∧ x3.toInt ≤ 29
      · rw [if_pos h3, if_neg nm1]
        obtain ⟨g, hg, rfl⟩ := garden_n h
        obtain ⟨s, hs, rfl⟩ := num_of (m := 1) h2
        obtain ⟨d, hd, rfl⟩ := num_of (m := 29) h3
        rw [hb9_ev, Option.bind_some]
        have core : ∀ (hh ss : Nat), hh + 1 < cN z → ss < 2 → 60 * g + 30 * s + d = hr hh ss d → (∀ z', D_X9_otherSide (nI s) z' = some (nI ss, z')) → L_X9_said_58 (nI g) (nI s) (nI d) 64 (nI hh) 0 (-3) z = some (sdM (fun j => soP (pA z 18 3 (hr hh ss d) (wI j)) r) 7 0 0, z) ∧ ((D_X10_placeOf (nI g) (nI s) (nI d) z).bind fun q10 => (gd (inB q10.1 420) (L_X10_said_65 (nI g) (nI s) (nI d) 64 q10.1 (gA q10.2 18 3 q10.1.toNatClampNeg) (0 : Int32) (-3 : Int32) q10.2))) = some (sdM (fun j => soP (pA z 18 3 (hr hh ss d) (wI j)) r) 7 0 0, z) := by
          intro hh ss h1 hss ep ho2
          have hlt := hr_lt (h := hh) (s := ss) (d := d) (by omega) (by omega)
          refine ⟨?_, ?_⟩
          · exact saidC_L hI (nI g) h1 hss (by omega) ho2 r1 r2 r4 64 0 0 (by omega) (by omega)
          · rw [place_ev, Option.bind_some, ep, inB_nI hlt (by decide), gd_t, tN_nI (by omega)]
            have k := saidM_L (z := z) (h := hh) (s := ss) (d := d) (nI g) (nI s) (nI d) (by omega) hss (by omega) ho 64 0 0 (gA z 18 3 (hr hh ss d)) (by omega) (by omega)
            rw [pA_self] at k
            exact k
        by_cases es : s = 0
        · subst es
          rw [if_pos (show nI 0 = 0 from rfl), isH_l c1 c3 hg, Option.bind_some]
          by_cases e : 1 ≤ g
          · rw [if_pos e, if_neg nm1]
            obtain ⟨A, B⟩ := core (g - 1) 1 (by omega) (by decide) (by unfold hr; rw [if_neg (by decide)]; omega) (fun _ => rfl)
            refine ⟨sdM (fun j => soP (pA z 18 3 (hr (g - 1) 1 d) (wI j)) r) 7 0 0, z, z, ?_, ?_, hI⟩
            · rw [show (nI g - 1, z).1 = nI (g - 1) from nI_sub (b := 1) e]
              exact A
            · rw [mgarden_ev c4 c3, Option.bind_some, if_pos h, if_pos nm2, mside_ev, Option.bind_some, if_pos h2, if_neg nm1, mday_ev, Option.bind_some, if_pos h3, if_neg nm1, hb_ev, Option.bind_some, if_pos (show nI 0 = 0 from rfl), noh_l c4 c3 hg, Option.bind_some, if_pos e, if_pos nm2]
              exact B
          · rw [if_neg e, if_pos nm2]
            refine ⟨-1, z, z, rfl, ?_, hI⟩
            rw [mgarden_ev c4 c3, Option.bind_some, if_pos h, if_pos nm2, mside_ev, Option.bind_some, if_pos h2, if_neg nm1, mday_ev, Option.bind_some, if_pos h3, if_neg nm1, hb_ev, Option.bind_some, if_pos (show nI 0 = 0 from rfl), noh_l c4 c3 hg, Option.bind_some, if_neg e, if_neg nm1]
        · have es1 : s = 1 := by omega
          subst es1
          rw [if_neg (show ¬ nI 1 = 0 by decide), isH_r c1 c3 (by omega), Option.bind_some]
          by_cases e : g + 1 < cN z
          · rw [if_pos e, if_neg nm1]
            obtain ⟨A, B⟩ := core g 0 e (by decide) (by unfold hr; rw [if_pos rfl]) (fun _ => rfl)
            refine ⟨_, z, z, A, ?_, hI⟩
            rw [mgarden_ev c4 c3, Option.bind_some, if_pos h, if_pos nm2, mside_ev, Option.bind_some, if_pos h2, if_neg nm1, mday_ev, Option.bind_some, if_pos h3, if_neg nm1, hb_ev, Option.bind_some, if_neg (show ¬ nI 1 = 0 by decide), noh_r c4 c3 (by omega), Option.bind_some, if_pos e, if_pos nm2]
            exact B
          · rw [if_neg e, if_pos nm2]
            refine ⟨-1, z, z, rfl, ?_, hI⟩
            rw [mgarden_ev c4 c3, Option.bind_some, if_pos h, if_pos nm2, mside_ev, Option.bind_some, if_pos h2, if_neg nm1, mday_ev, Option.bind_some, if_pos h3, if_neg nm1, hb_ev, Option.bind_some, if_neg (show ¬ nI 1 = 0 by decide), noh_r c4 c3 (by omega), Option.bind_some, if_neg e, if_neg nm1]
      · rw [if_neg h3, if_pos nm2]
        refine ⟨-2, z, z, rfl, ?_, hI⟩
        rw [mgarden_ev c4 c3, Option.bind_some, if_pos h, if_pos nm2, mside_ev, Option.bind_some, if_pos h2, if_neg nm1, mday_ev, Option.bind_some, if_neg h3, if_pos nm2]
    · rw [if_neg h2, if_pos nm2]
      refine ⟨-2, z, z, rfl, ?_, hI⟩
      rw [mgarden_ev c4 c3, Option.bind_some, if_pos h, if_pos nm2, mside_ev, Option.bind_some, if_neg h2, if_pos nm2]
  · rw [if_neg h, if_pos nm2]
    refine ⟨-1, z, z, rfl, ?_, hI⟩
    rw [mgarden_ev c4 c3, Option.bind_some, if_neg h, if_neg nm1]
