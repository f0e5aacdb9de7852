/-! bounds; goats, round, fines -/
theorem n12' : (12 : Int32) = nI 12 := rfl
theorem bM_n (x : Int32) : ∃ a, a ≤ 240 ∧ bM x = nI a := by
  unfold bM
  by_cases h1 : 0 ≤ x
  · rw [if_pos h1]
    by_cases h2 : x ≤ 240
    · rw [if_pos h2]
      have a1 := (i_le 0 x).mp h1
      have a2 := (i_le x 240).mp h2
      exact num_of (m := 240) ⟨a1, a2⟩
    · rw [if_neg h2]
      exact ⟨240, Nat.le_refl _, rfl⟩
  · rw [if_neg h1]
    exact ⟨0, by decide, rfl⟩
theorem dM_n {k c b w : Int32} (hc : cB c) : ∃ a, a ≤ 240 ∧ dM k c b w = nI a := by
  unfold dM
  obtain ⟨a, ha, ea⟩ := bM_n (b + gM k w)
  rcases hc with rfl | hc
  · rw [if_pos (by decide)]
    exact ⟨a, ha, ea⟩
  · obtain ⟨q, hq, rfl⟩ := num_of (m := 20) hc
    rw [if_neg (nI_nneg (by omega)), n12', pk_mul]
    by_cases h : nI (12 * q) ≤ bM (b + gM k w)
    · rw [if_pos h]
      exact ⟨12 * q, by omega, rfl⟩
    · rw [if_neg h]
      exact ⟨a, ha, ea⟩
theorem fM_n {z : XS} (hI : Inv z) {h s n : Nat} (hh : h + 1 < cN z) (hn : n ≤ 30) : ∃ a, a ≤ 240 ∧ fM z h s n = nI a := by
  cases n with
  | zero =>
    obtain ⟨k1, k2, k3, v, hv, k4⟩ := hI.2.2.1 h hh
    refine ⟨12 * v, by omega, ?_⟩
    show 12 * gA z 18 2 h = _
    rw [k4, n12', pk_mul]
  | succ n => exact dM_n (hI.2.2.2.2.1 h hh n (by omega)).2
theorem mn_n {a b : Nat} (ha : a ≤ 1000) (hb : b ≤ 1000) : mn (nI a) (nI b) = nI (min a b) := by
  unfold mn
  by_cases h : b ≤ a
  · rw [if_pos ((nI_lt' (by omega) (by omega)).mpr h), Nat.min_eq_right h]
  · rw [if_neg (fun q => h ((nI_lt' (by omega) (by omega)).mp q)), Nat.min_eq_left (by omega)]
theorem hM_n {z : XS} (hI : Inv z) {h n : Nat} (hh : h + 1 < cN z) (hn : n ≤ 30) : ∃ a, a ≤ 240 ∧ hM z h n = nI a := by
  obtain ⟨a, ha, ea⟩ := fM_n hI (s := 0) hh hn
  obtain ⟨b, hb, eb⟩ := fM_n hI (s := 1) hh hn
  refine ⟨min a b, by omega, ?_⟩
  unfold hM
  rw [ea, eb, mn_n (by omega) (by omega)]
-- goats
def gsv (r a : Nat) : Int32 := nI (2 ^ (min a (r + 1)) - 1)
theorem gsv_s : ∀ r, r < 7 → ∀ a, a < 7 → gsv r (a + 1) = (if a ≤ r then gsv r a ||| ((1 : Int32) <<< (nI a &&& 31)) else gsv r a ||| 0) := by decide
theorem gsv_e : ∀ r, r < 7 → ∀ c, c < 8 → r < c → gsv r c = ((2 : Int32) <<< (nI r &&& 31)) - 1 := by decide
theorem goats_L {z : XS} {c r n : Nat} (hc : gS z 17 1 0 = nI c) (h7 : c ≤ 7) (hn : n ≤ 30) (hr : r < c) (hg : ∀ g, g < c → (g ≤ r ↔ gts (fun h => hM z h n) g)) : ∀ (m a : Nat), a ≤ c → c - a < m → L_X10_goats_24 (nI n) m (gsv r a) (nI a) z = some (gsv r c, z) := by
  intro m
  induction m with
  | zero => intro a _ h; omega
  | succ m ih =>
    intro a ha hm
    show B_X10_goats_24 (nI n) (L_X10_goats_24 (nI n) m) (gsv r a) (nI a) z = _
    unfold B_X10_goats_24
    rw [hc]
    by_cases e : a = c
    · subst e
      rw [if_pos ((nI_lt' (by omega) (by omega)).mpr (Nat.le_refl _))]
    · rw [if_neg (fun q => by have := (nI_lt' (by omega) (by omega)).mp q; omega), come_ev (by omega) hn, Option.bind_some, nI_1]
      have ih' := ih (a + 1) (by omega) (by omega)
      rw [gsv_s r (by omega) a (by omega)] at ih'
      have k := hg a (by omega)
      by_cases t : a ≤ r
      · rw [if_pos t] at ih'
        rw [if_pos (k.mp t), if_neg nm1]
        exact ih'
      · rw [if_neg t] at ih'
        rw [if_neg (fun q => t (k.mpr q)), if_pos nm2]
        exact ih'
theorem cN0 {z : XS} (hI : Inv z) : gS z 1 2 0 = 0 ↔ cN z = 0 := by
  rw [hI.1.1, n0', nI_inj (by have := hI.1.2.2.1; omega) (by decide)]
theorem cN0' {z : XS} (hI : Inv z) : gS z 17 1 0 = 0 ↔ cN z = 0 := by
  rw [hI.1.2.2.2, n0', nI_inj (by have := hI.1.2.2.1; omega) (by decide)]
theorem eq_goats (z : XS) (hI : Inv z) (x1 : Int32) : ∃ (r : Int32) (z1 z2 : XS), D_X9_goats x1 z = some (r, z1) ∧ D_X10_goats x1 z1 = some (r, z2) ∧ Inv z2 := by
  obtain ⟨⟨c1, c2, c3, c4⟩, -⟩ := id hI
  unfold D_X9_goats D_X10_goats
  rw [dawn_ev, Option.bind_some]
  by_cases h2 : 0 ≤ x1.toInt ∧ x1.toInt ≤ 30
  · rw [if_pos h2, if_neg nm1]
    by_cases h0 : cN z = 0
    · refine ⟨-3, z, z, ?_, ?_, hI⟩
      · rw [if_pos ((cN0 hI).mpr h0)]
      · rw [mdawn_ev, Option.bind_some, if_pos h2, if_neg nm1, if_pos ((cN0' hI).mpr h0)]
    · obtain ⟨n, hn, rfl⟩ := num_of (m := 30) h2
      obtain ⟨r, q1, q2, q3⟩ := reach_ev c1 (by omega) c3 hn (-1) 0
      refine ⟨gsv r (cN z), z, z, ?_, ?_, hI⟩
      · rw [if_neg (fun q => h0 ((cN0 hI).mp q)), q1, Option.bind_some, gsv_e r (by omega) (cN z) (by omega) (by omega)]
      · rw [mdawn_ev, Option.bind_some, if_pos h2, if_neg nm1, if_neg (fun q => h0 ((cN0' hI).mp q))]
        exact goats_L c4 c3 hn (by omega) (fun g hg => (q3 g hg).trans (gts_congr g (fun h hh => hX_no hI hn 0 (by omega)))) 64 0 (Nat.zero_le _) (by omega)
  · rw [if_neg h2, if_pos nm2]
    refine ⟨-2, z, z, rfl, ?_, hI⟩
    rw [mdawn_ev, Option.bind_some, if_neg h2, if_pos nm2]
-- round
def rd (S : Nat → Int32) : Nat → Nat → Int32 → Int32 → Int32
  | 0, _, y3, y4 => y3 + y4
  | m + 1, a, y3, y4 => rd S m (a + 1) (if S a ≤ 0 then y3 else nI a) (y4 + (S a + 11) / 12)
def ab (f t : Int32) : Int32 := if f ≤ t then 0 else f - t
theorem above_ev (f t : Int32) (z : XS) : D_X10_above f t z = some (ab f t, z) := by
  unfold D_X10_above ab
  by_cases h : f ≤ t
  · rw [if_pos h, if_pos h]
  · rw [if_neg h, if_neg h]
def rS (z : XS) (n : Nat) (x : Int32) : Nat → Int32 := fun h => ab (fM z h 0 n) (12 * x) + ab (fM z h 1 n) (12 * x)
theorem roundM_L {z : XS} {c n : Nat} (x : Int32) (hc : gS z 17 1 0 = nI c) (h7 : c ≤ 7) (hn : n ≤ 30) : ∀ (m a : Nat) (y3 y4 : Int32), a ≤ c - 1 → c - 1 - a < m → L_X10_round_35 (nI n) x m y3 y4 (nI a) z = some (rd (rS z n x) (c - 1 - a) a y3 y4, z) := by
  intro m
  induction m with
  | zero => intro a _ _ _ h; omega
  | succ m ih =>
    intro a y3 y4 ha hm
    show B_X10_round_35 (nI n) x (L_X10_round_35 (nI n) x m) y3 y4 (nI a) z = _
    unfold B_X10_round_35
    rw [mhedges_ev hc h7, Option.bind_some]
    by_cases e : a = c - 1
    · subst e
      rw [if_pos ((nI_lt' (by omega) (by omega)).mpr (Nat.le_refl _)), Nat.sub_self]
      rfl
    · rw [if_neg (fun q => by have := (nI_lt' (by omega) (by omega)).mp q; omega), n0', face_ev z (by omega) (by decide) hn, Option.bind_some, above_ev, Option.bind_some, n1', face_ev z (by omega) (by decide) hn, Option.bind_some, above_ev, Option.bind_some]
      unfold J_X10_round_88
      rw [show c - 1 - a = (c - 1 - (a + 1)) + 1 by omega]
      show _ = some (rd (rS z n x) (c - 1 - (a + 1)) (a + 1) (if rS z n x a ≤ 0 then y3 else nI a) (y4 + (rS z n x a + 11) / 12), z)
      rw [← ih (a + 1) _ _ (by omega) (by omega), nI_1]
      by_cases t : rS z n x a ≤ 0
      · rw [if_pos t]
        exact if_pos t
      · rw [if_neg t]
        exact if_neg t
theorem ab_n {a b : Nat} (ha : a ≤ 1000) (hb : b ≤ 1000) : ab (nI a) (nI b) = nI (a - b) := by
  unfold ab
  by_cases h : a ≤ b
  · rw [if_pos ((nI_lt' (by omega) (by omega)).mpr h), show a - b = 0 by omega]
    rfl
  · rw [if_neg (fun q => h ((nI_lt' (by omega) (by omega)).mp q)), nI_sub (by omega)]
theorem absub {a b : Nat} (ha : a ≤ 1000) (hb : b ≤ 1000) : (if (0 : Int32) < nI a - nI b then nI a - nI b else 0) = nI (a - b) := by
  by_cases h : b ≤ a
  · rw [nI_sub h]
    by_cases e : a - b = 0
    · rw [e]; rfl
    · rw [if_pos (by rw [n0']; exact (nI_lt'' (by omega) (by omega)).mpr (by omega))]
  · have es : (nI a - nI b).toInt = (a : Int) - b := by
      rw [i_sub (by rw [nI_i (by omega), nI_i (by omega)]; omega) (by rw [nI_i (by omega), nI_i (by omega)]; omega), nI_i (by omega), nI_i (by omega)]
    rw [if_neg (fun q => by have := (i_lt _ _).mp q; rw [es, show (0 : Int32).toInt = 0 from rfl] at this; omega), show a - b = 0 by omega]
    rfl
theorem clipmin {z : XS} (hI : Inv z) {h n : Nat} (hh : h + 1 < cN z) (hn : n ≤ 30) {x : Nat} (hx : x ≤ 20) : ∃ k, k ≤ 480 ∧ rS z n (nI x) h = nI k ∧ D_X0_clippingMinutes h (nI n) (nI x) z = some (nI ((k + 11) / 12), z) := by
  obtain ⟨a, ha, ea⟩ := fM_n hI (s := 0) hh hn
  obtain ⟨b, hb, eb⟩ := fM_n hI (s := 1) hh hn
  have ia := inc_of hI (s := 0) hh (by decide) hn
  have ib := inc_of hI (s := 1) hh (by decide) hn
  refine ⟨(a - 12 * x) + (b - 12 * x), by omega, ?_, ?_⟩
  · unfold rS
    rw [ea, eb, n12', pk_mul, ab_n (by omega) (by omega), ab_n (by omega) (by omega), nI_add]
  · unfold D_X0_clippingMinutes D_X0_inchesAbove
    have eB : inB (nI n) 31 = true := inB_nI (by omega) (by decide)
    rw [eB, show inB (0 : Int32) 2 = true from rfl, gd_t, gd_t, zero_c, tN_nI (by omega), ia, ea, Option.bind_some, show inB (1 : Int32) 2 = true from rfl, gd_t, gd_t, one_c, ib, eb, Option.bind_some, n12', pk_mul, absub (by omega) (by omega), absub (by omega) (by omega), nI_add, nI_add, show ∀ t, nI t - 1 = nI t - nI 1 from fun _ => rfl, nI_sub (by omega), pk_div (by omega) (by decide) (by decide)]
    rw [show a - 12 * x + (b - 12 * x) + 12 - 1 = a - 12 * x + (b - 12 * x) + 11 by omega]
theorem roundC_L {z : XS} (hI : Inv z) {n x : Nat} (hn : n ≤ 30) (hx : x ≤ 20) (h0 : 1 ≤ cN z) : ∀ (m a : Nat) (y3 y4 : Int32), a ≤ cN z - 1 → cN z - 1 - a < m → L_X4_roundMinutes_8 (nI n) (nI x) m y3 y4 (nI a) z = some (rd (rS z n (nI x)) (cN z - 1 - a) a y3 y4, z) := by
  have c1 := hI.1.1
  have c3 := hI.1.2.2.1
  intro m
  induction m with
  | zero => intro a _ _ _ h; omega
  | succ m ih =>
    intro a y3 y4 ha hm
    show B_X4_roundMinutes_8 (nI n) (nI x) (L_X4_roundMinutes_8 (nI n) (nI x) m) y3 y4 (nI a) z = _
    unfold B_X4_roundMinutes_8
    rw [c1, show nI (cN z) - 1 = nI (cN z - 1) from nI_sub (b := 1) h0]
    by_cases e : a = cN z - 1
    · subst e
      rw [if_pos ((nI_lt' (by omega) (by omega)).mpr (Nat.le_refl _)), Nat.sub_self]
      rfl
    · obtain ⟨k, hk, ek, ec⟩ := clipmin hI (h := a) (by omega) hn hx
      rw [if_neg (fun q => by have := (nI_lt' (by omega) (by omega)).mp q; omega), inB_nI (by omega) (by decide), gd_t, tN_nI (by omega), ec, Option.bind_some, nI_1]
      rw [show cN z - 1 - a = (cN z - 1 - (a + 1)) + 1 by omega]
      show _ = some (rd (rS z n (nI x)) (cN z - 1 - (a + 1)) (a + 1) (if rS z n (nI x) a ≤ 0 then y3 else nI a) (y4 + (rS z n (nI x) a + 11) / 12), z)
      rw [← ih (a + 1) _ _ (by omega) (by omega), ek, show nI k + 11 = nI (k + 11) from nI_add k 11, show nI (k + 11) / 12 = nI ((k + 11) / 12) from pk_div (by omega) (by decide) (by decide)]
      by_cases t : k = 0
      · subst t
        rw [if_pos (show nI 0 ≤ 0 by decide)]
        rfl
      · rw [if_neg (show ¬ nI k ≤ 0 from fun q => by have := (nI_lt' (b := 0) (by omega) (by omega)).mp q; omega)]
        exact if_neg (fun q => by have := (nI_lt' (b := 0) (by omega) (by omega)).mp q; omega)
theorem eq_round (z : XS) (hI : Inv z) (x1 x2 : Int32) : ∃ (r : Int32) (z1 z2 : XS), D_X9_round x1 x2 z = some (r, z1) ∧ D_X10_round x1 x2 z1 = some (r, z2) ∧ Inv z2 := by
  obtain ⟨⟨c1, c2, c3, c4⟩, -⟩ := id hI
  unfold D_X9_round D_X10_round
  rw [dawn_ev, Option.bind_some]
  by_cases h2 : 0 ≤ x1.toInt ∧ x1.toInt ≤ 30
  · rw [if_pos h2, if_neg nm1, feet_ev, Option.bind_some]
    by_cases h3 : 0 ≤ x2.toInt ∧ x2.toInt ≤ 20
    · rw [if_pos h3, if_neg nm1]
      by_cases h0 : cN z = 0
      · refine ⟨-3, z, z, ?_, ?_, hI⟩
        · rw [if_pos ((cN0 hI).mpr h0)]
        · rw [mdawn_ev, Option.bind_some, if_pos h2, if_neg nm1, mfeet_ev, Option.bind_some, if_pos h3, if_neg nm1, if_pos ((cN0' hI).mpr h0)]
      · obtain ⟨n, hn, rfl⟩ := num_of (m := 30) h2
        obtain ⟨x, hx, rfl⟩ := num_of (m := 20) h3
        refine ⟨rd (rS z n (nI x)) (cN z - 1 - 0) 0 0 0, z, z, ?_, ?_, hI⟩
        · unfold D_X4_roundMinutes
          rw [if_neg (fun q => h0 ((cN0 hI).mp q))]
          have := roundC_L hI hn hx (by omega) 64 0 0 0 (Nat.zero_le _) (by omega)
          rw [show L_X4_roundMinutes_8 (nI n) (nI x) 64 0 0 0 z = _ from this, Option.bind_some]
        · rw [mdawn_ev, Option.bind_some, if_pos h2, if_neg nm1, mfeet_ev, Option.bind_some, if_pos h3, if_neg nm1, if_neg (fun q => h0 ((cN0' hI).mp q))]
          exact roundM_L (nI x) c4 c3 hn 64 0 0 0 (Nat.zero_le _) (by omega)
    · rw [if_neg h3, if_pos nm2]
      refine ⟨-2, z, z, rfl, ?_, hI⟩
      rw [mdawn_ev, Option.bind_some, if_pos h2, if_neg nm1, mfeet_ev, Option.bind_some, if_neg h3, if_pos nm2]
  · rw [if_neg h2, if_pos nm2]
    refine ⟨-2, z, z, rfl, ?_, hI⟩
    rw [mdawn_ev, Option.bind_some, if_neg h2, if_pos nm2]
