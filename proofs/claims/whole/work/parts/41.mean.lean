/-! the mean -/
def lI (n : Nat) : Int64 := (nI n).toInt64
theorem lI_i {n : Nat} (h : n ≤ 1000000) : (lI n).toInt = (n : Int) := by
  unfold lI
  rw [wide, nI_i h]
theorem lI_div {a b : Nat} (ha : a ≤ 1000000) (hb : b ≤ 1000000) : lI a / lI b = lI (a / b) := by
  have h1 : a / b ≤ a := Nat.div_le_self a b
  apply (l_eq _ _).mpr
  have e1 : ((a : Int).tdiv (b : Int)) = ((a / b : Nat) : Int) := by
    rw [Int.tdiv_eq_ediv_of_nonneg (by omega)]
    exact (Int.natCast_ediv a b).symm
  rw [Int64.toInt_div, lI_i ha, lI_i hb, e1]
  generalize a / b = q at *
  rw [lI_i (by omega), Int.bmod_eq_of_le (by omega) (by omega)]
theorem lI_mod {a b : Nat} (ha : a ≤ 1000000) (hb : b ≤ 1000000) : lI a - lI a / lI b * lI b = lI (a % b) := by
  have h1 : a / b ≤ a := Nat.div_le_self a b
  have h2 := Nat.div_add_mod a b
  have h3 : a / b * b = b * (a / b) := Nat.mul_comm _ _
  have h4 : ((a / b : Nat) : Int) * (b : Int) = ((a / b * b : Nat) : Int) := by rw [Int.natCast_mul]
  rw [lI_div ha hb]
  apply (l_eq _ _).mpr
  rw [Int64.toInt_sub, Int64.toInt_mul, lI_i ha, lI_i hb, lI_i (n := a / b) (by omega), h4, lI_i (n := a % b) (by omega), Int.bmod_eq_of_le (n := ((a / b * b : Nat) : Int)) (by omega) (by omega), Int.bmod_eq_of_le (by omega) (by omega)]
  omega
theorem nI_mod {a b : Nat} (ha : a ≤ 1000000) (h0 : 0 < b) (hb : b ≤ 1000000) : nI a - nI a / nI b * nI b = nI (a % b) := by
  have h1 := Nat.div_add_mod a b
  have h2 : a / b * b = b * (a / b) := Nat.mul_comm _ _
  rw [pk_div (by omega) h0 (by omega), pk_mul, nI_sub (by omega)]
  congr 1
  omega
theorem nzL_lI {a : Nat} (h : a ≤ 1000000) (h0 : 0 < a) : nzL (lI a) = true := by
  unfold nzL
  rw [decide_eq_true_eq]
  intro q
  have e := (l_eq _ _).mp q
  rw [lI_i h, show (0 : Int64).toInt = 0 from rfl] at e
  omega
theorem nzI_nI {a : Nat} (h : a ≤ 1000000) (h0 : 0 < a) : nzI (nI a) = true := by
  unfold nzI
  rw [decide_eq_true_eq]
  intro q
  have e := (i_eq _ _).mp q
  rw [nI_i h, show (0 : Int32).toInt = 0 from rfl] at e
  omega
theorem told_L (U D : Int64) (w : Int32) (z : XS) : ∀ (m a b : Nat), b < m → a ≤ 1000000 → b ≤ 1000000 → 0 < a + b → L_X10_told_6 U D w m (lI a) (lI b) z = some (if w = 0 then U / lI (Nat.gcd a b) else D / lI (Nat.gcd a b), z) := by
  intro m
  induction m with
  | zero => intro a b h; omega
  | succ m ih =>
    intro a b hm ha hb h0
    show B_X10_told_6 U D w (L_X10_told_6 U D w m) (lI a) (lI b) z = _
    unfold B_X10_told_6
    by_cases e : b = 0
    · subst e
      rw [if_pos (show lg_cmp (lI 0) 0 = 0 by decide), nzL_lI ha (by omega), gd_t, gd_t, Nat.gcd_zero_right]
      by_cases q : w = 0
      · rw [if_pos q, if_pos q]
      · rw [if_neg q, if_neg q]
    · have hlt : a % b < b := Nat.mod_lt _ (by omega)
      rw [if_neg (fun q => by
        have q1 := (lg_eq _ _).mp q
        have q2 := (l_eq _ _).mp q1
        rw [lI_i hb, show (0 : Int64).toInt = 0 from rfl] at q2
        omega), nzL_lI hb (by omega), gd_t, lI_mod ha hb, ih b (a % b) (by omega) hb (by omega) (by omega)]
      have eg : Nat.gcd b (a % b) = Nat.gcd a b := by
        rw [Nat.gcd_comm a b, Nat.gcd_rec b a, Nat.gcd_comm]
      rw [eg]
theorem cd_L {u l : Nat} (hu : u ≤ 1000000) (hl : l ≤ 60) (h0 : 0 < l) (z : XS) : ∀ (m d : Nat), Nat.gcd u l ≤ d → d ≤ l → d < m → L_X9_commonDivisor_2 (nI u) (nI l) m (nI d) z = some (nI (Nat.gcd u l), z) := by
  have hp : 0 < Nat.gcd u l := Nat.gcd_pos_of_pos_right u h0
  intro m
  induction m with
  | zero => intro d _ _ h; omega
  | succ m ih =>
    intro d hd hd2 hm
    show B_X9_commonDivisor_2 (nI u) (nI l) (L_X9_commonDivisor_2 (nI u) (nI l) m) (nI d) z = _
    unfold B_X9_commonDivisor_2
    by_cases e : d ≤ 1
    · rw [if_pos (show nI d ≤ 1 from (nI_lt' (b := 1) (by omega) (by omega)).mpr e), show Nat.gcd u l = 1 by omega]
      rfl
    · have next : ¬ (u % d = 0 ∧ l % d = 0) → L_X9_commonDivisor_2 (nI u) (nI l) m (nI d + (-1)) z = some (nI (Nat.gcd u l), z) := by
        intro hnd
        have hne : ¬ Nat.gcd u l = d := by
          intro q
          have d1 := Nat.gcd_dvd_left u l
          have d2 := Nat.gcd_dvd_right u l
          rw [q] at d1 d2
          exact hnd ⟨Nat.mod_eq_zero_of_dvd d1, Nat.mod_eq_zero_of_dvd d2⟩
        have ed : nI d + (-1) = nI (d - 1) := by
          rw [← Int32.sub_eq_add_neg]
          exact nI_sub (b := 1) (by omega)
        rw [ed]
        exact ih (d - 1) (by omega) (by omega) (by omega)
      have m1 : u % d < d := Nat.mod_lt _ (by omega)
      have m2 : l % d < d := Nat.mod_lt _ (by omega)
      rw [if_neg (fun q => by have := (nI_lt' (b := 1) (by omega) (by omega)).mp q; omega), nzI_nI (by omega) (by omega), gd_t, gd_t, nI_mod hu (by omega) (by omega), nI_mod (by omega) (by omega) (by omega)]
      by_cases q1 : u % d = 0
      · rw [if_pos (by rw [q1]; rfl)]
        by_cases q2 : l % d = 0
        · rw [if_pos (by rw [q2]; rfl)]
          have dd : d ∣ Nat.gcd u l := Nat.dvd_gcd (Nat.dvd_of_mod_eq_zero q1) (Nat.dvd_of_mod_eq_zero q2)
          have := Nat.le_of_dvd hp dd
          rw [show Nat.gcd u l = d by omega]
        · rw [if_neg (show ¬ nI (l % d) = 0 from fun q => q2 ((nI_inj (b := 0) (by omega) (by omega)).mp q))]
          exact next (fun x => q2 x.2)
      · rw [if_neg (show ¬ nI (u % d) = 0 from fun q => q1 ((nI_inj (b := 0) (by omega) (by omega)).mp q))]
        exact next (fun x => q1 x.1)
theorem hts_L {z : XS} (hI : Inv z) {n : Nat} (hn : n ≤ 30) (h0 : 1 ≤ cN z) : ∀ (m a : Nat) (y : Int32), a ≤ cN z - 1 → cN z - 1 - a < m → L_X4_heightsTogether_4 (nI n) m y (nI a) z = some (y + sm (fun h => hM z h n) (cN z - 1 - a) a, z) := by
  have c1 := hI.1.1
  have c3 := hI.1.2.2.1
  intro m
  induction m with
  | zero => intro a _ _ h; omega
  | succ m ih =>
    intro a y ha hm
    show B_X4_heightsTogether_4 (nI n) (L_X4_heightsTogether_4 (nI n) m) y (nI a) z = _
    unfold B_X4_heightsTogether_4
    rw [c1, show nI (cN z) - 1 = nI (cN z - 1) from nI_sub (b := 1) h0]
    by_cases e : a = cN z - 1
    · subst e
      rw [if_pos ((nI_lt' (by omega) (by omega)).mpr (Nat.le_refl _)), Nat.sub_self]
      show some (y, z) = some (y + 0, z)
      rw [Int32.add_zero]
    · rw [if_neg (fun q => by have := (nI_lt' (by omega) (by omega)).mp q; omega), inB_nI (by omega) (by decide), gd_t, tN_nI (by omega), heightC_ev z hn, Option.bind_some, hC_of hI (by omega) hn, nI_1, ih (a + 1) _ (by omega) (by omega)]
      rw [show cN z - 1 - a = (cN z - 1 - (a + 1)) + 1 by omega]
      show _ = some (y + (hM z a n + sm (fun h => hM z h n) (cN z - 1 - (a + 1)) (a + 1)), z)
      rw [← Int32.add_assoc]
theorem meanM_L {z : XS} {c n : Nat} (x : Int32) (hc : gS z 17 1 0 = nI c) (h7 : c ≤ 7) (hn : n ≤ 30) : ∀ (m a : Nat) (y : Int32), a ≤ c - 1 → c - 1 - a < m → L_X10_mean_33 (nI n) x m y (nI a) z = D_X10_told (y + sm (fun h => hM z h n) (c - 1 - a) a).toInt64 (lI (c - 1)) x z := by
  intro m
  induction m with
  | zero => intro a _ _ h; omega
  | succ m ih =>
    intro a y ha hm
    show B_X10_mean_33 (nI n) x (L_X10_mean_33 (nI n) x m) y (nI a) z = _
    unfold B_X10_mean_33
    rw [mhedges_ev hc h7, Option.bind_some]
    by_cases e : a = c - 1
    · subst e
      rw [if_pos ((nI_lt' (by omega) (by omega)).mpr (Nat.le_refl _)), mhedges_ev hc h7, Option.bind_some, Nat.sub_self]
      show (D_X10_told y.toInt64 (lI (c - 1)) x z).bind (fun q => some q) = D_X10_told (y + 0).toInt64 (lI (c - 1)) x z
      rw [Int32.add_zero]
      cases D_X10_told y.toInt64 (lI (c - 1)) x z <;> rfl
    · rw [if_neg (fun q => by have := (nI_lt' (by omega) (by omega)).mp q; omega), height_ev z (by omega) hn, Option.bind_some, nI_1, ih (a + 1) _ (by omega) (by omega)]
      rw [show c - 1 - a = (c - 1 - (a + 1)) + 1 by omega]
      show _ = D_X10_told (y + (hM z a n + sm (fun h => hM z h n) (c - 1 - (a + 1)) (a + 1))).toInt64 (lI (c - 1)) x z
      rw [← Int32.add_assoc]
theorem sm_n {z : XS} (hI : Inv z) {n : Nat} (hn : n ≤ 30) : ∀ m a, a + m + 1 ≤ cN z → ∃ u, u ≤ 240 * m ∧ sm (fun h => hM z h n) m a = nI u := by
  intro m
  induction m with
  | zero => intro a _; exact ⟨0, Nat.le_refl _, rfl⟩
  | succ m ih =>
    intro a ha
    obtain ⟨u, hu, eu⟩ := ih (a + 1) (by omega)
    obtain ⟨v, hv, ev⟩ := hM_n hI (h := a) (by omega) hn
    refine ⟨v + u, by omega, ?_⟩
    show hM z a n + sm (fun h => hM z h n) m (a + 1) = _
    rw [eu, ev, nI_add]
theorem eq_mean (z : XS) (hI : Inv z) (x1 x2 : Int32) : ∃ (r : Int64) (z1 z2 : XS), D_X9_mean x1 x2 z = some (r, z1) ∧ D_X10_mean x1 x2 z1 = some (r, z2) ∧ Inv z2 := by
  obtain ⟨⟨c1, c2, c3, c4⟩, -⟩ := id hI
  unfold D_X9_mean D_X10_mean
  rw [dawn_ev, Option.bind_some]
  by_cases h2 : 0 ≤ x1.toInt ∧ x1.toInt ≤ 30
  · rw [if_pos h2, if_neg nm1, within_ev, Option.bind_some, show (1 : Int32).toInt = 1 from rfl]
    by_cases h3 : 0 ≤ x2.toInt ∧ x2.toInt ≤ 1
    · rw [if_pos h3, if_neg nm1]
      by_cases h0 : cN z = 0
      · refine ⟨-9223372036854775808, z, z, ?_, ?_, hI⟩
        · rw [if_pos ((cN0 hI).mpr h0)]
        · rw [mdawn_ev, Option.bind_some, if_pos h2, if_neg nm1, in01, Option.bind_some, if_pos h3, if_neg nm1, if_pos ((cN0' hI).mpr h0)]
          rfl
      · obtain ⟨n, hn, rfl⟩ := num_of (m := 30) h2
        obtain ⟨u, hu, eu⟩ := sm_n hI hn (cN z - 1) 0 (by omega)
        have es := hts_L hI hn (by omega) 64 0 0 (Nat.zero_le _) (by omega)
        rw [Nat.sub_zero, eu, Int32.zero_add] at es
        have hg0 : 0 < Nat.gcd u (cN z - 1) := Nat.gcd_pos_of_pos_right u (by omega)
        have hg1 : Nat.gcd u (cN z - 1) ≤ cN z - 1 := Nat.le_of_dvd (by omega) (Nat.gcd_dvd_right _ _)
        have ed := cd_L (u := u) (l := cN z - 1) (by omega) (by omega) (by omega) z 64 (cN z - 1) hg1 (Nat.le_refl _) (by omega)
        have et := told_L (lI u) (lI (cN z - 1)) x2 z 64 u (cN z - 1) (by omega) (by omega) (by omega) (by omega)
        refine ⟨if x2 = 0 then lI (u / Nat.gcd u (cN z - 1)) else lI ((cN z - 1) / Nat.gcd u (cN z - 1)), z, z, ?_, ?_, hI⟩
        · unfold D_X4_heightsTogether D_X9_commonDivisor
          rw [if_neg (fun q => h0 ((cN0 hI).mp q)), show L_X4_heightsTogether_4 (nI n) 64 0 0 z = _ from es, Option.bind_some, c1, show nI (cN z) - 1 = nI (cN z - 1) from nI_sub (b := 1) (by omega), ed, Option.bind_some, nzI_nI (by omega) hg0, gd_t, gd_t, pk_div (by omega) hg0 (by omega), pk_div (by omega) hg0 (by omega)]
          by_cases q : x2 = 0
          · rw [if_pos q, if_pos q]; rfl
          · rw [if_neg q, if_neg q]; rfl
        · have em := meanM_L x2 c4 c3 hn 64 0 0 (Nat.zero_le _) (by omega)
          rw [Nat.sub_zero, eu, Int32.zero_add] at em
          rw [mdawn_ev, Option.bind_some, if_pos h2, if_neg nm1, in01, Option.bind_some, if_pos h3, if_neg nm1, if_neg (fun q => h0 ((cN0' hI).mp q))]
          refine Eq.trans em ?_
          unfold D_X10_told
          refine Eq.trans et ?_
          rw [lI_div (by omega) (by omega), lI_div (by omega) (by omega)]
    · rw [if_neg h3, if_pos nm2]
      refine ⟨-9223372036854775808, z, z, rfl, ?_, hI⟩
      rw [mdawn_ev, Option.bind_some, if_pos h2, if_neg nm1, in01, Option.bind_some, if_neg h3, if_pos nm2]
      rfl
  · rw [if_neg h2, if_pos nm2]
    refine ⟨-9223372036854775808, z, z, rfl, ?_, hI⟩
    rw [mdawn_ev, Option.bind_some, if_neg h2, if_pos nm2]
    rfl
