/-- the gardens' part is the same -/
def Gp (z w : XS) : Prop := (gS w 1 2 0 = gS z 1 2 0 ∧ gS w 17 1 0 = gS z 17 1 0) ∧ (∀ i, gA w 7 0 i = gA z 7 0 i) ∧ (∀ j, j < 5 → ∀ i, gA w 18 j i = gA z 18 j i) ∧ (∀ h, w.2.2 h = z.2.2 h) ∧ (∀ f h, gS w 10 f h = gS z 10 f h) ∧ (∀ j i, gA w 12 j i = gA z 12 j i) ∧ (∀ j i, gA w 14 j i = gA z 14 j i) ∧ ∀ j i, gA w 15 j i = gA z 15 j i
/-- the readings' part is the same -/
def Rp (z w : XS) : Prop := (gS w 2 4 0 = gS z 2 4 0 ∧ gS w 17 12 0 = gS z 17 12 0) ∧ (∀ j i, gA w 16 j i = gA z 16 j i) ∧ ∀ j, 8 ≤ j → j < 12 → ∀ i, gA w 18 j i = gA z 18 j i
theorem Gp_c {z w : XS} (h : Gp z w) : cN w = cN z := by
  show (gS w 1 2 0).toNatClampNeg = (gS z 1 2 0).toNatClampNeg
  rw [h.1.1]
theorem Gp_cl {z w : XS} (h : Gp z w) (x : Nat) : cl w x = cl z x := funext fun d => h.2.2.1 4 (by decide) _
theorem Gp_wd {z w : XS} (h : Gp z w) (x s : Nat) : wd w x s = wd z x s := funext fun d => h.2.2.1 3 (by decide) _
theorem Gp_f {z w : XS} (h : Gp z w) (x s n : Nat) : fM w x s n = fM z x s n := by
  unfold fM
  rw [Gp_cl h, Gp_wd h, h.2.2.1 1 (by decide), h.2.2.1 2 (by decide)]
theorem inv_sh {z w : XS} (hI : Inv z) (hg : Gp z w) (hr : Rp z w) (hs : I_sht w) (hf : I_flt w) (ht : gS w 3 0 0 = gS z 3 0 0 ∧ gS w 17 22 0 = gS z 17 22 0) : Inv w := by
  obtain ⟨h1, h2, h3, h4, h5, h6, h7, h8, h9, h10⟩ := hI
  have ec := Gp_c hg
  obtain ⟨⟨g1, g2⟩, g3, g4, g5, g6, g7, g8, g9⟩ := id hg
  obtain ⟨⟨r1, r2⟩, r3, r4⟩ := hr
  refine ⟨?_, ?_, ?_, ?_, ?_, ?_, ?_, hs, hf, ?_⟩
  · unfold I_cnt
    rw [ec, g1, g2]
    exact h1
  · intro g hgc
    rw [g3, g4 0 (by decide)]
    exact h2 g (by omega)
  · intro h hh
    rw [g5, g4 1 (by decide), g4 2 (by decide), g6, g6]
    exact h3 h (by omega)
  · intro h hh s hs d hd
    rw [g7, Gp_wd hg]
    exact h4 h (by omega) s hs d hd
  · intro h hh d hd
    rw [g9, Gp_cl hg]
    exact h5 h (by omega) d hd
  · intro h hh s hs n hn
    rw [g8, Gp_f hg]
    exact h6 h (by omega) s hs n hn
  · obtain ⟨r, q1, q2, q3, q4⟩ := h7
    refine ⟨r, q1, by rw [r1]; exact q2, by rw [r2]; exact q3, fun k hk => ?_⟩
    have e := q4 k hk
    rw [r3, r3, r3, r3, r4 8 (by decide) (by decide), r4 9 (by decide) (by decide), r4 10 (by decide) (by decide), r4 11 (by decide) (by decide), ec]
    exact e
  · unfold I_trc
    rw [ht.1, ht.2]
    exact h10
/-- places a .. b - 1 of a row become v -/
def fl (z : XS) (k j a b : Nat) (v : Int32) : XS := pR z k j (fun t => if a ≤ t ∧ t < b then v else gA z k j t)
theorem fl_0 (z : XS) (k j a : Nat) (v : Int32) : fl z k j a a v = z := by
  apply xs_ext
  · intro _ _ _; rfl
  · intro k' j' i'
    unfold fl
    rw [gA_pR']
    by_cases h : k' = k ∧ j' = j
    · rw [if_pos h, if_neg (by omega), h.1, h.2]
    · rw [if_neg h]
  · intro _; rfl
theorem fl_s (z : XS) (k j a b : Nat) (v : Int32) (h : a < b) : fl (pA z k j a v) k j (a + 1) b v = fl z k j a b v := by
  apply xs_ext
  · intro _ _ _; rfl
  · intro k' j' i'
    unfold fl
    rw [gA_pR', gA_pR']
    by_cases q : k' = k ∧ j' = j
    · rw [if_pos q, if_pos q, gA_pA']
      by_cases e : i' = a
      · rw [if_neg (by omega), if_pos ⟨rfl, rfl, e⟩, if_pos (by omega)]
      · by_cases w : a + 1 ≤ i' ∧ i' < b
        · rw [if_pos w, if_pos (by omega)]
        · rw [if_neg w, if_neg (fun x => e x.2.2), if_neg (by omega)]
    · rw [if_neg q, if_neg q, gA_pA', if_neg (fun x => q ⟨x.1, x.2.1⟩)]
  · intro _; rfl
theorem nI_lt' {a b : Nat} (ha : a ≤ 1000000) (hb : b ≤ 1000000) : (nI a ≤ nI b) ↔ a ≤ b := by
  rw [i_le, nI_i ha, nI_i hb]
  omega
theorem fill_L (k j : Nat) (v : Int32) {len : Nat} (hl : xlen k j = len) (h60 : len ≤ 1000) : ∀ (n i : Nat) (z : XS), i ≤ len → len - i < n → L_J7_fill_53178_5 k j v n (nI i) (nI len) z = some (fl z k j i len v) := by
  intro n
  induction n with
  | zero => intro i z _ h; omega
  | succ n ih =>
    intro i z hi hn
    show B_J7_fill_53178_5 k j v (L_J7_fill_53178_5 k j v n) (nI i) (nI len) z = _
    unfold B_J7_fill_53178_5
    by_cases h : i = len
    · subst h
      rw [if_pos ((nI_lt' (by omega) (by omega)).mpr (Nat.le_refl _)), fl_0]
    · rw [if_neg (fun q => by have := (nI_lt' (by omega) (by omega)).mp q; omega), hl, inB_nI (by omega) (by omega), gd_t, Option.bind_some, tN_nI (by omega), nI_1, ih (i + 1) _ (by omega) (by omega), fl_s _ _ _ _ _ _ (by omega)]
theorem fill_ev (k j : Nat) (v : Int32) {len : Nat} (hl : xlen k j = len) (h60 : len ≤ 62) (z : XS) : D_J7_fill_53178 k j v z = some (fl z k j 0 len v) := by
  unfold D_J7_fill_53178
  rw [hl]
  exact fill_L k j v hl (by omega) 64 0 z (Nat.zero_le _) (by omega)
theorem begin_ev (k : Nat) (a b : Int32) (z : XS) : D_X5_begin k a b z = some (fl (pS (pS z 5 1 k a) 5 2 k b) 6 k 0 60 0) := by
  unfold D_X5_begin
  rw [Option.bind_some, Option.bind_some, fill_ev 6 k 0 (len := 60) rfl (by decide)]
  rfl
theorem pk60 {k i : Nat} (hk : k ≤ 1000) (hi : i ≤ 1000) : (60 : Int32) * nI k + nI i = nI (60 * k + i) := by
  rw [show (60 : Int32) = nI 60 from rfl, pk_mul, nI_add]
theorem msheet_L {k n : Nat} (x2 : Int32) (hk : k < 4) (hn : n ≤ 60) : ∀ (m i : Nat) (z : XS), i ≤ n → n - i < m → L_X10_sheet_65 (nI k) x2 (nI n) m (nI i) z = some (1, pS (fl z 18 15 (60 * k + i) (60 * k + n) 0) 17 0 0 0) := by
  intro m
  induction m with
  | zero => intro i z _ h; omega
  | succ m ih =>
    intro i z hi hm
    show B_X10_sheet_65 (nI k) x2 (nI n) (L_X10_sheet_65 (nI k) x2 (nI n) m) (nI i) z = _
    unfold B_X10_sheet_65
    by_cases h : i = n
    · subst h
      rw [if_pos ((nI_lt' (by omega) (by omega)).mpr (Nat.le_refl _)), fl_0]
      rfl
    · rw [if_neg (fun q => by have := (nI_lt' (by omega) (by omega)).mp q; omega), pk60 (by omega) (by omega), inB_nI (by omega) (by omega), gd_t, Option.bind_some, tN_nI (by omega), nI_1, ih (i + 1) _ (by omega) (by omega)]
      have e := fl_s z 18 15 (60 * k + i) (60 * k + n) 0 (by omega)
      rw [show 60 * k + (i + 1) = 60 * k + i + 1 by omega, e]
theorem gA_fl (z : XS) (k j a b : Nat) (v : Int32) (k' j' i' : Nat) : gA (fl z k j a b v) k' j' i' = if k' = k ∧ j' = j then (if a ≤ i' ∧ i' < b then v else gA z k j i') else gA z k' j' i' := rfl
theorem gS_fl (z : XS) (k j a b : Nat) (v : Int32) (k' f' j' : Nat) : gS (fl z k j a b v) k' f' j' = gS z k' f' j' := rfl
theorem eq_sheet (z : XS) (hI : Inv z) (x1 x2 x3 : Int32) : ∃ (r : Int32) (z1 z2 : XS), D_X9_sheet x1 x2 x3 z = some (r, z1) ∧ D_X10_sheet x1 x2 x3 z1 = some (r, z2) ∧ Inv z2 := by
  have hs0 := hI.2.2.2.2.2.2.2.1
  unfold D_X9_sheet D_X10_sheet
  rw [Option.bind_some, sheet_ev, Option.bind_some]
  by_cases h : 0 ≤ x1.toInt ∧ x1.toInt ≤ 3
  · rw [if_pos h, if_neg nm1, within_ev, Option.bind_some]
    by_cases h2 : 0 ≤ x2.toInt ∧ x2.toInt ≤ 2
    · have h2' : 0 ≤ x2.toInt ∧ x2.toInt ≤ (2 : Int32).toInt := h2
      have h2'' : (0 : Int64).toInt ≤ x2.toInt ∧ x2.toInt ≤ (2 : Int64).toInt := h2
      rw [if_pos h2', if_neg nm1]
      by_cases h3 : x3 ≤ 60
      · rw [if_pos h3]
        by_cases h4 : 0 ≤ x3
        · rw [if_pos h4]
          obtain ⟨k, hk, rfl⟩ := num_of (m := 3) h
          obtain ⟨n, hn, rfl⟩ := num_of (x := x3) (m := 60) ⟨(i_le _ _).mp h4, (i_le _ _).mp h3⟩
          obtain ⟨ln, hln, rfl⟩ := num_of (m := 2) h2
          rw [inB_nI (by omega) (by decide), gd_t, tN_nI (by omega), begin_ev, Option.bind_some]
          refine ⟨1, _, pS (fl (pA (pA (fl (pS (pS (pS z 0 4 0 0) 5 1 k (nI ln)) 5 2 k (nI n)) 6 k 0 60 0) 18 13 k (nI n)) 18 14 k (nI ln)) 18 15 (60 * k) (60 * k + n) 0) 17 0 0 0, rfl, ?_, ?_⟩
          · rw [msheet_ev, Option.bind_some, if_pos h, if_pos nm2, in_ev, Option.bind_some, wide, if_pos h2'', if_neg nm1, if_pos h3, if_pos h4, gd_t, Option.bind_some, gd_t, Option.bind_some]
            have e := msheet_L (k := k) (n := n) (nI ln) (by omega) hn 64 0 (pA (pA (fl (pS (pS (pS z 0 4 0 0) 5 1 k (nI ln)) 5 2 k (nI n)) 6 k 0 60 0) 18 13 k (nI n)) 18 14 k (nI ln)) (Nat.zero_le _) (by omega)
            exact e
          · refine inv_sh hI ⟨⟨rfl, rfl⟩, fun _ => rfl, fun j hj i => ?_, fun _ => rfl, fun _ _ => rfl, fun _ _ => rfl, fun _ _ => rfl, fun _ _ => rfl⟩ ⟨⟨rfl, rfl⟩, fun _ _ => rfl, fun j hj hj2 i => ?_⟩ ?_ rfl ⟨rfl, rfl⟩
            · rw [gA_pS, gA_fl, if_neg (by omega), gA_pA', if_neg (by omega), gA_pA', if_neg (by omega), gA_fl, if_neg (by omega)]
              rfl
            · rw [gA_pS, gA_fl, if_neg (by omega), gA_pA', if_neg (by omega), gA_pA', if_neg (by omega), gA_fl, if_neg (by omega)]
              rfl
            · intro k' hk'
              by_cases e : k' = k
              · subst e
                refine Or.inr ⟨n, ln, hn, hln, ?_, ?_, ?_, ?_, fun i hi => ?_⟩
                · simp [gS_pS', gS_pA, gS_fl]
                · simp [gA_pS, gA_fl, gA_pA']
                · simp [gS_pS', gS_pA, gS_fl]
                · simp [gA_pS, gA_fl, gA_pA']
                · rw [gA_pS, gA_fl, if_neg (by omega), gA_pA', if_neg (by omega), gA_pA', if_neg (by omega), gA_fl, if_pos ⟨rfl, rfl⟩, if_pos (by omega), gA_pS, gA_fl, if_pos ⟨rfl, rfl⟩, if_pos (by omega)]
              · have a1 : ∀ f, gS (pS (fl (pA (pA (fl (pS (pS (pS z 0 4 0 0) 5 1 k (nI ln)) 5 2 k (nI n)) 6 k 0 60 0) 18 13 k (nI n)) 18 14 k (nI ln)) 18 15 (60 * k) (60 * k + n) 0) 17 0 0 0) 5 f k' = gS z 5 f k' := by
                  intro f
                  simp [gS_pS', gS_pA, gS_fl, e]
                have a2 : gA (pS (fl (pA (pA (fl (pS (pS (pS z 0 4 0 0) 5 1 k (nI ln)) 5 2 k (nI n)) 6 k 0 60 0) 18 13 k (nI n)) 18 14 k (nI ln)) 18 15 (60 * k) (60 * k + n) 0) 17 0 0 0) 18 13 k' = gA z 18 13 k' := by
                  simp [gA_pS, gA_fl, gA_pA', e]
                have a3 : gA (pS (fl (pA (pA (fl (pS (pS (pS z 0 4 0 0) 5 1 k (nI ln)) 5 2 k (nI n)) 6 k 0 60 0) 18 13 k (nI n)) 18 14 k (nI ln)) 18 15 (60 * k) (60 * k + n) 0) 17 0 0 0) 18 14 k' = gA z 18 14 k' := by
                  simp [gA_pS, gA_fl, gA_pA', e]
                have a4 : ∀ i, gA (pS (fl (pA (pA (fl (pS (pS (pS z 0 4 0 0) 5 1 k (nI ln)) 5 2 k (nI n)) 6 k 0 60 0) 18 13 k (nI n)) 18 14 k (nI ln)) 18 15 (60 * k) (60 * k + n) 0) 17 0 0 0) 6 k' i = gA z 6 k' i := by
                  intro i
                  simp [gA_pS, gA_fl, gA_pA', e]
                have a5 : ∀ i, i < 60 → gA (pS (fl (pA (pA (fl (pS (pS (pS z 0 4 0 0) 5 1 k (nI ln)) 5 2 k (nI n)) 6 k 0 60 0) 18 13 k (nI n)) 18 14 k (nI ln)) 18 15 (60 * k) (60 * k + n) 0) 17 0 0 0) 18 15 (60 * k' + i) = gA z 18 15 (60 * k' + i) := by
                  intro i hi
                  rw [gA_pS, gA_fl, if_pos ⟨rfl, rfl⟩, if_neg (by omega), gA_pA', if_neg (by omega), gA_pA', if_neg (by omega), gA_fl, if_neg (by omega)]
                  rfl
                rw [a1, a1, a2, a3]
                rcases hs0 k' hk' with q | ⟨n', ln', q1, q2, q3, q4, q5, q6, q7⟩
                · exact Or.inl q
                · refine Or.inr ⟨n', ln', q1, q2, q3, q4, q5, q6, fun i hi => ?_⟩
                  rw [a4, a5 i (by omega)]
                  exact q7 i hi
        · rw [if_neg h4, fl_ev, Option.bind_some, pS_pS]
          refine ⟨-10 - 4, pS z 0 4 0 4, pS (pS z 0 4 0 4) 17 0 0 4, rfl, ?_, inv_fault hI 4⟩
          rw [msheet_ev, Option.bind_some, if_pos h, if_pos nm2, in_ev, Option.bind_some, wide, if_pos h2'', if_neg nm1, if_pos h3, if_neg h4]
          rfl
      · rw [if_neg h3]
        refine ⟨-2, pS z 0 4 0 0, pS (pS z 0 4 0 0) 17 0 0 0, rfl, ?_, inv_fault hI 0⟩
        rw [msheet_ev, Option.bind_some, if_pos h, if_pos nm2, in_ev, Option.bind_some, wide, if_pos h2'', if_neg nm1, if_neg h3]
        rfl
    · have h2' : ¬ (0 ≤ x2.toInt ∧ x2.toInt ≤ (2 : Int32).toInt) := h2
      have h2'' : ¬ ((0 : Int64).toInt ≤ x2.toInt ∧ x2.toInt ≤ (2 : Int64).toInt) := h2
      rw [if_neg h2', if_pos nm2]
      refine ⟨-2, pS z 0 4 0 0, pS (pS z 0 4 0 0) 17 0 0 0, rfl, ?_, inv_fault hI 0⟩
      rw [msheet_ev, Option.bind_some, if_pos h, if_pos nm2, in_ev, Option.bind_some, wide, if_neg h2'', if_pos nm2]
      rfl
  · rw [if_neg h, if_pos nm2]
    refine ⟨-1, pS z 0 4 0 0, pS (pS z 0 4 0 0) 17 0 0 0, rfl, ?_, inv_fault hI 0⟩
    rw [msheet_ev, Option.bind_some, if_neg h, if_neg nm1]
    rfl
