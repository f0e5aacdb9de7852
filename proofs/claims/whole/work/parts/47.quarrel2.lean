/-- one flank by words told as the reference keeps them -/
def fF (z : XS) (h s : Nat) (f : Nat → Int32) (n : Nat) : Int32 := fc (gA z 18 1 h) (12 * gA z 18 2 h) (cl z h) (fun t => f (hr h s t)) n
theorem fF_s (z : XS) (h s : Nat) (f : Nat → Int32) (n : Nat) : fF z h s f (n + 1) = dM (gA z 18 1 h) (cl z h n) (fF z h s f n) (f (hr h s n)) := rfl
theorem fF_congr {z : XS} {h s n : Nat} {f f' : Nat → Int32} (e : ∀ t, t < n → f (hr h s t) = f' (hr h s t)) : fF z h s f n = fF z h s f' n := fc_congr n (fun t ht => ⟨rfl, e t ht⟩)
theorem fM_st (z : XS) (f g : Nat → Int32) (h s n : Nat) : fM (st z f g) h s n = fF z h s f n := rfl
theorem fF_0 (z : XS) (h s n : Nat) : fF z h s (f0 z) n = fM z h s n := rfl
theorem hr_ne {h s d h' s' d' : Nat} (hs : s < 2) (hs' : s' < 2) (hd : d < 30) (hd' : d' < 30) (e : ¬ (h = h' ∧ s = s' ∧ d = d')) : ¬ hr h s d = hr h' s' d' := fun q => e (hr_inj hs hs' hd hd' q)
/-- the heights that an evening's choice sees, in the reference, are those that the class takes -/
theorem even_o {z : XS} (hI : Inv z) {h s a g : Nat} {f gg : Nat → Int32} (hh : h + 1 < cN z) (hs : s < 2) (ha : a < 30) (hg : g < cN z) (hf : ∀ i, (∀ s t, s < 2 → t < 30 → ¬ i = hr h s t) → f i = f0 z i) (hq : f (hr h (1 - s) a) = 0) (w : Int32) : offM (cN z) (fun h' => hM (pA (st z f gg) 18 3 (hr h s a) w) h' (a + 1)) (gA z 18 0 g) g = evO z g h a (fF z h s f a) (dM (gA z 18 1 h) (cl z h a) (fF z h (1 - s) f a) 0) w := by
  have c3 := hI.1.2.2.1
  unfold evO
  rw [hI.2.1 g hg]
  refine offM_congr hg (fun h' hh' => ?_)
  rw [st_3]
  unfold hX
  by_cases e : h' = h
  · rw [if_pos (by rw [e])]
    subst e
    have own : fF z h' s (wup f (hr h' s a) w) (a + 1) = dM (gA z 18 1 h') (cl z h' a) (fF z h' s f a) w := by
      rw [fF_s, wupE, fF_congr (fun t ht => wupN (hr_ne hs hs (by omega) ha (by omega)))]
    have oth : fF z h' (1 - s) (wup f (hr h' s a) w) (a + 1) = dM (gA z 18 1 h') (cl z h' a) (fF z h' (1 - s) f a) 0 := by
      rw [fF_s, wupN (hr_ne (by omega) hs ha ha (by omega)), hq, fF_congr (fun t ht => wupN (hr_ne (by omega) hs (by omega) ha (by omega)))]
    show mn (fF z h' 0 (wup f (hr h' s a) w) (a + 1)) (fF z h' 1 (wup f (hr h' s a) w) (a + 1)) = _
    by_cases es : s = 0
    · subst es
      rw [own, show (1 : Nat) = 1 - 0 from rfl, oth]
    · have : s = 1 := by omega
      subst this
      rw [mn_comm, own, show (0 : Nat) = 1 - 1 from rfl, oth]
  · rw [if_neg (fun q => e ((nI_inj (by omega) (by omega)).mp q)), hC_of hI hh' (by omega)]
    show mn (fF z h' 0 (wup f (hr h s a) w) (a + 1)) (fF z h' 1 (wup f (hr h s a) w) (a + 1)) = mn (fF z h' 0 (f0 z) (a + 1)) (fF z h' 1 (f0 z) (a + 1))
    have k : ∀ s', s' < 2 → fF z h' s' (wup f (hr h s a) w) (a + 1) = fF z h' s' (f0 z) (a + 1) := fun s' hs' => fF_congr (fun t ht => by
      rw [wupN (hr_ne hs' hs (by omega) ha (by omega))]
      exact hf _ (fun s2 t2 h1 h2 => hr_ne hs' h1 (by omega) h2 (by omega)))
    rw [k 0 (by decide), k 1 (by decide)]
theorem quar_L {z : XS} (hI : Inv z) {h last : Nat} (x2 x4 : Int32) (gg : Nat → Int32) (hh : h + 1 < cN z) (hl : last < 30) (hgg : ∀ t, t < 30 → gg t = f0 z (hr h 0 t) ∧ gg (30 + t) = f0 z (hr h 1 t)) : ∀ (m a : Nat) (f : Nat → Int32) (y8 y9 : Int32), a ≤ last + 1 → last + 1 - a < m → (∀ i, (∀ s t, s < 2 → t < 30 → ¬ i = hr h s t) → f i = f0 z i) → ∃ r, L_X4_lastWordOfQuarrel_39 (nI h) x2 (nI last) x4 m h (fF z h 0 f a) (fF z h 1 f a) y8 y9 (nI a) z = some (r, z) ∧ L_X10_quarrel_103 (nI h) x2 (nI last) x4 m (if x4 = 0 then y8 else y9) (nI a) (st z f gg) = some (r + 10, st z (f0 z) gg) := by
  obtain ⟨⟨c1, c2, c3, c4⟩, -⟩ := id hI
  obtain ⟨k1, k2, k3, k4⟩ := hI.2.2.1 h hh
  have hC := hI.2.2.2.2.1 h hh
  have w0 : wB 0 := by unfold wB; decide
  intro m
  induction m with
  | zero => intro a f _ _ _ h; omega
  | succ m ih =>
    intro a f y8 y9 ha hm hf
    show ∃ r, B_X4_lastWordOfQuarrel_39 (nI h) x2 (nI last) x4 (L_X4_lastWordOfQuarrel_39 (nI h) x2 (nI last) x4 m) h (fF z h 0 f a) (fF z h 1 f a) y8 y9 (nI a) z = _ ∧ B_X10_quarrel_103 (nI h) x2 (nI last) x4 (L_X10_quarrel_103 (nI h) x2 (nI last) x4 m) (if x4 = 0 then y8 else y9) (nI a) (st z f gg) = _
    unfold B_X4_lastWordOfQuarrel_39 B_X10_quarrel_103
    by_cases e : a = last + 1
    · have hlt : nI last < nI a := (nI_lt'' (by omega) (by omega)).mpr (by omega)
      rw [if_pos hlt, if_pos hlt]
      refine ⟨if x4 = 0 then y8 else y9, ?_, ?_⟩
      · by_cases q : x4 = 0
        · rw [if_pos q, if_pos q]
        · rw [if_neg q, if_neg q]
      · exact back_L x2 (nI last) x4 _ gg (by omega) hgg 64 0 f (by omega) (by omega) (fun i hi => hf i (fun s t hs ht => hi s t hs (Nat.zero_le _) ht))
    · have hnl : ¬ nI last < nI a := fun q => by have := (nI_lt'' (by omega) (by omega)).mp q; omega
      have ha3 : a < 30 := by omega
      have l0 := hr_lt (h := h) (s := 0) (d := a) (by omega) ha3
      have l1 := hr_lt (h := h) (s := 1) (d := a) (by omega) ha3
      have e1 := hC a ha3
      have cb : cB (gA z 15 h a) := by rw [e1.1]; exact e1.2
      have n01 : ¬ hr h 0 a = hr h 1 a := hr_ne (by decide) (by decide) ha3 ha3 (by omega)
      -- the reference's words with both 0
      have hf1 : ∀ i, (∀ s t, s < 2 → t < 30 → ¬ i = hr h s t) → wup (wup f (hr h 0 a) 0) (hr h 1 a) 0 i = f0 z i := fun i hi => by
        rw [wupN (hi 1 a (by decide) ha3), wupN (hi 0 a (by decide) ha3)]
        exact hf i hi
      have old : ∀ s, s < 2 → fF z h s (wup (wup f (hr h 0 a) 0) (hr h 1 a) 0) a = fF z h s f a := fun s hs => fF_congr (fun t ht => by
        rw [wupN (hr_ne hs (by decide) (by omega) ha3 (by omega)), wupN (hr_ne hs (by decide) (by omega) ha3 (by omega))])
      have oL := fun w => even_o hI (h := h) (s := 0) (a := a) (g := h) (gg := gg) hh (by decide) ha3 (by omega) hf1 (by rw [show 1 - 0 = 1 from rfl, wupE]) w
      have oR := fun w => even_o hI (h := h) (s := 1) (a := a) (g := h + 1) (gg := gg) hh (by decide) ha3 (by omega) hf1 (by rw [show 1 - 1 = 0 from rfl, wupN n01, wupE]) w
      rw [old 0 (by decide), show 1 - 0 = 1 from rfl, old 1 (by decide)] at oL
      rw [old 1 (by decide), show 1 - 1 = 0 from rfl, old 0 (by decide)] at oR
      rw [if_neg hnl, if_neg hnl, dayC k1 w0 ha3 cb, Option.bind_some, e1.1, evening_ev hI _ _ (by omega) hh ha3, Option.bind_some, dayC k1 w0 ha3 cb, Option.bind_some, e1.1, nI_1, evening_ev hI _ _ (by omega) hh ha3, Option.bind_some, dayC k1 (pk_B _) ha3 cb, Option.bind_some, dayC k1 (pk_B _) ha3 cb, Option.bind_some, e1.1, nI_1]
      generalize eL : pk (evO z h h a (fF z h 0 f a) (dM (gA z 18 1 h) (cl z h a) (fF z h 1 f a) 0)) = vL
      generalize eR : pk (evO z (h + 1) h a (fF z h 1 f a) (dM (gA z 18 1 h) (cl z h a) (fF z h 0 f a) 0)) = vR
      have qL : D_X10_chosenFor (nI h) (nI (hr h 0 a)) (nI (a + 1)) (st z (wup (wup f (hr h 0 a) 0) (hr h 1 a) 0) gg) = some (vL, st z (wup (wup f (hr h 0 a) 0) (hr h 1 a) 0) gg) := by
        rw [chosen_ev (z := st z (wup (wup f (hr h 0 a) 0) (hr h 1 a) 0) gg) c4 c3 (by omega) (by omega) l0, ← eL]
        exact congrArg (fun v => some (v, st z (wup (wup f (hr h 0 a) 0) (hr h 1 a) 0) gg)) (pk_congr (fun w _ => oL w))
      have qR : D_X10_chosenFor (nI (h + 1)) (nI (hr h 1 a)) (nI (a + 1)) (st z (wup (wup f (hr h 0 a) 0) (hr h 1 a) 0) gg) = some (vR, st z (wup (wup f (hr h 0 a) 0) (hr h 1 a) 0) gg) := by
        rw [chosen_ev (z := st z (wup (wup f (hr h 0 a) 0) (hr h 1 a) 0) gg) c4 c3 (by omega) (by omega) l1, ← eR]
        exact congrArg (fun v => some (v, st z (wup (wup f (hr h 0 a) 0) (hr h 1 a) 0) gg)) (pk_congr (fun w _ => oR w))
      have h0e : D_X10_heardAt (nI h) 0 (nI a) (st z f gg) = some (nI (hr h 0 a), st z f gg) := heard_ev h 0 a (by decide) _
      have h1e : D_X10_heardAt (nI h) 1 (nI a) (st z f gg) = some (nI (hr h 1 a), st z f gg) := heard_ev h 1 a (by decide) _
      rw [h0e, Option.bind_some, h1e, Option.bind_some, inB_nI l0 (by decide), gd_t, Option.bind_some, tN_nI (by omega), st_3, inB_nI l1 (by decide), gd_t, Option.bind_some, tN_nI (by omega), st_3, qL, Option.bind_some, qR, Option.bind_some, gd_t, Option.bind_some, st_3, gd_t, Option.bind_some, st_3]
      have step : ∀ s v, s < 2 → (wup (wup (wup (wup f (hr h 0 a) 0) (hr h 1 a) 0) (hr h 0 a) vL) (hr h 1 a) vR) (hr h s a) = v → fF z h s (wup (wup (wup (wup f (hr h 0 a) 0) (hr h 1 a) 0) (hr h 0 a) vL) (hr h 1 a) vR) (a + 1) = dM (gA z 18 1 h) (cl z h a) (fF z h s f a) v := fun s v hs ev => by
        rw [fF_s, ev, fF_congr (f' := f) (fun t ht => by
          rw [wupN (hr_ne hs (by decide) (by omega) ha3 (by omega)), wupN (hr_ne hs (by decide) (by omega) ha3 (by omega)), wupN (hr_ne hs (by decide) (by omega) ha3 (by omega)), wupN (hr_ne hs (by decide) (by omega) ha3 (by omega))])]
      obtain ⟨r, A, B⟩ := ih (a + 1) (wup (wup (wup (wup f (hr h 0 a) 0) (hr h 1 a) 0) (hr h 0 a) vL) (hr h 1 a) vR) vL vR (by omega) (by omega) (fun i hi => by
        rw [wupN (hi 1 a (by decide) ha3), wupN (hi 0 a (by decide) ha3)]
        exact hf1 i hi)
      rw [step 0 vL (by decide) (by rw [wupN n01, wupE]), step 1 vR (by decide) (wupE _ _ _)] at A
      refine ⟨r, A, ?_⟩
      by_cases q : x4 = 0
      · rw [if_pos q]
        rw [if_pos q] at B
        exact B
      · rw [if_neg q]
        rw [if_neg q] at B
        exact B
theorem inv_12 {z : XS} (hI : Inv z) (g : Nat → Int32) : Inv (pR z 18 12 g) := ⟨hI.1, hI.2.1, hI.2.2.1, hI.2.2.2.1, hI.2.2.2.2.1, hI.2.2.2.2.2.1, hI.2.2.2.2.2.2.1, hI.2.2.2.2.2.2.2.1, hI.2.2.2.2.2.2.2.2.1, hI.2.2.2.2.2.2.2.2.2⟩
theorem eq_quarrel (z : XS) (hI : Inv z) (x1 x2 x3 x4 : Int32) : ∃ (r : Int32) (z1 z2 : XS), D_X9_quarrel x1 x2 x3 x4 z = some (r, z1) ∧ D_X10_quarrel x1 x2 x3 x4 z1 = some (r, z2) ∧ Inv z2 := by
  obtain ⟨⟨c1, c2, c3, c4⟩, -⟩ := id hI
  unfold D_X9_quarrel D_X10_quarrel
  rw [hedge_ev c1 c3, Option.bind_some]
  by_cases h : 0 ≤ x1.toInt ∧ x1.toInt + 1 < (cN z : Int)
  · rw [if_pos h, if_neg nm1, day_ev, Option.bind_some]
    by_cases h2 : 0 ≤ x2.toInt ∧ x2.toInt ≤ 29
    · rw [if_pos h2, if_neg nm1, day_ev, Option.bind_some]
      by_cases h3 : 0 ≤ x3.toInt ∧ x3.toInt ≤ 29
      · rw [if_pos h3, if_neg nm1]
        by_cases h5 : x3 < x2
        · rw [if_pos h5]
          refine ⟨-2, z, z, rfl, ?_, hI⟩
          rw [mhedge_ev c4 c3, Option.bind_some, if_pos h, if_pos nm2, mday_ev, Option.bind_some, if_pos h2, if_neg nm1, mday_ev, Option.bind_some, if_pos h3, if_neg nm1, if_pos h5]
        · rw [if_neg h5, side_ev, Option.bind_some]
          by_cases h4 : 0 ≤ x4.toInt ∧ x4.toInt ≤ 1
          · rw [if_pos h4, if_neg nm1]
            obtain ⟨g, hg, rfl⟩ := hedge_n h
            obtain ⟨a, ha, rfl⟩ := num_of (m := 29) h2
            obtain ⟨b, hb, rfl⟩ := num_of (m := 29) h3
            have hab : a ≤ b := by
              by_cases q : a ≤ b
              · exact q
              · exact absurd ((nI_lt'' (by omega) (by omega)).mpr (by omega)) h5
            obtain ⟨gg, s1, s2⟩ := save_L (z := z) (h := g) (nI a) (nI b) x4 (f0 z) (by omega) 64 0 (fun i => gA z 18 12 i) (by omega) (by omega) (fun t ht => by omega)
            rw [st_z] at s1
            obtain ⟨r, A, B⟩ := quar_L hI (nI a) x4 gg hg (show b < 30 by omega) s2 64 a (f0 z) 0 0 (by omega) (by omega) (fun i _ => rfl)
            rw [show (if x4 = 0 then (0 : Int32) else 0) = 0 by by_cases q : x4 = 0 <;> simp [q], st_0] at B
            rw [fF_0, fF_0] at A
            refine ⟨r + 10, z, pR z 18 12 gg, ?_, ?_, inv_12 hI gg⟩
            · unfold D_X4_lastWordOfQuarrel
              rw [inB_nI (by omega) (by decide), gd_t, show inB (0 : Int32) 2 = true from rfl, gd_t, inB_nI (show a < 31 by omega) (by decide), gd_t, show inB (1 : Int32) 2 = true from rfl, gd_t, gd_t, one_c, zero_c, tN_nI (by omega), tN_nI (by omega), inc_of hI hg (by decide) (by omega), inc_of hI hg (by decide) (by omega), A, Option.bind_some]
            · rw [mhedge_ev c4 c3, Option.bind_some, if_pos h, if_pos nm2, mday_ev, Option.bind_some, if_pos h2, if_neg nm1, mday_ev, Option.bind_some, if_pos h3, if_neg nm1, if_neg h5, mside_ev, Option.bind_some, if_pos h4, if_neg nm1]
              refine Eq.trans s1 ?_
              rw [st_0]
              exact B
          · rw [if_neg h4, if_pos nm2]
            refine ⟨-2, z, z, rfl, ?_, hI⟩
            rw [mhedge_ev c4 c3, Option.bind_some, if_pos h, if_pos nm2, mday_ev, Option.bind_some, if_pos h2, if_neg nm1, mday_ev, Option.bind_some, if_pos h3, if_neg nm1, if_neg h5, mside_ev, Option.bind_some, if_neg h4, if_pos nm2]
      · rw [if_neg h3, if_pos nm2]
        refine ⟨-2, z, z, rfl, ?_, hI⟩
        rw [mhedge_ev c4 c3, Option.bind_some, if_pos h, if_pos nm2, mday_ev, Option.bind_some, if_pos h2, if_neg nm1, mday_ev, Option.bind_some, if_neg h3, if_pos nm2]
    · rw [if_neg h2, if_pos nm2]
      refine ⟨-2, z, z, rfl, ?_, hI⟩
      rw [mhedge_ev c4 c3, Option.bind_some, if_pos h, if_pos nm2, mday_ev, Option.bind_some, if_neg h2, if_pos nm2]
  · rw [if_neg h, if_pos nm2]
    refine ⟨-1, z, z, rfl, ?_, hI⟩
    rw [mhedge_ev c4 c3, Option.bind_some, if_neg h, if_neg nm1]
