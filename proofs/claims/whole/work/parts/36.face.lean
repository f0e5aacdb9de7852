/-! flanks, readings -/
theorem n60 : (60 : Int32) = nI 60 := rfl
theorem n30' : (30 : Int32) = nI 30 := rfl
theorem n1' : (1 : Int32) = nI 1 := rfl
theorem n0' : (0 : Int32) = nI 0 := rfl
theorem place_ev (g s d : Nat) (z : XS) : D_X10_placeOf (nI g) (nI s) (nI d) z = some (nI (60 * g + 30 * s + d), z) := by
  unfold D_X10_placeOf
  rw [n60, n30', pk_mul, pk_mul, nI_add, nI_add]
theorem heard_ev (h s d : Nat) (hs : s < 2) (z : XS) : D_X10_heardAt (nI h) (nI s) (nI d) z = some (nI (hr h s d), z) := by
  unfold D_X10_heardAt hr
  by_cases e : s = 0
  · subst e
    rw [if_pos (show nI 0 = 0 from rfl), if_pos rfl, n1', place_ev, Option.bind_some]
  · have e1 : s = 1 := by omega
    subst e1
    rw [if_neg (show ¬ nI 1 = 0 by decide), if_neg (by decide), nI_1, n0', place_ev, Option.bind_some, Nat.mul_zero, Nat.add_zero]
theorem hr_lt {h s d : Nat} (hh : h < 6) (hd : d < 30) : hr h s d < 420 := by
  unfold hr
  by_cases e : s = 0
  · rw [if_pos e]; omega
  · rw [if_neg e]; omega
theorem hr_inj {h s d h' s' d' : Nat} (hs : s < 2) (hs' : s' < 2) (hd : d < 30) (hd' : d' < 30) (e : hr h s d = hr h' s' d') : h = h' ∧ s = s' ∧ d = d' := by
  unfold hr at e
  by_cases a : s = 0 <;> by_cases b : s' = 0
  · rw [if_pos a, if_pos b] at e; omega
  · rw [if_pos a, if_neg b] at e; omega
  · rw [if_neg a, if_pos b] at e; omega
  · rw [if_neg a, if_neg b] at e; omega
theorem grows_ev (k w : Int32) (z : XS) : D_X10_grows k w z = some (gM k w, z) := by
  unfold D_X10_grows gM
  by_cases h1 : w ≤ 0
  · rw [if_pos h1, if_pos h1]
    by_cases h2 : k = 2
    · rw [if_pos h2, if_pos h2]
      by_cases h3 : w = 0
      · rw [if_pos h3, if_pos h3]
      · rw [if_neg h3, if_neg h3]
    · rw [if_neg h2, if_neg h2]
  · rw [if_neg h1, if_neg h1]
    by_cases h2 : k = 0
    · rw [if_pos h2, if_pos h2]
    · rw [if_neg h2, if_neg h2]
theorem bounded_ev (x : Int32) (z : XS) : D_X10_bounded x z = some (bM x, z) := by
  unfold D_X10_bounded bM
  by_cases h1 : 0 ≤ x
  · rw [if_pos h1, if_pos h1]
    by_cases h2 : x ≤ 240
    · rw [if_pos h2, if_pos h2]
    · rw [if_neg h2, if_neg h2]
  · rw [if_neg h1, if_neg h1]
def mn (a b : Int32) : Int32 := if b ≤ a then b else a
theorem lesser_ev (a b : Int32) (z : XS) : D_X10_lesser a b z = some (mn a b, z) := by
  unfold D_X10_lesser mn
  by_cases h1 : b ≤ a
  · rw [if_pos h1, if_pos h1]
  · rw [if_neg h1, if_neg h1]
theorem pk30 (a b : Nat) : (30 : Int32) * nI a + nI b = nI (30 * a + b) := by
  rw [n30', pk_mul, nI_add]
theorem faceAt_L {h s n : Nat} (z : XS) (hh : h < 6) (hs : s < 2) (hn : n ≤ 30) : ∀ (m a : Nat), a ≤ n → n - a < m → L_X10_faceAt_14 (nI h) (nI s) (nI n) m (fM z h s a) (nI a) z = some (fM z h s n, z) := by
  intro m
  induction m with
  | zero => intro a _ h; omega
  | succ m ih =>
    intro a ha hm
    show B_X10_faceAt_14 (nI h) (nI s) (nI n) (L_X10_faceAt_14 (nI h) (nI s) (nI n) m) (fM z h s a) (nI a) z = _
    unfold B_X10_faceAt_14
    by_cases e : a = n
    · subst e
      rw [if_pos ((nI_lt' (by omega) (by omega)).mpr (Nat.le_refl _))]
    · have eP : inB (nI (hr h s a)) 420 = true := inB_nI (hr_lt hh (by omega)) (by decide)
      have eN : (nI (hr h s a)).toNatClampNeg = hr h s a := tN_nI (by have := hr_lt (s := s) hh (show a < 30 by omega); omega)
      rw [if_neg (fun q => by have := (nI_lt' (by omega) (by omega)).mp q; omega), inB_nI (by omega) (by decide), gd_t, heard_ev _ _ _ hs, Option.bind_some, eP, gd_t, eN, tN_nI (by omega), grows_ev, Option.bind_some, bounded_ev, Option.bind_some, pk30, inB_nI (by omega) (by decide), gd_t, tN_nI (by omega), nI_1]
      have f1 : fM z h s (a + 1) = dM (gA z 18 1 h) (gA z 18 4 (30 * h + a)) (fM z h s a) (gA z 18 3 (hr h s a)) := rfl
      have ih' := ih (a + 1) (by omega) (by omega)
      by_cases c : gA z 18 4 (30 * h + a) < 0
      · rw [if_pos c]
        rw [f1] at ih'
        unfold dM at ih'
        rw [if_pos c] at ih'
        exact ih'
      · rw [if_neg c, lesser_ev, Option.bind_some]
        rw [f1] at ih'
        unfold dM at ih'
        rw [if_neg c] at ih'
        exact ih'
theorem face_ev {h s n : Nat} (z : XS) (hh : h < 6) (hs : s < 2) (hn : n ≤ 30) : D_X10_faceAt (nI h) (nI s) (nI n) z = some (fM z h s n, z) := by
  unfold D_X10_faceAt
  rw [inB_nI hh (by decide), gd_t, tN_nI (by omega)]
  exact faceAt_L z hh hs hn 64 0 (Nat.zero_le _) (by omega)
def hM (z : XS) (h n : Nat) : Int32 := mn (fM z h 0 n) (fM z h 1 n)
theorem height_ev {h n : Nat} (z : XS) (hh : h < 6) (hn : n ≤ 30) : D_X10_heightAt (nI h) (nI n) z = some (hM z h n, z) := by
  unfold D_X10_heightAt
  rw [n0', face_ev z hh (by decide) hn, Option.bind_some, n1', face_ev z hh (by decide) hn, Option.bind_some, lesser_ev, Option.bind_some]
  rfl
theorem one_c : (1 : Int32).toNatClampNeg = 1 := rfl
theorem zero_c : (0 : Int32).toNatClampNeg = 0 := rfl
def hC (z : XS) (h n : Nat) : Int32 := mn (gA z 14 (2 * h + 0) n) (gA z 14 (2 * h + 1) n)
theorem heightC_ev {h n : Nat} (z : XS) (hn : n ≤ 30) : D_X0_heightAt h (nI n) z = some (hC z h n, z) := by
  unfold D_X0_heightAt hC mn
  have eB : inB (nI n) 31 = true := inB_nI (by omega) (by decide)
  rw [eB, show inB (0 : Int32) 2 = true from rfl, show inB (1 : Int32) 2 = true from rfl, gd_t, gd_t, gd_t, gd_t, one_c, zero_c, tN_nI (by omega)]
  by_cases h1 : gA z 14 (2 * h + 1) n ≤ gA z 14 (2 * h + 0) n
  · rw [if_pos h1, if_pos h1]
  · rw [if_neg h1, if_neg h1]
theorem leanC_ev {h n : Nat} (z : XS) (hn : n ≤ 30) : D_X0_leanAt h (nI n) z = some (gA z 14 (2 * h + 0) n - gA z 14 (2 * h + 1) n, z) := by
  unfold D_X0_leanAt
  have eB : inB (nI n) 31 = true := inB_nI (by omega) (by decide)
  rw [eB, show inB (0 : Int32) 2 = true from rfl, show inB (1 : Int32) 2 = true from rfl, gd_t, gd_t, gd_t, gd_t, one_c, zero_c, tN_nI (by omega)]
theorem inc_of {z : XS} (hI : Inv z) {h s n : Nat} (hh : h + 1 < cN z) (hs : s < 2) (hn : n ≤ 30) : gA z 14 (2 * h + s) n = fM z h s n := hI.2.2.2.2.2.1 h hh s hs n hn
theorem hC_of {z : XS} (hI : Inv z) {h n : Nat} (hh : h + 1 < cN z) (hn : n ≤ 30) : hC z h n = hM z h n := by
  unfold hC hM
  rw [inc_of hI hh (by decide) hn, inc_of hI hh (by decide) hn]
theorem eq_face (z : XS) (hI : Inv z) (x1 x2 x3 : Int32) : ∃ (r : Int32) (z1 z2 : XS), D_X9_face x1 x2 x3 z = some (r, z1) ∧ D_X10_face x1 x2 x3 z1 = some (r, z2) ∧ Inv z2 := by
  obtain ⟨⟨c1, c2, c3, c4⟩, -⟩ := id hI
  unfold D_X9_face D_X10_face
  rw [hedge_ev c1 c3, Option.bind_some]
  by_cases h : 0 ≤ x1.toInt ∧ x1.toInt + 1 < (cN z : Int)
  · rw [if_pos h, if_neg nm1, side_ev, Option.bind_some]
    by_cases h2 : 0 ≤ x2.toInt ∧ x2.toInt ≤ 1
    · rw [if_pos h2, if_neg nm1, dawn_ev, Option.bind_some]
      by_cases h3 : 0 ≤ x3.toInt ∧ x3.toInt ≤ 30
      · rw [if_pos h3, if_neg nm1]
        obtain ⟨g, hg, rfl⟩ := hedge_n h
        obtain ⟨s, hs, rfl⟩ := num_of (m := 1) h2
        obtain ⟨n, hn, rfl⟩ := num_of (m := 30) h3
        refine ⟨fM z g s n, z, z, ?_, ?_, hI⟩
        · rw [inB_nI (by omega) (by decide), inB_nI (by omega) (by decide), inB_nI (by omega) (by decide), gd_t, gd_t, gd_t, tN_nI (by omega), tN_nI (by omega), tN_nI (by omega), inc_of hI hg (by omega) hn]
        · rw [mhedge_ev c4 c3, Option.bind_some, if_pos h, if_pos nm2, mside_ev, Option.bind_some, if_pos h2, if_neg nm1, mdawn_ev, Option.bind_some, if_pos h3, if_neg nm1, face_ev z (by omega) (by omega) hn, Option.bind_some]
      · rw [if_neg h3, if_pos nm2]
        refine ⟨-2, z, z, rfl, ?_, hI⟩
        rw [mhedge_ev c4 c3, Option.bind_some, if_pos h, if_pos nm2, mside_ev, Option.bind_some, if_pos h2, if_neg nm1, mdawn_ev, Option.bind_some, if_neg h3, if_pos nm2]
    · rw [if_neg h2, if_pos nm2]
      refine ⟨-2, z, z, rfl, ?_, hI⟩
      rw [mhedge_ev c4 c3, Option.bind_some, if_pos h, if_pos nm2, mside_ev, Option.bind_some, if_neg h2, if_pos nm2]
  · rw [if_neg h, if_pos nm2]
    refine ⟨-1, z, z, rfl, ?_, hI⟩
    rw [mhedge_ev c4 c3, Option.bind_some, if_neg h, if_neg nm1]
theorem in01 (x : Int32) (z : XS) : D_X10_in x.toInt64 0 1 z = some (if 0 ≤ x.toInt ∧ x.toInt ≤ 1 then 1 else 0, z) := by
  rw [in_ev, wide]; rfl
theorem eq_height (z : XS) (hI : Inv z) (x1 x2 x3 : Int32) : ∃ (r : Int32) (z1 z2 : XS), D_X9_height x1 x2 x3 z = some (r, z1) ∧ D_X10_height x1 x2 x3 z1 = some (r, z2) ∧ Inv z2 := by
  obtain ⟨⟨c1, c2, c3, c4⟩, -⟩ := id hI
  unfold D_X9_height D_X10_height
  rw [hedge_ev c1 c3, Option.bind_some]
  by_cases h : 0 ≤ x1.toInt ∧ x1.toInt + 1 < (cN z : Int)
  · rw [if_pos h, if_neg nm1, dawn_ev, Option.bind_some]
    by_cases h2 : 0 ≤ x2.toInt ∧ x2.toInt ≤ 30
    · rw [if_pos h2, if_neg nm1, within_ev, Option.bind_some, show (1 : Int32).toInt = 1 from rfl]
      by_cases h3 : 0 ≤ x3.toInt ∧ x3.toInt ≤ 1
      · rw [if_pos h3, if_neg nm1]
        obtain ⟨g, hg, rfl⟩ := hedge_n h
        obtain ⟨n, hn, rfl⟩ := num_of (m := 30) h2
        rw [inB_nI (by omega) (by decide), gd_t, tN_nI (by omega)]
        by_cases e : x3 = 0
        · refine ⟨hM z g n, z, z, ?_, ?_, hI⟩
          · rw [if_pos e, heightC_ev z hn, Option.bind_some, hC_of hI hg hn]
          · rw [mhedge_ev c4 c3, Option.bind_some, if_pos h, if_pos nm2, mdawn_ev, Option.bind_some, if_pos h2, if_neg nm1, in01, Option.bind_some, if_pos h3, if_neg nm1, if_pos e, height_ev z (by omega) hn, Option.bind_some]
        · refine ⟨fM z g 0 n - fM z g 1 n + 1000, z, z, ?_, ?_, hI⟩
          · rw [if_neg e, leanC_ev z hn, Option.bind_some, inc_of hI hg (by decide) hn, inc_of hI hg (by decide) hn]
          · rw [mhedge_ev c4 c3, Option.bind_some, if_pos h, if_pos nm2, mdawn_ev, Option.bind_some, if_pos h2, if_neg nm1, in01, Option.bind_some, if_pos h3, if_neg nm1, if_neg e, n0', face_ev z (by omega) (by decide) hn, Option.bind_some, n1', face_ev z (by omega) (by decide) hn, Option.bind_some]
      · rw [if_neg h3, if_pos nm2]
        refine ⟨-2, z, z, rfl, ?_, hI⟩
        rw [mhedge_ev c4 c3, Option.bind_some, if_pos h, if_pos nm2, mdawn_ev, Option.bind_some, if_pos h2, if_neg nm1, in01, Option.bind_some, if_neg h3, if_pos nm2]
    · rw [if_neg h2, if_pos nm2]
      refine ⟨-2, z, z, rfl, ?_, hI⟩
      rw [mhedge_ev c4 c3, Option.bind_some, if_pos h, if_pos nm2, mdawn_ev, Option.bind_some, if_neg h2, if_pos nm2]
  · rw [if_neg h, if_pos nm2]
    refine ⟨-1, z, z, rfl, ?_, hI⟩
    rw [mhedge_ev c4 c3, Option.bind_some, if_neg h, if_neg nm1]
