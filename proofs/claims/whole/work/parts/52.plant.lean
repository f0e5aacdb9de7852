/-! planting: the class -/
def clsOf (x : Int32) : Nat := if x = 104 then 2 else if x = 121 then 7 else 1
theorem seed_ev {x : Int32} (h : ltr x) (u v : Int32) (z : XS) : D_X4_seedling u x v z = some (clsOf x, z) := by
  rcases h with rfl | rfl | rfl <;> rfl
theorem cls_KH {x : Int32} (h : ltr x) : KH (clsOf x) (kdx x) := by
  rcases h with rfl | rfl | rfl
  · exact Or.inl ⟨rfl, rfl⟩
  · exact Or.inr (Or.inl ⟨rfl, rfl⟩)
  · exact Or.inr (Or.inr ⟨rfl, rfl⟩)
/-- one HEDGE as planted -/
def Pl (w : XS) (h ci : Nat) (kd v : Int32) : Prop := w.2.2 h = ci ∧ gS w 10 0 h = nI h ∧ gS w 10 1 h = v ∧ (∀ t, t < 30 → gA w 15 h t = -9) ∧ ∀ s, s < 2 → (∀ t, t < 30 → gA w 12 (2 * h + s) t = 0) ∧ ∀ n, n ≤ 30 → gA w 14 (2 * h + s) n = fc kd (12 * v) (fun _ => -9) (fun _ => 0) n
theorem plant_ev {z : XS} {h ci : Nat} {kd v : Int32} (hh : h < 6) (hk : KH ci kd) : ∃ w, D_X0_plant h ci (nI h) v z = some w ∧ Pl w h ci kd v ∧ (∀ k f j, ¬ (k = 10 ∧ j = h) → gS w k f j = gS z k f j) ∧ (∀ j, ¬ j = h → w.2.2 j = z.2.2 j) ∧ (∀ k j i, ¬ (k = 15 ∧ j = h) → ¬ ((k = 12 ∨ k = 14) ∧ (j = 2 * h + 0 ∨ j = 2 * h + 1)) → gA w k j i = gA z k j i) := by
  have lw' : ∀ s, s < 2 → xlen 12 (2 * h + s) = 30 := fun s hs => rfl
  have lc : xlen 15 h = 30 := rfl
  unfold D_X0_plant J_X0_plant_5
  rw [Option.bind_some, fill_ev 15 h (-9) lc (by decide), Option.bind_some]
  generalize ez1 : fl (pH z h ci (nI h) v) 15 h 0 30 (-9) = z1
  have a1 : z1.2.2 h = ci := by rw [← ez1]; exact if_pos rfl
  have a2 : gS z1 10 0 h = nI h := by rw [← ez1, gS_fl]; exact if_pos ⟨rfl, rfl⟩
  have a3 : gS z1 10 1 h = v := by rw [← ez1, gS_fl]; exact if_pos ⟨rfl, rfl⟩
  have a4 : ∀ t, t < 30 → gA z1 15 h t = -9 := fun t ht => by
    rw [← ez1, gA_fl, if_pos ⟨rfl, rfl⟩, if_pos ⟨Nat.zero_le _, ht⟩]
  have a5 : ∀ k f j, ¬ (k = 10 ∧ j = h) → gS z1 k f j = gS z k f j := fun k f j hn => by
    rw [← ez1, gS_fl]; exact gS_pH_ne hn
  have a6 : ∀ j, ¬ j = h → z1.2.2 j = z.2.2 j := fun j hj => by rw [← ez1]; exact if_neg hj
  have a7 : ∀ k j i, ¬ (k = 15 ∧ j = h) → gA z1 k j i = gA z k j i := fun k j i hn => by
    rw [← ez1, gA_fl, if_neg hn]; rfl
  have cb9 : cB (-9) := Or.inl rfl
  have wb0 : wB 0 := by unfold wB; decide
  -- one flank
  have step : ∀ (m s : Nat) (u : XS), s < 2 → u.2.2 h = ci → gS u 10 1 h = v → (∀ t, t < 30 → gA u 15 h t = -9) → ∃ f, (∀ n, n ≤ 30 → f n = fc kd (12 * v) (fun _ => -9) (fun _ => 0) n) ∧ L_X0_plant_16 h (m + 1) (nI s) u = L_X0_plant_16 h m (nI (s + 1)) (pR (fl u 12 (2 * h + s) 0 30 0) 14 (2 * h + s) f) := by
    intro m s u hs u1 u3 u4
    have kh : KH ((fl u 12 (2 * h + s) 0 30 0).2.2 h) kd := by show KH (u.2.2 h) kd; rw [u1]; exact hk
    obtain ⟨f, q1, q2⟩ := growF_ev (z := pA (fl u 12 (2 * h + s) 0 30 0) 14 (2 * h + s) 0 (12 * v)) (h := h) (s := s) (a := 0) (kd := kd) (b0 := 12 * v) (C := fun _ => -9) (W := fun _ => 0) hs kh (fun d hd => ⟨u4 d hd, cb9⟩) (fun d hd => by
      refine ⟨?_, wb0⟩
      show (if 12 = 12 ∧ 2 * h + s = 2 * h + s then (if 0 ≤ d ∧ d < 30 then 0 else gA u 12 (2 * h + s) d) else gA u 12 (2 * h + s) d) = 0
      rw [if_pos ⟨rfl, rfl⟩, if_pos ⟨Nat.zero_le _, hd⟩]) (fun t ht => by
      have : t = 0 := by omega
      subst this
      rw [gA_pA', if_pos ⟨rfl, rfl, rfl⟩]
      rfl) (by omega)
    refine ⟨f, q2, ?_⟩
    show B_X0_plant_16 h (L_X0_plant_16 h m) (nI s) u = _
    unfold B_X0_plant_16
    have q1' : D_X0_growFrom h (nI s) 0 (pA (fl u 12 (2 * h + s) 0 30 0) 14 (2 * h + s) 0 (12 * v)) = _ := q1
    have u3' : gS (fl u 12 (2 * h + s) 0 30 0) 10 1 h = v := u3
    rw [if_neg (show ¬ (1 : Int32) < nI s from fun q => by have := (nI_lt'' (a := 1) (by omega) (by omega)).mp q; omega), inB_nI hs (by decide), gd_t, tN_nI (by omega), fill_ev 12 (2 * h + s) 0 (lw' s hs) (by decide), Option.bind_some, gd_t, KH_H kh, gd_t, show inB (0 : Int32) 31 = true from rfl, gd_t, Option.bind_some, u3', zero_c, q1', Option.bind_some, nI_1, pR_pA]
  obtain ⟨f0', p0, e0⟩ := step 63 0 z1 (by decide) a1 a3 a4
  obtain ⟨f1', p1, e1⟩ := step 62 1 (pR (fl z1 12 (2 * h + 0) 0 30 0) 14 (2 * h + 0) f0') (by decide) a1 a3 a4
  have e2 : L_X0_plant_16 h 62 (nI (1 + 1)) (pR (fl (pR (fl z1 12 (2 * h + 0) 0 30 0) 14 (2 * h + 0) f0') 12 (2 * h + 1) 0 30 0) 14 (2 * h + 1) f1') = some (pR (fl (pR (fl z1 12 (2 * h + 0) 0 30 0) 14 (2 * h + 0) f0') 12 (2 * h + 1) 0 30 0) 14 (2 * h + 1) f1') := by
    show B_X0_plant_16 h (L_X0_plant_16 h 61) (nI 2) _ = _
    unfold B_X0_plant_16
    rw [if_pos (show (1 : Int32) < nI 2 by decide)]
  refine ⟨pR (fl (pR (fl z1 12 (2 * h + 0) 0 30 0) 14 (2 * h + 0) f0') 12 (2 * h + 1) 0 30 0) 14 (2 * h + 1) f1', e0.trans (e1.trans e2), ⟨a1, a2, a3, a4, fun s hs => ?_⟩, a5, a6, fun k j i n1 n2 => ?_⟩
  · have w12 : ∀ t, gA (pR (fl (pR (fl z1 12 (2 * h + 0) 0 30 0) 14 (2 * h + 0) f0') 12 (2 * h + 1) 0 30 0) 14 (2 * h + 1) f1') 12 (2 * h + s) t = if 12 = 12 ∧ 2 * h + s = 2 * h + 1 then (if 0 ≤ t ∧ t < 30 then 0 else gA (fl z1 12 (2 * h + 0) 0 30 0) 12 (2 * h + 1) t) else (if 12 = 12 ∧ 2 * h + s = 2 * h + 0 then (if 0 ≤ t ∧ t < 30 then 0 else gA z1 12 (2 * h + 0) t) else gA z1 12 (2 * h + s) t) := fun _ => rfl
    have w14 : ∀ t, gA (pR (fl (pR (fl z1 12 (2 * h + 0) 0 30 0) 14 (2 * h + 0) f0') 12 (2 * h + 1) 0 30 0) 14 (2 * h + 1) f1') 14 (2 * h + s) t = if 14 = 14 ∧ 2 * h + s = 2 * h + 1 then f1' t else (if 14 = 14 ∧ 2 * h + s = 2 * h + 0 then f0' t else gA z1 14 (2 * h + s) t) := fun _ => rfl
    by_cases e : s = 0
    · subst e
      refine ⟨fun t ht => ?_, fun n hn => ?_⟩
      · rw [w12, if_neg (by omega), if_pos ⟨rfl, rfl⟩, if_pos ⟨Nat.zero_le _, ht⟩]
      · rw [w14, if_neg (by omega), if_pos ⟨rfl, rfl⟩, p0 n hn]
    · have : s = 1 := by omega
      subst this
      refine ⟨fun t ht => ?_, fun n hn => ?_⟩
      · rw [w12, if_pos ⟨rfl, rfl⟩, if_pos ⟨Nat.zero_le _, ht⟩]
      · rw [w14, if_pos ⟨rfl, rfl⟩, p1 n hn]
  · rw [gA_pR', if_neg (by omega), gA_fl, if_neg (by omega), gA_pR', if_neg (by omega), gA_fl, if_neg (by omega)]
    exact a7 k j i n1
/-- gardens and HEDGES with numbers below a are planted, the rest is as it was -/
def Pd (T : Nat → Int32) (c : Nat) (z w : XS) (a : Nat) : Prop := (∀ g, g < a → gA w 7 0 g = T (1 + 3 * g) - 48) ∧ (∀ h, h < a → h + 1 < c → Pl w h (clsOf (T (2 + 3 * h))) (kdx (T (2 + 3 * h))) (T (3 + 3 * h) - 48)) ∧ (∀ k f j, ¬ k = 10 → gS w k f j = gS z k f j) ∧ (∀ k j i, ¬ k = 7 → ¬ k = 12 → ¬ k = 14 → ¬ k = 15 → gA w k j i = gA z k j i)
theorem Pl_keep {w w' : XS} {h ci : Nat} {kd v : Int32} (hp : Pl w h ci kd v) (e1 : w'.2.2 h = w.2.2 h) (e2 : ∀ f, gS w' 10 f h = gS w 10 f h) (e3 : ∀ i, gA w' 15 h i = gA w 15 h i) (e4 : ∀ s i, s < 2 → gA w' 12 (2 * h + s) i = gA w 12 (2 * h + s) i ∧ gA w' 14 (2 * h + s) i = gA w 14 (2 * h + s) i) : Pl w' h ci kd v := by
  obtain ⟨p1, p2, p3, p4, p5⟩ := hp
  refine ⟨by rw [e1]; exact p1, by rw [e2]; exact p2, by rw [e2]; exact p3, fun t ht => by rw [e3]; exact p4 t ht, fun s hs => ⟨fun t ht => ?_, fun n hn => ?_⟩⟩
  · rw [(e4 s t hs).1]; exact (p5 s hs).1 t ht
  · rw [(e4 s n hs).2]; exact (p5 s hs).2 n hn
theorem row_L {z : XS} {k i n c : Nat} {T : Nat → Int32} (x3 : Int32) (hk : i + n ≤ 60) (hT : ∀ t, t < n → gA z 6 k (i + t) = T t) (hG : Good T n) (hc : c = (n + 1) / 3) (h1 : gS z 1 2 0 = nI c) : ∀ (m a : Nat) (w : XS), a ≤ c → c - a < m → Pd T c z w a → ∃ w', L_X4_plant_11 k (nI i) x3 m (nI a) w = some w' ∧ Pd T c z w' c := by
  have h20 := good_20 hG
  intro m
  induction m with
  | zero => intro a w _ h; omega
  | succ m ih =>
    intro a w ha hm hp
    obtain ⟨d1, d2, d3, d4⟩ := id hp
    have hc7 : c ≤ 7 := by omega
    have hn : n = 3 * c - 1 := by
      have := hG.2
      omega
    have hc1 : gS w 1 2 0 = nI c := by rw [d3 1 2 0 (by decide)]; exact h1
    show ∃ w', B_X4_plant_11 k (nI i) x3 (L_X4_plant_11 k (nI i) x3 m) (nI a) w = _ ∧ _
    unfold B_X4_plant_11
    rw [hc1]
    by_cases e : a = c
    · subst e
      refine ⟨w, ?_, hp⟩
      rw [if_pos ((nI_lt' (by omega) (by omega)).mpr (Nat.le_refl _))]
    · have pl : nI i + 1 + 3 * nI a = nI (i + (1 + 3 * a)) := by
        rw [show (3 : Int32) * nI a = nI (3 * a) from pk_mul 3 a, nI_1, nI_add]
        congr 1
        omega
      have t0 : gA w 6 k (i + (1 + 3 * a)) = T (1 + 3 * a) := by
        rw [d4 6 k _ (by decide) (by decide) (by decide) (by decide)]
        exact hT _ (by omega)
      rw [if_neg (fun q => by have := (nI_lt' (by omega) (by omega)).mp q; omega), pl, inB_nI (by omega) (by decide), gd_t, inB_nI (by omega) (by decide), gd_t, Option.bind_some, tN_nI (by omega), tN_nI (by omega), t0]
      have hc2 : gS (pA w 7 0 a (T (1 + 3 * a) - 48)) 1 2 0 = nI c := hc1
      rw [isH_r hc2 hc7 (by omega), Option.bind_some]
      by_cases hh : a + 1 < c
      · have lt1 : ltr (T (2 + 3 * a)) := by
          have := hG.1 (3 * a + 2) (by omega)
          rw [show 2 + 3 * a = 3 * a + 2 by omega]
          exact ((okL a _).mp this).2
        have pl1 : nI (i + (1 + 3 * a)) + 1 = nI (i + (2 + 3 * a)) := by
          rw [nI_1]
          congr 1
          omega
        have pl2 : nI (i + (1 + 3 * a)) + 2 = nI (i + (3 + 3 * a)) := by
          rw [show (2 : Int32) = nI 2 from rfl, nI_add]
          congr 1
          omega
        have t1 : gA (pA w 7 0 a (T (1 + 3 * a) - 48)) 6 k (i + (2 + 3 * a)) = T (2 + 3 * a) := by
          show gA w 6 k (i + (2 + 3 * a)) = T (2 + 3 * a)
          rw [d4 6 k _ (by decide) (by decide) (by decide) (by decide)]
          exact hT _ (by omega)
        have t2 : gA (pA w 7 0 a (T (1 + 3 * a) - 48)) 6 k (i + (3 + 3 * a)) = T (3 + 3 * a) := by
          show gA w 6 k (i + (3 + 3 * a)) = T (3 + 3 * a)
          rw [d4 6 k _ (by decide) (by decide) (by decide) (by decide)]
          exact hT _ (by omega)
        obtain ⟨w', q1, q2, q3, q4, q5⟩ := plant_ev (z := pA w 7 0 a (T (1 + 3 * a) - 48)) (h := a) (ci := clsOf (T (2 + 3 * a))) (kd := kdx (T (2 + 3 * a))) (v := T (3 + 3 * a) - 48) (by omega) (cls_KH lt1)
        rw [if_pos hh, if_neg nm1, inB_nI (by omega) (by decide), gd_t, pl1, inB_nI (by omega) (by decide), gd_t, pl2, inB_nI (by omega) (by decide), gd_t, tN_nI (by omega), tN_nI (by omega), t1, t2, seed_ev lt1, Option.bind_some, q1, Option.bind_some, nI_1]
        refine ih (a + 1) w' (by omega) (by omega) ⟨fun g hg => ?_, fun h hha hhc => ?_, fun k' f' j' hk' => ?_, fun k' j' i' n7 n12 n14 n15 => ?_⟩
        · rw [q5 7 0 g (by omega) (by omega), gA_pA']
          by_cases eg : g = a
          · rw [if_pos ⟨rfl, rfl, eg⟩, eg]
          · rw [if_neg (fun x => eg x.2.2)]
            exact d1 g (by omega)
        · by_cases eh : h = a
          · subst eh; exact q2
          · refine Pl_keep (d2 h (by omega) hhc) (q4 h eh) (fun f => q3 10 f h (by omega)) (fun i' => q5 15 h i' (by omega) (by omega)) (fun s i' hs => ⟨?_, ?_⟩)
            · rw [q5 12 (2 * h + s) i' (by omega) (by omega)]; rfl
            · rw [q5 14 (2 * h + s) i' (by omega) (by omega)]; rfl
        · rw [q3 k' f' j' (by omega)]
          exact d3 k' f' j' hk'
        · rw [q5 k' j' i' (by omega) (by omega), gA_pA', if_neg (by omega)]
          exact d4 k' j' i' n7 n12 n14 n15
      · rw [if_neg hh, if_pos nm2, nI_1]
        refine ih (a + 1) (pA w 7 0 a (T (1 + 3 * a) - 48)) (by omega) (by omega) ⟨fun g hg => ?_, fun h hha hhc => ?_, fun k' f' j' hk' => d3 k' f' j' hk', fun k' j' i' n7 n12 n14 n15 => ?_⟩
        · rw [gA_pA']
          by_cases eg : g = a
          · rw [if_pos ⟨rfl, rfl, eg⟩, eg]
          · rw [if_neg (fun x => eg x.2.2)]
            exact d1 g (by omega)
        · exact d2 h (by omega) hhc
        · rw [gA_pA', if_neg (by omega)]
          exact d4 k' j' i' n7 n12 n14 n15
theorem row_ev {z : XS} {k i n : Nat} {T : Nat → Int32} (hk : i + n ≤ 60) (hT : ∀ t, t < n → gA z 6 k (i + t) = T t) (hG : Good T n) : ∃ w', D_X4_plant k (nI i) (nI n) z = some w' ∧ Pd T ((n + 1) / 3) (pS z 1 2 0 (nI ((n + 1) / 3))) w' ((n + 1) / 3) := by
  have h20 := good_20 hG
  unfold D_X4_plant D_X6_gardensOf
  rw [Option.bind_some, Option.bind_some, nI_1, show nI (n + 1) / 3 = nI ((n + 1) / 3) from pk_div (by omega) (by decide) (by decide)]
  exact row_L (z := pS z 1 2 0 (nI ((n + 1) / 3))) (nI n) hk hT hG rfl rfl 64 0 _ (Nat.zero_le _) (by omega) ⟨fun g hg => by omega, fun h hh => by omega, fun _ _ _ _ => rfl, fun _ _ _ _ _ _ _ => rfl⟩
