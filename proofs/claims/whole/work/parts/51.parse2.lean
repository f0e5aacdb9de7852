theorem okL (k : Nat) (x : Int32) : okX (3 * k + 2) x ↔ k < 6 ∧ ltr x := by
  unfold okX
  constructor
  · intro q
    rcases q with q | q | q
    · omega
    · exact ⟨by omega, q.2.2.2⟩
    · omega
  · intro q
    exact Or.inr (Or.inl ⟨by omega, by omega, by omega, q.2⟩)
theorem okD {p : Nat} (h0 : ¬ p = 0) (h1 : ¬ (p - 1) % 3 = 1) (x : Int32) : okX p x ↔ dgt x := by
  unfold okX
  constructor
  · intro q
    rcases q with q | q | q
    · omega
    · omega
    · exact q.2.2
  · intro q
    exact Or.inr (Or.inr ⟨h0, h1, q⟩)
theorem ok0 (x : Int32) : okX 0 x ↔ x = 103 := by
  unfold okX
  constructor
  · intro q
    rcases q with q | q | q
    · exact q.2
    · omega
    · omega
  · intro q
    exact Or.inl ⟨rfl, q⟩
def Rd (T : Nat → Int32) (k : Nat) (f5 f6 f7 : Nat → Int32) : Prop := (∀ g, g ≤ k → f5 g = T (1 + 3 * g) - 48) ∧ ∀ h, h < k → f6 h = kdx (T (2 + 3 * h)) ∧ f7 h = T (3 + 3 * h) - 48
theorem more2 {z : XS} {F n k : Nat} {T : Nat → Int32} (hF : F + n ≤ 240) (hn : n ≤ 60) (hk : k ≤ 6) (hT : ∀ t, t < n → gA z 18 15 (F + t) = T t) (f5 f6 f7 : Nat → Int32) (hok : ∀ t, t < 3 * k + 2 → okX t (T t)) (hle : 3 * k + 2 ≤ n) (h1 : 1 ≤ k → 3 * k + 2 < n) (hR : Rd T k f5 f6 f7) :
    (∃ p, Flt T n p ∧ D_X10_readsMore (nI F) (nI n) (rst z (nI (3 * k + 2)) (nI (k + 1)) f5 f6 f7) = some (0, rst z (nI p) (nI (k + 1)) f5 f6 f7)) ∨
    (∃ g5 g6 g7, k < 6 ∧ 3 * (k + 1) + 2 ≤ n ∧ (∀ t, t < 3 * (k + 1) + 2 → okX t (T t)) ∧ Rd T (k + 1) g5 g6 g7 ∧ D_X10_readsMore (nI F) (nI n) (rst z (nI (3 * k + 2)) (nI (k + 1)) f5 f6 f7) = some (1, rst z (nI (3 * (k + 1) + 2)) (nI (k + 1 + 1)) g5 g6 g7)) := by
  have ext : ∀ p, (∀ t, t < p → okX t (T t)) → okX p (T p) → ∀ t, t < p + 1 → okX t (T t) := fun p h o t ht => by
    by_cases e : t = p
    · subst e; exact o
    · exact h t (by omega)
  rcases more_ev hF hn hk hT f5 f6 f7 with ⟨a, e⟩ | ⟨a, b, e⟩ | ⟨a, b, c, e⟩ | ⟨a, b, c, e⟩
  · refine Or.inl ⟨3 * k + 2, ⟨hle, hok, ?_⟩, e⟩
    by_cases q : 3 * k + 2 < n
    · exact Or.inl ⟨q, fun o => a ⟨((okL k _).mp o).1, q, ((okL k _).mp o).2⟩⟩
    · exact Or.inr ⟨by omega, fun w => by
        have : ¬ 1 ≤ k := fun t => q (h1 t)
        omega⟩
  · have o2 := ext _ hok ((okL k _).mpr ⟨a.1, a.2.2⟩)
    refine Or.inl ⟨3 * k + 3, ⟨by omega, o2, ?_⟩, e⟩
    by_cases q : 3 * k + 3 < n
    · exact Or.inl ⟨q, fun o => b ⟨q, (okD (by omega) (by omega) _).mp o⟩⟩
    · exact Or.inr ⟨by omega, fun w => by omega⟩
  · have o2 := ext _ hok ((okL k _).mpr ⟨a.1, a.2.2⟩)
    have o3 := ext (3 * k + 3) o2 ((okD (by omega) (by omega) _).mpr b.2)
    refine Or.inl ⟨3 * k + 4, ⟨by omega, o3, ?_⟩, e⟩
    by_cases q : 3 * k + 4 < n
    · exact Or.inl ⟨q, fun o => c ⟨q, (okD (by omega) (by omega) _).mp o⟩⟩
    · exact Or.inr ⟨by omega, fun w => by omega⟩
  · have o2 := ext _ hok ((okL k _).mpr ⟨a.1, a.2.2⟩)
    have o3 := ext (3 * k + 3) o2 ((okD (by omega) (by omega) _).mpr b.2)
    have o4 := ext (3 * k + 4) o3 ((okD (by omega) (by omega) _).mpr c.2)
    refine Or.inr ⟨_, _, _, a.1, by omega, o4, ⟨fun g hg => ?_, fun h hh => ?_⟩, e⟩
    · by_cases q : g = k + 1
      · subst q
        rw [wupE, show 3 * k + 4 = 1 + 3 * (k + 1) by omega]
      · rw [wupN q]
        exact hR.1 g (by omega)
    · by_cases q : h = k
      · subst q
        rw [wupE, wupE, show 3 * h + 2 = 2 + 3 * h by omega, show 3 * h + 3 = 3 + 3 * h by omega]
        exact ⟨rfl, rfl⟩
      · rw [wupN q, wupN q]
        exact hR.2 h (by omega)
theorem all_0 (x1 x2 : Int32) (m : Nat) (w : XS) : L_X10_readsAll_69 x1 x2 (m + 1) 0 w = some (0, w) := by
  show B_X10_readsAll_69 x1 x2 (L_X10_readsAll_69 x1 x2 m) 0 w = _
  unfold B_X10_readsAll_69
  rfl
theorem all_L {z : XS} {F n : Nat} {T : Nat → Int32} (hF : F + n ≤ 240) (hn : n ≤ 60) (hT : ∀ t, t < n → gA z 18 15 (F + t) = T t) : ∀ (m k : Nat) (f5 f6 f7 : Nat → Int32), 1 ≤ k → k ≤ 6 → 7 - k < m → (∀ t, t < 3 * k + 2 → okX t (T t)) → 3 * k + 2 ≤ n → Rd T k f5 f6 f7 →
    (∃ p b g5 g6 g7, Flt T n p ∧ L_X10_readsAll_69 (nI F) (nI n) m 1 (rst z (nI (3 * k + 2)) (nI (k + 1)) f5 f6 f7) = some (0, rst z (nI p) b g5 g6 g7)) ∨
    (∃ g5 g6 g7, Good T n ∧ Rd T ((n + 1) / 3 - 1) g5 g6 g7 ∧ L_X10_readsAll_69 (nI F) (nI n) m 1 (rst z (nI (3 * k + 2)) (nI (k + 1)) f5 f6 f7) = some (1, rst z (nI n) (nI ((n + 1) / 3)) g5 g6 g7)) := by
  intro m
  induction m with
  | zero => intro k _ _ _ _ _ h; omega
  | succ m ih =>
    intro k f5 f6 f7 h1 hk hm hok hle hR
    show (∃ p b g5 g6 g7, Flt T n p ∧ B_X10_readsAll_69 (nI F) (nI n) (L_X10_readsAll_69 (nI F) (nI n) m) 1 (rst z (nI (3 * k + 2)) (nI (k + 1)) f5 f6 f7) = _) ∨ (∃ g5 g6 g7, Good T n ∧ Rd T ((n + 1) / 3 - 1) g5 g6 g7 ∧ B_X10_readsAll_69 (nI F) (nI n) (L_X10_readsAll_69 (nI F) (nI n) m) 1 (rst z (nI (3 * k + 2)) (nI (k + 1)) f5 f6 f7) = _)
    unfold B_X10_readsAll_69
    rw [if_neg nm1, rst_g7]
    by_cases e : 3 * k + 2 = n
    · rw [if_pos ((nI_lt' (by omega) (by omega)).mpr (by omega)), show isZ 1 = true from by decide, gd_t]
      refine Or.inr ⟨f5, f6, f7, ⟨fun i hi => hok i (by omega), by omega, by omega⟩, ?_, ?_⟩
      · rw [show (n + 1) / 3 - 1 = k by omega]
        exact hR
      · rw [← e, show (3 * k + 2 + 1) / 3 = k + 1 by omega]
    · rw [if_neg (fun q => by have := (nI_lt' (by omega) (by omega)).mp q; omega)]
      rcases more2 hF hn hk hT f5 f6 f7 hok hle (fun _ => by omega) hR with ⟨p, hp, e2⟩ | ⟨g5, g6, g7, h6, hle', hok', hR', e2⟩
      · obtain ⟨m', rfl⟩ : ∃ m', m = m' + 1 := ⟨m - 1, by omega⟩
        refine Or.inl ⟨p, nI (k + 1), f5, f6, f7, hp, ?_⟩
        rw [e2, Option.bind_some]
        exact all_0 _ _ _ _
      · rw [e2, Option.bind_some]
        exact ih (k + 1) g5 g6 g7 (by omega) (by omega) (by omega) hok' hle' hR'
theorem all_ev {z : XS} {F n : Nat} {T : Nat → Int32} (hF : F + n ≤ 240) (hn : n ≤ 60) (hT : ∀ t, t < n → gA z 18 15 (F + t) = T t) :
    (∃ p b g5 g6 g7, Flt T n p ∧ D_X10_readsAll (nI F) (nI n) z = some (0, rst z (nI p) b g5 g6 g7)) ∨
    (∃ g5 g6 g7, Good T n ∧ Rd T ((n + 1) / 3 - 1) g5 g6 g7 ∧ D_X10_readsAll (nI F) (nI n) z = some (1, rst z (nI n) (nI ((n + 1) / 3)) g5 g6 g7)) := by
  unfold D_X10_readsAll
  rw [Option.bind_some, Option.bind_some, rst_0]
  generalize (fun i => gA z 18 5 i) = f5
  generalize (fun i => gA z 18 6 i) = f6
  generalize (fun i => gA z 18 7 i) = f7
  have c0 := code_ev (z := z) (p := 0) (b := 1) hF (by omega) hT f5 f6 f7
  rw [show D_X10_codeAt (nI F) (nI n) (rst z 0 1 f5 f6 f7) = _ from c0, Option.bind_some]
  by_cases g0 : 0 < n ∧ T 0 = 103
  · rw [if_neg (show ¬ n ≤ 0 by omega), if_pos (show T 0 = 103 from g0.2), Option.bind_some, rst_g7, nI_1, rst_7, fig_ev hF (by omega) hT]
    have o1 : ∀ t, t < 1 → okX t (T t) := fun t ht => by
      have : t = 0 := by omega
      subst this
      exact (ok0 _).mpr g0.2
    by_cases d : 1 < n ∧ dgt (T 1)
    · obtain ⟨v, hv, e1⟩ := dig_n d.2
      rw [if_pos d, Option.bind_some, show inB (0 : Int32) 7 = true from rfl, gd_t, Option.bind_some, gd_t, zero_c, rst_5, rst_g5, wupE, e1, if_neg (nI_nneg (by omega))]
      have o2 : ∀ t, t < 2 → okX t (T t) := fun t ht => by
        by_cases e : t = 1
        · subst e
          exact (okD (by omega) (by omega) _).mpr d.2
        · exact o1 t (by omega)
      have m2 := more2 (k := 0) hF hn (by omega) hT (wup f5 0 (nI v)) f6 f7 o2 (by omega) (fun h => by omega) ⟨fun g hg => by
        have : g = 0 := by omega
        subst this
        rw [wupE, ← e1], fun h hh => by omega⟩
      rcases m2 with ⟨p, hp, e2⟩ | ⟨g5, g6, g7, h6, hle', hok', hR', e2⟩
      · refine Or.inl ⟨p, nI (0 + 1), wup f5 0 (nI v), f6, f7, hp, ?_⟩
        refine Eq.trans (congrArg (fun t => Option.bind t _) e2) ?_
        exact all_0 (nI F) (nI n) 63 _
      · have A := all_L hF hn hT 64 (0 + 1) g5 g6 g7 (by omega) (by omega) (by omega) hok' hle' hR'
        have B : ∀ (R : Int32 × XS), L_X10_readsAll_69 (nI F) (nI n) 64 1 (rst z (nI (3 * (0 + 1) + 2)) (nI (0 + 1 + 1)) g5 g6 g7) = some R → ((D_X10_readsMore (nI F) (nI n) (rst z (nI (1 + 1)) 1 (wup f5 0 (nI v)) f6 f7)).bind fun q16 => ((if q16.1 = 0 then L_X10_readsAll_69 (nI F) (nI n) 64 (0 : Int32) q16.2 else L_X10_readsAll_69 (nI F) (nI n) 64 (1 : Int32) q16.2))) = some R := by
          intro R hR2
          refine Eq.trans (congrArg (fun t => Option.bind t _) e2) ?_
          exact hR2
        rcases A with ⟨p, b, k5, k6, k7, hp, e3⟩ | ⟨k5, k6, k7, hG, hRd, e3⟩
        · exact Or.inl ⟨p, b, k5, k6, k7, hp, B _ e3⟩
        · exact Or.inr ⟨k5, k6, k7, hG, hRd, B _ e3⟩
    · rw [if_neg d, Option.bind_some, show inB (0 : Int32) 7 = true from rfl, gd_t, Option.bind_some, gd_t, zero_c, rst_5, rst_g5, wupE, if_pos (show (-9 : Int32) < 0 by decide), all_0]
      refine Or.inl ⟨1, 1, wup f5 0 (-9), f6, f7, ⟨by omega, o1, ?_⟩, rfl⟩
      by_cases q : 1 < n
      · exact Or.inl ⟨q, fun o => d ⟨q, (okD (by omega) (by omega) _).mp o⟩⟩
      · exact Or.inr ⟨by omega, fun w => by omega⟩
  · refine Or.inl ⟨0, 1, f5, f6, f7, ⟨Nat.zero_le _, fun i hi => by omega, ?_⟩, ?_⟩
    · by_cases q : 0 < n
      · exact Or.inl ⟨q, fun o => g0 ⟨q, (ok0 _).mp o⟩⟩
      · exact Or.inr ⟨by omega, fun w => by omega⟩
    · by_cases q : 0 < n
      · rw [if_neg (show ¬ n ≤ 0 by omega), if_neg (show ¬ T 0 = 103 from fun o => g0 ⟨q, o⟩)]
      · rw [if_pos (show n ≤ 0 by omega), if_neg (show ¬ (-9 : Int32) = 103 by decide)]
