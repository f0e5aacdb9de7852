/-! the text: the class -/
def okX (p : Nat) (x : Int32) : Prop := (p = 0 ∧ x = 103) ∨ (¬ p = 0 ∧ (p - 1) % 3 = 1 ∧ (p - 1) / 3 < 6 ∧ (x = 104 ∨ x = 121 ∨ x = 98)) ∨ (¬ p = 0 ∧ ¬ (p - 1) % 3 = 1 ∧ 48 ≤ x.toInt ∧ x.toInt ≤ 57)
theorem part_ev {p : Nat} (h0 : 1 ≤ p) (hp : p ≤ 1000) (z : XS) : D_X6_partAt (nI p) z = some (nI ((p - 1) % 3), z) := by
  unfold D_X6_partAt
  rw [show nI p - 1 = nI (p - 1) from nI_sub (b := 1) h0, show ∀ t, nI t - nI t / 3 * 3 = nI t - nI t / nI 3 * nI 3 from fun _ => rfl, nI_mod (by omega) (by decide) (by decide)]
theorem gard_ev {p : Nat} (h0 : 1 ≤ p) (hp : p ≤ 1000) (z : XS) : D_X6_gardenAt (nI p) z = some (nI ((p - 1) / 3), z) := by
  unfold D_X6_gardenAt
  rw [show nI p - 1 = nI (p - 1) from nI_sub (b := 1) h0, show ∀ t, nI t / 3 = nI t / nI 3 from fun _ => rfl, pk_div (by omega) (by decide) (by decide)]
theorem kind6_ev (x : Int32) (z : XS) : (∃ v, (v = 0 ∨ v = 1 ∨ v = 2) ∧ (x = 104 ∨ x = 121 ∨ x = 98) ∧ D_X6_kindOf x z = some (v, z)) ∨ (¬ (x = 104 ∨ x = 121 ∨ x = 98) ∧ D_X6_kindOf x z = some (-1, z)) := by
  unfold D_X6_kindOf
  by_cases h1 : x = 98
  · exact Or.inl ⟨2, by decide, Or.inr (Or.inr h1), by rw [if_pos h1]⟩
  · by_cases h2 : x = 104
    · exact Or.inl ⟨0, by decide, Or.inl h2, by rw [if_neg h1, if_pos h2]⟩
    · by_cases h3 : x = 121
      · exact Or.inl ⟨1, by decide, Or.inr (Or.inl h3), by rw [if_neg h1, if_neg h2, if_pos h3]⟩
      · exact Or.inr ⟨fun q => q.elim h2 (fun q => q.elim h3 h1), by rw [if_neg h1, if_neg h2, if_neg h3]⟩
theorem goes_ev {p : Nat} (hp : p ≤ 1000) (x : Int32) (z : XS) : (okX p x ∧ D_X6_goesOn (nI p) x z = some (1, z)) ∨ (¬ okX p x ∧ D_X6_goesOn (nI p) x z = some (0, z)) := by
  unfold D_X6_goesOn
  by_cases h0 : p = 0
  · subst h0
    rw [if_pos (show nI 0 = 0 from rfl)]
    by_cases h1 : x = 103
    · exact Or.inl ⟨Or.inl ⟨rfl, h1⟩, by rw [if_pos h1]⟩
    · refine Or.inr ⟨fun q => ?_, by rw [if_neg h1]⟩
      rcases q with q | q | q
      · exact h1 q.2
      · exact q.1 rfl
      · exact q.1 rfl
  · have n0 : ¬ nI p = 0 := fun q => h0 ((nI_inj (b := 0) (by omega) (by omega)).mp q)
    rw [if_neg n0, part_ev (by omega) hp, Option.bind_some]
    have m3 : (p - 1) % 3 < 3 := Nat.mod_lt _ (by decide)
    by_cases h1 : (p - 1) % 3 = 1
    · rw [if_pos (show nI ((p - 1) % 3) = 1 by rw [h1]; rfl), gard_ev (by omega) hp, Option.bind_some]
      by_cases h2 : (p - 1) / 3 < 6
      · rw [if_neg (show ¬ (6 : Int32) ≤ nI ((p - 1) / 3) from fun q => by have := (nI_lt' (a := 6) (by omega) (by omega)).mp q; omega)]
        rcases kind6_ev x z with ⟨v, hv, hx, e⟩ | ⟨hx, e⟩
        · refine Or.inl ⟨Or.inr (Or.inl ⟨h0, h1, h2, hx⟩), ?_⟩
          rw [e, Option.bind_some]
          rcases hv with rfl | rfl | rfl <;> rfl
        · refine Or.inr ⟨fun q => ?_, ?_⟩
          · rcases q with q | q | q
            · exact h0 q.1
            · exact hx q.2.2.2
            · exact q.2.1 h1
          · rw [e, Option.bind_some]
            rfl
      · rw [if_pos (show (6 : Int32) ≤ nI ((p - 1) / 3) from (nI_lt' (a := 6) (by omega) (by omega)).mpr (by omega))]
        refine Or.inr ⟨fun q => ?_, rfl⟩
        rcases q with q | q | q
        · exact h0 q.1
        · exact h2 q.2.2.1
        · exact q.2.1 h1
    · rw [if_neg (show ¬ nI ((p - 1) % 3) = 1 from fun q => h1 ((nI_inj (b := 1) (by omega) (by omega)).mp q))]
      have e48 : (48 : Int32).toInt = 48 := rfl
      have e57 : (57 : Int32).toInt = 57 := rfl
      by_cases h2 : x < 48
      · have a := (i_lt _ _).mp h2
        rw [if_pos h2]
        refine Or.inr ⟨fun q => ?_, rfl⟩
        rcases q with q | q | q
        · exact h0 q.1
        · exact h1 q.2.1
        · omega
      · have a : ¬ x.toInt < (48 : Int32).toInt := fun q => h2 ((i_lt _ _).mpr q)
        rw [if_neg h2]
        by_cases h3 : 57 < x
        · have b := (i_lt _ _).mp h3
          rw [if_pos h3]
          refine Or.inr ⟨fun q => ?_, rfl⟩
          rcases q with q | q | q
          · exact h0 q.1
          · exact h1 q.2.1
          · omega
        · have b : ¬ (57 : Int32).toInt < x.toInt := fun q => h3 ((i_lt _ _).mpr q)
          rw [if_neg h3]
          exact Or.inl ⟨Or.inr (Or.inr ⟨h0, h1, by omega, by omega⟩), rfl⟩
theorem whole_ev {n : Nat} (hn : n ≤ 1000) (z : XS) : D_X6_isWhole (nI n) z = some (if 5 ≤ n ∧ n % 3 = 2 then 1 else 0, z) := by
  unfold D_X6_isWhole
  by_cases h1 : n ≤ 1
  · rw [if_pos (show nI n ≤ 1 from (nI_lt' (b := 1) (by omega) (by omega)).mpr h1), if_neg (by omega)]
  · rw [if_neg (show ¬ nI n ≤ 1 from fun q => h1 ((nI_lt' (b := 1) (by omega) (by omega)).mp q)), show nI n - 1 = nI (n - 1) from nI_sub (b := 1) (by omega), part_ev (by omega) (by omega), Option.bind_some, gard_ev (by omega) (by omega), Option.bind_some]
    by_cases h2 : (n - 1 - 1) % 3 = 0
    · rw [if_pos (show nI ((n - 1 - 1) % 3) = 0 by rw [h2]; rfl)]
      by_cases h3 : (n - 1 - 1) / 3 ≤ 0
      · rw [if_pos (show nI ((n - 1 - 1) / 3) ≤ 0 from (nI_lt' (b := 0) (by omega) (by omega)).mpr h3), if_neg (by omega)]
      · rw [if_neg (show ¬ nI ((n - 1 - 1) / 3) ≤ 0 from fun q => h3 ((nI_lt' (b := 0) (by omega) (by omega)).mp q)), if_pos (by omega)]
    · rw [if_neg (show ¬ nI ((n - 1 - 1) % 3) = 0 from fun q => h2 ((nI_inj (b := 0) (by omega) (by omega)).mp q)), if_neg (by omega)]
def Flt (T : Nat → Int32) (n p : Nat) : Prop := p ≤ n ∧ (∀ i, i < p → okX i (T i)) ∧ ((p < n ∧ ¬ okX p (T p)) ∨ (p = n ∧ ¬ (5 ≤ n ∧ n % 3 = 2)))
def Good (T : Nat → Int32) (n : Nat) : Prop := (∀ i, i < n → okX i (T i)) ∧ 5 ≤ n ∧ n % 3 = 2
theorem flt_uni {T : Nat → Int32} {n p q : Nat} (h1 : Flt T n p) (h2 : Flt T n q) : p = q := by
  obtain ⟨a1, a2, a3⟩ := h1
  obtain ⟨b1, b2, b3⟩ := h2
  rcases Nat.lt_trichotomy p q with h | h | h
  · rcases a3 with ⟨_, a⟩ | ⟨a, _⟩
    · exact absurd (b2 p h) a
    · omega
  · exact h
  · rcases b3 with ⟨_, b⟩ | ⟨b, _⟩
    · exact absurd (a2 q h) b
    · omega
theorem flt_good {T : Nat → Int32} {n p : Nat} (h1 : Flt T n p) (h2 : Good T n) : False := by
  rcases h1.2.2 with ⟨a, b⟩ | ⟨a, b⟩
  · exact b (h2.1 p a)
  · exact b h2.2
theorem good_20 {T : Nat → Int32} {n : Nat} (h : Good T n) : n ≤ 20 := by
  by_cases e : n ≤ 20
  · exact e
  · exfalso
    rcases h.1 20 (by omega) with q | q | q
    · exact absurd q.1 (by decide)
    · exact absurd q.2.2.1 (by decide)
    · exact absurd (show (20 - 1) % 3 = 1 by decide) q.2.1
theorem ff_L {z : XS} {k i n : Nat} {T : Nat → Int32} (hin : i + n ≤ 60) (hT : ∀ t, t < n → gA z 6 k (i + t) = T t) : ∀ (m a : Nat), a ≤ n → n - a < m → (∀ t, t < a → okX t (T t)) → (∃ p, Flt T n p ∧ L_X6_firstFault_2 k (nI i) (nI n) m (nI a) z = some (nI p, z)) ∨ (Good T n ∧ L_X6_firstFault_2 k (nI i) (nI n) m (nI a) z = some (-1, z)) := by
  intro m
  induction m with
  | zero => intro a _ h; omega
  | succ m ih =>
    intro a ha hm hok
    show (∃ p, Flt T n p ∧ B_X6_firstFault_2 k (nI i) (nI n) (L_X6_firstFault_2 k (nI i) (nI n) m) (nI a) z = _) ∨ (Good T n ∧ B_X6_firstFault_2 k (nI i) (nI n) (L_X6_firstFault_2 k (nI i) (nI n) m) (nI a) z = _)
    unfold B_X6_firstFault_2
    by_cases e : a = n
    · subst e
      rw [if_pos ((nI_lt' (by omega) (by omega)).mpr (Nat.le_refl _)), whole_ev (by omega), Option.bind_some]
      by_cases w : 5 ≤ a ∧ a % 3 = 2
      · exact Or.inr ⟨⟨hok, w⟩, by rw [if_pos w, if_neg nm1]⟩
      · exact Or.inl ⟨a, ⟨Nat.le_refl _, hok, Or.inr ⟨rfl, w⟩⟩, by rw [if_neg w, if_pos nm2]⟩
    · rw [if_neg (fun q => by have := (nI_lt' (by omega) (by omega)).mp q; omega), nI_add, inB_nI (by omega) (by decide), gd_t, tN_nI (by omega), hT a (by omega)]
      rcases goes_ev (show a ≤ 1000 by omega) (T a) z with ⟨o, g⟩ | ⟨o, g⟩
      · rw [g, Option.bind_some, nI_1]
        have := ih (a + 1) (by omega) (by omega) (fun t ht => by
          by_cases et : t = a
          · subst et; exact o
          · exact hok t (by omega))
        exact this
      · rw [g, Option.bind_some]
        exact Or.inl ⟨a, ⟨ha, hok, Or.inl ⟨by omega, o⟩⟩, if_pos nm2⟩
theorem ff_ev {z : XS} {k i n : Nat} {T : Nat → Int32} (hin : i + n ≤ 60) (hT : ∀ t, t < n → gA z 6 k (i + t) = T t) : (∃ p, Flt T n p ∧ D_X6_firstFault k (nI i) (nI n) z = some (nI p, z)) ∨ (Good T n ∧ D_X6_firstFault k (nI i) (nI n) z = some (-1, z)) := ff_L hin hT 64 0 (Nat.zero_le _) (by omega) (fun t ht => by omega)
