/-! the text: the reference -/
def rst (z : XS) (a b : Int32) (f5 f6 f7 : Nat → Int32) : XS := pS (pS (pR (pR (pR z 18 5 f5) 18 6 f6) 18 7 f7) 17 7 0 a) 17 8 0 b
theorem rst_7 (z : XS) (a b v : Int32) (f5 f6 f7 : Nat → Int32) : pS (rst z a b f5 f6 f7) 17 7 0 v = rst z v b f5 f6 f7 := by
  apply xs_ext
  · intro k' f' j'
    unfold rst
    rw [gS_pS', gS_pS', gS_pS', gS_pS', gS_pS']
    by_cases q : k' = 17 ∧ f' = 7 ∧ j' = 0
    · rw [if_pos q, if_neg (by omega), if_pos q]
    · rw [if_neg q, if_neg q, if_neg q]
  · intro _ _ _; rfl
  · intro _; rfl
theorem rst_8 (z : XS) (a b v : Int32) (f5 f6 f7 : Nat → Int32) : pS (rst z a b f5 f6 f7) 17 8 0 v = rst z a v f5 f6 f7 := pS_pS _ _ _ _ _ _
theorem rst_5 (z : XS) (a b : Int32) (f5 f6 f7 : Nat → Int32) (i : Nat) (v : Int32) : pA (rst z a b f5 f6 f7) 18 5 i v = rst z a b (wup f5 i v) f6 f7 := by
  apply xs_ext
  · intro _ _ _; rfl
  · intro k' j' i'
    by_cases q : k' = 18 ∧ j' = 5
    · obtain ⟨rfl, rfl⟩ := q
      show (if 18 = 18 ∧ 5 = 5 ∧ i' = i then v else f5 i') = wup f5 i v i'
      unfold wup
      by_cases e : i' = i
      · rw [if_pos ⟨rfl, rfl, e⟩, if_pos e]
      · rw [if_neg (fun x => e x.2.2), if_neg e]
    · unfold rst
      rw [gA_pA', gA_pS, gA_pS, gA_pS, gA_pS, gA_pR', gA_pR', gA_pR', gA_pR', gA_pR', gA_pR', if_neg (fun x => q ⟨x.1, x.2.1⟩), if_neg q, if_neg q]
  · intro _; rfl
theorem rst_6 (z : XS) (a b : Int32) (f5 f6 f7 : Nat → Int32) (i : Nat) (v : Int32) : pA (rst z a b f5 f6 f7) 18 6 i v = rst z a b f5 (wup f6 i v) f7 := by
  apply xs_ext
  · intro _ _ _; rfl
  · intro k' j' i'
    by_cases q : k' = 18 ∧ j' = 6
    · obtain ⟨rfl, rfl⟩ := q
      show (if 18 = 18 ∧ 6 = 6 ∧ i' = i then v else f6 i') = wup f6 i v i'
      unfold wup
      by_cases e : i' = i
      · rw [if_pos ⟨rfl, rfl, e⟩, if_pos e]
      · rw [if_neg (fun x => e x.2.2), if_neg e]
    · unfold rst
      rw [gA_pA', gA_pS, gA_pS, gA_pS, gA_pS, gA_pR', gA_pR', gA_pR', gA_pR', gA_pR', gA_pR', if_neg (fun x => q ⟨x.1, x.2.1⟩), if_neg q, if_neg q]
  · intro _; rfl
theorem rst_f7 (z : XS) (a b : Int32) (f5 f6 f7 : Nat → Int32) (i : Nat) (v : Int32) : pA (rst z a b f5 f6 f7) 18 7 i v = rst z a b f5 f6 (wup f7 i v) := by
  apply xs_ext
  · intro _ _ _; rfl
  · intro k' j' i'
    by_cases q : k' = 18 ∧ j' = 7
    · obtain ⟨rfl, rfl⟩ := q
      show (if 18 = 18 ∧ 7 = 7 ∧ i' = i then v else f7 i') = wup f7 i v i'
      unfold wup
      by_cases e : i' = i
      · rw [if_pos ⟨rfl, rfl, e⟩, if_pos e]
      · rw [if_neg (fun x => e x.2.2), if_neg e]
    · unfold rst
      rw [gA_pA', gA_pS, gA_pS, gA_pS, gA_pS, gA_pR', gA_pR', gA_pR', gA_pR', gA_pR', gA_pR', if_neg (fun x => q ⟨x.1, x.2.1⟩), if_neg q, if_neg q]
  · intro _; rfl
theorem rst_g7 (z : XS) (a b : Int32) (f5 f6 f7 : Nat → Int32) : gS (rst z a b f5 f6 f7) 17 7 0 = a := rfl
theorem rst_g8 (z : XS) (a b : Int32) (f5 f6 f7 : Nat → Int32) : gS (rst z a b f5 f6 f7) 17 8 0 = b := rfl
theorem rst_g15 (z : XS) (a b : Int32) (f5 f6 f7 : Nat → Int32) (i : Nat) : gA (rst z a b f5 f6 f7) 18 15 i = gA z 18 15 i := rfl
theorem rst_g5 (z : XS) (a b : Int32) (f5 f6 f7 : Nat → Int32) (i : Nat) : gA (rst z a b f5 f6 f7) 18 5 i = f5 i := rfl
theorem rst_0 (z : XS) (a b : Int32) : pS (pS z 17 7 0 a) 17 8 0 b = rst z a b (fun i => gA z 18 5 i) (fun i => gA z 18 6 i) (fun i => gA z 18 7 i) := by
  unfold rst
  rw [pR_self, pR_self, pR_self]
theorem code_ev {z : XS} {F n p : Nat} {T : Nat → Int32} (hF : F + n ≤ 240) (hp : p ≤ 1000) (hT : ∀ t, t < n → gA z 18 15 (F + t) = T t) (b : Int32) (f5 f6 f7 : Nat → Int32) : D_X10_codeAt (nI F) (nI n) (rst z (nI p) b f5 f6 f7) = some (if n ≤ p then -9 else T p, rst z (nI p) b f5 f6 f7) := by
  unfold D_X10_codeAt
  rw [rst_g7]
  by_cases h : n ≤ p
  · rw [if_pos ((nI_lt' (by omega) (by omega)).mpr h), if_pos h]
  · rw [if_neg (fun q => h ((nI_lt' (by omega) (by omega)).mp q)), if_neg h, nI_add, inB_nI (by omega) (by decide), gd_t, tN_nI (by omega), rst_g15, hT p (by omega)]
abbrev dgt (x : Int32) : Prop := 48 ≤ x.toInt ∧ x.toInt ≤ 57
theorem dig_iff (x : Int32) : (0 ≤ (x - 48).toInt ∧ (x - 48).toInt ≤ 9) ↔ dgt x := by
  have rx := i_rng x
  have e48 : (48 : Int32).toInt = 48 := rfl
  unfold dgt
  by_cases h : -2147483600 ≤ x.toInt
  · rw [i_sub (by omega) (by omega), e48]
    omega
  · have e : (x - 48).toInt = x.toInt - 48 + 4294967296 := by
      rw [Int32.toInt_sub, e48]
      have k := Int.bmod_def (x.toInt - 48) (2 ^ 32)
      have k2 : ((2 ^ 32 : Nat) : Int) = 4294967296 := rfl
      rw [k2] at k
      have k3 : (x.toInt - 48) % 4294967296 = x.toInt - 48 + 4294967296 := by omega
      rw [k3, if_pos (by omega)] at k
      exact k
    rw [e]
    omega
theorem fig_ev {z : XS} {F n p : Nat} {T : Nat → Int32} (hF : F + n ≤ 240) (hp : p ≤ 1000) (hT : ∀ t, t < n → gA z 18 15 (F + t) = T t) (b : Int32) (f5 f6 f7 : Nat → Int32) : D_X10_figure (nI F) (nI n) (rst z (nI p) b f5 f6 f7) = if p < n ∧ dgt (T p) then some (T p - 48, rst z (nI (p + 1)) b f5 f6 f7) else some (-9, rst z (nI p) b f5 f6 f7) := by
  unfold D_X10_figure
  rw [code_ev hF hp hT, Option.bind_some, in_ev, wide, show (0 : Int64).toInt = 0 from rfl, show (9 : Int64).toInt = 9 from rfl, Option.bind_some]
  have J1 : ∀ (y3 y4 : Int32), ¬ y4 = 0 → J_X10_figure_36 (nI F) (nI n) y3 y4 1 (nI p) (rst z (nI p) b f5 f6 f7) = some (y3, rst z (nI (p + 1)) b f5 f6 f7) := by
    intro y3 y4 h4
    unfold J_X10_figure_36
    rw [Option.bind_some, rst_7, nI_1, if_neg h4]
  have J0 : ∀ (y3 : Int32), J_X10_figure_36 (nI F) (nI n) y3 0 0 (nI p) (rst z (nI p) b f5 f6 f7) = some (-9, rst z (nI p) b f5 f6 f7) := by
    intro y3
    unfold J_X10_figure_36
    rw [Option.bind_some, rst_7, Int32.add_zero, if_pos rfl]
  by_cases h : p < n
  · rw [if_neg (show ¬ n ≤ p by omega)]
    by_cases d : dgt (T p)
    · rw [if_pos (show 0 ≤ (T p - 48).toInt ∧ (T p - 48).toInt ≤ 9 from (dig_iff _).mpr d), if_neg nm1, if_pos ⟨h, d⟩]
      exact J1 _ _ nm1
    · rw [if_neg (show ¬ (0 ≤ (T p - 48).toInt ∧ (T p - 48).toInt ≤ 9) from fun q => d ((dig_iff _).mp q)), if_pos nm2, if_neg (fun q => d q.2)]
      exact J0 _
  · rw [if_pos (show n ≤ p by omega), if_neg (show ¬ (0 ≤ ((-9 : Int32) - 48).toInt ∧ ((-9 : Int32) - 48).toInt ≤ 9) by decide), if_pos nm2, if_neg (fun q => h q.1)]
    exact J0 _
def kdx (x : Int32) : Int32 := if x = 104 then 0 else if x = 121 then 1 else 2
abbrev ltr (x : Int32) : Prop := x = 104 ∨ x = 121 ∨ x = 98
theorem dig_n {x : Int32} (h : dgt x) : ∃ v, v ≤ 9 ∧ x - 48 = nI v := num_of (m := 9) ((dig_iff x).mpr h)
/-- one more HEDGE and garden, from place 3k + 2 on -/
theorem more_ev {z : XS} {F n k : Nat} {T : Nat → Int32} (hF : F + n ≤ 240) (hn : n ≤ 60) (hk : k ≤ 6) (hT : ∀ t, t < n → gA z 18 15 (F + t) = T t) (f5 f6 f7 : Nat → Int32) :
    (¬ (k < 6 ∧ 3 * k + 2 < n ∧ ltr (T (3 * k + 2))) ∧ D_X10_readsMore (nI F) (nI n) (rst z (nI (3 * k + 2)) (nI (k + 1)) f5 f6 f7) = some (0, rst z (nI (3 * k + 2)) (nI (k + 1)) f5 f6 f7)) ∨
    ((k < 6 ∧ 3 * k + 2 < n ∧ ltr (T (3 * k + 2))) ∧ ¬ (3 * k + 3 < n ∧ dgt (T (3 * k + 3))) ∧ D_X10_readsMore (nI F) (nI n) (rst z (nI (3 * k + 2)) (nI (k + 1)) f5 f6 f7) = some (0, rst z (nI (3 * k + 3)) (nI (k + 1)) f5 f6 f7)) ∨
    ((k < 6 ∧ 3 * k + 2 < n ∧ ltr (T (3 * k + 2))) ∧ (3 * k + 3 < n ∧ dgt (T (3 * k + 3))) ∧ ¬ (3 * k + 4 < n ∧ dgt (T (3 * k + 4))) ∧ D_X10_readsMore (nI F) (nI n) (rst z (nI (3 * k + 2)) (nI (k + 1)) f5 f6 f7) = some (0, rst z (nI (3 * k + 4)) (nI (k + 1)) f5 f6 f7)) ∨
    ((k < 6 ∧ 3 * k + 2 < n ∧ ltr (T (3 * k + 2))) ∧ (3 * k + 3 < n ∧ dgt (T (3 * k + 3))) ∧ (3 * k + 4 < n ∧ dgt (T (3 * k + 4))) ∧ D_X10_readsMore (nI F) (nI n) (rst z (nI (3 * k + 2)) (nI (k + 1)) f5 f6 f7) = some (1, rst z (nI (3 * k + 5)) (nI (k + 2)) (wup f5 (k + 1) (T (3 * k + 4) - 48)) (wup f6 k (kdx (T (3 * k + 2)))) (wup f7 k (T (3 * k + 3) - 48)))) := by
  have hP : ∀ t, t ≤ 3 * k + 5 → t ≤ 1000 := fun t ht => by omega
  unfold D_X10_readsMore
  rw [code_ev hF (by omega) hT, Option.bind_some, rst_g8]
  by_cases h6 : k = 6
  · subst h6
    rw [if_pos (show nI (6 + 1) = 7 from rfl)]
    exact Or.inl ⟨fun q => absurd q.1 (by decide), rfl⟩
  · have n7 : ¬ nI (k + 1) = 7 := fun q => by have := (nI_inj (b := 7) (by omega) (by omega)).mp q; omega
    rw [if_neg n7]
    by_cases hlt : 3 * k + 2 < n
    · rw [if_neg (show ¬ n ≤ 3 * k + 2 by omega)]
      by_cases hl : ltr (T (3 * k + 2))
      · have A : (k < 6 ∧ 3 * k + 2 < n ∧ ltr (T (3 * k + 2))) := ⟨by omega, hlt, hl⟩
        have G : (if T (3 * k + 2) = 104 then J_X10_readsMore_36 (nI F) (nI n) (T (3 * k + 2)) (rst z (nI (3 * k + 2)) (nI (k + 1)) f5 f6 f7) else if T (3 * k + 2) = 121 then J_X10_readsMore_36 (nI F) (nI n) (T (3 * k + 2)) (rst z (nI (3 * k + 2)) (nI (k + 1)) f5 f6 f7) else if T (3 * k + 2) = 98 then J_X10_readsMore_36 (nI F) (nI n) (T (3 * k + 2)) (rst z (nI (3 * k + 2)) (nI (k + 1)) f5 f6 f7) else some (0, rst z (nI (3 * k + 2)) (nI (k + 1)) f5 f6 f7)) = J_X10_readsMore_36 (nI F) (nI n) (T (3 * k + 2)) (rst z (nI (3 * k + 2)) (nI (k + 1)) f5 f6 f7) := by
          by_cases a1 : T (3 * k + 2) = 104
          · rw [if_pos a1]
          · rw [if_neg a1]
            by_cases a2 : T (3 * k + 2) = 121
            · rw [if_pos a2]
            · rw [if_neg a2]
              rcases hl with q | q | q
              · exact absurd q a1
              · exact absurd q a2
              · rw [if_pos q]
        have J110 : ∀ (y4 y5 t0 : Int32) (p : Nat), J_X10_readsMore_110 (nI F) (nI n) y4 y5 t0 (nI (k + 1) - 1) (rst z (nI p) (nI (k + 1)) f5 f6 f7) = some (1, rst z (nI p) (nI (k + 2)) (wup f5 (k + 1) y5) (wup f6 k t0) (wup f7 k y4)) := by
          intro y4 y5 t0 p
          unfold J_X10_readsMore_110
          rw [nI_p1s, inB_nI (by omega) (by decide), gd_t, Option.bind_some, tN_nI (by omega), rst_6, rst_g8, nI_p1s, inB_nI (by omega) (by decide), gd_t, Option.bind_some, tN_nI (by omega), rst_f7, rst_g8, inB_nI (by omega) (by decide), gd_t, Option.bind_some, tN_nI (by omega), rst_5, Option.bind_some, rst_g8, nI_1, rst_8]
        have J70 : ∀ (y4 : Int32) (p v : Nat), v ≤ 9 → J_X10_readsMore_70 (nI F) (nI n) (T (3 * k + 2)) y4 (nI v) (rst z (nI p) (nI (k + 1)) f5 f6 f7) = some (1, rst z (nI p) (nI (k + 2)) (wup f5 (k + 1) (nI v)) (wup f6 k (kdx (T (3 * k + 2)))) (wup f7 k y4)) := by
          intro y4 p v hv
          unfold J_X10_readsMore_70
          rw [if_pos (nI_nn (by omega)), rst_g8]
          by_cases a1 : T (3 * k + 2) = 104
          · rw [if_pos a1, J110, show kdx (T (3 * k + 2)) = 0 by unfold kdx; rw [if_pos a1]]
          · rw [if_neg a1]
            by_cases a2 : T (3 * k + 2) = 121
            · rw [if_pos a2, J110, show kdx (T (3 * k + 2)) = 1 by unfold kdx; rw [if_neg a1, if_pos a2]]
            · rw [if_neg a2, J110, show kdx (T (3 * k + 2)) = 2 by unfold kdx; rw [if_neg a1, if_neg a2]]
        have J70n : ∀ (y4 : Int32) (w : XS), J_X10_readsMore_70 (nI F) (nI n) (T (3 * k + 2)) y4 (-9) w = some (0, w) := by
          intro y4 w
          unfold J_X10_readsMore_70
          exact if_neg (by decide)
        have S : J_X10_readsMore_36 (nI F) (nI n) (T (3 * k + 2)) (rst z (nI (3 * k + 2)) (nI (k + 1)) f5 f6 f7) = (D_X10_figure (nI F) (nI n) (rst z (nI (3 * k + 3)) (nI (k + 1)) f5 f6 f7)).bind fun q5 => ((if 0 ≤ q5.1 then (D_X10_figure (nI F) (nI n) q5.2).bind fun q7 => (J_X10_readsMore_70 (nI F) (nI n) (T (3 * k + 2)) q5.1 q7.1 q7.2) else J_X10_readsMore_70 (nI F) (nI n) (T (3 * k + 2)) q5.1 (-9 : Int32) q5.2)) := by
          unfold J_X10_readsMore_36
          rw [Option.bind_some, rst_g7, nI_1, rst_7]
        by_cases d1 : 3 * k + 3 < n ∧ dgt (T (3 * k + 3))
        · obtain ⟨v1, hv1, e1⟩ := dig_n d1.2
          by_cases d2 : 3 * k + 4 < n ∧ dgt (T (3 * k + 4))
          · obtain ⟨v2, hv2, e2⟩ := dig_n d2.2
            refine Or.inr (Or.inr (Or.inr ⟨A, d1, d2, ?_⟩))
            refine Eq.trans G ?_
            rw [S, fig_ev hF (by omega) hT, if_pos d1, Option.bind_some, e1, if_pos (nI_nn (by omega)), fig_ev hF (by omega) hT, if_pos d2, Option.bind_some, e2]
            exact J70 _ _ _ hv2
          · refine Or.inr (Or.inr (Or.inl ⟨A, d1, d2, ?_⟩))
            refine Eq.trans G ?_
            rw [S, fig_ev hF (by omega) hT, if_pos d1, Option.bind_some, e1, if_pos (nI_nn (by omega)), fig_ev hF (by omega) hT, if_neg d2, Option.bind_some]
            exact J70n _ _
        · refine Or.inr (Or.inl ⟨A, d1, ?_⟩)
          refine Eq.trans G ?_
          rw [S, fig_ev hF (by omega) hT, if_neg d1, Option.bind_some, if_neg (show ¬ (0 : Int32) ≤ -9 by decide)]
          exact J70n _ _
      · refine Or.inl ⟨fun q => hl q.2.2, ?_⟩
        rw [if_neg (fun q => hl (Or.inl q)), if_neg (fun q => hl (Or.inr (Or.inl q))), if_neg (fun q => hl (Or.inr (Or.inr q)))]
    · rw [if_pos (show n ≤ 3 * k + 2 by omega)]
      exact Or.inl ⟨fun q => hlt q.2.1, rfl⟩
