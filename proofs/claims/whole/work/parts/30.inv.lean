/-! THE PURE PART: the functions D_.. of the class and of the reference answer alike -/
theorem gd_t {α : Type} (t : Option α) : gd true t = t := rfl
theorem tN_nI {n : Nat} (h : n < 2147483648) : (nI n).toNatClampNeg = n := nI_clamp h
theorem inB_nI {j n : Nat} (h : j < n) (hn : n < 2147483648) : inB (nI j) n = true := by
  unfold inB
  rw [nI_toInt (by omega)]
  simp
  omega
theorem inB_of {i : Int32} {n : Nat} (h : inB i n = true) (hn : n < 2147483648) : ∃ j : Nat, j < n ∧ i = nI j := vp_in_of (inB_in h) hn
theorem gS_pS' (z : XS) (k f j k' f' j' : Nat) (v : Int32) : gS (pS z k f j v) k' f' j' = if k' = k ∧ f' = f ∧ j' = j then v else gS z k' f' j' := rfl
theorem gA_pA' (z : XS) (k j i k' j' i' : Nat) (v : Int32) : gA (pA z k j i v) k' j' i' = if k' = k ∧ j' = j ∧ i' = i then v else gA z k' j' i' := rfl
theorem gA_pR' (z : XS) (k j k' j' i' : Nat) (f : Nat → Int32) : gA (pR z k j f) k' j' i' = if k' = k ∧ j' = j then f i' else gA z k' j' i' := rfl
theorem gA_pH (z : XS) (j ci : Nat) (u v : Int32) (k' j' i' : Nat) : gA (pH z j ci u v) k' j' i' = gA z k' j' i' := rfl
theorem hk_pS (z : XS) (k f j : Nat) (v : Int32) : (pS z k f j v).2.2 = z.2.2 := rfl
theorem hk_pA (z : XS) (k j i : Nat) (v : Int32) : (pA z k j i v).2.2 = z.2.2 := rfl
theorem hk_pR (z : XS) (k j : Nat) (f : Nat → Int32) : (pR z k j f).2.2 = z.2.2 := rfl
/-- two states with the same numbers, rows, kinds are one -/
theorem xs_ext {a b : XS} (h1 : ∀ k f j, gS a k f j = gS b k f j) (h2 : ∀ k j i, gA a k j i = gA b k j i) (h3 : ∀ j, a.2.2 j = b.2.2 j) : a = b := by
  obtain ⟨a1, a2, a3⟩ := a
  obtain ⟨b1, b2, b3⟩ := b
  have e1 : a1 = b1 := funext fun k => funext fun f => funext fun j => h1 k f j
  have e2 : a2 = b2 := funext fun k => funext fun j => funext fun i => h2 k j i
  have e3 : a3 = b3 := funext h3
  rw [e1, e2, e3]
theorem pA_pA (z : XS) (k j i : Nat) (v w : Int32) : pA (pA z k j i v) k j i w = pA z k j i w := by
  apply xs_ext
  · intro _ _ _; rfl
  · intro k' j' i'
    rw [gA_pA', gA_pA', gA_pA']
    by_cases h : k' = k ∧ j' = j ∧ i' = i
    · rw [if_pos h, if_pos h]
    · rw [if_neg h, if_neg h, if_neg h]
  · intro _; rfl
theorem pA_self (z : XS) (k j i : Nat) : pA z k j i (gA z k j i) = z := by
  apply xs_ext
  · intro _ _ _; rfl
  · intro k' j' i'
    rw [gA_pA']
    by_cases h : k' = k ∧ j' = j ∧ i' = i
    · obtain ⟨h1, h2, h3⟩ := h
      subst h1; subst h2; subst h3
      rw [if_pos ⟨rfl, rfl, rfl⟩]
    · rw [if_neg h]
  · intro _; rfl
-- whole numbers
theorem i_lt (a b : Int32) : a < b ↔ a.toInt < b.toInt := Int32.lt_iff_toInt_lt
theorem i_le (a b : Int32) : a ≤ b ↔ a.toInt ≤ b.toInt := Int32.le_iff_toInt_le
theorem i_eq (a b : Int32) : a = b ↔ a.toInt = b.toInt := ⟨fun h => by rw [h], fun h => Int32.toInt_inj.mp h⟩
theorem l_lt (a b : Int64) : a < b ↔ a.toInt < b.toInt := Int64.lt_iff_toInt_lt
theorem l_eq (a b : Int64) : a = b ↔ a.toInt = b.toInt := ⟨fun h => by rw [h], fun h => Int64.toInt_inj.mp h⟩
theorem wide (x : Int32) : x.toInt64.toInt = x.toInt := Int32.toInt_toInt64 x
theorem i_rng (x : Int32) : -2147483648 ≤ x.toInt ∧ x.toInt < 2147483648 := ⟨Int32.le_toInt x, Int32.toInt_lt x⟩
theorem i_bmod {z : Int} (h1 : -2147483648 ≤ z) (h2 : z < 2147483648) : z.bmod (2 ^ 32) = z := by
  rw [Int.bmod_eq_of_le (by omega) (by omega)]
theorem i_add {x y : Int32} (h1 : -2147483648 ≤ x.toInt + y.toInt) (h2 : x.toInt + y.toInt < 2147483648) : (x + y).toInt = x.toInt + y.toInt := by
  rw [Int32.toInt_add, i_bmod h1 h2]
theorem i_sub {x y : Int32} (h1 : -2147483648 ≤ x.toInt - y.toInt) (h2 : x.toInt - y.toInt < 2147483648) : (x - y).toInt = x.toInt - y.toInt := by
  rw [Int32.toInt_sub, i_bmod h1 h2]
theorem i_mul {x y : Int32} (h1 : -2147483648 ≤ x.toInt * y.toInt) (h2 : x.toInt * y.toInt < 2147483648) : (x * y).toInt = x.toInt * y.toInt := by
  rw [Int32.toInt_mul, i_bmod h1 h2]
theorem lg_lt (x y : Int64) : lg_cmp x y < 0 ↔ x.toInt < y.toInt := by
  unfold lg_cmp
  by_cases h : x > y
  · rw [if_pos h]
    have h2 : y.toInt < x.toInt := (l_lt y x).mp h
    constructor
    · intro q; exact absurd q (by decide)
    · intro q; omega
  · rw [if_neg h]
    by_cases e : x = y
    · rw [if_pos e]
      subst e
      constructor
      · intro q; exact absurd q (by decide)
      · intro q; omega
    · rw [if_neg e]
      have h2 : ¬ y.toInt < x.toInt := fun q => h ((l_lt y x).mpr q)
      have h3 : ¬ x.toInt = y.toInt := fun q => e ((l_eq x y).mpr q)
      constructor
      · intro _; omega
      · intro _; decide
theorem lg_gt (x y : Int64) : 0 < lg_cmp x y ↔ y.toInt < x.toInt := by
  unfold lg_cmp
  by_cases h : x > y
  · rw [if_pos h]
    have h2 : y.toInt < x.toInt := (l_lt y x).mp h
    constructor
    · intro q; exact h2
    · intro q; decide
  · rw [if_neg h]
    have h2 : ¬ y.toInt < x.toInt := fun q => h ((l_lt y x).mpr q)
    by_cases e : x = y
    · rw [if_pos e]
      constructor
      · intro q; exact absurd q (by decide)
      · intro q; omega
    · rw [if_neg e]
      constructor
      · intro q; exact absurd q (by decide)
      · intro q; omega
theorem lg_eq (x y : Int64) : lg_cmp x y = 0 ↔ x = y := by
  unfold lg_cmp
  by_cases h : x > y
  · rw [if_pos h]
    have h2 : y.toInt < x.toInt := (l_lt y x).mp h
    constructor
    · intro q; exact absurd q (by decide)
    · intro q; subst q; omega
  · rw [if_neg h]
    by_cases e : x = y
    · rw [if_pos e]; exact ⟨fun _ => e, fun _ => rfl⟩
    · rw [if_neg e]
      constructor
      · intro q; exact absurd q (by decide)
      · intro q; exact absurd q e
/-- the reference's 'in' -/
theorem in_ev (a b c : Int64) (z : XS) : D_X10_in a b c z = some (if b.toInt ≤ a.toInt ∧ a.toInt ≤ c.toInt then 1 else 0, z) := by
  unfold D_X10_in
  by_cases h : lg_cmp a b < 0
  · rw [if_pos h, if_neg]
    have := (lg_lt a b).mp h
    omega
  · rw [if_neg h]
    have h1 : ¬ a.toInt < b.toInt := fun q => h ((lg_lt a b).mpr q)
    by_cases h2 : 0 < lg_cmp a c
    · rw [if_pos h2, if_neg]
      have := (lg_gt a c).mp h2
      omega
    · rw [if_neg h2, if_pos]
      have h3 : ¬ c.toInt < a.toInt := fun q => h2 ((lg_gt a c).mpr q)
      omega
theorem within_ev (a b : Int32) (z : XS) : D_X9_isWithin a b z = some (if 0 ≤ a.toInt ∧ a.toInt ≤ b.toInt then 1 else 0, z) := by
  unfold D_X9_isWithin
  by_cases h : a < 0
  · rw [if_pos h, if_neg]
    have h1 : a.toInt < 0 := (i_lt a 0).mp h
    omega
  · rw [if_neg h]
    have h1 : ¬ a.toInt < 0 := fun q => h ((i_lt a 0).mpr q)
    by_cases h2 : b < a
    · rw [if_pos h2, if_neg]
      have h3 := (i_lt b a).mp h2
      omega
    · rw [if_neg h2, if_pos]
      have h3 : ¬ b.toInt < a.toInt := fun q => h2 ((i_lt b a).mpr q)
      omega
theorem isZ_ite (c : Prop) [Decidable c] : isZ (if c then 1 else 0) = true := by
  by_cases h : c
  · rw [if_pos h]; decide
  · rw [if_neg h]; decide
theorem ite10 (c : Prop) [Decidable c] : ((if c then (1 : Int32) else 0) = 0) ↔ ¬ c := by
  by_cases h : c
  · rw [if_pos h]; exact ⟨fun q => absurd q (by decide), fun q => absurd h q⟩
  · rw [if_neg h]; exact ⟨fun _ => h, fun _ => rfl⟩
theorem sheet_ev (x : Int32) (z : XS) : D_X9_isSheet x z = some (if 0 ≤ x.toInt ∧ x.toInt ≤ 3 then 1 else 0, z) := by
  unfold D_X9_isSheet
  rw [within_ev, Option.bind_some, isZ_ite]
  rfl
theorem side_ev (x : Int32) (z : XS) : D_X9_isSide x z = some (if 0 ≤ x.toInt ∧ x.toInt ≤ 1 then 1 else 0, z) := by
  unfold D_X9_isSide
  rw [within_ev, Option.bind_some, isZ_ite]
  rfl
theorem day_ev (x : Int32) (z : XS) : D_X9_isDay x z = some (if 0 ≤ x.toInt ∧ x.toInt ≤ 29 then 1 else 0, z) := by
  unfold D_X9_isDay
  rw [within_ev, Option.bind_some, isZ_ite]
  rfl
theorem dawn_ev (x : Int32) (z : XS) : D_X9_isDawn x z = some (if 0 ≤ x.toInt ∧ x.toInt ≤ 30 then 1 else 0, z) := by
  unfold D_X9_isDawn
  rw [within_ev, Option.bind_some, isZ_ite]
  rfl
theorem feet_ev (x : Int32) (z : XS) : D_X9_isFeet x z = some (if 0 ≤ x.toInt ∧ x.toInt ≤ 20 then 1 else 0, z) := by
  unfold D_X9_isFeet
  rw [within_ev, Option.bind_some, isZ_ite]
  rfl
theorem mside_ev (x : Int32) (z : XS) : D_X10_isSide x z = some (if 0 ≤ x.toInt ∧ x.toInt ≤ 1 then 1 else 0, z) := by
  unfold D_X10_isSide
  rw [in_ev, Option.bind_some, isZ_ite, wide]
  rfl
theorem mday_ev (x : Int32) (z : XS) : D_X10_isDay x z = some (if 0 ≤ x.toInt ∧ x.toInt ≤ 29 then 1 else 0, z) := by
  unfold D_X10_isDay
  rw [in_ev, Option.bind_some, isZ_ite, wide]
  rfl
theorem mdawn_ev (x : Int32) (z : XS) : D_X10_isDawn x z = some (if 0 ≤ x.toInt ∧ x.toInt ≤ 30 then 1 else 0, z) := by
  unfold D_X10_isDawn
  rw [in_ev, Option.bind_some, isZ_ite, wide]
  rfl
theorem mfeet_ev (x : Int32) (z : XS) : D_X10_isFeet x z = some (if 0 ≤ x.toInt ∧ x.toInt ≤ 20 then 1 else 0, z) := by
  unfold D_X10_isFeet
  rw [in_ev, Option.bind_some, isZ_ite, wide]
  rfl
theorem msheet_ev (x : Int32) (z : XS) : D_X10_noSheet x z = some (if 0 ≤ x.toInt ∧ x.toInt ≤ 3 then 0 else 1, z) := by
  unfold D_X10_noSheet
  rw [in_ev, Option.bind_some, wide]
  show (if (if (0 : Int) ≤ x.toInt ∧ x.toInt ≤ 3 then (1 : Int32) else 0) = 0 then _ else _) = _
  by_cases h : 0 ≤ x.toInt ∧ x.toInt ≤ 3
  · rw [if_pos h, if_pos h]; rfl
  · rw [if_neg h, if_neg h]; rfl
/-- an Int32 within bounds is a number -/
theorem num_of {x : Int32} {m : Nat} (h : 0 ≤ x.toInt ∧ x.toInt ≤ (m : Int)) : ∃ j : Nat, j ≤ m ∧ x = nI j := by
  have hm : x.toInt < 2147483648 := (i_rng x).2
  refine ⟨x.toInt.toNat, by omega, ?_⟩
  apply (i_eq _ _).mpr
  rw [nI_toInt (by omega)]
  omega
-- ---- the two states
def cN (z : XS) : Nat := (gS z 1 2 0).toNatClampNeg
/-- where the reference keeps what a FLANK hears -/
def hr (h s d : Nat) : Nat := if s = 0 then 60 * h + 30 + d else 60 * (h + 1) + d
/-- the reference's growth, bounds, one day, and a FLANK at a DAWN -/
def gM (k w : Int32) : Int32 := if w ≤ 0 then (if k = 2 then (if w = 0 then -6 else 0) else 3 * w) else (if k = 0 then 12 * w else 6 * w)
def bM (x : Int32) : Int32 := if 0 ≤ x then (if x ≤ 240 then x else 240) else 0
def dM (k c b w : Int32) : Int32 := if c < 0 then bM (b + gM k w) else (if 12 * c ≤ bM (b + gM k w) then 12 * c else bM (b + gM k w))
def fc (k b0 : Int32) (cl wd : Nat → Int32) : Nat → Int32
  | 0 => b0
  | n + 1 => dM k (cl n) (fc k b0 cl wd n) (wd n)
def cl (z : XS) (h : Nat) : Nat → Int32 := fun d => gA z 18 4 (30 * h + d)
def wd (z : XS) (h s : Nat) : Nat → Int32 := fun d => gA z 18 3 (hr h s d)
def fM (z : XS) (h s n : Nat) : Int32 := fc (gA z 18 1 h) (12 * gA z 18 2 h) (cl z h) (wd z h s) n
def KH (k : Nat) (kd : Int32) : Prop := (k = 2 ∧ kd = 0) ∨ (k = 7 ∧ kd = 1) ∨ (k = 1 ∧ kd = 2)
def wB (w : Int32) : Prop := -3 ≤ w.toInt ∧ w.toInt ≤ 3
def cB (c : Int32) : Prop := c = -9 ∨ (0 ≤ c.toInt ∧ c.toInt ≤ 20)
def I_cnt (z : XS) : Prop := gS z 1 2 0 = nI (cN z) ∧ (cN z = 0 ∨ 2 ≤ cN z) ∧ cN z ≤ 7 ∧ gS z 17 1 0 = nI (cN z)
def I_gar (z : XS) : Prop := ∀ g, g < cN z → gA z 7 0 g = gA z 18 0 g
def I_hed (z : XS) : Prop := ∀ h, h + 1 < cN z → KH (z.2.2 h) (gA z 18 1 h) ∧ gS z 10 0 h = nI h ∧ gS z 10 1 h = gA z 18 2 h ∧ ∃ v, v ≤ 9 ∧ gA z 18 2 h = nI v
def I_wrd (z : XS) : Prop := ∀ h, h + 1 < cN z → ∀ s, s < 2 → ∀ d, d < 30 → gA z 12 (2 * h + s) d = wd z h s d ∧ wB (wd z h s d)
def I_clp (z : XS) : Prop := ∀ h, h + 1 < cN z → ∀ d, d < 30 → gA z 15 h d = cl z h d ∧ cB (cl z h d)
def I_inc (z : XS) : Prop := ∀ h, h + 1 < cN z → ∀ s, s < 2 → ∀ n, n ≤ 30 → gA z 14 (2 * h + s) n = fM z h s n
def I_rng (z : XS) : Prop := ∃ r, r ≤ 10 ∧ gS z 2 4 0 = nI r ∧ gS z 17 12 0 = nI r ∧ ∀ k, k < r → (gA z 16 0 k = gA z 18 8 k ∧ gA z 16 1 k = gA z 18 9 k ∧ gA z 16 2 k = gA z 18 10 k ∧ gA z 16 3 k = gA z 18 11 k) ∧ (∃ h, h + 1 < cN z ∧ gA z 18 8 k = nI h) ∧ (∃ s, s < 2 ∧ gA z 18 9 k = nI s) ∧ ∃ n, n ≤ 30 ∧ gA z 18 10 k = nI n
def I_sht (z : XS) : Prop := ∀ k, k < 4 → (gS z 5 1 k = -1 ∧ gA z 18 13 k = -1 ∧ gS z 5 2 k = 0) ∨ ∃ n ln : Nat, n ≤ 60 ∧ ln ≤ 2 ∧ gS z 5 1 k = nI ln ∧ gA z 18 14 k = nI ln ∧ gS z 5 2 k = nI n ∧ gA z 18 13 k = nI n ∧ ∀ i, i < n → gA z 6 k i = gA z 18 15 (60 * k + i)
def I_flt (z : XS) : Prop := gS z 0 4 0 = gS z 17 0 0
def I_trc (z : XS) : Prop := gS z 3 0 0 = gS z 17 22 0
def Inv (z : XS) : Prop := I_cnt z ∧ I_gar z ∧ I_hed z ∧ I_wrd z ∧ I_clp z ∧ I_inc z ∧ I_rng z ∧ I_sht z ∧ I_flt z ∧ I_trc z
