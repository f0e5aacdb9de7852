def z_0 : XS := (fun k f _ => if k = 5 ∧ f = 1 then -1 else 0, fun k j i => if k = 18 ∧ j = 13 then (upd (upd (upd (upd (fun _ => 0) 0 (-1)) 1 (-1)) 2 (-1)) 3 (-1)) i else 0, fun _ => 2)
def ad_0 (b1 b2 : Nat) (u : S_X9_init_8) (w : S_X10_init_9) : Nat → Nat → Nat := fun k j => if k = 0 then (if j = 0 then b1 else 0) else if k = 1 then (if j = 0 then u.1 else 0) else if k = 2 then (if j = 0 then u.2.2.1 else 0) else if k = 3 then (if j = 0 then u.2.2.2.2.1 else 0) else if k = 4 then (if j = 0 then u.2.2.2.2.2.1 else 0) else if k = 5 then (if j = 0 then u.2.2.2.2.2.2.1 else if j = 1 then u.2.2.2.2.2.2.2.2.1 else if j = 2 then u.2.2.2.2.2.2.2.2.2.2.1 else if j = 3 then u.2.2.2.2.2.2.2.2.2.2.2.2.1 else 0) else if k = 6 then (if j = 0 then u.2.2.2.2.2.2.2.1 else if j = 1 then u.2.2.2.2.2.2.2.2.2.1 else if j = 2 then u.2.2.2.2.2.2.2.2.2.2.2.1 else if j = 3 then u.2.2.2.2.2.2.2.2.2.2.2.2.2 else 0) else if k = 7 then (if j = 0 then u.2.1.1 else 0) else if k = 8 then (if j = 0 then u.2.1.2.1 else 0) else if k = 9 then (if j = 0 then u.2.1.2.2.1 else if j = 1 then u.2.1.2.2.2.2.1 else if j = 2 then u.2.1.2.2.2.2.2.2.1 else if j = 3 then u.2.1.2.2.2.2.2.2.2.2.1 else if j = 4 then u.2.1.2.2.2.2.2.2.2.2.2.2.1 else if j = 5 then u.2.1.2.2.2.2.2.2.2.2.2.2.2.2.1 else 0) else if k = 10 then (if j = 0 then u.2.1.2.2.2.1.1 else if j = 1 then u.2.1.2.2.2.2.2.1.1 else if j = 2 then u.2.1.2.2.2.2.2.2.2.1.1 else if j = 3 then u.2.1.2.2.2.2.2.2.2.2.2.1.1 else if j = 4 then u.2.1.2.2.2.2.2.2.2.2.2.2.2.1.1 else if j = 5 then u.2.1.2.2.2.2.2.2.2.2.2.2.2.2.2.1 else 0) else if k = 11 then (if j = 0 then u.2.1.2.2.2.1.2.1 else if j = 1 then u.2.1.2.2.2.2.2.1.2.1 else if j = 2 then u.2.1.2.2.2.2.2.2.2.1.2.1 else if j = 3 then u.2.1.2.2.2.2.2.2.2.2.2.1.2.1 else if j = 4 then u.2.1.2.2.2.2.2.2.2.2.2.2.2.1.2.1 else if j = 5 then u.2.1.2.2.2.2.2.2.2.2.2.2.2.2.2.2.1 else 0) else if k = 12 then (if j = 0 then u.2.1.2.2.2.1.2.2.1 else if j = 1 then u.2.1.2.2.2.1.2.2.2.1 else if j = 2 then u.2.1.2.2.2.2.2.1.2.2.1 else if j = 3 then u.2.1.2.2.2.2.2.1.2.2.2.1 else if j = 4 then u.2.1.2.2.2.2.2.2.2.1.2.2.1 else if j = 5 then u.2.1.2.2.2.2.2.2.2.1.2.2.2.1 else if j = 6 then u.2.1.2.2.2.2.2.2.2.2.2.1.2.2.1 else if j = 7 then u.2.1.2.2.2.2.2.2.2.2.2.1.2.2.2.1 else if j = 8 then u.2.1.2.2.2.2.2.2.2.2.2.2.2.1.2.2.1 else if j = 9 then u.2.1.2.2.2.2.2.2.2.2.2.2.2.1.2.2.2.1 else if j = 10 then u.2.1.2.2.2.2.2.2.2.2.2.2.2.2.2.2.2.1 else if j = 11 then u.2.1.2.2.2.2.2.2.2.2.2.2.2.2.2.2.2.2.1 else 0) else if k = 13 then (if j = 0 then u.2.1.2.2.2.1.2.2.2.2.1 else if j = 1 then u.2.1.2.2.2.2.2.1.2.2.2.2.1 else if j = 2 then u.2.1.2.2.2.2.2.2.2.1.2.2.2.2.1 else if j = 3 then u.2.1.2.2.2.2.2.2.2.2.2.1.2.2.2.2.1 else if j = 4 then u.2.1.2.2.2.2.2.2.2.2.2.2.2.1.2.2.2.2.1 else if j = 5 then u.2.1.2.2.2.2.2.2.2.2.2.2.2.2.2.2.2.2.2.1 else 0) else if k = 14 then (if j = 0 then u.2.1.2.2.2.1.2.2.2.2.2.1 else if j = 1 then u.2.1.2.2.2.1.2.2.2.2.2.2.1 else if j = 2 then u.2.1.2.2.2.2.2.1.2.2.2.2.2.1 else if j = 3 then u.2.1.2.2.2.2.2.1.2.2.2.2.2.2.1 else if j = 4 then u.2.1.2.2.2.2.2.2.2.1.2.2.2.2.2.1 else if j = 5 then u.2.1.2.2.2.2.2.2.2.1.2.2.2.2.2.2.1 else if j = 6 then u.2.1.2.2.2.2.2.2.2.2.2.1.2.2.2.2.2.1 else if j = 7 then u.2.1.2.2.2.2.2.2.2.2.2.1.2.2.2.2.2.2.1 else if j = 8 then u.2.1.2.2.2.2.2.2.2.2.2.2.2.1.2.2.2.2.2.1 else if j = 9 then u.2.1.2.2.2.2.2.2.2.2.2.2.2.1.2.2.2.2.2.2.1 else if j = 10 then u.2.1.2.2.2.2.2.2.2.2.2.2.2.2.2.2.2.2.2.2.1 else if j = 11 then u.2.1.2.2.2.2.2.2.2.2.2.2.2.2.2.2.2.2.2.2.2.1 else 0) else if k = 15 then (if j = 0 then u.2.1.2.2.2.1.2.2.2.2.2.2.2 else if j = 1 then u.2.1.2.2.2.2.2.1.2.2.2.2.2.2.2 else if j = 2 then u.2.1.2.2.2.2.2.2.2.1.2.2.2.2.2.2.2 else if j = 3 then u.2.1.2.2.2.2.2.2.2.2.2.1.2.2.2.2.2.2.2 else if j = 4 then u.2.1.2.2.2.2.2.2.2.2.2.2.2.1.2.2.2.2.2.2.2 else if j = 5 then u.2.1.2.2.2.2.2.2.2.2.2.2.2.2.2.2.2.2.2.2.2.2 else 0) else if k = 16 then (if j = 0 then u.2.2.2.1.1 else if j = 1 then u.2.2.2.1.2.1 else if j = 2 then u.2.2.2.1.2.2.1 else if j = 3 then u.2.2.2.1.2.2.2 else 0) else if k = 17 then (if j = 0 then b2 else 0) else if k = 18 then (if j = 0 then w.1 else if j = 1 then w.2.1 else if j = 2 then w.2.2.1 else if j = 3 then w.2.2.2.1 else if j = 4 then w.2.2.2.2.1 else if j = 5 then w.2.2.2.2.2.1 else if j = 6 then w.2.2.2.2.2.2.1 else if j = 7 then w.2.2.2.2.2.2.2.1 else if j = 8 then w.2.2.2.2.2.2.2.2.1 else if j = 9 then w.2.2.2.2.2.2.2.2.2.1 else if j = 10 then w.2.2.2.2.2.2.2.2.2.2.1 else if j = 11 then w.2.2.2.2.2.2.2.2.2.2.2.1 else if j = 12 then w.2.2.2.2.2.2.2.2.2.2.2.2.1 else if j = 13 then w.2.2.2.2.2.2.2.2.2.2.2.2.2.1 else if j = 14 then w.2.2.2.2.2.2.2.2.2.2.2.2.2.2.1 else if j = 15 then w.2.2.2.2.2.2.2.2.2.2.2.2.2.2.2.1 else if j = 16 then w.2.2.2.2.2.2.2.2.2.2.2.2.2.2.2.2 else 0) else 0
def id_0 : List (Nat × Nat) := [(18, 16), (18, 15), (18, 14), (18, 13), (18, 12), (18, 11), (18, 10), (18, 9), (18, 8), (18, 7), (18, 6), (18, 5), (18, 4), (18, 3), (18, 2), (18, 1), (18, 0), (17, 0), (6, 3), (5, 3), (6, 2), (5, 2), (6, 1), (5, 1), (6, 0), (5, 0), (4, 0), (3, 0), (16, 3), (16, 2), (16, 1), (16, 0), (2, 0), (15, 5), (13, 5), (14, 10), (14, 11), (11, 5), (12, 10), (12, 11), (10, 5), (9, 5), (15, 4), (13, 4), (14, 8), (14, 9), (11, 4), (12, 8), (12, 9), (10, 4), (9, 4), (15, 3), (13, 3), (14, 6), (14, 7), (11, 3), (12, 6), (12, 7), (10, 3), (9, 3), (15, 2), (13, 2), (14, 4), (14, 5), (11, 2), (12, 4), (12, 5), (10, 2), (9, 2), (15, 1), (13, 1), (14, 2), (14, 3), (11, 1), (12, 2), (12, 3), (10, 1), (9, 1), (15, 0), (13, 0), (14, 0), (14, 1), (11, 0), (12, 0), (12, 1), (10, 0), (9, 0), (8, 0), (7, 0), (1, 0), (0, 0)]
theorem id_0_in : ∀ q ∈ xids, q ∈ id_0 := by decide +kernel
theorem id_0_pos : ([90, 89, 32, 27, 26, 25, 23, 21, 19, 24, 22, 20, 18, 88, 87, 86, 77, 68, 59, 50, 41, 85, 76, 67, 58, 49, 40, 82, 73, 64, 55, 46, 37, 83, 84, 74, 75, 65, 66, 56, 57, 47, 48, 38, 39, 79, 70, 61, 52, 43, 34, 80, 81, 71, 72, 62, 63, 53, 54, 44, 45, 35, 36, 78, 69, 60, 51, 42, 33, 31, 30, 29, 28, 17, 16, 15, 14, 13, 12, 11, 10, 9, 8, 7, 6, 5, 4, 3, 2, 1, 0] : List Nat).map (fun i => id_0[i]?) = xids.map some := by decide +kernel
theorem id_0_nd : va_nd [90, 89, 32, 27, 26, 25, 23, 21, 19, 24, 22, 20, 18, 88, 87, 86, 77, 68, 59, 50, 41, 85, 76, 67, 58, 49, 40, 82, 73, 64, 55, 46, 37, 83, 84, 74, 75, 65, 66, 56, 57, 47, 48, 38, 39, 79, 70, 61, 52, 43, 34, 80, 81, 71, 72, 62, 63, 53, 54, 44, 45, 35, 36, 78, 69, 60, 51, 42, 33, 31, 30, 29, 28, 17, 16, 15, 14, 13, 12, 11, 10, 9, 8, 7, 6, 5, 4, 3, 2, 1, 0] = true := by decide +kernel
theorem va_at_ext {D : va_G} {cl : List vw_C} {a n : Nat} {q : ClassId} {f g : Nat → Option Nat} {H : Heap} (h : ∀ i, i < n → f i = g i) (hf : va_at D cl (a, .inl (q, n, .inr (.inr (.inr (.inr f))))) H) : va_at D cl (a, .inl (q, n, .inr (.inr (.inr (.inr g))))) H := by
  have e : arrV q n (fun j => va_rf (f j)) = arrV q n (fun j => va_rf (g j)) := by
    unfold arrV
    have e2 : (fun j : Fin n => va_rf (f j.val)) = (fun j : Fin n => va_rf (g j.val)) := funext fun j => by rw [h j.val j.isLt]
    show ({ cls := q, slots := Array.ofFn (n := n) (fun j : Fin n => va_rf (f j.val)), vm := .none } : Cell) = _
    rw [e2]
  have hf2 : H[a]? = some (arrV q n (fun j => va_rf (f j))) := hf
  show H[a]? = some (arrV q n (fun j => va_rf (g j)))
  rw [← e]; exact hf2
theorem va_D_cong {A : Nat → Prop} {w1 w2 : va_W} (h : w1.map Prod.fst = w2.map Prod.fst) (hD : va_D A w1) : va_D A w2 := by
  have key : ∀ (k : Nat) (q : Nat × va_E), w2[k]? = some q → ∃ q1, w1[k]? = some q1 ∧ q1.1 = q.1 := by
    intro k q hk
    have h2 : (w2.map Prod.fst)[k]? = some q.1 := by rw [List.getElem?_map, hk]; rfl
    rw [← h, List.getElem?_map] at h2
    cases hq : w1[k]? with
    | none => rw [hq] at h2; cases h2
    | some q1 => rw [hq] at h2; exact ⟨q1, rfl, Option.some.inj h2⟩
  refine ⟨fun i j x y hi hj hxy => ?_, fun k q hk => ?_⟩
  · obtain ⟨x1, a1, a2⟩ := key i x hi
    obtain ⟨y1, b1, b2⟩ := key j y hj
    exact hD.1 i j x1 y1 a1 b1 (a2.trans (hxy.trans b2.symm))
  · obtain ⟨q1, a1, a2⟩ := key k q hk
    rw [← a2]
    exact hD.2 k q1 a1
set_option maxHeartbeats 8000000 in
set_option maxRecDepth 100000 in
theorem xP_0 {X : XC} {b1 b2 : Nat} {u : S_X9_init_8} {w : S_X10_init_9} {H : Heap} (hP : va_P X.1 vwCl (bc_X10_init_9 X b2 w ++ (bc_X9_init_8 X b1 u ++ [])) H) : va_P X.1 vwCl (id_0.map (xf (X.1, X.2.1, ad_0 b1 b2 u w, X.2.2.2) z_0)) H := fun k q hk => match k, hk with
  | 0, hk => by
    cases hk
    exact hP 0 _ rfl
  | 1, hk => by
    cases hk
    exact hP 1 _ rfl
  | 2, hk => by
    cases hk
    exact hP 2 _ rfl
  | 3, hk => by
    cases hk
    exact hP 3 _ rfl
  | 4, hk => by
    cases hk
    exact hP 4 _ rfl
  | 5, hk => by
    cases hk
    exact hP 5 _ rfl
  | 6, hk => by
    cases hk
    exact hP 6 _ rfl
  | 7, hk => by
    cases hk
    exact hP 7 _ rfl
  | 8, hk => by
    cases hk
    exact hP 8 _ rfl
  | 9, hk => by
    cases hk
    exact hP 9 _ rfl
  | 10, hk => by
    cases hk
    exact hP 10 _ rfl
  | 11, hk => by
    cases hk
    exact hP 11 _ rfl
  | 12, hk => by
    cases hk
    exact hP 12 _ rfl
  | 13, hk => by
    cases hk
    exact hP 13 _ rfl
  | 14, hk => by
    cases hk
    exact hP 14 _ rfl
  | 15, hk => by
    cases hk
    exact hP 15 _ rfl
  | 16, hk => by
    cases hk
    exact hP 16 _ rfl
  | 17, hk => by
    cases hk
    exact hP 17 _ rfl
  | 18, hk => by
    cases hk
    exact hP 18 _ rfl
  | 19, hk => by
    cases hk
    exact hP 19 _ rfl
  | 20, hk => by
    cases hk
    exact hP 20 _ rfl
  | 21, hk => by
    cases hk
    exact hP 21 _ rfl
  | 22, hk => by
    cases hk
    exact hP 22 _ rfl
  | 23, hk => by
    cases hk
    exact hP 23 _ rfl
  | 24, hk => by
    cases hk
    exact hP 24 _ rfl
  | 25, hk => by
    cases hk
    exact hP 25 _ rfl
  | 26, hk => by
    cases hk
    exact va_at_ext (fun i hi => match i, hi with | 0, _ => rfl | 1, _ => rfl | 2, _ => rfl | 3, _ => rfl | n + 4, hi => absurd hi (by omega)) (hP 26 _ rfl)
  | 27, hk => by
    cases hk
    exact hP 27 _ rfl
  | 28, hk => by
    cases hk
    exact hP 28 _ rfl
  | 29, hk => by
    cases hk
    exact hP 29 _ rfl
  | 30, hk => by
    cases hk
    exact hP 30 _ rfl
  | 31, hk => by
    cases hk
    exact hP 31 _ rfl
  | 32, hk => by
    cases hk
    exact hP 32 _ rfl
  | 33, hk => by
    cases hk
    exact hP 33 _ rfl
  | 34, hk => by
    cases hk
    exact va_at_ext (fun i hi => match i, hi with | 0, _ => rfl | 1, _ => rfl | n + 2, hi => absurd hi (by omega)) (hP 34 _ rfl)
  | 35, hk => by
    cases hk
    exact hP 35 _ rfl
  | 36, hk => by
    cases hk
    exact hP 36 _ rfl
  | 37, hk => by
    cases hk
    exact va_at_ext (fun i hi => match i, hi with | 0, _ => rfl | 1, _ => rfl | n + 2, hi => absurd hi (by omega)) (hP 37 _ rfl)
  | 38, hk => by
    cases hk
    exact hP 38 _ rfl
  | 39, hk => by
    cases hk
    exact hP 39 _ rfl
  | 40, hk => by
    cases hk
    exact hP 40 _ rfl
  | 41, hk => by
    cases hk
    exact hP 41 _ rfl
  | 42, hk => by
    cases hk
    exact hP 42 _ rfl
  | 43, hk => by
    cases hk
    exact va_at_ext (fun i hi => match i, hi with | 0, _ => rfl | 1, _ => rfl | n + 2, hi => absurd hi (by omega)) (hP 43 _ rfl)
  | 44, hk => by
    cases hk
    exact hP 44 _ rfl
  | 45, hk => by
    cases hk
    exact hP 45 _ rfl
  | 46, hk => by
    cases hk
    exact va_at_ext (fun i hi => match i, hi with | 0, _ => rfl | 1, _ => rfl | n + 2, hi => absurd hi (by omega)) (hP 46 _ rfl)
  | 47, hk => by
    cases hk
    exact hP 47 _ rfl
  | 48, hk => by
    cases hk
    exact hP 48 _ rfl
  | 49, hk => by
    cases hk
    exact hP 49 _ rfl
  | 50, hk => by
    cases hk
    exact hP 50 _ rfl
  | 51, hk => by
    cases hk
    exact hP 51 _ rfl
  | 52, hk => by
    cases hk
    exact va_at_ext (fun i hi => match i, hi with | 0, _ => rfl | 1, _ => rfl | n + 2, hi => absurd hi (by omega)) (hP 52 _ rfl)
  | 53, hk => by
    cases hk
    exact hP 53 _ rfl
  | 54, hk => by
    cases hk
    exact hP 54 _ rfl
  | 55, hk => by
    cases hk
    exact va_at_ext (fun i hi => match i, hi with | 0, _ => rfl | 1, _ => rfl | n + 2, hi => absurd hi (by omega)) (hP 55 _ rfl)
  | 56, hk => by
    cases hk
    exact hP 56 _ rfl
  | 57, hk => by
    cases hk
    exact hP 57 _ rfl
  | 58, hk => by
    cases hk
    exact hP 58 _ rfl
  | 59, hk => by
    cases hk
    exact hP 59 _ rfl
  | 60, hk => by
    cases hk
    exact hP 60 _ rfl
  | 61, hk => by
    cases hk
    exact va_at_ext (fun i hi => match i, hi with | 0, _ => rfl | 1, _ => rfl | n + 2, hi => absurd hi (by omega)) (hP 61 _ rfl)
  | 62, hk => by
    cases hk
    exact hP 62 _ rfl
  | 63, hk => by
    cases hk
    exact hP 63 _ rfl
  | 64, hk => by
    cases hk
    exact va_at_ext (fun i hi => match i, hi with | 0, _ => rfl | 1, _ => rfl | n + 2, hi => absurd hi (by omega)) (hP 64 _ rfl)
  | 65, hk => by
    cases hk
    exact hP 65 _ rfl
  | 66, hk => by
    cases hk
    exact hP 66 _ rfl
  | 67, hk => by
    cases hk
    exact hP 67 _ rfl
  | 68, hk => by
    cases hk
    exact hP 68 _ rfl
  | 69, hk => by
    cases hk
    exact hP 69 _ rfl
  | 70, hk => by
    cases hk
    exact va_at_ext (fun i hi => match i, hi with | 0, _ => rfl | 1, _ => rfl | n + 2, hi => absurd hi (by omega)) (hP 70 _ rfl)
  | 71, hk => by
    cases hk
    exact hP 71 _ rfl
  | 72, hk => by
    cases hk
    exact hP 72 _ rfl
  | 73, hk => by
    cases hk
    exact va_at_ext (fun i hi => match i, hi with | 0, _ => rfl | 1, _ => rfl | n + 2, hi => absurd hi (by omega)) (hP 73 _ rfl)
  | 74, hk => by
    cases hk
    exact hP 74 _ rfl
  | 75, hk => by
    cases hk
    exact hP 75 _ rfl
  | 76, hk => by
    cases hk
    exact hP 76 _ rfl
  | 77, hk => by
    cases hk
    exact hP 77 _ rfl
  | 78, hk => by
    cases hk
    exact hP 78 _ rfl
  | 79, hk => by
    cases hk
    exact va_at_ext (fun i hi => match i, hi with | 0, _ => rfl | 1, _ => rfl | n + 2, hi => absurd hi (by omega)) (hP 79 _ rfl)
  | 80, hk => by
    cases hk
    exact hP 80 _ rfl
  | 81, hk => by
    cases hk
    exact hP 81 _ rfl
  | 82, hk => by
    cases hk
    exact va_at_ext (fun i hi => match i, hi with | 0, _ => rfl | 1, _ => rfl | n + 2, hi => absurd hi (by omega)) (hP 82 _ rfl)
  | 83, hk => by
    cases hk
    exact hP 83 _ rfl
  | 84, hk => by
    cases hk
    exact hP 84 _ rfl
  | 85, hk => by
    cases hk
    exact hP 85 _ rfl
  | 86, hk => by
    cases hk
    exact hP 86 _ rfl
  | 87, hk => by
    cases hk
    exact va_at_ext (fun i hi => match i, hi with | 0, _ => rfl | 1, _ => rfl | 2, _ => rfl | 3, _ => rfl | 4, _ => rfl | 5, _ => rfl | n + 6, hi => absurd hi (by omega)) (hP 87 _ rfl)
  | 88, hk => by
    cases hk
    exact hP 88 _ rfl
  | 89, hk => by
    cases hk
    exact hP 89 _ rfl
  | 90, hk => by
    cases hk
    exact hP 90 _ rfl
  | n + 91, hk => by
    simp [id_0] at hk
set_option maxHeartbeats 8000000 in
set_option maxRecDepth 100000 in
theorem xw_0 {X : XC} {s : State} {b1 b2 : Nat} {u : S_X9_init_8} {w : S_X10_init_9} {H : Heap} {locs : List Loc} (hw : uw X (bc_X10_init_9 X b2 w ++ (bc_X9_init_8 X b1 u ++ [])) s H locs) : xw (X.1, X.2.1, ad_0 b1 b2 u w, X.2.2.2) [] z_0 s H locs := by
  have hP := xP_0 hw.2.1.1
  have hD : va_D (xA X) (id_0.map (xf (X.1, X.2.1, ad_0 b1 b2 u w, X.2.2.2) z_0)) := va_D_cong (w1 := bc_X10_init_9 X b2 w ++ (bc_X9_init_8 X b1 u ++ [])) (by rfl) hw.2.1.2
  have hs : ([90, 89, 32, 27, 26, 25, 23, 21, 19, 24, 22, 20, 18, 88, 87, 86, 77, 68, 59, 50, 41, 85, 76, 67, 58, 49, 40, 82, 73, 64, 55, 46, 37, 83, 84, 74, 75, 65, 66, 56, 57, 47, 48, 38, 39, 79, 70, 61, 52, 43, 34, 80, 81, 71, 72, 62, 63, 53, 54, 44, 45, 35, 36, 78, 69, 60, 51, 42, 33, 31, 30, 29, 28, 17, 16, 15, 14, 13, 12, 11, 10, 9, 8, 7, 6, 5, 4, 3, 2, 1, 0] : List Nat).map (fun i => (id_0.map (xf (X.1, X.2.1, ad_0 b1 b2 u w, X.2.2.2) z_0))[i]?) = ((xids.map (xf (X.1, X.2.1, ad_0 b1 b2 u w, X.2.2.2) z_0)).map some) := by
    have h := congrArg (fun l => l.map (fun q => q.map (xf (X.1, X.2.1, ad_0 b1 b2 u w, X.2.2.2) z_0))) id_0_pos
    simp only [List.map_map] at h ⊢
    rw [show ((fun i => (id_0.map (xf (X.1, X.2.1, ad_0 b1 b2 u w, X.2.2.2) z_0))[i]?) : Nat → _) = ((fun q => Option.map (xf (X.1, X.2.1, ad_0 b1 b2 u w, X.2.2.2) z_0) q) ∘ fun i => id_0[i]?) from funext fun i => List.getElem?_map]
    exact h
  have hD2 := hD.sub _ id_0_nd hs
  refine ⟨hw.1, ⟨?_, ?_⟩, hw.2.2⟩
  · intro k q hk
    have hk2 : (xids.map (xf (X.1, X.2.1, ad_0 b1 b2 u w, X.2.2.2) z_0))[k]? = some q := by rw [← List.append_nil (xids.map _)]; exact hk
    obtain ⟨q0, h1, h2⟩ := List.mem_map.mp (List.mem_of_getElem? hk2)
    obtain ⟨i, hi⟩ := List.getElem?_of_mem (List.mem_map.mpr ⟨q0, id_0_in q0 h1, h2⟩)
    exact hP i q hi
  · show va_D (xA X) (xcells _ _ ++ [])
    rw [List.append_nil]
    exact hD2
