def gd {α : Type} (b : Bool) (t : Option α) : Option α := match b with
  | true => t
  | false => none
theorem gd_some {α : Type} {b : Bool} {t : Option α} {x : α} (h : gd b t = some x) : b = true ∧ t = some x := by
  cases b with
  | false => cases h
  | true => exact ⟨rfl, h⟩
def inB (i : Int32) (n : Nat) : Bool := decide (0 ≤ i.toInt) && decide (i.toInt < (n : Int))
theorem inB_in {i : Int32} {n : Nat} (h : inB i n = true) : vp_in i n := vp_in_iff.mpr (by simpa [inB] using h)
theorem inB_lt {i : Int32} {n : Nat} (h : inB i n = true) : i.toNatClampNeg < n := Nat.not_le.mp fun q => inB_in h (Or.inr q)
def nzI (y : Int32) : Bool := decide (¬ y = 0)
theorem nzI_of {y : Int32} (h : nzI y = true) : ¬ y = 0 := of_decide_eq_true h
def nzL (y : Int64) : Bool := decide (¬ y = 0)
theorem nzL_of {y : Int64} (h : nzL y = true) : ¬ y = 0 := of_decide_eq_true h
def isZ (v : Int32) : Bool := decide (v = 0) || decide (v = 1)
theorem isZ_n {v : Int32} (h : isZ v = true) : narrow .boolean (.int v) = .int v := by
  simp only [isZ, Bool.or_eq_true, decide_eq_true_eq] at h
  rcases h with rfl | rfl <;> rfl
theorem nb0 : narrow .boolean (.int (0 : Int32)) = .int (0 : Int32) := rfl
theorem nb1 : narrow .boolean (.int (1 : Int32)) = .int (1 : Int32) := rfl
def isH (z : XS) (j : Nat) : Bool := decide (z.2.2 j = 1) || decide (z.2.2 j = 2) || decide (z.2.2 j = 7)
theorem isH_or {z : XS} {j : Nat} (h : isH z j = true) : z.2.2 j = 1 ∨ z.2.2 j = 2 ∨ z.2.2 j = 7 := by
  simp only [isH, Bool.or_eq_true, decide_eq_true_eq] at h
  rcases h with (h | h) | h
  · exact Or.inl h
  · exact Or.inr (Or.inl h)
  · exact Or.inr (Or.inr h)
theorem x_lt2 {j i : Nat} (hj : j < 6) (hi : i < 2) : 2 * j + i < 12 := by omega
theorem xw_eq {X : XC} {ex : va_W} {a b : XS} {s : State} {H : Heap} {locs : List Loc} (h : some a = some b) (hw : xw X ex a s H locs) : xw X ex b s H locs := by
  rw [← Option.some.inj h]; exact hw
theorem sw_ne {x : Int32} {n : Int} (k : Int32) (hk : k.toInt = n) (h : ¬ x = k) : ¬ n = x.toInt := fun q => h (Int32.toInt_inj.mp (q.symm.trans hk.symm))
def chI (j : Nat) : Int32 := match j with | 0 => 0 | 1 => -1 | _ => 1
theorem chv_I (j : Nat) : chv j = .int (chI j) := match j with
  | 0 => rfl
  | 1 => rfl
  | _ + 2 => rfl
theorem ixX0 : ∀ w ∈ u_ws RX0 TX0 4, w ∈ gtbl := by decide +kernel
theorem ixX1 : ∀ w ∈ u_ws RX1 TX1 2, w ∈ gtbl := by decide +kernel
theorem ixX2 : ∀ w ∈ u_ws RX2 TX2 2, w ∈ gtbl := by decide +kernel
theorem ixX3 : ∀ w ∈ u_ws RX3 TX3 5, w ∈ gtbl := by decide +kernel
theorem ixX4 : ∀ w ∈ u_ws RX4 TX4 3, w ∈ gtbl := by decide +kernel
theorem ixX5 : ∀ w ∈ u_ws RX5 TX5 3, w ∈ gtbl := by decide +kernel
theorem ixX7 : ∀ w ∈ u_ws RX7 TX7 1, w ∈ gtbl := by decide +kernel
theorem ixX8 : ∀ w ∈ u_ws RX8 TX8 2, w ∈ gtbl := by decide +kernel
theorem ixX9 : ∀ w ∈ u_ws RX9 TX9 5, w ∈ gtbl := by decide +kernel
theorem ixX10 : ∀ w ∈ u_ws RX10 TX10 23, w ∈ gtbl := by decide +kernel
section XH
variable {p : Program} {l : Launch} {e : Env} {R : Room} {s : State} {m : MethodId} {args : Array Value} {below : List Frame} {meth : Method} {c : Code} {H : Heap} {locs : List Loc} {cells slots : Nat} {Q : State → Prop}
variable {cc : ByteArray} {pc nL : Nat} {ls : Array Slot} {rest : List Value} {X : XC} {ex : va_W} {z : XS} {own : String}
theorem x_getH (C : CallFix p m c cc nL s args gtbl own) (hw : xw X ex z s H locs) {j : Nat} (hj : j < 6) (hh : isH z j = true) {index : Nat} (f : Nat) (hf : f < 2) (hlink : Cond.fieldLink own index (TX2 f).1 (TX2 f).2.1 (TX2 f).2.2.1 ∈ gtbl) (hdg : decode cc pc = .ok (.getfield index, 3))
    (kk : W p l e R s m args below meth c H locs cells slots Q (F0 m (pc + 3) ls (.int (gS z 10 f j) :: rest))) : W p l e R s m args below meth c H locs cells slots Q (F0 m pc ls (.ref (X.2.2.1 10 j) :: rest)) := by
  have hv : ([.int (gS z 10 0 j), .int (gS z 10 1 j)] : List Value)[f]? = some (.int (gS z 10 f j)) := by
    rcases (show f = 0 ∨ f = 1 by omega) with rfl | rfl <;> rfl
  have hc : xct X z 10 j = .inr (z.2.2 j, [.int (gS z 10 0 j), .int (gS z 10 1 j)]) := rfl
  rcases isH_or hh with h | h | h
  · rw [h] at hc
    exact x_get (k := 10) (j := j) C hw hj f hc (show vwCl[1]? = some (RX1, TX1, 2) from rfl) ixX1 hf hlink hv hdg kk
  · rw [h] at hc
    exact x_get (k := 10) (j := j) C hw hj f hc (show vwCl[2]? = some (RX2, TX2, 2) from rfl) ixX2 hf hlink hv hdg kk
  · rw [h] at hc
    exact x_get (k := 10) (j := j) C hw hj f hc (show vwCl[7]? = some (RX8, TX8, 2) from rfl) ixX8 hf hlink hv hdg kk
theorem x_choices (C : CallFix p m c cc nL s args gtbl own) (hw : xw X ex z s H locs) {index : Nat} (hlink : (own, index, "WordHedges", "CHOICES", "[I", "WordHedges") ∈ xnf) (hdg : decode cc pc = .ok (.getstatic index, 3))
    (kk : W p l e R s m args below meth c H locs cells slots Q (F0 m (pc + 3) ls (.ref X.2.2.2.2 :: rest))) : W p l e R s m args below meth c H locs cells slots Q (F0 m pc ls rest) :=
  va_getsN (host := "WordHedges") C.1 C.2.1 hw.1.2.2.2.1 hw.2.2 C.2.2.2.1 (va_Nw.use rfl (hw.1.2.2.1.1 _ hlink)) (fun _ h => h) hdg kk
theorem x_chald (C : CallFix p m c cc nL s args gtbl own) (hw : xw X ex z s H locs) {i : Int32} (hin : vp_in i 3) (hdg : decode cc pc = .ok (.iaload, 1))
    (kk : W p l e R s m args below meth c H locs cells slots Q (F0 m (pc + 1) ls (.int (chI i.toNatClampNeg) :: rest))) : W p l e R s m args below meth c H locs cells slots Q (F0 m pc ls (.int i :: .ref X.2.2.2.2 :: rest)) :=
  va_ti C.1 C.2.1 hw.1.2.2.2.2 hw.2.2 hin (chv_I _) hdg kk
theorem x_chlen (C : CallFix p m c cc nL s args gtbl own) (hw : xw X ex z s H locs) (hdg : decode cc pc = .ok (.arraylength, 1))
    (kk : W p l e R s m args below meth c H locs cells slots Q (F0 m (pc + 1) ls (.int (3 : Int32) :: rest))) : W p l e R s m args below meth c H locs cells slots Q (F0 m pc ls (.ref X.2.2.2.2 :: rest)) :=
  va_tlen C.1 C.2.1 hw.1.2.2.2.2 hw.2.2 rfl hdg kk
end XH
section XD
variable {p : Program} {l : Launch} {e : Env} {R : Room} {s : State} {m : MethodId} {args : Array Value} {below : List Frame} {meth : Method} {c : Code} {H : Heap} {locs : List Loc} {cells slots : Nat} {Q : State → Prop}
variable {cc : ByteArray} {pc nL : Nat} {ls : Array Slot} {rest : List Value} {X : XC} {ex : va_W} {z : XS} {own : String}
variable {y : MethodName} {bytes : ByteArray} {maxL n index : Nat} {ret : Option FieldType} {rm : Room} {Qc : Array Value → State → Outcome → State → Prop} {As st0 : List Value}
/-- a call whose method is selected by the receiver -/
theorem x_runD (C : CallFix p m c cc nL s args gtbl own) (hw : xw X ex z s H locs) {k j : Nat} (hj : j < xcnt k) {ci N : Nat} {Cn : String} {T : u_T} {fs : List Value} (hct : xct X z k j = .inr (ci, fs)) (hc : vwCl[ci]? = some (Cn, T, N)) {x : MethodName} {owner : String} (cv : Cond.code y bytes maxL ret ∈ gtbl ∧ Cond.initialized y.cls ∈ gtbl ∧ Cond.instanceMethod y ∈ gtbl) (hd : owner ≠ "java/lang/invoke/MethodHandle" ∧ owner ≠ "java/lang/invoke/VarHandle" ∧ (parseMethodDescriptor x.desc).map (fun d => d.parameters.length) = some n) (hl : Cond.methodLink own index x ∈ gtbl) (hsm : Cond.sameMethod x.cls owner x.name x.desc ∈ gtbl) (hdi : Cond.instanceMethod ⟨owner, x.name, x.desc⟩ ∈ gtbl) {b0 : ByteArray} {m0 : Nat} {r0 : Option FieldType} (h0 : Cond.code ⟨owner, x.name, x.desc⟩ b0 m0 r0 ∈ gtbl) (hsel : Cond.selects Cn x y ∈ gtbl) (hM : xM l X ex y bytes maxL ret rm (.ref (xad X z k j) :: As) z Qc) (hR : rm.frames + 1 ≤ R.frames ∧ 8 + (maxL + 11) + rm.locals ≤ R.locals)
    (hn : As.length = n) (hsize : ls.size = nL) (hstack : st0 = As.reverse ++ .ref (xad X z k j) :: rest) (hW : (rest.map fun v => v.category).sum ≤ 8) (hdg : decode cc pc = .ok (.invokevirtual index, 3)) (hf : cells + rm.cells ≤ R.cells ∧ slots + rm.slots ≤ R.slots) :
    va_Run p l e R s m args below meth c H locs cells slots rm.cells rm.slots (F0 m pc ls st0) rest (Qc (Value.ref (xad X z k j) :: As).toArray) (xA X) := by
  refine va_runU (C := Cn) (x := x) (owner := owner) (n := n) C hM ⟨⟨rfl, rfl, hR.1, hR.2, pay_in C.2.2.2.2 (xgood cv.1), List.mem_cons_self⟩, C.2.2.2.2 _ cv.1, C.2.2.2.2 _ cv.2.1, ⟨hd.1, hd.2.1⟩, fun sig h => ?_, C.2.2.2.2 _ hl, C.2.2.2.2 _ hsm, va_Decl.of (C.2.2.2.2 _ hdi) (C.2.2.2.2 _ h0), C.2.2.2.2 _ hsel, C.2.2.2.2 _ cv.2.2⟩ ⟨xblind, x_recv hw hj hct hc, fun U hU hW => ⟨rfl, hw.to hU hW⟩⟩ rfl hn hsize hstack (lv_room hW) hdg hf
  have h2 := hd.2.2
  rw [h] at h2
  exact (Option.some.inj h2).symm
/-- a call of the superclass's own method -/
theorem x_runSU (C : CallFix p m c cc nL s args gtbl own) (hw : xw X ex z s H locs) {k j : Nat} (hj : j < xcnt k) {ci N : Nat} {Cn : String} {T : u_T} {fs : List Value} (hct : xct X z k j = .inr (ci, fs)) (hc : vwCl[ci]? = some (Cn, T, N)) (cv : Cond.code y bytes maxL ret ∈ gtbl ∧ Cond.initialized y.cls ∈ gtbl ∧ Cond.instanceMethod y ∈ gtbl) (hd : y.name ≠ "<init>" ∧ (parseMethodDescriptor y.desc).map (fun d => d.parameters.length) = some n) (hl : Cond.methodLink own index y ∈ gtbl) (hsm : Cond.sameMethod y.cls y.cls y.name y.desc ∈ gtbl) (hsu : Cond.superclass own y.cls ∈ gtbl) (hM : xM l X ex y bytes maxL ret rm (.ref (xad X z k j) :: As) z Qc) (hR : rm.frames + 1 ≤ R.frames ∧ 8 + (maxL + 11) + rm.locals ≤ R.locals)
    (hn : As.length = n) (hsize : ls.size = nL) (hstack : st0 = As.reverse ++ .ref (xad X z k j) :: rest) (hW : (rest.map fun v => v.category).sum ≤ 8) (hdg : decode cc pc = .ok (.invokespecial index, 3)) (hf : cells + rm.cells ≤ R.cells ∧ slots + rm.slots ≤ R.slots) :
    va_Run p l e R s m args below meth c H locs cells slots rm.cells rm.slots (F0 m pc ls st0) rest (Qc (Value.ref (xad X z k j) :: As).toArray) (xA X) := by
  refine va_runSU (C := Cn) (cC := X.1.1 ci) (n := n) (hw.1.2.1.1 ci _ hc).2 C hM ⟨⟨rfl, rfl, hR.1, hR.2, pay_in C.2.2.2.2 (xgood cv.1), List.mem_cons_self⟩, C.2.2.2.2 _ hl, C.2.2.2.2 _ hsm, C.2.2.2.2 _ hsu, C.2.2.2.2 _ cv.2.2, C.2.2.2.2 _ cv.2.1, C.2.2.2.2 _ cv.1, hd.1, fun sig h => ?_⟩ ⟨xblind, x_recv hw hj hct hc, fun U hU hW => ⟨rfl, hw.to hU hW⟩⟩ rfl hn hsize hstack (lv_room hW) hdg hf
  have h2 := hd.2
  rw [h] at h2
  exact (Option.some.inj h2).symm
end XD
theorem xct_H {X : XC} {z : XS} {j ci : Nat} (h : z.2.2 j = ci) : xct X z 10 j = .inr (ci, [.int (gS z 10 0 j), .int (gS z 10 1 j)]) := by
  subst h
  rfl
def isK (z : XS) (j n : Nat) : Bool := decide (z.2.2 j = n)
theorem isK_of {z : XS} {j n : Nat} (h : isK z j n = true) : z.2.2 j = n := of_decide_eq_true h
/-- a whole row of numbers anew -/
def pR (z : XS) (k j : Nat) (f : Nat → Int32) : XS := (z.1, fun k' j' i' => if k' = k ∧ j' = j then f i' else z.2.1 k' j' i', z.2.2)
theorem gA_pR_ne {z : XS} {k j k' j' i' : Nat} {f : Nat → Int32} (h : ¬ (k' = k ∧ j' = j)) : gA (pR z k j f) k' j' i' = gA z k' j' i' := by
  unfold gA pR
  exact if_neg h
theorem gA_pR {z : XS} {k j : Nat} {f : Nat → Int32} : (fun i' => gA (pR z k j f) k j i') = f := by
  funext i'
  unfold gA pR
  exact if_pos ⟨rfl, rfl⟩
theorem gS_pR {z : XS} {k j k' f' j' : Nat} {f : Nat → Int32} : gS (pR z k j f) k' f' j' = gS z k' f' j' := rfl
theorem xct_pR_ne {X : XC} {z : XS} {k j k' j' : Nat} {f : Nat → Int32} (h : ¬ (k' = k ∧ j' = j)) : xct X (pR z k j f) k' j' = xct X z k' j' := by
  unfold xct
  rw [show (fun i' => gA (pR z k j f) k' j' i') = (fun i' => gA z k' j' i') from funext fun _ => gA_pR_ne h]
  rfl
theorem xcells_pR {A : Nat → Prop} {X : XC} {z : XS} {ex : va_W} {k j n : Nat} {f : Nat → Int32} (hk : xisI k = true) (hD : va_D A (xcells X z ++ ex)) (hj : j < xcnt k) (hn : (xcells X z ++ ex)[n]? = some (xad X z k j, xct X z k j)) : (xcells X z ++ ex).set n (xad X z k j, .inl (X.2.1 0, xlen k j, .inl f)) = xcells X (pR z k j f) ++ ex := by
  refine x_set (q0 := (k, j)) (f := xf X z) (g := xf X (pR z k j f)) hD (x_mem hj) hn ?_ ?_
  · show (xad X (pR z k j f) k j, xct X (pR z k j f) k j) = (xad X z k j, _)
    rw [xct_I hk, gA_pR]
  · intro q _ hq
    show (xad X (pR z k j f) q.1 q.2, xct X (pR z k j f) q.1 q.2) = (xad X z q.1 q.2, xct X z q.1 q.2)
    rw [xct_pR_ne (fun h => hq (Prod.ext h.1 h.2))]
def cpB (sp dp n : Int32) (n0 n1 : Nat) : Bool := decide (¬ sp < 0) && decide (¬ dp < 0) && decide (¬ n < 0) && decide (sp.toNatClampNeg + n.toNatClampNeg ≤ n0) && decide (dp.toNatClampNeg + n.toNatClampNeg ≤ n1)
section XCP
variable {p : Program} {l : Launch} {e : Env} {R : Room} {s : State} {m : MethodId} {args : Array Value} {below : List Frame} {meth : Method} {c : Code} {H : Heap} {locs : List Loc} {cells slots : Nat} {Q : State → Prop}
variable {cc : ByteArray} {pc nL : Nat} {ls : Array Slot} {rest : List Value} {X : XC} {ex : va_W} {z : XS} {own : String}
theorem x_copy (C : CallFix p m c cc nL s args gtbl own) (hw : xw X ex z s H locs) {index : Nat} (hl : Cond.methodLink own index arraycopyName ∈ gtbl) (hnat : Cond.native arraycopyName ∈ gtbl) (hst : Cond.static arraycopyName ∈ gtbl) (hini : Cond.initialized "java/lang/System" ∈ gtbl) (hsize : ls.size = nL) {k j k0 j0 : Nat} (hk : xisI k = true) (hj : j < xcnt k) (hk0 : xisI k0 = true) (hj0 : j0 < xcnt k0) {sp dp n : Int32} (hc : cpB sp dp n (xlen k0 j0) (xlen k j) = true) (hfr : 1 ≤ R.frames) (hlo : (rest.map fun v => v.category).sum + (nativeFrameWords "java/lang/System" "arraycopy" 5 + 11) ≤ R.locals) (hdg : decode cc pc = .ok (.invokestatic index, 3))
    (kk : ∀ (H1 : Heap) (locs1 : List Loc), xw X ex (pR z k j (va_cpy (fun i => gA z k0 j0 i) (fun i => gA z k j i) sp.toNatClampNeg dp.toNatClampNeg n.toNatClampNeg)) s H1 locs1 → W p l e R s m args below meth c H1 locs1 cells slots Q (F0 m (pc + 3) ls rest)) : W p l e R s m args below meth c H locs cells slots Q (F0 m pc ls (.int n :: .int dp :: .ref (xad X z k j) :: .int sp :: .ref (xad X z k0 j0) :: rest)) := by
  simp only [cpB, Bool.and_eq_true, decide_eq_true_eq] at hc
  obtain ⟨⟨⟨⟨h1, h2⟩, h3⟩, h4⟩, h5⟩ := hc
  obtain ⟨q1, hq1⟩ := x_place X z ex hj
  obtain ⟨q0, hq0⟩ := x_place X z ex hj0
  have hq := hq1
  rw [xct_I hk] at hq1
  rw [xct_I hk0] at hq0
  refine va_copyi (ty := .int) C.1 C.2.1 (C.2.2.1.trans hsize.symm) C.2.2.2.1 (C.2.2.2.2 _ hl) (C.2.2.2.2 _ hnat) (C.2.2.2.2 _ hst) (C.2.2.2.2 _ hini) hw.1.2.1 hw.2.1.1 hw.2.1.2 hw.2.2 q0 q1 0 0 hq0 hq1 rfl rfl rfl h1 h2 h3 h4 h5 (fun i _ => rfl) hfr hlo hdg (fun H1 locs1 hP hD hS => kk H1 locs1 ⟨hw.1, ?_, hS⟩)
  rw [xcells_pR hk hw.2.1.2 hj hq] at hP hD
  exact ⟨hP, hD⟩
end XCP
theorem x_runSUH {p : Program} {l : Launch} {e : Env} {R : Room} {s : State} {m : MethodId} {args : Array Value} {below : List Frame} {meth : Method} {c : Code} {H : Heap} {locs : List Loc} {cells slots : Nat} {cc : ByteArray} {pc nL : Nat} {ls : Array Slot} {rest : List Value} {X : XC} {ex : va_W} {z : XS} {own : String} {y : MethodName} {bytes : ByteArray} {maxL n index : Nat} {ret : Option FieldType} {rm : Room} {Qc : Array Value → State → Outcome → State → Prop} {As st0 : List Value} (C : CallFix p m c cc nL s args gtbl own) (hw : xw X ex z s H locs) {j : Nat} (hj : j < 6) (hh : isH z j = true) (cv : Cond.code y bytes maxL ret ∈ gtbl ∧ Cond.initialized y.cls ∈ gtbl ∧ Cond.instanceMethod y ∈ gtbl) (hd : y.name ≠ "<init>" ∧ (parseMethodDescriptor y.desc).map (fun d => d.parameters.length) = some n) (hl : Cond.methodLink own index y ∈ gtbl) (hsm : Cond.sameMethod y.cls y.cls y.name y.desc ∈ gtbl) (hsu : Cond.superclass own y.cls ∈ gtbl) (hM : xM l X ex y bytes maxL ret rm (.ref (X.2.2.1 10 j) :: As) z Qc) (hR : rm.frames + 1 ≤ R.frames ∧ 8 + (maxL + 11) + rm.locals ≤ R.locals)
    (hn : As.length = n) (hsize : ls.size = nL) (hstack : st0 = As.reverse ++ .ref (X.2.2.1 10 j) :: rest) (hW : (rest.map fun v => v.category).sum ≤ 8) (hdg : decode cc pc = .ok (.invokespecial index, 3)) (hf : cells + rm.cells ≤ R.cells ∧ slots + rm.slots ≤ R.slots) :
    va_Run p l e R s m args below meth c H locs cells slots rm.cells rm.slots (F0 m pc ls st0) rest (Qc (Value.ref (X.2.2.1 10 j) :: As).toArray) (xA X) := by
  rcases isH_or hh with h | h | h
  · exact x_runSU (k := 10) (j := j) C hw hj (xct_H h) rfl cv hd hl hsm hsu hM hR hn hsize hstack hW hdg hf
  · exact x_runSU (k := 10) (j := j) C hw hj (xct_H h) rfl cv hd hl hsm hsu hM hR hn hsize hstack hW hdg hf
  · exact x_runSU (k := 10) (j := j) C hw hj (xct_H h) rfl cv hd hl hsm hsu hM hR hn hsize hstack hW hdg hf
