def xnf : List (String × Nat × String × String × String × String) := [("WordHedges", 95, "WordHedges$Border", "hedge", "LWordHedges$Hedge;", "WordHedges"), ("WordHedges$Row", 86, "WordHedges$Border", "words", "[[I", "WordHedges"), ("WordHedges$Rings", 40, "WordHedges$Border", "inches", "[[I", "WordHedges"), ("WordHedges", 141, "WordHedges$Border", "inches", "[[I", "WordHedges"), ("WordHedges$Row", 90, "WordHedges$Border", "inches", "[[I", "WordHedges"), ("WordHedges", 84, "WordHedges$Row", "wanted", "[I", "WordHedges"), ("WordHedges$Rings", 28, "WordHedges$Row", "borders", "[LWordHedges$Border;", "WordHedges"), ("WordHedges", 91, "WordHedges$Row", "borders", "[LWordHedges$Border;", "WordHedges"), ("WordHedges", 78, "WordHedges$Row", "count", "I", "WordHedges"), ("WordHedges", 167, "WordHedges$Rings", "count", "I", "WordHedges"), ("WordHedges", 232, "WordHedges$Trace", "mark", "I", "WordHedges"), ("WordHedges$Text", 9, "WordHedges$Sheet", "cells", "[I", "WordHedges"), ("WordHedges$Row", 32, "WordHedges$Sheet", "cells", "[I", "WordHedges"), ("WordHedges", 213, "WordHedges$Sheet", "cells", "[I", "WordHedges"), ("WordHedges", 216, "WordHedges$Sheet", "lane", "I", "WordHedges"), ("WordHedges$Row", 100, "WordHedges", "CHOICES", "[I", "WordHedges")]
def xnm : List (String × Nat × MethodName × String) := [("WordHedges$Row", 25, ⟨"WordHedges$Border", "<init>", "()V"⟩, "WordHedges"), ("WordHedges", 20, ⟨"WordHedges$Rings", "<init>", "()V"⟩, "WordHedges"), ("WordHedges", 27, ⟨"WordHedges$Trace", "<init>", "()V"⟩, "WordHedges"), ("WordHedges", 42, ⟨"WordHedges$Sheet", "<init>", "()V"⟩, "WordHedges"), ("WordHedges$Row", 109, ⟨"WordHedges", "hedgeBeside", "(II)I"⟩, "WordHedges"), ("WordHedges$Row", 112, ⟨"WordHedges", "otherSide", "(I)I"⟩, "WordHedges"), ("WordHedges$Border", 62, ⟨"WordHedges", "otherSide", "(I)I"⟩, "WordHedges")]
def xtys (X : XC) : List (ClassId × FieldType) := [(X.2.1 0, .int), (X.2.1 1, .array .int), (X.2.1 2, .object "WordHedges$Border"), (X.2.1 3, .object "WordHedges$Sheet")]
def xA (X : XC) : Nat → Prop := fun q => X.2.2.2.1 ≤ q
def chv (j : Nat) : Value := match j with | 0 => .int 0 | 1 => .int (-1) | _ => .int 1
def xN (U : State) : Prop := (∀ q ∈ xnf, va_Nw (.fieldLinkNest q.1 q.2.1 q.2.2.1 q.2.2.2.1 q.2.2.2.2.1 q.2.2.2.2.2) U) ∧ ∀ q ∈ xnm, va_Nw (.methodLinkNest q.1 q.2.1 q.2.2.1 q.2.2.2) U
def gtbl : List Cond := lw_tbl.filter goodWord
theorem gm_of {w : Cond} (h : w ∈ lw_tbl) (g : goodWord w = true) : w ∈ gtbl := List.mem_filter.mpr ⟨h, g⟩
theorem gm1 {w : Cond} (i : Nat) (h : tables_1_1[i]? = some w) (g : goodWord w = true) : w ∈ gtbl := gm_of (List.mem_append_right _ (List.mem_append_left _ (List.mem_of_getElem? h))) g
theorem gm2 {w : Cond} (i : Nat) (h : tables_1_2[i]? = some w) (g : goodWord w = true) : w ∈ gtbl := gm_of (List.mem_append_right _ (List.mem_append_right _ (List.mem_append_left _ (List.mem_of_getElem? h)))) g
theorem gm3 {w : Cond} (i : Nat) (h : tables_1_3[i]? = some w) (g : goodWord w = true) : w ∈ gtbl := gm_of (List.mem_append_right _ (List.mem_append_right _ (List.mem_append_right _ (List.mem_append_left _ (List.mem_of_getElem? h))))) g
theorem gm4 {w : Cond} (i : Nat) (h : tables_1_4[i]? = some w) (g : goodWord w = true) : w ∈ gtbl := gm_of (List.mem_append_right _ (List.mem_append_right _ (List.mem_append_right _ (List.mem_append_right _ (List.mem_of_getElem? h))))) g
theorem gm0 {w : Cond} (i : Nat) (h : (k2_sels lw_privs)[i]? = some w) (g : goodWord w = true) : w ∈ gtbl := gm_of (List.mem_append_left _ (List.mem_of_getElem? h)) g
theorem gtbl_good : GoodIn gtbl gtbl := fun w h => ⟨h, good_of_word (List.mem_filter.mp h).2⟩
def va_AOA (ty : FieldType) (U : State) : Prop := (Cond.arrayOver (.array ty)).before #[] U = true
theorem va_AOA.of {ty : FieldType} {A : Array Value} {U : State} (h : (Cond.arrayOver (.array ty)).before A U = true) : va_AOA ty U := h
theorem va_AOA.use {ty : FieldType} {A : Array Value} {U : State} (h : va_AOA ty U) : (Cond.arrayOver (.array ty)).before A U = true := h
theorem va_AOA.moved {ty : FieldType} {u U : State} (hvm : u.vm.Alike U.vm) (h : va_AOA ty u) : va_AOA ty U := Stand.arrayOver_alikeB hvm h
def xO (U : State) : Prop := va_AO "WordHedges$Border" U ∧ va_AO "WordHedges$Sheet" U ∧ va_AOA .int U
theorem xO.moved {u U : State} (hvm : u.vm.Alike U.vm) (h : xO u) : xO U := ⟨h.1.moved hvm, h.2.1.moved hvm, h.2.2.moved hvm⟩
def xZ (X : XC) (U : State) : Prop := va_Z "WordHedges" "CHOICES" "[I" (.ref X.2.2.2.2) (xA X) U U.heap ∧ va_T .int X.2.2.2.2 3 chv (xA X) U U.heap
/-- what stands of the tables and of the start -/
def xG (X : XC) (U : State) : Prop := (X.2.2.2.1 ≤ U.heap.size ∧ xO U) ∧ va_K X.1 vwCl (xtys X) U ∧ xN U ∧ xZ X U
def xH (X : XC) (ex : va_W) (z : XS) (H : Heap) : Prop := va_P X.1 vwCl (xcells X z ++ ex) H ∧ va_D (xA X) (xcells X z ++ ex)
def xU (X : XC) (ex : va_W) (z : XS) (U : State) : Prop := xG X U ∧ xH X ex z U.heap
def xw (X : XC) (ex : va_W) (z : XS) (s : State) (H : Heap) (locs : List Loc) : Prop := xG X s ∧ xH X ex z H ∧ va_S (xA X) s.heap H locs
theorem xN.warm {s U : State} (h : xN s) (hW : s.WarmedH U.vm) : xN U := ⟨fun q hq => (h.1 q hq).warmF hW, fun q hq => (h.2 q hq).warmM hW⟩
theorem xN.same {s U : State} (h : xN s) (e : s.vm = U.vm) : xN U := ⟨fun q hq => (h.1 q hq).same rfl e, fun q hq => (h.2 q hq).same rfl e⟩
theorem xG.at {X : XC} {s U : State} {H : Heap} {locs : List Loc} (h : xG X s) (hS : va_S (xA X) s.heap H locs) (hU : U.heap = H) (hW : s.WarmedH U.vm) : xG X U := by
  obtain ⟨⟨h1, h0⟩, h2, h3, h4, h5⟩ := h
  refine ⟨⟨by rw [hU]; exact Nat.le_trans h1 hS.1, h0.moved hW.alike⟩, h2.moved hW.alike, h3.warm hW, ?_, ?_⟩
  · rw [hU]; exact (h4.kept hS.2.1).moved hW.alike
  · rw [hU]; exact (h5.kept hS.2.1).moved hW.alike
theorem xw.to {X : XC} {ex : va_W} {z : XS} {s U : State} {H : Heap} {locs : List Loc} (h : xw X ex z s H locs) (hU : U.heap = H) (hW : s.WarmedH U.vm) : xU X ex z U := ⟨h.1.at h.2.2 hU hW, by rw [hU]; exact h.2.1⟩
theorem xG.call {X : XC} {U : State} (h : xG X U) (g : JFrame) (mk : MethodId) (a : Array Value) : xG X (U.calling g mk a) := by
  obtain ⟨⟨h1, h0⟩, h2, h3, h4, h5⟩ := h
  exact ⟨⟨h1, xO.moved (u := U) (U := U.calling g mk a) (Vm.Alike.refl U.vm) h0⟩, va_K.moved (u := U) (U := U.calling g mk a) (Vm.Alike.refl U.vm) h2, h3.same rfl, va_Z.moved (u := U) (U := U.calling g mk a) (Vm.Alike.refl U.vm) h4, va_T.moved (u := U) (U := U.calling g mk a) (Vm.Alike.refl U.vm) h5⟩
theorem xblind {X : XC} {ex : va_W} {z : XS} {avs : List Value} : FrameBlind (va_Pc avs (xU X ex z)) := fun a _ g mk h => ⟨h.1, h.2.1.call g mk a, h.2.2⟩
theorem xA_ge {X : XC} {s : State} (h : xG X s) : ∀ q, s.heap.size ≤ q → xA X q := fun _ hq => Nat.le_trans h.1.1 hq
/-- a contract: what it answers, and the world behind it -/
abbrev xQi (X : XC) (ex : va_W) (z : XS) (r : Int32) : Array Value → State → Outcome → State → Prop := va_Qi (fun r' (_ : Unit) => r' = r) (fun _ t => xU X ex z t) (xA X)
abbrev xQl (X : XC) (ex : va_W) (z : XS) (r : Int64) : Array Value → State → Outcome → State → Prop := va_Ql (fun r' (_ : Unit) => r' = r) (fun _ t => xU X ex z t) (xA X)
abbrev xQv (X : XC) (ex : va_W) (z : XS) : Array Value → State → Outcome → State → Prop := va_Qv (fun (_ : Unit) => True) (fun _ t => xU X ex z t) (xA X)
abbrev xM (l : Launch) (X : XC) (ex : va_W) (y : MethodName) (cc : ByteArray) (nL : Nat) (ret : Option FieldType) (rm : Room) (avs : List Value) (z : XS) (Qc : Array Value → State → Outcome → State → Prop) : Prop := Met l y (.code y cc nL ret :: gtbl) rm (va_Pc avs (xU X ex z)) Qc rm.cells rm.slots (xA X)
theorem x_ent {l : Launch} {X : XC} {ex : va_W} {y : MethodName} {cc : ByteArray} {nL : Nat} {ret : Option FieldType} {rm : Room} {avs : List Value} {z : XS} {Qc : Array Value → State → Outcome → State → Prop} (hy : plainName y.cls = true) (hlen : (lg_sl avs).length ≤ nL)
    (body : ∀ (p : Program) (e : Env) (s : State) (m : MethodId) (below : List Frame) (meth : Method) (c : Code) (ls : Array Slot), CallFix p m c cc nL s avs.toArray gtbl y.cls → meth.sig.returnType = ret → meth.locks = false → xw X ex z s s.heap [] → lv_has ls nL (lv_args 0 avs) →
      W p l e rm s m avs.toArray below meth c s.heap [] 0 0 (MQ below Qc avs.toArray s rm.cells rm.slots (xA X)) (F0 m 0 ls [])) : xM l X ex y cc nL ret rm avs z Qc := by
  refine Met.ofW (cc := cc) (maxL := nL) (ret := ret) hy rfl ?_
  intro p e s m args below meth c s₁ B hml hv
  obtain ⟨rfl, hU⟩ := hv
  have hts := atoms_spec (ws := .code y cc nL ret :: gtbl) B.pre
  have hown : s.vm.findClass y.cls = some m.cls := findClass_of_methodNamed B.named
  rw [lg_entry_eq]
  exact body p e s m below meth c _ ⟨B.exec, B.bytes, hml, hown, fun w h => hts w (List.mem_cons_of_mem _ h)⟩ B.returns B.notSynchronized ⟨hU.1, hU.2, va_S.rf⟩ (lv_entry avs hlen)
section XR
variable {p : Program} {l : Launch} {e : Env} {R : Room} {s : State} {m : MethodId} {args : Array Value} {below : List Frame} {meth : Method} {c : Code} {H : Heap} {locs : List Loc} {cells slots : Nat} {Q : State → Prop}
variable {cc : ByteArray} {pc nL : Nat} {ls : Array Slot} {rest : List Value} {X : XC} {ex : va_W} {z : XS} {own : String}
theorem x_get (C : CallFix p m c cc nL s args gtbl own) (hw : xw X ex z s H locs) {k j : Nat} (hj : j < xcnt k) {ci N index : Nat} (f : Nat) {Cn : String} {T : u_T} {fs : List Value} {v : Value} (hct : xct X z k j = .inr (ci, fs)) (hc : vwCl[ci]? = some (Cn, T, N)) (hin : ∀ w ∈ u_ws Cn T N, w ∈ gtbl) (hf : f < N) (hlink : Cond.fieldLink own index (T f).1 (T f).2.1 (T f).2.2.1 ∈ gtbl) (hv : fs[f]? = some v) (hdg : decode cc pc = .ok (.getfield index, 3))
    (kk : W p l e R s m args below meth c H locs cells slots Q (F0 m (pc + 3) ls (v :: rest))) : W p l e R s m args below meth c H locs cells slots Q (F0 m pc ls (.ref (xad X z k j) :: rest)) := by
  obtain ⟨n, hn⟩ := x_place X z ex hj
  rw [hct] at hn
  exact va_get C.1 C.2.1 C.2.2.2.2 hin C.2.2.2.1 hw.1.2.1 hw.2.1.1 n hn hc f hf (C.2.2.2.2 _ hlink) (fun _ h => h) hv hdg kk
theorem x_getN (C : CallFix p m c cc nL s args gtbl own) (hw : xw X ex z s H locs) {k j : Nat} (hj : j < xcnt k) {ci N index : Nat} (f : Nat) {Cn : String} {T : u_T} {fs : List Value} {v : Value} (hct : xct X z k j = .inr (ci, fs)) (hc : vwCl[ci]? = some (Cn, T, N)) (hin : ∀ w ∈ u_ws Cn T N, w ∈ gtbl) (hf : f < N) (hlink : (own, index, (T f).1, (T f).2.1, (T f).2.2.1, "WordHedges") ∈ xnf) (hv : fs[f]? = some v) (hdg : decode cc pc = .ok (.getfield index, 3))
    (kk : W p l e R s m args below meth c H locs cells slots Q (F0 m (pc + 3) ls (v :: rest))) : W p l e R s m args below meth c H locs cells slots Q (F0 m pc ls (.ref (xad X z k j) :: rest)) := by
  obtain ⟨n, hn⟩ := x_place X z ex hj
  rw [hct] at hn
  exact va_getN (host := "WordHedges") C.1 C.2.1 C.2.2.2.2 hin C.2.2.2.1 hw.1.2.1 hw.2.1.1 n hn hc f hf (va_Nw.use rfl (hw.1.2.2.1.1 _ hlink)) (fun _ h => h) hv hdg kk
theorem x_put (C : CallFix p m c cc nL s args gtbl own) (hw : xw X ex z s H locs) {k j : Nat} (hj : j < xcnt k) {ci N index : Nat} (f : Nat) {Cn : String} {T : u_T} {fs : List Value} {v : Int32} (hct : xct X z k j = .inr (ci, fs)) (hct2 : xcf X k j (fun g => if g = f then v else gS z k g j) (fun i => gA z k j i) (z.2.2 j) = .inr (ci, fs.set f (.int v))) (hc : vwCl[ci]? = some (Cn, T, N)) (hin : ∀ w ∈ u_ws Cn T N, w ∈ gtbl) (ty0 : Nat → FieldType) (hty : ∀ k, k < N → parseFieldDescriptor (T k).2.2.1 = some (ty0 k)) (hnm : ∀ a, a < N → ∀ b, b < N → a ≠ b → (T a).2.1 ≠ (T b).2.1) (hf : f < N) (hlink : Cond.fieldLink own index (T f).1 (T f).2.1 (T f).2.2.1 ∈ gtbl) (hfin : (T f).2.2.2 = false) (hd : parseFieldDescriptor (T f).2.2.1 = some .int) (hl : f < fs.length) (hdg : decode cc pc = .ok (.putfield index, 3))
    (kk : ∀ (H1 : Heap) (locs1 : List Loc), xw X ex (pS z k f j v) s H1 locs1 → W p l e R s m args below meth c H1 locs1 cells slots Q (F0 m (pc + 3) ls rest)) : W p l e R s m args below meth c H locs cells slots Q (F0 m pc ls (.int v :: .ref (xad X z k j) :: rest)) := by
  obtain ⟨n, hn⟩ := x_place X z ex hj
  have hn0 := hn
  rw [hct] at hn
  refine va_put C.1 C.2.1 C.2.2.2.2 hin ty0 hty hnm C.2.2.2.1 hw.1.2.1 hw.2.1.1 hw.2.1.2 hw.2.2 n hn hc f hf (C.2.2.2.2 _ hlink) (fun _ h => h) hfin hd rfl rfl hl hdg (fun H1 locs1 hP hD hS => kk H1 locs1 ⟨hw.1, ?_, hS⟩)
  rw [xcells_pS (f := f) (v := v) hw.2.1.2 hj hn0 (xct_pS.trans hct2)] at hP hD
  exact ⟨hP, hD⟩
theorem x_putN (C : CallFix p m c cc nL s args gtbl own) (hw : xw X ex z s H locs) {k j : Nat} (hj : j < xcnt k) {ci N index : Nat} (f : Nat) {Cn : String} {T : u_T} {fs : List Value} {v : Int32} (hct : xct X z k j = .inr (ci, fs)) (hct2 : xcf X k j (fun g => if g = f then v else gS z k g j) (fun i => gA z k j i) (z.2.2 j) = .inr (ci, fs.set f (.int v))) (hc : vwCl[ci]? = some (Cn, T, N)) (hin : ∀ w ∈ u_ws Cn T N, w ∈ gtbl) (ty0 : Nat → FieldType) (hty : ∀ k, k < N → parseFieldDescriptor (T k).2.2.1 = some (ty0 k)) (hnm : ∀ a, a < N → ∀ b, b < N → a ≠ b → (T a).2.1 ≠ (T b).2.1) (hf : f < N) (hlink : (own, index, (T f).1, (T f).2.1, (T f).2.2.1, "WordHedges") ∈ xnf) (hfin : (T f).2.2.2 = false) (hd : parseFieldDescriptor (T f).2.2.1 = some .int) (hl : f < fs.length) (hdg : decode cc pc = .ok (.putfield index, 3))
    (kk : ∀ (H1 : Heap) (locs1 : List Loc), xw X ex (pS z k f j v) s H1 locs1 → W p l e R s m args below meth c H1 locs1 cells slots Q (F0 m (pc + 3) ls rest)) : W p l e R s m args below meth c H locs cells slots Q (F0 m pc ls (.int v :: .ref (xad X z k j) :: rest)) := by
  obtain ⟨n, hn⟩ := x_place X z ex hj
  have hn0 := hn
  rw [hct] at hn
  refine va_putN (host := "WordHedges") C.1 C.2.1 C.2.2.2.2 hin ty0 hty hnm C.2.2.2.1 hw.1.2.1 hw.2.1.1 hw.2.1.2 hw.2.2 n hn hc f hf (va_Nw.use rfl (hw.1.2.2.1.1 _ hlink)) (fun _ h => h) hfin hd rfl rfl hl hdg (fun H1 locs1 hP hD hS => kk H1 locs1 ⟨hw.1, ?_, hS⟩)
  rw [xcells_pS (f := f) (v := v) hw.2.1.2 hj hn0 (xct_pS.trans hct2)] at hP hD
  exact ⟨hP, hD⟩
theorem x_iald (C : CallFix p m c cc nL s args gtbl own) (hw : xw X ex z s H locs) {k j : Nat} (hk : xisI k = true) (hj : j < xcnt k) {i : Int32} (hin : vp_in i (xlen k j)) (hdg : decode cc pc = .ok (.iaload, 1))
    (kk : W p l e R s m args below meth c H locs cells slots Q (F0 m (pc + 1) ls (.int (gA z k j i.toNatClampNeg) :: rest))) : W p l e R s m args below meth c H locs cells slots Q (F0 m pc ls (.int i :: .ref (xad X z k j) :: rest)) := by
  obtain ⟨n, hn⟩ := x_place X z ex hj
  rw [xct_I hk] at hn
  exact va_iald C.1 C.2.1 hw.1.2.1 hw.2.1.1 n 0 hn rfl hin hdg kk
theorem x_iast (C : CallFix p m c cc nL s args gtbl own) (hw : xw X ex z s H locs) {k j : Nat} (hk : xisI k = true) (hj : j < xcnt k) {i v : Int32} (hin : vp_in i (xlen k j)) (hdg : decode cc pc = .ok (.iastore, 1))
    (kk : ∀ (H1 : Heap) (locs1 : List Loc), xw X ex (pA z k j i.toNatClampNeg v) s H1 locs1 → W p l e R s m args below meth c H1 locs1 cells slots Q (F0 m (pc + 1) ls rest)) : W p l e R s m args below meth c H locs cells slots Q (F0 m pc ls (.int v :: .int i :: .ref (xad X z k j) :: rest)) := by
  obtain ⟨n, hn⟩ := x_place X z ex hj
  have hn0 := hn
  rw [xct_I hk] at hn
  refine va_iast C.1 C.2.1 hw.1.2.1 hw.2.1.1 hw.2.1.2 hw.2.2 n 0 hn rfl hin hdg (fun H1 locs1 hP hD hS => kk H1 locs1 ⟨hw.1, ?_, hS⟩)
  rw [xcells_pA hk hw.2.1.2 hj hn0] at hP hD
  exact ⟨hP, hD⟩
theorem x_ialen (C : CallFix p m c cc nL s args gtbl own) (hw : xw X ex z s H locs) {k j : Nat} (hk : xisI k = true) (hj : j < xcnt k) {v : Int32} (hv : Int32.ofNat (xlen k j) = v) (hdg : decode cc pc = .ok (.arraylength, 1))
    (kk : W p l e R s m args below meth c H locs cells slots Q (F0 m (pc + 1) ls (.int v :: rest))) : W p l e R s m args below meth c H locs cells slots Q (F0 m pc ls (.ref (xad X z k j) :: rest)) := by
  obtain ⟨n, hn⟩ := x_place X z ex hj
  rw [xct_I hk] at hn
  exact va_alen C.1 C.2.1 hw.1.2.1 hw.2.1.1 n 0 hn rfl hv hdg kk
/-- a place of a row of cells: of objects (t 2, 3), of rows (t 1) -/
theorem x_aald (C : CallFix p m c cc nL s args gtbl own) (hw : xw X ex z s H locs) {k j : Nat} (hj : j < xcnt k) {n : Nat} {f : Nat → Nat} (t : Nat) {ty : FieldType} (hct : xct X z k j = xrf (X.2.1 t) n f) (ht : (xtys X)[t]? = some (X.2.1 t, ty)) (hty : ty.isReference = true) {i : Int32} (hin : vp_in i n) {a : Nat} (ha : f i.toNatClampNeg = a) (hdg : decode cc pc = .ok (.aaload, 1))
    (kk : W p l e R s m args below meth c H locs cells slots Q (F0 m (pc + 1) ls (.ref a :: rest))) : W p l e R s m args below meth c H locs cells slots Q (F0 m pc ls (.int i :: .ref (xad X z k j) :: rest)) := by
  obtain ⟨q, hq⟩ := x_place X z ex hj
  rw [hct] at hq
  subst ha
  have hlt : i.toNatClampNeg < n := Nat.not_le.mp fun q => hin (Or.inr q)
  exact W.aald (v := .ref (f i.toNatClampNeg)) (ty := ty) C.1 C.2.1 (hw.2.1.1 q _ hq) ((hw.1.2.1.2 t _ ht).1 n (fun j => va_rf (some (f j)))) hty (fun q => by cases q) (by show ¬ (i < 0 ∨ (arrV _ _ _).slots.size ≤ _); rw [arrV_size]; exact hin) (by show (arrV _ _ _).slots[_]? = _; rw [arrV_read _ _ hlt]; rfl) rfl rfl hdg kk
theorem x_iret (C : CallFix p m c cc nL s args gtbl own) (hw : xw X ex z s H locs) (hr : meth.sig.returnType = some .int) (hk : meth.locks = false) {v : Int32} (hdg : decode cc pc = .ok (.ireturn, 1)) : W p l e R s m args below meth c H locs cells slots (MQ below (xQi X ex z v) args s cells slots (xA X)) (F0 m pc ls [.int v]) :=
  W.iret (v := v) C.1 C.2.1 hr (fun t ht hW => ⟨⟨v, (), rfl, rfl, hw.to ht hW⟩, hw.2.2.F ht⟩) hw.2.2.2.2 hdg hk
theorem x_zret (C : CallFix p m c cc nL s args gtbl own) (hw : xw X ex z s H locs) (hr : meth.sig.returnType = some .boolean) (hk : meth.locks = false) {v : Int32} (hv : narrow .boolean (.int v) = .int v) (hdg : decode cc pc = .ok (.ireturn, 1)) : W p l e R s m args below meth c H locs cells slots (MQ below (xQi X ex z v) args s cells slots (xA X)) (F0 m pc ls [.int v]) :=
  W.zret (v := v) C.1 C.2.1 hr hv (fun t ht hW => ⟨⟨v, (), rfl, rfl, hw.to ht hW⟩, hw.2.2.F ht⟩) hw.2.2.2.2 hdg hk
theorem x_lret (C : CallFix p m c cc nL s args gtbl own) (hw : xw X ex z s H locs) (hr : meth.sig.returnType = some .long) (hk : meth.locks = false) {v : Int64} (hdg : decode cc pc = .ok (.lreturn, 1)) : W p l e R s m args below meth c H locs cells slots (MQ below (xQl X ex z v) args s cells slots (xA X)) (F0 m pc ls [.long v]) :=
  W.lret (v := v) C.1 C.2.1 hr (fun t ht hW => ⟨⟨v, (), rfl, rfl, hw.to ht hW⟩, hw.2.2.F ht⟩) hw.2.2.2.2 hdg hk
theorem x_vret (C : CallFix p m c cc nL s args gtbl own) (hw : xw X ex z s H locs) (hr : meth.sig.returnType = none) (hk : meth.locks = false) (hdg : decode cc pc = .ok (.return_, 1)) : W p l e R s m args below meth c H locs cells slots (MQ below (xQv X ex z) args s cells slots (xA X)) (F0 m pc ls []) :=
  W.vret C.1 C.2.1 hr (fun t ht hW => ⟨⟨(), rfl, trivial, hw.to ht hW⟩, hw.2.2.F ht⟩) hw.2.2.2.2 hdg hk
/-- what a call asks of the callee -/
abbrev xc (y : MethodName) (bytes : ByteArray) (maxL : Nat) (ret : Option FieldType) (n : Nat) : Prop := Cond.code y bytes maxL ret ∈ gtbl ∧ Cond.initialized y.cls ∈ gtbl ∧ (y.cls ≠ "java/lang/invoke/MethodHandle" ∧ y.cls ≠ "java/lang/invoke/VarHandle" ∧ (parseMethodDescriptor y.desc).map (fun d => d.parameters.length) = some n)
abbrev xcV (y : MethodName) (bytes : ByteArray) (maxL : Nat) (ret : Option FieldType) (n : Nat) : Prop := xc y bytes maxL ret n ∧ Cond.instanceMethod y ∈ gtbl ∧ Cond.selects y.cls y y ∈ gtbl
abbrev xcS (y : MethodName) (bytes : ByteArray) (maxL : Nat) (ret : Option FieldType) (n : Nat) : Prop := xc y bytes maxL ret n ∧ Cond.static y ∈ gtbl
theorem xgood {y : MethodName} {bytes : ByteArray} {maxL : Nat} {ret : Option FieldType} (h : Cond.code y bytes maxL ret ∈ gtbl) : GoodIn gtbl (Cond.code y bytes maxL ret :: gtbl) := fun w hw => (List.mem_cons.mp hw).elim (fun q => by rw [q]; exact gtbl_good _ h) (fun q => gtbl_good w q)
variable {y : MethodName} {bytes : ByteArray} {maxL n index : Nat} {ret : Option FieldType} {rm : Room} {Qc : Array Value → State → Outcome → State → Prop} {As st0 : List Value}
theorem x_recv (hw : xw X ex z s H locs) {k j : Nat} (hj : j < xcnt k) {ci : Nat} {q : vw_C} {fs : List Value} (hct : xct X z k j = .inr (ci, fs)) (hc : vwCl[ci]? = some q) : ∃ cell : Cell, H[xad X z k j]? = some cell ∧ cell.vm.isStatics = false ∧ s.vm.findClass q.1 = some cell.cls := by
  obtain ⟨n, hn⟩ := x_place X z ex hj
  rw [hct] at hn
  exact va_recv hw.1.2.1 hw.2.1.1 hc hn
theorem x_runV (C : CallFix p m c cc nL s args gtbl own) (hw : xw X ex z s H locs) {k j : Nat} (hj : j < xcnt k) {ci N : Nat} {T : u_T} {fs : List Value} (hct : xct X z k j = .inr (ci, fs)) (hc : vwCl[ci]? = some (y.cls, T, N)) (cv : xcV y bytes maxL ret n) (hl : Cond.methodLink own index y ∈ gtbl) (hM : xM l X ex y bytes maxL ret rm (.ref (xad X z k j) :: As) z Qc) (hR : rm.frames + 1 ≤ R.frames ∧ 8 + (maxL + 11) + rm.locals ≤ R.locals)
    (hn : As.length = n) (hsize : ls.size = nL) (hstack : st0 = As.reverse ++ .ref (xad X z k j) :: rest) (hW : (rest.map fun v => v.category).sum ≤ 8) (hdg : decode cc pc = .ok (.invokevirtual index, 3)) (hf : cells + rm.cells ≤ R.cells ∧ slots + rm.slots ≤ R.slots) :
    va_Run p l e R s m args below meth c H locs cells slots rm.cells rm.slots (F0 m pc ls st0) rest (Qc (Value.ref (xad X z k j) :: As).toArray) (xA X) :=
  va_runV (C := y.cls) C hM ⟨callB_of n C.2.2.2.2 (xgood cv.1.1) rfl rfl rfl (C.2.2.2.2 _ cv.1.2.1) (C.2.2.2.2 _ hl) cv.1.2.2 hR, C.2.2.2.2 _ cv.2.1, C.2.2.2.2 _ cv.2.2⟩ ⟨xblind, x_recv hw hj hct hc, fun U hU hW => ⟨rfl, hw.to hU hW⟩⟩ rfl hn hsize hstack (lv_room hW) hdg hf
theorem x_runS (C : CallFix p m c cc nL s args gtbl own) (hw : xw X ex z s H locs) (cv : xcS y bytes maxL ret n) (hl : Cond.methodLink own index y ∈ gtbl) (hM : xM l X ex y bytes maxL ret rm As z Qc) (hR : rm.frames + 1 ≤ R.frames ∧ 8 + (maxL + 11) + rm.locals ≤ R.locals)
    (hn : As.length = n) (hsize : ls.size = nL) (hstack : st0 = As.reverse ++ rest) (hW : (rest.map fun v => v.category).sum ≤ 8) (hdg : decode cc pc = .ok (.invokestatic index, 3)) (hf : cells + rm.cells ≤ R.cells ∧ slots + rm.slots ≤ R.slots) :
    va_Run p l e R s m args below meth c H locs cells slots rm.cells rm.slots (F0 m pc ls st0) rest (Qc As.toArray) (xA X) :=
  va_runS C hM ⟨callB_of n C.2.2.2.2 (xgood cv.1.1) rfl rfl rfl (C.2.2.2.2 _ cv.1.2.1) (C.2.2.2.2 _ hl) cv.1.2.2 hR, C.2.2.2.2 _ cv.2⟩ ⟨xblind, fun U hU hW => ⟨rfl, hw.to hU hW⟩⟩ rfl hn hsize hstack (lv_room hW) hdg hf
theorem x_runSN (C : CallFix p m c cc nL s args gtbl own) (hw : xw X ex z s H locs) (cv : xcS y bytes maxL ret n) (hl : (own, index, y, "WordHedges") ∈ xnm) (hM : xM l X ex y bytes maxL ret rm As z Qc) (hR : rm.frames + 1 ≤ R.frames ∧ 8 + (maxL + 11) + rm.locals ≤ R.locals)
    (hn : As.length = n) (hsize : ls.size = nL) (hstack : st0 = As.reverse ++ rest) (hW : (rest.map fun v => v.category).sum ≤ 8) (hdg : decode cc pc = .ok (.invokestatic index, 3)) (hf : cells + rm.cells ≤ R.cells ∧ slots + rm.slots ≤ R.slots) :
    va_Run p l e R s m args below meth c H locs cells slots rm.cells rm.slots (F0 m pc ls st0) rest (Qc As.toArray) (xA X) :=
  va_runSN (host := "WordHedges") C hM ⟨va_cnB n C.2.2.2.2 (xgood cv.1.1) rfl rfl rfl (hw.1.2.2.1.2 _ hl) (C.2.2.2.2 _ cv.1.2.1) cv.1.2.2 hR, C.2.2.2.2 _ cv.2, trivial⟩ ⟨xblind, fun U hU hW => ⟨rfl, hw.to hU hW⟩⟩ rfl hn hsize hstack (lv_room hW) hdg hf
variable {a : Array Value} {mc ms : Nat} {z1 : XS}
theorem x_goi (hw : xw X ex z s H locs) {r : Int32} (hr : va_Run p l e R s m args below meth c H locs cells slots mc ms (F0 m pc ls st0) rest (xQi X ex z1 r a) (xA X))
    (kk : ∀ (H1 : Heap) (locs1 : List Loc), xw X ex z1 s H1 locs1 → W p l e R s m args below meth c H1 locs1 (cells + mc) (slots + ms) Q (F0 m (pc + 3) ls (.int r :: rest))) : W p l e R s m args below meth c H locs cells slots Q (F0 m pc ls st0) := by
  refine va_calli hr hw.2.2 (fun q _ h => h) (fun q h => h) (fun r' u t H1 locs1 ht hvm hp hB hz hk hS => ?_)
  rw [hp]
  exact kk H1 locs1 ⟨hw.1, by rw [← ht]; exact hB.2, hS⟩
theorem x_gol (hw : xw X ex z s H locs) {r : Int64} (hr : va_Run p l e R s m args below meth c H locs cells slots mc ms (F0 m pc ls st0) rest (xQl X ex z1 r a) (xA X))
    (kk : ∀ (H1 : Heap) (locs1 : List Loc), xw X ex z1 s H1 locs1 → W p l e R s m args below meth c H1 locs1 (cells + mc) (slots + ms) Q (F0 m (pc + 3) ls (.long r :: rest))) : W p l e R s m args below meth c H locs cells slots Q (F0 m pc ls st0) := by
  refine va_calll hr hw.2.2 (fun q _ h => h) (fun q h => h) (fun r' u t H1 locs1 ht hvm hp hB hz hk hS => ?_)
  rw [hp]
  exact kk H1 locs1 ⟨hw.1, by rw [← ht]; exact hB.2, hS⟩
theorem x_gov (hw : xw X ex z s H locs) (hr : va_Run p l e R s m args below meth c H locs cells slots mc ms (F0 m pc ls st0) rest (xQv X ex z1 a) (xA X))
    (kk : ∀ (H1 : Heap) (locs1 : List Loc), xw X ex z1 s H1 locs1 → W p l e R s m args below meth c H1 locs1 (cells + mc) (slots + ms) Q (F0 m (pc + 3) ls rest)) : W p l e R s m args below meth c H locs cells slots Q (F0 m pc ls st0) := by
  refine va_callv hr hw.2.2 (fun q _ h => h) (fun q h => h) (fun u t H1 locs1 ht hvm hp hB hz hk hS => ?_)
  exact kk H1 locs1 ⟨hw.1, by rw [← ht]; exact hB.2, hS⟩
end XR
