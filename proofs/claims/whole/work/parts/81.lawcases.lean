-- ===== end of PART A; then your names; then what follows =====
/-! THE CLAIM OUT OF ONE WALK OF THE LAW'S BODY. Your part is whole_start (and what it stands on); all else here is the same for every law, but numbers. -/
def R_law : String := "WordHedgesLaw"
def lw_P (b : Addr) (xs : List Int32) (args : Array Value) (s : State) : Prop := args = #[.ref b] ∧ s.IntsAt b xs ∧ xs.length ≤ 3072 ∧ (Jvm.Cond.and given_1 narrow_1).before args s = true
def lw_Q (_ : Array Value) (s : State) (o : Outcome) (t : State) : Prop := o = .returned (some (.int 1)) ∧ Framed s o t [] 600000 7302250
def lw_Z (below : List Frame) (a : Array Value) (s : State) : State → Prop := fun t => ∃ o, t.status = .running ∧ Ended t below o ∧ lw_Q a s o t
/-- the law's own end, with 1 on the stack, nothing written that was there before, its room as the claim has it -/
theorem lw_ret {p : Program} {l : Launch} {e : Env} {s : State} {m : MethodId} {below : List Frame} {meth : Method} {c : Code} {b : Nat} (hx : p.tables.exec = Jvm.exec) (hb : c.code = code) (hr : meth.sig.returnType = ret) (hlocks : meth.locks = false) {pc : Nat} {H : Heap} {ls : Array Slot} (hdg : decode code pc = .ok (.ireturn, 1)) : W p l e room_1 s m #[Value.ref b] below meth c H [] 600000 7302250 (lw_Z below #[Value.ref b] s) (F0 m pc ls [.int 1]) := by
  intro T hT X
  obtain ⟨fs, hret, hrun, hended, hW, hframe⟩ := X.leave (v := some (.int 1)) (hlocks := hlocks) (fun h => by rw [hr] at h; cases h)
  have hmeth' : T.vm.method? m = some meth := X.method'
  refine ⟨T.setFrames fs, ?_, .returned (some (.int 1)), hrun, hended, rfl, ⟨_, rfl⟩, hW, hframe⟩
  jvm_step X.here [X.here.top, hx, hb, hdg, hmeth', hr, ret, narrow_b1]
  (try refine ⟨rfl, ?_⟩); (try refine ⟨rfl, ?_⟩)
  first | (intro acts; rw [hret _ acts rfl rfl rfl]) | rw [hret _ _ rfl rfl rfl]
  exact Steps.refl _
/-- what holds at the law's entry: the machine, the code, the tables' words (any of lw_tbl by 'hts w (by decide +kernel)'), the script of L ints xs at the cell b, what the Statement gives of the start (any of its parts by flat_of_before) -/
def lw_At (p : Program) (s : State) (m : MethodId) (meth : Method) (c : Code) (b L : Nat) (xs : Nat → Int32) : Prop :=
  p.tables.exec = Jvm.exec ∧ c.code = code ∧ meth.sig.returnType = ret ∧ c.maxLocals = 4 ∧ s.vm.findClass R_law = some m.cls ∧ (∀ w ∈ lw_tbl, w.before #[Value.ref b] s = true) ∧ va_X b L xs s s.heap ∧ b < s.heap.size ∧ meth.locks = false ∧ (Jvm.Cond.and given_1 narrow_1).before #[Value.ref b] s = true
theorem kw_879 : Cond.code yX9_gardens cX9_gardens 7 (some .int) ∈ gtbl := gm1 160 rfl rfl
theorem nd_X9_gardens : (yX9_gardens).cls ≠ "java/lang/invoke/MethodHandle" ∧ (yX9_gardens).cls ≠ "java/lang/invoke/VarHandle" ∧ (parseMethodDescriptor (yX9_gardens).desc).map (fun d => d.parameters.length) = some 4 := by decide +kernel
theorem kw_881 : Cond.instanceMethod yX9_gardens ∈ gtbl := gm1 158 rfl rfl
theorem kw_882 : Cond.selects RX9 yX9_gardens yX9_gardens ∈ gtbl := gm1 159 rfl rfl
theorem cV_X9_gardens : xcV yX9_gardens cX9_gardens 7 (some .int) 4 := ⟨⟨kw_879, kw_1, nd_X9_gardens⟩, kw_881, kw_882⟩
theorem kw_884 : Cond.methodLink RL 13 yX9_gardens ∈ gtbl := gm1 157 rfl rfl
theorem kw_885 : Cond.code yX10_gardens cX10_gardens 6 (some .int) ∈ gtbl := gm3 201 rfl rfl
theorem nd_X10_gardens : (yX10_gardens).cls ≠ "java/lang/invoke/MethodHandle" ∧ (yX10_gardens).cls ≠ "java/lang/invoke/VarHandle" ∧ (parseMethodDescriptor (yX10_gardens).desc).map (fun d => d.parameters.length) = some 4 := by decide +kernel
theorem kw_887 : Cond.instanceMethod yX10_gardens ∈ gtbl := gm3 199 rfl rfl
theorem kw_888 : Cond.selects RX10 yX10_gardens yX10_gardens ∈ gtbl := gm3 200 rfl rfl
theorem cV_X10_gardens : xcV yX10_gardens cX10_gardens 6 (some .int) 4 := ⟨⟨kw_885, kw_490, nd_X10_gardens⟩, kw_887, kw_888⟩
theorem kw_890 : Cond.methodLink RL 17 yX10_gardens ∈ gtbl := gm3 198 rfl rfl
theorem kw_891 : Cond.code yX9_wants cX9_wants 2 (some .int) ∈ gtbl := gm2 36 rfl rfl
theorem nd_X9_wants : (yX9_wants).cls ≠ "java/lang/invoke/MethodHandle" ∧ (yX9_wants).cls ≠ "java/lang/invoke/VarHandle" ∧ (parseMethodDescriptor (yX9_wants).desc).map (fun d => d.parameters.length) = some 1 := by decide +kernel
theorem kw_893 : Cond.instanceMethod yX9_wants ∈ gtbl := gm2 34 rfl rfl
theorem kw_894 : Cond.selects RX9 yX9_wants yX9_wants ∈ gtbl := gm2 35 rfl rfl
theorem cV_X9_wants : xcV yX9_wants cX9_wants 2 (some .int) 1 := ⟨⟨kw_891, kw_1, nd_X9_wants⟩, kw_893, kw_894⟩
theorem kw_896 : Cond.methodLink RL 18 yX9_wants ∈ gtbl := gm2 33 rfl rfl
theorem kw_897 : Cond.code yX10_wants cX10_wants 2 (some .int) ∈ gtbl := gm4 5 rfl rfl
theorem nd_X10_wants : (yX10_wants).cls ≠ "java/lang/invoke/MethodHandle" ∧ (yX10_wants).cls ≠ "java/lang/invoke/VarHandle" ∧ (parseMethodDescriptor (yX10_wants).desc).map (fun d => d.parameters.length) = some 1 := by decide +kernel
theorem kw_899 : Cond.instanceMethod yX10_wants ∈ gtbl := gm4 3 rfl rfl
theorem kw_900 : Cond.selects RX10 yX10_wants yX10_wants ∈ gtbl := gm4 4 rfl rfl
theorem cV_X10_wants : xcV yX10_wants cX10_wants 2 (some .int) 1 := ⟨⟨kw_897, kw_490, nd_X10_wants⟩, kw_899, kw_900⟩
theorem kw_902 : Cond.methodLink RL 22 yX10_wants ∈ gtbl := gm4 2 rfl rfl
theorem kw_903 : Cond.code yX9_ofHedge cX9_ofHedge 4 (some .int) ∈ gtbl := gm2 44 rfl rfl
theorem nd_X9_ofHedge : (yX9_ofHedge).cls ≠ "java/lang/invoke/MethodHandle" ∧ (yX9_ofHedge).cls ≠ "java/lang/invoke/VarHandle" ∧ (parseMethodDescriptor (yX9_ofHedge).desc).map (fun d => d.parameters.length) = some 2 := by decide +kernel
theorem kw_905 : Cond.instanceMethod yX9_ofHedge ∈ gtbl := gm2 42 rfl rfl
theorem kw_906 : Cond.selects RX9 yX9_ofHedge yX9_ofHedge ∈ gtbl := gm2 43 rfl rfl
theorem cV_X9_ofHedge : xcV yX9_ofHedge cX9_ofHedge 4 (some .int) 2 := ⟨⟨kw_903, kw_1, nd_X9_ofHedge⟩, kw_905, kw_906⟩
theorem kw_908 : Cond.methodLink RL 23 yX9_ofHedge ∈ gtbl := gm2 41 rfl rfl
theorem kw_909 : Cond.code yX10_ofHedge cX10_ofHedge 3 (some .int) ∈ gtbl := gm4 13 rfl rfl
theorem nd_X10_ofHedge : (yX10_ofHedge).cls ≠ "java/lang/invoke/MethodHandle" ∧ (yX10_ofHedge).cls ≠ "java/lang/invoke/VarHandle" ∧ (parseMethodDescriptor (yX10_ofHedge).desc).map (fun d => d.parameters.length) = some 2 := by decide +kernel
theorem kw_911 : Cond.instanceMethod yX10_ofHedge ∈ gtbl := gm4 11 rfl rfl
theorem kw_912 : Cond.selects RX10 yX10_ofHedge yX10_ofHedge ∈ gtbl := gm4 12 rfl rfl
theorem cV_X10_ofHedge : xcV yX10_ofHedge cX10_ofHedge 3 (some .int) 2 := ⟨⟨kw_909, kw_490, nd_X10_ofHedge⟩, kw_911, kw_912⟩
theorem kw_914 : Cond.methodLink RL 27 yX10_ofHedge ∈ gtbl := gm4 10 rfl rfl
theorem kw_915 : Cond.code yX9_say cX9_say 6 (some .int) ∈ gtbl := gm2 60 rfl rfl
theorem nd_X9_say : (yX9_say).cls ≠ "java/lang/invoke/MethodHandle" ∧ (yX9_say).cls ≠ "java/lang/invoke/VarHandle" ∧ (parseMethodDescriptor (yX9_say).desc).map (fun d => d.parameters.length) = some 4 := by decide +kernel
theorem kw_917 : Cond.instanceMethod yX9_say ∈ gtbl := gm2 58 rfl rfl
theorem kw_918 : Cond.selects RX9 yX9_say yX9_say ∈ gtbl := gm2 59 rfl rfl
theorem cV_X9_say : xcV yX9_say cX9_say 6 (some .int) 4 := ⟨⟨kw_915, kw_1, nd_X9_say⟩, kw_917, kw_918⟩
theorem kw_920 : Cond.methodLink RL 28 yX9_say ∈ gtbl := gm2 57 rfl rfl
theorem kw_921 : Cond.code yX10_say cX10_say 6 (some .int) ∈ gtbl := gm4 21 rfl rfl
theorem nd_X10_say : (yX10_say).cls ≠ "java/lang/invoke/MethodHandle" ∧ (yX10_say).cls ≠ "java/lang/invoke/VarHandle" ∧ (parseMethodDescriptor (yX10_say).desc).map (fun d => d.parameters.length) = some 4 := by decide +kernel
theorem kw_923 : Cond.instanceMethod yX10_say ∈ gtbl := gm4 19 rfl rfl
theorem kw_924 : Cond.selects RX10 yX10_say yX10_say ∈ gtbl := gm4 20 rfl rfl
theorem cV_X10_say : xcV yX10_say cX10_say 6 (some .int) 4 := ⟨⟨kw_921, kw_490, nd_X10_say⟩, kw_923, kw_924⟩
theorem kw_926 : Cond.methodLink RL 31 yX10_say ∈ gtbl := gm4 18 rfl rfl
theorem kw_927 : Cond.code yX9_clip cX9_clip 4 (some .int) ∈ gtbl := gm2 83 rfl rfl
theorem nd_X9_clip : (yX9_clip).cls ≠ "java/lang/invoke/MethodHandle" ∧ (yX9_clip).cls ≠ "java/lang/invoke/VarHandle" ∧ (parseMethodDescriptor (yX9_clip).desc).map (fun d => d.parameters.length) = some 3 := by decide +kernel
theorem kw_929 : Cond.instanceMethod yX9_clip ∈ gtbl := gm2 81 rfl rfl
theorem kw_930 : Cond.selects RX9 yX9_clip yX9_clip ∈ gtbl := gm2 82 rfl rfl
theorem cV_X9_clip : xcV yX9_clip cX9_clip 4 (some .int) 3 := ⟨⟨kw_927, kw_1, nd_X9_clip⟩, kw_929, kw_930⟩
theorem kw_932 : Cond.methodLink RL 32 yX9_clip ∈ gtbl := gm2 80 rfl rfl
theorem kw_933 : Cond.code yX10_clip cX10_clip 5 (some .int) ∈ gtbl := gm4 39 rfl rfl
theorem nd_X10_clip : (yX10_clip).cls ≠ "java/lang/invoke/MethodHandle" ∧ (yX10_clip).cls ≠ "java/lang/invoke/VarHandle" ∧ (parseMethodDescriptor (yX10_clip).desc).map (fun d => d.parameters.length) = some 3 := by decide +kernel
theorem kw_935 : Cond.instanceMethod yX10_clip ∈ gtbl := gm4 37 rfl rfl
theorem kw_936 : Cond.selects RX10 yX10_clip yX10_clip ∈ gtbl := gm4 38 rfl rfl
theorem cV_X10_clip : xcV yX10_clip cX10_clip 5 (some .int) 3 := ⟨⟨kw_933, kw_490, nd_X10_clip⟩, kw_935, kw_936⟩
theorem kw_938 : Cond.methodLink RL 36 yX10_clip ∈ gtbl := gm4 36 rfl rfl
theorem kw_939 : Cond.code yX9_face cX9_face 4 (some .int) ∈ gtbl := gm2 94 rfl rfl
theorem nd_X9_face : (yX9_face).cls ≠ "java/lang/invoke/MethodHandle" ∧ (yX9_face).cls ≠ "java/lang/invoke/VarHandle" ∧ (parseMethodDescriptor (yX9_face).desc).map (fun d => d.parameters.length) = some 3 := by decide +kernel
theorem kw_941 : Cond.instanceMethod yX9_face ∈ gtbl := gm2 92 rfl rfl
theorem kw_942 : Cond.selects RX9 yX9_face yX9_face ∈ gtbl := gm2 93 rfl rfl
theorem cV_X9_face : xcV yX9_face cX9_face 4 (some .int) 3 := ⟨⟨kw_939, kw_1, nd_X9_face⟩, kw_941, kw_942⟩
theorem kw_944 : Cond.methodLink RL 37 yX9_face ∈ gtbl := gm2 91 rfl rfl
theorem kw_945 : Cond.code yX10_face cX10_face 4 (some .int) ∈ gtbl := gm4 47 rfl rfl
theorem nd_X10_face : (yX10_face).cls ≠ "java/lang/invoke/MethodHandle" ∧ (yX10_face).cls ≠ "java/lang/invoke/VarHandle" ∧ (parseMethodDescriptor (yX10_face).desc).map (fun d => d.parameters.length) = some 3 := by decide +kernel
theorem kw_947 : Cond.instanceMethod yX10_face ∈ gtbl := gm4 45 rfl rfl
theorem kw_948 : Cond.selects RX10 yX10_face yX10_face ∈ gtbl := gm4 46 rfl rfl
theorem cV_X10_face : xcV yX10_face cX10_face 4 (some .int) 3 := ⟨⟨kw_945, kw_490, nd_X10_face⟩, kw_947, kw_948⟩
theorem kw_950 : Cond.methodLink RL 40 yX10_face ∈ gtbl := gm4 44 rfl rfl
theorem kw_951 : Cond.code yX9_height cX9_height 5 (some .int) ∈ gtbl := gm2 101 rfl rfl
theorem nd_X9_height : (yX9_height).cls ≠ "java/lang/invoke/MethodHandle" ∧ (yX9_height).cls ≠ "java/lang/invoke/VarHandle" ∧ (parseMethodDescriptor (yX9_height).desc).map (fun d => d.parameters.length) = some 3 := by decide +kernel
theorem kw_953 : Cond.instanceMethod yX9_height ∈ gtbl := gm2 99 rfl rfl
theorem kw_954 : Cond.selects RX9 yX9_height yX9_height ∈ gtbl := gm2 100 rfl rfl
theorem cV_X9_height : xcV yX9_height cX9_height 5 (some .int) 3 := ⟨⟨kw_951, kw_1, nd_X9_height⟩, kw_953, kw_954⟩
theorem kw_956 : Cond.methodLink RL 41 yX9_height ∈ gtbl := gm2 98 rfl rfl
theorem kw_957 : Cond.code yX10_height cX10_height 4 (some .int) ∈ gtbl := gm4 71 rfl rfl
theorem nd_X10_height : (yX10_height).cls ≠ "java/lang/invoke/MethodHandle" ∧ (yX10_height).cls ≠ "java/lang/invoke/VarHandle" ∧ (parseMethodDescriptor (yX10_height).desc).map (fun d => d.parameters.length) = some 3 := by decide +kernel
theorem kw_959 : Cond.instanceMethod yX10_height ∈ gtbl := gm4 69 rfl rfl
theorem kw_960 : Cond.selects RX10 yX10_height yX10_height ∈ gtbl := gm4 70 rfl rfl
theorem cV_X10_height : xcV yX10_height cX10_height 4 (some .int) 3 := ⟨⟨kw_957, kw_490, nd_X10_height⟩, kw_959, kw_960⟩
theorem kw_962 : Cond.methodLink RL 44 yX10_height ∈ gtbl := gm4 68 rfl rfl
theorem kw_963 : Cond.code yX9_light cX9_light 3 (some .int) ∈ gtbl := gm2 113 rfl rfl
theorem nd_X9_light : (yX9_light).cls ≠ "java/lang/invoke/MethodHandle" ∧ (yX9_light).cls ≠ "java/lang/invoke/VarHandle" ∧ (parseMethodDescriptor (yX9_light).desc).map (fun d => d.parameters.length) = some 2 := by decide +kernel
theorem kw_965 : Cond.instanceMethod yX9_light ∈ gtbl := gm2 111 rfl rfl
theorem kw_966 : Cond.selects RX9 yX9_light yX9_light ∈ gtbl := gm2 112 rfl rfl
theorem cV_X9_light : xcV yX9_light cX9_light 3 (some .int) 2 := ⟨⟨kw_963, kw_1, nd_X9_light⟩, kw_965, kw_966⟩
theorem kw_968 : Cond.methodLink RL 45 yX9_light ∈ gtbl := gm2 110 rfl rfl
theorem kw_969 : Cond.code yX10_light cX10_light 3 (some .int) ∈ gtbl := gm4 79 rfl rfl
theorem nd_X10_light : (yX10_light).cls ≠ "java/lang/invoke/MethodHandle" ∧ (yX10_light).cls ≠ "java/lang/invoke/VarHandle" ∧ (parseMethodDescriptor (yX10_light).desc).map (fun d => d.parameters.length) = some 2 := by decide +kernel
theorem kw_971 : Cond.instanceMethod yX10_light ∈ gtbl := gm4 77 rfl rfl
theorem kw_972 : Cond.selects RX10 yX10_light yX10_light ∈ gtbl := gm4 78 rfl rfl
theorem cV_X10_light : xcV yX10_light cX10_light 3 (some .int) 2 := ⟨⟨kw_969, kw_490, nd_X10_light⟩, kw_971, kw_972⟩
theorem kw_974 : Cond.methodLink RL 48 yX10_light ∈ gtbl := gm4 76 rfl rfl
theorem kw_975 : Cond.code yX9_goats cX9_goats 2 (some .int) ∈ gtbl := gm2 127 rfl rfl
theorem nd_X9_goats : (yX9_goats).cls ≠ "java/lang/invoke/MethodHandle" ∧ (yX9_goats).cls ≠ "java/lang/invoke/VarHandle" ∧ (parseMethodDescriptor (yX9_goats).desc).map (fun d => d.parameters.length) = some 1 := by decide +kernel
theorem kw_977 : Cond.instanceMethod yX9_goats ∈ gtbl := gm2 125 rfl rfl
theorem kw_978 : Cond.selects RX9 yX9_goats yX9_goats ∈ gtbl := gm2 126 rfl rfl
theorem cV_X9_goats : xcV yX9_goats cX9_goats 2 (some .int) 1 := ⟨⟨kw_975, kw_1, nd_X9_goats⟩, kw_977, kw_978⟩
theorem kw_980 : Cond.methodLink RL 49 yX9_goats ∈ gtbl := gm2 124 rfl rfl
theorem kw_981 : Cond.code yX10_goats cX10_goats 4 (some .int) ∈ gtbl := gm4 87 rfl rfl
theorem nd_X10_goats : (yX10_goats).cls ≠ "java/lang/invoke/MethodHandle" ∧ (yX10_goats).cls ≠ "java/lang/invoke/VarHandle" ∧ (parseMethodDescriptor (yX10_goats).desc).map (fun d => d.parameters.length) = some 1 := by decide +kernel
theorem kw_983 : Cond.instanceMethod yX10_goats ∈ gtbl := gm4 85 rfl rfl
theorem kw_984 : Cond.selects RX10 yX10_goats yX10_goats ∈ gtbl := gm4 86 rfl rfl
theorem cV_X10_goats : xcV yX10_goats cX10_goats 4 (some .int) 1 := ⟨⟨kw_981, kw_490, nd_X10_goats⟩, kw_983, kw_984⟩
theorem kw_986 : Cond.methodLink RL 52 yX10_goats ∈ gtbl := gm4 84 rfl rfl
theorem kw_987 : Cond.code yX9_off cX9_off 3 (some .int) ∈ gtbl := gm2 135 rfl rfl
theorem nd_X9_off : (yX9_off).cls ≠ "java/lang/invoke/MethodHandle" ∧ (yX9_off).cls ≠ "java/lang/invoke/VarHandle" ∧ (parseMethodDescriptor (yX9_off).desc).map (fun d => d.parameters.length) = some 2 := by decide +kernel
theorem kw_989 : Cond.instanceMethod yX9_off ∈ gtbl := gm2 133 rfl rfl
theorem kw_990 : Cond.selects RX9 yX9_off yX9_off ∈ gtbl := gm2 134 rfl rfl
theorem cV_X9_off : xcV yX9_off cX9_off 3 (some .int) 2 := ⟨⟨kw_987, kw_1, nd_X9_off⟩, kw_989, kw_990⟩
theorem kw_992 : Cond.methodLink RL 53 yX9_off ∈ gtbl := gm2 132 rfl rfl
theorem kw_993 : Cond.code yX10_off cX10_off 3 (some .int) ∈ gtbl := gm4 95 rfl rfl
theorem nd_X10_off : (yX10_off).cls ≠ "java/lang/invoke/MethodHandle" ∧ (yX10_off).cls ≠ "java/lang/invoke/VarHandle" ∧ (parseMethodDescriptor (yX10_off).desc).map (fun d => d.parameters.length) = some 2 := by decide +kernel
theorem kw_995 : Cond.instanceMethod yX10_off ∈ gtbl := gm4 93 rfl rfl
theorem kw_996 : Cond.selects RX10 yX10_off yX10_off ∈ gtbl := gm4 94 rfl rfl
theorem cV_X10_off : xcV yX10_off cX10_off 3 (some .int) 2 := ⟨⟨kw_993, kw_490, nd_X10_off⟩, kw_995, kw_996⟩
theorem kw_998 : Cond.methodLink RL 56 yX10_off ∈ gtbl := gm4 92 rfl rfl
theorem kw_999 : Cond.code yX9_scold cX9_scold 6 (some .int) ∈ gtbl := gm2 145 rfl rfl
theorem nd_X9_scold : (yX9_scold).cls ≠ "java/lang/invoke/MethodHandle" ∧ (yX9_scold).cls ≠ "java/lang/invoke/VarHandle" ∧ (parseMethodDescriptor (yX9_scold).desc).map (fun d => d.parameters.length) = some 4 := by decide +kernel
theorem kw_1001 : Cond.instanceMethod yX9_scold ∈ gtbl := gm2 143 rfl rfl
theorem kw_1002 : Cond.selects RX9 yX9_scold yX9_scold ∈ gtbl := gm2 144 rfl rfl
theorem cV_X9_scold : xcV yX9_scold cX9_scold 6 (some .int) 4 := ⟨⟨kw_999, kw_1, nd_X9_scold⟩, kw_1001, kw_1002⟩
theorem kw_1004 : Cond.methodLink RL 57 yX9_scold ∈ gtbl := gm2 142 rfl rfl
theorem kw_1005 : Cond.code yX10_scold cX10_scold 8 (some .int) ∈ gtbl := gm4 103 rfl rfl
theorem nd_X10_scold : (yX10_scold).cls ≠ "java/lang/invoke/MethodHandle" ∧ (yX10_scold).cls ≠ "java/lang/invoke/VarHandle" ∧ (parseMethodDescriptor (yX10_scold).desc).map (fun d => d.parameters.length) = some 4 := by decide +kernel
theorem kw_1007 : Cond.instanceMethod yX10_scold ∈ gtbl := gm4 101 rfl rfl
theorem kw_1008 : Cond.selects RX10 yX10_scold yX10_scold ∈ gtbl := gm4 102 rfl rfl
theorem cV_X10_scold : xcV yX10_scold cX10_scold 8 (some .int) 4 := ⟨⟨kw_1005, kw_490, nd_X10_scold⟩, kw_1007, kw_1008⟩
theorem kw_1010 : Cond.methodLink RL 60 yX10_scold ∈ gtbl := gm4 100 rfl rfl
theorem kw_1011 : Cond.code yX9_reading cX9_reading 5 (some .int) ∈ gtbl := gm2 162 rfl rfl
theorem nd_X9_reading : (yX9_reading).cls ≠ "java/lang/invoke/MethodHandle" ∧ (yX9_reading).cls ≠ "java/lang/invoke/VarHandle" ∧ (parseMethodDescriptor (yX9_reading).desc).map (fun d => d.parameters.length) = some 4 := by decide +kernel
theorem kw_1013 : Cond.instanceMethod yX9_reading ∈ gtbl := gm2 160 rfl rfl
theorem kw_1014 : Cond.selects RX9 yX9_reading yX9_reading ∈ gtbl := gm2 161 rfl rfl
theorem cV_X9_reading : xcV yX9_reading cX9_reading 5 (some .int) 4 := ⟨⟨kw_1011, kw_1, nd_X9_reading⟩, kw_1013, kw_1014⟩
theorem kw_1016 : Cond.methodLink RL 61 yX9_reading ∈ gtbl := gm2 159 rfl rfl
theorem kw_1017 : Cond.code yX10_reading cX10_reading 5 (some .int) ∈ gtbl := gm4 111 rfl rfl
theorem nd_X10_reading : (yX10_reading).cls ≠ "java/lang/invoke/MethodHandle" ∧ (yX10_reading).cls ≠ "java/lang/invoke/VarHandle" ∧ (parseMethodDescriptor (yX10_reading).desc).map (fun d => d.parameters.length) = some 4 := by decide +kernel
theorem kw_1019 : Cond.instanceMethod yX10_reading ∈ gtbl := gm4 109 rfl rfl
theorem kw_1020 : Cond.selects RX10 yX10_reading yX10_reading ∈ gtbl := gm4 110 rfl rfl
theorem cV_X10_reading : xcV yX10_reading cX10_reading 5 (some .int) 4 := ⟨⟨kw_1017, kw_490, nd_X10_reading⟩, kw_1019, kw_1020⟩
theorem kw_1022 : Cond.methodLink RL 64 yX10_reading ∈ gtbl := gm4 108 rfl rfl
theorem kw_1023 : Cond.code yX9_back cX9_back 2 (some .int) ∈ gtbl := gm2 170 rfl rfl
theorem nd_X9_back : (yX9_back).cls ≠ "java/lang/invoke/MethodHandle" ∧ (yX9_back).cls ≠ "java/lang/invoke/VarHandle" ∧ (parseMethodDescriptor (yX9_back).desc).map (fun d => d.parameters.length) = some 1 := by decide +kernel
theorem kw_1025 : Cond.instanceMethod yX9_back ∈ gtbl := gm2 168 rfl rfl
theorem kw_1026 : Cond.selects RX9 yX9_back yX9_back ∈ gtbl := gm2 169 rfl rfl
theorem cV_X9_back : xcV yX9_back cX9_back 2 (some .int) 1 := ⟨⟨kw_1023, kw_1, nd_X9_back⟩, kw_1025, kw_1026⟩
theorem kw_1028 : Cond.methodLink RL 65 yX9_back ∈ gtbl := gm2 167 rfl rfl
theorem kw_1029 : Cond.code yX10_back cX10_back 2 (some .int) ∈ gtbl := gm4 116 rfl rfl
theorem nd_X10_back : (yX10_back).cls ≠ "java/lang/invoke/MethodHandle" ∧ (yX10_back).cls ≠ "java/lang/invoke/VarHandle" ∧ (parseMethodDescriptor (yX10_back).desc).map (fun d => d.parameters.length) = some 1 := by decide +kernel
theorem kw_1031 : Cond.instanceMethod yX10_back ∈ gtbl := gm4 114 rfl rfl
theorem kw_1032 : Cond.selects RX10 yX10_back yX10_back ∈ gtbl := gm4 115 rfl rfl
theorem cV_X10_back : xcV yX10_back cX10_back 2 (some .int) 1 := ⟨⟨kw_1029, kw_490, nd_X10_back⟩, kw_1031, kw_1032⟩
theorem kw_1034 : Cond.methodLink RL 68 yX10_back ∈ gtbl := gm4 113 rfl rfl
theorem kw_1035 : Cond.code yX9_said cX9_said 7 (some .int) ∈ gtbl := gm2 174 rfl rfl
theorem nd_X9_said : (yX9_said).cls ≠ "java/lang/invoke/MethodHandle" ∧ (yX9_said).cls ≠ "java/lang/invoke/VarHandle" ∧ (parseMethodDescriptor (yX9_said).desc).map (fun d => d.parameters.length) = some 3 := by decide +kernel
theorem kw_1037 : Cond.instanceMethod yX9_said ∈ gtbl := gm2 172 rfl rfl
theorem kw_1038 : Cond.selects RX9 yX9_said yX9_said ∈ gtbl := gm2 173 rfl rfl
theorem cV_X9_said : xcV yX9_said cX9_said 7 (some .int) 3 := ⟨⟨kw_1035, kw_1, nd_X9_said⟩, kw_1037, kw_1038⟩
theorem kw_1040 : Cond.methodLink RL 69 yX9_said ∈ gtbl := gm2 171 rfl rfl
theorem kw_1041 : Cond.code yX10_said cX10_said 8 (some .int) ∈ gtbl := gm4 120 rfl rfl
theorem nd_X10_said : (yX10_said).cls ≠ "java/lang/invoke/MethodHandle" ∧ (yX10_said).cls ≠ "java/lang/invoke/VarHandle" ∧ (parseMethodDescriptor (yX10_said).desc).map (fun d => d.parameters.length) = some 3 := by decide +kernel
theorem kw_1043 : Cond.instanceMethod yX10_said ∈ gtbl := gm4 118 rfl rfl
theorem kw_1044 : Cond.selects RX10 yX10_said yX10_said ∈ gtbl := gm4 119 rfl rfl
theorem cV_X10_said : xcV yX10_said cX10_said 8 (some .int) 3 := ⟨⟨kw_1041, kw_490, nd_X10_said⟩, kw_1043, kw_1044⟩
theorem kw_1046 : Cond.methodLink RL 72 yX10_said ∈ gtbl := gm4 117 rfl rfl
theorem kw_1047 : Cond.code yX9_quarrel cX9_quarrel 5 (some .int) ∈ gtbl := gm2 183 rfl rfl
theorem nd_X9_quarrel : (yX9_quarrel).cls ≠ "java/lang/invoke/MethodHandle" ∧ (yX9_quarrel).cls ≠ "java/lang/invoke/VarHandle" ∧ (parseMethodDescriptor (yX9_quarrel).desc).map (fun d => d.parameters.length) = some 4 := by decide +kernel
theorem kw_1049 : Cond.instanceMethod yX9_quarrel ∈ gtbl := gm2 181 rfl rfl
theorem kw_1050 : Cond.selects RX9 yX9_quarrel yX9_quarrel ∈ gtbl := gm2 182 rfl rfl
theorem cV_X9_quarrel : xcV yX9_quarrel cX9_quarrel 5 (some .int) 4 := ⟨⟨kw_1047, kw_1, nd_X9_quarrel⟩, kw_1049, kw_1050⟩
theorem kw_1052 : Cond.methodLink RL 73 yX9_quarrel ∈ gtbl := gm2 180 rfl rfl
theorem kw_1053 : Cond.code yX10_quarrel cX10_quarrel 11 (some .int) ∈ gtbl := gm4 128 rfl rfl
theorem nd_X10_quarrel : (yX10_quarrel).cls ≠ "java/lang/invoke/MethodHandle" ∧ (yX10_quarrel).cls ≠ "java/lang/invoke/VarHandle" ∧ (parseMethodDescriptor (yX10_quarrel).desc).map (fun d => d.parameters.length) = some 4 := by decide +kernel
theorem kw_1055 : Cond.instanceMethod yX10_quarrel ∈ gtbl := gm4 126 rfl rfl
theorem kw_1056 : Cond.selects RX10 yX10_quarrel yX10_quarrel ∈ gtbl := gm4 127 rfl rfl
theorem cV_X10_quarrel : xcV yX10_quarrel cX10_quarrel 11 (some .int) 4 := ⟨⟨kw_1053, kw_490, nd_X10_quarrel⟩, kw_1055, kw_1056⟩
theorem kw_1058 : Cond.methodLink RL 76 yX10_quarrel ∈ gtbl := gm4 125 rfl rfl
theorem kw_1059 : Cond.code yX9_peace cX9_peace 4 (some .int) ∈ gtbl := gm2 200 rfl rfl
theorem nd_X9_peace : (yX9_peace).cls ≠ "java/lang/invoke/MethodHandle" ∧ (yX9_peace).cls ≠ "java/lang/invoke/VarHandle" ∧ (parseMethodDescriptor (yX9_peace).desc).map (fun d => d.parameters.length) = some 1 := by decide +kernel
theorem kw_1061 : Cond.instanceMethod yX9_peace ∈ gtbl := gm2 198 rfl rfl
theorem kw_1062 : Cond.selects RX9 yX9_peace yX9_peace ∈ gtbl := gm2 199 rfl rfl
theorem cV_X9_peace : xcV yX9_peace cX9_peace 4 (some .int) 1 := ⟨⟨kw_1059, kw_1, nd_X9_peace⟩, kw_1061, kw_1062⟩
theorem kw_1064 : Cond.methodLink RL 77 yX9_peace ∈ gtbl := gm2 197 rfl rfl
theorem kw_1065 : Cond.code yX10_peace cX10_peace 4 (some .int) ∈ gtbl := gm4 136 rfl rfl
theorem nd_X10_peace : (yX10_peace).cls ≠ "java/lang/invoke/MethodHandle" ∧ (yX10_peace).cls ≠ "java/lang/invoke/VarHandle" ∧ (parseMethodDescriptor (yX10_peace).desc).map (fun d => d.parameters.length) = some 1 := by decide +kernel
theorem kw_1067 : Cond.instanceMethod yX10_peace ∈ gtbl := gm4 134 rfl rfl
theorem kw_1068 : Cond.selects RX10 yX10_peace yX10_peace ∈ gtbl := gm4 135 rfl rfl
theorem cV_X10_peace : xcV yX10_peace cX10_peace 4 (some .int) 1 := ⟨⟨kw_1065, kw_490, nd_X10_peace⟩, kw_1067, kw_1068⟩
theorem kw_1070 : Cond.methodLink RL 80 yX10_peace ∈ gtbl := gm4 133 rfl rfl
theorem kw_1071 : Cond.code yX9_round cX9_round 3 (some .int) ∈ gtbl := gm2 215 rfl rfl
theorem nd_X9_round : (yX9_round).cls ≠ "java/lang/invoke/MethodHandle" ∧ (yX9_round).cls ≠ "java/lang/invoke/VarHandle" ∧ (parseMethodDescriptor (yX9_round).desc).map (fun d => d.parameters.length) = some 2 := by decide +kernel
theorem kw_1073 : Cond.instanceMethod yX9_round ∈ gtbl := gm2 213 rfl rfl
theorem kw_1074 : Cond.selects RX9 yX9_round yX9_round ∈ gtbl := gm2 214 rfl rfl
theorem cV_X9_round : xcV yX9_round cX9_round 3 (some .int) 2 := ⟨⟨kw_1071, kw_1, nd_X9_round⟩, kw_1073, kw_1074⟩
theorem kw_1076 : Cond.methodLink RL 81 yX9_round ∈ gtbl := gm2 212 rfl rfl
theorem kw_1077 : Cond.code yX10_round cX10_round 7 (some .int) ∈ gtbl := gm4 144 rfl rfl
theorem nd_X10_round : (yX10_round).cls ≠ "java/lang/invoke/MethodHandle" ∧ (yX10_round).cls ≠ "java/lang/invoke/VarHandle" ∧ (parseMethodDescriptor (yX10_round).desc).map (fun d => d.parameters.length) = some 2 := by decide +kernel
theorem kw_1079 : Cond.instanceMethod yX10_round ∈ gtbl := gm4 142 rfl rfl
theorem kw_1080 : Cond.selects RX10 yX10_round yX10_round ∈ gtbl := gm4 143 rfl rfl
theorem cV_X10_round : xcV yX10_round cX10_round 7 (some .int) 2 := ⟨⟨kw_1077, kw_490, nd_X10_round⟩, kw_1079, kw_1080⟩
theorem kw_1082 : Cond.methodLink RL 84 yX10_round ∈ gtbl := gm4 141 rfl rfl
theorem kw_1083 : Cond.code yX9_fines cX9_fines 5 (some .int) ∈ gtbl := gm2 231 rfl rfl
theorem nd_X9_fines : (yX9_fines).cls ≠ "java/lang/invoke/MethodHandle" ∧ (yX9_fines).cls ≠ "java/lang/invoke/VarHandle" ∧ (parseMethodDescriptor (yX9_fines).desc).map (fun d => d.parameters.length) = some 2 := by decide +kernel
theorem kw_1085 : Cond.instanceMethod yX9_fines ∈ gtbl := gm2 229 rfl rfl
theorem kw_1086 : Cond.selects RX9 yX9_fines yX9_fines ∈ gtbl := gm2 230 rfl rfl
theorem cV_X9_fines : xcV yX9_fines cX9_fines 5 (some .int) 2 := ⟨⟨kw_1083, kw_1, nd_X9_fines⟩, kw_1085, kw_1086⟩
theorem kw_1088 : Cond.methodLink RL 85 yX9_fines ∈ gtbl := gm2 228 rfl rfl
theorem kw_1089 : Cond.code yX10_fines cX10_fines 5 (some .int) ∈ gtbl := gm4 151 rfl rfl
theorem nd_X10_fines : (yX10_fines).cls ≠ "java/lang/invoke/MethodHandle" ∧ (yX10_fines).cls ≠ "java/lang/invoke/VarHandle" ∧ (parseMethodDescriptor (yX10_fines).desc).map (fun d => d.parameters.length) = some 2 := by decide +kernel
theorem kw_1091 : Cond.instanceMethod yX10_fines ∈ gtbl := gm4 149 rfl rfl
theorem kw_1092 : Cond.selects RX10 yX10_fines yX10_fines ∈ gtbl := gm4 150 rfl rfl
theorem cV_X10_fines : xcV yX10_fines cX10_fines 5 (some .int) 2 := ⟨⟨kw_1089, kw_490, nd_X10_fines⟩, kw_1091, kw_1092⟩
theorem kw_1094 : Cond.methodLink RL 88 yX10_fines ∈ gtbl := gm4 148 rfl rfl
theorem kw_1095 : Cond.code yX9_mean cX9_mean 6 (some .long) ∈ gtbl := gm3 9 rfl rfl
theorem nd_X9_mean : (yX9_mean).cls ≠ "java/lang/invoke/MethodHandle" ∧ (yX9_mean).cls ≠ "java/lang/invoke/VarHandle" ∧ (parseMethodDescriptor (yX9_mean).desc).map (fun d => d.parameters.length) = some 2 := by decide +kernel
theorem kw_1097 : Cond.instanceMethod yX9_mean ∈ gtbl := gm3 7 rfl rfl
theorem kw_1098 : Cond.selects RX9 yX9_mean yX9_mean ∈ gtbl := gm3 8 rfl rfl
theorem cV_X9_mean : xcV yX9_mean cX9_mean 6 (some .long) 2 := ⟨⟨kw_1095, kw_1, nd_X9_mean⟩, kw_1097, kw_1098⟩
theorem kw_1100 : Cond.methodLink RL 89 yX9_mean ∈ gtbl := gm3 6 rfl rfl
theorem kw_1101 : Cond.code yX10_mean cX10_mean 5 (some .long) ∈ gtbl := gm4 163 rfl rfl
theorem nd_X10_mean : (yX10_mean).cls ≠ "java/lang/invoke/MethodHandle" ∧ (yX10_mean).cls ≠ "java/lang/invoke/VarHandle" ∧ (parseMethodDescriptor (yX10_mean).desc).map (fun d => d.parameters.length) = some 2 := by decide +kernel
theorem kw_1103 : Cond.instanceMethod yX10_mean ∈ gtbl := gm4 161 rfl rfl
theorem kw_1104 : Cond.selects RX10 yX10_mean yX10_mean ∈ gtbl := gm4 162 rfl rfl
theorem cV_X10_mean : xcV yX10_mean cX10_mean 5 (some .long) 2 := ⟨⟨kw_1101, kw_490, nd_X10_mean⟩, kw_1103, kw_1104⟩
theorem kw_1106 : Cond.methodLink RL 93 yX10_mean ∈ gtbl := gm4 160 rfl rfl
theorem kw_1107 : Cond.code yX9_sheet cX9_sheet 4 (some .int) ∈ gtbl := gm3 21 rfl rfl
theorem nd_X9_sheet : (yX9_sheet).cls ≠ "java/lang/invoke/MethodHandle" ∧ (yX9_sheet).cls ≠ "java/lang/invoke/VarHandle" ∧ (parseMethodDescriptor (yX9_sheet).desc).map (fun d => d.parameters.length) = some 3 := by decide +kernel
theorem kw_1109 : Cond.instanceMethod yX9_sheet ∈ gtbl := gm3 19 rfl rfl
theorem kw_1110 : Cond.selects RX9 yX9_sheet yX9_sheet ∈ gtbl := gm3 20 rfl rfl
theorem cV_X9_sheet : xcV yX9_sheet cX9_sheet 4 (some .int) 3 := ⟨⟨kw_1107, kw_1, nd_X9_sheet⟩, kw_1109, kw_1110⟩
theorem kw_1112 : Cond.methodLink RL 94 yX9_sheet ∈ gtbl := gm3 18 rfl rfl
theorem kw_1113 : Cond.code yX10_sheet cX10_sheet 5 (some .int) ∈ gtbl := gm4 174 rfl rfl
theorem nd_X10_sheet : (yX10_sheet).cls ≠ "java/lang/invoke/MethodHandle" ∧ (yX10_sheet).cls ≠ "java/lang/invoke/VarHandle" ∧ (parseMethodDescriptor (yX10_sheet).desc).map (fun d => d.parameters.length) = some 3 := by decide +kernel
theorem kw_1115 : Cond.instanceMethod yX10_sheet ∈ gtbl := gm4 172 rfl rfl
theorem kw_1116 : Cond.selects RX10 yX10_sheet yX10_sheet ∈ gtbl := gm4 173 rfl rfl
theorem cV_X10_sheet : xcV yX10_sheet cX10_sheet 5 (some .int) 3 := ⟨⟨kw_1113, kw_490, nd_X10_sheet⟩, kw_1115, kw_1116⟩
theorem kw_1118 : Cond.methodLink RL 97 yX10_sheet ∈ gtbl := gm4 171 rfl rfl
theorem kw_1119 : Cond.code yX9_lose cX9_lose 2 (some .int) ∈ gtbl := gm3 30 rfl rfl
theorem nd_X9_lose : (yX9_lose).cls ≠ "java/lang/invoke/MethodHandle" ∧ (yX9_lose).cls ≠ "java/lang/invoke/VarHandle" ∧ (parseMethodDescriptor (yX9_lose).desc).map (fun d => d.parameters.length) = some 1 := by decide +kernel
theorem kw_1121 : Cond.instanceMethod yX9_lose ∈ gtbl := gm3 28 rfl rfl
theorem kw_1122 : Cond.selects RX9 yX9_lose yX9_lose ∈ gtbl := gm3 29 rfl rfl
theorem cV_X9_lose : xcV yX9_lose cX9_lose 2 (some .int) 1 := ⟨⟨kw_1119, kw_1, nd_X9_lose⟩, kw_1121, kw_1122⟩
theorem kw_1124 : Cond.methodLink RL 98 yX9_lose ∈ gtbl := gm3 27 rfl rfl
theorem kw_1125 : Cond.code yX10_lose cX10_lose 3 (some .int) ∈ gtbl := gm4 178 rfl rfl
theorem nd_X10_lose : (yX10_lose).cls ≠ "java/lang/invoke/MethodHandle" ∧ (yX10_lose).cls ≠ "java/lang/invoke/VarHandle" ∧ (parseMethodDescriptor (yX10_lose).desc).map (fun d => d.parameters.length) = some 1 := by decide +kernel
theorem kw_1127 : Cond.instanceMethod yX10_lose ∈ gtbl := gm4 176 rfl rfl
theorem kw_1128 : Cond.selects RX10 yX10_lose yX10_lose ∈ gtbl := gm4 177 rfl rfl
theorem cV_X10_lose : xcV yX10_lose cX10_lose 3 (some .int) 1 := ⟨⟨kw_1125, kw_490, nd_X10_lose⟩, kw_1127, kw_1128⟩
theorem kw_1130 : Cond.methodLink RL 101 yX10_lose ∈ gtbl := gm4 175 rfl rfl
theorem kw_1131 : Cond.code yX9_put cX9_put 4 (some .int) ∈ gtbl := gm3 38 rfl rfl
theorem nd_X9_put : (yX9_put).cls ≠ "java/lang/invoke/MethodHandle" ∧ (yX9_put).cls ≠ "java/lang/invoke/VarHandle" ∧ (parseMethodDescriptor (yX9_put).desc).map (fun d => d.parameters.length) = some 3 := by decide +kernel
theorem kw_1133 : Cond.instanceMethod yX9_put ∈ gtbl := gm3 36 rfl rfl
theorem kw_1134 : Cond.selects RX9 yX9_put yX9_put ∈ gtbl := gm3 37 rfl rfl
theorem cV_X9_put : xcV yX9_put cX9_put 4 (some .int) 3 := ⟨⟨kw_1131, kw_1, nd_X9_put⟩, kw_1133, kw_1134⟩
theorem kw_1136 : Cond.methodLink RL 102 yX9_put ∈ gtbl := gm3 35 rfl rfl
theorem kw_1137 : Cond.code yX10_put cX10_put 4 (some .int) ∈ gtbl := gm4 182 rfl rfl
theorem nd_X10_put : (yX10_put).cls ≠ "java/lang/invoke/MethodHandle" ∧ (yX10_put).cls ≠ "java/lang/invoke/VarHandle" ∧ (parseMethodDescriptor (yX10_put).desc).map (fun d => d.parameters.length) = some 3 := by decide +kernel
theorem kw_1139 : Cond.instanceMethod yX10_put ∈ gtbl := gm4 180 rfl rfl
theorem kw_1140 : Cond.selects RX10 yX10_put yX10_put ∈ gtbl := gm4 181 rfl rfl
theorem cV_X10_put : xcV yX10_put cX10_put 4 (some .int) 3 := ⟨⟨kw_1137, kw_490, nd_X10_put⟩, kw_1139, kw_1140⟩
theorem kw_1142 : Cond.methodLink RL 105 yX10_put ∈ gtbl := gm4 179 rfl rfl
theorem kw_1143 : Cond.code yX9_cell cX9_cell 5 (some .long) ∈ gtbl := gm3 50 rfl rfl
theorem nd_X9_cell : (yX9_cell).cls ≠ "java/lang/invoke/MethodHandle" ∧ (yX9_cell).cls ≠ "java/lang/invoke/VarHandle" ∧ (parseMethodDescriptor (yX9_cell).desc).map (fun d => d.parameters.length) = some 3 := by decide +kernel
theorem kw_1145 : Cond.instanceMethod yX9_cell ∈ gtbl := gm3 48 rfl rfl
theorem kw_1146 : Cond.selects RX9 yX9_cell yX9_cell ∈ gtbl := gm3 49 rfl rfl
theorem cV_X9_cell : xcV yX9_cell cX9_cell 5 (some .long) 3 := ⟨⟨kw_1143, kw_1, nd_X9_cell⟩, kw_1145, kw_1146⟩
theorem kw_1148 : Cond.methodLink RL 106 yX9_cell ∈ gtbl := gm3 47 rfl rfl
theorem kw_1149 : Cond.code yX10_cell cX10_cell 4 (some .long) ∈ gtbl := gm4 190 rfl rfl
theorem nd_X10_cell : (yX10_cell).cls ≠ "java/lang/invoke/MethodHandle" ∧ (yX10_cell).cls ≠ "java/lang/invoke/VarHandle" ∧ (parseMethodDescriptor (yX10_cell).desc).map (fun d => d.parameters.length) = some 3 := by decide +kernel
theorem kw_1151 : Cond.instanceMethod yX10_cell ∈ gtbl := gm4 188 rfl rfl
theorem kw_1152 : Cond.selects RX10 yX10_cell yX10_cell ∈ gtbl := gm4 189 rfl rfl
theorem cV_X10_cell : xcV yX10_cell cX10_cell 4 (some .long) 3 := ⟨⟨kw_1149, kw_490, nd_X10_cell⟩, kw_1151, kw_1152⟩
theorem kw_1154 : Cond.methodLink RL 110 yX10_cell ∈ gtbl := gm4 187 rfl rfl
theorem kw_1155 : Cond.code yX9_copy cX9_copy 8 (some .int) ∈ gtbl := gm3 58 rfl rfl
theorem nd_X9_copy : (yX9_copy).cls ≠ "java/lang/invoke/MethodHandle" ∧ (yX9_copy).cls ≠ "java/lang/invoke/VarHandle" ∧ (parseMethodDescriptor (yX9_copy).desc).map (fun d => d.parameters.length) = some 5 := by decide +kernel
theorem kw_1157 : Cond.instanceMethod yX9_copy ∈ gtbl := gm3 56 rfl rfl
theorem kw_1158 : Cond.selects RX9 yX9_copy yX9_copy ∈ gtbl := gm3 57 rfl rfl
theorem cV_X9_copy : xcV yX9_copy cX9_copy 8 (some .int) 5 := ⟨⟨kw_1155, kw_1, nd_X9_copy⟩, kw_1157, kw_1158⟩
theorem kw_1160 : Cond.methodLink RL 111 yX9_copy ∈ gtbl := gm3 55 rfl rfl
theorem kw_1161 : Cond.code yX10_copy cX10_copy 7 (some .int) ∈ gtbl := gm4 198 rfl rfl
theorem nd_X10_copy : (yX10_copy).cls ≠ "java/lang/invoke/MethodHandle" ∧ (yX10_copy).cls ≠ "java/lang/invoke/VarHandle" ∧ (parseMethodDescriptor (yX10_copy).desc).map (fun d => d.parameters.length) = some 5 := by decide +kernel
theorem kw_1163 : Cond.instanceMethod yX10_copy ∈ gtbl := gm4 196 rfl rfl
theorem kw_1164 : Cond.selects RX10 yX10_copy yX10_copy ∈ gtbl := gm4 197 rfl rfl
theorem cV_X10_copy : xcV yX10_copy cX10_copy 7 (some .int) 5 := ⟨⟨kw_1161, kw_490, nd_X10_copy⟩, kw_1163, kw_1164⟩
theorem kw_1166 : Cond.methodLink RL 115 yX10_copy ∈ gtbl := gm4 195 rfl rfl
theorem kw_1167 : Cond.code yX9_tell cX9_tell 2 (some .int) ∈ gtbl := gm3 65 rfl rfl
theorem nd_X9_tell : (yX9_tell).cls ≠ "java/lang/invoke/MethodHandle" ∧ (yX9_tell).cls ≠ "java/lang/invoke/VarHandle" ∧ (parseMethodDescriptor (yX9_tell).desc).map (fun d => d.parameters.length) = some 1 := by decide +kernel
theorem kw_1169 : Cond.instanceMethod yX9_tell ∈ gtbl := gm3 63 rfl rfl
theorem kw_1170 : Cond.selects RX9 yX9_tell yX9_tell ∈ gtbl := gm3 64 rfl rfl
theorem cV_X9_tell : xcV yX9_tell cX9_tell 2 (some .int) 1 := ⟨⟨kw_1167, kw_1, nd_X9_tell⟩, kw_1169, kw_1170⟩
theorem kw_1172 : Cond.methodLink RL 116 yX9_tell ∈ gtbl := gm3 62 rfl rfl
theorem kw_1173 : Cond.code yX10_tell cX10_tell 4 (some .int) ∈ gtbl := gm4 202 rfl rfl
theorem nd_X10_tell : (yX10_tell).cls ≠ "java/lang/invoke/MethodHandle" ∧ (yX10_tell).cls ≠ "java/lang/invoke/VarHandle" ∧ (parseMethodDescriptor (yX10_tell).desc).map (fun d => d.parameters.length) = some 1 := by decide +kernel
theorem kw_1175 : Cond.instanceMethod yX10_tell ∈ gtbl := gm4 200 rfl rfl
theorem kw_1176 : Cond.selects RX10 yX10_tell yX10_tell ∈ gtbl := gm4 201 rfl rfl
theorem cV_X10_tell : xcV yX10_tell cX10_tell 4 (some .int) 1 := ⟨⟨kw_1173, kw_490, nd_X10_tell⟩, kw_1175, kw_1176⟩
theorem kw_1178 : Cond.methodLink RL 119 yX10_tell ∈ gtbl := gm4 199 rfl rfl
theorem kw_1179 : Cond.code yX9_lean cX9_lean 2 (some .int) ∈ gtbl := gm3 95 rfl rfl
theorem nd_X9_lean : (yX9_lean).cls ≠ "java/lang/invoke/MethodHandle" ∧ (yX9_lean).cls ≠ "java/lang/invoke/VarHandle" ∧ (parseMethodDescriptor (yX9_lean).desc).map (fun d => d.parameters.length) = some 1 := by decide +kernel
theorem kw_1181 : Cond.instanceMethod yX9_lean ∈ gtbl := gm3 93 rfl rfl
theorem kw_1182 : Cond.selects RX9 yX9_lean yX9_lean ∈ gtbl := gm3 94 rfl rfl
theorem cV_X9_lean : xcV yX9_lean cX9_lean 2 (some .int) 1 := ⟨⟨kw_1179, kw_1, nd_X9_lean⟩, kw_1181, kw_1182⟩
theorem kw_1184 : Cond.methodLink RL 120 yX9_lean ∈ gtbl := gm3 92 rfl rfl
theorem kw_1185 : Cond.code yX10_lean cX10_lean 2 (some .int) ∈ gtbl := gm4 210 rfl rfl
theorem nd_X10_lean : (yX10_lean).cls ≠ "java/lang/invoke/MethodHandle" ∧ (yX10_lean).cls ≠ "java/lang/invoke/VarHandle" ∧ (parseMethodDescriptor (yX10_lean).desc).map (fun d => d.parameters.length) = some 1 := by decide +kernel
theorem kw_1187 : Cond.instanceMethod yX10_lean ∈ gtbl := gm4 208 rfl rfl
theorem kw_1188 : Cond.selects RX10 yX10_lean yX10_lean ∈ gtbl := gm4 209 rfl rfl
theorem cV_X10_lean : xcV yX10_lean cX10_lean 2 (some .int) 1 := ⟨⟨kw_1185, kw_490, nd_X10_lean⟩, kw_1187, kw_1188⟩
theorem kw_1190 : Cond.methodLink RL 123 yX10_lean ∈ gtbl := gm4 207 rfl rfl
theorem kw_1191 : Cond.code yX9_as cX9_as 3 (some .int) ∈ gtbl := gm3 108 rfl rfl
theorem nd_X9_as : (yX9_as).cls ≠ "java/lang/invoke/MethodHandle" ∧ (yX9_as).cls ≠ "java/lang/invoke/VarHandle" ∧ (parseMethodDescriptor (yX9_as).desc).map (fun d => d.parameters.length) = some 2 := by decide +kernel
theorem kw_1193 : Cond.instanceMethod yX9_as ∈ gtbl := gm3 106 rfl rfl
theorem kw_1194 : Cond.selects RX9 yX9_as yX9_as ∈ gtbl := gm3 107 rfl rfl
theorem cV_X9_as : xcV yX9_as cX9_as 3 (some .int) 2 := ⟨⟨kw_1191, kw_1, nd_X9_as⟩, kw_1193, kw_1194⟩
theorem kw_1196 : Cond.methodLink RL 124 yX9_as ∈ gtbl := gm3 105 rfl rfl
theorem kw_1197 : Cond.code yX10_as cX10_as 3 (some .int) ∈ gtbl := gm4 214 rfl rfl
theorem nd_X10_as : (yX10_as).cls ≠ "java/lang/invoke/MethodHandle" ∧ (yX10_as).cls ≠ "java/lang/invoke/VarHandle" ∧ (parseMethodDescriptor (yX10_as).desc).map (fun d => d.parameters.length) = some 2 := by decide +kernel
theorem kw_1199 : Cond.instanceMethod yX10_as ∈ gtbl := gm4 212 rfl rfl
theorem kw_1200 : Cond.selects RX10 yX10_as yX10_as ∈ gtbl := gm4 213 rfl rfl
theorem cV_X10_as : xcV yX10_as cX10_as 3 (some .int) 2 := ⟨⟨kw_1197, kw_490, nd_X10_as⟩, kw_1199, kw_1200⟩
theorem kw_1202 : Cond.methodLink RL 127 yX10_as ∈ gtbl := gm4 211 rfl rfl
theorem kw_1203 : Cond.code yX9_trace cX9_trace 1 (some .int) ∈ gtbl := gm3 112 rfl rfl
theorem nd_X9_trace : (yX9_trace).cls ≠ "java/lang/invoke/MethodHandle" ∧ (yX9_trace).cls ≠ "java/lang/invoke/VarHandle" ∧ (parseMethodDescriptor (yX9_trace).desc).map (fun d => d.parameters.length) = some 0 := by decide +kernel
theorem kw_1205 : Cond.instanceMethod yX9_trace ∈ gtbl := gm3 110 rfl rfl
theorem kw_1206 : Cond.selects RX9 yX9_trace yX9_trace ∈ gtbl := gm3 111 rfl rfl
theorem cV_X9_trace : xcV yX9_trace cX9_trace 1 (some .int) 0 := ⟨⟨kw_1203, kw_1, nd_X9_trace⟩, kw_1205, kw_1206⟩
theorem kw_1208 : Cond.methodLink RL 128 yX9_trace ∈ gtbl := gm3 109 rfl rfl
theorem kw_1209 : Cond.code yX10_trace cX10_trace 1 (some .int) ∈ gtbl := gm4 218 rfl rfl
theorem nd_X10_trace : (yX10_trace).cls ≠ "java/lang/invoke/MethodHandle" ∧ (yX10_trace).cls ≠ "java/lang/invoke/VarHandle" ∧ (parseMethodDescriptor (yX10_trace).desc).map (fun d => d.parameters.length) = some 0 := by decide +kernel
theorem kw_1211 : Cond.instanceMethod yX10_trace ∈ gtbl := gm4 216 rfl rfl
theorem kw_1212 : Cond.selects RX10 yX10_trace yX10_trace ∈ gtbl := gm4 217 rfl rfl
theorem cV_X10_trace : xcV yX10_trace cX10_trace 1 (some .int) 0 := ⟨⟨kw_1209, kw_490, nd_X10_trace⟩, kw_1211, kw_1212⟩
theorem kw_1214 : Cond.methodLink RL 132 yX10_trace ∈ gtbl := gm4 215 rfl rfl
theorem kw_1215 : Cond.code yX9_fault cX9_fault 1 (some .int) ∈ gtbl := gm3 116 rfl rfl
theorem nd_X9_fault : (yX9_fault).cls ≠ "java/lang/invoke/MethodHandle" ∧ (yX9_fault).cls ≠ "java/lang/invoke/VarHandle" ∧ (parseMethodDescriptor (yX9_fault).desc).map (fun d => d.parameters.length) = some 0 := by decide +kernel
theorem kw_1217 : Cond.instanceMethod yX9_fault ∈ gtbl := gm3 114 rfl rfl
theorem kw_1218 : Cond.selects RX9 yX9_fault yX9_fault ∈ gtbl := gm3 115 rfl rfl
theorem cV_X9_fault : xcV yX9_fault cX9_fault 1 (some .int) 0 := ⟨⟨kw_1215, kw_1, nd_X9_fault⟩, kw_1217, kw_1218⟩
theorem kw_1220 : Cond.methodLink RL 133 yX9_fault ∈ gtbl := gm3 113 rfl rfl
theorem kw_1221 : Cond.code yX10_fault cX10_fault 1 (some .int) ∈ gtbl := gm4 222 rfl rfl
theorem nd_X10_fault : (yX10_fault).cls ≠ "java/lang/invoke/MethodHandle" ∧ (yX10_fault).cls ≠ "java/lang/invoke/VarHandle" ∧ (parseMethodDescriptor (yX10_fault).desc).map (fun d => d.parameters.length) = some 0 := by decide +kernel
theorem kw_1223 : Cond.instanceMethod yX10_fault ∈ gtbl := gm4 220 rfl rfl
theorem kw_1224 : Cond.selects RX10 yX10_fault yX10_fault ∈ gtbl := gm4 221 rfl rfl
theorem cV_X10_fault : xcV yX10_fault cX10_fault 1 (some .int) 0 := ⟨⟨kw_1221, kw_490, nd_X10_fault⟩, kw_1223, kw_1224⟩
theorem kw_1226 : Cond.methodLink RL 136 yX10_fault ∈ gtbl := gm4 219 rfl rfl
theorem kw_1227 : Cond.code yX9_many cX9_many 2 (some .int) ∈ gtbl := gm3 120 rfl rfl
theorem nd_X9_many : (yX9_many).cls ≠ "java/lang/invoke/MethodHandle" ∧ (yX9_many).cls ≠ "java/lang/invoke/VarHandle" ∧ (parseMethodDescriptor (yX9_many).desc).map (fun d => d.parameters.length) = some 1 := by decide +kernel
theorem kw_1229 : Cond.instanceMethod yX9_many ∈ gtbl := gm3 118 rfl rfl
theorem kw_1230 : Cond.selects RX9 yX9_many yX9_many ∈ gtbl := gm3 119 rfl rfl
theorem cV_X9_many : xcV yX9_many cX9_many 2 (some .int) 1 := ⟨⟨kw_1227, kw_1, nd_X9_many⟩, kw_1229, kw_1230⟩
theorem kw_1232 : Cond.methodLink RL 137 yX9_many ∈ gtbl := gm3 117 rfl rfl
theorem kw_1233 : Cond.code yX10_many cX10_many 2 (some .int) ∈ gtbl := gm4 226 rfl rfl
theorem nd_X10_many : (yX10_many).cls ≠ "java/lang/invoke/MethodHandle" ∧ (yX10_many).cls ≠ "java/lang/invoke/VarHandle" ∧ (parseMethodDescriptor (yX10_many).desc).map (fun d => d.parameters.length) = some 1 := by decide +kernel
theorem kw_1235 : Cond.instanceMethod yX10_many ∈ gtbl := gm4 224 rfl rfl
theorem kw_1236 : Cond.selects RX10 yX10_many yX10_many ∈ gtbl := gm4 225 rfl rfl
theorem cV_X10_many : xcV yX10_many cX10_many 2 (some .int) 1 := ⟨⟨kw_1233, kw_490, nd_X10_many⟩, kw_1235, kw_1236⟩
theorem kw_1238 : Cond.methodLink RL 140 yX10_many ∈ gtbl := gm4 223 rfl rfl
theorem kw_1239 : Cond.instantiable RX9 5 ∈ gtbl := gm1 16 rfl rfl
theorem kw_1240 : Cond.instantiable RX10 23 ∈ gtbl := gm3 123 rfl rfl
theorem kw_1241 : Cond.classLink RL 7 RX9 ∈ gtbl := gm1 15 rfl rfl
theorem kw_1242 : Cond.code yX9_init cX9_init 2 none ∈ gtbl := gm1 19 rfl rfl
theorem kw_1243 : Cond.instanceMethod yX9_init ∈ gtbl := gm1 18 rfl rfl
theorem nd_X9_init : (yX9_init).cls ≠ "java/lang/invoke/MethodHandle" ∧ (yX9_init).cls ≠ "java/lang/invoke/VarHandle" ∧ (parseMethodDescriptor (yX9_init).desc).map (fun d => d.parameters.length) = some 0 := by decide +kernel
theorem cI_X9_init : xc yX9_init cX9_init 2 none 0 ∧ Cond.instanceMethod yX9_init ∈ gtbl := ⟨⟨kw_1242, kw_1, nd_X9_init⟩, kw_1243⟩
theorem kw_1246 : Cond.methodLink RL 9 yX9_init ∈ gtbl := gm1 17 rfl rfl
theorem kw_1247 : Cond.classLink RL 10 RX10 ∈ gtbl := gm3 122 rfl rfl
theorem kw_1248 : Cond.code yX10_init cX10_init 2 none ∈ gtbl := gm3 126 rfl rfl
theorem kw_1249 : Cond.instanceMethod yX10_init ∈ gtbl := gm3 125 rfl rfl
theorem nd_X10_init : (yX10_init).cls ≠ "java/lang/invoke/MethodHandle" ∧ (yX10_init).cls ≠ "java/lang/invoke/VarHandle" ∧ (parseMethodDescriptor (yX10_init).desc).map (fun d => d.parameters.length) = some 0 := by decide +kernel
theorem cI_X10_init : xc yX10_init cX10_init 2 none 0 ∧ Cond.instanceMethod yX10_init ∈ gtbl := ⟨⟨kw_1248, kw_490, nd_X10_init⟩, kw_1249⟩
theorem kw_1252 : Cond.methodLink RL 12 yX10_init ∈ gtbl := gm3 124 rfl rfl
theorem lg_cmp_rr (r : Int64) : lg_cmp r r = 0 := by
  unfold lg_cmp
  have h : ¬ r > r := Int64.lt_irrefl
  rw [if_neg h, if_pos rfl]

theorem law_in {L i : Nat} (h : i + 6 ≤ L) (hL : L ≤ 3072) (k : Nat) (hk : k < 6) {x : Int32} (hx : x = nI k) : vp_in (nI i + x) L := by
  rw [hx, nI_add]
  exact vp_in_nI (by omega) (by omega)
theorem law_in0 {L i : Nat} (h : i + 6 ≤ L) (hL : L ≤ 3072) : vp_in (nI i) L := vp_in_nI (by omega) (by omega)
theorem law_go {L i : Nat} (hL : L ≤ 3072) (hi : i ≤ L) (h : ¬ Int32.ofNat L - 6 < nI i) : i + 6 ≤ L := by
  rcases Nat.lt_or_ge L (i + 6) with q | q
  · exfalso
    apply h
    show nI L - nI 6 < nI i
    rcases Nat.lt_or_ge L 6 with r | r
    · have h1 := pk_sneg (a := L) (b := 6) (by decide) r
      have h2 : (0 : Int32) ≤ nI i := nI_pos' (by omega)
      exact Int32.lt_of_lt_of_le h1 h2
    · rw [pk_sub r]
      exact nI_lt (by omega) (by omega)
  · exact q
/-- what is behind a round of the loop -/
abbrev lw_Nx (p : Program) (l : Launch) (e : Env) (s : State) (m : MethodId) (below : List Frame) (meth : Method) (c : Code) (b i pc kc ks : Nat) : Prop :=
  ∀ (X : XC) (z : XS), X.2.2.2.1 = s.heap.size → Inv z → ∀ (H : Heap) (locs : List Loc), xw X [] z s H locs → ∀ (ls : Array Slot), lv_has ls 4 [(0, .ref b), (1, .ref (X.2.2.1 0 0)), (2, .ref (X.2.2.1 17 0)), (3, .int (nI i))] → W p l e room_1 s m #[Value.ref b] below meth c H locs kc ks (lw_Z below #[Value.ref b] s) (F0 m pc ls [])
set_option maxHeartbeats 4000000 in
set_option maxRecDepth 100000 in
theorem lc_0 {p : Program} {l : Launch} {e : Env} {s : State} {m : MethodId} {below : List Frame} {meth : Method} {c : Code} {b L i : Nat} {xs : Nat → Int32} (C : CallFix p m c cL_law 4 s #[Value.ref b] gtbl RL) (hX : va_X b L xs s s.heap) (hbl : b < s.heap.size) (hL : L ≤ 3072) (hi6 : i + 6 ≤ L) (hN : lw_Nx p l e s m below meth c b i 1240 (100 + i + 6) (3000 + 2 * i + 12)) : lw_Nx p l e s m below meth c b i 168 (100 + i) (3000 + 2 * i) := by
  intro X z hB hI H locs hw ls hl
  have hbA : ¬ xA X b := by unfold xA; rw [hB]; exact Nat.not_le.mpr hbl
  obtain ⟨r, z1, z2, hq1, hq2, hI2⟩ := eq_gardens z hI (xs (nI i + (1 : Int32)).toNatClampNeg) (xs (nI i + (2 : Int32)).toNatClampNeg) (xs (nI i + (3 : Int32)).toNatClampNeg) (xs (nI i + (4 : Int32)).toNatClampNeg)
  refine lv_aload_n C.1 C.2.1 dL_law_168 rfl (lv_at hl 1 rfl) ?_
  refine lv_aload_n C.1 C.2.1 dL_law_169 rfl (lv_at hl 0 rfl) ?_
  refine lv_iload_n C.1 C.2.1 dL_law_170 rfl (lv_at hl 3 rfl) ?_
  refine lv_iconst (v := (1 : Int32)) C.1 C.2.1 dL_law_171 (by decide) ?_
  refine lv_iadd C.1 C.2.1 dL_law_172 ?_
  refine va_sld (A := xA X) C.1 C.2.1 hX hbl hbA hw.2.2 (law_in hi6 hL 1 (by decide) (by decide)) dL_law_173 ?_
  refine lv_aload_n C.1 C.2.1 dL_law_174 rfl (lv_at hl 0 rfl) ?_
  refine lv_iload_n C.1 C.2.1 dL_law_175 rfl (lv_at hl 3 rfl) ?_
  refine lv_iconst (v := (2 : Int32)) C.1 C.2.1 dL_law_176 (by decide) ?_
  refine lv_iadd C.1 C.2.1 dL_law_177 ?_
  refine va_sld (A := xA X) C.1 C.2.1 hX hbl hbA hw.2.2 (law_in hi6 hL 2 (by decide) (by decide)) dL_law_178 ?_
  refine lv_aload_n C.1 C.2.1 dL_law_179 rfl (lv_at hl 0 rfl) ?_
  refine lv_iload_n C.1 C.2.1 dL_law_180 rfl (lv_at hl 3 rfl) ?_
  refine lv_iconst (v := (3 : Int32)) C.1 C.2.1 dL_law_181 (by decide) ?_
  refine lv_iadd C.1 C.2.1 dL_law_182 ?_
  refine va_sld (A := xA X) C.1 C.2.1 hX hbl hbA hw.2.2 (law_in hi6 hL 3 (by decide) (by decide)) dL_law_183 ?_
  refine lv_aload_n C.1 C.2.1 dL_law_184 rfl (lv_at hl 0 rfl) ?_
  refine lv_iload_n C.1 C.2.1 dL_law_185 rfl (lv_at hl 3 rfl) ?_
  refine lv_iconst (v := (4 : Int32)) C.1 C.2.1 dL_law_186 (by decide) ?_
  refine lv_iadd C.1 C.2.1 dL_law_187 ?_
  refine va_sld (A := xA X) C.1 C.2.1 hX hbl hbA hw.2.2 (law_in hi6 hL 4 (by decide) (by decide)) dL_law_188 ?_
  refine x_goSi hw (x_runV (X := X) (As := [.int (xs (nI i + (1 : Int32)).toNatClampNeg), .int (xs (nI i + (2 : Int32)).toNatClampNeg), .int (xs (nI i + (3 : Int32)).toNatClampNeg), .int (xs (nI i + (4 : Int32)).toNatClampNeg)]) (rest := []) (k := 0) (j := 0) C hw (Nat.le_of_ble_eq_true rfl) rfl rfl cV_X9_gardens kw_884 (c_X9_gardens l X [] (xs (nI i + (1 : Int32)).toNatClampNeg) (xs (nI i + (2 : Int32)).toNatClampNeg) (xs (nI i + (3 : Int32)).toNatClampNeg) (xs (nI i + (4 : Int32)).toNatClampNeg) z (r, z1) hq1) ⟨(Nat.le_of_ble_eq_true rfl), (Nat.le_of_ble_eq_true rfl)⟩ rfl hl.1 rfl (Nat.le_of_ble_eq_true rfl) dL_law_189 ⟨(show 100 + i + 6 ≤ 600000 by omega), (show 3000 + 2 * i + 12 ≤ 7302250 by omega)⟩) (fun hh H locs hw => ?_)
  refine lv_aload_n C.1 C.2.1 dL_law_192 rfl (lv_at hl 2 rfl) ?_
  refine lv_aload_n C.1 C.2.1 dL_law_193 rfl (lv_at hl 0 rfl) ?_
  refine lv_iload_n C.1 C.2.1 dL_law_194 rfl (lv_at hl 3 rfl) ?_
  refine lv_iconst (v := (1 : Int32)) C.1 C.2.1 dL_law_195 (by decide) ?_
  refine lv_iadd C.1 C.2.1 dL_law_196 ?_
  refine va_sld (A := xA (xseth X hh)) C.1 C.2.1 hX hbl hbA hw.2.2 (law_in hi6 hL 1 (by decide) (by decide)) dL_law_197 ?_
  refine lv_aload_n C.1 C.2.1 dL_law_198 rfl (lv_at hl 0 rfl) ?_
  refine lv_iload_n C.1 C.2.1 dL_law_199 rfl (lv_at hl 3 rfl) ?_
  refine lv_iconst (v := (2 : Int32)) C.1 C.2.1 dL_law_200 (by decide) ?_
  refine lv_iadd C.1 C.2.1 dL_law_201 ?_
  refine va_sld (A := xA (xseth X hh)) C.1 C.2.1 hX hbl hbA hw.2.2 (law_in hi6 hL 2 (by decide) (by decide)) dL_law_202 ?_
  refine lv_aload_n C.1 C.2.1 dL_law_203 rfl (lv_at hl 0 rfl) ?_
  refine lv_iload_n C.1 C.2.1 dL_law_204 rfl (lv_at hl 3 rfl) ?_
  refine lv_iconst (v := (3 : Int32)) C.1 C.2.1 dL_law_205 (by decide) ?_
  refine lv_iadd C.1 C.2.1 dL_law_206 ?_
  refine va_sld (A := xA (xseth X hh)) C.1 C.2.1 hX hbl hbA hw.2.2 (law_in hi6 hL 3 (by decide) (by decide)) dL_law_207 ?_
  refine lv_aload_n C.1 C.2.1 dL_law_208 rfl (lv_at hl 0 rfl) ?_
  refine lv_iload_n C.1 C.2.1 dL_law_209 rfl (lv_at hl 3 rfl) ?_
  refine lv_iconst (v := (4 : Int32)) C.1 C.2.1 dL_law_210 (by decide) ?_
  refine lv_iadd C.1 C.2.1 dL_law_211 ?_
  refine va_sld (A := xA (xseth X hh)) C.1 C.2.1 hX hbl hbA hw.2.2 (law_in hi6 hL 4 (by decide) (by decide)) dL_law_212 ?_
  refine x_goi hw (x_runV (X := (xseth X hh)) (As := [.int (xs (nI i + (1 : Int32)).toNatClampNeg), .int (xs (nI i + (2 : Int32)).toNatClampNeg), .int (xs (nI i + (3 : Int32)).toNatClampNeg), .int (xs (nI i + (4 : Int32)).toNatClampNeg)]) (rest := [.int r]) (k := 17) (j := 0) C hw (Nat.le_of_ble_eq_true rfl) rfl rfl cV_X10_gardens kw_890 (c_X10_gardens l (xseth X hh) [] (xs (nI i + (1 : Int32)).toNatClampNeg) (xs (nI i + (2 : Int32)).toNatClampNeg) (xs (nI i + (3 : Int32)).toNatClampNeg) (xs (nI i + (4 : Int32)).toNatClampNeg) z1 (r, z2) hq2) ⟨(Nat.le_of_ble_eq_true rfl), (Nat.le_of_ble_eq_true rfl)⟩ rfl hl.1 rfl (Nat.le_of_ble_eq_true rfl) dL_law_213 ⟨(show 100 + i + 6 ≤ 600000 by omega), (show 3000 + 2 * i + 12 ≤ 7302250 by omega)⟩) (fun H locs hw => ?_)
  refine lv_icmp_eq (tgt := 1240) C.1 C.2.1 dL_law_216 (by decide) (fun c1 => ?_) (fun c1 => absurd rfl c1)
  refine W.widen (k := 100 + i + 6) (n := 3000 + 2 * i + 12) (by first | exact Nat.le_refl _ | omega | (show 100 + i ≤ 100 + i + 6; omega)) (by first | exact Nat.le_refl _ | omega | (show 3000 + 2 * i ≤ 3000 + 2 * i + 12; omega)) ?_
  exact hN (xseth X hh) z2 hB hI2 H locs hw ls hl
set_option maxHeartbeats 4000000 in
set_option maxRecDepth 100000 in
theorem lc_1 {p : Program} {l : Launch} {e : Env} {s : State} {m : MethodId} {below : List Frame} {meth : Method} {c : Code} {b L i : Nat} {xs : Nat → Int32} (C : CallFix p m c cL_law 4 s #[Value.ref b] gtbl RL) (hX : va_X b L xs s s.heap) (hbl : b < s.heap.size) (hL : L ≤ 3072) (hi6 : i + 6 ≤ L) (hN : lw_Nx p l e s m below meth c b i 1240 (100 + i + 6) (3000 + 2 * i + 12)) : lw_Nx p l e s m below meth c b i 221 (100 + i) (3000 + 2 * i) := by
  intro X z hB hI H locs hw ls hl
  have hbA : ¬ xA X b := by unfold xA; rw [hB]; exact Nat.not_le.mpr hbl
  obtain ⟨r, z1, z2, hq1, hq2, hI2⟩ := eq_wants z hI (xs (nI i + (1 : Int32)).toNatClampNeg)
  refine lv_aload_n C.1 C.2.1 dL_law_221 rfl (lv_at hl 1 rfl) ?_
  refine lv_aload_n C.1 C.2.1 dL_law_222 rfl (lv_at hl 0 rfl) ?_
  refine lv_iload_n C.1 C.2.1 dL_law_223 rfl (lv_at hl 3 rfl) ?_
  refine lv_iconst (v := (1 : Int32)) C.1 C.2.1 dL_law_224 (by decide) ?_
  refine lv_iadd C.1 C.2.1 dL_law_225 ?_
  refine va_sld (A := xA X) C.1 C.2.1 hX hbl hbA hw.2.2 (law_in hi6 hL 1 (by decide) (by decide)) dL_law_226 ?_
  refine x_goi hw (x_runV (X := X) (As := [.int (xs (nI i + (1 : Int32)).toNatClampNeg)]) (rest := []) (k := 0) (j := 0) C hw (Nat.le_of_ble_eq_true rfl) rfl rfl cV_X9_wants kw_896 (c_X9_wants l X [] (xs (nI i + (1 : Int32)).toNatClampNeg) z (r, z1) hq1) ⟨(Nat.le_of_ble_eq_true rfl), (Nat.le_of_ble_eq_true rfl)⟩ rfl hl.1 rfl (Nat.le_of_ble_eq_true rfl) dL_law_227 ⟨(show 100 + i + 0 ≤ 600000 by omega), (show 3000 + 2 * i + 0 ≤ 7302250 by omega)⟩) (fun H locs hw => ?_)
  refine lv_aload_n C.1 C.2.1 dL_law_230 rfl (lv_at hl 2 rfl) ?_
  refine lv_aload_n C.1 C.2.1 dL_law_231 rfl (lv_at hl 0 rfl) ?_
  refine lv_iload_n C.1 C.2.1 dL_law_232 rfl (lv_at hl 3 rfl) ?_
  refine lv_iconst (v := (1 : Int32)) C.1 C.2.1 dL_law_233 (by decide) ?_
  refine lv_iadd C.1 C.2.1 dL_law_234 ?_
  refine va_sld (A := xA X) C.1 C.2.1 hX hbl hbA hw.2.2 (law_in hi6 hL 1 (by decide) (by decide)) dL_law_235 ?_
  refine x_goi hw (x_runV (X := X) (As := [.int (xs (nI i + (1 : Int32)).toNatClampNeg)]) (rest := [.int r]) (k := 17) (j := 0) C hw (Nat.le_of_ble_eq_true rfl) rfl rfl cV_X10_wants kw_902 (c_X10_wants l X [] (xs (nI i + (1 : Int32)).toNatClampNeg) z1 (r, z2) hq2) ⟨(Nat.le_of_ble_eq_true rfl), (Nat.le_of_ble_eq_true rfl)⟩ rfl hl.1 rfl (Nat.le_of_ble_eq_true rfl) dL_law_236 ⟨(show 100 + i + 0 ≤ 600000 by omega), (show 3000 + 2 * i + 0 ≤ 7302250 by omega)⟩) (fun H locs hw => ?_)
  refine lv_icmp_eq (tgt := 1240) C.1 C.2.1 dL_law_239 (by decide) (fun c1 => ?_) (fun c1 => absurd rfl c1)
  refine W.widen (k := 100 + i + 6) (n := 3000 + 2 * i + 12) (by first | exact Nat.le_refl _ | omega | (show 100 + i ≤ 100 + i + 6; omega)) (by first | exact Nat.le_refl _ | omega | (show 3000 + 2 * i ≤ 3000 + 2 * i + 12; omega)) ?_
  exact hN X z2 hB hI2 H locs hw ls hl
set_option maxHeartbeats 4000000 in
set_option maxRecDepth 100000 in
theorem lc_2 {p : Program} {l : Launch} {e : Env} {s : State} {m : MethodId} {below : List Frame} {meth : Method} {c : Code} {b L i : Nat} {xs : Nat → Int32} (C : CallFix p m c cL_law 4 s #[Value.ref b] gtbl RL) (hX : va_X b L xs s s.heap) (hbl : b < s.heap.size) (hL : L ≤ 3072) (hi6 : i + 6 ≤ L) (hN : lw_Nx p l e s m below meth c b i 1240 (100 + i + 6) (3000 + 2 * i + 12)) : lw_Nx p l e s m below meth c b i 244 (100 + i) (3000 + 2 * i) := by
  intro X z hB hI H locs hw ls hl
  have hbA : ¬ xA X b := by unfold xA; rw [hB]; exact Nat.not_le.mpr hbl
  obtain ⟨r, z1, z2, hq1, hq2, hI2⟩ := eq_ofHedge z hI (xs (nI i + (1 : Int32)).toNatClampNeg) (xs (nI i + (2 : Int32)).toNatClampNeg)
  refine lv_aload_n C.1 C.2.1 dL_law_244 rfl (lv_at hl 1 rfl) ?_
  refine lv_aload_n C.1 C.2.1 dL_law_245 rfl (lv_at hl 0 rfl) ?_
  refine lv_iload_n C.1 C.2.1 dL_law_246 rfl (lv_at hl 3 rfl) ?_
  refine lv_iconst (v := (1 : Int32)) C.1 C.2.1 dL_law_247 (by decide) ?_
  refine lv_iadd C.1 C.2.1 dL_law_248 ?_
  refine va_sld (A := xA X) C.1 C.2.1 hX hbl hbA hw.2.2 (law_in hi6 hL 1 (by decide) (by decide)) dL_law_249 ?_
  refine lv_aload_n C.1 C.2.1 dL_law_250 rfl (lv_at hl 0 rfl) ?_
  refine lv_iload_n C.1 C.2.1 dL_law_251 rfl (lv_at hl 3 rfl) ?_
  refine lv_iconst (v := (2 : Int32)) C.1 C.2.1 dL_law_252 (by decide) ?_
  refine lv_iadd C.1 C.2.1 dL_law_253 ?_
  refine va_sld (A := xA X) C.1 C.2.1 hX hbl hbA hw.2.2 (law_in hi6 hL 2 (by decide) (by decide)) dL_law_254 ?_
  refine x_goi hw (x_runV (X := X) (As := [.int (xs (nI i + (1 : Int32)).toNatClampNeg), .int (xs (nI i + (2 : Int32)).toNatClampNeg)]) (rest := []) (k := 0) (j := 0) C hw (Nat.le_of_ble_eq_true rfl) rfl rfl cV_X9_ofHedge kw_908 (c_X9_ofHedge l X [] (xs (nI i + (1 : Int32)).toNatClampNeg) (xs (nI i + (2 : Int32)).toNatClampNeg) z (r, z1) hq1) ⟨(Nat.le_of_ble_eq_true rfl), (Nat.le_of_ble_eq_true rfl)⟩ rfl hl.1 rfl (Nat.le_of_ble_eq_true rfl) dL_law_255 ⟨(show 100 + i + 0 ≤ 600000 by omega), (show 3000 + 2 * i + 0 ≤ 7302250 by omega)⟩) (fun H locs hw => ?_)
  refine lv_aload_n C.1 C.2.1 dL_law_258 rfl (lv_at hl 2 rfl) ?_
  refine lv_aload_n C.1 C.2.1 dL_law_259 rfl (lv_at hl 0 rfl) ?_
  refine lv_iload_n C.1 C.2.1 dL_law_260 rfl (lv_at hl 3 rfl) ?_
  refine lv_iconst (v := (1 : Int32)) C.1 C.2.1 dL_law_261 (by decide) ?_
  refine lv_iadd C.1 C.2.1 dL_law_262 ?_
  refine va_sld (A := xA X) C.1 C.2.1 hX hbl hbA hw.2.2 (law_in hi6 hL 1 (by decide) (by decide)) dL_law_263 ?_
  refine lv_aload_n C.1 C.2.1 dL_law_264 rfl (lv_at hl 0 rfl) ?_
  refine lv_iload_n C.1 C.2.1 dL_law_265 rfl (lv_at hl 3 rfl) ?_
  refine lv_iconst (v := (2 : Int32)) C.1 C.2.1 dL_law_266 (by decide) ?_
  refine lv_iadd C.1 C.2.1 dL_law_267 ?_
  refine va_sld (A := xA X) C.1 C.2.1 hX hbl hbA hw.2.2 (law_in hi6 hL 2 (by decide) (by decide)) dL_law_268 ?_
  refine x_goi hw (x_runV (X := X) (As := [.int (xs (nI i + (1 : Int32)).toNatClampNeg), .int (xs (nI i + (2 : Int32)).toNatClampNeg)]) (rest := [.int r]) (k := 17) (j := 0) C hw (Nat.le_of_ble_eq_true rfl) rfl rfl cV_X10_ofHedge kw_914 (c_X10_ofHedge l X [] (xs (nI i + (1 : Int32)).toNatClampNeg) (xs (nI i + (2 : Int32)).toNatClampNeg) z1 (r, z2) hq2) ⟨(Nat.le_of_ble_eq_true rfl), (Nat.le_of_ble_eq_true rfl)⟩ rfl hl.1 rfl (Nat.le_of_ble_eq_true rfl) dL_law_269 ⟨(show 100 + i + 0 ≤ 600000 by omega), (show 3000 + 2 * i + 0 ≤ 7302250 by omega)⟩) (fun H locs hw => ?_)
  refine lv_icmp_eq (tgt := 1240) C.1 C.2.1 dL_law_272 (by decide) (fun c1 => ?_) (fun c1 => absurd rfl c1)
  refine W.widen (k := 100 + i + 6) (n := 3000 + 2 * i + 12) (by first | exact Nat.le_refl _ | omega | (show 100 + i ≤ 100 + i + 6; omega)) (by first | exact Nat.le_refl _ | omega | (show 3000 + 2 * i ≤ 3000 + 2 * i + 12; omega)) ?_
  exact hN X z2 hB hI2 H locs hw ls hl
set_option maxHeartbeats 4000000 in
set_option maxRecDepth 100000 in
theorem lc_3 {p : Program} {l : Launch} {e : Env} {s : State} {m : MethodId} {below : List Frame} {meth : Method} {c : Code} {b L i : Nat} {xs : Nat → Int32} (C : CallFix p m c cL_law 4 s #[Value.ref b] gtbl RL) (hX : va_X b L xs s s.heap) (hbl : b < s.heap.size) (hL : L ≤ 3072) (hi6 : i + 6 ≤ L) (hN : lw_Nx p l e s m below meth c b i 1240 (100 + i + 6) (3000 + 2 * i + 12)) : lw_Nx p l e s m below meth c b i 277 (100 + i) (3000 + 2 * i) := by
  intro X z hB hI H locs hw ls hl
  have hbA : ¬ xA X b := by unfold xA; rw [hB]; exact Nat.not_le.mpr hbl
  obtain ⟨r, z1, z2, hq1, hq2, hI2⟩ := eq_say z hI (xs (nI i + (1 : Int32)).toNatClampNeg) (xs (nI i + (2 : Int32)).toNatClampNeg) (xs (nI i + (3 : Int32)).toNatClampNeg) (xs (nI i + (4 : Int32)).toNatClampNeg)
  refine lv_aload_n C.1 C.2.1 dL_law_277 rfl (lv_at hl 1 rfl) ?_
  refine lv_aload_n C.1 C.2.1 dL_law_278 rfl (lv_at hl 0 rfl) ?_
  refine lv_iload_n C.1 C.2.1 dL_law_279 rfl (lv_at hl 3 rfl) ?_
  refine lv_iconst (v := (1 : Int32)) C.1 C.2.1 dL_law_280 (by decide) ?_
  refine lv_iadd C.1 C.2.1 dL_law_281 ?_
  refine va_sld (A := xA X) C.1 C.2.1 hX hbl hbA hw.2.2 (law_in hi6 hL 1 (by decide) (by decide)) dL_law_282 ?_
  refine lv_aload_n C.1 C.2.1 dL_law_283 rfl (lv_at hl 0 rfl) ?_
  refine lv_iload_n C.1 C.2.1 dL_law_284 rfl (lv_at hl 3 rfl) ?_
  refine lv_iconst (v := (2 : Int32)) C.1 C.2.1 dL_law_285 (by decide) ?_
  refine lv_iadd C.1 C.2.1 dL_law_286 ?_
  refine va_sld (A := xA X) C.1 C.2.1 hX hbl hbA hw.2.2 (law_in hi6 hL 2 (by decide) (by decide)) dL_law_287 ?_
  refine lv_aload_n C.1 C.2.1 dL_law_288 rfl (lv_at hl 0 rfl) ?_
  refine lv_iload_n C.1 C.2.1 dL_law_289 rfl (lv_at hl 3 rfl) ?_
  refine lv_iconst (v := (3 : Int32)) C.1 C.2.1 dL_law_290 (by decide) ?_
  refine lv_iadd C.1 C.2.1 dL_law_291 ?_
  refine va_sld (A := xA X) C.1 C.2.1 hX hbl hbA hw.2.2 (law_in hi6 hL 3 (by decide) (by decide)) dL_law_292 ?_
  refine lv_aload_n C.1 C.2.1 dL_law_293 rfl (lv_at hl 0 rfl) ?_
  refine lv_iload_n C.1 C.2.1 dL_law_294 rfl (lv_at hl 3 rfl) ?_
  refine lv_iconst (v := (4 : Int32)) C.1 C.2.1 dL_law_295 (by decide) ?_
  refine lv_iadd C.1 C.2.1 dL_law_296 ?_
  refine va_sld (A := xA X) C.1 C.2.1 hX hbl hbA hw.2.2 (law_in hi6 hL 4 (by decide) (by decide)) dL_law_297 ?_
  refine x_goi hw (x_runV (X := X) (As := [.int (xs (nI i + (1 : Int32)).toNatClampNeg), .int (xs (nI i + (2 : Int32)).toNatClampNeg), .int (xs (nI i + (3 : Int32)).toNatClampNeg), .int (xs (nI i + (4 : Int32)).toNatClampNeg)]) (rest := []) (k := 0) (j := 0) C hw (Nat.le_of_ble_eq_true rfl) rfl rfl cV_X9_say kw_920 (c_X9_say l X [] (xs (nI i + (1 : Int32)).toNatClampNeg) (xs (nI i + (2 : Int32)).toNatClampNeg) (xs (nI i + (3 : Int32)).toNatClampNeg) (xs (nI i + (4 : Int32)).toNatClampNeg) z (r, z1) hq1) ⟨(Nat.le_of_ble_eq_true rfl), (Nat.le_of_ble_eq_true rfl)⟩ rfl hl.1 rfl (Nat.le_of_ble_eq_true rfl) dL_law_298 ⟨(show 100 + i + 0 ≤ 600000 by omega), (show 3000 + 2 * i + 0 ≤ 7302250 by omega)⟩) (fun H locs hw => ?_)
  refine lv_aload_n C.1 C.2.1 dL_law_301 rfl (lv_at hl 2 rfl) ?_
  refine lv_aload_n C.1 C.2.1 dL_law_302 rfl (lv_at hl 0 rfl) ?_
  refine lv_iload_n C.1 C.2.1 dL_law_303 rfl (lv_at hl 3 rfl) ?_
  refine lv_iconst (v := (1 : Int32)) C.1 C.2.1 dL_law_304 (by decide) ?_
  refine lv_iadd C.1 C.2.1 dL_law_305 ?_
  refine va_sld (A := xA X) C.1 C.2.1 hX hbl hbA hw.2.2 (law_in hi6 hL 1 (by decide) (by decide)) dL_law_306 ?_
  refine lv_aload_n C.1 C.2.1 dL_law_307 rfl (lv_at hl 0 rfl) ?_
  refine lv_iload_n C.1 C.2.1 dL_law_308 rfl (lv_at hl 3 rfl) ?_
  refine lv_iconst (v := (2 : Int32)) C.1 C.2.1 dL_law_309 (by decide) ?_
  refine lv_iadd C.1 C.2.1 dL_law_310 ?_
  refine va_sld (A := xA X) C.1 C.2.1 hX hbl hbA hw.2.2 (law_in hi6 hL 2 (by decide) (by decide)) dL_law_311 ?_
  refine lv_aload_n C.1 C.2.1 dL_law_312 rfl (lv_at hl 0 rfl) ?_
  refine lv_iload_n C.1 C.2.1 dL_law_313 rfl (lv_at hl 3 rfl) ?_
  refine lv_iconst (v := (3 : Int32)) C.1 C.2.1 dL_law_314 (by decide) ?_
  refine lv_iadd C.1 C.2.1 dL_law_315 ?_
  refine va_sld (A := xA X) C.1 C.2.1 hX hbl hbA hw.2.2 (law_in hi6 hL 3 (by decide) (by decide)) dL_law_316 ?_
  refine lv_aload_n C.1 C.2.1 dL_law_317 rfl (lv_at hl 0 rfl) ?_
  refine lv_iload_n C.1 C.2.1 dL_law_318 rfl (lv_at hl 3 rfl) ?_
  refine lv_iconst (v := (4 : Int32)) C.1 C.2.1 dL_law_319 (by decide) ?_
  refine lv_iadd C.1 C.2.1 dL_law_320 ?_
  refine va_sld (A := xA X) C.1 C.2.1 hX hbl hbA hw.2.2 (law_in hi6 hL 4 (by decide) (by decide)) dL_law_321 ?_
  refine x_goi hw (x_runV (X := X) (As := [.int (xs (nI i + (1 : Int32)).toNatClampNeg), .int (xs (nI i + (2 : Int32)).toNatClampNeg), .int (xs (nI i + (3 : Int32)).toNatClampNeg), .int (xs (nI i + (4 : Int32)).toNatClampNeg)]) (rest := [.int r]) (k := 17) (j := 0) C hw (Nat.le_of_ble_eq_true rfl) rfl rfl cV_X10_say kw_926 (c_X10_say l X [] (xs (nI i + (1 : Int32)).toNatClampNeg) (xs (nI i + (2 : Int32)).toNatClampNeg) (xs (nI i + (3 : Int32)).toNatClampNeg) (xs (nI i + (4 : Int32)).toNatClampNeg) z1 (r, z2) hq2) ⟨(Nat.le_of_ble_eq_true rfl), (Nat.le_of_ble_eq_true rfl)⟩ rfl hl.1 rfl (Nat.le_of_ble_eq_true rfl) dL_law_322 ⟨(show 100 + i + 0 ≤ 600000 by omega), (show 3000 + 2 * i + 0 ≤ 7302250 by omega)⟩) (fun H locs hw => ?_)
  refine lv_icmp_eq (tgt := 1240) C.1 C.2.1 dL_law_325 (by decide) (fun c1 => ?_) (fun c1 => absurd rfl c1)
  refine W.widen (k := 100 + i + 6) (n := 3000 + 2 * i + 12) (by first | exact Nat.le_refl _ | omega | (show 100 + i ≤ 100 + i + 6; omega)) (by first | exact Nat.le_refl _ | omega | (show 3000 + 2 * i ≤ 3000 + 2 * i + 12; omega)) ?_
  exact hN X z2 hB hI2 H locs hw ls hl
set_option maxHeartbeats 4000000 in
set_option maxRecDepth 100000 in
theorem lc_4 {p : Program} {l : Launch} {e : Env} {s : State} {m : MethodId} {below : List Frame} {meth : Method} {c : Code} {b L i : Nat} {xs : Nat → Int32} (C : CallFix p m c cL_law 4 s #[Value.ref b] gtbl RL) (hX : va_X b L xs s s.heap) (hbl : b < s.heap.size) (hL : L ≤ 3072) (hi6 : i + 6 ≤ L) (hN : lw_Nx p l e s m below meth c b i 1240 (100 + i + 6) (3000 + 2 * i + 12)) : lw_Nx p l e s m below meth c b i 330 (100 + i) (3000 + 2 * i) := by
  intro X z hB hI H locs hw ls hl
  have hbA : ¬ xA X b := by unfold xA; rw [hB]; exact Nat.not_le.mpr hbl
  obtain ⟨r, z1, z2, hq1, hq2, hI2⟩ := eq_clip z hI (xs (nI i + (1 : Int32)).toNatClampNeg) (xs (nI i + (2 : Int32)).toNatClampNeg) (xs (nI i + (3 : Int32)).toNatClampNeg)
  refine lv_aload_n C.1 C.2.1 dL_law_330 rfl (lv_at hl 1 rfl) ?_
  refine lv_aload_n C.1 C.2.1 dL_law_331 rfl (lv_at hl 0 rfl) ?_
  refine lv_iload_n C.1 C.2.1 dL_law_332 rfl (lv_at hl 3 rfl) ?_
  refine lv_iconst (v := (1 : Int32)) C.1 C.2.1 dL_law_333 (by decide) ?_
  refine lv_iadd C.1 C.2.1 dL_law_334 ?_
  refine va_sld (A := xA X) C.1 C.2.1 hX hbl hbA hw.2.2 (law_in hi6 hL 1 (by decide) (by decide)) dL_law_335 ?_
  refine lv_aload_n C.1 C.2.1 dL_law_336 rfl (lv_at hl 0 rfl) ?_
  refine lv_iload_n C.1 C.2.1 dL_law_337 rfl (lv_at hl 3 rfl) ?_
  refine lv_iconst (v := (2 : Int32)) C.1 C.2.1 dL_law_338 (by decide) ?_
  refine lv_iadd C.1 C.2.1 dL_law_339 ?_
  refine va_sld (A := xA X) C.1 C.2.1 hX hbl hbA hw.2.2 (law_in hi6 hL 2 (by decide) (by decide)) dL_law_340 ?_
  refine lv_aload_n C.1 C.2.1 dL_law_341 rfl (lv_at hl 0 rfl) ?_
  refine lv_iload_n C.1 C.2.1 dL_law_342 rfl (lv_at hl 3 rfl) ?_
  refine lv_iconst (v := (3 : Int32)) C.1 C.2.1 dL_law_343 (by decide) ?_
  refine lv_iadd C.1 C.2.1 dL_law_344 ?_
  refine va_sld (A := xA X) C.1 C.2.1 hX hbl hbA hw.2.2 (law_in hi6 hL 3 (by decide) (by decide)) dL_law_345 ?_
  refine x_goi hw (x_runV (X := X) (As := [.int (xs (nI i + (1 : Int32)).toNatClampNeg), .int (xs (nI i + (2 : Int32)).toNatClampNeg), .int (xs (nI i + (3 : Int32)).toNatClampNeg)]) (rest := []) (k := 0) (j := 0) C hw (Nat.le_of_ble_eq_true rfl) rfl rfl cV_X9_clip kw_932 (c_X9_clip l X [] (xs (nI i + (1 : Int32)).toNatClampNeg) (xs (nI i + (2 : Int32)).toNatClampNeg) (xs (nI i + (3 : Int32)).toNatClampNeg) z (r, z1) hq1) ⟨(Nat.le_of_ble_eq_true rfl), (Nat.le_of_ble_eq_true rfl)⟩ rfl hl.1 rfl (Nat.le_of_ble_eq_true rfl) dL_law_346 ⟨(show 100 + i + 0 ≤ 600000 by omega), (show 3000 + 2 * i + 0 ≤ 7302250 by omega)⟩) (fun H locs hw => ?_)
  refine lv_aload_n C.1 C.2.1 dL_law_349 rfl (lv_at hl 2 rfl) ?_
  refine lv_aload_n C.1 C.2.1 dL_law_350 rfl (lv_at hl 0 rfl) ?_
  refine lv_iload_n C.1 C.2.1 dL_law_351 rfl (lv_at hl 3 rfl) ?_
  refine lv_iconst (v := (1 : Int32)) C.1 C.2.1 dL_law_352 (by decide) ?_
  refine lv_iadd C.1 C.2.1 dL_law_353 ?_
  refine va_sld (A := xA X) C.1 C.2.1 hX hbl hbA hw.2.2 (law_in hi6 hL 1 (by decide) (by decide)) dL_law_354 ?_
  refine lv_aload_n C.1 C.2.1 dL_law_355 rfl (lv_at hl 0 rfl) ?_
  refine lv_iload_n C.1 C.2.1 dL_law_356 rfl (lv_at hl 3 rfl) ?_
  refine lv_iconst (v := (2 : Int32)) C.1 C.2.1 dL_law_357 (by decide) ?_
  refine lv_iadd C.1 C.2.1 dL_law_358 ?_
  refine va_sld (A := xA X) C.1 C.2.1 hX hbl hbA hw.2.2 (law_in hi6 hL 2 (by decide) (by decide)) dL_law_359 ?_
  refine lv_aload_n C.1 C.2.1 dL_law_360 rfl (lv_at hl 0 rfl) ?_
  refine lv_iload_n C.1 C.2.1 dL_law_361 rfl (lv_at hl 3 rfl) ?_
  refine lv_iconst (v := (3 : Int32)) C.1 C.2.1 dL_law_362 (by decide) ?_
  refine lv_iadd C.1 C.2.1 dL_law_363 ?_
  refine va_sld (A := xA X) C.1 C.2.1 hX hbl hbA hw.2.2 (law_in hi6 hL 3 (by decide) (by decide)) dL_law_364 ?_
  refine x_goi hw (x_runV (X := X) (As := [.int (xs (nI i + (1 : Int32)).toNatClampNeg), .int (xs (nI i + (2 : Int32)).toNatClampNeg), .int (xs (nI i + (3 : Int32)).toNatClampNeg)]) (rest := [.int r]) (k := 17) (j := 0) C hw (Nat.le_of_ble_eq_true rfl) rfl rfl cV_X10_clip kw_938 (c_X10_clip l X [] (xs (nI i + (1 : Int32)).toNatClampNeg) (xs (nI i + (2 : Int32)).toNatClampNeg) (xs (nI i + (3 : Int32)).toNatClampNeg) z1 (r, z2) hq2) ⟨(Nat.le_of_ble_eq_true rfl), (Nat.le_of_ble_eq_true rfl)⟩ rfl hl.1 rfl (Nat.le_of_ble_eq_true rfl) dL_law_365 ⟨(show 100 + i + 0 ≤ 600000 by omega), (show 3000 + 2 * i + 0 ≤ 7302250 by omega)⟩) (fun H locs hw => ?_)
  refine lv_icmp_eq (tgt := 1240) C.1 C.2.1 dL_law_368 (by decide) (fun c1 => ?_) (fun c1 => absurd rfl c1)
  refine W.widen (k := 100 + i + 6) (n := 3000 + 2 * i + 12) (by first | exact Nat.le_refl _ | omega | (show 100 + i ≤ 100 + i + 6; omega)) (by first | exact Nat.le_refl _ | omega | (show 3000 + 2 * i ≤ 3000 + 2 * i + 12; omega)) ?_
  exact hN X z2 hB hI2 H locs hw ls hl
set_option maxHeartbeats 4000000 in
set_option maxRecDepth 100000 in
theorem lc_5 {p : Program} {l : Launch} {e : Env} {s : State} {m : MethodId} {below : List Frame} {meth : Method} {c : Code} {b L i : Nat} {xs : Nat → Int32} (C : CallFix p m c cL_law 4 s #[Value.ref b] gtbl RL) (hX : va_X b L xs s s.heap) (hbl : b < s.heap.size) (hL : L ≤ 3072) (hi6 : i + 6 ≤ L) (hN : lw_Nx p l e s m below meth c b i 1240 (100 + i + 6) (3000 + 2 * i + 12)) : lw_Nx p l e s m below meth c b i 373 (100 + i) (3000 + 2 * i) := by
  intro X z hB hI H locs hw ls hl
  have hbA : ¬ xA X b := by unfold xA; rw [hB]; exact Nat.not_le.mpr hbl
  obtain ⟨r, z1, z2, hq1, hq2, hI2⟩ := eq_face z hI (xs (nI i + (1 : Int32)).toNatClampNeg) (xs (nI i + (2 : Int32)).toNatClampNeg) (xs (nI i + (3 : Int32)).toNatClampNeg)
  refine lv_aload_n C.1 C.2.1 dL_law_373 rfl (lv_at hl 1 rfl) ?_
  refine lv_aload_n C.1 C.2.1 dL_law_374 rfl (lv_at hl 0 rfl) ?_
  refine lv_iload_n C.1 C.2.1 dL_law_375 rfl (lv_at hl 3 rfl) ?_
  refine lv_iconst (v := (1 : Int32)) C.1 C.2.1 dL_law_376 (by decide) ?_
  refine lv_iadd C.1 C.2.1 dL_law_377 ?_
  refine va_sld (A := xA X) C.1 C.2.1 hX hbl hbA hw.2.2 (law_in hi6 hL 1 (by decide) (by decide)) dL_law_378 ?_
  refine lv_aload_n C.1 C.2.1 dL_law_379 rfl (lv_at hl 0 rfl) ?_
  refine lv_iload_n C.1 C.2.1 dL_law_380 rfl (lv_at hl 3 rfl) ?_
  refine lv_iconst (v := (2 : Int32)) C.1 C.2.1 dL_law_381 (by decide) ?_
  refine lv_iadd C.1 C.2.1 dL_law_382 ?_
  refine va_sld (A := xA X) C.1 C.2.1 hX hbl hbA hw.2.2 (law_in hi6 hL 2 (by decide) (by decide)) dL_law_383 ?_
  refine lv_aload_n C.1 C.2.1 dL_law_384 rfl (lv_at hl 0 rfl) ?_
  refine lv_iload_n C.1 C.2.1 dL_law_385 rfl (lv_at hl 3 rfl) ?_
  refine lv_iconst (v := (3 : Int32)) C.1 C.2.1 dL_law_386 (by decide) ?_
  refine lv_iadd C.1 C.2.1 dL_law_387 ?_
  refine va_sld (A := xA X) C.1 C.2.1 hX hbl hbA hw.2.2 (law_in hi6 hL 3 (by decide) (by decide)) dL_law_388 ?_
  refine x_goi hw (x_runV (X := X) (As := [.int (xs (nI i + (1 : Int32)).toNatClampNeg), .int (xs (nI i + (2 : Int32)).toNatClampNeg), .int (xs (nI i + (3 : Int32)).toNatClampNeg)]) (rest := []) (k := 0) (j := 0) C hw (Nat.le_of_ble_eq_true rfl) rfl rfl cV_X9_face kw_944 (c_X9_face l X [] (xs (nI i + (1 : Int32)).toNatClampNeg) (xs (nI i + (2 : Int32)).toNatClampNeg) (xs (nI i + (3 : Int32)).toNatClampNeg) z (r, z1) hq1) ⟨(Nat.le_of_ble_eq_true rfl), (Nat.le_of_ble_eq_true rfl)⟩ rfl hl.1 rfl (Nat.le_of_ble_eq_true rfl) dL_law_389 ⟨(show 100 + i + 0 ≤ 600000 by omega), (show 3000 + 2 * i + 0 ≤ 7302250 by omega)⟩) (fun H locs hw => ?_)
  refine lv_aload_n C.1 C.2.1 dL_law_392 rfl (lv_at hl 2 rfl) ?_
  refine lv_aload_n C.1 C.2.1 dL_law_393 rfl (lv_at hl 0 rfl) ?_
  refine lv_iload_n C.1 C.2.1 dL_law_394 rfl (lv_at hl 3 rfl) ?_
  refine lv_iconst (v := (1 : Int32)) C.1 C.2.1 dL_law_395 (by decide) ?_
  refine lv_iadd C.1 C.2.1 dL_law_396 ?_
  refine va_sld (A := xA X) C.1 C.2.1 hX hbl hbA hw.2.2 (law_in hi6 hL 1 (by decide) (by decide)) dL_law_397 ?_
  refine lv_aload_n C.1 C.2.1 dL_law_398 rfl (lv_at hl 0 rfl) ?_
  refine lv_iload_n C.1 C.2.1 dL_law_399 rfl (lv_at hl 3 rfl) ?_
  refine lv_iconst (v := (2 : Int32)) C.1 C.2.1 dL_law_400 (by decide) ?_
  refine lv_iadd C.1 C.2.1 dL_law_401 ?_
  refine va_sld (A := xA X) C.1 C.2.1 hX hbl hbA hw.2.2 (law_in hi6 hL 2 (by decide) (by decide)) dL_law_402 ?_
  refine lv_aload_n C.1 C.2.1 dL_law_403 rfl (lv_at hl 0 rfl) ?_
  refine lv_iload_n C.1 C.2.1 dL_law_404 rfl (lv_at hl 3 rfl) ?_
  refine lv_iconst (v := (3 : Int32)) C.1 C.2.1 dL_law_405 (by decide) ?_
  refine lv_iadd C.1 C.2.1 dL_law_406 ?_
  refine va_sld (A := xA X) C.1 C.2.1 hX hbl hbA hw.2.2 (law_in hi6 hL 3 (by decide) (by decide)) dL_law_407 ?_
  refine x_goi hw (x_runV (X := X) (As := [.int (xs (nI i + (1 : Int32)).toNatClampNeg), .int (xs (nI i + (2 : Int32)).toNatClampNeg), .int (xs (nI i + (3 : Int32)).toNatClampNeg)]) (rest := [.int r]) (k := 17) (j := 0) C hw (Nat.le_of_ble_eq_true rfl) rfl rfl cV_X10_face kw_950 (c_X10_face l X [] (xs (nI i + (1 : Int32)).toNatClampNeg) (xs (nI i + (2 : Int32)).toNatClampNeg) (xs (nI i + (3 : Int32)).toNatClampNeg) z1 (r, z2) hq2) ⟨(Nat.le_of_ble_eq_true rfl), (Nat.le_of_ble_eq_true rfl)⟩ rfl hl.1 rfl (Nat.le_of_ble_eq_true rfl) dL_law_408 ⟨(show 100 + i + 0 ≤ 600000 by omega), (show 3000 + 2 * i + 0 ≤ 7302250 by omega)⟩) (fun H locs hw => ?_)
  refine lv_icmp_eq (tgt := 1240) C.1 C.2.1 dL_law_411 (by decide) (fun c1 => ?_) (fun c1 => absurd rfl c1)
  refine W.widen (k := 100 + i + 6) (n := 3000 + 2 * i + 12) (by first | exact Nat.le_refl _ | omega | (show 100 + i ≤ 100 + i + 6; omega)) (by first | exact Nat.le_refl _ | omega | (show 3000 + 2 * i ≤ 3000 + 2 * i + 12; omega)) ?_
  exact hN X z2 hB hI2 H locs hw ls hl
set_option maxHeartbeats 4000000 in
set_option maxRecDepth 100000 in
theorem lc_6 {p : Program} {l : Launch} {e : Env} {s : State} {m : MethodId} {below : List Frame} {meth : Method} {c : Code} {b L i : Nat} {xs : Nat → Int32} (C : CallFix p m c cL_law 4 s #[Value.ref b] gtbl RL) (hX : va_X b L xs s s.heap) (hbl : b < s.heap.size) (hL : L ≤ 3072) (hi6 : i + 6 ≤ L) (hN : lw_Nx p l e s m below meth c b i 1240 (100 + i + 6) (3000 + 2 * i + 12)) : lw_Nx p l e s m below meth c b i 416 (100 + i) (3000 + 2 * i) := by
  intro X z hB hI H locs hw ls hl
  have hbA : ¬ xA X b := by unfold xA; rw [hB]; exact Nat.not_le.mpr hbl
  obtain ⟨r, z1, z2, hq1, hq2, hI2⟩ := eq_height z hI (xs (nI i + (1 : Int32)).toNatClampNeg) (xs (nI i + (2 : Int32)).toNatClampNeg) (xs (nI i + (3 : Int32)).toNatClampNeg)
  refine lv_aload_n C.1 C.2.1 dL_law_416 rfl (lv_at hl 1 rfl) ?_
  refine lv_aload_n C.1 C.2.1 dL_law_417 rfl (lv_at hl 0 rfl) ?_
  refine lv_iload_n C.1 C.2.1 dL_law_418 rfl (lv_at hl 3 rfl) ?_
  refine lv_iconst (v := (1 : Int32)) C.1 C.2.1 dL_law_419 (by decide) ?_
  refine lv_iadd C.1 C.2.1 dL_law_420 ?_
  refine va_sld (A := xA X) C.1 C.2.1 hX hbl hbA hw.2.2 (law_in hi6 hL 1 (by decide) (by decide)) dL_law_421 ?_
  refine lv_aload_n C.1 C.2.1 dL_law_422 rfl (lv_at hl 0 rfl) ?_
  refine lv_iload_n C.1 C.2.1 dL_law_423 rfl (lv_at hl 3 rfl) ?_
  refine lv_iconst (v := (2 : Int32)) C.1 C.2.1 dL_law_424 (by decide) ?_
  refine lv_iadd C.1 C.2.1 dL_law_425 ?_
  refine va_sld (A := xA X) C.1 C.2.1 hX hbl hbA hw.2.2 (law_in hi6 hL 2 (by decide) (by decide)) dL_law_426 ?_
  refine lv_aload_n C.1 C.2.1 dL_law_427 rfl (lv_at hl 0 rfl) ?_
  refine lv_iload_n C.1 C.2.1 dL_law_428 rfl (lv_at hl 3 rfl) ?_
  refine lv_iconst (v := (3 : Int32)) C.1 C.2.1 dL_law_429 (by decide) ?_
  refine lv_iadd C.1 C.2.1 dL_law_430 ?_
  refine va_sld (A := xA X) C.1 C.2.1 hX hbl hbA hw.2.2 (law_in hi6 hL 3 (by decide) (by decide)) dL_law_431 ?_
  refine x_goi hw (x_runV (X := X) (As := [.int (xs (nI i + (1 : Int32)).toNatClampNeg), .int (xs (nI i + (2 : Int32)).toNatClampNeg), .int (xs (nI i + (3 : Int32)).toNatClampNeg)]) (rest := []) (k := 0) (j := 0) C hw (Nat.le_of_ble_eq_true rfl) rfl rfl cV_X9_height kw_956 (c_X9_height l X [] (xs (nI i + (1 : Int32)).toNatClampNeg) (xs (nI i + (2 : Int32)).toNatClampNeg) (xs (nI i + (3 : Int32)).toNatClampNeg) z (r, z1) hq1) ⟨(Nat.le_of_ble_eq_true rfl), (Nat.le_of_ble_eq_true rfl)⟩ rfl hl.1 rfl (Nat.le_of_ble_eq_true rfl) dL_law_432 ⟨(show 100 + i + 0 ≤ 600000 by omega), (show 3000 + 2 * i + 0 ≤ 7302250 by omega)⟩) (fun H locs hw => ?_)
  refine lv_aload_n C.1 C.2.1 dL_law_435 rfl (lv_at hl 2 rfl) ?_
  refine lv_aload_n C.1 C.2.1 dL_law_436 rfl (lv_at hl 0 rfl) ?_
  refine lv_iload_n C.1 C.2.1 dL_law_437 rfl (lv_at hl 3 rfl) ?_
  refine lv_iconst (v := (1 : Int32)) C.1 C.2.1 dL_law_438 (by decide) ?_
  refine lv_iadd C.1 C.2.1 dL_law_439 ?_
  refine va_sld (A := xA X) C.1 C.2.1 hX hbl hbA hw.2.2 (law_in hi6 hL 1 (by decide) (by decide)) dL_law_440 ?_
  refine lv_aload_n C.1 C.2.1 dL_law_441 rfl (lv_at hl 0 rfl) ?_
  refine lv_iload_n C.1 C.2.1 dL_law_442 rfl (lv_at hl 3 rfl) ?_
  refine lv_iconst (v := (2 : Int32)) C.1 C.2.1 dL_law_443 (by decide) ?_
  refine lv_iadd C.1 C.2.1 dL_law_444 ?_
  refine va_sld (A := xA X) C.1 C.2.1 hX hbl hbA hw.2.2 (law_in hi6 hL 2 (by decide) (by decide)) dL_law_445 ?_
  refine lv_aload_n C.1 C.2.1 dL_law_446 rfl (lv_at hl 0 rfl) ?_
  refine lv_iload_n C.1 C.2.1 dL_law_447 rfl (lv_at hl 3 rfl) ?_
  refine lv_iconst (v := (3 : Int32)) C.1 C.2.1 dL_law_448 (by decide) ?_
  refine lv_iadd C.1 C.2.1 dL_law_449 ?_
  refine va_sld (A := xA X) C.1 C.2.1 hX hbl hbA hw.2.2 (law_in hi6 hL 3 (by decide) (by decide)) dL_law_450 ?_
  refine x_goi hw (x_runV (X := X) (As := [.int (xs (nI i + (1 : Int32)).toNatClampNeg), .int (xs (nI i + (2 : Int32)).toNatClampNeg), .int (xs (nI i + (3 : Int32)).toNatClampNeg)]) (rest := [.int r]) (k := 17) (j := 0) C hw (Nat.le_of_ble_eq_true rfl) rfl rfl cV_X10_height kw_962 (c_X10_height l X [] (xs (nI i + (1 : Int32)).toNatClampNeg) (xs (nI i + (2 : Int32)).toNatClampNeg) (xs (nI i + (3 : Int32)).toNatClampNeg) z1 (r, z2) hq2) ⟨(Nat.le_of_ble_eq_true rfl), (Nat.le_of_ble_eq_true rfl)⟩ rfl hl.1 rfl (Nat.le_of_ble_eq_true rfl) dL_law_451 ⟨(show 100 + i + 0 ≤ 600000 by omega), (show 3000 + 2 * i + 0 ≤ 7302250 by omega)⟩) (fun H locs hw => ?_)
  refine lv_icmp_eq (tgt := 1240) C.1 C.2.1 dL_law_454 (by decide) (fun c1 => ?_) (fun c1 => absurd rfl c1)
  refine W.widen (k := 100 + i + 6) (n := 3000 + 2 * i + 12) (by first | exact Nat.le_refl _ | omega | (show 100 + i ≤ 100 + i + 6; omega)) (by first | exact Nat.le_refl _ | omega | (show 3000 + 2 * i ≤ 3000 + 2 * i + 12; omega)) ?_
  exact hN X z2 hB hI2 H locs hw ls hl
set_option maxHeartbeats 4000000 in
set_option maxRecDepth 100000 in
theorem lc_7 {p : Program} {l : Launch} {e : Env} {s : State} {m : MethodId} {below : List Frame} {meth : Method} {c : Code} {b L i : Nat} {xs : Nat → Int32} (C : CallFix p m c cL_law 4 s #[Value.ref b] gtbl RL) (hX : va_X b L xs s s.heap) (hbl : b < s.heap.size) (hL : L ≤ 3072) (hi6 : i + 6 ≤ L) (hN : lw_Nx p l e s m below meth c b i 1240 (100 + i + 6) (3000 + 2 * i + 12)) : lw_Nx p l e s m below meth c b i 459 (100 + i) (3000 + 2 * i) := by
  intro X z hB hI H locs hw ls hl
  have hbA : ¬ xA X b := by unfold xA; rw [hB]; exact Nat.not_le.mpr hbl
  obtain ⟨r, z1, z2, hq1, hq2, hI2⟩ := eq_light z hI (xs (nI i + (1 : Int32)).toNatClampNeg) (xs (nI i + (2 : Int32)).toNatClampNeg)
  refine lv_aload_n C.1 C.2.1 dL_law_459 rfl (lv_at hl 1 rfl) ?_
  refine lv_aload_n C.1 C.2.1 dL_law_460 rfl (lv_at hl 0 rfl) ?_
  refine lv_iload_n C.1 C.2.1 dL_law_461 rfl (lv_at hl 3 rfl) ?_
  refine lv_iconst (v := (1 : Int32)) C.1 C.2.1 dL_law_462 (by decide) ?_
  refine lv_iadd C.1 C.2.1 dL_law_463 ?_
  refine va_sld (A := xA X) C.1 C.2.1 hX hbl hbA hw.2.2 (law_in hi6 hL 1 (by decide) (by decide)) dL_law_464 ?_
  refine lv_aload_n C.1 C.2.1 dL_law_465 rfl (lv_at hl 0 rfl) ?_
  refine lv_iload_n C.1 C.2.1 dL_law_466 rfl (lv_at hl 3 rfl) ?_
  refine lv_iconst (v := (2 : Int32)) C.1 C.2.1 dL_law_467 (by decide) ?_
  refine lv_iadd C.1 C.2.1 dL_law_468 ?_
  refine va_sld (A := xA X) C.1 C.2.1 hX hbl hbA hw.2.2 (law_in hi6 hL 2 (by decide) (by decide)) dL_law_469 ?_
  refine x_goi hw (x_runV (X := X) (As := [.int (xs (nI i + (1 : Int32)).toNatClampNeg), .int (xs (nI i + (2 : Int32)).toNatClampNeg)]) (rest := []) (k := 0) (j := 0) C hw (Nat.le_of_ble_eq_true rfl) rfl rfl cV_X9_light kw_968 (c_X9_light l X [] (xs (nI i + (1 : Int32)).toNatClampNeg) (xs (nI i + (2 : Int32)).toNatClampNeg) z (r, z1) hq1) ⟨(Nat.le_of_ble_eq_true rfl), (Nat.le_of_ble_eq_true rfl)⟩ rfl hl.1 rfl (Nat.le_of_ble_eq_true rfl) dL_law_470 ⟨(show 100 + i + 0 ≤ 600000 by omega), (show 3000 + 2 * i + 0 ≤ 7302250 by omega)⟩) (fun H locs hw => ?_)
  refine lv_aload_n C.1 C.2.1 dL_law_473 rfl (lv_at hl 2 rfl) ?_
  refine lv_aload_n C.1 C.2.1 dL_law_474 rfl (lv_at hl 0 rfl) ?_
  refine lv_iload_n C.1 C.2.1 dL_law_475 rfl (lv_at hl 3 rfl) ?_
  refine lv_iconst (v := (1 : Int32)) C.1 C.2.1 dL_law_476 (by decide) ?_
  refine lv_iadd C.1 C.2.1 dL_law_477 ?_
  refine va_sld (A := xA X) C.1 C.2.1 hX hbl hbA hw.2.2 (law_in hi6 hL 1 (by decide) (by decide)) dL_law_478 ?_
  refine lv_aload_n C.1 C.2.1 dL_law_479 rfl (lv_at hl 0 rfl) ?_
  refine lv_iload_n C.1 C.2.1 dL_law_480 rfl (lv_at hl 3 rfl) ?_
  refine lv_iconst (v := (2 : Int32)) C.1 C.2.1 dL_law_481 (by decide) ?_
  refine lv_iadd C.1 C.2.1 dL_law_482 ?_
  refine va_sld (A := xA X) C.1 C.2.1 hX hbl hbA hw.2.2 (law_in hi6 hL 2 (by decide) (by decide)) dL_law_483 ?_
  refine x_goi hw (x_runV (X := X) (As := [.int (xs (nI i + (1 : Int32)).toNatClampNeg), .int (xs (nI i + (2 : Int32)).toNatClampNeg)]) (rest := [.int r]) (k := 17) (j := 0) C hw (Nat.le_of_ble_eq_true rfl) rfl rfl cV_X10_light kw_974 (c_X10_light l X [] (xs (nI i + (1 : Int32)).toNatClampNeg) (xs (nI i + (2 : Int32)).toNatClampNeg) z1 (r, z2) hq2) ⟨(Nat.le_of_ble_eq_true rfl), (Nat.le_of_ble_eq_true rfl)⟩ rfl hl.1 rfl (Nat.le_of_ble_eq_true rfl) dL_law_484 ⟨(show 100 + i + 0 ≤ 600000 by omega), (show 3000 + 2 * i + 0 ≤ 7302250 by omega)⟩) (fun H locs hw => ?_)
  refine lv_icmp_eq (tgt := 1240) C.1 C.2.1 dL_law_487 (by decide) (fun c1 => ?_) (fun c1 => absurd rfl c1)
  refine W.widen (k := 100 + i + 6) (n := 3000 + 2 * i + 12) (by first | exact Nat.le_refl _ | omega | (show 100 + i ≤ 100 + i + 6; omega)) (by first | exact Nat.le_refl _ | omega | (show 3000 + 2 * i ≤ 3000 + 2 * i + 12; omega)) ?_
  exact hN X z2 hB hI2 H locs hw ls hl
set_option maxHeartbeats 4000000 in
set_option maxRecDepth 100000 in
theorem lc_8 {p : Program} {l : Launch} {e : Env} {s : State} {m : MethodId} {below : List Frame} {meth : Method} {c : Code} {b L i : Nat} {xs : Nat → Int32} (C : CallFix p m c cL_law 4 s #[Value.ref b] gtbl RL) (hX : va_X b L xs s s.heap) (hbl : b < s.heap.size) (hL : L ≤ 3072) (hi6 : i + 6 ≤ L) (hN : lw_Nx p l e s m below meth c b i 1240 (100 + i + 6) (3000 + 2 * i + 12)) : lw_Nx p l e s m below meth c b i 492 (100 + i) (3000 + 2 * i) := by
  intro X z hB hI H locs hw ls hl
  have hbA : ¬ xA X b := by unfold xA; rw [hB]; exact Nat.not_le.mpr hbl
  obtain ⟨r, z1, z2, hq1, hq2, hI2⟩ := eq_goats z hI (xs (nI i + (1 : Int32)).toNatClampNeg)
  refine lv_aload_n C.1 C.2.1 dL_law_492 rfl (lv_at hl 1 rfl) ?_
  refine lv_aload_n C.1 C.2.1 dL_law_493 rfl (lv_at hl 0 rfl) ?_
  refine lv_iload_n C.1 C.2.1 dL_law_494 rfl (lv_at hl 3 rfl) ?_
  refine lv_iconst (v := (1 : Int32)) C.1 C.2.1 dL_law_495 (by decide) ?_
  refine lv_iadd C.1 C.2.1 dL_law_496 ?_
  refine va_sld (A := xA X) C.1 C.2.1 hX hbl hbA hw.2.2 (law_in hi6 hL 1 (by decide) (by decide)) dL_law_497 ?_
  refine x_goi hw (x_runV (X := X) (As := [.int (xs (nI i + (1 : Int32)).toNatClampNeg)]) (rest := []) (k := 0) (j := 0) C hw (Nat.le_of_ble_eq_true rfl) rfl rfl cV_X9_goats kw_980 (c_X9_goats l X [] (xs (nI i + (1 : Int32)).toNatClampNeg) z (r, z1) hq1) ⟨(Nat.le_of_ble_eq_true rfl), (Nat.le_of_ble_eq_true rfl)⟩ rfl hl.1 rfl (Nat.le_of_ble_eq_true rfl) dL_law_498 ⟨(show 100 + i + 0 ≤ 600000 by omega), (show 3000 + 2 * i + 0 ≤ 7302250 by omega)⟩) (fun H locs hw => ?_)
  refine lv_aload_n C.1 C.2.1 dL_law_501 rfl (lv_at hl 2 rfl) ?_
  refine lv_aload_n C.1 C.2.1 dL_law_502 rfl (lv_at hl 0 rfl) ?_
  refine lv_iload_n C.1 C.2.1 dL_law_503 rfl (lv_at hl 3 rfl) ?_
  refine lv_iconst (v := (1 : Int32)) C.1 C.2.1 dL_law_504 (by decide) ?_
  refine lv_iadd C.1 C.2.1 dL_law_505 ?_
  refine va_sld (A := xA X) C.1 C.2.1 hX hbl hbA hw.2.2 (law_in hi6 hL 1 (by decide) (by decide)) dL_law_506 ?_
  refine x_goi hw (x_runV (X := X) (As := [.int (xs (nI i + (1 : Int32)).toNatClampNeg)]) (rest := [.int r]) (k := 17) (j := 0) C hw (Nat.le_of_ble_eq_true rfl) rfl rfl cV_X10_goats kw_986 (c_X10_goats l X [] (xs (nI i + (1 : Int32)).toNatClampNeg) z1 (r, z2) hq2) ⟨(Nat.le_of_ble_eq_true rfl), (Nat.le_of_ble_eq_true rfl)⟩ rfl hl.1 rfl (Nat.le_of_ble_eq_true rfl) dL_law_507 ⟨(show 100 + i + 0 ≤ 600000 by omega), (show 3000 + 2 * i + 0 ≤ 7302250 by omega)⟩) (fun H locs hw => ?_)
  refine lv_icmp_eq (tgt := 1240) C.1 C.2.1 dL_law_510 (by decide) (fun c1 => ?_) (fun c1 => absurd rfl c1)
  refine W.widen (k := 100 + i + 6) (n := 3000 + 2 * i + 12) (by first | exact Nat.le_refl _ | omega | (show 100 + i ≤ 100 + i + 6; omega)) (by first | exact Nat.le_refl _ | omega | (show 3000 + 2 * i ≤ 3000 + 2 * i + 12; omega)) ?_
  exact hN X z2 hB hI2 H locs hw ls hl
set_option maxHeartbeats 4000000 in
set_option maxRecDepth 100000 in
theorem lc_9 {p : Program} {l : Launch} {e : Env} {s : State} {m : MethodId} {below : List Frame} {meth : Method} {c : Code} {b L i : Nat} {xs : Nat → Int32} (C : CallFix p m c cL_law 4 s #[Value.ref b] gtbl RL) (hX : va_X b L xs s s.heap) (hbl : b < s.heap.size) (hL : L ≤ 3072) (hi6 : i + 6 ≤ L) (hN : lw_Nx p l e s m below meth c b i 1240 (100 + i + 6) (3000 + 2 * i + 12)) : lw_Nx p l e s m below meth c b i 515 (100 + i) (3000 + 2 * i) := by
  intro X z hB hI H locs hw ls hl
  have hbA : ¬ xA X b := by unfold xA; rw [hB]; exact Nat.not_le.mpr hbl
  obtain ⟨r, z1, z2, hq1, hq2, hI2⟩ := eq_off z hI (xs (nI i + (1 : Int32)).toNatClampNeg) (xs (nI i + (2 : Int32)).toNatClampNeg)
  refine lv_aload_n C.1 C.2.1 dL_law_515 rfl (lv_at hl 1 rfl) ?_
  refine lv_aload_n C.1 C.2.1 dL_law_516 rfl (lv_at hl 0 rfl) ?_
  refine lv_iload_n C.1 C.2.1 dL_law_517 rfl (lv_at hl 3 rfl) ?_
  refine lv_iconst (v := (1 : Int32)) C.1 C.2.1 dL_law_518 (by decide) ?_
  refine lv_iadd C.1 C.2.1 dL_law_519 ?_
  refine va_sld (A := xA X) C.1 C.2.1 hX hbl hbA hw.2.2 (law_in hi6 hL 1 (by decide) (by decide)) dL_law_520 ?_
  refine lv_aload_n C.1 C.2.1 dL_law_521 rfl (lv_at hl 0 rfl) ?_
  refine lv_iload_n C.1 C.2.1 dL_law_522 rfl (lv_at hl 3 rfl) ?_
  refine lv_iconst (v := (2 : Int32)) C.1 C.2.1 dL_law_523 (by decide) ?_
  refine lv_iadd C.1 C.2.1 dL_law_524 ?_
  refine va_sld (A := xA X) C.1 C.2.1 hX hbl hbA hw.2.2 (law_in hi6 hL 2 (by decide) (by decide)) dL_law_525 ?_
  refine x_goi hw (x_runV (X := X) (As := [.int (xs (nI i + (1 : Int32)).toNatClampNeg), .int (xs (nI i + (2 : Int32)).toNatClampNeg)]) (rest := []) (k := 0) (j := 0) C hw (Nat.le_of_ble_eq_true rfl) rfl rfl cV_X9_off kw_992 (c_X9_off l X [] (xs (nI i + (1 : Int32)).toNatClampNeg) (xs (nI i + (2 : Int32)).toNatClampNeg) z (r, z1) hq1) ⟨(Nat.le_of_ble_eq_true rfl), (Nat.le_of_ble_eq_true rfl)⟩ rfl hl.1 rfl (Nat.le_of_ble_eq_true rfl) dL_law_526 ⟨(show 100 + i + 0 ≤ 600000 by omega), (show 3000 + 2 * i + 0 ≤ 7302250 by omega)⟩) (fun H locs hw => ?_)
  refine lv_aload_n C.1 C.2.1 dL_law_529 rfl (lv_at hl 2 rfl) ?_
  refine lv_aload_n C.1 C.2.1 dL_law_530 rfl (lv_at hl 0 rfl) ?_
  refine lv_iload_n C.1 C.2.1 dL_law_531 rfl (lv_at hl 3 rfl) ?_
  refine lv_iconst (v := (1 : Int32)) C.1 C.2.1 dL_law_532 (by decide) ?_
  refine lv_iadd C.1 C.2.1 dL_law_533 ?_
  refine va_sld (A := xA X) C.1 C.2.1 hX hbl hbA hw.2.2 (law_in hi6 hL 1 (by decide) (by decide)) dL_law_534 ?_
  refine lv_aload_n C.1 C.2.1 dL_law_535 rfl (lv_at hl 0 rfl) ?_
  refine lv_iload_n C.1 C.2.1 dL_law_536 rfl (lv_at hl 3 rfl) ?_
  refine lv_iconst (v := (2 : Int32)) C.1 C.2.1 dL_law_537 (by decide) ?_
  refine lv_iadd C.1 C.2.1 dL_law_538 ?_
  refine va_sld (A := xA X) C.1 C.2.1 hX hbl hbA hw.2.2 (law_in hi6 hL 2 (by decide) (by decide)) dL_law_539 ?_
  refine x_goi hw (x_runV (X := X) (As := [.int (xs (nI i + (1 : Int32)).toNatClampNeg), .int (xs (nI i + (2 : Int32)).toNatClampNeg)]) (rest := [.int r]) (k := 17) (j := 0) C hw (Nat.le_of_ble_eq_true rfl) rfl rfl cV_X10_off kw_998 (c_X10_off l X [] (xs (nI i + (1 : Int32)).toNatClampNeg) (xs (nI i + (2 : Int32)).toNatClampNeg) z1 (r, z2) hq2) ⟨(Nat.le_of_ble_eq_true rfl), (Nat.le_of_ble_eq_true rfl)⟩ rfl hl.1 rfl (Nat.le_of_ble_eq_true rfl) dL_law_540 ⟨(show 100 + i + 0 ≤ 600000 by omega), (show 3000 + 2 * i + 0 ≤ 7302250 by omega)⟩) (fun H locs hw => ?_)
  refine lv_icmp_eq (tgt := 1240) C.1 C.2.1 dL_law_543 (by decide) (fun c1 => ?_) (fun c1 => absurd rfl c1)
  refine W.widen (k := 100 + i + 6) (n := 3000 + 2 * i + 12) (by first | exact Nat.le_refl _ | omega | (show 100 + i ≤ 100 + i + 6; omega)) (by first | exact Nat.le_refl _ | omega | (show 3000 + 2 * i ≤ 3000 + 2 * i + 12; omega)) ?_
  exact hN X z2 hB hI2 H locs hw ls hl
set_option maxHeartbeats 4000000 in
set_option maxRecDepth 100000 in
theorem lc_10 {p : Program} {l : Launch} {e : Env} {s : State} {m : MethodId} {below : List Frame} {meth : Method} {c : Code} {b L i : Nat} {xs : Nat → Int32} (C : CallFix p m c cL_law 4 s #[Value.ref b] gtbl RL) (hX : va_X b L xs s s.heap) (hbl : b < s.heap.size) (hL : L ≤ 3072) (hi6 : i + 6 ≤ L) (hN : lw_Nx p l e s m below meth c b i 1240 (100 + i + 6) (3000 + 2 * i + 12)) : lw_Nx p l e s m below meth c b i 548 (100 + i) (3000 + 2 * i) := by
  intro X z hB hI H locs hw ls hl
  have hbA : ¬ xA X b := by unfold xA; rw [hB]; exact Nat.not_le.mpr hbl
  obtain ⟨r, z1, z2, hq1, hq2, hI2⟩ := eq_scold z hI (xs (nI i + (1 : Int32)).toNatClampNeg) (xs (nI i + (2 : Int32)).toNatClampNeg) (xs (nI i + (3 : Int32)).toNatClampNeg) (xs (nI i + (4 : Int32)).toNatClampNeg)
  refine lv_aload_n C.1 C.2.1 dL_law_548 rfl (lv_at hl 1 rfl) ?_
  refine lv_aload_n C.1 C.2.1 dL_law_549 rfl (lv_at hl 0 rfl) ?_
  refine lv_iload_n C.1 C.2.1 dL_law_550 rfl (lv_at hl 3 rfl) ?_
  refine lv_iconst (v := (1 : Int32)) C.1 C.2.1 dL_law_551 (by decide) ?_
  refine lv_iadd C.1 C.2.1 dL_law_552 ?_
  refine va_sld (A := xA X) C.1 C.2.1 hX hbl hbA hw.2.2 (law_in hi6 hL 1 (by decide) (by decide)) dL_law_553 ?_
  refine lv_aload_n C.1 C.2.1 dL_law_554 rfl (lv_at hl 0 rfl) ?_
  refine lv_iload_n C.1 C.2.1 dL_law_555 rfl (lv_at hl 3 rfl) ?_
  refine lv_iconst (v := (2 : Int32)) C.1 C.2.1 dL_law_556 (by decide) ?_
  refine lv_iadd C.1 C.2.1 dL_law_557 ?_
  refine va_sld (A := xA X) C.1 C.2.1 hX hbl hbA hw.2.2 (law_in hi6 hL 2 (by decide) (by decide)) dL_law_558 ?_
  refine lv_aload_n C.1 C.2.1 dL_law_559 rfl (lv_at hl 0 rfl) ?_
  refine lv_iload_n C.1 C.2.1 dL_law_560 rfl (lv_at hl 3 rfl) ?_
  refine lv_iconst (v := (3 : Int32)) C.1 C.2.1 dL_law_561 (by decide) ?_
  refine lv_iadd C.1 C.2.1 dL_law_562 ?_
  refine va_sld (A := xA X) C.1 C.2.1 hX hbl hbA hw.2.2 (law_in hi6 hL 3 (by decide) (by decide)) dL_law_563 ?_
  refine lv_aload_n C.1 C.2.1 dL_law_564 rfl (lv_at hl 0 rfl) ?_
  refine lv_iload_n C.1 C.2.1 dL_law_565 rfl (lv_at hl 3 rfl) ?_
  refine lv_iconst (v := (4 : Int32)) C.1 C.2.1 dL_law_566 (by decide) ?_
  refine lv_iadd C.1 C.2.1 dL_law_567 ?_
  refine va_sld (A := xA X) C.1 C.2.1 hX hbl hbA hw.2.2 (law_in hi6 hL 4 (by decide) (by decide)) dL_law_568 ?_
  refine x_goi hw (x_runV (X := X) (As := [.int (xs (nI i + (1 : Int32)).toNatClampNeg), .int (xs (nI i + (2 : Int32)).toNatClampNeg), .int (xs (nI i + (3 : Int32)).toNatClampNeg), .int (xs (nI i + (4 : Int32)).toNatClampNeg)]) (rest := []) (k := 0) (j := 0) C hw (Nat.le_of_ble_eq_true rfl) rfl rfl cV_X9_scold kw_1004 (c_X9_scold l X [] (xs (nI i + (1 : Int32)).toNatClampNeg) (xs (nI i + (2 : Int32)).toNatClampNeg) (xs (nI i + (3 : Int32)).toNatClampNeg) (xs (nI i + (4 : Int32)).toNatClampNeg) z (r, z1) hq1) ⟨(Nat.le_of_ble_eq_true rfl), (Nat.le_of_ble_eq_true rfl)⟩ rfl hl.1 rfl (Nat.le_of_ble_eq_true rfl) dL_law_569 ⟨(show 100 + i + 0 ≤ 600000 by omega), (show 3000 + 2 * i + 0 ≤ 7302250 by omega)⟩) (fun H locs hw => ?_)
  refine lv_aload_n C.1 C.2.1 dL_law_572 rfl (lv_at hl 2 rfl) ?_
  refine lv_aload_n C.1 C.2.1 dL_law_573 rfl (lv_at hl 0 rfl) ?_
  refine lv_iload_n C.1 C.2.1 dL_law_574 rfl (lv_at hl 3 rfl) ?_
  refine lv_iconst (v := (1 : Int32)) C.1 C.2.1 dL_law_575 (by decide) ?_
  refine lv_iadd C.1 C.2.1 dL_law_576 ?_
  refine va_sld (A := xA X) C.1 C.2.1 hX hbl hbA hw.2.2 (law_in hi6 hL 1 (by decide) (by decide)) dL_law_577 ?_
  refine lv_aload_n C.1 C.2.1 dL_law_578 rfl (lv_at hl 0 rfl) ?_
  refine lv_iload_n C.1 C.2.1 dL_law_579 rfl (lv_at hl 3 rfl) ?_
  refine lv_iconst (v := (2 : Int32)) C.1 C.2.1 dL_law_580 (by decide) ?_
  refine lv_iadd C.1 C.2.1 dL_law_581 ?_
  refine va_sld (A := xA X) C.1 C.2.1 hX hbl hbA hw.2.2 (law_in hi6 hL 2 (by decide) (by decide)) dL_law_582 ?_
  refine lv_aload_n C.1 C.2.1 dL_law_583 rfl (lv_at hl 0 rfl) ?_
  refine lv_iload_n C.1 C.2.1 dL_law_584 rfl (lv_at hl 3 rfl) ?_
  refine lv_iconst (v := (3 : Int32)) C.1 C.2.1 dL_law_585 (by decide) ?_
  refine lv_iadd C.1 C.2.1 dL_law_586 ?_
  refine va_sld (A := xA X) C.1 C.2.1 hX hbl hbA hw.2.2 (law_in hi6 hL 3 (by decide) (by decide)) dL_law_587 ?_
  refine lv_aload_n C.1 C.2.1 dL_law_588 rfl (lv_at hl 0 rfl) ?_
  refine lv_iload_n C.1 C.2.1 dL_law_589 rfl (lv_at hl 3 rfl) ?_
  refine lv_iconst (v := (4 : Int32)) C.1 C.2.1 dL_law_590 (by decide) ?_
  refine lv_iadd C.1 C.2.1 dL_law_591 ?_
  refine va_sld (A := xA X) C.1 C.2.1 hX hbl hbA hw.2.2 (law_in hi6 hL 4 (by decide) (by decide)) dL_law_592 ?_
  refine x_goi hw (x_runV (X := X) (As := [.int (xs (nI i + (1 : Int32)).toNatClampNeg), .int (xs (nI i + (2 : Int32)).toNatClampNeg), .int (xs (nI i + (3 : Int32)).toNatClampNeg), .int (xs (nI i + (4 : Int32)).toNatClampNeg)]) (rest := [.int r]) (k := 17) (j := 0) C hw (Nat.le_of_ble_eq_true rfl) rfl rfl cV_X10_scold kw_1010 (c_X10_scold l X [] (xs (nI i + (1 : Int32)).toNatClampNeg) (xs (nI i + (2 : Int32)).toNatClampNeg) (xs (nI i + (3 : Int32)).toNatClampNeg) (xs (nI i + (4 : Int32)).toNatClampNeg) z1 (r, z2) hq2) ⟨(Nat.le_of_ble_eq_true rfl), (Nat.le_of_ble_eq_true rfl)⟩ rfl hl.1 rfl (Nat.le_of_ble_eq_true rfl) dL_law_593 ⟨(show 100 + i + 0 ≤ 600000 by omega), (show 3000 + 2 * i + 0 ≤ 7302250 by omega)⟩) (fun H locs hw => ?_)
  refine lv_icmp_eq (tgt := 1240) C.1 C.2.1 dL_law_596 (by decide) (fun c1 => ?_) (fun c1 => absurd rfl c1)
  refine W.widen (k := 100 + i + 6) (n := 3000 + 2 * i + 12) (by first | exact Nat.le_refl _ | omega | (show 100 + i ≤ 100 + i + 6; omega)) (by first | exact Nat.le_refl _ | omega | (show 3000 + 2 * i ≤ 3000 + 2 * i + 12; omega)) ?_
  exact hN X z2 hB hI2 H locs hw ls hl
set_option maxHeartbeats 4000000 in
set_option maxRecDepth 100000 in
theorem lc_11 {p : Program} {l : Launch} {e : Env} {s : State} {m : MethodId} {below : List Frame} {meth : Method} {c : Code} {b L i : Nat} {xs : Nat → Int32} (C : CallFix p m c cL_law 4 s #[Value.ref b] gtbl RL) (hX : va_X b L xs s s.heap) (hbl : b < s.heap.size) (hL : L ≤ 3072) (hi6 : i + 6 ≤ L) (hN : lw_Nx p l e s m below meth c b i 1240 (100 + i + 6) (3000 + 2 * i + 12)) : lw_Nx p l e s m below meth c b i 601 (100 + i) (3000 + 2 * i) := by
  intro X z hB hI H locs hw ls hl
  have hbA : ¬ xA X b := by unfold xA; rw [hB]; exact Nat.not_le.mpr hbl
  obtain ⟨r, z1, z2, hq1, hq2, hI2⟩ := eq_reading z hI (xs (nI i + (1 : Int32)).toNatClampNeg) (xs (nI i + (2 : Int32)).toNatClampNeg) (xs (nI i + (3 : Int32)).toNatClampNeg) (xs (nI i + (4 : Int32)).toNatClampNeg)
  refine lv_aload_n C.1 C.2.1 dL_law_601 rfl (lv_at hl 1 rfl) ?_
  refine lv_aload_n C.1 C.2.1 dL_law_602 rfl (lv_at hl 0 rfl) ?_
  refine lv_iload_n C.1 C.2.1 dL_law_603 rfl (lv_at hl 3 rfl) ?_
  refine lv_iconst (v := (1 : Int32)) C.1 C.2.1 dL_law_604 (by decide) ?_
  refine lv_iadd C.1 C.2.1 dL_law_605 ?_
  refine va_sld (A := xA X) C.1 C.2.1 hX hbl hbA hw.2.2 (law_in hi6 hL 1 (by decide) (by decide)) dL_law_606 ?_
  refine lv_aload_n C.1 C.2.1 dL_law_607 rfl (lv_at hl 0 rfl) ?_
  refine lv_iload_n C.1 C.2.1 dL_law_608 rfl (lv_at hl 3 rfl) ?_
  refine lv_iconst (v := (2 : Int32)) C.1 C.2.1 dL_law_609 (by decide) ?_
  refine lv_iadd C.1 C.2.1 dL_law_610 ?_
  refine va_sld (A := xA X) C.1 C.2.1 hX hbl hbA hw.2.2 (law_in hi6 hL 2 (by decide) (by decide)) dL_law_611 ?_
  refine lv_aload_n C.1 C.2.1 dL_law_612 rfl (lv_at hl 0 rfl) ?_
  refine lv_iload_n C.1 C.2.1 dL_law_613 rfl (lv_at hl 3 rfl) ?_
  refine lv_iconst (v := (3 : Int32)) C.1 C.2.1 dL_law_614 (by decide) ?_
  refine lv_iadd C.1 C.2.1 dL_law_615 ?_
  refine va_sld (A := xA X) C.1 C.2.1 hX hbl hbA hw.2.2 (law_in hi6 hL 3 (by decide) (by decide)) dL_law_616 ?_
  refine lv_aload_n C.1 C.2.1 dL_law_617 rfl (lv_at hl 0 rfl) ?_
  refine lv_iload_n C.1 C.2.1 dL_law_618 rfl (lv_at hl 3 rfl) ?_
  refine lv_iconst (v := (4 : Int32)) C.1 C.2.1 dL_law_619 (by decide) ?_
  refine lv_iadd C.1 C.2.1 dL_law_620 ?_
  refine va_sld (A := xA X) C.1 C.2.1 hX hbl hbA hw.2.2 (law_in hi6 hL 4 (by decide) (by decide)) dL_law_621 ?_
  refine x_goi hw (x_runV (X := X) (As := [.int (xs (nI i + (1 : Int32)).toNatClampNeg), .int (xs (nI i + (2 : Int32)).toNatClampNeg), .int (xs (nI i + (3 : Int32)).toNatClampNeg), .int (xs (nI i + (4 : Int32)).toNatClampNeg)]) (rest := []) (k := 0) (j := 0) C hw (Nat.le_of_ble_eq_true rfl) rfl rfl cV_X9_reading kw_1016 (c_X9_reading l X [] (xs (nI i + (1 : Int32)).toNatClampNeg) (xs (nI i + (2 : Int32)).toNatClampNeg) (xs (nI i + (3 : Int32)).toNatClampNeg) (xs (nI i + (4 : Int32)).toNatClampNeg) z (r, z1) hq1) ⟨(Nat.le_of_ble_eq_true rfl), (Nat.le_of_ble_eq_true rfl)⟩ rfl hl.1 rfl (Nat.le_of_ble_eq_true rfl) dL_law_622 ⟨(show 100 + i + 0 ≤ 600000 by omega), (show 3000 + 2 * i + 0 ≤ 7302250 by omega)⟩) (fun H locs hw => ?_)
  refine lv_aload_n C.1 C.2.1 dL_law_625 rfl (lv_at hl 2 rfl) ?_
  refine lv_aload_n C.1 C.2.1 dL_law_626 rfl (lv_at hl 0 rfl) ?_
  refine lv_iload_n C.1 C.2.1 dL_law_627 rfl (lv_at hl 3 rfl) ?_
  refine lv_iconst (v := (1 : Int32)) C.1 C.2.1 dL_law_628 (by decide) ?_
  refine lv_iadd C.1 C.2.1 dL_law_629 ?_
  refine va_sld (A := xA X) C.1 C.2.1 hX hbl hbA hw.2.2 (law_in hi6 hL 1 (by decide) (by decide)) dL_law_630 ?_
  refine lv_aload_n C.1 C.2.1 dL_law_631 rfl (lv_at hl 0 rfl) ?_
  refine lv_iload_n C.1 C.2.1 dL_law_632 rfl (lv_at hl 3 rfl) ?_
  refine lv_iconst (v := (2 : Int32)) C.1 C.2.1 dL_law_633 (by decide) ?_
  refine lv_iadd C.1 C.2.1 dL_law_634 ?_
  refine va_sld (A := xA X) C.1 C.2.1 hX hbl hbA hw.2.2 (law_in hi6 hL 2 (by decide) (by decide)) dL_law_635 ?_
  refine lv_aload_n C.1 C.2.1 dL_law_636 rfl (lv_at hl 0 rfl) ?_
  refine lv_iload_n C.1 C.2.1 dL_law_637 rfl (lv_at hl 3 rfl) ?_
  refine lv_iconst (v := (3 : Int32)) C.1 C.2.1 dL_law_638 (by decide) ?_
  refine lv_iadd C.1 C.2.1 dL_law_639 ?_
  refine va_sld (A := xA X) C.1 C.2.1 hX hbl hbA hw.2.2 (law_in hi6 hL 3 (by decide) (by decide)) dL_law_640 ?_
  refine lv_aload_n C.1 C.2.1 dL_law_641 rfl (lv_at hl 0 rfl) ?_
  refine lv_iload_n C.1 C.2.1 dL_law_642 rfl (lv_at hl 3 rfl) ?_
  refine lv_iconst (v := (4 : Int32)) C.1 C.2.1 dL_law_643 (by decide) ?_
  refine lv_iadd C.1 C.2.1 dL_law_644 ?_
  refine va_sld (A := xA X) C.1 C.2.1 hX hbl hbA hw.2.2 (law_in hi6 hL 4 (by decide) (by decide)) dL_law_645 ?_
  refine x_goi hw (x_runV (X := X) (As := [.int (xs (nI i + (1 : Int32)).toNatClampNeg), .int (xs (nI i + (2 : Int32)).toNatClampNeg), .int (xs (nI i + (3 : Int32)).toNatClampNeg), .int (xs (nI i + (4 : Int32)).toNatClampNeg)]) (rest := [.int r]) (k := 17) (j := 0) C hw (Nat.le_of_ble_eq_true rfl) rfl rfl cV_X10_reading kw_1022 (c_X10_reading l X [] (xs (nI i + (1 : Int32)).toNatClampNeg) (xs (nI i + (2 : Int32)).toNatClampNeg) (xs (nI i + (3 : Int32)).toNatClampNeg) (xs (nI i + (4 : Int32)).toNatClampNeg) z1 (r, z2) hq2) ⟨(Nat.le_of_ble_eq_true rfl), (Nat.le_of_ble_eq_true rfl)⟩ rfl hl.1 rfl (Nat.le_of_ble_eq_true rfl) dL_law_646 ⟨(show 100 + i + 0 ≤ 600000 by omega), (show 3000 + 2 * i + 0 ≤ 7302250 by omega)⟩) (fun H locs hw => ?_)
  refine lv_icmp_eq (tgt := 1240) C.1 C.2.1 dL_law_649 (by decide) (fun c1 => ?_) (fun c1 => absurd rfl c1)
  refine W.widen (k := 100 + i + 6) (n := 3000 + 2 * i + 12) (by first | exact Nat.le_refl _ | omega | (show 100 + i ≤ 100 + i + 6; omega)) (by first | exact Nat.le_refl _ | omega | (show 3000 + 2 * i ≤ 3000 + 2 * i + 12; omega)) ?_
  exact hN X z2 hB hI2 H locs hw ls hl
set_option maxHeartbeats 4000000 in
set_option maxRecDepth 100000 in
theorem lc_12 {p : Program} {l : Launch} {e : Env} {s : State} {m : MethodId} {below : List Frame} {meth : Method} {c : Code} {b L i : Nat} {xs : Nat → Int32} (C : CallFix p m c cL_law 4 s #[Value.ref b] gtbl RL) (hX : va_X b L xs s s.heap) (hbl : b < s.heap.size) (hL : L ≤ 3072) (hi6 : i + 6 ≤ L) (hN : lw_Nx p l e s m below meth c b i 1240 (100 + i + 6) (3000 + 2 * i + 12)) : lw_Nx p l e s m below meth c b i 654 (100 + i) (3000 + 2 * i) := by
  intro X z hB hI H locs hw ls hl
  have hbA : ¬ xA X b := by unfold xA; rw [hB]; exact Nat.not_le.mpr hbl
  obtain ⟨r, z1, z2, hq1, hq2, hI2⟩ := eq_back z hI (xs (nI i + (1 : Int32)).toNatClampNeg)
  refine lv_aload_n C.1 C.2.1 dL_law_654 rfl (lv_at hl 1 rfl) ?_
  refine lv_aload_n C.1 C.2.1 dL_law_655 rfl (lv_at hl 0 rfl) ?_
  refine lv_iload_n C.1 C.2.1 dL_law_656 rfl (lv_at hl 3 rfl) ?_
  refine lv_iconst (v := (1 : Int32)) C.1 C.2.1 dL_law_657 (by decide) ?_
  refine lv_iadd C.1 C.2.1 dL_law_658 ?_
  refine va_sld (A := xA X) C.1 C.2.1 hX hbl hbA hw.2.2 (law_in hi6 hL 1 (by decide) (by decide)) dL_law_659 ?_
  refine x_goi hw (x_runV (X := X) (As := [.int (xs (nI i + (1 : Int32)).toNatClampNeg)]) (rest := []) (k := 0) (j := 0) C hw (Nat.le_of_ble_eq_true rfl) rfl rfl cV_X9_back kw_1028 (c_X9_back l X [] (xs (nI i + (1 : Int32)).toNatClampNeg) z (r, z1) hq1) ⟨(Nat.le_of_ble_eq_true rfl), (Nat.le_of_ble_eq_true rfl)⟩ rfl hl.1 rfl (Nat.le_of_ble_eq_true rfl) dL_law_660 ⟨(show 100 + i + 0 ≤ 600000 by omega), (show 3000 + 2 * i + 0 ≤ 7302250 by omega)⟩) (fun H locs hw => ?_)
  refine lv_aload_n C.1 C.2.1 dL_law_663 rfl (lv_at hl 2 rfl) ?_
  refine lv_aload_n C.1 C.2.1 dL_law_664 rfl (lv_at hl 0 rfl) ?_
  refine lv_iload_n C.1 C.2.1 dL_law_665 rfl (lv_at hl 3 rfl) ?_
  refine lv_iconst (v := (1 : Int32)) C.1 C.2.1 dL_law_666 (by decide) ?_
  refine lv_iadd C.1 C.2.1 dL_law_667 ?_
  refine va_sld (A := xA X) C.1 C.2.1 hX hbl hbA hw.2.2 (law_in hi6 hL 1 (by decide) (by decide)) dL_law_668 ?_
  refine x_goi hw (x_runV (X := X) (As := [.int (xs (nI i + (1 : Int32)).toNatClampNeg)]) (rest := [.int r]) (k := 17) (j := 0) C hw (Nat.le_of_ble_eq_true rfl) rfl rfl cV_X10_back kw_1034 (c_X10_back l X [] (xs (nI i + (1 : Int32)).toNatClampNeg) z1 (r, z2) hq2) ⟨(Nat.le_of_ble_eq_true rfl), (Nat.le_of_ble_eq_true rfl)⟩ rfl hl.1 rfl (Nat.le_of_ble_eq_true rfl) dL_law_669 ⟨(show 100 + i + 0 ≤ 600000 by omega), (show 3000 + 2 * i + 0 ≤ 7302250 by omega)⟩) (fun H locs hw => ?_)
  refine lv_icmp_eq (tgt := 1240) C.1 C.2.1 dL_law_672 (by decide) (fun c1 => ?_) (fun c1 => absurd rfl c1)
  refine W.widen (k := 100 + i + 6) (n := 3000 + 2 * i + 12) (by first | exact Nat.le_refl _ | omega | (show 100 + i ≤ 100 + i + 6; omega)) (by first | exact Nat.le_refl _ | omega | (show 3000 + 2 * i ≤ 3000 + 2 * i + 12; omega)) ?_
  exact hN X z2 hB hI2 H locs hw ls hl
set_option maxHeartbeats 4000000 in
set_option maxRecDepth 100000 in
theorem lc_13 {p : Program} {l : Launch} {e : Env} {s : State} {m : MethodId} {below : List Frame} {meth : Method} {c : Code} {b L i : Nat} {xs : Nat → Int32} (C : CallFix p m c cL_law 4 s #[Value.ref b] gtbl RL) (hX : va_X b L xs s s.heap) (hbl : b < s.heap.size) (hL : L ≤ 3072) (hi6 : i + 6 ≤ L) (hN : lw_Nx p l e s m below meth c b i 1240 (100 + i + 6) (3000 + 2 * i + 12)) : lw_Nx p l e s m below meth c b i 677 (100 + i) (3000 + 2 * i) := by
  intro X z hB hI H locs hw ls hl
  have hbA : ¬ xA X b := by unfold xA; rw [hB]; exact Nat.not_le.mpr hbl
  obtain ⟨r, z1, z2, hq1, hq2, hI2⟩ := eq_said z hI (xs (nI i + (1 : Int32)).toNatClampNeg) (xs (nI i + (2 : Int32)).toNatClampNeg) (xs (nI i + (3 : Int32)).toNatClampNeg)
  refine lv_aload_n C.1 C.2.1 dL_law_677 rfl (lv_at hl 1 rfl) ?_
  refine lv_aload_n C.1 C.2.1 dL_law_678 rfl (lv_at hl 0 rfl) ?_
  refine lv_iload_n C.1 C.2.1 dL_law_679 rfl (lv_at hl 3 rfl) ?_
  refine lv_iconst (v := (1 : Int32)) C.1 C.2.1 dL_law_680 (by decide) ?_
  refine lv_iadd C.1 C.2.1 dL_law_681 ?_
  refine va_sld (A := xA X) C.1 C.2.1 hX hbl hbA hw.2.2 (law_in hi6 hL 1 (by decide) (by decide)) dL_law_682 ?_
  refine lv_aload_n C.1 C.2.1 dL_law_683 rfl (lv_at hl 0 rfl) ?_
  refine lv_iload_n C.1 C.2.1 dL_law_684 rfl (lv_at hl 3 rfl) ?_
  refine lv_iconst (v := (2 : Int32)) C.1 C.2.1 dL_law_685 (by decide) ?_
  refine lv_iadd C.1 C.2.1 dL_law_686 ?_
  refine va_sld (A := xA X) C.1 C.2.1 hX hbl hbA hw.2.2 (law_in hi6 hL 2 (by decide) (by decide)) dL_law_687 ?_
  refine lv_aload_n C.1 C.2.1 dL_law_688 rfl (lv_at hl 0 rfl) ?_
  refine lv_iload_n C.1 C.2.1 dL_law_689 rfl (lv_at hl 3 rfl) ?_
  refine lv_iconst (v := (3 : Int32)) C.1 C.2.1 dL_law_690 (by decide) ?_
  refine lv_iadd C.1 C.2.1 dL_law_691 ?_
  refine va_sld (A := xA X) C.1 C.2.1 hX hbl hbA hw.2.2 (law_in hi6 hL 3 (by decide) (by decide)) dL_law_692 ?_
  refine x_goi hw (x_runV (X := X) (As := [.int (xs (nI i + (1 : Int32)).toNatClampNeg), .int (xs (nI i + (2 : Int32)).toNatClampNeg), .int (xs (nI i + (3 : Int32)).toNatClampNeg)]) (rest := []) (k := 0) (j := 0) C hw (Nat.le_of_ble_eq_true rfl) rfl rfl cV_X9_said kw_1040 (c_X9_said l X [] (xs (nI i + (1 : Int32)).toNatClampNeg) (xs (nI i + (2 : Int32)).toNatClampNeg) (xs (nI i + (3 : Int32)).toNatClampNeg) z (r, z1) hq1) ⟨(Nat.le_of_ble_eq_true rfl), (Nat.le_of_ble_eq_true rfl)⟩ rfl hl.1 rfl (Nat.le_of_ble_eq_true rfl) dL_law_693 ⟨(show 100 + i + 0 ≤ 600000 by omega), (show 3000 + 2 * i + 0 ≤ 7302250 by omega)⟩) (fun H locs hw => ?_)
  refine lv_aload_n C.1 C.2.1 dL_law_696 rfl (lv_at hl 2 rfl) ?_
  refine lv_aload_n C.1 C.2.1 dL_law_697 rfl (lv_at hl 0 rfl) ?_
  refine lv_iload_n C.1 C.2.1 dL_law_698 rfl (lv_at hl 3 rfl) ?_
  refine lv_iconst (v := (1 : Int32)) C.1 C.2.1 dL_law_699 (by decide) ?_
  refine lv_iadd C.1 C.2.1 dL_law_700 ?_
  refine va_sld (A := xA X) C.1 C.2.1 hX hbl hbA hw.2.2 (law_in hi6 hL 1 (by decide) (by decide)) dL_law_701 ?_
  refine lv_aload_n C.1 C.2.1 dL_law_702 rfl (lv_at hl 0 rfl) ?_
  refine lv_iload_n C.1 C.2.1 dL_law_703 rfl (lv_at hl 3 rfl) ?_
  refine lv_iconst (v := (2 : Int32)) C.1 C.2.1 dL_law_704 (by decide) ?_
  refine lv_iadd C.1 C.2.1 dL_law_705 ?_
  refine va_sld (A := xA X) C.1 C.2.1 hX hbl hbA hw.2.2 (law_in hi6 hL 2 (by decide) (by decide)) dL_law_706 ?_
  refine lv_aload_n C.1 C.2.1 dL_law_707 rfl (lv_at hl 0 rfl) ?_
  refine lv_iload_n C.1 C.2.1 dL_law_708 rfl (lv_at hl 3 rfl) ?_
  refine lv_iconst (v := (3 : Int32)) C.1 C.2.1 dL_law_709 (by decide) ?_
  refine lv_iadd C.1 C.2.1 dL_law_710 ?_
  refine va_sld (A := xA X) C.1 C.2.1 hX hbl hbA hw.2.2 (law_in hi6 hL 3 (by decide) (by decide)) dL_law_711 ?_
  refine x_goi hw (x_runV (X := X) (As := [.int (xs (nI i + (1 : Int32)).toNatClampNeg), .int (xs (nI i + (2 : Int32)).toNatClampNeg), .int (xs (nI i + (3 : Int32)).toNatClampNeg)]) (rest := [.int r]) (k := 17) (j := 0) C hw (Nat.le_of_ble_eq_true rfl) rfl rfl cV_X10_said kw_1046 (c_X10_said l X [] (xs (nI i + (1 : Int32)).toNatClampNeg) (xs (nI i + (2 : Int32)).toNatClampNeg) (xs (nI i + (3 : Int32)).toNatClampNeg) z1 (r, z2) hq2) ⟨(Nat.le_of_ble_eq_true rfl), (Nat.le_of_ble_eq_true rfl)⟩ rfl hl.1 rfl (Nat.le_of_ble_eq_true rfl) dL_law_712 ⟨(show 100 + i + 0 ≤ 600000 by omega), (show 3000 + 2 * i + 0 ≤ 7302250 by omega)⟩) (fun H locs hw => ?_)
  refine lv_icmp_eq (tgt := 1240) C.1 C.2.1 dL_law_715 (by decide) (fun c1 => ?_) (fun c1 => absurd rfl c1)
  refine W.widen (k := 100 + i + 6) (n := 3000 + 2 * i + 12) (by first | exact Nat.le_refl _ | omega | (show 100 + i ≤ 100 + i + 6; omega)) (by first | exact Nat.le_refl _ | omega | (show 3000 + 2 * i ≤ 3000 + 2 * i + 12; omega)) ?_
  exact hN X z2 hB hI2 H locs hw ls hl
set_option maxHeartbeats 4000000 in
set_option maxRecDepth 100000 in
theorem lc_14 {p : Program} {l : Launch} {e : Env} {s : State} {m : MethodId} {below : List Frame} {meth : Method} {c : Code} {b L i : Nat} {xs : Nat → Int32} (C : CallFix p m c cL_law 4 s #[Value.ref b] gtbl RL) (hX : va_X b L xs s s.heap) (hbl : b < s.heap.size) (hL : L ≤ 3072) (hi6 : i + 6 ≤ L) (hN : lw_Nx p l e s m below meth c b i 1240 (100 + i + 6) (3000 + 2 * i + 12)) : lw_Nx p l e s m below meth c b i 720 (100 + i) (3000 + 2 * i) := by
  intro X z hB hI H locs hw ls hl
  have hbA : ¬ xA X b := by unfold xA; rw [hB]; exact Nat.not_le.mpr hbl
  obtain ⟨r, z1, z2, hq1, hq2, hI2⟩ := eq_quarrel z hI (xs (nI i + (1 : Int32)).toNatClampNeg) (xs (nI i + (2 : Int32)).toNatClampNeg) (xs (nI i + (3 : Int32)).toNatClampNeg) (xs (nI i + (4 : Int32)).toNatClampNeg)
  refine lv_aload_n C.1 C.2.1 dL_law_720 rfl (lv_at hl 1 rfl) ?_
  refine lv_aload_n C.1 C.2.1 dL_law_721 rfl (lv_at hl 0 rfl) ?_
  refine lv_iload_n C.1 C.2.1 dL_law_722 rfl (lv_at hl 3 rfl) ?_
  refine lv_iconst (v := (1 : Int32)) C.1 C.2.1 dL_law_723 (by decide) ?_
  refine lv_iadd C.1 C.2.1 dL_law_724 ?_
  refine va_sld (A := xA X) C.1 C.2.1 hX hbl hbA hw.2.2 (law_in hi6 hL 1 (by decide) (by decide)) dL_law_725 ?_
  refine lv_aload_n C.1 C.2.1 dL_law_726 rfl (lv_at hl 0 rfl) ?_
  refine lv_iload_n C.1 C.2.1 dL_law_727 rfl (lv_at hl 3 rfl) ?_
  refine lv_iconst (v := (2 : Int32)) C.1 C.2.1 dL_law_728 (by decide) ?_
  refine lv_iadd C.1 C.2.1 dL_law_729 ?_
  refine va_sld (A := xA X) C.1 C.2.1 hX hbl hbA hw.2.2 (law_in hi6 hL 2 (by decide) (by decide)) dL_law_730 ?_
  refine lv_aload_n C.1 C.2.1 dL_law_731 rfl (lv_at hl 0 rfl) ?_
  refine lv_iload_n C.1 C.2.1 dL_law_732 rfl (lv_at hl 3 rfl) ?_
  refine lv_iconst (v := (3 : Int32)) C.1 C.2.1 dL_law_733 (by decide) ?_
  refine lv_iadd C.1 C.2.1 dL_law_734 ?_
  refine va_sld (A := xA X) C.1 C.2.1 hX hbl hbA hw.2.2 (law_in hi6 hL 3 (by decide) (by decide)) dL_law_735 ?_
  refine lv_aload_n C.1 C.2.1 dL_law_736 rfl (lv_at hl 0 rfl) ?_
  refine lv_iload_n C.1 C.2.1 dL_law_737 rfl (lv_at hl 3 rfl) ?_
  refine lv_iconst (v := (4 : Int32)) C.1 C.2.1 dL_law_738 (by decide) ?_
  refine lv_iadd C.1 C.2.1 dL_law_739 ?_
  refine va_sld (A := xA X) C.1 C.2.1 hX hbl hbA hw.2.2 (law_in hi6 hL 4 (by decide) (by decide)) dL_law_740 ?_
  refine x_goi hw (x_runV (X := X) (As := [.int (xs (nI i + (1 : Int32)).toNatClampNeg), .int (xs (nI i + (2 : Int32)).toNatClampNeg), .int (xs (nI i + (3 : Int32)).toNatClampNeg), .int (xs (nI i + (4 : Int32)).toNatClampNeg)]) (rest := []) (k := 0) (j := 0) C hw (Nat.le_of_ble_eq_true rfl) rfl rfl cV_X9_quarrel kw_1052 (c_X9_quarrel l X [] (xs (nI i + (1 : Int32)).toNatClampNeg) (xs (nI i + (2 : Int32)).toNatClampNeg) (xs (nI i + (3 : Int32)).toNatClampNeg) (xs (nI i + (4 : Int32)).toNatClampNeg) z (r, z1) hq1) ⟨(Nat.le_of_ble_eq_true rfl), (Nat.le_of_ble_eq_true rfl)⟩ rfl hl.1 rfl (Nat.le_of_ble_eq_true rfl) dL_law_741 ⟨(show 100 + i + 0 ≤ 600000 by omega), (show 3000 + 2 * i + 0 ≤ 7302250 by omega)⟩) (fun H locs hw => ?_)
  refine lv_aload_n C.1 C.2.1 dL_law_744 rfl (lv_at hl 2 rfl) ?_
  refine lv_aload_n C.1 C.2.1 dL_law_745 rfl (lv_at hl 0 rfl) ?_
  refine lv_iload_n C.1 C.2.1 dL_law_746 rfl (lv_at hl 3 rfl) ?_
  refine lv_iconst (v := (1 : Int32)) C.1 C.2.1 dL_law_747 (by decide) ?_
  refine lv_iadd C.1 C.2.1 dL_law_748 ?_
  refine va_sld (A := xA X) C.1 C.2.1 hX hbl hbA hw.2.2 (law_in hi6 hL 1 (by decide) (by decide)) dL_law_749 ?_
  refine lv_aload_n C.1 C.2.1 dL_law_750 rfl (lv_at hl 0 rfl) ?_
  refine lv_iload_n C.1 C.2.1 dL_law_751 rfl (lv_at hl 3 rfl) ?_
  refine lv_iconst (v := (2 : Int32)) C.1 C.2.1 dL_law_752 (by decide) ?_
  refine lv_iadd C.1 C.2.1 dL_law_753 ?_
  refine va_sld (A := xA X) C.1 C.2.1 hX hbl hbA hw.2.2 (law_in hi6 hL 2 (by decide) (by decide)) dL_law_754 ?_
  refine lv_aload_n C.1 C.2.1 dL_law_755 rfl (lv_at hl 0 rfl) ?_
  refine lv_iload_n C.1 C.2.1 dL_law_756 rfl (lv_at hl 3 rfl) ?_
  refine lv_iconst (v := (3 : Int32)) C.1 C.2.1 dL_law_757 (by decide) ?_
  refine lv_iadd C.1 C.2.1 dL_law_758 ?_
  refine va_sld (A := xA X) C.1 C.2.1 hX hbl hbA hw.2.2 (law_in hi6 hL 3 (by decide) (by decide)) dL_law_759 ?_
  refine lv_aload_n C.1 C.2.1 dL_law_760 rfl (lv_at hl 0 rfl) ?_
  refine lv_iload_n C.1 C.2.1 dL_law_761 rfl (lv_at hl 3 rfl) ?_
  refine lv_iconst (v := (4 : Int32)) C.1 C.2.1 dL_law_762 (by decide) ?_
  refine lv_iadd C.1 C.2.1 dL_law_763 ?_
  refine va_sld (A := xA X) C.1 C.2.1 hX hbl hbA hw.2.2 (law_in hi6 hL 4 (by decide) (by decide)) dL_law_764 ?_
  refine x_goi hw (x_runV (X := X) (As := [.int (xs (nI i + (1 : Int32)).toNatClampNeg), .int (xs (nI i + (2 : Int32)).toNatClampNeg), .int (xs (nI i + (3 : Int32)).toNatClampNeg), .int (xs (nI i + (4 : Int32)).toNatClampNeg)]) (rest := [.int r]) (k := 17) (j := 0) C hw (Nat.le_of_ble_eq_true rfl) rfl rfl cV_X10_quarrel kw_1058 (c_X10_quarrel l X [] (xs (nI i + (1 : Int32)).toNatClampNeg) (xs (nI i + (2 : Int32)).toNatClampNeg) (xs (nI i + (3 : Int32)).toNatClampNeg) (xs (nI i + (4 : Int32)).toNatClampNeg) z1 (r, z2) hq2) ⟨(Nat.le_of_ble_eq_true rfl), (Nat.le_of_ble_eq_true rfl)⟩ rfl hl.1 rfl (Nat.le_of_ble_eq_true rfl) dL_law_765 ⟨(show 100 + i + 0 ≤ 600000 by omega), (show 3000 + 2 * i + 0 ≤ 7302250 by omega)⟩) (fun H locs hw => ?_)
  refine lv_icmp_eq (tgt := 1240) C.1 C.2.1 dL_law_768 (by decide) (fun c1 => ?_) (fun c1 => absurd rfl c1)
  refine W.widen (k := 100 + i + 6) (n := 3000 + 2 * i + 12) (by first | exact Nat.le_refl _ | omega | (show 100 + i ≤ 100 + i + 6; omega)) (by first | exact Nat.le_refl _ | omega | (show 3000 + 2 * i ≤ 3000 + 2 * i + 12; omega)) ?_
  exact hN X z2 hB hI2 H locs hw ls hl
set_option maxHeartbeats 4000000 in
set_option maxRecDepth 100000 in
theorem lc_15 {p : Program} {l : Launch} {e : Env} {s : State} {m : MethodId} {below : List Frame} {meth : Method} {c : Code} {b L i : Nat} {xs : Nat → Int32} (C : CallFix p m c cL_law 4 s #[Value.ref b] gtbl RL) (hX : va_X b L xs s s.heap) (hbl : b < s.heap.size) (hL : L ≤ 3072) (hi6 : i + 6 ≤ L) (hN : lw_Nx p l e s m below meth c b i 1240 (100 + i + 6) (3000 + 2 * i + 12)) : lw_Nx p l e s m below meth c b i 773 (100 + i) (3000 + 2 * i) := by
  intro X z hB hI H locs hw ls hl
  have hbA : ¬ xA X b := by unfold xA; rw [hB]; exact Nat.not_le.mpr hbl
  obtain ⟨r, z1, z2, hq1, hq2, hI2⟩ := eq_peace z hI (xs (nI i + (1 : Int32)).toNatClampNeg)
  refine lv_aload_n C.1 C.2.1 dL_law_773 rfl (lv_at hl 1 rfl) ?_
  refine lv_aload_n C.1 C.2.1 dL_law_774 rfl (lv_at hl 0 rfl) ?_
  refine lv_iload_n C.1 C.2.1 dL_law_775 rfl (lv_at hl 3 rfl) ?_
  refine lv_iconst (v := (1 : Int32)) C.1 C.2.1 dL_law_776 (by decide) ?_
  refine lv_iadd C.1 C.2.1 dL_law_777 ?_
  refine va_sld (A := xA X) C.1 C.2.1 hX hbl hbA hw.2.2 (law_in hi6 hL 1 (by decide) (by decide)) dL_law_778 ?_
  refine x_goi hw (x_runV (X := X) (As := [.int (xs (nI i + (1 : Int32)).toNatClampNeg)]) (rest := []) (k := 0) (j := 0) C hw (Nat.le_of_ble_eq_true rfl) rfl rfl cV_X9_peace kw_1064 (c_X9_peace l X [] (xs (nI i + (1 : Int32)).toNatClampNeg) z (r, z1) hq1) ⟨(Nat.le_of_ble_eq_true rfl), (Nat.le_of_ble_eq_true rfl)⟩ rfl hl.1 rfl (Nat.le_of_ble_eq_true rfl) dL_law_779 ⟨(show 100 + i + 0 ≤ 600000 by omega), (show 3000 + 2 * i + 0 ≤ 7302250 by omega)⟩) (fun H locs hw => ?_)
  refine lv_aload_n C.1 C.2.1 dL_law_782 rfl (lv_at hl 2 rfl) ?_
  refine lv_aload_n C.1 C.2.1 dL_law_783 rfl (lv_at hl 0 rfl) ?_
  refine lv_iload_n C.1 C.2.1 dL_law_784 rfl (lv_at hl 3 rfl) ?_
  refine lv_iconst (v := (1 : Int32)) C.1 C.2.1 dL_law_785 (by decide) ?_
  refine lv_iadd C.1 C.2.1 dL_law_786 ?_
  refine va_sld (A := xA X) C.1 C.2.1 hX hbl hbA hw.2.2 (law_in hi6 hL 1 (by decide) (by decide)) dL_law_787 ?_
  refine x_goi hw (x_runV (X := X) (As := [.int (xs (nI i + (1 : Int32)).toNatClampNeg)]) (rest := [.int r]) (k := 17) (j := 0) C hw (Nat.le_of_ble_eq_true rfl) rfl rfl cV_X10_peace kw_1070 (c_X10_peace l X [] (xs (nI i + (1 : Int32)).toNatClampNeg) z1 (r, z2) hq2) ⟨(Nat.le_of_ble_eq_true rfl), (Nat.le_of_ble_eq_true rfl)⟩ rfl hl.1 rfl (Nat.le_of_ble_eq_true rfl) dL_law_788 ⟨(show 100 + i + 0 ≤ 600000 by omega), (show 3000 + 2 * i + 0 ≤ 7302250 by omega)⟩) (fun H locs hw => ?_)
  refine lv_icmp_eq (tgt := 1240) C.1 C.2.1 dL_law_791 (by decide) (fun c1 => ?_) (fun c1 => absurd rfl c1)
  refine W.widen (k := 100 + i + 6) (n := 3000 + 2 * i + 12) (by first | exact Nat.le_refl _ | omega | (show 100 + i ≤ 100 + i + 6; omega)) (by first | exact Nat.le_refl _ | omega | (show 3000 + 2 * i ≤ 3000 + 2 * i + 12; omega)) ?_
  exact hN X z2 hB hI2 H locs hw ls hl
set_option maxHeartbeats 4000000 in
set_option maxRecDepth 100000 in
theorem lc_16 {p : Program} {l : Launch} {e : Env} {s : State} {m : MethodId} {below : List Frame} {meth : Method} {c : Code} {b L i : Nat} {xs : Nat → Int32} (C : CallFix p m c cL_law 4 s #[Value.ref b] gtbl RL) (hX : va_X b L xs s s.heap) (hbl : b < s.heap.size) (hL : L ≤ 3072) (hi6 : i + 6 ≤ L) (hN : lw_Nx p l e s m below meth c b i 1240 (100 + i + 6) (3000 + 2 * i + 12)) : lw_Nx p l e s m below meth c b i 796 (100 + i) (3000 + 2 * i) := by
  intro X z hB hI H locs hw ls hl
  have hbA : ¬ xA X b := by unfold xA; rw [hB]; exact Nat.not_le.mpr hbl
  obtain ⟨r, z1, z2, hq1, hq2, hI2⟩ := eq_round z hI (xs (nI i + (1 : Int32)).toNatClampNeg) (xs (nI i + (2 : Int32)).toNatClampNeg)
  refine lv_aload_n C.1 C.2.1 dL_law_796 rfl (lv_at hl 1 rfl) ?_
  refine lv_aload_n C.1 C.2.1 dL_law_797 rfl (lv_at hl 0 rfl) ?_
  refine lv_iload_n C.1 C.2.1 dL_law_798 rfl (lv_at hl 3 rfl) ?_
  refine lv_iconst (v := (1 : Int32)) C.1 C.2.1 dL_law_799 (by decide) ?_
  refine lv_iadd C.1 C.2.1 dL_law_800 ?_
  refine va_sld (A := xA X) C.1 C.2.1 hX hbl hbA hw.2.2 (law_in hi6 hL 1 (by decide) (by decide)) dL_law_801 ?_
  refine lv_aload_n C.1 C.2.1 dL_law_802 rfl (lv_at hl 0 rfl) ?_
  refine lv_iload_n C.1 C.2.1 dL_law_803 rfl (lv_at hl 3 rfl) ?_
  refine lv_iconst (v := (2 : Int32)) C.1 C.2.1 dL_law_804 (by decide) ?_
  refine lv_iadd C.1 C.2.1 dL_law_805 ?_
  refine va_sld (A := xA X) C.1 C.2.1 hX hbl hbA hw.2.2 (law_in hi6 hL 2 (by decide) (by decide)) dL_law_806 ?_
  refine x_goi hw (x_runV (X := X) (As := [.int (xs (nI i + (1 : Int32)).toNatClampNeg), .int (xs (nI i + (2 : Int32)).toNatClampNeg)]) (rest := []) (k := 0) (j := 0) C hw (Nat.le_of_ble_eq_true rfl) rfl rfl cV_X9_round kw_1076 (c_X9_round l X [] (xs (nI i + (1 : Int32)).toNatClampNeg) (xs (nI i + (2 : Int32)).toNatClampNeg) z (r, z1) hq1) ⟨(Nat.le_of_ble_eq_true rfl), (Nat.le_of_ble_eq_true rfl)⟩ rfl hl.1 rfl (Nat.le_of_ble_eq_true rfl) dL_law_807 ⟨(show 100 + i + 0 ≤ 600000 by omega), (show 3000 + 2 * i + 0 ≤ 7302250 by omega)⟩) (fun H locs hw => ?_)
  refine lv_aload_n C.1 C.2.1 dL_law_810 rfl (lv_at hl 2 rfl) ?_
  refine lv_aload_n C.1 C.2.1 dL_law_811 rfl (lv_at hl 0 rfl) ?_
  refine lv_iload_n C.1 C.2.1 dL_law_812 rfl (lv_at hl 3 rfl) ?_
  refine lv_iconst (v := (1 : Int32)) C.1 C.2.1 dL_law_813 (by decide) ?_
  refine lv_iadd C.1 C.2.1 dL_law_814 ?_
  refine va_sld (A := xA X) C.1 C.2.1 hX hbl hbA hw.2.2 (law_in hi6 hL 1 (by decide) (by decide)) dL_law_815 ?_
  refine lv_aload_n C.1 C.2.1 dL_law_816 rfl (lv_at hl 0 rfl) ?_
  refine lv_iload_n C.1 C.2.1 dL_law_817 rfl (lv_at hl 3 rfl) ?_
  refine lv_iconst (v := (2 : Int32)) C.1 C.2.1 dL_law_818 (by decide) ?_
  refine lv_iadd C.1 C.2.1 dL_law_819 ?_
  refine va_sld (A := xA X) C.1 C.2.1 hX hbl hbA hw.2.2 (law_in hi6 hL 2 (by decide) (by decide)) dL_law_820 ?_
  refine x_goi hw (x_runV (X := X) (As := [.int (xs (nI i + (1 : Int32)).toNatClampNeg), .int (xs (nI i + (2 : Int32)).toNatClampNeg)]) (rest := [.int r]) (k := 17) (j := 0) C hw (Nat.le_of_ble_eq_true rfl) rfl rfl cV_X10_round kw_1082 (c_X10_round l X [] (xs (nI i + (1 : Int32)).toNatClampNeg) (xs (nI i + (2 : Int32)).toNatClampNeg) z1 (r, z2) hq2) ⟨(Nat.le_of_ble_eq_true rfl), (Nat.le_of_ble_eq_true rfl)⟩ rfl hl.1 rfl (Nat.le_of_ble_eq_true rfl) dL_law_821 ⟨(show 100 + i + 0 ≤ 600000 by omega), (show 3000 + 2 * i + 0 ≤ 7302250 by omega)⟩) (fun H locs hw => ?_)
  refine lv_icmp_eq (tgt := 1240) C.1 C.2.1 dL_law_824 (by decide) (fun c1 => ?_) (fun c1 => absurd rfl c1)
  refine W.widen (k := 100 + i + 6) (n := 3000 + 2 * i + 12) (by first | exact Nat.le_refl _ | omega | (show 100 + i ≤ 100 + i + 6; omega)) (by first | exact Nat.le_refl _ | omega | (show 3000 + 2 * i ≤ 3000 + 2 * i + 12; omega)) ?_
  exact hN X z2 hB hI2 H locs hw ls hl
set_option maxHeartbeats 4000000 in
set_option maxRecDepth 100000 in
theorem lc_17 {p : Program} {l : Launch} {e : Env} {s : State} {m : MethodId} {below : List Frame} {meth : Method} {c : Code} {b L i : Nat} {xs : Nat → Int32} (C : CallFix p m c cL_law 4 s #[Value.ref b] gtbl RL) (hX : va_X b L xs s s.heap) (hbl : b < s.heap.size) (hL : L ≤ 3072) (hi6 : i + 6 ≤ L) (hN : lw_Nx p l e s m below meth c b i 1240 (100 + i + 6) (3000 + 2 * i + 12)) : lw_Nx p l e s m below meth c b i 829 (100 + i) (3000 + 2 * i) := by
  intro X z hB hI H locs hw ls hl
  have hbA : ¬ xA X b := by unfold xA; rw [hB]; exact Nat.not_le.mpr hbl
  obtain ⟨r, z1, z2, hq1, hq2, hI2⟩ := eq_fines z hI (xs (nI i + (1 : Int32)).toNatClampNeg) (xs (nI i + (2 : Int32)).toNatClampNeg)
  refine lv_aload_n C.1 C.2.1 dL_law_829 rfl (lv_at hl 1 rfl) ?_
  refine lv_aload_n C.1 C.2.1 dL_law_830 rfl (lv_at hl 0 rfl) ?_
  refine lv_iload_n C.1 C.2.1 dL_law_831 rfl (lv_at hl 3 rfl) ?_
  refine lv_iconst (v := (1 : Int32)) C.1 C.2.1 dL_law_832 (by decide) ?_
  refine lv_iadd C.1 C.2.1 dL_law_833 ?_
  refine va_sld (A := xA X) C.1 C.2.1 hX hbl hbA hw.2.2 (law_in hi6 hL 1 (by decide) (by decide)) dL_law_834 ?_
  refine lv_aload_n C.1 C.2.1 dL_law_835 rfl (lv_at hl 0 rfl) ?_
  refine lv_iload_n C.1 C.2.1 dL_law_836 rfl (lv_at hl 3 rfl) ?_
  refine lv_iconst (v := (2 : Int32)) C.1 C.2.1 dL_law_837 (by decide) ?_
  refine lv_iadd C.1 C.2.1 dL_law_838 ?_
  refine va_sld (A := xA X) C.1 C.2.1 hX hbl hbA hw.2.2 (law_in hi6 hL 2 (by decide) (by decide)) dL_law_839 ?_
  refine x_goi hw (x_runV (X := X) (As := [.int (xs (nI i + (1 : Int32)).toNatClampNeg), .int (xs (nI i + (2 : Int32)).toNatClampNeg)]) (rest := []) (k := 0) (j := 0) C hw (Nat.le_of_ble_eq_true rfl) rfl rfl cV_X9_fines kw_1088 (c_X9_fines l X [] (xs (nI i + (1 : Int32)).toNatClampNeg) (xs (nI i + (2 : Int32)).toNatClampNeg) z (r, z1) hq1) ⟨(Nat.le_of_ble_eq_true rfl), (Nat.le_of_ble_eq_true rfl)⟩ rfl hl.1 rfl (Nat.le_of_ble_eq_true rfl) dL_law_840 ⟨(show 100 + i + 0 ≤ 600000 by omega), (show 3000 + 2 * i + 0 ≤ 7302250 by omega)⟩) (fun H locs hw => ?_)
  refine lv_aload_n C.1 C.2.1 dL_law_843 rfl (lv_at hl 2 rfl) ?_
  refine lv_aload_n C.1 C.2.1 dL_law_844 rfl (lv_at hl 0 rfl) ?_
  refine lv_iload_n C.1 C.2.1 dL_law_845 rfl (lv_at hl 3 rfl) ?_
  refine lv_iconst (v := (1 : Int32)) C.1 C.2.1 dL_law_846 (by decide) ?_
  refine lv_iadd C.1 C.2.1 dL_law_847 ?_
  refine va_sld (A := xA X) C.1 C.2.1 hX hbl hbA hw.2.2 (law_in hi6 hL 1 (by decide) (by decide)) dL_law_848 ?_
  refine lv_aload_n C.1 C.2.1 dL_law_849 rfl (lv_at hl 0 rfl) ?_
  refine lv_iload_n C.1 C.2.1 dL_law_850 rfl (lv_at hl 3 rfl) ?_
  refine lv_iconst (v := (2 : Int32)) C.1 C.2.1 dL_law_851 (by decide) ?_
  refine lv_iadd C.1 C.2.1 dL_law_852 ?_
  refine va_sld (A := xA X) C.1 C.2.1 hX hbl hbA hw.2.2 (law_in hi6 hL 2 (by decide) (by decide)) dL_law_853 ?_
  refine x_goi hw (x_runV (X := X) (As := [.int (xs (nI i + (1 : Int32)).toNatClampNeg), .int (xs (nI i + (2 : Int32)).toNatClampNeg)]) (rest := [.int r]) (k := 17) (j := 0) C hw (Nat.le_of_ble_eq_true rfl) rfl rfl cV_X10_fines kw_1094 (c_X10_fines l X [] (xs (nI i + (1 : Int32)).toNatClampNeg) (xs (nI i + (2 : Int32)).toNatClampNeg) z1 (r, z2) hq2) ⟨(Nat.le_of_ble_eq_true rfl), (Nat.le_of_ble_eq_true rfl)⟩ rfl hl.1 rfl (Nat.le_of_ble_eq_true rfl) dL_law_854 ⟨(show 100 + i + 0 ≤ 600000 by omega), (show 3000 + 2 * i + 0 ≤ 7302250 by omega)⟩) (fun H locs hw => ?_)
  refine lv_icmp_eq (tgt := 1240) C.1 C.2.1 dL_law_857 (by decide) (fun c1 => ?_) (fun c1 => absurd rfl c1)
  refine W.widen (k := 100 + i + 6) (n := 3000 + 2 * i + 12) (by first | exact Nat.le_refl _ | omega | (show 100 + i ≤ 100 + i + 6; omega)) (by first | exact Nat.le_refl _ | omega | (show 3000 + 2 * i ≤ 3000 + 2 * i + 12; omega)) ?_
  exact hN X z2 hB hI2 H locs hw ls hl
set_option maxHeartbeats 4000000 in
set_option maxRecDepth 100000 in
theorem lc_18 {p : Program} {l : Launch} {e : Env} {s : State} {m : MethodId} {below : List Frame} {meth : Method} {c : Code} {b L i : Nat} {xs : Nat → Int32} (C : CallFix p m c cL_law 4 s #[Value.ref b] gtbl RL) (hX : va_X b L xs s s.heap) (hbl : b < s.heap.size) (hL : L ≤ 3072) (hi6 : i + 6 ≤ L) (hN : lw_Nx p l e s m below meth c b i 1240 (100 + i + 6) (3000 + 2 * i + 12)) : lw_Nx p l e s m below meth c b i 862 (100 + i) (3000 + 2 * i) := by
  intro X z hB hI H locs hw ls hl
  have hbA : ¬ xA X b := by unfold xA; rw [hB]; exact Nat.not_le.mpr hbl
  obtain ⟨r, z1, z2, hq1, hq2, hI2⟩ := eq_mean z hI (xs (nI i + (1 : Int32)).toNatClampNeg) (xs (nI i + (2 : Int32)).toNatClampNeg)
  refine lv_aload_n C.1 C.2.1 dL_law_862 rfl (lv_at hl 1 rfl) ?_
  refine lv_aload_n C.1 C.2.1 dL_law_863 rfl (lv_at hl 0 rfl) ?_
  refine lv_iload_n C.1 C.2.1 dL_law_864 rfl (lv_at hl 3 rfl) ?_
  refine lv_iconst (v := (1 : Int32)) C.1 C.2.1 dL_law_865 (by decide) ?_
  refine lv_iadd C.1 C.2.1 dL_law_866 ?_
  refine va_sld (A := xA X) C.1 C.2.1 hX hbl hbA hw.2.2 (law_in hi6 hL 1 (by decide) (by decide)) dL_law_867 ?_
  refine lv_aload_n C.1 C.2.1 dL_law_868 rfl (lv_at hl 0 rfl) ?_
  refine lv_iload_n C.1 C.2.1 dL_law_869 rfl (lv_at hl 3 rfl) ?_
  refine lv_iconst (v := (2 : Int32)) C.1 C.2.1 dL_law_870 (by decide) ?_
  refine lv_iadd C.1 C.2.1 dL_law_871 ?_
  refine va_sld (A := xA X) C.1 C.2.1 hX hbl hbA hw.2.2 (law_in hi6 hL 2 (by decide) (by decide)) dL_law_872 ?_
  refine x_gol hw (x_runV (X := X) (As := [.int (xs (nI i + (1 : Int32)).toNatClampNeg), .int (xs (nI i + (2 : Int32)).toNatClampNeg)]) (rest := []) (k := 0) (j := 0) C hw (Nat.le_of_ble_eq_true rfl) rfl rfl cV_X9_mean kw_1100 (c_X9_mean l X [] (xs (nI i + (1 : Int32)).toNatClampNeg) (xs (nI i + (2 : Int32)).toNatClampNeg) z (r, z1) hq1) ⟨(Nat.le_of_ble_eq_true rfl), (Nat.le_of_ble_eq_true rfl)⟩ rfl hl.1 rfl (Nat.le_of_ble_eq_true rfl) dL_law_873 ⟨(show 100 + i + 0 ≤ 600000 by omega), (show 3000 + 2 * i + 0 ≤ 7302250 by omega)⟩) (fun H locs hw => ?_)
  refine lv_aload_n C.1 C.2.1 dL_law_876 rfl (lv_at hl 2 rfl) ?_
  refine lv_aload_n C.1 C.2.1 dL_law_877 rfl (lv_at hl 0 rfl) ?_
  refine lv_iload_n C.1 C.2.1 dL_law_878 rfl (lv_at hl 3 rfl) ?_
  refine lv_iconst (v := (1 : Int32)) C.1 C.2.1 dL_law_879 (by decide) ?_
  refine lv_iadd C.1 C.2.1 dL_law_880 ?_
  refine va_sld (A := xA X) C.1 C.2.1 hX hbl hbA hw.2.2 (law_in hi6 hL 1 (by decide) (by decide)) dL_law_881 ?_
  refine lv_aload_n C.1 C.2.1 dL_law_882 rfl (lv_at hl 0 rfl) ?_
  refine lv_iload_n C.1 C.2.1 dL_law_883 rfl (lv_at hl 3 rfl) ?_
  refine lv_iconst (v := (2 : Int32)) C.1 C.2.1 dL_law_884 (by decide) ?_
  refine lv_iadd C.1 C.2.1 dL_law_885 ?_
  refine va_sld (A := xA X) C.1 C.2.1 hX hbl hbA hw.2.2 (law_in hi6 hL 2 (by decide) (by decide)) dL_law_886 ?_
  refine x_gol hw (x_runV (X := X) (As := [.int (xs (nI i + (1 : Int32)).toNatClampNeg), .int (xs (nI i + (2 : Int32)).toNatClampNeg)]) (rest := [.long r]) (k := 17) (j := 0) C hw (Nat.le_of_ble_eq_true rfl) rfl rfl cV_X10_mean kw_1106 (c_X10_mean l X [] (xs (nI i + (1 : Int32)).toNatClampNeg) (xs (nI i + (2 : Int32)).toNatClampNeg) z1 (r, z2) hq2) ⟨(Nat.le_of_ble_eq_true rfl), (Nat.le_of_ble_eq_true rfl)⟩ rfl hl.1 rfl (Nat.le_of_ble_eq_true rfl) dL_law_887 ⟨(show 100 + i + 0 ≤ 600000 by omega), (show 3000 + 2 * i + 0 ≤ 7302250 by omega)⟩) (fun H locs hw => ?_)
  refine W.lcmp C.1 C.2.1 dL_law_890 ?_
  refine lv_if_eq (tgt := 1240) C.1 C.2.1 dL_law_891 (by decide) (fun c1 => ?_) (fun c1 => absurd (lg_cmp_rr r) c1)
  refine W.widen (k := 100 + i + 6) (n := 3000 + 2 * i + 12) (by first | exact Nat.le_refl _ | omega | (show 100 + i ≤ 100 + i + 6; omega)) (by first | exact Nat.le_refl _ | omega | (show 3000 + 2 * i ≤ 3000 + 2 * i + 12; omega)) ?_
  exact hN X z2 hB hI2 H locs hw ls hl
set_option maxHeartbeats 4000000 in
set_option maxRecDepth 100000 in
theorem lc_19 {p : Program} {l : Launch} {e : Env} {s : State} {m : MethodId} {below : List Frame} {meth : Method} {c : Code} {b L i : Nat} {xs : Nat → Int32} (C : CallFix p m c cL_law 4 s #[Value.ref b] gtbl RL) (hX : va_X b L xs s s.heap) (hbl : b < s.heap.size) (hL : L ≤ 3072) (hi6 : i + 6 ≤ L) (hN : lw_Nx p l e s m below meth c b i 1240 (100 + i + 6) (3000 + 2 * i + 12)) : lw_Nx p l e s m below meth c b i 896 (100 + i) (3000 + 2 * i) := by
  intro X z hB hI H locs hw ls hl
  have hbA : ¬ xA X b := by unfold xA; rw [hB]; exact Nat.not_le.mpr hbl
  obtain ⟨r, z1, z2, hq1, hq2, hI2⟩ := eq_sheet z hI (xs (nI i + (1 : Int32)).toNatClampNeg) (xs (nI i + (2 : Int32)).toNatClampNeg) (xs (nI i + (3 : Int32)).toNatClampNeg)
  refine lv_aload_n C.1 C.2.1 dL_law_896 rfl (lv_at hl 1 rfl) ?_
  refine lv_aload_n C.1 C.2.1 dL_law_897 rfl (lv_at hl 0 rfl) ?_
  refine lv_iload_n C.1 C.2.1 dL_law_898 rfl (lv_at hl 3 rfl) ?_
  refine lv_iconst (v := (1 : Int32)) C.1 C.2.1 dL_law_899 (by decide) ?_
  refine lv_iadd C.1 C.2.1 dL_law_900 ?_
  refine va_sld (A := xA X) C.1 C.2.1 hX hbl hbA hw.2.2 (law_in hi6 hL 1 (by decide) (by decide)) dL_law_901 ?_
  refine lv_aload_n C.1 C.2.1 dL_law_902 rfl (lv_at hl 0 rfl) ?_
  refine lv_iload_n C.1 C.2.1 dL_law_903 rfl (lv_at hl 3 rfl) ?_
  refine lv_iconst (v := (2 : Int32)) C.1 C.2.1 dL_law_904 (by decide) ?_
  refine lv_iadd C.1 C.2.1 dL_law_905 ?_
  refine va_sld (A := xA X) C.1 C.2.1 hX hbl hbA hw.2.2 (law_in hi6 hL 2 (by decide) (by decide)) dL_law_906 ?_
  refine lv_aload_n C.1 C.2.1 dL_law_907 rfl (lv_at hl 0 rfl) ?_
  refine lv_iload_n C.1 C.2.1 dL_law_908 rfl (lv_at hl 3 rfl) ?_
  refine lv_iconst (v := (3 : Int32)) C.1 C.2.1 dL_law_909 (by decide) ?_
  refine lv_iadd C.1 C.2.1 dL_law_910 ?_
  refine va_sld (A := xA X) C.1 C.2.1 hX hbl hbA hw.2.2 (law_in hi6 hL 3 (by decide) (by decide)) dL_law_911 ?_
  refine x_goi hw (x_runV (X := X) (As := [.int (xs (nI i + (1 : Int32)).toNatClampNeg), .int (xs (nI i + (2 : Int32)).toNatClampNeg), .int (xs (nI i + (3 : Int32)).toNatClampNeg)]) (rest := []) (k := 0) (j := 0) C hw (Nat.le_of_ble_eq_true rfl) rfl rfl cV_X9_sheet kw_1112 (c_X9_sheet l X [] (xs (nI i + (1 : Int32)).toNatClampNeg) (xs (nI i + (2 : Int32)).toNatClampNeg) (xs (nI i + (3 : Int32)).toNatClampNeg) z (r, z1) hq1) ⟨(Nat.le_of_ble_eq_true rfl), (Nat.le_of_ble_eq_true rfl)⟩ rfl hl.1 rfl (Nat.le_of_ble_eq_true rfl) dL_law_912 ⟨(show 100 + i + 0 ≤ 600000 by omega), (show 3000 + 2 * i + 0 ≤ 7302250 by omega)⟩) (fun H locs hw => ?_)
  refine lv_aload_n C.1 C.2.1 dL_law_915 rfl (lv_at hl 2 rfl) ?_
  refine lv_aload_n C.1 C.2.1 dL_law_916 rfl (lv_at hl 0 rfl) ?_
  refine lv_iload_n C.1 C.2.1 dL_law_917 rfl (lv_at hl 3 rfl) ?_
  refine lv_iconst (v := (1 : Int32)) C.1 C.2.1 dL_law_918 (by decide) ?_
  refine lv_iadd C.1 C.2.1 dL_law_919 ?_
  refine va_sld (A := xA X) C.1 C.2.1 hX hbl hbA hw.2.2 (law_in hi6 hL 1 (by decide) (by decide)) dL_law_920 ?_
  refine lv_aload_n C.1 C.2.1 dL_law_921 rfl (lv_at hl 0 rfl) ?_
  refine lv_iload_n C.1 C.2.1 dL_law_922 rfl (lv_at hl 3 rfl) ?_
  refine lv_iconst (v := (2 : Int32)) C.1 C.2.1 dL_law_923 (by decide) ?_
  refine lv_iadd C.1 C.2.1 dL_law_924 ?_
  refine va_sld (A := xA X) C.1 C.2.1 hX hbl hbA hw.2.2 (law_in hi6 hL 2 (by decide) (by decide)) dL_law_925 ?_
  refine lv_aload_n C.1 C.2.1 dL_law_926 rfl (lv_at hl 0 rfl) ?_
  refine lv_iload_n C.1 C.2.1 dL_law_927 rfl (lv_at hl 3 rfl) ?_
  refine lv_iconst (v := (3 : Int32)) C.1 C.2.1 dL_law_928 (by decide) ?_
  refine lv_iadd C.1 C.2.1 dL_law_929 ?_
  refine va_sld (A := xA X) C.1 C.2.1 hX hbl hbA hw.2.2 (law_in hi6 hL 3 (by decide) (by decide)) dL_law_930 ?_
  refine x_goi hw (x_runV (X := X) (As := [.int (xs (nI i + (1 : Int32)).toNatClampNeg), .int (xs (nI i + (2 : Int32)).toNatClampNeg), .int (xs (nI i + (3 : Int32)).toNatClampNeg)]) (rest := [.int r]) (k := 17) (j := 0) C hw (Nat.le_of_ble_eq_true rfl) rfl rfl cV_X10_sheet kw_1118 (c_X10_sheet l X [] (xs (nI i + (1 : Int32)).toNatClampNeg) (xs (nI i + (2 : Int32)).toNatClampNeg) (xs (nI i + (3 : Int32)).toNatClampNeg) z1 (r, z2) hq2) ⟨(Nat.le_of_ble_eq_true rfl), (Nat.le_of_ble_eq_true rfl)⟩ rfl hl.1 rfl (Nat.le_of_ble_eq_true rfl) dL_law_931 ⟨(show 100 + i + 0 ≤ 600000 by omega), (show 3000 + 2 * i + 0 ≤ 7302250 by omega)⟩) (fun H locs hw => ?_)
  refine lv_icmp_eq (tgt := 1240) C.1 C.2.1 dL_law_934 (by decide) (fun c1 => ?_) (fun c1 => absurd rfl c1)
  refine W.widen (k := 100 + i + 6) (n := 3000 + 2 * i + 12) (by first | exact Nat.le_refl _ | omega | (show 100 + i ≤ 100 + i + 6; omega)) (by first | exact Nat.le_refl _ | omega | (show 3000 + 2 * i ≤ 3000 + 2 * i + 12; omega)) ?_
  exact hN X z2 hB hI2 H locs hw ls hl
set_option maxHeartbeats 4000000 in
set_option maxRecDepth 100000 in
theorem lc_20 {p : Program} {l : Launch} {e : Env} {s : State} {m : MethodId} {below : List Frame} {meth : Method} {c : Code} {b L i : Nat} {xs : Nat → Int32} (C : CallFix p m c cL_law 4 s #[Value.ref b] gtbl RL) (hX : va_X b L xs s s.heap) (hbl : b < s.heap.size) (hL : L ≤ 3072) (hi6 : i + 6 ≤ L) (hN : lw_Nx p l e s m below meth c b i 1240 (100 + i + 6) (3000 + 2 * i + 12)) : lw_Nx p l e s m below meth c b i 939 (100 + i) (3000 + 2 * i) := by
  intro X z hB hI H locs hw ls hl
  have hbA : ¬ xA X b := by unfold xA; rw [hB]; exact Nat.not_le.mpr hbl
  obtain ⟨r, z1, z2, hq1, hq2, hI2⟩ := eq_lose z hI (xs (nI i + (1 : Int32)).toNatClampNeg)
  refine lv_aload_n C.1 C.2.1 dL_law_939 rfl (lv_at hl 1 rfl) ?_
  refine lv_aload_n C.1 C.2.1 dL_law_940 rfl (lv_at hl 0 rfl) ?_
  refine lv_iload_n C.1 C.2.1 dL_law_941 rfl (lv_at hl 3 rfl) ?_
  refine lv_iconst (v := (1 : Int32)) C.1 C.2.1 dL_law_942 (by decide) ?_
  refine lv_iadd C.1 C.2.1 dL_law_943 ?_
  refine va_sld (A := xA X) C.1 C.2.1 hX hbl hbA hw.2.2 (law_in hi6 hL 1 (by decide) (by decide)) dL_law_944 ?_
  refine x_goi hw (x_runV (X := X) (As := [.int (xs (nI i + (1 : Int32)).toNatClampNeg)]) (rest := []) (k := 0) (j := 0) C hw (Nat.le_of_ble_eq_true rfl) rfl rfl cV_X9_lose kw_1124 (c_X9_lose l X [] (xs (nI i + (1 : Int32)).toNatClampNeg) z (r, z1) hq1) ⟨(Nat.le_of_ble_eq_true rfl), (Nat.le_of_ble_eq_true rfl)⟩ rfl hl.1 rfl (Nat.le_of_ble_eq_true rfl) dL_law_945 ⟨(show 100 + i + 0 ≤ 600000 by omega), (show 3000 + 2 * i + 0 ≤ 7302250 by omega)⟩) (fun H locs hw => ?_)
  refine lv_aload_n C.1 C.2.1 dL_law_948 rfl (lv_at hl 2 rfl) ?_
  refine lv_aload_n C.1 C.2.1 dL_law_949 rfl (lv_at hl 0 rfl) ?_
  refine lv_iload_n C.1 C.2.1 dL_law_950 rfl (lv_at hl 3 rfl) ?_
  refine lv_iconst (v := (1 : Int32)) C.1 C.2.1 dL_law_951 (by decide) ?_
  refine lv_iadd C.1 C.2.1 dL_law_952 ?_
  refine va_sld (A := xA X) C.1 C.2.1 hX hbl hbA hw.2.2 (law_in hi6 hL 1 (by decide) (by decide)) dL_law_953 ?_
  refine x_goi hw (x_runV (X := X) (As := [.int (xs (nI i + (1 : Int32)).toNatClampNeg)]) (rest := [.int r]) (k := 17) (j := 0) C hw (Nat.le_of_ble_eq_true rfl) rfl rfl cV_X10_lose kw_1130 (c_X10_lose l X [] (xs (nI i + (1 : Int32)).toNatClampNeg) z1 (r, z2) hq2) ⟨(Nat.le_of_ble_eq_true rfl), (Nat.le_of_ble_eq_true rfl)⟩ rfl hl.1 rfl (Nat.le_of_ble_eq_true rfl) dL_law_954 ⟨(show 100 + i + 0 ≤ 600000 by omega), (show 3000 + 2 * i + 0 ≤ 7302250 by omega)⟩) (fun H locs hw => ?_)
  refine lv_icmp_eq (tgt := 1240) C.1 C.2.1 dL_law_957 (by decide) (fun c1 => ?_) (fun c1 => absurd rfl c1)
  refine W.widen (k := 100 + i + 6) (n := 3000 + 2 * i + 12) (by first | exact Nat.le_refl _ | omega | (show 100 + i ≤ 100 + i + 6; omega)) (by first | exact Nat.le_refl _ | omega | (show 3000 + 2 * i ≤ 3000 + 2 * i + 12; omega)) ?_
  exact hN X z2 hB hI2 H locs hw ls hl
set_option maxHeartbeats 4000000 in
set_option maxRecDepth 100000 in
theorem lc_21 {p : Program} {l : Launch} {e : Env} {s : State} {m : MethodId} {below : List Frame} {meth : Method} {c : Code} {b L i : Nat} {xs : Nat → Int32} (C : CallFix p m c cL_law 4 s #[Value.ref b] gtbl RL) (hX : va_X b L xs s s.heap) (hbl : b < s.heap.size) (hL : L ≤ 3072) (hi6 : i + 6 ≤ L) (hN : lw_Nx p l e s m below meth c b i 1240 (100 + i + 6) (3000 + 2 * i + 12)) : lw_Nx p l e s m below meth c b i 962 (100 + i) (3000 + 2 * i) := by
  intro X z hB hI H locs hw ls hl
  have hbA : ¬ xA X b := by unfold xA; rw [hB]; exact Nat.not_le.mpr hbl
  obtain ⟨r, z1, z2, hq1, hq2, hI2⟩ := eq_put z hI (xs (nI i + (1 : Int32)).toNatClampNeg) (xs (nI i + (2 : Int32)).toNatClampNeg) (xs (nI i + (3 : Int32)).toNatClampNeg)
  refine lv_aload_n C.1 C.2.1 dL_law_962 rfl (lv_at hl 1 rfl) ?_
  refine lv_aload_n C.1 C.2.1 dL_law_963 rfl (lv_at hl 0 rfl) ?_
  refine lv_iload_n C.1 C.2.1 dL_law_964 rfl (lv_at hl 3 rfl) ?_
  refine lv_iconst (v := (1 : Int32)) C.1 C.2.1 dL_law_965 (by decide) ?_
  refine lv_iadd C.1 C.2.1 dL_law_966 ?_
  refine va_sld (A := xA X) C.1 C.2.1 hX hbl hbA hw.2.2 (law_in hi6 hL 1 (by decide) (by decide)) dL_law_967 ?_
  refine lv_aload_n C.1 C.2.1 dL_law_968 rfl (lv_at hl 0 rfl) ?_
  refine lv_iload_n C.1 C.2.1 dL_law_969 rfl (lv_at hl 3 rfl) ?_
  refine lv_iconst (v := (2 : Int32)) C.1 C.2.1 dL_law_970 (by decide) ?_
  refine lv_iadd C.1 C.2.1 dL_law_971 ?_
  refine va_sld (A := xA X) C.1 C.2.1 hX hbl hbA hw.2.2 (law_in hi6 hL 2 (by decide) (by decide)) dL_law_972 ?_
  refine lv_aload_n C.1 C.2.1 dL_law_973 rfl (lv_at hl 0 rfl) ?_
  refine lv_iload_n C.1 C.2.1 dL_law_974 rfl (lv_at hl 3 rfl) ?_
  refine lv_iconst (v := (3 : Int32)) C.1 C.2.1 dL_law_975 (by decide) ?_
  refine lv_iadd C.1 C.2.1 dL_law_976 ?_
  refine va_sld (A := xA X) C.1 C.2.1 hX hbl hbA hw.2.2 (law_in hi6 hL 3 (by decide) (by decide)) dL_law_977 ?_
  refine x_goi hw (x_runV (X := X) (As := [.int (xs (nI i + (1 : Int32)).toNatClampNeg), .int (xs (nI i + (2 : Int32)).toNatClampNeg), .int (xs (nI i + (3 : Int32)).toNatClampNeg)]) (rest := []) (k := 0) (j := 0) C hw (Nat.le_of_ble_eq_true rfl) rfl rfl cV_X9_put kw_1136 (c_X9_put l X [] (xs (nI i + (1 : Int32)).toNatClampNeg) (xs (nI i + (2 : Int32)).toNatClampNeg) (xs (nI i + (3 : Int32)).toNatClampNeg) z (r, z1) hq1) ⟨(Nat.le_of_ble_eq_true rfl), (Nat.le_of_ble_eq_true rfl)⟩ rfl hl.1 rfl (Nat.le_of_ble_eq_true rfl) dL_law_978 ⟨(show 100 + i + 0 ≤ 600000 by omega), (show 3000 + 2 * i + 0 ≤ 7302250 by omega)⟩) (fun H locs hw => ?_)
  refine lv_aload_n C.1 C.2.1 dL_law_981 rfl (lv_at hl 2 rfl) ?_
  refine lv_aload_n C.1 C.2.1 dL_law_982 rfl (lv_at hl 0 rfl) ?_
  refine lv_iload_n C.1 C.2.1 dL_law_983 rfl (lv_at hl 3 rfl) ?_
  refine lv_iconst (v := (1 : Int32)) C.1 C.2.1 dL_law_984 (by decide) ?_
  refine lv_iadd C.1 C.2.1 dL_law_985 ?_
  refine va_sld (A := xA X) C.1 C.2.1 hX hbl hbA hw.2.2 (law_in hi6 hL 1 (by decide) (by decide)) dL_law_986 ?_
  refine lv_aload_n C.1 C.2.1 dL_law_987 rfl (lv_at hl 0 rfl) ?_
  refine lv_iload_n C.1 C.2.1 dL_law_988 rfl (lv_at hl 3 rfl) ?_
  refine lv_iconst (v := (2 : Int32)) C.1 C.2.1 dL_law_989 (by decide) ?_
  refine lv_iadd C.1 C.2.1 dL_law_990 ?_
  refine va_sld (A := xA X) C.1 C.2.1 hX hbl hbA hw.2.2 (law_in hi6 hL 2 (by decide) (by decide)) dL_law_991 ?_
  refine lv_aload_n C.1 C.2.1 dL_law_992 rfl (lv_at hl 0 rfl) ?_
  refine lv_iload_n C.1 C.2.1 dL_law_993 rfl (lv_at hl 3 rfl) ?_
  refine lv_iconst (v := (3 : Int32)) C.1 C.2.1 dL_law_994 (by decide) ?_
  refine lv_iadd C.1 C.2.1 dL_law_995 ?_
  refine va_sld (A := xA X) C.1 C.2.1 hX hbl hbA hw.2.2 (law_in hi6 hL 3 (by decide) (by decide)) dL_law_996 ?_
  refine x_goi hw (x_runV (X := X) (As := [.int (xs (nI i + (1 : Int32)).toNatClampNeg), .int (xs (nI i + (2 : Int32)).toNatClampNeg), .int (xs (nI i + (3 : Int32)).toNatClampNeg)]) (rest := [.int r]) (k := 17) (j := 0) C hw (Nat.le_of_ble_eq_true rfl) rfl rfl cV_X10_put kw_1142 (c_X10_put l X [] (xs (nI i + (1 : Int32)).toNatClampNeg) (xs (nI i + (2 : Int32)).toNatClampNeg) (xs (nI i + (3 : Int32)).toNatClampNeg) z1 (r, z2) hq2) ⟨(Nat.le_of_ble_eq_true rfl), (Nat.le_of_ble_eq_true rfl)⟩ rfl hl.1 rfl (Nat.le_of_ble_eq_true rfl) dL_law_997 ⟨(show 100 + i + 0 ≤ 600000 by omega), (show 3000 + 2 * i + 0 ≤ 7302250 by omega)⟩) (fun H locs hw => ?_)
  refine lv_icmp_eq (tgt := 1240) C.1 C.2.1 dL_law_1000 (by decide) (fun c1 => ?_) (fun c1 => absurd rfl c1)
  refine W.widen (k := 100 + i + 6) (n := 3000 + 2 * i + 12) (by first | exact Nat.le_refl _ | omega | (show 100 + i ≤ 100 + i + 6; omega)) (by first | exact Nat.le_refl _ | omega | (show 3000 + 2 * i ≤ 3000 + 2 * i + 12; omega)) ?_
  exact hN X z2 hB hI2 H locs hw ls hl
set_option maxHeartbeats 4000000 in
set_option maxRecDepth 100000 in
theorem lc_22 {p : Program} {l : Launch} {e : Env} {s : State} {m : MethodId} {below : List Frame} {meth : Method} {c : Code} {b L i : Nat} {xs : Nat → Int32} (C : CallFix p m c cL_law 4 s #[Value.ref b] gtbl RL) (hX : va_X b L xs s s.heap) (hbl : b < s.heap.size) (hL : L ≤ 3072) (hi6 : i + 6 ≤ L) (hN : lw_Nx p l e s m below meth c b i 1240 (100 + i + 6) (3000 + 2 * i + 12)) : lw_Nx p l e s m below meth c b i 1005 (100 + i) (3000 + 2 * i) := by
  intro X z hB hI H locs hw ls hl
  have hbA : ¬ xA X b := by unfold xA; rw [hB]; exact Nat.not_le.mpr hbl
  obtain ⟨r, z1, z2, hq1, hq2, hI2⟩ := eq_cell z hI (xs (nI i + (1 : Int32)).toNatClampNeg) (xs (nI i + (2 : Int32)).toNatClampNeg) (xs (nI i + (3 : Int32)).toNatClampNeg)
  refine lv_aload_n C.1 C.2.1 dL_law_1005 rfl (lv_at hl 1 rfl) ?_
  refine lv_aload_n C.1 C.2.1 dL_law_1006 rfl (lv_at hl 0 rfl) ?_
  refine lv_iload_n C.1 C.2.1 dL_law_1007 rfl (lv_at hl 3 rfl) ?_
  refine lv_iconst (v := (1 : Int32)) C.1 C.2.1 dL_law_1008 (by decide) ?_
  refine lv_iadd C.1 C.2.1 dL_law_1009 ?_
  refine va_sld (A := xA X) C.1 C.2.1 hX hbl hbA hw.2.2 (law_in hi6 hL 1 (by decide) (by decide)) dL_law_1010 ?_
  refine lv_aload_n C.1 C.2.1 dL_law_1011 rfl (lv_at hl 0 rfl) ?_
  refine lv_iload_n C.1 C.2.1 dL_law_1012 rfl (lv_at hl 3 rfl) ?_
  refine lv_iconst (v := (2 : Int32)) C.1 C.2.1 dL_law_1013 (by decide) ?_
  refine lv_iadd C.1 C.2.1 dL_law_1014 ?_
  refine va_sld (A := xA X) C.1 C.2.1 hX hbl hbA hw.2.2 (law_in hi6 hL 2 (by decide) (by decide)) dL_law_1015 ?_
  refine lv_aload_n C.1 C.2.1 dL_law_1016 rfl (lv_at hl 0 rfl) ?_
  refine lv_iload_n C.1 C.2.1 dL_law_1017 rfl (lv_at hl 3 rfl) ?_
  refine lv_iconst (v := (3 : Int32)) C.1 C.2.1 dL_law_1018 (by decide) ?_
  refine lv_iadd C.1 C.2.1 dL_law_1019 ?_
  refine va_sld (A := xA X) C.1 C.2.1 hX hbl hbA hw.2.2 (law_in hi6 hL 3 (by decide) (by decide)) dL_law_1020 ?_
  refine x_gol hw (x_runV (X := X) (As := [.int (xs (nI i + (1 : Int32)).toNatClampNeg), .int (xs (nI i + (2 : Int32)).toNatClampNeg), .int (xs (nI i + (3 : Int32)).toNatClampNeg)]) (rest := []) (k := 0) (j := 0) C hw (Nat.le_of_ble_eq_true rfl) rfl rfl cV_X9_cell kw_1148 (c_X9_cell l X [] (xs (nI i + (1 : Int32)).toNatClampNeg) (xs (nI i + (2 : Int32)).toNatClampNeg) (xs (nI i + (3 : Int32)).toNatClampNeg) z (r, z1) hq1) ⟨(Nat.le_of_ble_eq_true rfl), (Nat.le_of_ble_eq_true rfl)⟩ rfl hl.1 rfl (Nat.le_of_ble_eq_true rfl) dL_law_1021 ⟨(show 100 + i + 0 ≤ 600000 by omega), (show 3000 + 2 * i + 0 ≤ 7302250 by omega)⟩) (fun H locs hw => ?_)
  refine lv_aload_n C.1 C.2.1 dL_law_1024 rfl (lv_at hl 2 rfl) ?_
  refine lv_aload_n C.1 C.2.1 dL_law_1025 rfl (lv_at hl 0 rfl) ?_
  refine lv_iload_n C.1 C.2.1 dL_law_1026 rfl (lv_at hl 3 rfl) ?_
  refine lv_iconst (v := (1 : Int32)) C.1 C.2.1 dL_law_1027 (by decide) ?_
  refine lv_iadd C.1 C.2.1 dL_law_1028 ?_
  refine va_sld (A := xA X) C.1 C.2.1 hX hbl hbA hw.2.2 (law_in hi6 hL 1 (by decide) (by decide)) dL_law_1029 ?_
  refine lv_aload_n C.1 C.2.1 dL_law_1030 rfl (lv_at hl 0 rfl) ?_
  refine lv_iload_n C.1 C.2.1 dL_law_1031 rfl (lv_at hl 3 rfl) ?_
  refine lv_iconst (v := (2 : Int32)) C.1 C.2.1 dL_law_1032 (by decide) ?_
  refine lv_iadd C.1 C.2.1 dL_law_1033 ?_
  refine va_sld (A := xA X) C.1 C.2.1 hX hbl hbA hw.2.2 (law_in hi6 hL 2 (by decide) (by decide)) dL_law_1034 ?_
  refine lv_aload_n C.1 C.2.1 dL_law_1035 rfl (lv_at hl 0 rfl) ?_
  refine lv_iload_n C.1 C.2.1 dL_law_1036 rfl (lv_at hl 3 rfl) ?_
  refine lv_iconst (v := (3 : Int32)) C.1 C.2.1 dL_law_1037 (by decide) ?_
  refine lv_iadd C.1 C.2.1 dL_law_1038 ?_
  refine va_sld (A := xA X) C.1 C.2.1 hX hbl hbA hw.2.2 (law_in hi6 hL 3 (by decide) (by decide)) dL_law_1039 ?_
  refine x_gol hw (x_runV (X := X) (As := [.int (xs (nI i + (1 : Int32)).toNatClampNeg), .int (xs (nI i + (2 : Int32)).toNatClampNeg), .int (xs (nI i + (3 : Int32)).toNatClampNeg)]) (rest := [.long r]) (k := 17) (j := 0) C hw (Nat.le_of_ble_eq_true rfl) rfl rfl cV_X10_cell kw_1154 (c_X10_cell l X [] (xs (nI i + (1 : Int32)).toNatClampNeg) (xs (nI i + (2 : Int32)).toNatClampNeg) (xs (nI i + (3 : Int32)).toNatClampNeg) z1 (r, z2) hq2) ⟨(Nat.le_of_ble_eq_true rfl), (Nat.le_of_ble_eq_true rfl)⟩ rfl hl.1 rfl (Nat.le_of_ble_eq_true rfl) dL_law_1040 ⟨(show 100 + i + 0 ≤ 600000 by omega), (show 3000 + 2 * i + 0 ≤ 7302250 by omega)⟩) (fun H locs hw => ?_)
  refine W.lcmp C.1 C.2.1 dL_law_1043 ?_
  refine lv_if_eq (tgt := 1240) C.1 C.2.1 dL_law_1044 (by decide) (fun c1 => ?_) (fun c1 => absurd (lg_cmp_rr r) c1)
  refine W.widen (k := 100 + i + 6) (n := 3000 + 2 * i + 12) (by first | exact Nat.le_refl _ | omega | (show 100 + i ≤ 100 + i + 6; omega)) (by first | exact Nat.le_refl _ | omega | (show 3000 + 2 * i ≤ 3000 + 2 * i + 12; omega)) ?_
  exact hN X z2 hB hI2 H locs hw ls hl
set_option maxHeartbeats 4000000 in
set_option maxRecDepth 100000 in
theorem lc_23 {p : Program} {l : Launch} {e : Env} {s : State} {m : MethodId} {below : List Frame} {meth : Method} {c : Code} {b L i : Nat} {xs : Nat → Int32} (C : CallFix p m c cL_law 4 s #[Value.ref b] gtbl RL) (hX : va_X b L xs s s.heap) (hbl : b < s.heap.size) (hL : L ≤ 3072) (hi6 : i + 6 ≤ L) (hN : lw_Nx p l e s m below meth c b i 1240 (100 + i + 6) (3000 + 2 * i + 12)) : lw_Nx p l e s m below meth c b i 1049 (100 + i) (3000 + 2 * i) := by
  intro X z hB hI H locs hw ls hl
  have hbA : ¬ xA X b := by unfold xA; rw [hB]; exact Nat.not_le.mpr hbl
  obtain ⟨r, z1, z2, hq1, hq2, hI2⟩ := eq_copy z hI (xs (nI i + (1 : Int32)).toNatClampNeg) (xs (nI i + (2 : Int32)).toNatClampNeg) (xs (nI i + (3 : Int32)).toNatClampNeg) (xs (nI i + (4 : Int32)).toNatClampNeg) (xs (nI i + (5 : Int32)).toNatClampNeg)
  refine lv_aload_n C.1 C.2.1 dL_law_1049 rfl (lv_at hl 1 rfl) ?_
  refine lv_aload_n C.1 C.2.1 dL_law_1050 rfl (lv_at hl 0 rfl) ?_
  refine lv_iload_n C.1 C.2.1 dL_law_1051 rfl (lv_at hl 3 rfl) ?_
  refine lv_iconst (v := (1 : Int32)) C.1 C.2.1 dL_law_1052 (by decide) ?_
  refine lv_iadd C.1 C.2.1 dL_law_1053 ?_
  refine va_sld (A := xA X) C.1 C.2.1 hX hbl hbA hw.2.2 (law_in hi6 hL 1 (by decide) (by decide)) dL_law_1054 ?_
  refine lv_aload_n C.1 C.2.1 dL_law_1055 rfl (lv_at hl 0 rfl) ?_
  refine lv_iload_n C.1 C.2.1 dL_law_1056 rfl (lv_at hl 3 rfl) ?_
  refine lv_iconst (v := (2 : Int32)) C.1 C.2.1 dL_law_1057 (by decide) ?_
  refine lv_iadd C.1 C.2.1 dL_law_1058 ?_
  refine va_sld (A := xA X) C.1 C.2.1 hX hbl hbA hw.2.2 (law_in hi6 hL 2 (by decide) (by decide)) dL_law_1059 ?_
  refine lv_aload_n C.1 C.2.1 dL_law_1060 rfl (lv_at hl 0 rfl) ?_
  refine lv_iload_n C.1 C.2.1 dL_law_1061 rfl (lv_at hl 3 rfl) ?_
  refine lv_iconst (v := (3 : Int32)) C.1 C.2.1 dL_law_1062 (by decide) ?_
  refine lv_iadd C.1 C.2.1 dL_law_1063 ?_
  refine va_sld (A := xA X) C.1 C.2.1 hX hbl hbA hw.2.2 (law_in hi6 hL 3 (by decide) (by decide)) dL_law_1064 ?_
  refine lv_aload_n C.1 C.2.1 dL_law_1065 rfl (lv_at hl 0 rfl) ?_
  refine lv_iload_n C.1 C.2.1 dL_law_1066 rfl (lv_at hl 3 rfl) ?_
  refine lv_iconst (v := (4 : Int32)) C.1 C.2.1 dL_law_1067 (by decide) ?_
  refine lv_iadd C.1 C.2.1 dL_law_1068 ?_
  refine va_sld (A := xA X) C.1 C.2.1 hX hbl hbA hw.2.2 (law_in hi6 hL 4 (by decide) (by decide)) dL_law_1069 ?_
  refine lv_aload_n C.1 C.2.1 dL_law_1070 rfl (lv_at hl 0 rfl) ?_
  refine lv_iload_n C.1 C.2.1 dL_law_1071 rfl (lv_at hl 3 rfl) ?_
  refine lv_iconst (v := (5 : Int32)) C.1 C.2.1 dL_law_1072 (by decide) ?_
  refine lv_iadd C.1 C.2.1 dL_law_1073 ?_
  refine va_sld (A := xA X) C.1 C.2.1 hX hbl hbA hw.2.2 (law_in hi6 hL 5 (by decide) (by decide)) dL_law_1074 ?_
  refine x_goi hw (x_runV (X := X) (As := [.int (xs (nI i + (1 : Int32)).toNatClampNeg), .int (xs (nI i + (2 : Int32)).toNatClampNeg), .int (xs (nI i + (3 : Int32)).toNatClampNeg), .int (xs (nI i + (4 : Int32)).toNatClampNeg), .int (xs (nI i + (5 : Int32)).toNatClampNeg)]) (rest := []) (k := 0) (j := 0) C hw (Nat.le_of_ble_eq_true rfl) rfl rfl cV_X9_copy kw_1160 (c_X9_copy l X [] (xs (nI i + (1 : Int32)).toNatClampNeg) (xs (nI i + (2 : Int32)).toNatClampNeg) (xs (nI i + (3 : Int32)).toNatClampNeg) (xs (nI i + (4 : Int32)).toNatClampNeg) (xs (nI i + (5 : Int32)).toNatClampNeg) z (r, z1) hq1) ⟨(Nat.le_of_ble_eq_true rfl), (Nat.le_of_ble_eq_true rfl)⟩ rfl hl.1 rfl (Nat.le_of_ble_eq_true rfl) dL_law_1075 ⟨(show 100 + i + 0 ≤ 600000 by omega), (show 3000 + 2 * i + 0 ≤ 7302250 by omega)⟩) (fun H locs hw => ?_)
  refine lv_aload_n C.1 C.2.1 dL_law_1078 rfl (lv_at hl 2 rfl) ?_
  refine lv_aload_n C.1 C.2.1 dL_law_1079 rfl (lv_at hl 0 rfl) ?_
  refine lv_iload_n C.1 C.2.1 dL_law_1080 rfl (lv_at hl 3 rfl) ?_
  refine lv_iconst (v := (1 : Int32)) C.1 C.2.1 dL_law_1081 (by decide) ?_
  refine lv_iadd C.1 C.2.1 dL_law_1082 ?_
  refine va_sld (A := xA X) C.1 C.2.1 hX hbl hbA hw.2.2 (law_in hi6 hL 1 (by decide) (by decide)) dL_law_1083 ?_
  refine lv_aload_n C.1 C.2.1 dL_law_1084 rfl (lv_at hl 0 rfl) ?_
  refine lv_iload_n C.1 C.2.1 dL_law_1085 rfl (lv_at hl 3 rfl) ?_
  refine lv_iconst (v := (2 : Int32)) C.1 C.2.1 dL_law_1086 (by decide) ?_
  refine lv_iadd C.1 C.2.1 dL_law_1087 ?_
  refine va_sld (A := xA X) C.1 C.2.1 hX hbl hbA hw.2.2 (law_in hi6 hL 2 (by decide) (by decide)) dL_law_1088 ?_
  refine lv_aload_n C.1 C.2.1 dL_law_1089 rfl (lv_at hl 0 rfl) ?_
  refine lv_iload_n C.1 C.2.1 dL_law_1090 rfl (lv_at hl 3 rfl) ?_
  refine lv_iconst (v := (3 : Int32)) C.1 C.2.1 dL_law_1091 (by decide) ?_
  refine lv_iadd C.1 C.2.1 dL_law_1092 ?_
  refine va_sld (A := xA X) C.1 C.2.1 hX hbl hbA hw.2.2 (law_in hi6 hL 3 (by decide) (by decide)) dL_law_1093 ?_
  refine lv_aload_n C.1 C.2.1 dL_law_1094 rfl (lv_at hl 0 rfl) ?_
  refine lv_iload_n C.1 C.2.1 dL_law_1095 rfl (lv_at hl 3 rfl) ?_
  refine lv_iconst (v := (4 : Int32)) C.1 C.2.1 dL_law_1096 (by decide) ?_
  refine lv_iadd C.1 C.2.1 dL_law_1097 ?_
  refine va_sld (A := xA X) C.1 C.2.1 hX hbl hbA hw.2.2 (law_in hi6 hL 4 (by decide) (by decide)) dL_law_1098 ?_
  refine lv_aload_n C.1 C.2.1 dL_law_1099 rfl (lv_at hl 0 rfl) ?_
  refine lv_iload_n C.1 C.2.1 dL_law_1100 rfl (lv_at hl 3 rfl) ?_
  refine lv_iconst (v := (5 : Int32)) C.1 C.2.1 dL_law_1101 (by decide) ?_
  refine lv_iadd C.1 C.2.1 dL_law_1102 ?_
  refine va_sld (A := xA X) C.1 C.2.1 hX hbl hbA hw.2.2 (law_in hi6 hL 5 (by decide) (by decide)) dL_law_1103 ?_
  refine x_goi hw (x_runV (X := X) (As := [.int (xs (nI i + (1 : Int32)).toNatClampNeg), .int (xs (nI i + (2 : Int32)).toNatClampNeg), .int (xs (nI i + (3 : Int32)).toNatClampNeg), .int (xs (nI i + (4 : Int32)).toNatClampNeg), .int (xs (nI i + (5 : Int32)).toNatClampNeg)]) (rest := [.int r]) (k := 17) (j := 0) C hw (Nat.le_of_ble_eq_true rfl) rfl rfl cV_X10_copy kw_1166 (c_X10_copy l X [] (xs (nI i + (1 : Int32)).toNatClampNeg) (xs (nI i + (2 : Int32)).toNatClampNeg) (xs (nI i + (3 : Int32)).toNatClampNeg) (xs (nI i + (4 : Int32)).toNatClampNeg) (xs (nI i + (5 : Int32)).toNatClampNeg) z1 (r, z2) hq2) ⟨(Nat.le_of_ble_eq_true rfl), (Nat.le_of_ble_eq_true rfl)⟩ rfl hl.1 rfl (Nat.le_of_ble_eq_true rfl) dL_law_1104 ⟨(show 100 + i + 0 ≤ 600000 by omega), (show 3000 + 2 * i + 0 ≤ 7302250 by omega)⟩) (fun H locs hw => ?_)
  refine lv_icmp_eq (tgt := 1240) C.1 C.2.1 dL_law_1107 (by decide) (fun c1 => ?_) (fun c1 => absurd rfl c1)
  refine W.widen (k := 100 + i + 6) (n := 3000 + 2 * i + 12) (by first | exact Nat.le_refl _ | omega | (show 100 + i ≤ 100 + i + 6; omega)) (by first | exact Nat.le_refl _ | omega | (show 3000 + 2 * i ≤ 3000 + 2 * i + 12; omega)) ?_
  exact hN X z2 hB hI2 H locs hw ls hl
set_option maxHeartbeats 4000000 in
set_option maxRecDepth 100000 in
theorem lc_24 {p : Program} {l : Launch} {e : Env} {s : State} {m : MethodId} {below : List Frame} {meth : Method} {c : Code} {b L i : Nat} {xs : Nat → Int32} (C : CallFix p m c cL_law 4 s #[Value.ref b] gtbl RL) (hX : va_X b L xs s s.heap) (hbl : b < s.heap.size) (hL : L ≤ 3072) (hi6 : i + 6 ≤ L) (hN : lw_Nx p l e s m below meth c b i 1240 (100 + i + 6) (3000 + 2 * i + 12)) : lw_Nx p l e s m below meth c b i 1112 (100 + i) (3000 + 2 * i) := by
  intro X z hB hI H locs hw ls hl
  have hbA : ¬ xA X b := by unfold xA; rw [hB]; exact Nat.not_le.mpr hbl
  obtain ⟨r, z1, z2, hq1, hq2, hI2⟩ := eq_tell z hI (xs (nI i + (1 : Int32)).toNatClampNeg)
  refine lv_aload_n C.1 C.2.1 dL_law_1112 rfl (lv_at hl 1 rfl) ?_
  refine lv_aload_n C.1 C.2.1 dL_law_1113 rfl (lv_at hl 0 rfl) ?_
  refine lv_iload_n C.1 C.2.1 dL_law_1114 rfl (lv_at hl 3 rfl) ?_
  refine lv_iconst (v := (1 : Int32)) C.1 C.2.1 dL_law_1115 (by decide) ?_
  refine lv_iadd C.1 C.2.1 dL_law_1116 ?_
  refine va_sld (A := xA X) C.1 C.2.1 hX hbl hbA hw.2.2 (law_in hi6 hL 1 (by decide) (by decide)) dL_law_1117 ?_
  refine x_goi hw (x_runV (X := X) (As := [.int (xs (nI i + (1 : Int32)).toNatClampNeg)]) (rest := []) (k := 0) (j := 0) C hw (Nat.le_of_ble_eq_true rfl) rfl rfl cV_X9_tell kw_1172 (c_X9_tell l X [] (xs (nI i + (1 : Int32)).toNatClampNeg) z (r, z1) hq1) ⟨(Nat.le_of_ble_eq_true rfl), (Nat.le_of_ble_eq_true rfl)⟩ rfl hl.1 rfl (Nat.le_of_ble_eq_true rfl) dL_law_1118 ⟨(show 100 + i + 0 ≤ 600000 by omega), (show 3000 + 2 * i + 0 ≤ 7302250 by omega)⟩) (fun H locs hw => ?_)
  refine lv_aload_n C.1 C.2.1 dL_law_1121 rfl (lv_at hl 2 rfl) ?_
  refine lv_aload_n C.1 C.2.1 dL_law_1122 rfl (lv_at hl 0 rfl) ?_
  refine lv_iload_n C.1 C.2.1 dL_law_1123 rfl (lv_at hl 3 rfl) ?_
  refine lv_iconst (v := (1 : Int32)) C.1 C.2.1 dL_law_1124 (by decide) ?_
  refine lv_iadd C.1 C.2.1 dL_law_1125 ?_
  refine va_sld (A := xA X) C.1 C.2.1 hX hbl hbA hw.2.2 (law_in hi6 hL 1 (by decide) (by decide)) dL_law_1126 ?_
  refine x_goi hw (x_runV (X := X) (As := [.int (xs (nI i + (1 : Int32)).toNatClampNeg)]) (rest := [.int r]) (k := 17) (j := 0) C hw (Nat.le_of_ble_eq_true rfl) rfl rfl cV_X10_tell kw_1178 (c_X10_tell l X [] (xs (nI i + (1 : Int32)).toNatClampNeg) z1 (r, z2) hq2) ⟨(Nat.le_of_ble_eq_true rfl), (Nat.le_of_ble_eq_true rfl)⟩ rfl hl.1 rfl (Nat.le_of_ble_eq_true rfl) dL_law_1127 ⟨(show 100 + i + 0 ≤ 600000 by omega), (show 3000 + 2 * i + 0 ≤ 7302250 by omega)⟩) (fun H locs hw => ?_)
  refine lv_icmp_eq (tgt := 1240) C.1 C.2.1 dL_law_1130 (by decide) (fun c1 => ?_) (fun c1 => absurd rfl c1)
  refine W.widen (k := 100 + i + 6) (n := 3000 + 2 * i + 12) (by first | exact Nat.le_refl _ | omega | (show 100 + i ≤ 100 + i + 6; omega)) (by first | exact Nat.le_refl _ | omega | (show 3000 + 2 * i ≤ 3000 + 2 * i + 12; omega)) ?_
  exact hN X z2 hB hI2 H locs hw ls hl
set_option maxHeartbeats 4000000 in
set_option maxRecDepth 100000 in
theorem lc_25 {p : Program} {l : Launch} {e : Env} {s : State} {m : MethodId} {below : List Frame} {meth : Method} {c : Code} {b L i : Nat} {xs : Nat → Int32} (C : CallFix p m c cL_law 4 s #[Value.ref b] gtbl RL) (hX : va_X b L xs s s.heap) (hbl : b < s.heap.size) (hL : L ≤ 3072) (hi6 : i + 6 ≤ L) (hN : lw_Nx p l e s m below meth c b i 1240 (100 + i + 6) (3000 + 2 * i + 12)) : lw_Nx p l e s m below meth c b i 1135 (100 + i) (3000 + 2 * i) := by
  intro X z hB hI H locs hw ls hl
  have hbA : ¬ xA X b := by unfold xA; rw [hB]; exact Nat.not_le.mpr hbl
  obtain ⟨r, z1, z2, hq1, hq2, hI2⟩ := eq_lean z hI (xs (nI i + (1 : Int32)).toNatClampNeg)
  refine lv_aload_n C.1 C.2.1 dL_law_1135 rfl (lv_at hl 1 rfl) ?_
  refine lv_aload_n C.1 C.2.1 dL_law_1136 rfl (lv_at hl 0 rfl) ?_
  refine lv_iload_n C.1 C.2.1 dL_law_1137 rfl (lv_at hl 3 rfl) ?_
  refine lv_iconst (v := (1 : Int32)) C.1 C.2.1 dL_law_1138 (by decide) ?_
  refine lv_iadd C.1 C.2.1 dL_law_1139 ?_
  refine va_sld (A := xA X) C.1 C.2.1 hX hbl hbA hw.2.2 (law_in hi6 hL 1 (by decide) (by decide)) dL_law_1140 ?_
  refine x_goi hw (x_runV (X := X) (As := [.int (xs (nI i + (1 : Int32)).toNatClampNeg)]) (rest := []) (k := 0) (j := 0) C hw (Nat.le_of_ble_eq_true rfl) rfl rfl cV_X9_lean kw_1184 (c_X9_lean l X [] (xs (nI i + (1 : Int32)).toNatClampNeg) z (r, z1) hq1) ⟨(Nat.le_of_ble_eq_true rfl), (Nat.le_of_ble_eq_true rfl)⟩ rfl hl.1 rfl (Nat.le_of_ble_eq_true rfl) dL_law_1141 ⟨(show 100 + i + 0 ≤ 600000 by omega), (show 3000 + 2 * i + 0 ≤ 7302250 by omega)⟩) (fun H locs hw => ?_)
  refine lv_aload_n C.1 C.2.1 dL_law_1144 rfl (lv_at hl 2 rfl) ?_
  refine lv_aload_n C.1 C.2.1 dL_law_1145 rfl (lv_at hl 0 rfl) ?_
  refine lv_iload_n C.1 C.2.1 dL_law_1146 rfl (lv_at hl 3 rfl) ?_
  refine lv_iconst (v := (1 : Int32)) C.1 C.2.1 dL_law_1147 (by decide) ?_
  refine lv_iadd C.1 C.2.1 dL_law_1148 ?_
  refine va_sld (A := xA X) C.1 C.2.1 hX hbl hbA hw.2.2 (law_in hi6 hL 1 (by decide) (by decide)) dL_law_1149 ?_
  refine x_goi hw (x_runV (X := X) (As := [.int (xs (nI i + (1 : Int32)).toNatClampNeg)]) (rest := [.int r]) (k := 17) (j := 0) C hw (Nat.le_of_ble_eq_true rfl) rfl rfl cV_X10_lean kw_1190 (c_X10_lean l X [] (xs (nI i + (1 : Int32)).toNatClampNeg) z1 (r, z2) hq2) ⟨(Nat.le_of_ble_eq_true rfl), (Nat.le_of_ble_eq_true rfl)⟩ rfl hl.1 rfl (Nat.le_of_ble_eq_true rfl) dL_law_1150 ⟨(show 100 + i + 0 ≤ 600000 by omega), (show 3000 + 2 * i + 0 ≤ 7302250 by omega)⟩) (fun H locs hw => ?_)
  refine lv_icmp_eq (tgt := 1240) C.1 C.2.1 dL_law_1153 (by decide) (fun c1 => ?_) (fun c1 => absurd rfl c1)
  refine W.widen (k := 100 + i + 6) (n := 3000 + 2 * i + 12) (by first | exact Nat.le_refl _ | omega | (show 100 + i ≤ 100 + i + 6; omega)) (by first | exact Nat.le_refl _ | omega | (show 3000 + 2 * i ≤ 3000 + 2 * i + 12; omega)) ?_
  exact hN X z2 hB hI2 H locs hw ls hl
set_option maxHeartbeats 4000000 in
set_option maxRecDepth 100000 in
theorem lc_26 {p : Program} {l : Launch} {e : Env} {s : State} {m : MethodId} {below : List Frame} {meth : Method} {c : Code} {b L i : Nat} {xs : Nat → Int32} (C : CallFix p m c cL_law 4 s #[Value.ref b] gtbl RL) (hX : va_X b L xs s s.heap) (hbl : b < s.heap.size) (hL : L ≤ 3072) (hi6 : i + 6 ≤ L) (hN : lw_Nx p l e s m below meth c b i 1240 (100 + i + 6) (3000 + 2 * i + 12)) : lw_Nx p l e s m below meth c b i 1158 (100 + i) (3000 + 2 * i) := by
  intro X z hB hI H locs hw ls hl
  have hbA : ¬ xA X b := by unfold xA; rw [hB]; exact Nat.not_le.mpr hbl
  obtain ⟨r, z1, z2, hq1, hq2, hI2⟩ := eq_as z hI (xs (nI i + (1 : Int32)).toNatClampNeg) (xs (nI i + (2 : Int32)).toNatClampNeg)
  refine lv_aload_n C.1 C.2.1 dL_law_1158 rfl (lv_at hl 1 rfl) ?_
  refine lv_aload_n C.1 C.2.1 dL_law_1159 rfl (lv_at hl 0 rfl) ?_
  refine lv_iload_n C.1 C.2.1 dL_law_1160 rfl (lv_at hl 3 rfl) ?_
  refine lv_iconst (v := (1 : Int32)) C.1 C.2.1 dL_law_1161 (by decide) ?_
  refine lv_iadd C.1 C.2.1 dL_law_1162 ?_
  refine va_sld (A := xA X) C.1 C.2.1 hX hbl hbA hw.2.2 (law_in hi6 hL 1 (by decide) (by decide)) dL_law_1163 ?_
  refine lv_aload_n C.1 C.2.1 dL_law_1164 rfl (lv_at hl 0 rfl) ?_
  refine lv_iload_n C.1 C.2.1 dL_law_1165 rfl (lv_at hl 3 rfl) ?_
  refine lv_iconst (v := (2 : Int32)) C.1 C.2.1 dL_law_1166 (by decide) ?_
  refine lv_iadd C.1 C.2.1 dL_law_1167 ?_
  refine va_sld (A := xA X) C.1 C.2.1 hX hbl hbA hw.2.2 (law_in hi6 hL 2 (by decide) (by decide)) dL_law_1168 ?_
  refine x_goi hw (x_runV (X := X) (As := [.int (xs (nI i + (1 : Int32)).toNatClampNeg), .int (xs (nI i + (2 : Int32)).toNatClampNeg)]) (rest := []) (k := 0) (j := 0) C hw (Nat.le_of_ble_eq_true rfl) rfl rfl cV_X9_as kw_1196 (c_X9_as l X [] (xs (nI i + (1 : Int32)).toNatClampNeg) (xs (nI i + (2 : Int32)).toNatClampNeg) z (r, z1) hq1) ⟨(Nat.le_of_ble_eq_true rfl), (Nat.le_of_ble_eq_true rfl)⟩ rfl hl.1 rfl (Nat.le_of_ble_eq_true rfl) dL_law_1169 ⟨(show 100 + i + 0 ≤ 600000 by omega), (show 3000 + 2 * i + 0 ≤ 7302250 by omega)⟩) (fun H locs hw => ?_)
  refine lv_aload_n C.1 C.2.1 dL_law_1172 rfl (lv_at hl 2 rfl) ?_
  refine lv_aload_n C.1 C.2.1 dL_law_1173 rfl (lv_at hl 0 rfl) ?_
  refine lv_iload_n C.1 C.2.1 dL_law_1174 rfl (lv_at hl 3 rfl) ?_
  refine lv_iconst (v := (1 : Int32)) C.1 C.2.1 dL_law_1175 (by decide) ?_
  refine lv_iadd C.1 C.2.1 dL_law_1176 ?_
  refine va_sld (A := xA X) C.1 C.2.1 hX hbl hbA hw.2.2 (law_in hi6 hL 1 (by decide) (by decide)) dL_law_1177 ?_
  refine lv_aload_n C.1 C.2.1 dL_law_1178 rfl (lv_at hl 0 rfl) ?_
  refine lv_iload_n C.1 C.2.1 dL_law_1179 rfl (lv_at hl 3 rfl) ?_
  refine lv_iconst (v := (2 : Int32)) C.1 C.2.1 dL_law_1180 (by decide) ?_
  refine lv_iadd C.1 C.2.1 dL_law_1181 ?_
  refine va_sld (A := xA X) C.1 C.2.1 hX hbl hbA hw.2.2 (law_in hi6 hL 2 (by decide) (by decide)) dL_law_1182 ?_
  refine x_goi hw (x_runV (X := X) (As := [.int (xs (nI i + (1 : Int32)).toNatClampNeg), .int (xs (nI i + (2 : Int32)).toNatClampNeg)]) (rest := [.int r]) (k := 17) (j := 0) C hw (Nat.le_of_ble_eq_true rfl) rfl rfl cV_X10_as kw_1202 (c_X10_as l X [] (xs (nI i + (1 : Int32)).toNatClampNeg) (xs (nI i + (2 : Int32)).toNatClampNeg) z1 (r, z2) hq2) ⟨(Nat.le_of_ble_eq_true rfl), (Nat.le_of_ble_eq_true rfl)⟩ rfl hl.1 rfl (Nat.le_of_ble_eq_true rfl) dL_law_1183 ⟨(show 100 + i + 0 ≤ 600000 by omega), (show 3000 + 2 * i + 0 ≤ 7302250 by omega)⟩) (fun H locs hw => ?_)
  refine lv_icmp_eq (tgt := 1240) C.1 C.2.1 dL_law_1186 (by decide) (fun c1 => ?_) (fun c1 => absurd rfl c1)
  refine W.widen (k := 100 + i + 6) (n := 3000 + 2 * i + 12) (by first | exact Nat.le_refl _ | omega | (show 100 + i ≤ 100 + i + 6; omega)) (by first | exact Nat.le_refl _ | omega | (show 3000 + 2 * i ≤ 3000 + 2 * i + 12; omega)) ?_
  exact hN X z2 hB hI2 H locs hw ls hl
set_option maxHeartbeats 4000000 in
set_option maxRecDepth 100000 in
theorem lc_27 {p : Program} {l : Launch} {e : Env} {s : State} {m : MethodId} {below : List Frame} {meth : Method} {c : Code} {b L i : Nat} {xs : Nat → Int32} (C : CallFix p m c cL_law 4 s #[Value.ref b] gtbl RL) (hX : va_X b L xs s s.heap) (hbl : b < s.heap.size) (hL : L ≤ 3072) (hi6 : i + 6 ≤ L) (hN : lw_Nx p l e s m below meth c b i 1240 (100 + i + 6) (3000 + 2 * i + 12)) : lw_Nx p l e s m below meth c b i 1191 (100 + i) (3000 + 2 * i) := by
  intro X z hB hI H locs hw ls hl
  have hbA : ¬ xA X b := by unfold xA; rw [hB]; exact Nat.not_le.mpr hbl
  obtain ⟨r, z1, z2, hq1, hq2, hI2⟩ := eq_trace z hI 
  refine lv_aload_n C.1 C.2.1 dL_law_1191 rfl (lv_at hl 1 rfl) ?_
  refine x_goi hw (x_runV (X := X) (As := []) (rest := []) (k := 0) (j := 0) C hw (Nat.le_of_ble_eq_true rfl) rfl rfl cV_X9_trace kw_1208 (c_X9_trace l X []  z (r, z1) hq1) ⟨(Nat.le_of_ble_eq_true rfl), (Nat.le_of_ble_eq_true rfl)⟩ rfl hl.1 rfl (Nat.le_of_ble_eq_true rfl) dL_law_1192 ⟨(show 100 + i + 0 ≤ 600000 by omega), (show 3000 + 2 * i + 0 ≤ 7302250 by omega)⟩) (fun H locs hw => ?_)
  refine lv_aload_n C.1 C.2.1 dL_law_1195 rfl (lv_at hl 2 rfl) ?_
  refine x_goi hw (x_runV (X := X) (As := []) (rest := [.int r]) (k := 17) (j := 0) C hw (Nat.le_of_ble_eq_true rfl) rfl rfl cV_X10_trace kw_1214 (c_X10_trace l X []  z1 (r, z2) hq2) ⟨(Nat.le_of_ble_eq_true rfl), (Nat.le_of_ble_eq_true rfl)⟩ rfl hl.1 rfl (Nat.le_of_ble_eq_true rfl) dL_law_1196 ⟨(show 100 + i + 0 ≤ 600000 by omega), (show 3000 + 2 * i + 0 ≤ 7302250 by omega)⟩) (fun H locs hw => ?_)
  refine lv_icmp_eq (tgt := 1240) C.1 C.2.1 dL_law_1199 (by decide) (fun c1 => ?_) (fun c1 => absurd rfl c1)
  refine W.widen (k := 100 + i + 6) (n := 3000 + 2 * i + 12) (by first | exact Nat.le_refl _ | omega | (show 100 + i ≤ 100 + i + 6; omega)) (by first | exact Nat.le_refl _ | omega | (show 3000 + 2 * i ≤ 3000 + 2 * i + 12; omega)) ?_
  exact hN X z2 hB hI2 H locs hw ls hl
set_option maxHeartbeats 4000000 in
set_option maxRecDepth 100000 in
theorem lc_28 {p : Program} {l : Launch} {e : Env} {s : State} {m : MethodId} {below : List Frame} {meth : Method} {c : Code} {b L i : Nat} {xs : Nat → Int32} (C : CallFix p m c cL_law 4 s #[Value.ref b] gtbl RL) (hX : va_X b L xs s s.heap) (hbl : b < s.heap.size) (hL : L ≤ 3072) (hi6 : i + 6 ≤ L) (hN : lw_Nx p l e s m below meth c b i 1240 (100 + i + 6) (3000 + 2 * i + 12)) : lw_Nx p l e s m below meth c b i 1204 (100 + i) (3000 + 2 * i) := by
  intro X z hB hI H locs hw ls hl
  have hbA : ¬ xA X b := by unfold xA; rw [hB]; exact Nat.not_le.mpr hbl
  obtain ⟨r, z1, z2, hq1, hq2, hI2⟩ := eq_fault z hI 
  refine lv_aload_n C.1 C.2.1 dL_law_1204 rfl (lv_at hl 1 rfl) ?_
  refine x_goi hw (x_runV (X := X) (As := []) (rest := []) (k := 0) (j := 0) C hw (Nat.le_of_ble_eq_true rfl) rfl rfl cV_X9_fault kw_1220 (c_X9_fault l X []  z (r, z1) hq1) ⟨(Nat.le_of_ble_eq_true rfl), (Nat.le_of_ble_eq_true rfl)⟩ rfl hl.1 rfl (Nat.le_of_ble_eq_true rfl) dL_law_1205 ⟨(show 100 + i + 0 ≤ 600000 by omega), (show 3000 + 2 * i + 0 ≤ 7302250 by omega)⟩) (fun H locs hw => ?_)
  refine lv_aload_n C.1 C.2.1 dL_law_1208 rfl (lv_at hl 2 rfl) ?_
  refine x_goi hw (x_runV (X := X) (As := []) (rest := [.int r]) (k := 17) (j := 0) C hw (Nat.le_of_ble_eq_true rfl) rfl rfl cV_X10_fault kw_1226 (c_X10_fault l X []  z1 (r, z2) hq2) ⟨(Nat.le_of_ble_eq_true rfl), (Nat.le_of_ble_eq_true rfl)⟩ rfl hl.1 rfl (Nat.le_of_ble_eq_true rfl) dL_law_1209 ⟨(show 100 + i + 0 ≤ 600000 by omega), (show 3000 + 2 * i + 0 ≤ 7302250 by omega)⟩) (fun H locs hw => ?_)
  refine lv_icmp_eq (tgt := 1240) C.1 C.2.1 dL_law_1212 (by decide) (fun c1 => ?_) (fun c1 => absurd rfl c1)
  refine W.widen (k := 100 + i + 6) (n := 3000 + 2 * i + 12) (by first | exact Nat.le_refl _ | omega | (show 100 + i ≤ 100 + i + 6; omega)) (by first | exact Nat.le_refl _ | omega | (show 3000 + 2 * i ≤ 3000 + 2 * i + 12; omega)) ?_
  exact hN X z2 hB hI2 H locs hw ls hl
set_option maxHeartbeats 4000000 in
set_option maxRecDepth 100000 in
theorem lc_29 {p : Program} {l : Launch} {e : Env} {s : State} {m : MethodId} {below : List Frame} {meth : Method} {c : Code} {b L i : Nat} {xs : Nat → Int32} (C : CallFix p m c cL_law 4 s #[Value.ref b] gtbl RL) (hX : va_X b L xs s s.heap) (hbl : b < s.heap.size) (hL : L ≤ 3072) (hi6 : i + 6 ≤ L) (hN : lw_Nx p l e s m below meth c b i 1240 (100 + i + 6) (3000 + 2 * i + 12)) : lw_Nx p l e s m below meth c b i 1217 (100 + i) (3000 + 2 * i) := by
  intro X z hB hI H locs hw ls hl
  have hbA : ¬ xA X b := by unfold xA; rw [hB]; exact Nat.not_le.mpr hbl
  obtain ⟨r, z1, z2, hq1, hq2, hI2⟩ := eq_many z hI (xs (nI i + (1 : Int32)).toNatClampNeg)
  refine lv_aload_n C.1 C.2.1 dL_law_1217 rfl (lv_at hl 1 rfl) ?_
  refine lv_aload_n C.1 C.2.1 dL_law_1218 rfl (lv_at hl 0 rfl) ?_
  refine lv_iload_n C.1 C.2.1 dL_law_1219 rfl (lv_at hl 3 rfl) ?_
  refine lv_iconst (v := (1 : Int32)) C.1 C.2.1 dL_law_1220 (by decide) ?_
  refine lv_iadd C.1 C.2.1 dL_law_1221 ?_
  refine va_sld (A := xA X) C.1 C.2.1 hX hbl hbA hw.2.2 (law_in hi6 hL 1 (by decide) (by decide)) dL_law_1222 ?_
  refine x_goi hw (x_runV (X := X) (As := [.int (xs (nI i + (1 : Int32)).toNatClampNeg)]) (rest := []) (k := 0) (j := 0) C hw (Nat.le_of_ble_eq_true rfl) rfl rfl cV_X9_many kw_1232 (c_X9_many l X [] (xs (nI i + (1 : Int32)).toNatClampNeg) z (r, z1) hq1) ⟨(Nat.le_of_ble_eq_true rfl), (Nat.le_of_ble_eq_true rfl)⟩ rfl hl.1 rfl (Nat.le_of_ble_eq_true rfl) dL_law_1223 ⟨(show 100 + i + 0 ≤ 600000 by omega), (show 3000 + 2 * i + 0 ≤ 7302250 by omega)⟩) (fun H locs hw => ?_)
  refine lv_aload_n C.1 C.2.1 dL_law_1226 rfl (lv_at hl 2 rfl) ?_
  refine lv_aload_n C.1 C.2.1 dL_law_1227 rfl (lv_at hl 0 rfl) ?_
  refine lv_iload_n C.1 C.2.1 dL_law_1228 rfl (lv_at hl 3 rfl) ?_
  refine lv_iconst (v := (1 : Int32)) C.1 C.2.1 dL_law_1229 (by decide) ?_
  refine lv_iadd C.1 C.2.1 dL_law_1230 ?_
  refine va_sld (A := xA X) C.1 C.2.1 hX hbl hbA hw.2.2 (law_in hi6 hL 1 (by decide) (by decide)) dL_law_1231 ?_
  refine x_goi hw (x_runV (X := X) (As := [.int (xs (nI i + (1 : Int32)).toNatClampNeg)]) (rest := [.int r]) (k := 17) (j := 0) C hw (Nat.le_of_ble_eq_true rfl) rfl rfl cV_X10_many kw_1238 (c_X10_many l X [] (xs (nI i + (1 : Int32)).toNatClampNeg) z1 (r, z2) hq2) ⟨(Nat.le_of_ble_eq_true rfl), (Nat.le_of_ble_eq_true rfl)⟩ rfl hl.1 rfl (Nat.le_of_ble_eq_true rfl) dL_law_1232 ⟨(show 100 + i + 0 ≤ 600000 by omega), (show 3000 + 2 * i + 0 ≤ 7302250 by omega)⟩) (fun H locs hw => ?_)
  refine lv_icmp_eq (tgt := 1240) C.1 C.2.1 dL_law_1235 (by decide) (fun c1 => ?_) (fun c1 => absurd rfl c1)
  refine W.widen (k := 100 + i + 6) (n := 3000 + 2 * i + 12) (by first | exact Nat.le_refl _ | omega | (show 100 + i ≤ 100 + i + 6; omega)) (by first | exact Nat.le_refl _ | omega | (show 3000 + 2 * i ≤ 3000 + 2 * i + 12; omega)) ?_
  exact hN X z2 hB hI2 H locs hw ls hl
