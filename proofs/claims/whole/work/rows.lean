section
-- ===== PART A: goes FIRST, ahead of the names: the tables' words, and 'selects' of the private methods out of them =====
/-- a private method of a class that the tables say can be made, by its rows of tables_1 -/
def lw_okq (q : MethodName × Nat) : Prop := (q.1.cls ≠ "java/lang/invoke/MethodHandle" ∧ q.1.cls ≠ "java/lang/invoke/VarHandle") ∧ Cond.instantiable q.1.cls q.2 ∈ tables_1 ∧ Cond.privateMethod q.1 ∈ tables_1 ∧ Cond.instanceMethod q.1 ∈ tables_1
theorem lw_p0 : lw_okq (⟨"WordHedges", "faulted", "(I)I"⟩, 5) := ⟨⟨by decide +kernel, by decide +kernel⟩, List.mem_of_getElem? (i := 16) (by decide +kernel), List.mem_of_getElem? (i := 172) (by decide +kernel), List.mem_of_getElem? (i := 173) (by decide +kernel)⟩
theorem lw_p1 : lw_okq (⟨"WordHedges$Border", "growFrom", "(II)V"⟩, 4) := ⟨⟨by decide +kernel, by decide +kernel⟩, List.mem_of_getElem? (i := 31) (by decide +kernel), List.mem_of_getElem? (i := 244) (by decide +kernel), List.mem_of_getElem? (i := 245) (by decide +kernel)⟩
theorem lw_p2 : lw_okq (⟨"WordHedges$Row", "heightOrIf", "(IIII)I"⟩, 3) := ⟨⟨by decide +kernel, by decide +kernel⟩, List.mem_of_getElem? (i := 24) (by decide +kernel), List.mem_of_getElem? (i := 359) (by decide +kernel), List.mem_of_getElem? (i := 360) (by decide +kernel)⟩
theorem lw_p3 : lw_okq (⟨"WordHedges$Row", "eveningChoice", "(IIIII)I"⟩, 3) := ⟨⟨by decide +kernel, by decide +kernel⟩, List.mem_of_getElem? (i := 24) (by decide +kernel), List.mem_of_getElem? (i := 430) (by decide +kernel), List.mem_of_getElem? (i := 431) (by decide +kernel)⟩
theorem lw_p4 : lw_okq (⟨"WordHedges$Border", "inchesAbove", "(III)I"⟩, 4) := ⟨⟨by decide +kernel, by decide +kernel⟩, List.mem_of_getElem? (i := 31) (by decide +kernel), List.mem_of_getElem? (i := 465) (by decide +kernel), List.mem_of_getElem? (i := 466) (by decide +kernel)⟩
theorem lw_p5 : lw_okq (⟨"WordHedges$Border", "oddCoinSide", "(I)I"⟩, 4) := ⟨⟨by decide +kernel, by decide +kernel⟩, List.mem_of_getElem? (i := 31) (by decide +kernel), List.mem_of_getElem? (i := 482) (by decide +kernel), List.mem_of_getElem? (i := 483) (by decide +kernel)⟩
theorem lw_p6 : lw_okq (⟨"WordHedges", "lostBy", "(I)J"⟩, 5) := ⟨⟨by decide +kernel, by decide +kernel⟩, List.mem_of_getElem? (i := 16) (by decide +kernel), List.mem_of_getElem? (i := 532) (by decide +kernel), List.mem_of_getElem? (i := 533) (by decide +kernel)⟩
theorem lw_p7 : lw_okq (⟨"WordHedgesModel", "refused", "(I)I"⟩, 23) := ⟨⟨by decide +kernel, by decide +kernel⟩, List.mem_of_getElem? (i := 603) (by decide +kernel), List.mem_of_getElem? (i := 690) (by decide +kernel), List.mem_of_getElem? (i := 691) (by decide +kernel)⟩
theorem lw_p8 : lw_okq (⟨"WordHedgesModel", "failed", "(I)I"⟩, 23) := ⟨⟨by decide +kernel, by decide +kernel⟩, List.mem_of_getElem? (i := 603) (by decide +kernel), List.mem_of_getElem? (i := 695) (by decide +kernel), List.mem_of_getElem? (i := 696) (by decide +kernel)⟩
theorem lw_p9 : lw_okq (⟨"WordHedgesModel", "readsAll", "(II)Z"⟩, 23) := ⟨⟨by decide +kernel, by decide +kernel⟩, List.mem_of_getElem? (i := 603) (by decide +kernel), List.mem_of_getElem? (i := 702) (by decide +kernel), List.mem_of_getElem? (i := 703) (by decide +kernel)⟩
theorem lw_p10 : lw_okq (⟨"WordHedgesModel", "codeAt", "(II)I"⟩, 23) := ⟨⟨by decide +kernel, by decide +kernel⟩, List.mem_of_getElem? (i := 603) (by decide +kernel), List.mem_of_getElem? (i := 706) (by decide +kernel), List.mem_of_getElem? (i := 707) (by decide +kernel)⟩
theorem lw_p11 : lw_okq (⟨"WordHedgesModel", "figure", "(II)I"⟩, 23) := ⟨⟨by decide +kernel, by decide +kernel⟩, List.mem_of_getElem? (i := 603) (by decide +kernel), List.mem_of_getElem? (i := 710) (by decide +kernel), List.mem_of_getElem? (i := 711) (by decide +kernel)⟩
theorem lw_p12 : lw_okq (⟨"WordHedgesModel", "readsMore", "(II)Z"⟩, 23) := ⟨⟨by decide +kernel, by decide +kernel⟩, List.mem_of_getElem? (i := 603) (by decide +kernel), List.mem_of_getElem? (i := 715) (by decide +kernel), List.mem_of_getElem? (i := 716) (by decide +kernel)⟩
theorem lw_p13 : lw_okq (⟨"WordHedgesModel", "hedges", "()I"⟩, 23) := ⟨⟨by decide +kernel, by decide +kernel⟩, List.mem_of_getElem? (i := 603) (by decide +kernel), List.mem_of_getElem? (i := 719) (by decide +kernel), List.mem_of_getElem? (i := 720) (by decide +kernel)⟩
theorem lw_p14 : lw_okq (⟨"WordHedgesModel", "noGarden", "(I)Z"⟩, 23) := ⟨⟨by decide +kernel, by decide +kernel⟩, List.mem_of_getElem? (i := 603) (by decide +kernel), List.mem_of_getElem? (i := 727) (by decide +kernel), List.mem_of_getElem? (i := 728) (by decide +kernel)⟩
theorem lw_p15 : lw_okq (⟨"WordHedgesModel", "noHedge", "(I)Z"⟩, 23) := ⟨⟨by decide +kernel, by decide +kernel⟩, List.mem_of_getElem? (i := 603) (by decide +kernel), List.mem_of_getElem? (i := 735) (by decide +kernel), List.mem_of_getElem? (i := 736) (by decide +kernel)⟩
def lw_privs_1 : List (MethodName × Nat) := [(⟨"WordHedges", "faulted", "(I)I"⟩, 5), (⟨"WordHedges$Border", "growFrom", "(II)V"⟩, 4), (⟨"WordHedges$Row", "heightOrIf", "(IIII)I"⟩, 3), (⟨"WordHedges$Row", "eveningChoice", "(IIIII)I"⟩, 3), (⟨"WordHedges$Border", "inchesAbove", "(III)I"⟩, 4), (⟨"WordHedges$Border", "oddCoinSide", "(I)I"⟩, 4), (⟨"WordHedges", "lostBy", "(I)J"⟩, 5), (⟨"WordHedgesModel", "refused", "(I)I"⟩, 23), (⟨"WordHedgesModel", "failed", "(I)I"⟩, 23), (⟨"WordHedgesModel", "readsAll", "(II)Z"⟩, 23), (⟨"WordHedgesModel", "codeAt", "(II)I"⟩, 23), (⟨"WordHedgesModel", "figure", "(II)I"⟩, 23), (⟨"WordHedgesModel", "readsMore", "(II)Z"⟩, 23), (⟨"WordHedgesModel", "hedges", "()I"⟩, 23), (⟨"WordHedgesModel", "noGarden", "(I)Z"⟩, 23), (⟨"WordHedgesModel", "noHedge", "(I)Z"⟩, 23)]
theorem lw_r1 : ∀ q ∈ lw_privs_1, lw_okq q := List.forall_mem_cons.mpr ⟨lw_p0, List.forall_mem_cons.mpr ⟨lw_p1, List.forall_mem_cons.mpr ⟨lw_p2, List.forall_mem_cons.mpr ⟨lw_p3, List.forall_mem_cons.mpr ⟨lw_p4, List.forall_mem_cons.mpr ⟨lw_p5, List.forall_mem_cons.mpr ⟨lw_p6, List.forall_mem_cons.mpr ⟨lw_p7, List.forall_mem_cons.mpr ⟨lw_p8, List.forall_mem_cons.mpr ⟨lw_p9, List.forall_mem_cons.mpr ⟨lw_p10, List.forall_mem_cons.mpr ⟨lw_p11, List.forall_mem_cons.mpr ⟨lw_p12, List.forall_mem_cons.mpr ⟨lw_p13, List.forall_mem_cons.mpr ⟨lw_p14, List.forall_mem_cons.mpr ⟨lw_p15, fun _ h => absurd h List.not_mem_nil⟩⟩⟩⟩⟩⟩⟩⟩⟩⟩⟩⟩⟩⟩⟩⟩
theorem lw_p16 : lw_okq (⟨"WordHedgesModel", "faceAt", "(III)I"⟩, 23) := ⟨⟨by decide +kernel, by decide +kernel⟩, List.mem_of_getElem? (i := 603) (by decide +kernel), List.mem_of_getElem? (i := 773) (by decide +kernel), List.mem_of_getElem? (i := 774) (by decide +kernel)⟩
theorem lw_p17 : lw_okq (⟨"WordHedgesModel", "heightAt", "(II)I"⟩, 23) := ⟨⟨by decide +kernel, by decide +kernel⟩, List.mem_of_getElem? (i := 603) (by decide +kernel), List.mem_of_getElem? (i := 793) (by decide +kernel), List.mem_of_getElem? (i := 794) (by decide +kernel)⟩
theorem lw_p18 : lw_okq (⟨"WordHedgesModel", "lightAt", "(II)I"⟩, 23) := ⟨⟨by decide +kernel, by decide +kernel⟩, List.mem_of_getElem? (i := 603) (by decide +kernel), List.mem_of_getElem? (i := 801) (by decide +kernel), List.mem_of_getElem? (i := 802) (by decide +kernel)⟩
theorem lw_p19 : lw_okq (⟨"WordHedgesModel", "doGoatsCome", "(II)Z"⟩, 23) := ⟨⟨by decide +kernel, by decide +kernel⟩, List.mem_of_getElem? (i := 603) (by decide +kernel), List.mem_of_getElem? (i := 809) (by decide +kernel), List.mem_of_getElem? (i := 810) (by decide +kernel)⟩
theorem lw_p20 : lw_okq (⟨"WordHedgesModel", "offAt", "(II)I"⟩, 23) := ⟨⟨by decide +kernel, by decide +kernel⟩, List.mem_of_getElem? (i := 603) (by decide +kernel), List.mem_of_getElem? (i := 817) (by decide +kernel), List.mem_of_getElem? (i := 818) (by decide +kernel)⟩
theorem lw_p21 : lw_okq (⟨"WordHedgesModel", "enoughFor", "(IIII)I"⟩, 23) := ⟨⟨by decide +kernel, by decide +kernel⟩, List.mem_of_getElem? (i := 603) (by decide +kernel), List.mem_of_getElem? (i := 825) (by decide +kernel), List.mem_of_getElem? (i := 826) (by decide +kernel)⟩
theorem lw_p22 : lw_okq (⟨"WordHedgesModel", "areSo", "()Z"⟩, 23) := ⟨⟨by decide +kernel, by decide +kernel⟩, List.mem_of_getElem? (i := 603) (by decide +kernel), List.mem_of_getElem? (i := 842) (by decide +kernel), List.mem_of_getElem? (i := 843) (by decide +kernel)⟩
theorem lw_p23 : lw_okq (⟨"WordHedgesModel", "chosenFor", "(III)I"⟩, 23) := ⟨⟨by decide +kernel, by decide +kernel⟩, List.mem_of_getElem? (i := 603) (by decide +kernel), List.mem_of_getElem? (i := 850) (by decide +kernel), List.mem_of_getElem? (i := 851) (by decide +kernel)⟩
theorem lw_p24 : lw_okq (⟨"WordHedgesModel", "wouldChange", "(II)Z"⟩, 23) := ⟨⟨by decide +kernel, by decide +kernel⟩, List.mem_of_getElem? (i := 603) (by decide +kernel), List.mem_of_getElem? (i := 858) (by decide +kernel), List.mem_of_getElem? (i := 859) (by decide +kernel)⟩
theorem lw_p25 : lw_okq (⟨"WordHedgesModel", "finesOf", "(II)I"⟩, 23) := ⟨⟨by decide +kernel, by decide +kernel⟩, List.mem_of_getElem? (i := 603) (by decide +kernel), List.mem_of_getElem? (i := 873) (by decide +kernel), List.mem_of_getElem? (i := 874) (by decide +kernel)⟩
theorem lw_p26 : lw_okq (⟨"WordHedgesModel", "finedAt", "(IIII)I"⟩, 23) := ⟨⟨by decide +kernel, by decide +kernel⟩, List.mem_of_getElem? (i := 603) (by decide +kernel), List.mem_of_getElem? (i := 877) (by decide +kernel), List.mem_of_getElem? (i := 878) (by decide +kernel)⟩
theorem lw_p27 : lw_okq (⟨"WordHedgesModel", "noCell", "(II)I"⟩, 23) := ⟨⟨by decide +kernel, by decide +kernel⟩, List.mem_of_getElem? (i := 603) (by decide +kernel), List.mem_of_getElem? (i := 904) (by decide +kernel), List.mem_of_getElem? (i := 905) (by decide +kernel)⟩
theorem lw_p28 : lw_okq (⟨"WordHedgesModel", "failedLong", "(I)J"⟩, 23) := ⟨⟨by decide +kernel, by decide +kernel⟩, List.mem_of_getElem? (i := 603) (by decide +kernel), List.mem_of_getElem? (i := 912) (by decide +kernel), List.mem_of_getElem? (i := 913) (by decide +kernel)⟩
theorem lw_p29 : lw_okq (⟨"WordHedgesModel", "traced", "(I)V"⟩, 23) := ⟨⟨by decide +kernel, by decide +kernel⟩, List.mem_of_getElem? (i := 603) (by decide +kernel), List.mem_of_getElem? (i := 924) (by decide +kernel), List.mem_of_getElem? (i := 925) (by decide +kernel)⟩
def lw_privs_2 : List (MethodName × Nat) := [(⟨"WordHedgesModel", "faceAt", "(III)I"⟩, 23), (⟨"WordHedgesModel", "heightAt", "(II)I"⟩, 23), (⟨"WordHedgesModel", "lightAt", "(II)I"⟩, 23), (⟨"WordHedgesModel", "doGoatsCome", "(II)Z"⟩, 23), (⟨"WordHedgesModel", "offAt", "(II)I"⟩, 23), (⟨"WordHedgesModel", "enoughFor", "(IIII)I"⟩, 23), (⟨"WordHedgesModel", "areSo", "()Z"⟩, 23), (⟨"WordHedgesModel", "chosenFor", "(III)I"⟩, 23), (⟨"WordHedgesModel", "wouldChange", "(II)Z"⟩, 23), (⟨"WordHedgesModel", "finesOf", "(II)I"⟩, 23), (⟨"WordHedgesModel", "finedAt", "(IIII)I"⟩, 23), (⟨"WordHedgesModel", "noCell", "(II)I"⟩, 23), (⟨"WordHedgesModel", "failedLong", "(I)J"⟩, 23), (⟨"WordHedgesModel", "traced", "(I)V"⟩, 23)]
theorem lw_r2 : ∀ q ∈ lw_privs_2, lw_okq q := List.forall_mem_cons.mpr ⟨lw_p16, List.forall_mem_cons.mpr ⟨lw_p17, List.forall_mem_cons.mpr ⟨lw_p18, List.forall_mem_cons.mpr ⟨lw_p19, List.forall_mem_cons.mpr ⟨lw_p20, List.forall_mem_cons.mpr ⟨lw_p21, List.forall_mem_cons.mpr ⟨lw_p22, List.forall_mem_cons.mpr ⟨lw_p23, List.forall_mem_cons.mpr ⟨lw_p24, List.forall_mem_cons.mpr ⟨lw_p25, List.forall_mem_cons.mpr ⟨lw_p26, List.forall_mem_cons.mpr ⟨lw_p27, List.forall_mem_cons.mpr ⟨lw_p28, List.forall_mem_cons.mpr ⟨lw_p29, fun _ h => absurd h List.not_mem_nil⟩⟩⟩⟩⟩⟩⟩⟩⟩⟩⟩⟩⟩⟩
def lw_privs : List (MethodName × Nat) := lw_privs_1 ++ (lw_privs_2)
def lw_tbl : List Cond := k2_sels lw_privs ++ tables_1
theorem lw_privs_ok : ∀ q ∈ lw_privs, lw_okq q := by
  show ∀ q ∈ lw_privs_1 ++ (lw_privs_2), lw_okq q
  exact List.forall_mem_append.mpr ⟨lw_r1, lw_r2⟩
end
section
def RX0 : String := "WordHedges$Border"
def TX0 : u_T := fun k => match k with
  | 0 => ("WordHedges$Border", "hedge", "LWordHedges$Hedge;", false)
  | 1 => ("WordHedges$Border", "words", "[[I", true)
  | 2 => ("WordHedges$Border", "inches", "[[I", true)
  | _ => ("WordHedges$Border", "clips", "[I", true)
def tyX0 : Nat → FieldType := fun k => match k with
  | 0 => .object "WordHedges$Hedge"
  | 1 => .array (.array .int)
  | 2 => .array (.array .int)
  | _ => .array .int
abbrev wsX00 : List Cond := u_ws RX0 TX0 4
theorem nmX0 : ∀ a, a < 4 → ∀ b, b < 4 → a ≠ b → (TX0 a).2.1 ≠ (TX0 b).2.1 := by decide +kernel
theorem tyX0_ok : ∀ k, k < 4 → parseFieldDescriptor (TX0 k).2.2.1 = some (tyX0 k) := by decide +kernel
abbrev cX0_init : ByteArray := prog_2_method_1_code
def yX0_init : MethodName := ⟨RX0, "<init>", "()V"⟩
abbrev cX0_plant : ByteArray := prog_2_method_2_code
def yX0_plant : MethodName := ⟨RX0, "plant", "(LWordHedges$Hedge;)V"⟩
abbrev cX0_speak : ByteArray := prog_2_method_3_code
def yX0_speak : MethodName := ⟨RX0, "speak", "(III)I"⟩
abbrev cX0_cutBack : ByteArray := prog_2_method_4_code
def yX0_cutBack : MethodName := ⟨RX0, "cutBack", "(II)I"⟩
abbrev cX0_growFrom : ByteArray := prog_2_method_5_code
def yX0_growFrom : MethodName := ⟨RX0, "growFrom", "(II)V"⟩
abbrev cX0_dayOver : ByteArray := prog_2_method_6_code
def yX0_dayOver : MethodName := ⟨RX0, "dayOver", "(III)I"⟩
abbrev cX0_inchesIf : ByteArray := prog_2_method_7_code
def yX0_inchesIf : MethodName := ⟨RX0, "inchesIf", "(IIII)I"⟩
abbrev cX0_heightAt : ByteArray := prog_2_method_8_code
def yX0_heightAt : MethodName := ⟨RX0, "heightAt", "(I)I"⟩
abbrev cX0_heightIf : ByteArray := prog_2_method_9_code
def yX0_heightIf : MethodName := ⟨RX0, "heightIf", "(III)I"⟩
abbrev cX0_leanAt : ByteArray := prog_2_method_10_code
def yX0_leanAt : MethodName := ⟨RX0, "leanAt", "(I)I"⟩
abbrev cX0_scoldedWord : ByteArray := prog_2_method_11_code
def yX0_scoldedWord : MethodName := ⟨RX0, "scoldedWord", "(III)I"⟩
abbrev cX0_clippingMinutes : ByteArray := prog_2_method_12_code
def yX0_clippingMinutes : MethodName := ⟨RX0, "clippingMinutes", "(II)I"⟩
abbrev cX0_inchesAbove : ByteArray := prog_2_method_13_code
def yX0_inchesAbove : MethodName := ⟨RX0, "inchesAbove", "(III)I"⟩
abbrev cX0_finesBy : ByteArray := prog_2_method_14_code
def yX0_finesBy : MethodName := ⟨RX0, "finesBy", "(II)I"⟩
abbrev cX0_oddCoinSide : ByteArray := prog_2_method_15_code
def yX0_oddCoinSide : MethodName := ⟨RX0, "oddCoinSide", "(I)I"⟩
def RX1 : String := "WordHedges$Bramble"
def TX1 : u_T := fun k => match k with
  | 0 => ("WordHedges$Hedge", "number", "I", true)
  | _ => ("WordHedges$Hedge", "high", "I", true)
def tyX1 : Nat → FieldType := fun k => match k with
  | 0 => .int
  | _ => .int
abbrev wsX10 : List Cond := u_ws RX1 TX1 2
theorem nmX1 : ∀ a, a < 2 → ∀ b, b < 2 → a ≠ b → (TX1 a).2.1 ≠ (TX1 b).2.1 := by decide +kernel
theorem tyX1_ok : ∀ k, k < 2 → parseFieldDescriptor (TX1 k).2.2.1 = some (tyX1 k) := by decide +kernel
abbrev cX1_init : ByteArray := prog_3_method_1_code
def yX1_init : MethodName := ⟨RX1, "<init>", "(II)V"⟩
abbrev cX1_kind : ByteArray := prog_3_method_2_code
def yX1_kind : MethodName := ⟨RX1, "kind", "()I"⟩
abbrev cX1_growth : ByteArray := prog_3_method_3_code
def yX1_growth : MethodName := ⟨RX1, "growth", "(I)I"⟩
abbrev cX1_telling : ByteArray := prog_3_method_4_code
def yX1_telling : MethodName := ⟨RX1, "telling", "(LWordHedges$Trace;)I"⟩
abbrev cX1_leaning : ByteArray := prog_3_method_5_code
def yX1_leaning : MethodName := ⟨RX1, "leaning", "(LWordHedges$Trace;)I"⟩
def RX2 : String := "WordHedges$Hedge"
def TX2 : u_T := fun k => match k with
  | 0 => ("WordHedges$Hedge", "number", "I", true)
  | _ => ("WordHedges$Hedge", "high", "I", true)
def tyX2 : Nat → FieldType := fun k => match k with
  | 0 => .int
  | _ => .int
abbrev wsX20 : List Cond := u_ws RX2 TX2 2
theorem nmX2 : ∀ a, a < 2 → ∀ b, b < 2 → a ≠ b → (TX2 a).2.1 ≠ (TX2 b).2.1 := by decide +kernel
theorem tyX2_ok : ∀ k, k < 2 → parseFieldDescriptor (TX2 k).2.2.1 = some (tyX2 k) := by decide +kernel
abbrev cX2_init : ByteArray := prog_4_method_1_code
def yX2_init : MethodName := ⟨RX2, "<init>", "(II)V"⟩
abbrev cX2_kind : ByteArray := prog_4_method_2_code
def yX2_kind : MethodName := ⟨RX2, "kind", "()I"⟩
abbrev cX2_growth : ByteArray := prog_4_method_3_code
def yX2_growth : MethodName := ⟨RX2, "growth", "(I)I"⟩
abbrev cX2_telling : ByteArray := prog_4_method_4_code
def yX2_telling : MethodName := ⟨RX2, "telling", "(LWordHedges$Trace;)I"⟩
abbrev cX2_plainTelling : ByteArray := prog_4_method_5_code
def yX2_plainTelling : MethodName := ⟨RX2, "plainTelling", "(LWordHedges$Trace;)I"⟩
abbrev cX2_leaning : ByteArray := prog_4_method_6_code
def yX2_leaning : MethodName := ⟨RX2, "leaning", "(LWordHedges$Trace;)I"⟩
def RX3 : String := "WordHedges$Rings"
def TX3 : u_T := fun k => match k with
  | 0 => ("WordHedges$Rings", "hedges", "[I", true)
  | 1 => ("WordHedges$Rings", "sides", "[I", true)
  | 2 => ("WordHedges$Rings", "dawns", "[I", true)
  | 3 => ("WordHedges$Rings", "inches", "[I", true)
  | _ => ("WordHedges$Rings", "count", "I", false)
def tyX3 : Nat → FieldType := fun k => match k with
  | 0 => .array .int
  | 1 => .array .int
  | 2 => .array .int
  | 3 => .array .int
  | _ => .int
abbrev wsX30 : List Cond := u_ws RX3 TX3 5
theorem nmX3 : ∀ a, a < 5 → ∀ b, b < 5 → a ≠ b → (TX3 a).2.1 ≠ (TX3 b).2.1 := by decide +kernel
theorem tyX3_ok : ∀ k, k < 5 → parseFieldDescriptor (TX3 k).2.2.1 = some (tyX3 k) := by decide +kernel
abbrev cX3_init : ByteArray := prog_5_method_1_code
def yX3_init : MethodName := ⟨RX3, "<init>", "()V"⟩
abbrev cX3_clear : ByteArray := prog_5_method_2_code
def yX3_clear : MethodName := ⟨RX3, "clear", "()V"⟩
abbrev cX3_keep : ByteArray := prog_5_method_3_code
def yX3_keep : MethodName := ⟨RX3, "keep", "(IIII)I"⟩
abbrev cX3_allSoIf : ByteArray := prog_5_method_4_code
def yX3_allSoIf : MethodName := ⟨RX3, "allSoIf", "(LWordHedges$Row;IIII)Z"⟩
def RX4 : String := "WordHedges$Row"
def TX4 : u_T := fun k => match k with
  | 0 => ("WordHedges$Row", "wanted", "[I", true)
  | 1 => ("WordHedges$Row", "borders", "[LWordHedges$Border;", true)
  | _ => ("WordHedges$Row", "count", "I", false)
def tyX4 : Nat → FieldType := fun k => match k with
  | 0 => .array .int
  | 1 => .array (.object "WordHedges$Border")
  | _ => .int
abbrev wsX40 : List Cond := u_ws RX4 TX4 3
theorem nmX4 : ∀ a, a < 3 → ∀ b, b < 3 → a ≠ b → (TX4 a).2.1 ≠ (TX4 b).2.1 := by decide +kernel
theorem tyX4_ok : ∀ k, k < 3 → parseFieldDescriptor (TX4 k).2.2.1 = some (tyX4 k) := by decide +kernel
abbrev cX4_init : ByteArray := prog_6_method_1_code
def yX4_init : MethodName := ⟨RX4, "<init>", "()V"⟩
abbrev cX4_isGarden : ByteArray := prog_6_method_2_code
def yX4_isGarden : MethodName := ⟨RX4, "isGarden", "(I)Z"⟩
abbrev cX4_isHedge : ByteArray := prog_6_method_3_code
def yX4_isHedge : MethodName := ⟨RX4, "isHedge", "(I)Z"⟩
abbrev cX4_plant : ByteArray := prog_6_method_4_code
def yX4_plant : MethodName := ⟨RX4, "plant", "(LWordHedges$Sheet;II)V"⟩
abbrev cX4_seedling : ByteArray := prog_6_method_5_code
def yX4_seedling : MethodName := ⟨RX4, "seedling", "(III)LWordHedges$Hedge;"⟩
abbrev cX4_heightOrIf : ByteArray := prog_6_method_6_code
def yX4_heightOrIf : MethodName := ⟨RX4, "heightOrIf", "(IIII)I"⟩
abbrev cX4_lightIf : ByteArray := prog_6_method_7_code
def yX4_lightIf : MethodName := ⟨RX4, "lightIf", "(IIII)I"⟩
abbrev cX4_goatsReachIf : ByteArray := prog_6_method_8_code
def yX4_goatsReachIf : MethodName := ⟨RX4, "goatsReachIf", "(III)I"⟩
abbrev cX4_betterOffIf : ByteArray := prog_6_method_9_code
def yX4_betterOffIf : MethodName := ⟨RX4, "betterOffIf", "(IIII)I"⟩
abbrev cX4_scoldedMore : ByteArray := prog_6_method_10_code
def yX4_scoldedMore : MethodName := ⟨RX4, "scoldedMore", "(II)I"⟩
abbrev cX4_lastWordOfQuarrel : ByteArray := prog_6_method_11_code
def yX4_lastWordOfQuarrel : MethodName := ⟨RX4, "lastWordOfQuarrel", "(IIII)I"⟩
abbrev cX4_eveningChoice : ByteArray := prog_6_method_12_code
def yX4_eveningChoice : MethodName := ⟨RX4, "eveningChoice", "(IIIII)I"⟩
abbrev cX4_wouldGain : ByteArray := prog_6_method_13_code
def yX4_wouldGain : MethodName := ⟨RX4, "wouldGain", "(III)Z"⟩
abbrev cX4_roundMinutes : ByteArray := prog_6_method_14_code
def yX4_roundMinutes : MethodName := ⟨RX4, "roundMinutes", "(II)I"⟩
abbrev cX4_finesOf : ByteArray := prog_6_method_15_code
def yX4_finesOf : MethodName := ⟨RX4, "finesOf", "(II)I"⟩
abbrev cX4_heightsTogether : ByteArray := prog_6_method_16_code
def yX4_heightsTogether : MethodName := ⟨RX4, "heightsTogether", "(I)I"⟩
def RX5 : String := "WordHedges$Sheet"
def TX5 : u_T := fun k => match k with
  | 0 => ("WordHedges$Sheet", "cells", "[I", true)
  | 1 => ("WordHedges$Sheet", "lane", "I", false)
  | _ => ("WordHedges$Sheet", "length", "I", false)
def tyX5 : Nat → FieldType := fun k => match k with
  | 0 => .array .int
  | 1 => .int
  | _ => .int
abbrev wsX50 : List Cond := u_ws RX5 TX5 3
theorem nmX5 : ∀ a, a < 3 → ∀ b, b < 3 → a ≠ b → (TX5 a).2.1 ≠ (TX5 b).2.1 := by decide +kernel
theorem tyX5_ok : ∀ k, k < 3 → parseFieldDescriptor (TX5 k).2.2.1 = some (tyX5 k) := by decide +kernel
abbrev cX5_init : ByteArray := prog_7_method_1_code
def yX5_init : MethodName := ⟨RX5, "<init>", "()V"⟩
abbrev cX5_begin : ByteArray := prog_7_method_2_code
def yX5_begin : MethodName := ⟨RX5, "begin", "(II)V"⟩
abbrev cX5_drop : ByteArray := prog_7_method_3_code
def yX5_drop : MethodName := ⟨RX5, "drop", "()V"⟩
abbrev cX5_hasNothing : ByteArray := prog_7_method_4_code
def yX5_hasNothing : MethodName := ⟨RX5, "hasNothing", "()Z"⟩
abbrev cX5_isOfOtherLane : ByteArray := prog_7_method_5_code
def yX5_isOfOtherLane : MethodName := ⟨RX5, "isOfOtherLane", "(I)Z"⟩
abbrev cX5_holds : ByteArray := prog_7_method_6_code
def yX5_holds : MethodName := ⟨RX5, "holds", "(I)Z"⟩
abbrev cX5_holdsRun : ByteArray := prog_7_method_7_code
def yX5_holdsRun : MethodName := ⟨RX5, "holdsRun", "(II)Z"⟩
abbrev cX5_write : ByteArray := prog_7_method_8_code
def yX5_write : MethodName := ⟨RX5, "write", "(II)V"⟩
def RX6 : String := "WordHedges$Text"
def TX6 : u_T := fun k => match k with
  | _ => ("", "", "", false)
def tyX6 : Nat → FieldType := fun k => match k with
  | _ => .int
abbrev wsX60 : List Cond := u_ws RX6 TX6 0
theorem nmX6 : ∀ a, a < 0 → ∀ b, b < 0 → a ≠ b → (TX6 a).2.1 ≠ (TX6 b).2.1 := by decide +kernel
theorem tyX6_ok : ∀ k, k < 0 → parseFieldDescriptor (TX6 k).2.2.1 = some (tyX6 k) := by decide +kernel
abbrev cX6_firstFault : ByteArray := prog_8_method_2_code
def yX6_firstFault : MethodName := ⟨RX6, "firstFault", "(LWordHedges$Sheet;II)I"⟩
abbrev cX6_goesOn : ByteArray := prog_8_method_3_code
def yX6_goesOn : MethodName := ⟨RX6, "goesOn", "(II)Z"⟩
abbrev cX6_isWhole : ByteArray := prog_8_method_4_code
def yX6_isWhole : MethodName := ⟨RX6, "isWhole", "(I)Z"⟩
abbrev cX6_partAt : ByteArray := prog_8_method_5_code
def yX6_partAt : MethodName := ⟨RX6, "partAt", "(I)I"⟩
abbrev cX6_gardenAt : ByteArray := prog_8_method_6_code
def yX6_gardenAt : MethodName := ⟨RX6, "gardenAt", "(I)I"⟩
abbrev cX6_gardensOf : ByteArray := prog_8_method_7_code
def yX6_gardensOf : MethodName := ⟨RX6, "gardensOf", "(I)I"⟩
abbrev cX6_kindOf : ByteArray := prog_8_method_8_code
def yX6_kindOf : MethodName := ⟨RX6, "kindOf", "(I)I"⟩
def RX7 : String := "WordHedges$Trace"
def TX7 : u_T := fun k => match k with
  | _ => ("WordHedges$Trace", "mark", "I", false)
def tyX7 : Nat → FieldType := fun k => match k with
  | _ => .int
abbrev wsX70 : List Cond := u_ws RX7 TX7 1
theorem nmX7 : ∀ a, a < 1 → ∀ b, b < 1 → a ≠ b → (TX7 a).2.1 ≠ (TX7 b).2.1 := by decide +kernel
theorem tyX7_ok : ∀ k, k < 1 → parseFieldDescriptor (TX7 k).2.2.1 = some (tyX7 k) := by decide +kernel
abbrev cX7_init : ByteArray := prog_9_method_1_code
def yX7_init : MethodName := ⟨RX7, "<init>", "()V"⟩
abbrev cX7_enter : ByteArray := prog_9_method_2_code
def yX7_enter : MethodName := ⟨RX7, "enter", "(I)V"⟩
def RX8 : String := "WordHedges$Yew"
def TX8 : u_T := fun k => match k with
  | 0 => ("WordHedges$Hedge", "number", "I", true)
  | _ => ("WordHedges$Hedge", "high", "I", true)
def tyX8 : Nat → FieldType := fun k => match k with
  | 0 => .int
  | _ => .int
abbrev wsX80 : List Cond := u_ws RX8 TX8 2
theorem nmX8 : ∀ a, a < 2 → ∀ b, b < 2 → a ≠ b → (TX8 a).2.1 ≠ (TX8 b).2.1 := by decide +kernel
theorem tyX8_ok : ∀ k, k < 2 → parseFieldDescriptor (TX8 k).2.2.1 = some (tyX8 k) := by decide +kernel
abbrev cX8_init : ByteArray := prog_10_method_1_code
def yX8_init : MethodName := ⟨RX8, "<init>", "(II)V"⟩
abbrev cX8_kind : ByteArray := prog_10_method_2_code
def yX8_kind : MethodName := ⟨RX8, "kind", "()I"⟩
abbrev cX8_growth : ByteArray := prog_10_method_3_code
def yX8_growth : MethodName := ⟨RX8, "growth", "(I)I"⟩
abbrev cX8_telling : ByteArray := prog_10_method_4_code
def yX8_telling : MethodName := ⟨RX8, "telling", "(LWordHedges$Trace;)I"⟩
def RX9 : String := "WordHedges"
def TX9 : u_T := fun k => match k with
  | 0 => ("WordHedges", "row", "LWordHedges$Row;", true)
  | 1 => ("WordHedges", "rings", "LWordHedges$Rings;", true)
  | 2 => ("WordHedges", "traced", "LWordHedges$Trace;", true)
  | 3 => ("WordHedges", "sheets", "[LWordHedges$Sheet;", true)
  | _ => ("WordHedges", "latestFault", "I", false)
def tyX9 : Nat → FieldType := fun k => match k with
  | 0 => .object "WordHedges$Row"
  | 1 => .object "WordHedges$Rings"
  | 2 => .object "WordHedges$Trace"
  | 3 => .array (.object "WordHedges$Sheet")
  | _ => .int
abbrev wsX90 : List Cond := u_ws RX9 TX9 5
theorem nmX9 : ∀ a, a < 5 → ∀ b, b < 5 → a ≠ b → (TX9 a).2.1 ≠ (TX9 b).2.1 := by decide +kernel
theorem tyX9_ok : ∀ k, k < 5 → parseFieldDescriptor (TX9 k).2.2.1 = some (tyX9 k) := by decide +kernel
abbrev cX9_init : ByteArray := prog_1_method_1_code
def yX9_init : MethodName := ⟨RX9, "<init>", "()V"⟩
abbrev cX9_gardens : ByteArray := prog_1_method_2_code
def yX9_gardens : MethodName := ⟨RX9, "gardens", "(IIII)I"⟩
abbrev cX9_wants : ByteArray := prog_1_method_3_code
def yX9_wants : MethodName := ⟨RX9, "wants", "(I)I"⟩
abbrev cX9_ofHedge : ByteArray := prog_1_method_4_code
def yX9_ofHedge : MethodName := ⟨RX9, "ofHedge", "(II)I"⟩
abbrev cX9_say : ByteArray := prog_1_method_5_code
def yX9_say : MethodName := ⟨RX9, "say", "(IIII)I"⟩
abbrev cX9_clip : ByteArray := prog_1_method_6_code
def yX9_clip : MethodName := ⟨RX9, "clip", "(III)I"⟩
abbrev cX9_face : ByteArray := prog_1_method_7_code
def yX9_face : MethodName := ⟨RX9, "face", "(III)I"⟩
abbrev cX9_height : ByteArray := prog_1_method_8_code
def yX9_height : MethodName := ⟨RX9, "height", "(III)I"⟩
abbrev cX9_light : ByteArray := prog_1_method_9_code
def yX9_light : MethodName := ⟨RX9, "light", "(II)I"⟩
abbrev cX9_goats : ByteArray := prog_1_method_10_code
def yX9_goats : MethodName := ⟨RX9, "goats", "(I)I"⟩
abbrev cX9_off : ByteArray := prog_1_method_11_code
def yX9_off : MethodName := ⟨RX9, "off", "(II)I"⟩
abbrev cX9_scold : ByteArray := prog_1_method_12_code
def yX9_scold : MethodName := ⟨RX9, "scold", "(IIII)I"⟩
abbrev cX9_reading : ByteArray := prog_1_method_13_code
def yX9_reading : MethodName := ⟨RX9, "reading", "(IIII)I"⟩
abbrev cX9_back : ByteArray := prog_1_method_14_code
def yX9_back : MethodName := ⟨RX9, "back", "(I)I"⟩
abbrev cX9_said : ByteArray := prog_1_method_15_code
def yX9_said : MethodName := ⟨RX9, "said", "(III)I"⟩
abbrev cX9_quarrel : ByteArray := prog_1_method_16_code
def yX9_quarrel : MethodName := ⟨RX9, "quarrel", "(IIII)I"⟩
abbrev cX9_peace : ByteArray := prog_1_method_17_code
def yX9_peace : MethodName := ⟨RX9, "peace", "(I)I"⟩
abbrev cX9_round : ByteArray := prog_1_method_18_code
def yX9_round : MethodName := ⟨RX9, "round", "(II)I"⟩
abbrev cX9_fines : ByteArray := prog_1_method_19_code
def yX9_fines : MethodName := ⟨RX9, "fines", "(II)I"⟩
abbrev cX9_mean : ByteArray := prog_1_method_20_code
def yX9_mean : MethodName := ⟨RX9, "mean", "(II)J"⟩
abbrev cX9_sheet : ByteArray := prog_1_method_21_code
def yX9_sheet : MethodName := ⟨RX9, "sheet", "(III)I"⟩
abbrev cX9_lose : ByteArray := prog_1_method_22_code
def yX9_lose : MethodName := ⟨RX9, "lose", "(I)I"⟩
abbrev cX9_put : ByteArray := prog_1_method_23_code
def yX9_put : MethodName := ⟨RX9, "put", "(III)I"⟩
abbrev cX9_cell : ByteArray := prog_1_method_24_code
def yX9_cell : MethodName := ⟨RX9, "cell", "(III)J"⟩
abbrev cX9_copy : ByteArray := prog_1_method_25_code
def yX9_copy : MethodName := ⟨RX9, "copy", "(IIIII)I"⟩
abbrev cX9_tell : ByteArray := prog_1_method_26_code
def yX9_tell : MethodName := ⟨RX9, "tell", "(I)I"⟩
abbrev cX9_lean : ByteArray := prog_1_method_27_code
def yX9_lean : MethodName := ⟨RX9, "lean", "(I)I"⟩
abbrev cX9_as : ByteArray := prog_1_method_28_code
def yX9_as : MethodName := ⟨RX9, "as", "(II)I"⟩
abbrev cX9_trace : ByteArray := prog_1_method_29_code
def yX9_trace : MethodName := ⟨RX9, "trace", "()I"⟩
abbrev cX9_fault : ByteArray := prog_1_method_30_code
def yX9_fault : MethodName := ⟨RX9, "fault", "()I"⟩
abbrev cX9_many : ByteArray := prog_1_method_31_code
def yX9_many : MethodName := ⟨RX9, "many", "(I)I"⟩
abbrev cX9_faulted : ByteArray := prog_1_method_32_code
def yX9_faulted : MethodName := ⟨RX9, "faulted", "(I)I"⟩
abbrev cX9_lostBy : ByteArray := prog_1_method_33_code
def yX9_lostBy : MethodName := ⟨RX9, "lostBy", "(I)J"⟩
abbrev cX9_isWithin : ByteArray := prog_1_method_34_code
def yX9_isWithin : MethodName := ⟨RX9, "isWithin", "(II)Z"⟩
abbrev cX9_isSheet : ByteArray := prog_1_method_35_code
def yX9_isSheet : MethodName := ⟨RX9, "isSheet", "(I)Z"⟩
abbrev cX9_isSide : ByteArray := prog_1_method_36_code
def yX9_isSide : MethodName := ⟨RX9, "isSide", "(I)Z"⟩
abbrev cX9_isDay : ByteArray := prog_1_method_37_code
def yX9_isDay : MethodName := ⟨RX9, "isDay", "(I)Z"⟩
abbrev cX9_isDawn : ByteArray := prog_1_method_38_code
def yX9_isDawn : MethodName := ⟨RX9, "isDawn", "(I)Z"⟩
abbrev cX9_isFeet : ByteArray := prog_1_method_39_code
def yX9_isFeet : MethodName := ⟨RX9, "isFeet", "(I)Z"⟩
abbrev cX9_hedgeBeside : ByteArray := prog_1_method_40_code
def yX9_hedgeBeside : MethodName := ⟨RX9, "hedgeBeside", "(II)I"⟩
abbrev cX9_otherSide : ByteArray := prog_1_method_41_code
def yX9_otherSide : MethodName := ⟨RX9, "otherSide", "(I)I"⟩
abbrev cX9_commonDivisor : ByteArray := prog_1_method_42_code
def yX9_commonDivisor : MethodName := ⟨RX9, "commonDivisor", "(II)I"⟩
def RX10 : String := "WordHedgesModel"
def TX10 : u_T := fun k => match k with
  | 0 => ("WordHedgesModel", "fault", "I", false)
  | 1 => ("WordHedgesModel", "gardenMany", "I", false)
  | 2 => ("WordHedgesModel", "wantOf", "[I", true)
  | 3 => ("WordHedgesModel", "kindOf", "[I", true)
  | 4 => ("WordHedgesModel", "highOf", "[I", true)
  | 5 => ("WordHedgesModel", "wordOf", "[I", true)
  | 6 => ("WordHedgesModel", "clipOf", "[I", true)
  | 7 => ("WordHedgesModel", "readAt", "I", false)
  | 8 => ("WordHedgesModel", "readMany", "I", false)
  | 9 => ("WordHedgesModel", "readWant", "[I", true)
  | 10 => ("WordHedgesModel", "readKind", "[I", true)
  | 11 => ("WordHedgesModel", "readHigh", "[I", true)
  | 12 => ("WordHedgesModel", "readings", "I", false)
  | 13 => ("WordHedgesModel", "readingOf", "[I", true)
  | 14 => ("WordHedgesModel", "readingSide", "[I", true)
  | 15 => ("WordHedgesModel", "readingDawn", "[I", true)
  | 16 => ("WordHedgesModel", "readingAt", "[I", true)
  | 17 => ("WordHedgesModel", "wordsWas", "[I", true)
  | 18 => ("WordHedgesModel", "sheetSize", "[I", true)
  | 19 => ("WordHedgesModel", "sheetLane", "[I", true)
  | 20 => ("WordHedgesModel", "sheet", "[I", true)
  | 21 => ("WordHedgesModel", "hands", "[I", true)
  | _ => ("WordHedgesModel", "traceNow", "I", false)
def tyX10 : Nat → FieldType := fun k => match k with
  | 0 => .int
  | 1 => .int
  | 2 => .array .int
  | 3 => .array .int
  | 4 => .array .int
  | 5 => .array .int
  | 6 => .array .int
  | 7 => .int
  | 8 => .int
  | 9 => .array .int
  | 10 => .array .int
  | 11 => .array .int
  | 12 => .int
  | 13 => .array .int
  | 14 => .array .int
  | 15 => .array .int
  | 16 => .array .int
  | 17 => .array .int
  | 18 => .array .int
  | 19 => .array .int
  | 20 => .array .int
  | 21 => .array .int
  | _ => .int
abbrev wsX100 : List Cond := u_ws RX10 TX10 23
theorem nmX10 : ∀ a, a < 23 → ∀ b, b < 23 → a ≠ b → (TX10 a).2.1 ≠ (TX10 b).2.1 := by decide +kernel
theorem tyX10_ok : ∀ k, k < 23 → parseFieldDescriptor (TX10 k).2.2.1 = some (tyX10 k) := by decide +kernel
abbrev cX10_init : ByteArray := prog_12_method_1_code
def yX10_init : MethodName := ⟨RX10, "<init>", "()V"⟩
abbrev cX10_in : ByteArray := prog_12_method_2_code
def yX10_in : MethodName := ⟨RX10, "in", "(JJJ)Z"⟩
abbrev cX10_lost : ByteArray := prog_12_method_3_code
def yX10_lost : MethodName := ⟨RX10, "lost", "()J"⟩
abbrev cX10_lesser : ByteArray := prog_12_method_4_code
def yX10_lesser : MethodName := ⟨RX10, "lesser", "(II)I"⟩
abbrev cX10_told : ByteArray := prog_12_method_5_code
def yX10_told : MethodName := ⟨RX10, "told", "(JJI)J"⟩
abbrev cX10_refused : ByteArray := prog_12_method_6_code
def yX10_refused : MethodName := ⟨RX10, "refused", "(I)I"⟩
abbrev cX10_failed : ByteArray := prog_12_method_7_code
def yX10_failed : MethodName := ⟨RX10, "failed", "(I)I"⟩
abbrev cX10_failedLong : ByteArray := prog_12_method_8_code
def yX10_failedLong : MethodName := ⟨RX10, "failedLong", "(I)J"⟩
abbrev cX10_hedges : ByteArray := prog_12_method_9_code
def yX10_hedges : MethodName := ⟨RX10, "hedges", "()I"⟩
abbrev cX10_noGarden : ByteArray := prog_12_method_10_code
def yX10_noGarden : MethodName := ⟨RX10, "noGarden", "(I)Z"⟩
abbrev cX10_noHedge : ByteArray := prog_12_method_11_code
def yX10_noHedge : MethodName := ⟨RX10, "noHedge", "(I)Z"⟩
abbrev cX10_isDay : ByteArray := prog_12_method_12_code
def yX10_isDay : MethodName := ⟨RX10, "isDay", "(I)Z"⟩
abbrev cX10_isDawn : ByteArray := prog_12_method_13_code
def yX10_isDawn : MethodName := ⟨RX10, "isDawn", "(I)Z"⟩
abbrev cX10_isSide : ByteArray := prog_12_method_14_code
def yX10_isSide : MethodName := ⟨RX10, "isSide", "(I)Z"⟩
abbrev cX10_isFeet : ByteArray := prog_12_method_15_code
def yX10_isFeet : MethodName := ⟨RX10, "isFeet", "(I)Z"⟩
abbrev cX10_codeAt : ByteArray := prog_12_method_16_code
def yX10_codeAt : MethodName := ⟨RX10, "codeAt", "(II)I"⟩
abbrev cX10_figure : ByteArray := prog_12_method_17_code
def yX10_figure : MethodName := ⟨RX10, "figure", "(II)I"⟩
abbrev cX10_readsMore : ByteArray := prog_12_method_18_code
def yX10_readsMore : MethodName := ⟨RX10, "readsMore", "(II)Z"⟩
abbrev cX10_readsAll : ByteArray := prog_12_method_19_code
def yX10_readsAll : MethodName := ⟨RX10, "readsAll", "(II)Z"⟩
abbrev cX10_gardens : ByteArray := prog_12_method_20_code
def yX10_gardens : MethodName := ⟨RX10, "gardens", "(IIII)I"⟩
abbrev cX10_wants : ByteArray := prog_12_method_21_code
def yX10_wants : MethodName := ⟨RX10, "wants", "(I)I"⟩
abbrev cX10_ofHedge : ByteArray := prog_12_method_22_code
def yX10_ofHedge : MethodName := ⟨RX10, "ofHedge", "(II)I"⟩
abbrev cX10_placeOf : ByteArray := prog_12_method_23_code
def yX10_placeOf : MethodName := ⟨RX10, "placeOf", "(III)I"⟩
abbrev cX10_hedgeAt : ByteArray := prog_12_method_24_code
def yX10_hedgeAt : MethodName := ⟨RX10, "hedgeAt", "(II)I"⟩
abbrev cX10_say : ByteArray := prog_12_method_25_code
def yX10_say : MethodName := ⟨RX10, "say", "(IIII)I"⟩
abbrev cX10_clip : ByteArray := prog_12_method_26_code
def yX10_clip : MethodName := ⟨RX10, "clip", "(III)I"⟩
abbrev cX10_heardAt : ByteArray := prog_12_method_27_code
def yX10_heardAt : MethodName := ⟨RX10, "heardAt", "(III)I"⟩
abbrev cX10_bounded : ByteArray := prog_12_method_28_code
def yX10_bounded : MethodName := ⟨RX10, "bounded", "(I)I"⟩
abbrev cX10_grows : ByteArray := prog_12_method_29_code
def yX10_grows : MethodName := ⟨RX10, "grows", "(II)I"⟩
abbrev cX10_faceAt : ByteArray := prog_12_method_30_code
def yX10_faceAt : MethodName := ⟨RX10, "faceAt", "(III)I"⟩
abbrev cX10_face : ByteArray := prog_12_method_31_code
def yX10_face : MethodName := ⟨RX10, "face", "(III)I"⟩
abbrev cX10_heightAt : ByteArray := prog_12_method_32_code
def yX10_heightAt : MethodName := ⟨RX10, "heightAt", "(II)I"⟩
abbrev cX10_height : ByteArray := prog_12_method_33_code
def yX10_height : MethodName := ⟨RX10, "height", "(III)I"⟩
abbrev cX10_lightAt : ByteArray := prog_12_method_34_code
def yX10_lightAt : MethodName := ⟨RX10, "lightAt", "(II)I"⟩
abbrev cX10_light : ByteArray := prog_12_method_35_code
def yX10_light : MethodName := ⟨RX10, "light", "(II)I"⟩
abbrev cX10_doGoatsCome : ByteArray := prog_12_method_36_code
def yX10_doGoatsCome : MethodName := ⟨RX10, "doGoatsCome", "(II)Z"⟩
abbrev cX10_goats : ByteArray := prog_12_method_37_code
def yX10_goats : MethodName := ⟨RX10, "goats", "(I)I"⟩
abbrev cX10_offAt : ByteArray := prog_12_method_38_code
def yX10_offAt : MethodName := ⟨RX10, "offAt", "(II)I"⟩
abbrev cX10_off : ByteArray := prog_12_method_39_code
def yX10_off : MethodName := ⟨RX10, "off", "(II)I"⟩
abbrev cX10_enoughFor : ByteArray := prog_12_method_40_code
def yX10_enoughFor : MethodName := ⟨RX10, "enoughFor", "(IIII)I"⟩
abbrev cX10_scold : ByteArray := prog_12_method_41_code
def yX10_scold : MethodName := ⟨RX10, "scold", "(IIII)I"⟩
abbrev cX10_reading : ByteArray := prog_12_method_42_code
def yX10_reading : MethodName := ⟨RX10, "reading", "(IIII)I"⟩
abbrev cX10_back : ByteArray := prog_12_method_43_code
def yX10_back : MethodName := ⟨RX10, "back", "(I)I"⟩
abbrev cX10_areSo : ByteArray := prog_12_method_44_code
def yX10_areSo : MethodName := ⟨RX10, "areSo", "()Z"⟩
abbrev cX10_said : ByteArray := prog_12_method_45_code
def yX10_said : MethodName := ⟨RX10, "said", "(III)I"⟩
abbrev cX10_chosenFor : ByteArray := prog_12_method_46_code
def yX10_chosenFor : MethodName := ⟨RX10, "chosenFor", "(III)I"⟩
abbrev cX10_quarrel : ByteArray := prog_12_method_47_code
def yX10_quarrel : MethodName := ⟨RX10, "quarrel", "(IIII)I"⟩
abbrev cX10_wouldChange : ByteArray := prog_12_method_48_code
def yX10_wouldChange : MethodName := ⟨RX10, "wouldChange", "(II)Z"⟩
abbrev cX10_peace : ByteArray := prog_12_method_49_code
def yX10_peace : MethodName := ⟨RX10, "peace", "(I)I"⟩
abbrev cX10_above : ByteArray := prog_12_method_50_code
def yX10_above : MethodName := ⟨RX10, "above", "(II)I"⟩
abbrev cX10_round : ByteArray := prog_12_method_51_code
def yX10_round : MethodName := ⟨RX10, "round", "(II)I"⟩
abbrev cX10_finedAt : ByteArray := prog_12_method_52_code
def yX10_finedAt : MethodName := ⟨RX10, "finedAt", "(IIII)I"⟩
abbrev cX10_finesOf : ByteArray := prog_12_method_53_code
def yX10_finesOf : MethodName := ⟨RX10, "finesOf", "(II)I"⟩
abbrev cX10_fines : ByteArray := prog_12_method_54_code
def yX10_fines : MethodName := ⟨RX10, "fines", "(II)I"⟩
abbrev cX10_mean : ByteArray := prog_12_method_55_code
def yX10_mean : MethodName := ⟨RX10, "mean", "(II)J"⟩
abbrev cX10_noSheet : ByteArray := prog_12_method_56_code
def yX10_noSheet : MethodName := ⟨RX10, "noSheet", "(I)Z"⟩
abbrev cX10_sheet : ByteArray := prog_12_method_57_code
def yX10_sheet : MethodName := ⟨RX10, "sheet", "(III)I"⟩
abbrev cX10_lose : ByteArray := prog_12_method_58_code
def yX10_lose : MethodName := ⟨RX10, "lose", "(I)I"⟩
abbrev cX10_noCell : ByteArray := prog_12_method_59_code
def yX10_noCell : MethodName := ⟨RX10, "noCell", "(II)I"⟩
abbrev cX10_put : ByteArray := prog_12_method_60_code
def yX10_put : MethodName := ⟨RX10, "put", "(III)I"⟩
abbrev cX10_cell : ByteArray := prog_12_method_61_code
def yX10_cell : MethodName := ⟨RX10, "cell", "(III)J"⟩
abbrev cX10_isBeyond : ByteArray := prog_12_method_62_code
def yX10_isBeyond : MethodName := ⟨RX10, "isBeyond", "(IJI)Z"⟩
abbrev cX10_copy : ByteArray := prog_12_method_63_code
def yX10_copy : MethodName := ⟨RX10, "copy", "(IIIII)I"⟩
abbrev cX10_traced : ByteArray := prog_12_method_64_code
def yX10_traced : MethodName := ⟨RX10, "traced", "(I)V"⟩
abbrev cX10_tell : ByteArray := prog_12_method_65_code
def yX10_tell : MethodName := ⟨RX10, "tell", "(I)I"⟩
abbrev cX10_lean : ByteArray := prog_12_method_66_code
def yX10_lean : MethodName := ⟨RX10, "lean", "(I)I"⟩
abbrev cX10_as : ByteArray := prog_12_method_67_code
def yX10_as : MethodName := ⟨RX10, "as", "(II)I"⟩
abbrev cX10_trace : ByteArray := prog_12_method_68_code
def yX10_trace : MethodName := ⟨RX10, "trace", "()I"⟩
abbrev cX10_fault : ByteArray := prog_12_method_69_code
def yX10_fault : MethodName := ⟨RX10, "fault", "()I"⟩
abbrev cX10_many : ByteArray := prog_12_method_70_code
def yX10_many : MethodName := ⟨RX10, "many", "(I)I"⟩
def RJ9 : String := "java/lang/Math"
def TJ9 : u_T := fun k => match k with
  | _ => ("", "", "", false)
def tyJ9 : Nat → FieldType := fun k => match k with
  | _ => .int
theorem nmJ9 : ∀ a, a < 0 → ∀ b, b < 0 → a ≠ b → (TJ9 a).2.1 ≠ (TJ9 b).2.1 := by decide +kernel
theorem tyJ9_ok : ∀ k, k < 0 → parseFieldDescriptor (TJ9 k).2.2.1 = some (tyJ9 k) := by decide +kernel
abbrev cJ9_abs_0f7a4 : ByteArray := prog_13_method_59_code
def yJ9_abs_0f7a4 : MethodName := ⟨RJ9, "abs", "(I)I"⟩
abbrev cJ9_max_7cf53 : ByteArray := prog_13_method_65_code
def yJ9_max_7cf53 : MethodName := ⟨RJ9, "max", "(II)I"⟩
abbrev cJ9_min_7cf53 : ByteArray := prog_13_method_69_code
def yJ9_min_7cf53 : MethodName := ⟨RJ9, "min", "(II)I"⟩
def RJ10 : String := "java/lang/System"
def TJ10 : u_T := fun k => match k with
  | _ => ("", "", "", false)
def tyJ10 : Nat → FieldType := fun k => match k with
  | _ => .int
theorem nmJ10 : ∀ a, a < 0 → ∀ b, b < 0 → a ≠ b → (TJ10 a).2.1 ≠ (TJ10 b).2.1 := by decide +kernel
theorem tyJ10_ok : ∀ k, k < 0 → parseFieldDescriptor (TJ10 k).2.2.1 = some (tyJ10 k) := by decide +kernel
def RJ7 : String := "java/util/Arrays"
def TJ7 : u_T := fun k => match k with
  | _ => ("", "", "", false)
def tyJ7 : Nat → FieldType := fun k => match k with
  | _ => .int
theorem nmJ7 : ∀ a, a < 0 → ∀ b, b < 0 → a ≠ b → (TJ7 a).2.1 ≠ (TJ7 b).2.1 := by decide +kernel
theorem tyJ7_ok : ∀ k, k < 0 → parseFieldDescriptor (TJ7 k).2.2.1 = some (tyJ7 k) := by decide +kernel
abbrev cJ7_fill_53178 : ByteArray := prog_15_method_103_code
def yJ7_fill_53178 : MethodName := ⟨RJ7, "fill", "([II)V"⟩
def RL : String := "WordHedgesLaw"
abbrev cL_law : ByteArray := code
def yL_law : MethodName := ⟨RL, "law", "([I)Z"⟩
abbrev vwCl : List vw_C := [(RX0, TX0, 4), (RX1, TX1, 2), (RX2, TX2, 2), (RX3, TX3, 5), (RX4, TX4, 3), (RX5, TX5, 3), (RX7, TX7, 1), (RX8, TX8, 2), (RX9, TX9, 5), (RX10, TX10, 23)]
end
section
theorem dX0_init_0 : decode cX0_init 0 = .ok (.aload_n 0, 1) := by decide +kernel
theorem dX0_init_1 : decode cX0_init 1 = .ok (.invokespecial 3, 3) := by decide +kernel
theorem dX0_init_4 : decode cX0_init 4 = .ok (.aload_n 0, 1) := by decide +kernel
theorem dX0_init_5 : decode cX0_init 5 = .ok (.new 9, 3) := by decide +kernel
theorem dX0_init_8 : decode cX0_init 8 = .ok (.dup, 1) := by decide +kernel
theorem dX0_init_9 : decode cX0_init 9 = .ok (.iconst 0, 1) := by decide +kernel
theorem dX0_init_10 : decode cX0_init 10 = .ok (.iconst 0, 1) := by decide +kernel
theorem dX0_init_11 : decode cX0_init 11 = .ok (.invokespecial 11, 3) := by decide +kernel
theorem dX0_init_14 : decode cX0_init 14 = .ok (.putfield 14, 3) := by decide +kernel
theorem dX0_init_17 : decode cX0_init 17 = .ok (.aload_n 0, 1) := by decide +kernel
theorem dX0_init_18 : decode cX0_init 18 = .ok (.iconst 2, 1) := by decide +kernel
theorem dX0_init_19 : decode cX0_init 19 = .ok (.bipush 30, 2) := by decide +kernel
theorem dX0_init_21 : decode cX0_init 21 = .ok (.multianewarray 20 2, 4) := by decide +kernel
theorem dX0_init_25 : decode cX0_init 25 = .ok (.putfield 22, 3) := by decide +kernel
theorem dX0_init_28 : decode cX0_init 28 = .ok (.aload_n 0, 1) := by decide +kernel
theorem dX0_init_29 : decode cX0_init 29 = .ok (.iconst 2, 1) := by decide +kernel
theorem dX0_init_30 : decode cX0_init 30 = .ok (.bipush 31, 2) := by decide +kernel
theorem dX0_init_32 : decode cX0_init 32 = .ok (.multianewarray 20 2, 4) := by decide +kernel
theorem dX0_init_36 : decode cX0_init 36 = .ok (.putfield 25, 3) := by decide +kernel
theorem dX0_init_39 : decode cX0_init 39 = .ok (.aload_n 0, 1) := by decide +kernel
theorem dX0_init_40 : decode cX0_init 40 = .ok (.bipush 30, 2) := by decide +kernel
theorem dX0_init_42 : decode cX0_init 42 = .ok (.newarray .int, 2) := by decide +kernel
theorem dX0_init_44 : decode cX0_init 44 = .ok (.putfield 28, 3) := by decide +kernel
theorem dX0_init_47 : decode cX0_init 47 = .ok (.return_, 1) := by decide +kernel
theorem dX0_plant_0 : decode cX0_plant 0 = .ok (.aload_n 0, 1) := by decide +kernel
theorem dX0_plant_1 : decode cX0_plant 1 = .ok (.aload_n 1, 1) := by decide +kernel
theorem dX0_plant_2 : decode cX0_plant 2 = .ok (.putfield 14, 3) := by decide +kernel
theorem dX0_plant_5 : decode cX0_plant 5 = .ok (.aload_n 0, 1) := by decide +kernel
theorem dX0_plant_6 : decode cX0_plant 6 = .ok (.getfield 28, 3) := by decide +kernel
theorem dX0_plant_9 : decode cX0_plant 9 = .ok (.bipush (-9), 2) := by decide +kernel
theorem dX0_plant_11 : decode cX0_plant 11 = .ok (.invokestatic 32, 3) := by decide +kernel
theorem dX0_plant_14 : decode cX0_plant 14 = .ok (.iconst 0, 1) := by decide +kernel
theorem dX0_plant_15 : decode cX0_plant 15 = .ok (.istore_n 2, 1) := by decide +kernel
theorem dX0_plant_16 : decode cX0_plant 16 = .ok (.iload_n 2, 1) := by decide +kernel
theorem dX0_plant_17 : decode cX0_plant 17 = .ok (.iconst 1, 1) := by decide +kernel
theorem dX0_plant_18 : decode cX0_plant 18 = .ok (.if_icmp .gt 40, 3) := by decide +kernel
theorem dX0_plant_21 : decode cX0_plant 21 = .ok (.aload_n 0, 1) := by decide +kernel
theorem dX0_plant_22 : decode cX0_plant 22 = .ok (.getfield 22, 3) := by decide +kernel
theorem dX0_plant_25 : decode cX0_plant 25 = .ok (.iload_n 2, 1) := by decide +kernel
theorem dX0_plant_26 : decode cX0_plant 26 = .ok (.aaload, 1) := by decide +kernel
theorem dX0_plant_27 : decode cX0_plant 27 = .ok (.iconst 0, 1) := by decide +kernel
theorem dX0_plant_28 : decode cX0_plant 28 = .ok (.invokestatic 32, 3) := by decide +kernel
theorem dX0_plant_31 : decode cX0_plant 31 = .ok (.aload_n 0, 1) := by decide +kernel
theorem dX0_plant_32 : decode cX0_plant 32 = .ok (.getfield 25, 3) := by decide +kernel
theorem dX0_plant_35 : decode cX0_plant 35 = .ok (.iload_n 2, 1) := by decide +kernel
theorem dX0_plant_36 : decode cX0_plant 36 = .ok (.aaload, 1) := by decide +kernel
theorem dX0_plant_37 : decode cX0_plant 37 = .ok (.iconst 0, 1) := by decide +kernel
theorem dX0_plant_38 : decode cX0_plant 38 = .ok (.bipush 12, 2) := by decide +kernel
theorem dX0_plant_40 : decode cX0_plant 40 = .ok (.aload_n 1, 1) := by decide +kernel
theorem dX0_plant_41 : decode cX0_plant 41 = .ok (.getfield 38, 3) := by decide +kernel
theorem dX0_plant_44 : decode cX0_plant 44 = .ok (.imul, 1) := by decide +kernel
theorem dX0_plant_45 : decode cX0_plant 45 = .ok (.iastore, 1) := by decide +kernel
theorem dX0_plant_46 : decode cX0_plant 46 = .ok (.aload_n 0, 1) := by decide +kernel
theorem dX0_plant_47 : decode cX0_plant 47 = .ok (.iload_n 2, 1) := by decide +kernel
theorem dX0_plant_48 : decode cX0_plant 48 = .ok (.iconst 0, 1) := by decide +kernel
theorem dX0_plant_49 : decode cX0_plant 49 = .ok (.invokevirtual 42, 3) := by decide +kernel
theorem dX0_plant_52 : decode cX0_plant 52 = .ok (.iinc 2 1, 3) := by decide +kernel
theorem dX0_plant_55 : decode cX0_plant 55 = .ok (.goto (-39), 3) := by decide +kernel
theorem dX0_plant_58 : decode cX0_plant 58 = .ok (.return_, 1) := by decide +kernel
theorem dX0_speak_0 : decode cX0_speak 0 = .ok (.aload_n 0, 1) := by decide +kernel
theorem dX0_speak_1 : decode cX0_speak 1 = .ok (.getfield 22, 3) := by decide +kernel
theorem dX0_speak_4 : decode cX0_speak 4 = .ok (.iload_n 1, 1) := by decide +kernel
theorem dX0_speak_5 : decode cX0_speak 5 = .ok (.aaload, 1) := by decide +kernel
theorem dX0_speak_6 : decode cX0_speak 6 = .ok (.iload_n 2, 1) := by decide +kernel
theorem dX0_speak_7 : decode cX0_speak 7 = .ok (.iaload, 1) := by decide +kernel
theorem dX0_speak_8 : decode cX0_speak 8 = .ok (.istore 4, 2) := by decide +kernel
theorem dX0_speak_10 : decode cX0_speak 10 = .ok (.aload_n 0, 1) := by decide +kernel
theorem dX0_speak_11 : decode cX0_speak 11 = .ok (.getfield 22, 3) := by decide +kernel
theorem dX0_speak_14 : decode cX0_speak 14 = .ok (.iload_n 1, 1) := by decide +kernel
theorem dX0_speak_15 : decode cX0_speak 15 = .ok (.aaload, 1) := by decide +kernel
theorem dX0_speak_16 : decode cX0_speak 16 = .ok (.iload_n 2, 1) := by decide +kernel
theorem dX0_speak_17 : decode cX0_speak 17 = .ok (.iload_n 3, 1) := by decide +kernel
theorem dX0_speak_18 : decode cX0_speak 18 = .ok (.iastore, 1) := by decide +kernel
theorem dX0_speak_19 : decode cX0_speak 19 = .ok (.aload_n 0, 1) := by decide +kernel
theorem dX0_speak_20 : decode cX0_speak 20 = .ok (.iload_n 1, 1) := by decide +kernel
theorem dX0_speak_21 : decode cX0_speak 21 = .ok (.iload_n 2, 1) := by decide +kernel
theorem dX0_speak_22 : decode cX0_speak 22 = .ok (.invokevirtual 42, 3) := by decide +kernel
theorem dX0_speak_25 : decode cX0_speak 25 = .ok (.iload 4, 2) := by decide +kernel
theorem dX0_speak_27 : decode cX0_speak 27 = .ok (.ireturn, 1) := by decide +kernel
theorem dX0_cutBack_0 : decode cX0_cutBack 0 = .ok (.aload_n 0, 1) := by decide +kernel
theorem dX0_cutBack_1 : decode cX0_cutBack 1 = .ok (.getfield 28, 3) := by decide +kernel
theorem dX0_cutBack_4 : decode cX0_cutBack 4 = .ok (.iload_n 1, 1) := by decide +kernel
theorem dX0_cutBack_5 : decode cX0_cutBack 5 = .ok (.iaload, 1) := by decide +kernel
theorem dX0_cutBack_6 : decode cX0_cutBack 6 = .ok (.istore_n 3, 1) := by decide +kernel
theorem dX0_cutBack_7 : decode cX0_cutBack 7 = .ok (.aload_n 0, 1) := by decide +kernel
theorem dX0_cutBack_8 : decode cX0_cutBack 8 = .ok (.getfield 28, 3) := by decide +kernel
theorem dX0_cutBack_11 : decode cX0_cutBack 11 = .ok (.iload_n 1, 1) := by decide +kernel
theorem dX0_cutBack_12 : decode cX0_cutBack 12 = .ok (.iload_n 2, 1) := by decide +kernel
theorem dX0_cutBack_13 : decode cX0_cutBack 13 = .ok (.iastore, 1) := by decide +kernel
theorem dX0_cutBack_14 : decode cX0_cutBack 14 = .ok (.aload_n 0, 1) := by decide +kernel
theorem dX0_cutBack_15 : decode cX0_cutBack 15 = .ok (.iconst 0, 1) := by decide +kernel
theorem dX0_cutBack_16 : decode cX0_cutBack 16 = .ok (.iload_n 1, 1) := by decide +kernel
theorem dX0_cutBack_17 : decode cX0_cutBack 17 = .ok (.invokevirtual 42, 3) := by decide +kernel
theorem dX0_cutBack_20 : decode cX0_cutBack 20 = .ok (.aload_n 0, 1) := by decide +kernel
theorem dX0_cutBack_21 : decode cX0_cutBack 21 = .ok (.iconst 1, 1) := by decide +kernel
theorem dX0_cutBack_22 : decode cX0_cutBack 22 = .ok (.iload_n 1, 1) := by decide +kernel
theorem dX0_cutBack_23 : decode cX0_cutBack 23 = .ok (.invokevirtual 42, 3) := by decide +kernel
theorem dX0_cutBack_26 : decode cX0_cutBack 26 = .ok (.iload_n 3, 1) := by decide +kernel
theorem dX0_cutBack_27 : decode cX0_cutBack 27 = .ok (.ireturn, 1) := by decide +kernel
theorem dX0_growFrom_0 : decode cX0_growFrom 0 = .ok (.aload_n 0, 1) := by decide +kernel
theorem dX0_growFrom_1 : decode cX0_growFrom 1 = .ok (.getfield 22, 3) := by decide +kernel
theorem dX0_growFrom_4 : decode cX0_growFrom 4 = .ok (.iload_n 1, 1) := by decide +kernel
theorem dX0_growFrom_5 : decode cX0_growFrom 5 = .ok (.aaload, 1) := by decide +kernel
theorem dX0_growFrom_6 : decode cX0_growFrom 6 = .ok (.astore_n 3, 1) := by decide +kernel
theorem dX0_growFrom_7 : decode cX0_growFrom 7 = .ok (.aload_n 0, 1) := by decide +kernel
theorem dX0_growFrom_8 : decode cX0_growFrom 8 = .ok (.getfield 25, 3) := by decide +kernel
theorem dX0_growFrom_11 : decode cX0_growFrom 11 = .ok (.iload_n 1, 1) := by decide +kernel
theorem dX0_growFrom_12 : decode cX0_growFrom 12 = .ok (.aaload, 1) := by decide +kernel
theorem dX0_growFrom_13 : decode cX0_growFrom 13 = .ok (.astore 4, 2) := by decide +kernel
theorem dX0_growFrom_15 : decode cX0_growFrom 15 = .ok (.iload_n 2, 1) := by decide +kernel
theorem dX0_growFrom_16 : decode cX0_growFrom 16 = .ok (.istore 5, 2) := by decide +kernel
theorem dX0_growFrom_18 : decode cX0_growFrom 18 = .ok (.iload 5, 2) := by decide +kernel
theorem dX0_growFrom_20 : decode cX0_growFrom 20 = .ok (.bipush 30, 2) := by decide +kernel
theorem dX0_growFrom_22 : decode cX0_growFrom 22 = .ok (.if_icmp .ge 31, 3) := by decide +kernel
theorem dX0_growFrom_25 : decode cX0_growFrom 25 = .ok (.aload 4, 2) := by decide +kernel
theorem dX0_growFrom_27 : decode cX0_growFrom 27 = .ok (.iload 5, 2) := by decide +kernel
theorem dX0_growFrom_29 : decode cX0_growFrom 29 = .ok (.iconst 1, 1) := by decide +kernel
theorem dX0_growFrom_30 : decode cX0_growFrom 30 = .ok (.iadd, 1) := by decide +kernel
theorem dX0_growFrom_31 : decode cX0_growFrom 31 = .ok (.aload_n 0, 1) := by decide +kernel
theorem dX0_growFrom_32 : decode cX0_growFrom 32 = .ok (.aload 4, 2) := by decide +kernel
theorem dX0_growFrom_34 : decode cX0_growFrom 34 = .ok (.iload 5, 2) := by decide +kernel
theorem dX0_growFrom_36 : decode cX0_growFrom 36 = .ok (.iaload, 1) := by decide +kernel
theorem dX0_growFrom_37 : decode cX0_growFrom 37 = .ok (.iload 5, 2) := by decide +kernel
theorem dX0_growFrom_39 : decode cX0_growFrom 39 = .ok (.aload_n 3, 1) := by decide +kernel
theorem dX0_growFrom_40 : decode cX0_growFrom 40 = .ok (.iload 5, 2) := by decide +kernel
theorem dX0_growFrom_42 : decode cX0_growFrom 42 = .ok (.iaload, 1) := by decide +kernel
theorem dX0_growFrom_43 : decode cX0_growFrom 43 = .ok (.invokevirtual 45, 3) := by decide +kernel
theorem dX0_growFrom_46 : decode cX0_growFrom 46 = .ok (.iastore, 1) := by decide +kernel
theorem dX0_growFrom_47 : decode cX0_growFrom 47 = .ok (.iinc 5 1, 3) := by decide +kernel
theorem dX0_growFrom_50 : decode cX0_growFrom 50 = .ok (.goto (-32), 3) := by decide +kernel
theorem dX0_growFrom_53 : decode cX0_growFrom 53 = .ok (.return_, 1) := by decide +kernel
theorem dX0_dayOver_0 : decode cX0_dayOver 0 = .ok (.iconst 0, 1) := by decide +kernel
theorem dX0_dayOver_1 : decode cX0_dayOver 1 = .ok (.sipush 240, 3) := by decide +kernel
theorem dX0_dayOver_4 : decode cX0_dayOver 4 = .ok (.iload_n 1, 1) := by decide +kernel
theorem dX0_dayOver_5 : decode cX0_dayOver 5 = .ok (.aload_n 0, 1) := by decide +kernel
theorem dX0_dayOver_6 : decode cX0_dayOver 6 = .ok (.getfield 14, 3) := by decide +kernel
theorem dX0_dayOver_9 : decode cX0_dayOver 9 = .ok (.iload_n 3, 1) := by decide +kernel
theorem dX0_dayOver_10 : decode cX0_dayOver 10 = .ok (.invokevirtual 49, 3) := by decide +kernel
theorem dX0_dayOver_13 : decode cX0_dayOver 13 = .ok (.iadd, 1) := by decide +kernel
theorem dX0_dayOver_14 : decode cX0_dayOver 14 = .ok (.invokestatic 53, 3) := by decide +kernel
theorem dX0_dayOver_17 : decode cX0_dayOver 17 = .ok (.invokestatic 59, 3) := by decide +kernel
theorem dX0_dayOver_20 : decode cX0_dayOver 20 = .ok (.istore 4, 2) := by decide +kernel
theorem dX0_dayOver_22 : decode cX0_dayOver 22 = .ok (.aload_n 0, 1) := by decide +kernel
theorem dX0_dayOver_23 : decode cX0_dayOver 23 = .ok (.getfield 28, 3) := by decide +kernel
theorem dX0_dayOver_26 : decode cX0_dayOver 26 = .ok (.iload_n 2, 1) := by decide +kernel
theorem dX0_dayOver_27 : decode cX0_dayOver 27 = .ok (.iaload, 1) := by decide +kernel
theorem dX0_dayOver_28 : decode cX0_dayOver 28 = .ok (.bipush (-9), 2) := by decide +kernel
theorem dX0_dayOver_30 : decode cX0_dayOver 30 = .ok (.if_icmp .ne 8, 3) := by decide +kernel
theorem dX0_dayOver_33 : decode cX0_dayOver 33 = .ok (.iload 4, 2) := by decide +kernel
theorem dX0_dayOver_35 : decode cX0_dayOver 35 = .ok (.goto 17, 3) := by decide +kernel
theorem dX0_dayOver_38 : decode cX0_dayOver 38 = .ok (.iload 4, 2) := by decide +kernel
theorem dX0_dayOver_40 : decode cX0_dayOver 40 = .ok (.bipush 12, 2) := by decide +kernel
theorem dX0_dayOver_42 : decode cX0_dayOver 42 = .ok (.aload_n 0, 1) := by decide +kernel
theorem dX0_dayOver_43 : decode cX0_dayOver 43 = .ok (.getfield 28, 3) := by decide +kernel
theorem dX0_dayOver_46 : decode cX0_dayOver 46 = .ok (.iload_n 2, 1) := by decide +kernel
theorem dX0_dayOver_47 : decode cX0_dayOver 47 = .ok (.iaload, 1) := by decide +kernel
theorem dX0_dayOver_48 : decode cX0_dayOver 48 = .ok (.imul, 1) := by decide +kernel
theorem dX0_dayOver_49 : decode cX0_dayOver 49 = .ok (.invokestatic 53, 3) := by decide +kernel
theorem dX0_dayOver_52 : decode cX0_dayOver 52 = .ok (.ireturn, 1) := by decide +kernel
theorem dX0_inchesIf_0 : decode cX0_inchesIf 0 = .ok (.iload_n 2, 1) := by decide +kernel
theorem dX0_inchesIf_1 : decode cX0_inchesIf 1 = .ok (.iload_n 3, 1) := by decide +kernel
theorem dX0_inchesIf_2 : decode cX0_inchesIf 2 = .ok (.if_icmp .gt 12, 3) := by decide +kernel
theorem dX0_inchesIf_5 : decode cX0_inchesIf 5 = .ok (.aload_n 0, 1) := by decide +kernel
theorem dX0_inchesIf_6 : decode cX0_inchesIf 6 = .ok (.getfield 25, 3) := by decide +kernel
theorem dX0_inchesIf_9 : decode cX0_inchesIf 9 = .ok (.iload_n 1, 1) := by decide +kernel
theorem dX0_inchesIf_10 : decode cX0_inchesIf 10 = .ok (.aaload, 1) := by decide +kernel
theorem dX0_inchesIf_11 : decode cX0_inchesIf 11 = .ok (.iload_n 2, 1) := by decide +kernel
theorem dX0_inchesIf_12 : decode cX0_inchesIf 12 = .ok (.iaload, 1) := by decide +kernel
theorem dX0_inchesIf_13 : decode cX0_inchesIf 13 = .ok (.ireturn, 1) := by decide +kernel
theorem dX0_inchesIf_14 : decode cX0_inchesIf 14 = .ok (.aload_n 0, 1) := by decide +kernel
theorem dX0_inchesIf_15 : decode cX0_inchesIf 15 = .ok (.aload_n 0, 1) := by decide +kernel
theorem dX0_inchesIf_16 : decode cX0_inchesIf 16 = .ok (.getfield 25, 3) := by decide +kernel
theorem dX0_inchesIf_19 : decode cX0_inchesIf 19 = .ok (.iload_n 1, 1) := by decide +kernel
theorem dX0_inchesIf_20 : decode cX0_inchesIf 20 = .ok (.aaload, 1) := by decide +kernel
theorem dX0_inchesIf_21 : decode cX0_inchesIf 21 = .ok (.iload_n 3, 1) := by decide +kernel
theorem dX0_inchesIf_22 : decode cX0_inchesIf 22 = .ok (.iaload, 1) := by decide +kernel
theorem dX0_inchesIf_23 : decode cX0_inchesIf 23 = .ok (.iload_n 3, 1) := by decide +kernel
theorem dX0_inchesIf_24 : decode cX0_inchesIf 24 = .ok (.iload 4, 2) := by decide +kernel
theorem dX0_inchesIf_26 : decode cX0_inchesIf 26 = .ok (.invokevirtual 45, 3) := by decide +kernel
theorem dX0_inchesIf_29 : decode cX0_inchesIf 29 = .ok (.istore 5, 2) := by decide +kernel
theorem dX0_inchesIf_31 : decode cX0_inchesIf 31 = .ok (.iload_n 3, 1) := by decide +kernel
theorem dX0_inchesIf_32 : decode cX0_inchesIf 32 = .ok (.iconst 1, 1) := by decide +kernel
theorem dX0_inchesIf_33 : decode cX0_inchesIf 33 = .ok (.iadd, 1) := by decide +kernel
theorem dX0_inchesIf_34 : decode cX0_inchesIf 34 = .ok (.istore 6, 2) := by decide +kernel
theorem dX0_inchesIf_36 : decode cX0_inchesIf 36 = .ok (.iload 6, 2) := by decide +kernel
theorem dX0_inchesIf_38 : decode cX0_inchesIf 38 = .ok (.iload_n 2, 1) := by decide +kernel
theorem dX0_inchesIf_39 : decode cX0_inchesIf 39 = .ok (.if_icmp .ge 28, 3) := by decide +kernel
theorem dX0_inchesIf_42 : decode cX0_inchesIf 42 = .ok (.aload_n 0, 1) := by decide +kernel
theorem dX0_inchesIf_43 : decode cX0_inchesIf 43 = .ok (.iload 5, 2) := by decide +kernel
theorem dX0_inchesIf_45 : decode cX0_inchesIf 45 = .ok (.iload 6, 2) := by decide +kernel
theorem dX0_inchesIf_47 : decode cX0_inchesIf 47 = .ok (.aload_n 0, 1) := by decide +kernel
theorem dX0_inchesIf_48 : decode cX0_inchesIf 48 = .ok (.getfield 22, 3) := by decide +kernel
theorem dX0_inchesIf_51 : decode cX0_inchesIf 51 = .ok (.iload_n 1, 1) := by decide +kernel
theorem dX0_inchesIf_52 : decode cX0_inchesIf 52 = .ok (.aaload, 1) := by decide +kernel
theorem dX0_inchesIf_53 : decode cX0_inchesIf 53 = .ok (.iload 6, 2) := by decide +kernel
theorem dX0_inchesIf_55 : decode cX0_inchesIf 55 = .ok (.iaload, 1) := by decide +kernel
theorem dX0_inchesIf_56 : decode cX0_inchesIf 56 = .ok (.invokevirtual 45, 3) := by decide +kernel
theorem dX0_inchesIf_59 : decode cX0_inchesIf 59 = .ok (.istore 5, 2) := by decide +kernel
theorem dX0_inchesIf_61 : decode cX0_inchesIf 61 = .ok (.iinc 6 1, 3) := by decide +kernel
theorem dX0_inchesIf_64 : decode cX0_inchesIf 64 = .ok (.goto (-28), 3) := by decide +kernel
theorem dX0_inchesIf_67 : decode cX0_inchesIf 67 = .ok (.iload 5, 2) := by decide +kernel
theorem dX0_inchesIf_69 : decode cX0_inchesIf 69 = .ok (.ireturn, 1) := by decide +kernel
theorem dX0_heightAt_0 : decode cX0_heightAt 0 = .ok (.aload_n 0, 1) := by decide +kernel
theorem dX0_heightAt_1 : decode cX0_heightAt 1 = .ok (.getfield 25, 3) := by decide +kernel
theorem dX0_heightAt_4 : decode cX0_heightAt 4 = .ok (.iconst 0, 1) := by decide +kernel
theorem dX0_heightAt_5 : decode cX0_heightAt 5 = .ok (.aaload, 1) := by decide +kernel
theorem dX0_heightAt_6 : decode cX0_heightAt 6 = .ok (.iload_n 1, 1) := by decide +kernel
theorem dX0_heightAt_7 : decode cX0_heightAt 7 = .ok (.iaload, 1) := by decide +kernel
theorem dX0_heightAt_8 : decode cX0_heightAt 8 = .ok (.istore_n 2, 1) := by decide +kernel
theorem dX0_heightAt_9 : decode cX0_heightAt 9 = .ok (.aload_n 0, 1) := by decide +kernel
theorem dX0_heightAt_10 : decode cX0_heightAt 10 = .ok (.getfield 25, 3) := by decide +kernel
theorem dX0_heightAt_13 : decode cX0_heightAt 13 = .ok (.iconst 1, 1) := by decide +kernel
theorem dX0_heightAt_14 : decode cX0_heightAt 14 = .ok (.aaload, 1) := by decide +kernel
theorem dX0_heightAt_15 : decode cX0_heightAt 15 = .ok (.iload_n 1, 1) := by decide +kernel
theorem dX0_heightAt_16 : decode cX0_heightAt 16 = .ok (.iaload, 1) := by decide +kernel
theorem dX0_heightAt_17 : decode cX0_heightAt 17 = .ok (.istore_n 3, 1) := by decide +kernel
theorem dX0_heightAt_18 : decode cX0_heightAt 18 = .ok (.iload_n 2, 1) := by decide +kernel
theorem dX0_heightAt_19 : decode cX0_heightAt 19 = .ok (.iload_n 3, 1) := by decide +kernel
theorem dX0_heightAt_20 : decode cX0_heightAt 20 = .ok (.if_icmp .ge 7, 3) := by decide +kernel
theorem dX0_heightAt_23 : decode cX0_heightAt 23 = .ok (.iload_n 2, 1) := by decide +kernel
theorem dX0_heightAt_24 : decode cX0_heightAt 24 = .ok (.goto 4, 3) := by decide +kernel
theorem dX0_heightAt_27 : decode cX0_heightAt 27 = .ok (.iload_n 3, 1) := by decide +kernel
theorem dX0_heightAt_28 : decode cX0_heightAt 28 = .ok (.ireturn, 1) := by decide +kernel
theorem dX0_heightIf_0 : decode cX0_heightIf 0 = .ok (.aload_n 0, 1) := by decide +kernel
theorem dX0_heightIf_1 : decode cX0_heightIf 1 = .ok (.aload_n 0, 1) := by decide +kernel
theorem dX0_heightIf_2 : decode cX0_heightIf 2 = .ok (.getfield 25, 3) := by decide +kernel
theorem dX0_heightIf_5 : decode cX0_heightIf 5 = .ok (.iload_n 1, 1) := by decide +kernel
theorem dX0_heightIf_6 : decode cX0_heightIf 6 = .ok (.aaload, 1) := by decide +kernel
theorem dX0_heightIf_7 : decode cX0_heightIf 7 = .ok (.iload_n 2, 1) := by decide +kernel
theorem dX0_heightIf_8 : decode cX0_heightIf 8 = .ok (.iaload, 1) := by decide +kernel
theorem dX0_heightIf_9 : decode cX0_heightIf 9 = .ok (.iload_n 2, 1) := by decide +kernel
theorem dX0_heightIf_10 : decode cX0_heightIf 10 = .ok (.iload_n 3, 1) := by decide +kernel
theorem dX0_heightIf_11 : decode cX0_heightIf 11 = .ok (.invokevirtual 45, 3) := by decide +kernel
theorem dX0_heightIf_14 : decode cX0_heightIf 14 = .ok (.aload_n 0, 1) := by decide +kernel
theorem dX0_heightIf_15 : decode cX0_heightIf 15 = .ok (.getfield 25, 3) := by decide +kernel
theorem dX0_heightIf_18 : decode cX0_heightIf 18 = .ok (.iload_n 1, 1) := by decide +kernel
theorem dX0_heightIf_19 : decode cX0_heightIf 19 = .ok (.invokestatic 62, 3) := by decide +kernel
theorem dX0_heightIf_22 : decode cX0_heightIf 22 = .ok (.aaload, 1) := by decide +kernel
theorem dX0_heightIf_23 : decode cX0_heightIf 23 = .ok (.iload_n 2, 1) := by decide +kernel
theorem dX0_heightIf_24 : decode cX0_heightIf 24 = .ok (.iconst 1, 1) := by decide +kernel
theorem dX0_heightIf_25 : decode cX0_heightIf 25 = .ok (.iadd, 1) := by decide +kernel
theorem dX0_heightIf_26 : decode cX0_heightIf 26 = .ok (.iaload, 1) := by decide +kernel
theorem dX0_heightIf_27 : decode cX0_heightIf 27 = .ok (.invokestatic 53, 3) := by decide +kernel
theorem dX0_heightIf_30 : decode cX0_heightIf 30 = .ok (.ireturn, 1) := by decide +kernel
theorem dX0_leanAt_0 : decode cX0_leanAt 0 = .ok (.aload_n 0, 1) := by decide +kernel
theorem dX0_leanAt_1 : decode cX0_leanAt 1 = .ok (.getfield 25, 3) := by decide +kernel
theorem dX0_leanAt_4 : decode cX0_leanAt 4 = .ok (.iconst 0, 1) := by decide +kernel
theorem dX0_leanAt_5 : decode cX0_leanAt 5 = .ok (.aaload, 1) := by decide +kernel
theorem dX0_leanAt_6 : decode cX0_leanAt 6 = .ok (.iload_n 1, 1) := by decide +kernel
theorem dX0_leanAt_7 : decode cX0_leanAt 7 = .ok (.iaload, 1) := by decide +kernel
theorem dX0_leanAt_8 : decode cX0_leanAt 8 = .ok (.aload_n 0, 1) := by decide +kernel
theorem dX0_leanAt_9 : decode cX0_leanAt 9 = .ok (.getfield 25, 3) := by decide +kernel
theorem dX0_leanAt_12 : decode cX0_leanAt 12 = .ok (.iconst 1, 1) := by decide +kernel
theorem dX0_leanAt_13 : decode cX0_leanAt 13 = .ok (.aaload, 1) := by decide +kernel
theorem dX0_leanAt_14 : decode cX0_leanAt 14 = .ok (.iload_n 1, 1) := by decide +kernel
theorem dX0_leanAt_15 : decode cX0_leanAt 15 = .ok (.iaload, 1) := by decide +kernel
theorem dX0_leanAt_16 : decode cX0_leanAt 16 = .ok (.isub, 1) := by decide +kernel
theorem dX0_leanAt_17 : decode cX0_leanAt 17 = .ok (.ireturn, 1) := by decide +kernel
theorem dX0_scoldedWord_0 : decode cX0_scoldedWord 0 = .ok (.aload_n 0, 1) := by decide +kernel
theorem dX0_scoldedWord_1 : decode cX0_scoldedWord 1 = .ok (.getfield 22, 3) := by decide +kernel
theorem dX0_scoldedWord_4 : decode cX0_scoldedWord 4 = .ok (.iload_n 1, 1) := by decide +kernel
theorem dX0_scoldedWord_5 : decode cX0_scoldedWord 5 = .ok (.aaload, 1) := by decide +kernel
theorem dX0_scoldedWord_6 : decode cX0_scoldedWord 6 = .ok (.iload_n 2, 1) := by decide +kernel
theorem dX0_scoldedWord_7 : decode cX0_scoldedWord 7 = .ok (.iaload, 1) := by decide +kernel
theorem dX0_scoldedWord_8 : decode cX0_scoldedWord 8 = .ok (.istore 4, 2) := by decide +kernel
theorem dX0_scoldedWord_10 : decode cX0_scoldedWord 10 = .ok (.iload 4, 2) := by decide +kernel
theorem dX0_scoldedWord_12 : decode cX0_scoldedWord 12 = .ok (.iconst 3, 1) := by decide +kernel
theorem dX0_scoldedWord_13 : decode cX0_scoldedWord 13 = .ok (.if_icmp .gt 29, 3) := by decide +kernel
theorem dX0_scoldedWord_16 : decode cX0_scoldedWord 16 = .ok (.aload_n 0, 1) := by decide +kernel
theorem dX0_scoldedWord_17 : decode cX0_scoldedWord 17 = .ok (.iload_n 1, 1) := by decide +kernel
theorem dX0_scoldedWord_18 : decode cX0_scoldedWord 18 = .ok (.bipush 30, 2) := by decide +kernel
theorem dX0_scoldedWord_20 : decode cX0_scoldedWord 20 = .ok (.iload_n 2, 1) := by decide +kernel
theorem dX0_scoldedWord_21 : decode cX0_scoldedWord 21 = .ok (.iload 4, 2) := by decide +kernel
theorem dX0_scoldedWord_23 : decode cX0_scoldedWord 23 = .ok (.invokevirtual 65, 3) := by decide +kernel
theorem dX0_scoldedWord_26 : decode cX0_scoldedWord 26 = .ok (.bipush 12, 2) := by decide +kernel
theorem dX0_scoldedWord_28 : decode cX0_scoldedWord 28 = .ok (.iload_n 3, 1) := by decide +kernel
theorem dX0_scoldedWord_29 : decode cX0_scoldedWord 29 = .ok (.imul, 1) := by decide +kernel
theorem dX0_scoldedWord_30 : decode cX0_scoldedWord 30 = .ok (.if_icmp .lt 6, 3) := by decide +kernel
theorem dX0_scoldedWord_33 : decode cX0_scoldedWord 33 = .ok (.iload 4, 2) := by decide +kernel
theorem dX0_scoldedWord_35 : decode cX0_scoldedWord 35 = .ok (.ireturn, 1) := by decide +kernel
theorem dX0_scoldedWord_36 : decode cX0_scoldedWord 36 = .ok (.iinc 4 1, 3) := by decide +kernel
theorem dX0_scoldedWord_39 : decode cX0_scoldedWord 39 = .ok (.goto (-29), 3) := by decide +kernel
theorem dX0_scoldedWord_42 : decode cX0_scoldedWord 42 = .ok (.bipush (-9), 2) := by decide +kernel
theorem dX0_scoldedWord_44 : decode cX0_scoldedWord 44 = .ok (.ireturn, 1) := by decide +kernel
theorem dX0_clippingMinutes_0 : decode cX0_clippingMinutes 0 = .ok (.aload_n 0, 1) := by decide +kernel
theorem dX0_clippingMinutes_1 : decode cX0_clippingMinutes 1 = .ok (.iconst 0, 1) := by decide +kernel
theorem dX0_clippingMinutes_2 : decode cX0_clippingMinutes 2 = .ok (.iload_n 1, 1) := by decide +kernel
theorem dX0_clippingMinutes_3 : decode cX0_clippingMinutes 3 = .ok (.iload_n 2, 1) := by decide +kernel
theorem dX0_clippingMinutes_4 : decode cX0_clippingMinutes 4 = .ok (.invokevirtual 69, 3) := by decide +kernel
theorem dX0_clippingMinutes_7 : decode cX0_clippingMinutes 7 = .ok (.aload_n 0, 1) := by decide +kernel
theorem dX0_clippingMinutes_8 : decode cX0_clippingMinutes 8 = .ok (.iconst 1, 1) := by decide +kernel
theorem dX0_clippingMinutes_9 : decode cX0_clippingMinutes 9 = .ok (.iload_n 1, 1) := by decide +kernel
theorem dX0_clippingMinutes_10 : decode cX0_clippingMinutes 10 = .ok (.iload_n 2, 1) := by decide +kernel
theorem dX0_clippingMinutes_11 : decode cX0_clippingMinutes 11 = .ok (.invokevirtual 69, 3) := by decide +kernel
theorem dX0_clippingMinutes_14 : decode cX0_clippingMinutes 14 = .ok (.iadd, 1) := by decide +kernel
theorem dX0_clippingMinutes_15 : decode cX0_clippingMinutes 15 = .ok (.istore_n 3, 1) := by decide +kernel
theorem dX0_clippingMinutes_16 : decode cX0_clippingMinutes 16 = .ok (.iload_n 3, 1) := by decide +kernel
theorem dX0_clippingMinutes_17 : decode cX0_clippingMinutes 17 = .ok (.bipush 12, 2) := by decide +kernel
theorem dX0_clippingMinutes_19 : decode cX0_clippingMinutes 19 = .ok (.iadd, 1) := by decide +kernel
theorem dX0_clippingMinutes_20 : decode cX0_clippingMinutes 20 = .ok (.iconst 1, 1) := by decide +kernel
theorem dX0_clippingMinutes_21 : decode cX0_clippingMinutes 21 = .ok (.isub, 1) := by decide +kernel
theorem dX0_clippingMinutes_22 : decode cX0_clippingMinutes 22 = .ok (.bipush 12, 2) := by decide +kernel
theorem dX0_clippingMinutes_24 : decode cX0_clippingMinutes 24 = .ok (.idiv, 1) := by decide +kernel
theorem dX0_clippingMinutes_25 : decode cX0_clippingMinutes 25 = .ok (.ireturn, 1) := by decide +kernel
theorem dX0_inchesAbove_0 : decode cX0_inchesAbove 0 = .ok (.iconst 0, 1) := by decide +kernel
theorem dX0_inchesAbove_1 : decode cX0_inchesAbove 1 = .ok (.aload_n 0, 1) := by decide +kernel
theorem dX0_inchesAbove_2 : decode cX0_inchesAbove 2 = .ok (.getfield 25, 3) := by decide +kernel
theorem dX0_inchesAbove_5 : decode cX0_inchesAbove 5 = .ok (.iload_n 1, 1) := by decide +kernel
theorem dX0_inchesAbove_6 : decode cX0_inchesAbove 6 = .ok (.aaload, 1) := by decide +kernel
theorem dX0_inchesAbove_7 : decode cX0_inchesAbove 7 = .ok (.iload_n 2, 1) := by decide +kernel
theorem dX0_inchesAbove_8 : decode cX0_inchesAbove 8 = .ok (.iaload, 1) := by decide +kernel
theorem dX0_inchesAbove_9 : decode cX0_inchesAbove 9 = .ok (.bipush 12, 2) := by decide +kernel
theorem dX0_inchesAbove_11 : decode cX0_inchesAbove 11 = .ok (.iload_n 3, 1) := by decide +kernel
theorem dX0_inchesAbove_12 : decode cX0_inchesAbove 12 = .ok (.imul, 1) := by decide +kernel
theorem dX0_inchesAbove_13 : decode cX0_inchesAbove 13 = .ok (.isub, 1) := by decide +kernel
theorem dX0_inchesAbove_14 : decode cX0_inchesAbove 14 = .ok (.invokestatic 59, 3) := by decide +kernel
theorem dX0_inchesAbove_17 : decode cX0_inchesAbove 17 = .ok (.ireturn, 1) := by decide +kernel
theorem dX0_finesBy_0 : decode cX0_finesBy 0 = .ok (.iconst 0, 1) := by decide +kernel
theorem dX0_finesBy_1 : decode cX0_finesBy 1 = .ok (.istore_n 3, 1) := by decide +kernel
theorem dX0_finesBy_2 : decode cX0_finesBy 2 = .ok (.iconst 1, 1) := by decide +kernel
theorem dX0_finesBy_3 : decode cX0_finesBy 3 = .ok (.istore 4, 2) := by decide +kernel
theorem dX0_finesBy_5 : decode cX0_finesBy 5 = .ok (.iload 4, 2) := by decide +kernel
theorem dX0_finesBy_7 : decode cX0_finesBy 7 = .ok (.bipush 30, 2) := by decide +kernel
theorem dX0_finesBy_9 : decode cX0_finesBy 9 = .ok (.if_icmp .gt 60, 3) := by decide +kernel
theorem dX0_finesBy_12 : decode cX0_finesBy 12 = .ok (.aload_n 0, 1) := by decide +kernel
theorem dX0_finesBy_13 : decode cX0_finesBy 13 = .ok (.iload 4, 2) := by decide +kernel
theorem dX0_finesBy_15 : decode cX0_finesBy 15 = .ok (.invokevirtual 72, 3) := by decide +kernel
theorem dX0_finesBy_18 : decode cX0_finesBy 18 = .ok (.istore 5, 2) := by decide +kernel
theorem dX0_finesBy_20 : decode cX0_finesBy 20 = .ok (.iload 5, 2) := by decide +kernel
theorem dX0_finesBy_22 : decode cX0_finesBy 22 = .ok (.bipush 12, 2) := by decide +kernel
theorem dX0_finesBy_24 : decode cX0_finesBy 24 = .ok (.iload_n 2, 1) := by decide +kernel
theorem dX0_finesBy_25 : decode cX0_finesBy 25 = .ok (.imul, 1) := by decide +kernel
theorem dX0_finesBy_26 : decode cX0_finesBy 26 = .ok (.if_icmp .gt 6, 3) := by decide +kernel
theorem dX0_finesBy_29 : decode cX0_finesBy 29 = .ok (.goto 34, 3) := by decide +kernel
theorem dX0_finesBy_32 : decode cX0_finesBy 32 = .ok (.iload 5, 2) := by decide +kernel
theorem dX0_finesBy_34 : decode cX0_finesBy 34 = .ok (.bipush 12, 2) := by decide +kernel
theorem dX0_finesBy_36 : decode cX0_finesBy 36 = .ok (.idiv, 1) := by decide +kernel
theorem dX0_finesBy_37 : decode cX0_finesBy 37 = .ok (.istore 6, 2) := by decide +kernel
theorem dX0_finesBy_39 : decode cX0_finesBy 39 = .ok (.iload_n 3, 1) := by decide +kernel
theorem dX0_finesBy_40 : decode cX0_finesBy 40 = .ok (.iload 6, 2) := by decide +kernel
theorem dX0_finesBy_42 : decode cX0_finesBy 42 = .ok (.iconst 2, 1) := by decide +kernel
theorem dX0_finesBy_43 : decode cX0_finesBy 43 = .ok (.idiv, 1) := by decide +kernel
theorem dX0_finesBy_44 : decode cX0_finesBy 44 = .ok (.iadd, 1) := by decide +kernel
theorem dX0_finesBy_45 : decode cX0_finesBy 45 = .ok (.istore_n 3, 1) := by decide +kernel
theorem dX0_finesBy_46 : decode cX0_finesBy 46 = .ok (.aload_n 0, 1) := by decide +kernel
theorem dX0_finesBy_47 : decode cX0_finesBy 47 = .ok (.iload 4, 2) := by decide +kernel
theorem dX0_finesBy_49 : decode cX0_finesBy 49 = .ok (.invokevirtual 75, 3) := by decide +kernel
theorem dX0_finesBy_52 : decode cX0_finesBy 52 = .ok (.iload_n 1, 1) := by decide +kernel
theorem dX0_finesBy_53 : decode cX0_finesBy 53 = .ok (.if_icmp .ne 10, 3) := by decide +kernel
theorem dX0_finesBy_56 : decode cX0_finesBy 56 = .ok (.iload_n 3, 1) := by decide +kernel
theorem dX0_finesBy_57 : decode cX0_finesBy 57 = .ok (.iload 6, 2) := by decide +kernel
theorem dX0_finesBy_59 : decode cX0_finesBy 59 = .ok (.iconst 2, 1) := by decide +kernel
theorem dX0_finesBy_60 : decode cX0_finesBy 60 = .ok (.irem, 1) := by decide +kernel
theorem dX0_finesBy_61 : decode cX0_finesBy 61 = .ok (.iadd, 1) := by decide +kernel
theorem dX0_finesBy_62 : decode cX0_finesBy 62 = .ok (.istore_n 3, 1) := by decide +kernel
theorem dX0_finesBy_63 : decode cX0_finesBy 63 = .ok (.iinc 4 1, 3) := by decide +kernel
theorem dX0_finesBy_66 : decode cX0_finesBy 66 = .ok (.goto (-61), 3) := by decide +kernel
theorem dX0_finesBy_69 : decode cX0_finesBy 69 = .ok (.iload_n 3, 1) := by decide +kernel
theorem dX0_finesBy_70 : decode cX0_finesBy 70 = .ok (.ireturn, 1) := by decide +kernel
theorem dX0_oddCoinSide_0 : decode cX0_oddCoinSide 0 = .ok (.aload_n 0, 1) := by decide +kernel
theorem dX0_oddCoinSide_1 : decode cX0_oddCoinSide 1 = .ok (.iload_n 1, 1) := by decide +kernel
theorem dX0_oddCoinSide_2 : decode cX0_oddCoinSide 2 = .ok (.invokevirtual 78, 3) := by decide +kernel
theorem dX0_oddCoinSide_5 : decode cX0_oddCoinSide 5 = .ok (.ifCond .lt 7, 3) := by decide +kernel
theorem dX0_oddCoinSide_8 : decode cX0_oddCoinSide 8 = .ok (.iconst 0, 1) := by decide +kernel
theorem dX0_oddCoinSide_9 : decode cX0_oddCoinSide 9 = .ok (.goto 4, 3) := by decide +kernel
theorem dX0_oddCoinSide_12 : decode cX0_oddCoinSide 12 = .ok (.iconst 1, 1) := by decide +kernel
theorem dX0_oddCoinSide_13 : decode cX0_oddCoinSide 13 = .ok (.ireturn, 1) := by decide +kernel
theorem dX1_init_0 : decode cX1_init 0 = .ok (.aload_n 0, 1) := by decide +kernel
theorem dX1_init_1 : decode cX1_init 1 = .ok (.iload_n 1, 1) := by decide +kernel
theorem dX1_init_2 : decode cX1_init 2 = .ok (.iload_n 2, 1) := by decide +kernel
theorem dX1_init_3 : decode cX1_init 3 = .ok (.invokespecial 1, 3) := by decide +kernel
theorem dX1_init_6 : decode cX1_init 6 = .ok (.return_, 1) := by decide +kernel
theorem dX1_kind_0 : decode cX1_kind 0 = .ok (.iconst 2, 1) := by decide +kernel
theorem dX1_kind_1 : decode cX1_kind 1 = .ok (.ireturn, 1) := by decide +kernel
theorem dX1_growth_0 : decode cX1_growth 0 = .ok (.iload_n 1, 1) := by decide +kernel
theorem dX1_growth_1 : decode cX1_growth 1 = .ok (.ifCond .le 9, 3) := by decide +kernel
theorem dX1_growth_4 : decode cX1_growth 4 = .ok (.aload_n 0, 1) := by decide +kernel
theorem dX1_growth_5 : decode cX1_growth 5 = .ok (.iload_n 1, 1) := by decide +kernel
theorem dX1_growth_6 : decode cX1_growth 6 = .ok (.invokespecial 7, 3) := by decide +kernel
theorem dX1_growth_9 : decode cX1_growth 9 = .ok (.ireturn, 1) := by decide +kernel
theorem dX1_growth_10 : decode cX1_growth 10 = .ok (.iload_n 1, 1) := by decide +kernel
theorem dX1_growth_11 : decode cX1_growth 11 = .ok (.ifCond .ne 8, 3) := by decide +kernel
theorem dX1_growth_14 : decode cX1_growth 14 = .ok (.bipush (-6), 2) := by decide +kernel
theorem dX1_growth_16 : decode cX1_growth 16 = .ok (.goto 4, 3) := by decide +kernel
theorem dX1_growth_19 : decode cX1_growth 19 = .ok (.iconst 0, 1) := by decide +kernel
theorem dX1_growth_20 : decode cX1_growth 20 = .ok (.ireturn, 1) := by decide +kernel
theorem dX1_telling_0 : decode cX1_telling 0 = .ok (.aload_n 1, 1) := by decide +kernel
theorem dX1_telling_1 : decode cX1_telling 1 = .ok (.iconst 3, 1) := by decide +kernel
theorem dX1_telling_2 : decode cX1_telling 2 = .ok (.invokevirtual 11, 3) := by decide +kernel
theorem dX1_telling_5 : decode cX1_telling 5 = .ok (.aload_n 0, 1) := by decide +kernel
theorem dX1_telling_6 : decode cX1_telling 6 = .ok (.aload_n 1, 1) := by decide +kernel
theorem dX1_telling_7 : decode cX1_telling 7 = .ok (.invokespecial 17, 3) := by decide +kernel
theorem dX1_telling_10 : decode cX1_telling 10 = .ok (.istore_n 2, 1) := by decide +kernel
theorem dX1_telling_11 : decode cX1_telling 11 = .ok (.iload_n 2, 1) := by decide +kernel
theorem dX1_telling_12 : decode cX1_telling 12 = .ok (.aload_n 0, 1) := by decide +kernel
theorem dX1_telling_13 : decode cX1_telling 13 = .ok (.aload_n 1, 1) := by decide +kernel
theorem dX1_telling_14 : decode cX1_telling 14 = .ok (.invokevirtual 21, 3) := by decide +kernel
theorem dX1_telling_17 : decode cX1_telling 17 = .ok (.iadd, 1) := by decide +kernel
theorem dX1_telling_18 : decode cX1_telling 18 = .ok (.ireturn, 1) := by decide +kernel
theorem dX1_leaning_0 : decode cX1_leaning 0 = .ok (.aload_n 1, 1) := by decide +kernel
theorem dX1_leaning_1 : decode cX1_leaning 1 = .ok (.iconst 5, 1) := by decide +kernel
theorem dX1_leaning_2 : decode cX1_leaning 2 = .ok (.invokevirtual 11, 3) := by decide +kernel
theorem dX1_leaning_5 : decode cX1_leaning 5 = .ok (.bipush 20, 2) := by decide +kernel
theorem dX1_leaning_7 : decode cX1_leaning 7 = .ok (.ireturn, 1) := by decide +kernel
theorem dX2_init_0 : decode cX2_init 0 = .ok (.aload_n 0, 1) := by decide +kernel
theorem dX2_init_1 : decode cX2_init 1 = .ok (.invokespecial 3, 3) := by decide +kernel
theorem dX2_init_4 : decode cX2_init 4 = .ok (.aload_n 0, 1) := by decide +kernel
theorem dX2_init_5 : decode cX2_init 5 = .ok (.iload_n 1, 1) := by decide +kernel
theorem dX2_init_6 : decode cX2_init 6 = .ok (.putfield 9, 3) := by decide +kernel
theorem dX2_init_9 : decode cX2_init 9 = .ok (.aload_n 0, 1) := by decide +kernel
theorem dX2_init_10 : decode cX2_init 10 = .ok (.iload_n 2, 1) := by decide +kernel
theorem dX2_init_11 : decode cX2_init 11 = .ok (.putfield 15, 3) := by decide +kernel
theorem dX2_init_14 : decode cX2_init 14 = .ok (.return_, 1) := by decide +kernel
theorem dX2_kind_0 : decode cX2_kind 0 = .ok (.iconst 0, 1) := by decide +kernel
theorem dX2_kind_1 : decode cX2_kind 1 = .ok (.ireturn, 1) := by decide +kernel
theorem dX2_growth_0 : decode cX2_growth 0 = .ok (.iload_n 1, 1) := by decide +kernel
theorem dX2_growth_1 : decode cX2_growth 1 = .ok (.ifCond .le 10, 3) := by decide +kernel
theorem dX2_growth_4 : decode cX2_growth 4 = .ok (.bipush 12, 2) := by decide +kernel
theorem dX2_growth_6 : decode cX2_growth 6 = .ok (.iload_n 1, 1) := by decide +kernel
theorem dX2_growth_7 : decode cX2_growth 7 = .ok (.imul, 1) := by decide +kernel
theorem dX2_growth_8 : decode cX2_growth 8 = .ok (.goto 6, 3) := by decide +kernel
theorem dX2_growth_11 : decode cX2_growth 11 = .ok (.iconst 3, 1) := by decide +kernel
theorem dX2_growth_12 : decode cX2_growth 12 = .ok (.iload_n 1, 1) := by decide +kernel
theorem dX2_growth_13 : decode cX2_growth 13 = .ok (.imul, 1) := by decide +kernel
theorem dX2_growth_14 : decode cX2_growth 14 = .ok (.ireturn, 1) := by decide +kernel
theorem dX2_telling_0 : decode cX2_telling 0 = .ok (.aload_n 0, 1) := by decide +kernel
theorem dX2_telling_1 : decode cX2_telling 1 = .ok (.aload_n 1, 1) := by decide +kernel
theorem dX2_telling_2 : decode cX2_telling 2 = .ok (.invokevirtual 18, 3) := by decide +kernel
theorem dX2_telling_5 : decode cX2_telling 5 = .ok (.ireturn, 1) := by decide +kernel
theorem dX2_plainTelling_0 : decode cX2_plainTelling 0 = .ok (.aload_n 1, 1) := by decide +kernel
theorem dX2_plainTelling_1 : decode cX2_plainTelling 1 = .ok (.iconst 1, 1) := by decide +kernel
theorem dX2_plainTelling_2 : decode cX2_plainTelling 2 = .ok (.invokevirtual 22, 3) := by decide +kernel
theorem dX2_plainTelling_5 : decode cX2_plainTelling 5 = .ok (.aload_n 0, 1) := by decide +kernel
theorem dX2_plainTelling_6 : decode cX2_plainTelling 6 = .ok (.getfield 15, 3) := by decide +kernel
theorem dX2_plainTelling_9 : decode cX2_plainTelling 9 = .ok (.ireturn, 1) := by decide +kernel
theorem dX2_leaning_0 : decode cX2_leaning 0 = .ok (.aload_n 1, 1) := by decide +kernel
theorem dX2_leaning_1 : decode cX2_leaning 1 = .ok (.iconst 4, 1) := by decide +kernel
theorem dX2_leaning_2 : decode cX2_leaning 2 = .ok (.invokevirtual 22, 3) := by decide +kernel
theorem dX2_leaning_5 : decode cX2_leaning 5 = .ok (.aload_n 0, 1) := by decide +kernel
theorem dX2_leaning_6 : decode cX2_leaning 6 = .ok (.getfield 9, 3) := by decide +kernel
theorem dX2_leaning_9 : decode cX2_leaning 9 = .ok (.ireturn, 1) := by decide +kernel
theorem dX3_init_0 : decode cX3_init 0 = .ok (.aload_n 0, 1) := by decide +kernel
theorem dX3_init_1 : decode cX3_init 1 = .ok (.invokespecial 3, 3) := by decide +kernel
theorem dX3_init_4 : decode cX3_init 4 = .ok (.aload_n 0, 1) := by decide +kernel
theorem dX3_init_5 : decode cX3_init 5 = .ok (.bipush 10, 2) := by decide +kernel
theorem dX3_init_7 : decode cX3_init 7 = .ok (.newarray .int, 2) := by decide +kernel
theorem dX3_init_9 : decode cX3_init 9 = .ok (.putfield 9, 3) := by decide +kernel
theorem dX3_init_12 : decode cX3_init 12 = .ok (.aload_n 0, 1) := by decide +kernel
theorem dX3_init_13 : decode cX3_init 13 = .ok (.bipush 10, 2) := by decide +kernel
theorem dX3_init_15 : decode cX3_init 15 = .ok (.newarray .int, 2) := by decide +kernel
theorem dX3_init_17 : decode cX3_init 17 = .ok (.putfield 15, 3) := by decide +kernel
theorem dX3_init_20 : decode cX3_init 20 = .ok (.aload_n 0, 1) := by decide +kernel
theorem dX3_init_21 : decode cX3_init 21 = .ok (.bipush 10, 2) := by decide +kernel
theorem dX3_init_23 : decode cX3_init 23 = .ok (.newarray .int, 2) := by decide +kernel
theorem dX3_init_25 : decode cX3_init 25 = .ok (.putfield 18, 3) := by decide +kernel
theorem dX3_init_28 : decode cX3_init 28 = .ok (.aload_n 0, 1) := by decide +kernel
theorem dX3_init_29 : decode cX3_init 29 = .ok (.bipush 10, 2) := by decide +kernel
theorem dX3_init_31 : decode cX3_init 31 = .ok (.newarray .int, 2) := by decide +kernel
theorem dX3_init_33 : decode cX3_init 33 = .ok (.putfield 21, 3) := by decide +kernel
theorem dX3_init_36 : decode cX3_init 36 = .ok (.aload_n 0, 1) := by decide +kernel
theorem dX3_init_37 : decode cX3_init 37 = .ok (.iconst 0, 1) := by decide +kernel
theorem dX3_init_38 : decode cX3_init 38 = .ok (.putfield 24, 3) := by decide +kernel
theorem dX3_init_41 : decode cX3_init 41 = .ok (.return_, 1) := by decide +kernel
theorem dX3_clear_0 : decode cX3_clear 0 = .ok (.aload_n 0, 1) := by decide +kernel
theorem dX3_clear_1 : decode cX3_clear 1 = .ok (.iconst 0, 1) := by decide +kernel
theorem dX3_clear_2 : decode cX3_clear 2 = .ok (.putfield 24, 3) := by decide +kernel
theorem dX3_clear_5 : decode cX3_clear 5 = .ok (.return_, 1) := by decide +kernel
theorem dX3_keep_0 : decode cX3_keep 0 = .ok (.aload_n 0, 1) := by decide +kernel
theorem dX3_keep_1 : decode cX3_keep 1 = .ok (.getfield 9, 3) := by decide +kernel
theorem dX3_keep_4 : decode cX3_keep 4 = .ok (.aload_n 0, 1) := by decide +kernel
theorem dX3_keep_5 : decode cX3_keep 5 = .ok (.getfield 24, 3) := by decide +kernel
theorem dX3_keep_8 : decode cX3_keep 8 = .ok (.iload_n 1, 1) := by decide +kernel
theorem dX3_keep_9 : decode cX3_keep 9 = .ok (.iastore, 1) := by decide +kernel
theorem dX3_keep_10 : decode cX3_keep 10 = .ok (.aload_n 0, 1) := by decide +kernel
theorem dX3_keep_11 : decode cX3_keep 11 = .ok (.getfield 15, 3) := by decide +kernel
theorem dX3_keep_14 : decode cX3_keep 14 = .ok (.aload_n 0, 1) := by decide +kernel
theorem dX3_keep_15 : decode cX3_keep 15 = .ok (.getfield 24, 3) := by decide +kernel
theorem dX3_keep_18 : decode cX3_keep 18 = .ok (.iload_n 2, 1) := by decide +kernel
theorem dX3_keep_19 : decode cX3_keep 19 = .ok (.iastore, 1) := by decide +kernel
theorem dX3_keep_20 : decode cX3_keep 20 = .ok (.aload_n 0, 1) := by decide +kernel
theorem dX3_keep_21 : decode cX3_keep 21 = .ok (.getfield 18, 3) := by decide +kernel
theorem dX3_keep_24 : decode cX3_keep 24 = .ok (.aload_n 0, 1) := by decide +kernel
theorem dX3_keep_25 : decode cX3_keep 25 = .ok (.getfield 24, 3) := by decide +kernel
theorem dX3_keep_28 : decode cX3_keep 28 = .ok (.iload_n 3, 1) := by decide +kernel
theorem dX3_keep_29 : decode cX3_keep 29 = .ok (.iastore, 1) := by decide +kernel
theorem dX3_keep_30 : decode cX3_keep 30 = .ok (.aload_n 0, 1) := by decide +kernel
theorem dX3_keep_31 : decode cX3_keep 31 = .ok (.getfield 21, 3) := by decide +kernel
theorem dX3_keep_34 : decode cX3_keep 34 = .ok (.aload_n 0, 1) := by decide +kernel
theorem dX3_keep_35 : decode cX3_keep 35 = .ok (.getfield 24, 3) := by decide +kernel
theorem dX3_keep_38 : decode cX3_keep 38 = .ok (.iload 4, 2) := by decide +kernel
theorem dX3_keep_40 : decode cX3_keep 40 = .ok (.iastore, 1) := by decide +kernel
theorem dX3_keep_41 : decode cX3_keep 41 = .ok (.aload_n 0, 1) := by decide +kernel
theorem dX3_keep_42 : decode cX3_keep 42 = .ok (.dup, 1) := by decide +kernel
theorem dX3_keep_43 : decode cX3_keep 43 = .ok (.getfield 24, 3) := by decide +kernel
theorem dX3_keep_46 : decode cX3_keep 46 = .ok (.iconst 1, 1) := by decide +kernel
theorem dX3_keep_47 : decode cX3_keep 47 = .ok (.iadd, 1) := by decide +kernel
theorem dX3_keep_48 : decode cX3_keep 48 = .ok (.putfield 24, 3) := by decide +kernel
theorem dX3_keep_51 : decode cX3_keep 51 = .ok (.aload_n 0, 1) := by decide +kernel
theorem dX3_keep_52 : decode cX3_keep 52 = .ok (.getfield 24, 3) := by decide +kernel
theorem dX3_keep_55 : decode cX3_keep 55 = .ok (.iconst 1, 1) := by decide +kernel
theorem dX3_keep_56 : decode cX3_keep 56 = .ok (.isub, 1) := by decide +kernel
theorem dX3_keep_57 : decode cX3_keep 57 = .ok (.ireturn, 1) := by decide +kernel
theorem dX3_allSoIf_0 : decode cX3_allSoIf 0 = .ok (.iconst 0, 1) := by decide +kernel
theorem dX3_allSoIf_1 : decode cX3_allSoIf 1 = .ok (.istore 6, 2) := by decide +kernel
theorem dX3_allSoIf_3 : decode cX3_allSoIf 3 = .ok (.iload 6, 2) := by decide +kernel
theorem dX3_allSoIf_5 : decode cX3_allSoIf 5 = .ok (.aload_n 0, 1) := by decide +kernel
theorem dX3_allSoIf_6 : decode cX3_allSoIf 6 = .ok (.getfield 24, 3) := by decide +kernel
theorem dX3_allSoIf_9 : decode cX3_allSoIf 9 = .ok (.if_icmp .ge 114, 3) := by decide +kernel
theorem dX3_allSoIf_12 : decode cX3_allSoIf 12 = .ok (.aload_n 1, 1) := by decide +kernel
theorem dX3_allSoIf_13 : decode cX3_allSoIf 13 = .ok (.getfield 28, 3) := by decide +kernel
theorem dX3_allSoIf_16 : decode cX3_allSoIf 16 = .ok (.aload_n 0, 1) := by decide +kernel
theorem dX3_allSoIf_17 : decode cX3_allSoIf 17 = .ok (.getfield 9, 3) := by decide +kernel
theorem dX3_allSoIf_20 : decode cX3_allSoIf 20 = .ok (.iload 6, 2) := by decide +kernel
theorem dX3_allSoIf_22 : decode cX3_allSoIf 22 = .ok (.iaload, 1) := by decide +kernel
theorem dX3_allSoIf_23 : decode cX3_allSoIf 23 = .ok (.aaload, 1) := by decide +kernel
theorem dX3_allSoIf_24 : decode cX3_allSoIf 24 = .ok (.astore 7, 2) := by decide +kernel
theorem dX3_allSoIf_26 : decode cX3_allSoIf 26 = .ok (.aload_n 0, 1) := by decide +kernel
theorem dX3_allSoIf_27 : decode cX3_allSoIf 27 = .ok (.getfield 9, 3) := by decide +kernel
theorem dX3_allSoIf_30 : decode cX3_allSoIf 30 = .ok (.iload 6, 2) := by decide +kernel
theorem dX3_allSoIf_32 : decode cX3_allSoIf 32 = .ok (.iaload, 1) := by decide +kernel
theorem dX3_allSoIf_33 : decode cX3_allSoIf 33 = .ok (.iload_n 2, 1) := by decide +kernel
theorem dX3_allSoIf_34 : decode cX3_allSoIf 34 = .ok (.if_icmp .ne 18, 3) := by decide +kernel
theorem dX3_allSoIf_37 : decode cX3_allSoIf 37 = .ok (.aload_n 0, 1) := by decide +kernel
theorem dX3_allSoIf_38 : decode cX3_allSoIf 38 = .ok (.getfield 15, 3) := by decide +kernel
theorem dX3_allSoIf_41 : decode cX3_allSoIf 41 = .ok (.iload 6, 2) := by decide +kernel
theorem dX3_allSoIf_43 : decode cX3_allSoIf 43 = .ok (.iaload, 1) := by decide +kernel
theorem dX3_allSoIf_44 : decode cX3_allSoIf 44 = .ok (.iload_n 3, 1) := by decide +kernel
theorem dX3_allSoIf_45 : decode cX3_allSoIf 45 = .ok (.if_icmp .ne 7, 3) := by decide +kernel
theorem dX3_allSoIf_48 : decode cX3_allSoIf 48 = .ok (.iconst 1, 1) := by decide +kernel
theorem dX3_allSoIf_49 : decode cX3_allSoIf 49 = .ok (.goto 4, 3) := by decide +kernel
theorem dX3_allSoIf_52 : decode cX3_allSoIf 52 = .ok (.iconst 0, 1) := by decide +kernel
theorem dX3_allSoIf_53 : decode cX3_allSoIf 53 = .ok (.istore 8, 2) := by decide +kernel
theorem dX3_allSoIf_55 : decode cX3_allSoIf 55 = .ok (.iload 8, 2) := by decide +kernel
theorem dX3_allSoIf_57 : decode cX3_allSoIf 57 = .ok (.ifCond .eq 23, 3) := by decide +kernel
theorem dX3_allSoIf_60 : decode cX3_allSoIf 60 = .ok (.aload 7, 2) := by decide +kernel
theorem dX3_allSoIf_62 : decode cX3_allSoIf 62 = .ok (.iload_n 3, 1) := by decide +kernel
theorem dX3_allSoIf_63 : decode cX3_allSoIf 63 = .ok (.aload_n 0, 1) := by decide +kernel
theorem dX3_allSoIf_64 : decode cX3_allSoIf 64 = .ok (.getfield 18, 3) := by decide +kernel
theorem dX3_allSoIf_67 : decode cX3_allSoIf 67 = .ok (.iload 6, 2) := by decide +kernel
theorem dX3_allSoIf_69 : decode cX3_allSoIf 69 = .ok (.iaload, 1) := by decide +kernel
theorem dX3_allSoIf_70 : decode cX3_allSoIf 70 = .ok (.iload 4, 2) := by decide +kernel
theorem dX3_allSoIf_72 : decode cX3_allSoIf 72 = .ok (.iload 5, 2) := by decide +kernel
theorem dX3_allSoIf_74 : decode cX3_allSoIf 74 = .ok (.invokevirtual 34, 3) := by decide +kernel
theorem dX3_allSoIf_77 : decode cX3_allSoIf 77 = .ok (.goto 24, 3) := by decide +kernel
theorem dX3_allSoIf_80 : decode cX3_allSoIf 80 = .ok (.aload 7, 2) := by decide +kernel
theorem dX3_allSoIf_82 : decode cX3_allSoIf 82 = .ok (.getfield 40, 3) := by decide +kernel
theorem dX3_allSoIf_85 : decode cX3_allSoIf 85 = .ok (.aload_n 0, 1) := by decide +kernel
theorem dX3_allSoIf_86 : decode cX3_allSoIf 86 = .ok (.getfield 15, 3) := by decide +kernel
theorem dX3_allSoIf_89 : decode cX3_allSoIf 89 = .ok (.iload 6, 2) := by decide +kernel
theorem dX3_allSoIf_91 : decode cX3_allSoIf 91 = .ok (.iaload, 1) := by decide +kernel
theorem dX3_allSoIf_92 : decode cX3_allSoIf 92 = .ok (.aaload, 1) := by decide +kernel
theorem dX3_allSoIf_93 : decode cX3_allSoIf 93 = .ok (.aload_n 0, 1) := by decide +kernel
theorem dX3_allSoIf_94 : decode cX3_allSoIf 94 = .ok (.getfield 18, 3) := by decide +kernel
theorem dX3_allSoIf_97 : decode cX3_allSoIf 97 = .ok (.iload 6, 2) := by decide +kernel
theorem dX3_allSoIf_99 : decode cX3_allSoIf 99 = .ok (.iaload, 1) := by decide +kernel
theorem dX3_allSoIf_100 : decode cX3_allSoIf 100 = .ok (.iaload, 1) := by decide +kernel
theorem dX3_allSoIf_101 : decode cX3_allSoIf 101 = .ok (.istore 9, 2) := by decide +kernel
theorem dX3_allSoIf_103 : decode cX3_allSoIf 103 = .ok (.iload 9, 2) := by decide +kernel
theorem dX3_allSoIf_105 : decode cX3_allSoIf 105 = .ok (.aload_n 0, 1) := by decide +kernel
theorem dX3_allSoIf_106 : decode cX3_allSoIf 106 = .ok (.getfield 21, 3) := by decide +kernel
theorem dX3_allSoIf_109 : decode cX3_allSoIf 109 = .ok (.iload 6, 2) := by decide +kernel
theorem dX3_allSoIf_111 : decode cX3_allSoIf 111 = .ok (.iaload, 1) := by decide +kernel
theorem dX3_allSoIf_112 : decode cX3_allSoIf 112 = .ok (.if_icmp .eq 5, 3) := by decide +kernel
theorem dX3_allSoIf_115 : decode cX3_allSoIf 115 = .ok (.iconst 0, 1) := by decide +kernel
theorem dX3_allSoIf_116 : decode cX3_allSoIf 116 = .ok (.ireturn, 1) := by decide +kernel
theorem dX3_allSoIf_117 : decode cX3_allSoIf 117 = .ok (.iinc 6 1, 3) := by decide +kernel
theorem dX3_allSoIf_120 : decode cX3_allSoIf 120 = .ok (.goto (-117), 3) := by decide +kernel
theorem dX3_allSoIf_123 : decode cX3_allSoIf 123 = .ok (.iconst 1, 1) := by decide +kernel
theorem dX3_allSoIf_124 : decode cX3_allSoIf 124 = .ok (.ireturn, 1) := by decide +kernel
theorem dX4_init_0 : decode cX4_init 0 = .ok (.aload_n 0, 1) := by decide +kernel
theorem dX4_init_1 : decode cX4_init 1 = .ok (.invokespecial 3, 3) := by decide +kernel
theorem dX4_init_4 : decode cX4_init 4 = .ok (.aload_n 0, 1) := by decide +kernel
theorem dX4_init_5 : decode cX4_init 5 = .ok (.bipush 7, 2) := by decide +kernel
theorem dX4_init_7 : decode cX4_init 7 = .ok (.newarray .int, 2) := by decide +kernel
theorem dX4_init_9 : decode cX4_init 9 = .ok (.putfield 9, 3) := by decide +kernel
theorem dX4_init_12 : decode cX4_init 12 = .ok (.aload_n 0, 1) := by decide +kernel
theorem dX4_init_13 : decode cX4_init 13 = .ok (.bipush 6, 2) := by decide +kernel
theorem dX4_init_15 : decode cX4_init 15 = .ok (.anewarray 15, 3) := by decide +kernel
theorem dX4_init_18 : decode cX4_init 18 = .ok (.putfield 17, 3) := by decide +kernel
theorem dX4_init_21 : decode cX4_init 21 = .ok (.aload_n 0, 1) := by decide +kernel
theorem dX4_init_22 : decode cX4_init 22 = .ok (.iconst 0, 1) := by decide +kernel
theorem dX4_init_23 : decode cX4_init 23 = .ok (.putfield 21, 3) := by decide +kernel
theorem dX4_init_26 : decode cX4_init 26 = .ok (.iconst 0, 1) := by decide +kernel
theorem dX4_init_27 : decode cX4_init 27 = .ok (.istore_n 1, 1) := by decide +kernel
theorem dX4_init_28 : decode cX4_init 28 = .ok (.iload_n 1, 1) := by decide +kernel
theorem dX4_init_29 : decode cX4_init 29 = .ok (.bipush 6, 2) := by decide +kernel
theorem dX4_init_31 : decode cX4_init 31 = .ok (.if_icmp .ge 22, 3) := by decide +kernel
theorem dX4_init_34 : decode cX4_init 34 = .ok (.aload_n 0, 1) := by decide +kernel
theorem dX4_init_35 : decode cX4_init 35 = .ok (.getfield 17, 3) := by decide +kernel
theorem dX4_init_38 : decode cX4_init 38 = .ok (.iload_n 1, 1) := by decide +kernel
theorem dX4_init_39 : decode cX4_init 39 = .ok (.new 15, 3) := by decide +kernel
theorem dX4_init_42 : decode cX4_init 42 = .ok (.dup, 1) := by decide +kernel
theorem dX4_init_43 : decode cX4_init 43 = .ok (.invokespecial 25, 3) := by decide +kernel
theorem dX4_init_46 : decode cX4_init 46 = .ok (.aastore, 1) := by decide +kernel
theorem dX4_init_47 : decode cX4_init 47 = .ok (.iinc 1 1, 3) := by decide +kernel
theorem dX4_init_50 : decode cX4_init 50 = .ok (.goto (-22), 3) := by decide +kernel
theorem dX4_init_53 : decode cX4_init 53 = .ok (.return_, 1) := by decide +kernel
theorem dX4_isGarden_0 : decode cX4_isGarden 0 = .ok (.iload_n 1, 1) := by decide +kernel
theorem dX4_isGarden_1 : decode cX4_isGarden 1 = .ok (.ifCond .lt 15, 3) := by decide +kernel
theorem dX4_isGarden_4 : decode cX4_isGarden 4 = .ok (.iload_n 1, 1) := by decide +kernel
theorem dX4_isGarden_5 : decode cX4_isGarden 5 = .ok (.aload_n 0, 1) := by decide +kernel
theorem dX4_isGarden_6 : decode cX4_isGarden 6 = .ok (.getfield 21, 3) := by decide +kernel
theorem dX4_isGarden_9 : decode cX4_isGarden 9 = .ok (.if_icmp .ge 7, 3) := by decide +kernel
theorem dX4_isGarden_12 : decode cX4_isGarden 12 = .ok (.iconst 1, 1) := by decide +kernel
theorem dX4_isGarden_13 : decode cX4_isGarden 13 = .ok (.goto 4, 3) := by decide +kernel
theorem dX4_isGarden_16 : decode cX4_isGarden 16 = .ok (.iconst 0, 1) := by decide +kernel
theorem dX4_isGarden_17 : decode cX4_isGarden 17 = .ok (.ireturn, 1) := by decide +kernel
theorem dX4_isHedge_0 : decode cX4_isHedge 0 = .ok (.iload_n 1, 1) := by decide +kernel
theorem dX4_isHedge_1 : decode cX4_isHedge 1 = .ok (.ifCond .lt 17, 3) := by decide +kernel
theorem dX4_isHedge_4 : decode cX4_isHedge 4 = .ok (.iload_n 1, 1) := by decide +kernel
theorem dX4_isHedge_5 : decode cX4_isHedge 5 = .ok (.aload_n 0, 1) := by decide +kernel
theorem dX4_isHedge_6 : decode cX4_isHedge 6 = .ok (.getfield 21, 3) := by decide +kernel
theorem dX4_isHedge_9 : decode cX4_isHedge 9 = .ok (.iconst 1, 1) := by decide +kernel
theorem dX4_isHedge_10 : decode cX4_isHedge 10 = .ok (.isub, 1) := by decide +kernel
theorem dX4_isHedge_11 : decode cX4_isHedge 11 = .ok (.if_icmp .ge 7, 3) := by decide +kernel
theorem dX4_isHedge_14 : decode cX4_isHedge 14 = .ok (.iconst 1, 1) := by decide +kernel
theorem dX4_isHedge_15 : decode cX4_isHedge 15 = .ok (.goto 4, 3) := by decide +kernel
theorem dX4_isHedge_18 : decode cX4_isHedge 18 = .ok (.iconst 0, 1) := by decide +kernel
theorem dX4_isHedge_19 : decode cX4_isHedge 19 = .ok (.ireturn, 1) := by decide +kernel
theorem dX4_plant_0 : decode cX4_plant 0 = .ok (.aload_n 0, 1) := by decide +kernel
theorem dX4_plant_1 : decode cX4_plant 1 = .ok (.iload_n 3, 1) := by decide +kernel
theorem dX4_plant_2 : decode cX4_plant 2 = .ok (.invokestatic 26, 3) := by decide +kernel
theorem dX4_plant_5 : decode cX4_plant 5 = .ok (.putfield 21, 3) := by decide +kernel
theorem dX4_plant_8 : decode cX4_plant 8 = .ok (.iconst 0, 1) := by decide +kernel
theorem dX4_plant_9 : decode cX4_plant 9 = .ok (.istore 4, 2) := by decide +kernel
theorem dX4_plant_11 : decode cX4_plant 11 = .ok (.iload 4, 2) := by decide +kernel
theorem dX4_plant_13 : decode cX4_plant 13 = .ok (.aload_n 0, 1) := by decide +kernel
theorem dX4_plant_14 : decode cX4_plant 14 = .ok (.getfield 21, 3) := by decide +kernel
theorem dX4_plant_17 : decode cX4_plant 17 = .ok (.if_icmp .ge 81, 3) := by decide +kernel
theorem dX4_plant_20 : decode cX4_plant 20 = .ok (.iload_n 2, 1) := by decide +kernel
theorem dX4_plant_21 : decode cX4_plant 21 = .ok (.iconst 1, 1) := by decide +kernel
theorem dX4_plant_22 : decode cX4_plant 22 = .ok (.iadd, 1) := by decide +kernel
theorem dX4_plant_23 : decode cX4_plant 23 = .ok (.iconst 3, 1) := by decide +kernel
theorem dX4_plant_24 : decode cX4_plant 24 = .ok (.iload 4, 2) := by decide +kernel
theorem dX4_plant_26 : decode cX4_plant 26 = .ok (.imul, 1) := by decide +kernel
theorem dX4_plant_27 : decode cX4_plant 27 = .ok (.iadd, 1) := by decide +kernel
theorem dX4_plant_28 : decode cX4_plant 28 = .ok (.istore 5, 2) := by decide +kernel
theorem dX4_plant_30 : decode cX4_plant 30 = .ok (.aload_n 0, 1) := by decide +kernel
theorem dX4_plant_31 : decode cX4_plant 31 = .ok (.getfield 9, 3) := by decide +kernel
theorem dX4_plant_34 : decode cX4_plant 34 = .ok (.iload 4, 2) := by decide +kernel
theorem dX4_plant_36 : decode cX4_plant 36 = .ok (.aload_n 1, 1) := by decide +kernel
theorem dX4_plant_37 : decode cX4_plant 37 = .ok (.getfield 32, 3) := by decide +kernel
theorem dX4_plant_40 : decode cX4_plant 40 = .ok (.iload 5, 2) := by decide +kernel
theorem dX4_plant_42 : decode cX4_plant 42 = .ok (.iaload, 1) := by decide +kernel
theorem dX4_plant_43 : decode cX4_plant 43 = .ok (.bipush 48, 2) := by decide +kernel
theorem dX4_plant_45 : decode cX4_plant 45 = .ok (.isub, 1) := by decide +kernel
theorem dX4_plant_46 : decode cX4_plant 46 = .ok (.iastore, 1) := by decide +kernel
theorem dX4_plant_47 : decode cX4_plant 47 = .ok (.aload_n 0, 1) := by decide +kernel
theorem dX4_plant_48 : decode cX4_plant 48 = .ok (.iload 4, 2) := by decide +kernel
theorem dX4_plant_50 : decode cX4_plant 50 = .ok (.invokevirtual 37, 3) := by decide +kernel
theorem dX4_plant_53 : decode cX4_plant 53 = .ok (.ifCond .eq 39, 3) := by decide +kernel
theorem dX4_plant_56 : decode cX4_plant 56 = .ok (.aload_n 0, 1) := by decide +kernel
theorem dX4_plant_57 : decode cX4_plant 57 = .ok (.getfield 17, 3) := by decide +kernel
theorem dX4_plant_60 : decode cX4_plant 60 = .ok (.iload 4, 2) := by decide +kernel
theorem dX4_plant_62 : decode cX4_plant 62 = .ok (.aaload, 1) := by decide +kernel
theorem dX4_plant_63 : decode cX4_plant 63 = .ok (.iload 4, 2) := by decide +kernel
theorem dX4_plant_65 : decode cX4_plant 65 = .ok (.aload_n 1, 1) := by decide +kernel
theorem dX4_plant_66 : decode cX4_plant 66 = .ok (.getfield 32, 3) := by decide +kernel
theorem dX4_plant_69 : decode cX4_plant 69 = .ok (.iload 5, 2) := by decide +kernel
theorem dX4_plant_71 : decode cX4_plant 71 = .ok (.iconst 1, 1) := by decide +kernel
theorem dX4_plant_72 : decode cX4_plant 72 = .ok (.iadd, 1) := by decide +kernel
theorem dX4_plant_73 : decode cX4_plant 73 = .ok (.iaload, 1) := by decide +kernel
theorem dX4_plant_74 : decode cX4_plant 74 = .ok (.aload_n 1, 1) := by decide +kernel
theorem dX4_plant_75 : decode cX4_plant 75 = .ok (.getfield 32, 3) := by decide +kernel
theorem dX4_plant_78 : decode cX4_plant 78 = .ok (.iload 5, 2) := by decide +kernel
theorem dX4_plant_80 : decode cX4_plant 80 = .ok (.iconst 2, 1) := by decide +kernel
theorem dX4_plant_81 : decode cX4_plant 81 = .ok (.iadd, 1) := by decide +kernel
theorem dX4_plant_82 : decode cX4_plant 82 = .ok (.iaload, 1) := by decide +kernel
theorem dX4_plant_83 : decode cX4_plant 83 = .ok (.bipush 48, 2) := by decide +kernel
theorem dX4_plant_85 : decode cX4_plant 85 = .ok (.isub, 1) := by decide +kernel
theorem dX4_plant_86 : decode cX4_plant 86 = .ok (.invokestatic 41, 3) := by decide +kernel
theorem dX4_plant_89 : decode cX4_plant 89 = .ok (.invokevirtual 45, 3) := by decide +kernel
theorem dX4_plant_92 : decode cX4_plant 92 = .ok (.iinc 4 1, 3) := by decide +kernel
theorem dX4_plant_95 : decode cX4_plant 95 = .ok (.goto (-84), 3) := by decide +kernel
theorem dX4_plant_98 : decode cX4_plant 98 = .ok (.return_, 1) := by decide +kernel
theorem dX4_seedling_0 : decode cX4_seedling 0 = .ok (.iload_n 1, 1) := by decide +kernel
theorem dX4_seedling_1 : decode cX4_seedling 1 = .ok (.invokestatic 49, 3) := by decide +kernel
theorem dX4_seedling_4 : decode cX4_seedling 4 = .ok (.lookupswitch 48 #[(1, 28), (2, 38)], 28) := by decide +kernel
theorem dX4_seedling_32 : decode cX4_seedling 32 = .ok (.new 52, 3) := by decide +kernel
theorem dX4_seedling_35 : decode cX4_seedling 35 = .ok (.dup, 1) := by decide +kernel
theorem dX4_seedling_36 : decode cX4_seedling 36 = .ok (.iload_n 0, 1) := by decide +kernel
theorem dX4_seedling_37 : decode cX4_seedling 37 = .ok (.iload_n 2, 1) := by decide +kernel
theorem dX4_seedling_38 : decode cX4_seedling 38 = .ok (.invokespecial 54, 3) := by decide +kernel
theorem dX4_seedling_41 : decode cX4_seedling 41 = .ok (.areturn, 1) := by decide +kernel
theorem dX4_seedling_42 : decode cX4_seedling 42 = .ok (.new 57, 3) := by decide +kernel
theorem dX4_seedling_45 : decode cX4_seedling 45 = .ok (.dup, 1) := by decide +kernel
theorem dX4_seedling_46 : decode cX4_seedling 46 = .ok (.iload_n 0, 1) := by decide +kernel
theorem dX4_seedling_47 : decode cX4_seedling 47 = .ok (.iload_n 2, 1) := by decide +kernel
theorem dX4_seedling_48 : decode cX4_seedling 48 = .ok (.invokespecial 59, 3) := by decide +kernel
theorem dX4_seedling_51 : decode cX4_seedling 51 = .ok (.areturn, 1) := by decide +kernel
theorem dX4_seedling_52 : decode cX4_seedling 52 = .ok (.new 60, 3) := by decide +kernel
theorem dX4_seedling_55 : decode cX4_seedling 55 = .ok (.dup, 1) := by decide +kernel
theorem dX4_seedling_56 : decode cX4_seedling 56 = .ok (.iload_n 0, 1) := by decide +kernel
theorem dX4_seedling_57 : decode cX4_seedling 57 = .ok (.iload_n 2, 1) := by decide +kernel
theorem dX4_seedling_58 : decode cX4_seedling 58 = .ok (.invokespecial 62, 3) := by decide +kernel
theorem dX4_seedling_61 : decode cX4_seedling 61 = .ok (.areturn, 1) := by decide +kernel
theorem dX4_heightOrIf_0 : decode cX4_heightOrIf 0 = .ok (.iload_n 1, 1) := by decide +kernel
theorem dX4_heightOrIf_1 : decode cX4_heightOrIf 1 = .ok (.iload_n 3, 1) := by decide +kernel
theorem dX4_heightOrIf_2 : decode cX4_heightOrIf 2 = .ok (.if_icmp .ne 8, 3) := by decide +kernel
theorem dX4_heightOrIf_5 : decode cX4_heightOrIf 5 = .ok (.iload 4, 2) := by decide +kernel
theorem dX4_heightOrIf_7 : decode cX4_heightOrIf 7 = .ok (.goto 13, 3) := by decide +kernel
theorem dX4_heightOrIf_10 : decode cX4_heightOrIf 10 = .ok (.aload_n 0, 1) := by decide +kernel
theorem dX4_heightOrIf_11 : decode cX4_heightOrIf 11 = .ok (.getfield 17, 3) := by decide +kernel
theorem dX4_heightOrIf_14 : decode cX4_heightOrIf 14 = .ok (.iload_n 1, 1) := by decide +kernel
theorem dX4_heightOrIf_15 : decode cX4_heightOrIf 15 = .ok (.aaload, 1) := by decide +kernel
theorem dX4_heightOrIf_16 : decode cX4_heightOrIf 16 = .ok (.iload_n 2, 1) := by decide +kernel
theorem dX4_heightOrIf_17 : decode cX4_heightOrIf 17 = .ok (.invokevirtual 63, 3) := by decide +kernel
theorem dX4_heightOrIf_20 : decode cX4_heightOrIf 20 = .ok (.ireturn, 1) := by decide +kernel
theorem dX4_lightIf_0 : decode cX4_lightIf 0 = .ok (.bipush 20, 2) := by decide +kernel
theorem dX4_lightIf_2 : decode cX4_lightIf 2 = .ok (.istore 5, 2) := by decide +kernel
theorem dX4_lightIf_4 : decode cX4_lightIf 4 = .ok (.aload_n 0, 1) := by decide +kernel
theorem dX4_lightIf_5 : decode cX4_lightIf 5 = .ok (.iload_n 1, 1) := by decide +kernel
theorem dX4_lightIf_6 : decode cX4_lightIf 6 = .ok (.iconst 1, 1) := by decide +kernel
theorem dX4_lightIf_7 : decode cX4_lightIf 7 = .ok (.isub, 1) := by decide +kernel
theorem dX4_lightIf_8 : decode cX4_lightIf 8 = .ok (.invokevirtual 37, 3) := by decide +kernel
theorem dX4_lightIf_11 : decode cX4_lightIf 11 = .ok (.ifCond .eq 22, 3) := by decide +kernel
theorem dX4_lightIf_14 : decode cX4_lightIf 14 = .ok (.iload 5, 2) := by decide +kernel
theorem dX4_lightIf_16 : decode cX4_lightIf 16 = .ok (.aload_n 0, 1) := by decide +kernel
theorem dX4_lightIf_17 : decode cX4_lightIf 17 = .ok (.iload_n 1, 1) := by decide +kernel
theorem dX4_lightIf_18 : decode cX4_lightIf 18 = .ok (.iconst 1, 1) := by decide +kernel
theorem dX4_lightIf_19 : decode cX4_lightIf 19 = .ok (.isub, 1) := by decide +kernel
theorem dX4_lightIf_20 : decode cX4_lightIf 20 = .ok (.iload_n 2, 1) := by decide +kernel
theorem dX4_lightIf_21 : decode cX4_lightIf 21 = .ok (.iload_n 3, 1) := by decide +kernel
theorem dX4_lightIf_22 : decode cX4_lightIf 22 = .ok (.iload 4, 2) := by decide +kernel
theorem dX4_lightIf_24 : decode cX4_lightIf 24 = .ok (.invokevirtual 66, 3) := by decide +kernel
theorem dX4_lightIf_27 : decode cX4_lightIf 27 = .ok (.bipush 12, 2) := by decide +kernel
theorem dX4_lightIf_29 : decode cX4_lightIf 29 = .ok (.idiv, 1) := by decide +kernel
theorem dX4_lightIf_30 : decode cX4_lightIf 30 = .ok (.isub, 1) := by decide +kernel
theorem dX4_lightIf_31 : decode cX4_lightIf 31 = .ok (.istore 5, 2) := by decide +kernel
theorem dX4_lightIf_33 : decode cX4_lightIf 33 = .ok (.aload_n 0, 1) := by decide +kernel
theorem dX4_lightIf_34 : decode cX4_lightIf 34 = .ok (.iload_n 1, 1) := by decide +kernel
theorem dX4_lightIf_35 : decode cX4_lightIf 35 = .ok (.invokevirtual 37, 3) := by decide +kernel
theorem dX4_lightIf_38 : decode cX4_lightIf 38 = .ok (.ifCond .eq 20, 3) := by decide +kernel
theorem dX4_lightIf_41 : decode cX4_lightIf 41 = .ok (.iload 5, 2) := by decide +kernel
theorem dX4_lightIf_43 : decode cX4_lightIf 43 = .ok (.aload_n 0, 1) := by decide +kernel
theorem dX4_lightIf_44 : decode cX4_lightIf 44 = .ok (.iload_n 1, 1) := by decide +kernel
theorem dX4_lightIf_45 : decode cX4_lightIf 45 = .ok (.iload_n 2, 1) := by decide +kernel
theorem dX4_lightIf_46 : decode cX4_lightIf 46 = .ok (.iload_n 3, 1) := by decide +kernel
theorem dX4_lightIf_47 : decode cX4_lightIf 47 = .ok (.iload 4, 2) := by decide +kernel
theorem dX4_lightIf_49 : decode cX4_lightIf 49 = .ok (.invokevirtual 66, 3) := by decide +kernel
theorem dX4_lightIf_52 : decode cX4_lightIf 52 = .ok (.bipush 12, 2) := by decide +kernel
theorem dX4_lightIf_54 : decode cX4_lightIf 54 = .ok (.idiv, 1) := by decide +kernel
theorem dX4_lightIf_55 : decode cX4_lightIf 55 = .ok (.isub, 1) := by decide +kernel
theorem dX4_lightIf_56 : decode cX4_lightIf 56 = .ok (.istore 5, 2) := by decide +kernel
theorem dX4_lightIf_58 : decode cX4_lightIf 58 = .ok (.iconst 0, 1) := by decide +kernel
theorem dX4_lightIf_59 : decode cX4_lightIf 59 = .ok (.iload 5, 2) := by decide +kernel
theorem dX4_lightIf_61 : decode cX4_lightIf 61 = .ok (.invokestatic 70, 3) := by decide +kernel
theorem dX4_lightIf_64 : decode cX4_lightIf 64 = .ok (.ireturn, 1) := by decide +kernel
theorem dX4_goatsReachIf_0 : decode cX4_goatsReachIf 0 = .ok (.iconst 0, 1) := by decide +kernel
theorem dX4_goatsReachIf_1 : decode cX4_goatsReachIf 1 = .ok (.istore 4, 2) := by decide +kernel
theorem dX4_goatsReachIf_3 : decode cX4_goatsReachIf 3 = .ok (.iload 4, 2) := by decide +kernel
theorem dX4_goatsReachIf_5 : decode cX4_goatsReachIf 5 = .ok (.aload_n 0, 1) := by decide +kernel
theorem dX4_goatsReachIf_6 : decode cX4_goatsReachIf 6 = .ok (.getfield 21, 3) := by decide +kernel
theorem dX4_goatsReachIf_9 : decode cX4_goatsReachIf 9 = .ok (.iconst 1, 1) := by decide +kernel
theorem dX4_goatsReachIf_10 : decode cX4_goatsReachIf 10 = .ok (.isub, 1) := by decide +kernel
theorem dX4_goatsReachIf_11 : decode cX4_goatsReachIf 11 = .ok (.if_icmp .ge 26, 3) := by decide +kernel
theorem dX4_goatsReachIf_14 : decode cX4_goatsReachIf 14 = .ok (.aload_n 0, 1) := by decide +kernel
theorem dX4_goatsReachIf_15 : decode cX4_goatsReachIf 15 = .ok (.iload 4, 2) := by decide +kernel
theorem dX4_goatsReachIf_17 : decode cX4_goatsReachIf 17 = .ok (.iload_n 1, 1) := by decide +kernel
theorem dX4_goatsReachIf_18 : decode cX4_goatsReachIf 18 = .ok (.iload_n 2, 1) := by decide +kernel
theorem dX4_goatsReachIf_19 : decode cX4_goatsReachIf 19 = .ok (.iload_n 3, 1) := by decide +kernel
theorem dX4_goatsReachIf_20 : decode cX4_goatsReachIf 20 = .ok (.invokevirtual 66, 3) := by decide +kernel
theorem dX4_goatsReachIf_23 : decode cX4_goatsReachIf 23 = .ok (.bipush 36, 2) := by decide +kernel
theorem dX4_goatsReachIf_25 : decode cX4_goatsReachIf 25 = .ok (.if_icmp .lt 6, 3) := by decide +kernel
theorem dX4_goatsReachIf_28 : decode cX4_goatsReachIf 28 = .ok (.iload 4, 2) := by decide +kernel
theorem dX4_goatsReachIf_30 : decode cX4_goatsReachIf 30 = .ok (.ireturn, 1) := by decide +kernel
theorem dX4_goatsReachIf_31 : decode cX4_goatsReachIf 31 = .ok (.iinc 4 1, 3) := by decide +kernel
theorem dX4_goatsReachIf_34 : decode cX4_goatsReachIf 34 = .ok (.goto (-31), 3) := by decide +kernel
theorem dX4_goatsReachIf_37 : decode cX4_goatsReachIf 37 = .ok (.aload_n 0, 1) := by decide +kernel
theorem dX4_goatsReachIf_38 : decode cX4_goatsReachIf 38 = .ok (.getfield 21, 3) := by decide +kernel
theorem dX4_goatsReachIf_41 : decode cX4_goatsReachIf 41 = .ok (.iconst 1, 1) := by decide +kernel
theorem dX4_goatsReachIf_42 : decode cX4_goatsReachIf 42 = .ok (.isub, 1) := by decide +kernel
theorem dX4_goatsReachIf_43 : decode cX4_goatsReachIf 43 = .ok (.ireturn, 1) := by decide +kernel
theorem dX4_betterOffIf_0 : decode cX4_betterOffIf 0 = .ok (.iconst 0, 1) := by decide +kernel
theorem dX4_betterOffIf_1 : decode cX4_betterOffIf 1 = .ok (.istore 5, 2) := by decide +kernel
theorem dX4_betterOffIf_3 : decode cX4_betterOffIf 3 = .ok (.aload_n 0, 1) := by decide +kernel
theorem dX4_betterOffIf_4 : decode cX4_betterOffIf 4 = .ok (.iload_n 1, 1) := by decide +kernel
theorem dX4_betterOffIf_5 : decode cX4_betterOffIf 5 = .ok (.iload_n 2, 1) := by decide +kernel
theorem dX4_betterOffIf_6 : decode cX4_betterOffIf 6 = .ok (.iload_n 3, 1) := by decide +kernel
theorem dX4_betterOffIf_7 : decode cX4_betterOffIf 7 = .ok (.iload 4, 2) := by decide +kernel
theorem dX4_betterOffIf_9 : decode cX4_betterOffIf 9 = .ok (.invokevirtual 76, 3) := by decide +kernel
theorem dX4_betterOffIf_12 : decode cX4_betterOffIf 12 = .ok (.aload_n 0, 1) := by decide +kernel
theorem dX4_betterOffIf_13 : decode cX4_betterOffIf 13 = .ok (.getfield 9, 3) := by decide +kernel
theorem dX4_betterOffIf_16 : decode cX4_betterOffIf 16 = .ok (.iload_n 1, 1) := by decide +kernel
theorem dX4_betterOffIf_17 : decode cX4_betterOffIf 17 = .ok (.iaload, 1) := by decide +kernel
theorem dX4_betterOffIf_18 : decode cX4_betterOffIf 18 = .ok (.if_icmp .lt 6, 3) := by decide +kernel
theorem dX4_betterOffIf_21 : decode cX4_betterOffIf 21 = .ok (.iinc 5 1, 3) := by decide +kernel
theorem dX4_betterOffIf_24 : decode cX4_betterOffIf 24 = .ok (.iload_n 1, 1) := by decide +kernel
theorem dX4_betterOffIf_25 : decode cX4_betterOffIf 25 = .ok (.aload_n 0, 1) := by decide +kernel
theorem dX4_betterOffIf_26 : decode cX4_betterOffIf 26 = .ok (.iload_n 2, 1) := by decide +kernel
theorem dX4_betterOffIf_27 : decode cX4_betterOffIf 27 = .ok (.iload_n 3, 1) := by decide +kernel
theorem dX4_betterOffIf_28 : decode cX4_betterOffIf 28 = .ok (.iload 4, 2) := by decide +kernel
theorem dX4_betterOffIf_30 : decode cX4_betterOffIf 30 = .ok (.invokevirtual 79, 3) := by decide +kernel
theorem dX4_betterOffIf_33 : decode cX4_betterOffIf 33 = .ok (.if_icmp .le 6, 3) := by decide +kernel
theorem dX4_betterOffIf_36 : decode cX4_betterOffIf 36 = .ok (.iinc 5 1, 3) := by decide +kernel
theorem dX4_betterOffIf_39 : decode cX4_betterOffIf 39 = .ok (.iload 5, 2) := by decide +kernel
theorem dX4_betterOffIf_41 : decode cX4_betterOffIf 41 = .ok (.ireturn, 1) := by decide +kernel
theorem dX4_scoldedMore_0 : decode cX4_scoldedMore 0 = .ok (.iconst 0, 1) := by decide +kernel
theorem dX4_scoldedMore_1 : decode cX4_scoldedMore 1 = .ok (.istore_n 3, 1) := by decide +kernel
theorem dX4_scoldedMore_2 : decode cX4_scoldedMore 2 = .ok (.iconst 0, 1) := by decide +kernel
theorem dX4_scoldedMore_3 : decode cX4_scoldedMore 3 = .ok (.istore 4, 2) := by decide +kernel
theorem dX4_scoldedMore_5 : decode cX4_scoldedMore 5 = .ok (.iload 4, 2) := by decide +kernel
theorem dX4_scoldedMore_7 : decode cX4_scoldedMore 7 = .ok (.aload_n 0, 1) := by decide +kernel
theorem dX4_scoldedMore_8 : decode cX4_scoldedMore 8 = .ok (.getfield 21, 3) := by decide +kernel
theorem dX4_scoldedMore_11 : decode cX4_scoldedMore 11 = .ok (.iconst 1, 1) := by decide +kernel
theorem dX4_scoldedMore_12 : decode cX4_scoldedMore 12 = .ok (.isub, 1) := by decide +kernel
theorem dX4_scoldedMore_13 : decode cX4_scoldedMore 13 = .ok (.if_icmp .ge 71, 3) := by decide +kernel
theorem dX4_scoldedMore_16 : decode cX4_scoldedMore 16 = .ok (.iconst 0, 1) := by decide +kernel
theorem dX4_scoldedMore_17 : decode cX4_scoldedMore 17 = .ok (.istore 5, 2) := by decide +kernel
theorem dX4_scoldedMore_19 : decode cX4_scoldedMore 19 = .ok (.iload 5, 2) := by decide +kernel
theorem dX4_scoldedMore_21 : decode cX4_scoldedMore 21 = .ok (.iconst 1, 1) := by decide +kernel
theorem dX4_scoldedMore_22 : decode cX4_scoldedMore 22 = .ok (.if_icmp .gt 56, 3) := by decide +kernel
theorem dX4_scoldedMore_25 : decode cX4_scoldedMore 25 = .ok (.aload_n 0, 1) := by decide +kernel
theorem dX4_scoldedMore_26 : decode cX4_scoldedMore 26 = .ok (.getfield 17, 3) := by decide +kernel
theorem dX4_scoldedMore_29 : decode cX4_scoldedMore 29 = .ok (.iload 4, 2) := by decide +kernel
theorem dX4_scoldedMore_31 : decode cX4_scoldedMore 31 = .ok (.aaload, 1) := by decide +kernel
theorem dX4_scoldedMore_32 : decode cX4_scoldedMore 32 = .ok (.iload 5, 2) := by decide +kernel
theorem dX4_scoldedMore_34 : decode cX4_scoldedMore 34 = .ok (.iload_n 1, 1) := by decide +kernel
theorem dX4_scoldedMore_35 : decode cX4_scoldedMore 35 = .ok (.iload_n 2, 1) := by decide +kernel
theorem dX4_scoldedMore_36 : decode cX4_scoldedMore 36 = .ok (.invokevirtual 83, 3) := by decide +kernel
theorem dX4_scoldedMore_39 : decode cX4_scoldedMore 39 = .ok (.istore 6, 2) := by decide +kernel
theorem dX4_scoldedMore_41 : decode cX4_scoldedMore 41 = .ok (.iload 6, 2) := by decide +kernel
theorem dX4_scoldedMore_43 : decode cX4_scoldedMore 43 = .ok (.bipush (-9), 2) := by decide +kernel
theorem dX4_scoldedMore_45 : decode cX4_scoldedMore 45 = .ok (.if_icmp .ne 6, 3) := by decide +kernel
theorem dX4_scoldedMore_48 : decode cX4_scoldedMore 48 = .ok (.bipush (-9), 2) := by decide +kernel
theorem dX4_scoldedMore_50 : decode cX4_scoldedMore 50 = .ok (.ireturn, 1) := by decide +kernel
theorem dX4_scoldedMore_51 : decode cX4_scoldedMore 51 = .ok (.iload_n 3, 1) := by decide +kernel
theorem dX4_scoldedMore_52 : decode cX4_scoldedMore 52 = .ok (.iload 6, 2) := by decide +kernel
theorem dX4_scoldedMore_54 : decode cX4_scoldedMore 54 = .ok (.aload_n 0, 1) := by decide +kernel
theorem dX4_scoldedMore_55 : decode cX4_scoldedMore 55 = .ok (.getfield 17, 3) := by decide +kernel
theorem dX4_scoldedMore_58 : decode cX4_scoldedMore 58 = .ok (.iload 4, 2) := by decide +kernel
theorem dX4_scoldedMore_60 : decode cX4_scoldedMore 60 = .ok (.aaload, 1) := by decide +kernel
theorem dX4_scoldedMore_61 : decode cX4_scoldedMore 61 = .ok (.getfield 86, 3) := by decide +kernel
theorem dX4_scoldedMore_64 : decode cX4_scoldedMore 64 = .ok (.iload 5, 2) := by decide +kernel
theorem dX4_scoldedMore_66 : decode cX4_scoldedMore 66 = .ok (.aaload, 1) := by decide +kernel
theorem dX4_scoldedMore_67 : decode cX4_scoldedMore 67 = .ok (.iload_n 1, 1) := by decide +kernel
theorem dX4_scoldedMore_68 : decode cX4_scoldedMore 68 = .ok (.iaload, 1) := by decide +kernel
theorem dX4_scoldedMore_69 : decode cX4_scoldedMore 69 = .ok (.isub, 1) := by decide +kernel
theorem dX4_scoldedMore_70 : decode cX4_scoldedMore 70 = .ok (.iadd, 1) := by decide +kernel
theorem dX4_scoldedMore_71 : decode cX4_scoldedMore 71 = .ok (.istore_n 3, 1) := by decide +kernel
theorem dX4_scoldedMore_72 : decode cX4_scoldedMore 72 = .ok (.iinc 5 1, 3) := by decide +kernel
theorem dX4_scoldedMore_75 : decode cX4_scoldedMore 75 = .ok (.goto (-56), 3) := by decide +kernel
theorem dX4_scoldedMore_78 : decode cX4_scoldedMore 78 = .ok (.iinc 4 1, 3) := by decide +kernel
theorem dX4_scoldedMore_81 : decode cX4_scoldedMore 81 = .ok (.goto (-76), 3) := by decide +kernel
theorem dX4_scoldedMore_84 : decode cX4_scoldedMore 84 = .ok (.iload_n 3, 1) := by decide +kernel
theorem dX4_scoldedMore_85 : decode cX4_scoldedMore 85 = .ok (.ireturn, 1) := by decide +kernel
theorem dX4_lastWordOfQuarrel_0 : decode cX4_lastWordOfQuarrel 0 = .ok (.aload_n 0, 1) := by decide +kernel
theorem dX4_lastWordOfQuarrel_1 : decode cX4_lastWordOfQuarrel 1 = .ok (.getfield 17, 3) := by decide +kernel
theorem dX4_lastWordOfQuarrel_4 : decode cX4_lastWordOfQuarrel 4 = .ok (.iload_n 1, 1) := by decide +kernel
theorem dX4_lastWordOfQuarrel_5 : decode cX4_lastWordOfQuarrel 5 = .ok (.aaload, 1) := by decide +kernel
theorem dX4_lastWordOfQuarrel_6 : decode cX4_lastWordOfQuarrel 6 = .ok (.astore 5, 2) := by decide +kernel
theorem dX4_lastWordOfQuarrel_8 : decode cX4_lastWordOfQuarrel 8 = .ok (.aload 5, 2) := by decide +kernel
theorem dX4_lastWordOfQuarrel_10 : decode cX4_lastWordOfQuarrel 10 = .ok (.getfield 90, 3) := by decide +kernel
theorem dX4_lastWordOfQuarrel_13 : decode cX4_lastWordOfQuarrel 13 = .ok (.iconst 0, 1) := by decide +kernel
theorem dX4_lastWordOfQuarrel_14 : decode cX4_lastWordOfQuarrel 14 = .ok (.aaload, 1) := by decide +kernel
theorem dX4_lastWordOfQuarrel_15 : decode cX4_lastWordOfQuarrel 15 = .ok (.iload_n 2, 1) := by decide +kernel
theorem dX4_lastWordOfQuarrel_16 : decode cX4_lastWordOfQuarrel 16 = .ok (.iaload, 1) := by decide +kernel
theorem dX4_lastWordOfQuarrel_17 : decode cX4_lastWordOfQuarrel 17 = .ok (.istore 6, 2) := by decide +kernel
theorem dX4_lastWordOfQuarrel_19 : decode cX4_lastWordOfQuarrel 19 = .ok (.aload 5, 2) := by decide +kernel
theorem dX4_lastWordOfQuarrel_21 : decode cX4_lastWordOfQuarrel 21 = .ok (.getfield 90, 3) := by decide +kernel
theorem dX4_lastWordOfQuarrel_24 : decode cX4_lastWordOfQuarrel 24 = .ok (.iconst 1, 1) := by decide +kernel
theorem dX4_lastWordOfQuarrel_25 : decode cX4_lastWordOfQuarrel 25 = .ok (.aaload, 1) := by decide +kernel
theorem dX4_lastWordOfQuarrel_26 : decode cX4_lastWordOfQuarrel 26 = .ok (.iload_n 2, 1) := by decide +kernel
theorem dX4_lastWordOfQuarrel_27 : decode cX4_lastWordOfQuarrel 27 = .ok (.iaload, 1) := by decide +kernel
theorem dX4_lastWordOfQuarrel_28 : decode cX4_lastWordOfQuarrel 28 = .ok (.istore 7, 2) := by decide +kernel
theorem dX4_lastWordOfQuarrel_30 : decode cX4_lastWordOfQuarrel 30 = .ok (.iconst 0, 1) := by decide +kernel
theorem dX4_lastWordOfQuarrel_31 : decode cX4_lastWordOfQuarrel 31 = .ok (.istore 8, 2) := by decide +kernel
theorem dX4_lastWordOfQuarrel_33 : decode cX4_lastWordOfQuarrel 33 = .ok (.iconst 0, 1) := by decide +kernel
theorem dX4_lastWordOfQuarrel_34 : decode cX4_lastWordOfQuarrel 34 = .ok (.istore 9, 2) := by decide +kernel
theorem dX4_lastWordOfQuarrel_36 : decode cX4_lastWordOfQuarrel 36 = .ok (.iload_n 2, 1) := by decide +kernel
theorem dX4_lastWordOfQuarrel_37 : decode cX4_lastWordOfQuarrel 37 = .ok (.istore 10, 2) := by decide +kernel
theorem dX4_lastWordOfQuarrel_39 : decode cX4_lastWordOfQuarrel 39 = .ok (.iload 10, 2) := by decide +kernel
theorem dX4_lastWordOfQuarrel_41 : decode cX4_lastWordOfQuarrel 41 = .ok (.iload_n 3, 1) := by decide +kernel
theorem dX4_lastWordOfQuarrel_42 : decode cX4_lastWordOfQuarrel 42 = .ok (.if_icmp .gt 81, 3) := by decide +kernel
theorem dX4_lastWordOfQuarrel_45 : decode cX4_lastWordOfQuarrel 45 = .ok (.aload_n 0, 1) := by decide +kernel
theorem dX4_lastWordOfQuarrel_46 : decode cX4_lastWordOfQuarrel 46 = .ok (.iload_n 1, 1) := by decide +kernel
theorem dX4_lastWordOfQuarrel_47 : decode cX4_lastWordOfQuarrel 47 = .ok (.iload_n 1, 1) := by decide +kernel
theorem dX4_lastWordOfQuarrel_48 : decode cX4_lastWordOfQuarrel 48 = .ok (.iload 10, 2) := by decide +kernel
theorem dX4_lastWordOfQuarrel_50 : decode cX4_lastWordOfQuarrel 50 = .ok (.iload 6, 2) := by decide +kernel
theorem dX4_lastWordOfQuarrel_52 : decode cX4_lastWordOfQuarrel 52 = .ok (.aload 5, 2) := by decide +kernel
theorem dX4_lastWordOfQuarrel_54 : decode cX4_lastWordOfQuarrel 54 = .ok (.iload 7, 2) := by decide +kernel
theorem dX4_lastWordOfQuarrel_56 : decode cX4_lastWordOfQuarrel 56 = .ok (.iload 10, 2) := by decide +kernel
theorem dX4_lastWordOfQuarrel_58 : decode cX4_lastWordOfQuarrel 58 = .ok (.iconst 0, 1) := by decide +kernel
theorem dX4_lastWordOfQuarrel_59 : decode cX4_lastWordOfQuarrel 59 = .ok (.invokevirtual 93, 3) := by decide +kernel
theorem dX4_lastWordOfQuarrel_62 : decode cX4_lastWordOfQuarrel 62 = .ok (.invokevirtual 96, 3) := by decide +kernel
theorem dX4_lastWordOfQuarrel_65 : decode cX4_lastWordOfQuarrel 65 = .ok (.istore 8, 2) := by decide +kernel
theorem dX4_lastWordOfQuarrel_67 : decode cX4_lastWordOfQuarrel 67 = .ok (.aload_n 0, 1) := by decide +kernel
theorem dX4_lastWordOfQuarrel_68 : decode cX4_lastWordOfQuarrel 68 = .ok (.iload_n 1, 1) := by decide +kernel
theorem dX4_lastWordOfQuarrel_69 : decode cX4_lastWordOfQuarrel 69 = .ok (.iconst 1, 1) := by decide +kernel
theorem dX4_lastWordOfQuarrel_70 : decode cX4_lastWordOfQuarrel 70 = .ok (.iadd, 1) := by decide +kernel
theorem dX4_lastWordOfQuarrel_71 : decode cX4_lastWordOfQuarrel 71 = .ok (.iload_n 1, 1) := by decide +kernel
theorem dX4_lastWordOfQuarrel_72 : decode cX4_lastWordOfQuarrel 72 = .ok (.iload 10, 2) := by decide +kernel
theorem dX4_lastWordOfQuarrel_74 : decode cX4_lastWordOfQuarrel 74 = .ok (.iload 7, 2) := by decide +kernel
theorem dX4_lastWordOfQuarrel_76 : decode cX4_lastWordOfQuarrel 76 = .ok (.aload 5, 2) := by decide +kernel
theorem dX4_lastWordOfQuarrel_78 : decode cX4_lastWordOfQuarrel 78 = .ok (.iload 6, 2) := by decide +kernel
theorem dX4_lastWordOfQuarrel_80 : decode cX4_lastWordOfQuarrel 80 = .ok (.iload 10, 2) := by decide +kernel
theorem dX4_lastWordOfQuarrel_82 : decode cX4_lastWordOfQuarrel 82 = .ok (.iconst 0, 1) := by decide +kernel
theorem dX4_lastWordOfQuarrel_83 : decode cX4_lastWordOfQuarrel 83 = .ok (.invokevirtual 93, 3) := by decide +kernel
theorem dX4_lastWordOfQuarrel_86 : decode cX4_lastWordOfQuarrel 86 = .ok (.invokevirtual 96, 3) := by decide +kernel
theorem dX4_lastWordOfQuarrel_89 : decode cX4_lastWordOfQuarrel 89 = .ok (.istore 9, 2) := by decide +kernel
theorem dX4_lastWordOfQuarrel_91 : decode cX4_lastWordOfQuarrel 91 = .ok (.aload 5, 2) := by decide +kernel
theorem dX4_lastWordOfQuarrel_93 : decode cX4_lastWordOfQuarrel 93 = .ok (.iload 6, 2) := by decide +kernel
theorem dX4_lastWordOfQuarrel_95 : decode cX4_lastWordOfQuarrel 95 = .ok (.iload 10, 2) := by decide +kernel
theorem dX4_lastWordOfQuarrel_97 : decode cX4_lastWordOfQuarrel 97 = .ok (.iload 8, 2) := by decide +kernel
theorem dX4_lastWordOfQuarrel_99 : decode cX4_lastWordOfQuarrel 99 = .ok (.invokevirtual 93, 3) := by decide +kernel
theorem dX4_lastWordOfQuarrel_102 : decode cX4_lastWordOfQuarrel 102 = .ok (.istore 6, 2) := by decide +kernel
theorem dX4_lastWordOfQuarrel_104 : decode cX4_lastWordOfQuarrel 104 = .ok (.aload 5, 2) := by decide +kernel
theorem dX4_lastWordOfQuarrel_106 : decode cX4_lastWordOfQuarrel 106 = .ok (.iload 7, 2) := by decide +kernel
theorem dX4_lastWordOfQuarrel_108 : decode cX4_lastWordOfQuarrel 108 = .ok (.iload 10, 2) := by decide +kernel
theorem dX4_lastWordOfQuarrel_110 : decode cX4_lastWordOfQuarrel 110 = .ok (.iload 9, 2) := by decide +kernel
theorem dX4_lastWordOfQuarrel_112 : decode cX4_lastWordOfQuarrel 112 = .ok (.invokevirtual 93, 3) := by decide +kernel
theorem dX4_lastWordOfQuarrel_115 : decode cX4_lastWordOfQuarrel 115 = .ok (.istore 7, 2) := by decide +kernel
theorem dX4_lastWordOfQuarrel_117 : decode cX4_lastWordOfQuarrel 117 = .ok (.iinc 10 1, 3) := by decide +kernel
theorem dX4_lastWordOfQuarrel_120 : decode cX4_lastWordOfQuarrel 120 = .ok (.goto (-81), 3) := by decide +kernel
theorem dX4_lastWordOfQuarrel_123 : decode cX4_lastWordOfQuarrel 123 = .ok (.iload 4, 2) := by decide +kernel
theorem dX4_lastWordOfQuarrel_125 : decode cX4_lastWordOfQuarrel 125 = .ok (.ifCond .ne 8, 3) := by decide +kernel
theorem dX4_lastWordOfQuarrel_128 : decode cX4_lastWordOfQuarrel 128 = .ok (.iload 8, 2) := by decide +kernel
theorem dX4_lastWordOfQuarrel_130 : decode cX4_lastWordOfQuarrel 130 = .ok (.goto 5, 3) := by decide +kernel
theorem dX4_lastWordOfQuarrel_133 : decode cX4_lastWordOfQuarrel 133 = .ok (.iload 9, 2) := by decide +kernel
theorem dX4_lastWordOfQuarrel_135 : decode cX4_lastWordOfQuarrel 135 = .ok (.ireturn, 1) := by decide +kernel
theorem dX4_eveningChoice_0 : decode cX4_eveningChoice 0 = .ok (.iconst 0, 1) := by decide +kernel
theorem dX4_eveningChoice_1 : decode cX4_eveningChoice 1 = .ok (.istore 6, 2) := by decide +kernel
theorem dX4_eveningChoice_3 : decode cX4_eveningChoice 3 = .ok (.iconst (-1), 1) := by decide +kernel
theorem dX4_eveningChoice_4 : decode cX4_eveningChoice 4 = .ok (.istore 7, 2) := by decide +kernel
theorem dX4_eveningChoice_6 : decode cX4_eveningChoice 6 = .ok (.getstatic 100, 3) := by decide +kernel
theorem dX4_eveningChoice_9 : decode cX4_eveningChoice 9 = .ok (.astore 8, 2) := by decide +kernel
theorem dX4_eveningChoice_11 : decode cX4_eveningChoice 11 = .ok (.aload 8, 2) := by decide +kernel
theorem dX4_eveningChoice_13 : decode cX4_eveningChoice 13 = .ok (.arraylength, 1) := by decide +kernel
theorem dX4_eveningChoice_14 : decode cX4_eveningChoice 14 = .ok (.istore 9, 2) := by decide +kernel
theorem dX4_eveningChoice_16 : decode cX4_eveningChoice 16 = .ok (.iconst 0, 1) := by decide +kernel
theorem dX4_eveningChoice_17 : decode cX4_eveningChoice 17 = .ok (.istore 10, 2) := by decide +kernel
theorem dX4_eveningChoice_19 : decode cX4_eveningChoice 19 = .ok (.iload 10, 2) := by decide +kernel
theorem dX4_eveningChoice_21 : decode cX4_eveningChoice 21 = .ok (.iload 9, 2) := by decide +kernel
theorem dX4_eveningChoice_23 : decode cX4_eveningChoice 23 = .ok (.if_icmp .ge 65, 3) := by decide +kernel
theorem dX4_eveningChoice_26 : decode cX4_eveningChoice 26 = .ok (.aload 8, 2) := by decide +kernel
theorem dX4_eveningChoice_28 : decode cX4_eveningChoice 28 = .ok (.iload 10, 2) := by decide +kernel
theorem dX4_eveningChoice_30 : decode cX4_eveningChoice 30 = .ok (.iaload, 1) := by decide +kernel
theorem dX4_eveningChoice_31 : decode cX4_eveningChoice 31 = .ok (.istore 11, 2) := by decide +kernel
theorem dX4_eveningChoice_33 : decode cX4_eveningChoice 33 = .ok (.aload_n 0, 1) := by decide +kernel
theorem dX4_eveningChoice_34 : decode cX4_eveningChoice 34 = .ok (.getfield 17, 3) := by decide +kernel
theorem dX4_eveningChoice_37 : decode cX4_eveningChoice 37 = .ok (.iload_n 2, 1) := by decide +kernel
theorem dX4_eveningChoice_38 : decode cX4_eveningChoice 38 = .ok (.aaload, 1) := by decide +kernel
theorem dX4_eveningChoice_39 : decode cX4_eveningChoice 39 = .ok (.iload 4, 2) := by decide +kernel
theorem dX4_eveningChoice_41 : decode cX4_eveningChoice 41 = .ok (.iload_n 3, 1) := by decide +kernel
theorem dX4_eveningChoice_42 : decode cX4_eveningChoice 42 = .ok (.iload 11, 2) := by decide +kernel
theorem dX4_eveningChoice_44 : decode cX4_eveningChoice 44 = .ok (.invokevirtual 93, 3) := by decide +kernel
theorem dX4_eveningChoice_47 : decode cX4_eveningChoice 47 = .ok (.iload 5, 2) := by decide +kernel
theorem dX4_eveningChoice_49 : decode cX4_eveningChoice 49 = .ok (.invokestatic 103, 3) := by decide +kernel
theorem dX4_eveningChoice_52 : decode cX4_eveningChoice 52 = .ok (.istore 12, 2) := by decide +kernel
theorem dX4_eveningChoice_54 : decode cX4_eveningChoice 54 = .ok (.aload_n 0, 1) := by decide +kernel
theorem dX4_eveningChoice_55 : decode cX4_eveningChoice 55 = .ok (.iload_n 1, 1) := by decide +kernel
theorem dX4_eveningChoice_56 : decode cX4_eveningChoice 56 = .ok (.iload_n 3, 1) := by decide +kernel
theorem dX4_eveningChoice_57 : decode cX4_eveningChoice 57 = .ok (.iconst 1, 1) := by decide +kernel
theorem dX4_eveningChoice_58 : decode cX4_eveningChoice 58 = .ok (.iadd, 1) := by decide +kernel
theorem dX4_eveningChoice_59 : decode cX4_eveningChoice 59 = .ok (.iload_n 2, 1) := by decide +kernel
theorem dX4_eveningChoice_60 : decode cX4_eveningChoice 60 = .ok (.iload 12, 2) := by decide +kernel
theorem dX4_eveningChoice_62 : decode cX4_eveningChoice 62 = .ok (.invokevirtual 106, 3) := by decide +kernel
theorem dX4_eveningChoice_65 : decode cX4_eveningChoice 65 = .ok (.istore 13, 2) := by decide +kernel
theorem dX4_eveningChoice_67 : decode cX4_eveningChoice 67 = .ok (.iload 13, 2) := by decide +kernel
theorem dX4_eveningChoice_69 : decode cX4_eveningChoice 69 = .ok (.iload 7, 2) := by decide +kernel
theorem dX4_eveningChoice_71 : decode cX4_eveningChoice 71 = .ok (.if_icmp .le 11, 3) := by decide +kernel
theorem dX4_eveningChoice_74 : decode cX4_eveningChoice 74 = .ok (.iload 13, 2) := by decide +kernel
theorem dX4_eveningChoice_76 : decode cX4_eveningChoice 76 = .ok (.istore 7, 2) := by decide +kernel
theorem dX4_eveningChoice_78 : decode cX4_eveningChoice 78 = .ok (.iload 11, 2) := by decide +kernel
theorem dX4_eveningChoice_80 : decode cX4_eveningChoice 80 = .ok (.istore 6, 2) := by decide +kernel
theorem dX4_eveningChoice_82 : decode cX4_eveningChoice 82 = .ok (.iinc 10 1, 3) := by decide +kernel
theorem dX4_eveningChoice_85 : decode cX4_eveningChoice 85 = .ok (.goto (-66), 3) := by decide +kernel
theorem dX4_eveningChoice_88 : decode cX4_eveningChoice 88 = .ok (.iload 6, 2) := by decide +kernel
theorem dX4_eveningChoice_90 : decode cX4_eveningChoice 90 = .ok (.ireturn, 1) := by decide +kernel
theorem dX4_wouldGain_0 : decode cX4_wouldGain 0 = .ok (.iload_n 1, 1) := by decide +kernel
theorem dX4_wouldGain_1 : decode cX4_wouldGain 1 = .ok (.iload_n 2, 1) := by decide +kernel
theorem dX4_wouldGain_2 : decode cX4_wouldGain 2 = .ok (.invokestatic 109, 3) := by decide +kernel
theorem dX4_wouldGain_5 : decode cX4_wouldGain 5 = .ok (.istore 4, 2) := by decide +kernel
theorem dX4_wouldGain_7 : decode cX4_wouldGain 7 = .ok (.aload_n 0, 1) := by decide +kernel
theorem dX4_wouldGain_8 : decode cX4_wouldGain 8 = .ok (.iload 4, 2) := by decide +kernel
theorem dX4_wouldGain_10 : decode cX4_wouldGain 10 = .ok (.invokevirtual 37, 3) := by decide +kernel
theorem dX4_wouldGain_13 : decode cX4_wouldGain 13 = .ok (.ifCond .ne 5, 3) := by decide +kernel
theorem dX4_wouldGain_16 : decode cX4_wouldGain 16 = .ok (.iconst 0, 1) := by decide +kernel
theorem dX4_wouldGain_17 : decode cX4_wouldGain 17 = .ok (.ireturn, 1) := by decide +kernel
theorem dX4_wouldGain_18 : decode cX4_wouldGain 18 = .ok (.aload_n 0, 1) := by decide +kernel
theorem dX4_wouldGain_19 : decode cX4_wouldGain 19 = .ok (.iload_n 1, 1) := by decide +kernel
theorem dX4_wouldGain_20 : decode cX4_wouldGain 20 = .ok (.iload_n 3, 1) := by decide +kernel
theorem dX4_wouldGain_21 : decode cX4_wouldGain 21 = .ok (.iconst 1, 1) := by decide +kernel
theorem dX4_wouldGain_22 : decode cX4_wouldGain 22 = .ok (.iadd, 1) := by decide +kernel
theorem dX4_wouldGain_23 : decode cX4_wouldGain 23 = .ok (.iconst (-1), 1) := by decide +kernel
theorem dX4_wouldGain_24 : decode cX4_wouldGain 24 = .ok (.iconst 0, 1) := by decide +kernel
theorem dX4_wouldGain_25 : decode cX4_wouldGain 25 = .ok (.invokevirtual 106, 3) := by decide +kernel
theorem dX4_wouldGain_28 : decode cX4_wouldGain 28 = .ok (.istore 5, 2) := by decide +kernel
theorem dX4_wouldGain_30 : decode cX4_wouldGain 30 = .ok (.getstatic 100, 3) := by decide +kernel
theorem dX4_wouldGain_33 : decode cX4_wouldGain 33 = .ok (.astore 6, 2) := by decide +kernel
theorem dX4_wouldGain_35 : decode cX4_wouldGain 35 = .ok (.aload 6, 2) := by decide +kernel
theorem dX4_wouldGain_37 : decode cX4_wouldGain 37 = .ok (.arraylength, 1) := by decide +kernel
theorem dX4_wouldGain_38 : decode cX4_wouldGain 38 = .ok (.istore 7, 2) := by decide +kernel
theorem dX4_wouldGain_40 : decode cX4_wouldGain 40 = .ok (.iconst 0, 1) := by decide +kernel
theorem dX4_wouldGain_41 : decode cX4_wouldGain 41 = .ok (.istore 8, 2) := by decide +kernel
theorem dX4_wouldGain_43 : decode cX4_wouldGain 43 = .ok (.iload 8, 2) := by decide +kernel
theorem dX4_wouldGain_45 : decode cX4_wouldGain 45 = .ok (.iload 7, 2) := by decide +kernel
theorem dX4_wouldGain_47 : decode cX4_wouldGain 47 = .ok (.if_icmp .ge 54, 3) := by decide +kernel
theorem dX4_wouldGain_50 : decode cX4_wouldGain 50 = .ok (.aload 6, 2) := by decide +kernel
theorem dX4_wouldGain_52 : decode cX4_wouldGain 52 = .ok (.iload 8, 2) := by decide +kernel
theorem dX4_wouldGain_54 : decode cX4_wouldGain 54 = .ok (.iaload, 1) := by decide +kernel
theorem dX4_wouldGain_55 : decode cX4_wouldGain 55 = .ok (.istore 9, 2) := by decide +kernel
theorem dX4_wouldGain_57 : decode cX4_wouldGain 57 = .ok (.aload_n 0, 1) := by decide +kernel
theorem dX4_wouldGain_58 : decode cX4_wouldGain 58 = .ok (.getfield 17, 3) := by decide +kernel
theorem dX4_wouldGain_61 : decode cX4_wouldGain 61 = .ok (.iload 4, 2) := by decide +kernel
theorem dX4_wouldGain_63 : decode cX4_wouldGain 63 = .ok (.aaload, 1) := by decide +kernel
theorem dX4_wouldGain_64 : decode cX4_wouldGain 64 = .ok (.iload_n 2, 1) := by decide +kernel
theorem dX4_wouldGain_65 : decode cX4_wouldGain 65 = .ok (.invokestatic 112, 3) := by decide +kernel
theorem dX4_wouldGain_68 : decode cX4_wouldGain 68 = .ok (.iload_n 3, 1) := by decide +kernel
theorem dX4_wouldGain_69 : decode cX4_wouldGain 69 = .ok (.iload 9, 2) := by decide +kernel
theorem dX4_wouldGain_71 : decode cX4_wouldGain 71 = .ok (.invokevirtual 115, 3) := by decide +kernel
theorem dX4_wouldGain_74 : decode cX4_wouldGain 74 = .ok (.istore 10, 2) := by decide +kernel
theorem dX4_wouldGain_76 : decode cX4_wouldGain 76 = .ok (.aload_n 0, 1) := by decide +kernel
theorem dX4_wouldGain_77 : decode cX4_wouldGain 77 = .ok (.iload_n 1, 1) := by decide +kernel
theorem dX4_wouldGain_78 : decode cX4_wouldGain 78 = .ok (.iload_n 3, 1) := by decide +kernel
theorem dX4_wouldGain_79 : decode cX4_wouldGain 79 = .ok (.iconst 1, 1) := by decide +kernel
theorem dX4_wouldGain_80 : decode cX4_wouldGain 80 = .ok (.iadd, 1) := by decide +kernel
theorem dX4_wouldGain_81 : decode cX4_wouldGain 81 = .ok (.iload 4, 2) := by decide +kernel
theorem dX4_wouldGain_83 : decode cX4_wouldGain 83 = .ok (.iload 10, 2) := by decide +kernel
theorem dX4_wouldGain_85 : decode cX4_wouldGain 85 = .ok (.invokevirtual 106, 3) := by decide +kernel
theorem dX4_wouldGain_88 : decode cX4_wouldGain 88 = .ok (.iload 5, 2) := by decide +kernel
theorem dX4_wouldGain_90 : decode cX4_wouldGain 90 = .ok (.if_icmp .le 5, 3) := by decide +kernel
theorem dX4_wouldGain_93 : decode cX4_wouldGain 93 = .ok (.iconst 1, 1) := by decide +kernel
theorem dX4_wouldGain_94 : decode cX4_wouldGain 94 = .ok (.ireturn, 1) := by decide +kernel
theorem dX4_wouldGain_95 : decode cX4_wouldGain 95 = .ok (.iinc 8 1, 3) := by decide +kernel
theorem dX4_wouldGain_98 : decode cX4_wouldGain 98 = .ok (.goto (-55), 3) := by decide +kernel
theorem dX4_wouldGain_101 : decode cX4_wouldGain 101 = .ok (.iconst 0, 1) := by decide +kernel
theorem dX4_wouldGain_102 : decode cX4_wouldGain 102 = .ok (.ireturn, 1) := by decide +kernel
theorem dX4_roundMinutes_0 : decode cX4_roundMinutes 0 = .ok (.iconst 0, 1) := by decide +kernel
theorem dX4_roundMinutes_1 : decode cX4_roundMinutes 1 = .ok (.istore_n 3, 1) := by decide +kernel
theorem dX4_roundMinutes_2 : decode cX4_roundMinutes 2 = .ok (.iconst 0, 1) := by decide +kernel
theorem dX4_roundMinutes_3 : decode cX4_roundMinutes 3 = .ok (.istore 4, 2) := by decide +kernel
theorem dX4_roundMinutes_5 : decode cX4_roundMinutes 5 = .ok (.iconst 0, 1) := by decide +kernel
theorem dX4_roundMinutes_6 : decode cX4_roundMinutes 6 = .ok (.istore 5, 2) := by decide +kernel
theorem dX4_roundMinutes_8 : decode cX4_roundMinutes 8 = .ok (.iload 5, 2) := by decide +kernel
theorem dX4_roundMinutes_10 : decode cX4_roundMinutes 10 = .ok (.aload_n 0, 1) := by decide +kernel
theorem dX4_roundMinutes_11 : decode cX4_roundMinutes 11 = .ok (.getfield 21, 3) := by decide +kernel
theorem dX4_roundMinutes_14 : decode cX4_roundMinutes 14 = .ok (.iconst 1, 1) := by decide +kernel
theorem dX4_roundMinutes_15 : decode cX4_roundMinutes 15 = .ok (.isub, 1) := by decide +kernel
theorem dX4_roundMinutes_16 : decode cX4_roundMinutes 16 = .ok (.if_icmp .ge 38, 3) := by decide +kernel
theorem dX4_roundMinutes_19 : decode cX4_roundMinutes 19 = .ok (.aload_n 0, 1) := by decide +kernel
theorem dX4_roundMinutes_20 : decode cX4_roundMinutes 20 = .ok (.getfield 17, 3) := by decide +kernel
theorem dX4_roundMinutes_23 : decode cX4_roundMinutes 23 = .ok (.iload 5, 2) := by decide +kernel
theorem dX4_roundMinutes_25 : decode cX4_roundMinutes 25 = .ok (.aaload, 1) := by decide +kernel
theorem dX4_roundMinutes_26 : decode cX4_roundMinutes 26 = .ok (.iload_n 1, 1) := by decide +kernel
theorem dX4_roundMinutes_27 : decode cX4_roundMinutes 27 = .ok (.iload_n 2, 1) := by decide +kernel
theorem dX4_roundMinutes_28 : decode cX4_roundMinutes 28 = .ok (.invokevirtual 118, 3) := by decide +kernel
theorem dX4_roundMinutes_31 : decode cX4_roundMinutes 31 = .ok (.istore 6, 2) := by decide +kernel
theorem dX4_roundMinutes_33 : decode cX4_roundMinutes 33 = .ok (.iload 6, 2) := by decide +kernel
theorem dX4_roundMinutes_35 : decode cX4_roundMinutes 35 = .ok (.ifCond .le 6, 3) := by decide +kernel
theorem dX4_roundMinutes_38 : decode cX4_roundMinutes 38 = .ok (.iload 5, 2) := by decide +kernel
theorem dX4_roundMinutes_40 : decode cX4_roundMinutes 40 = .ok (.istore_n 3, 1) := by decide +kernel
theorem dX4_roundMinutes_41 : decode cX4_roundMinutes 41 = .ok (.iload 4, 2) := by decide +kernel
theorem dX4_roundMinutes_43 : decode cX4_roundMinutes 43 = .ok (.iload 6, 2) := by decide +kernel
theorem dX4_roundMinutes_45 : decode cX4_roundMinutes 45 = .ok (.iadd, 1) := by decide +kernel
theorem dX4_roundMinutes_46 : decode cX4_roundMinutes 46 = .ok (.istore 4, 2) := by decide +kernel
theorem dX4_roundMinutes_48 : decode cX4_roundMinutes 48 = .ok (.iinc 5 1, 3) := by decide +kernel
theorem dX4_roundMinutes_51 : decode cX4_roundMinutes 51 = .ok (.goto (-43), 3) := by decide +kernel
theorem dX4_roundMinutes_54 : decode cX4_roundMinutes 54 = .ok (.iload_n 3, 1) := by decide +kernel
theorem dX4_roundMinutes_55 : decode cX4_roundMinutes 55 = .ok (.iload 4, 2) := by decide +kernel
theorem dX4_roundMinutes_57 : decode cX4_roundMinutes 57 = .ok (.iadd, 1) := by decide +kernel
theorem dX4_roundMinutes_58 : decode cX4_roundMinutes 58 = .ok (.ireturn, 1) := by decide +kernel
theorem dX4_finesOf_0 : decode cX4_finesOf 0 = .ok (.iconst 0, 1) := by decide +kernel
theorem dX4_finesOf_1 : decode cX4_finesOf 1 = .ok (.istore_n 3, 1) := by decide +kernel
theorem dX4_finesOf_2 : decode cX4_finesOf 2 = .ok (.aload_n 0, 1) := by decide +kernel
theorem dX4_finesOf_3 : decode cX4_finesOf 3 = .ok (.iload_n 1, 1) := by decide +kernel
theorem dX4_finesOf_4 : decode cX4_finesOf 4 = .ok (.iconst 1, 1) := by decide +kernel
theorem dX4_finesOf_5 : decode cX4_finesOf 5 = .ok (.isub, 1) := by decide +kernel
theorem dX4_finesOf_6 : decode cX4_finesOf 6 = .ok (.invokevirtual 37, 3) := by decide +kernel
theorem dX4_finesOf_9 : decode cX4_finesOf 9 = .ok (.ifCond .eq 19, 3) := by decide +kernel
theorem dX4_finesOf_12 : decode cX4_finesOf 12 = .ok (.iload_n 3, 1) := by decide +kernel
theorem dX4_finesOf_13 : decode cX4_finesOf 13 = .ok (.aload_n 0, 1) := by decide +kernel
theorem dX4_finesOf_14 : decode cX4_finesOf 14 = .ok (.getfield 17, 3) := by decide +kernel
theorem dX4_finesOf_17 : decode cX4_finesOf 17 = .ok (.iload_n 1, 1) := by decide +kernel
theorem dX4_finesOf_18 : decode cX4_finesOf 18 = .ok (.iconst 1, 1) := by decide +kernel
theorem dX4_finesOf_19 : decode cX4_finesOf 19 = .ok (.isub, 1) := by decide +kernel
theorem dX4_finesOf_20 : decode cX4_finesOf 20 = .ok (.aaload, 1) := by decide +kernel
theorem dX4_finesOf_21 : decode cX4_finesOf 21 = .ok (.iconst 1, 1) := by decide +kernel
theorem dX4_finesOf_22 : decode cX4_finesOf 22 = .ok (.iload_n 2, 1) := by decide +kernel
theorem dX4_finesOf_23 : decode cX4_finesOf 23 = .ok (.invokevirtual 121, 3) := by decide +kernel
theorem dX4_finesOf_26 : decode cX4_finesOf 26 = .ok (.iadd, 1) := by decide +kernel
theorem dX4_finesOf_27 : decode cX4_finesOf 27 = .ok (.istore_n 3, 1) := by decide +kernel
theorem dX4_finesOf_28 : decode cX4_finesOf 28 = .ok (.aload_n 0, 1) := by decide +kernel
theorem dX4_finesOf_29 : decode cX4_finesOf 29 = .ok (.iload_n 1, 1) := by decide +kernel
theorem dX4_finesOf_30 : decode cX4_finesOf 30 = .ok (.invokevirtual 37, 3) := by decide +kernel
theorem dX4_finesOf_33 : decode cX4_finesOf 33 = .ok (.ifCond .eq 17, 3) := by decide +kernel
theorem dX4_finesOf_36 : decode cX4_finesOf 36 = .ok (.iload_n 3, 1) := by decide +kernel
theorem dX4_finesOf_37 : decode cX4_finesOf 37 = .ok (.aload_n 0, 1) := by decide +kernel
theorem dX4_finesOf_38 : decode cX4_finesOf 38 = .ok (.getfield 17, 3) := by decide +kernel
theorem dX4_finesOf_41 : decode cX4_finesOf 41 = .ok (.iload_n 1, 1) := by decide +kernel
theorem dX4_finesOf_42 : decode cX4_finesOf 42 = .ok (.aaload, 1) := by decide +kernel
theorem dX4_finesOf_43 : decode cX4_finesOf 43 = .ok (.iconst 0, 1) := by decide +kernel
theorem dX4_finesOf_44 : decode cX4_finesOf 44 = .ok (.iload_n 2, 1) := by decide +kernel
theorem dX4_finesOf_45 : decode cX4_finesOf 45 = .ok (.invokevirtual 121, 3) := by decide +kernel
theorem dX4_finesOf_48 : decode cX4_finesOf 48 = .ok (.iadd, 1) := by decide +kernel
theorem dX4_finesOf_49 : decode cX4_finesOf 49 = .ok (.istore_n 3, 1) := by decide +kernel
theorem dX4_finesOf_50 : decode cX4_finesOf 50 = .ok (.iload_n 3, 1) := by decide +kernel
theorem dX4_finesOf_51 : decode cX4_finesOf 51 = .ok (.ireturn, 1) := by decide +kernel
theorem dX4_heightsTogether_0 : decode cX4_heightsTogether 0 = .ok (.iconst 0, 1) := by decide +kernel
theorem dX4_heightsTogether_1 : decode cX4_heightsTogether 1 = .ok (.istore_n 2, 1) := by decide +kernel
theorem dX4_heightsTogether_2 : decode cX4_heightsTogether 2 = .ok (.iconst 0, 1) := by decide +kernel
theorem dX4_heightsTogether_3 : decode cX4_heightsTogether 3 = .ok (.istore_n 3, 1) := by decide +kernel
theorem dX4_heightsTogether_4 : decode cX4_heightsTogether 4 = .ok (.iload_n 3, 1) := by decide +kernel
theorem dX4_heightsTogether_5 : decode cX4_heightsTogether 5 = .ok (.aload_n 0, 1) := by decide +kernel
theorem dX4_heightsTogether_6 : decode cX4_heightsTogether 6 = .ok (.getfield 21, 3) := by decide +kernel
theorem dX4_heightsTogether_9 : decode cX4_heightsTogether 9 = .ok (.iconst 1, 1) := by decide +kernel
theorem dX4_heightsTogether_10 : decode cX4_heightsTogether 10 = .ok (.isub, 1) := by decide +kernel
theorem dX4_heightsTogether_11 : decode cX4_heightsTogether 11 = .ok (.if_icmp .ge 22, 3) := by decide +kernel
theorem dX4_heightsTogether_14 : decode cX4_heightsTogether 14 = .ok (.iload_n 2, 1) := by decide +kernel
theorem dX4_heightsTogether_15 : decode cX4_heightsTogether 15 = .ok (.aload_n 0, 1) := by decide +kernel
theorem dX4_heightsTogether_16 : decode cX4_heightsTogether 16 = .ok (.getfield 17, 3) := by decide +kernel
theorem dX4_heightsTogether_19 : decode cX4_heightsTogether 19 = .ok (.iload_n 3, 1) := by decide +kernel
theorem dX4_heightsTogether_20 : decode cX4_heightsTogether 20 = .ok (.aaload, 1) := by decide +kernel
theorem dX4_heightsTogether_21 : decode cX4_heightsTogether 21 = .ok (.iload_n 1, 1) := by decide +kernel
theorem dX4_heightsTogether_22 : decode cX4_heightsTogether 22 = .ok (.invokevirtual 63, 3) := by decide +kernel
theorem dX4_heightsTogether_25 : decode cX4_heightsTogether 25 = .ok (.iadd, 1) := by decide +kernel
theorem dX4_heightsTogether_26 : decode cX4_heightsTogether 26 = .ok (.istore_n 2, 1) := by decide +kernel
theorem dX4_heightsTogether_27 : decode cX4_heightsTogether 27 = .ok (.iinc 3 1, 3) := by decide +kernel
theorem dX4_heightsTogether_30 : decode cX4_heightsTogether 30 = .ok (.goto (-26), 3) := by decide +kernel
theorem dX4_heightsTogether_33 : decode cX4_heightsTogether 33 = .ok (.iload_n 2, 1) := by decide +kernel
theorem dX4_heightsTogether_34 : decode cX4_heightsTogether 34 = .ok (.ireturn, 1) := by decide +kernel
theorem dX5_init_0 : decode cX5_init 0 = .ok (.aload_n 0, 1) := by decide +kernel
theorem dX5_init_1 : decode cX5_init 1 = .ok (.invokespecial 3, 3) := by decide +kernel
theorem dX5_init_4 : decode cX5_init 4 = .ok (.aload_n 0, 1) := by decide +kernel
theorem dX5_init_5 : decode cX5_init 5 = .ok (.bipush 60, 2) := by decide +kernel
theorem dX5_init_7 : decode cX5_init 7 = .ok (.newarray .int, 2) := by decide +kernel
theorem dX5_init_9 : decode cX5_init 9 = .ok (.putfield 9, 3) := by decide +kernel
theorem dX5_init_12 : decode cX5_init 12 = .ok (.aload_n 0, 1) := by decide +kernel
theorem dX5_init_13 : decode cX5_init 13 = .ok (.iconst (-1), 1) := by decide +kernel
theorem dX5_init_14 : decode cX5_init 14 = .ok (.putfield 15, 3) := by decide +kernel
theorem dX5_init_17 : decode cX5_init 17 = .ok (.aload_n 0, 1) := by decide +kernel
theorem dX5_init_18 : decode cX5_init 18 = .ok (.iconst 0, 1) := by decide +kernel
theorem dX5_init_19 : decode cX5_init 19 = .ok (.putfield 19, 3) := by decide +kernel
theorem dX5_init_22 : decode cX5_init 22 = .ok (.return_, 1) := by decide +kernel
theorem dX5_begin_0 : decode cX5_begin 0 = .ok (.aload_n 0, 1) := by decide +kernel
theorem dX5_begin_1 : decode cX5_begin 1 = .ok (.iload_n 1, 1) := by decide +kernel
theorem dX5_begin_2 : decode cX5_begin 2 = .ok (.putfield 15, 3) := by decide +kernel
theorem dX5_begin_5 : decode cX5_begin 5 = .ok (.aload_n 0, 1) := by decide +kernel
theorem dX5_begin_6 : decode cX5_begin 6 = .ok (.iload_n 2, 1) := by decide +kernel
theorem dX5_begin_7 : decode cX5_begin 7 = .ok (.putfield 19, 3) := by decide +kernel
theorem dX5_begin_10 : decode cX5_begin 10 = .ok (.aload_n 0, 1) := by decide +kernel
theorem dX5_begin_11 : decode cX5_begin 11 = .ok (.getfield 9, 3) := by decide +kernel
theorem dX5_begin_14 : decode cX5_begin 14 = .ok (.iconst 0, 1) := by decide +kernel
theorem dX5_begin_15 : decode cX5_begin 15 = .ok (.invokestatic 22, 3) := by decide +kernel
theorem dX5_begin_18 : decode cX5_begin 18 = .ok (.return_, 1) := by decide +kernel
theorem dX5_drop_0 : decode cX5_drop 0 = .ok (.aload_n 0, 1) := by decide +kernel
theorem dX5_drop_1 : decode cX5_drop 1 = .ok (.iconst (-1), 1) := by decide +kernel
theorem dX5_drop_2 : decode cX5_drop 2 = .ok (.putfield 15, 3) := by decide +kernel
theorem dX5_drop_5 : decode cX5_drop 5 = .ok (.aload_n 0, 1) := by decide +kernel
theorem dX5_drop_6 : decode cX5_drop 6 = .ok (.iconst 0, 1) := by decide +kernel
end
section
theorem dX5_drop_7 : decode cX5_drop 7 = .ok (.putfield 19, 3) := by decide +kernel
theorem dX5_drop_10 : decode cX5_drop 10 = .ok (.return_, 1) := by decide +kernel
theorem dX5_hasNothing_0 : decode cX5_hasNothing 0 = .ok (.aload_n 0, 1) := by decide +kernel
theorem dX5_hasNothing_1 : decode cX5_hasNothing 1 = .ok (.getfield 15, 3) := by decide +kernel
theorem dX5_hasNothing_4 : decode cX5_hasNothing 4 = .ok (.iconst (-1), 1) := by decide +kernel
theorem dX5_hasNothing_5 : decode cX5_hasNothing 5 = .ok (.if_icmp .ne 7, 3) := by decide +kernel
theorem dX5_hasNothing_8 : decode cX5_hasNothing 8 = .ok (.iconst 1, 1) := by decide +kernel
theorem dX5_hasNothing_9 : decode cX5_hasNothing 9 = .ok (.goto 4, 3) := by decide +kernel
theorem dX5_hasNothing_12 : decode cX5_hasNothing 12 = .ok (.iconst 0, 1) := by decide +kernel
theorem dX5_hasNothing_13 : decode cX5_hasNothing 13 = .ok (.ireturn, 1) := by decide +kernel
theorem dX5_isOfOtherLane_0 : decode cX5_isOfOtherLane 0 = .ok (.aload_n 0, 1) := by decide +kernel
theorem dX5_isOfOtherLane_1 : decode cX5_isOfOtherLane 1 = .ok (.getfield 15, 3) := by decide +kernel
theorem dX5_isOfOtherLane_4 : decode cX5_isOfOtherLane 4 = .ok (.iconst (-1), 1) := by decide +kernel
theorem dX5_isOfOtherLane_5 : decode cX5_isOfOtherLane 5 = .ok (.if_icmp .eq 15, 3) := by decide +kernel
theorem dX5_isOfOtherLane_8 : decode cX5_isOfOtherLane 8 = .ok (.aload_n 0, 1) := by decide +kernel
theorem dX5_isOfOtherLane_9 : decode cX5_isOfOtherLane 9 = .ok (.getfield 15, 3) := by decide +kernel
theorem dX5_isOfOtherLane_12 : decode cX5_isOfOtherLane 12 = .ok (.iload_n 1, 1) := by decide +kernel
theorem dX5_isOfOtherLane_13 : decode cX5_isOfOtherLane 13 = .ok (.if_icmp .eq 7, 3) := by decide +kernel
theorem dX5_isOfOtherLane_16 : decode cX5_isOfOtherLane 16 = .ok (.iconst 1, 1) := by decide +kernel
theorem dX5_isOfOtherLane_17 : decode cX5_isOfOtherLane 17 = .ok (.goto 4, 3) := by decide +kernel
theorem dX5_isOfOtherLane_20 : decode cX5_isOfOtherLane 20 = .ok (.iconst 0, 1) := by decide +kernel
theorem dX5_isOfOtherLane_21 : decode cX5_isOfOtherLane 21 = .ok (.ireturn, 1) := by decide +kernel
theorem dX5_holds_0 : decode cX5_holds 0 = .ok (.iload_n 1, 1) := by decide +kernel
theorem dX5_holds_1 : decode cX5_holds 1 = .ok (.ifCond .lt 15, 3) := by decide +kernel
theorem dX5_holds_4 : decode cX5_holds 4 = .ok (.iload_n 1, 1) := by decide +kernel
theorem dX5_holds_5 : decode cX5_holds 5 = .ok (.aload_n 0, 1) := by decide +kernel
theorem dX5_holds_6 : decode cX5_holds 6 = .ok (.getfield 19, 3) := by decide +kernel
theorem dX5_holds_9 : decode cX5_holds 9 = .ok (.if_icmp .ge 7, 3) := by decide +kernel
theorem dX5_holds_12 : decode cX5_holds 12 = .ok (.iconst 1, 1) := by decide +kernel
theorem dX5_holds_13 : decode cX5_holds 13 = .ok (.goto 4, 3) := by decide +kernel
theorem dX5_holds_16 : decode cX5_holds 16 = .ok (.iconst 0, 1) := by decide +kernel
theorem dX5_holds_17 : decode cX5_holds 17 = .ok (.ireturn, 1) := by decide +kernel
theorem dX5_holdsRun_0 : decode cX5_holdsRun 0 = .ok (.iload_n 1, 1) := by decide +kernel
theorem dX5_holdsRun_1 : decode cX5_holdsRun 1 = .ok (.ifCond .lt 29, 3) := by decide +kernel
theorem dX5_holdsRun_4 : decode cX5_holdsRun 4 = .ok (.iload_n 1, 1) := by decide +kernel
theorem dX5_holdsRun_5 : decode cX5_holdsRun 5 = .ok (.aload_n 0, 1) := by decide +kernel
theorem dX5_holdsRun_6 : decode cX5_holdsRun 6 = .ok (.getfield 19, 3) := by decide +kernel
theorem dX5_holdsRun_9 : decode cX5_holdsRun 9 = .ok (.if_icmp .gt 21, 3) := by decide +kernel
theorem dX5_holdsRun_12 : decode cX5_holdsRun 12 = .ok (.iload_n 2, 1) := by decide +kernel
theorem dX5_holdsRun_13 : decode cX5_holdsRun 13 = .ok (.ifCond .lt 17, 3) := by decide +kernel
theorem dX5_holdsRun_16 : decode cX5_holdsRun 16 = .ok (.iload_n 2, 1) := by decide +kernel
theorem dX5_holdsRun_17 : decode cX5_holdsRun 17 = .ok (.aload_n 0, 1) := by decide +kernel
theorem dX5_holdsRun_18 : decode cX5_holdsRun 18 = .ok (.getfield 19, 3) := by decide +kernel
theorem dX5_holdsRun_21 : decode cX5_holdsRun 21 = .ok (.iload_n 1, 1) := by decide +kernel
theorem dX5_holdsRun_22 : decode cX5_holdsRun 22 = .ok (.isub, 1) := by decide +kernel
theorem dX5_holdsRun_23 : decode cX5_holdsRun 23 = .ok (.if_icmp .gt 7, 3) := by decide +kernel
theorem dX5_holdsRun_26 : decode cX5_holdsRun 26 = .ok (.iconst 1, 1) := by decide +kernel
theorem dX5_holdsRun_27 : decode cX5_holdsRun 27 = .ok (.goto 4, 3) := by decide +kernel
theorem dX5_holdsRun_30 : decode cX5_holdsRun 30 = .ok (.iconst 0, 1) := by decide +kernel
theorem dX5_holdsRun_31 : decode cX5_holdsRun 31 = .ok (.ireturn, 1) := by decide +kernel
theorem dX5_write_0 : decode cX5_write 0 = .ok (.aload_n 0, 1) := by decide +kernel
theorem dX5_write_1 : decode cX5_write 1 = .ok (.getfield 9, 3) := by decide +kernel
theorem dX5_write_4 : decode cX5_write 4 = .ok (.iload_n 1, 1) := by decide +kernel
theorem dX5_write_5 : decode cX5_write 5 = .ok (.aload_n 0, 1) := by decide +kernel
theorem dX5_write_6 : decode cX5_write 6 = .ok (.getfield 15, 3) := by decide +kernel
theorem dX5_write_9 : decode cX5_write 9 = .ok (.ifCond .ne 8, 3) := by decide +kernel
theorem dX5_write_12 : decode cX5_write 12 = .ok (.iload_n 2, 1) := by decide +kernel
theorem dX5_write_13 : decode cX5_write 13 = .ok (.i2b, 1) := by decide +kernel
theorem dX5_write_14 : decode cX5_write 14 = .ok (.goto 17, 3) := by decide +kernel
theorem dX5_write_17 : decode cX5_write 17 = .ok (.aload_n 0, 1) := by decide +kernel
theorem dX5_write_18 : decode cX5_write 18 = .ok (.getfield 15, 3) := by decide +kernel
theorem dX5_write_21 : decode cX5_write 21 = .ok (.iconst 1, 1) := by decide +kernel
theorem dX5_write_22 : decode cX5_write 22 = .ok (.if_icmp .ne 8, 3) := by decide +kernel
theorem dX5_write_25 : decode cX5_write 25 = .ok (.iload_n 2, 1) := by decide +kernel
theorem dX5_write_26 : decode cX5_write 26 = .ok (.i2s, 1) := by decide +kernel
theorem dX5_write_27 : decode cX5_write 27 = .ok (.goto 4, 3) := by decide +kernel
theorem dX5_write_30 : decode cX5_write 30 = .ok (.iload_n 2, 1) := by decide +kernel
theorem dX5_write_31 : decode cX5_write 31 = .ok (.iastore, 1) := by decide +kernel
theorem dX5_write_32 : decode cX5_write 32 = .ok (.return_, 1) := by decide +kernel
theorem dX6_firstFault_0 : decode cX6_firstFault 0 = .ok (.iconst 0, 1) := by decide +kernel
theorem dX6_firstFault_1 : decode cX6_firstFault 1 = .ok (.istore_n 3, 1) := by decide +kernel
theorem dX6_firstFault_2 : decode cX6_firstFault 2 = .ok (.iload_n 3, 1) := by decide +kernel
theorem dX6_firstFault_3 : decode cX6_firstFault 3 = .ok (.iload_n 2, 1) := by decide +kernel
theorem dX6_firstFault_4 : decode cX6_firstFault 4 = .ok (.if_icmp .ge 26, 3) := by decide +kernel
theorem dX6_firstFault_7 : decode cX6_firstFault 7 = .ok (.iload_n 3, 1) := by decide +kernel
theorem dX6_firstFault_8 : decode cX6_firstFault 8 = .ok (.aload_n 0, 1) := by decide +kernel
theorem dX6_firstFault_9 : decode cX6_firstFault 9 = .ok (.getfield 9, 3) := by decide +kernel
theorem dX6_firstFault_12 : decode cX6_firstFault 12 = .ok (.iload_n 1, 1) := by decide +kernel
theorem dX6_firstFault_13 : decode cX6_firstFault 13 = .ok (.iload_n 3, 1) := by decide +kernel
theorem dX6_firstFault_14 : decode cX6_firstFault 14 = .ok (.iadd, 1) := by decide +kernel
theorem dX6_firstFault_15 : decode cX6_firstFault 15 = .ok (.iaload, 1) := by decide +kernel
theorem dX6_firstFault_16 : decode cX6_firstFault 16 = .ok (.invokestatic 15, 3) := by decide +kernel
theorem dX6_firstFault_19 : decode cX6_firstFault 19 = .ok (.ifCond .ne 5, 3) := by decide +kernel
theorem dX6_firstFault_22 : decode cX6_firstFault 22 = .ok (.iload_n 3, 1) := by decide +kernel
theorem dX6_firstFault_23 : decode cX6_firstFault 23 = .ok (.ireturn, 1) := by decide +kernel
theorem dX6_firstFault_24 : decode cX6_firstFault 24 = .ok (.iinc 3 1, 3) := by decide +kernel
theorem dX6_firstFault_27 : decode cX6_firstFault 27 = .ok (.goto (-25), 3) := by decide +kernel
theorem dX6_firstFault_30 : decode cX6_firstFault 30 = .ok (.iload_n 2, 1) := by decide +kernel
theorem dX6_firstFault_31 : decode cX6_firstFault 31 = .ok (.invokestatic 21, 3) := by decide +kernel
theorem dX6_firstFault_34 : decode cX6_firstFault 34 = .ok (.ifCond .eq 7, 3) := by decide +kernel
theorem dX6_firstFault_37 : decode cX6_firstFault 37 = .ok (.iconst (-1), 1) := by decide +kernel
theorem dX6_firstFault_38 : decode cX6_firstFault 38 = .ok (.goto 4, 3) := by decide +kernel
theorem dX6_firstFault_41 : decode cX6_firstFault 41 = .ok (.iload_n 2, 1) := by decide +kernel
theorem dX6_firstFault_42 : decode cX6_firstFault 42 = .ok (.ireturn, 1) := by decide +kernel
theorem dX6_goesOn_0 : decode cX6_goesOn 0 = .ok (.iload_n 0, 1) := by decide +kernel
theorem dX6_goesOn_1 : decode cX6_goesOn 1 = .ok (.ifCond .ne 15, 3) := by decide +kernel
theorem dX6_goesOn_4 : decode cX6_goesOn 4 = .ok (.iload_n 1, 1) := by decide +kernel
theorem dX6_goesOn_5 : decode cX6_goesOn 5 = .ok (.bipush 103, 2) := by decide +kernel
theorem dX6_goesOn_7 : decode cX6_goesOn 7 = .ok (.if_icmp .ne 7, 3) := by decide +kernel
theorem dX6_goesOn_10 : decode cX6_goesOn 10 = .ok (.iconst 1, 1) := by decide +kernel
theorem dX6_goesOn_11 : decode cX6_goesOn 11 = .ok (.goto 4, 3) := by decide +kernel
theorem dX6_goesOn_14 : decode cX6_goesOn 14 = .ok (.iconst 0, 1) := by decide +kernel
theorem dX6_goesOn_15 : decode cX6_goesOn 15 = .ok (.ireturn, 1) := by decide +kernel
theorem dX6_goesOn_16 : decode cX6_goesOn 16 = .ok (.iload_n 0, 1) := by decide +kernel
theorem dX6_goesOn_17 : decode cX6_goesOn 17 = .ok (.invokestatic 25, 3) := by decide +kernel
theorem dX6_goesOn_20 : decode cX6_goesOn 20 = .ok (.iconst 1, 1) := by decide +kernel
theorem dX6_goesOn_21 : decode cX6_goesOn 21 = .ok (.if_icmp .ne 25, 3) := by decide +kernel
theorem dX6_goesOn_24 : decode cX6_goesOn 24 = .ok (.iload_n 0, 1) := by decide +kernel
theorem dX6_goesOn_25 : decode cX6_goesOn 25 = .ok (.invokestatic 29, 3) := by decide +kernel
theorem dX6_goesOn_28 : decode cX6_goesOn 28 = .ok (.bipush 6, 2) := by decide +kernel
theorem dX6_goesOn_30 : decode cX6_goesOn 30 = .ok (.if_icmp .ge 14, 3) := by decide +kernel
theorem dX6_goesOn_33 : decode cX6_goesOn 33 = .ok (.iload_n 1, 1) := by decide +kernel
theorem dX6_goesOn_34 : decode cX6_goesOn 34 = .ok (.invokestatic 32, 3) := by decide +kernel
theorem dX6_goesOn_37 : decode cX6_goesOn 37 = .ok (.ifCond .lt 7, 3) := by decide +kernel
theorem dX6_goesOn_40 : decode cX6_goesOn 40 = .ok (.iconst 1, 1) := by decide +kernel
theorem dX6_goesOn_41 : decode cX6_goesOn 41 = .ok (.goto 4, 3) := by decide +kernel
theorem dX6_goesOn_44 : decode cX6_goesOn 44 = .ok (.iconst 0, 1) := by decide +kernel
theorem dX6_goesOn_45 : decode cX6_goesOn 45 = .ok (.ireturn, 1) := by decide +kernel
theorem dX6_goesOn_46 : decode cX6_goesOn 46 = .ok (.iload_n 1, 1) := by decide +kernel
theorem dX6_goesOn_47 : decode cX6_goesOn 47 = .ok (.bipush 48, 2) := by decide +kernel
theorem dX6_goesOn_49 : decode cX6_goesOn 49 = .ok (.if_icmp .lt 13, 3) := by decide +kernel
theorem dX6_goesOn_52 : decode cX6_goesOn 52 = .ok (.iload_n 1, 1) := by decide +kernel
theorem dX6_goesOn_53 : decode cX6_goesOn 53 = .ok (.bipush 57, 2) := by decide +kernel
theorem dX6_goesOn_55 : decode cX6_goesOn 55 = .ok (.if_icmp .gt 7, 3) := by decide +kernel
theorem dX6_goesOn_58 : decode cX6_goesOn 58 = .ok (.iconst 1, 1) := by decide +kernel
theorem dX6_goesOn_59 : decode cX6_goesOn 59 = .ok (.goto 4, 3) := by decide +kernel
theorem dX6_goesOn_62 : decode cX6_goesOn 62 = .ok (.iconst 0, 1) := by decide +kernel
theorem dX6_goesOn_63 : decode cX6_goesOn 63 = .ok (.ireturn, 1) := by decide +kernel
theorem dX6_isWhole_0 : decode cX6_isWhole 0 = .ok (.iload_n 0, 1) := by decide +kernel
theorem dX6_isWhole_1 : decode cX6_isWhole 1 = .ok (.iconst 1, 1) := by decide +kernel
theorem dX6_isWhole_2 : decode cX6_isWhole 2 = .ok (.if_icmp .le 25, 3) := by decide +kernel
theorem dX6_isWhole_5 : decode cX6_isWhole 5 = .ok (.iload_n 0, 1) := by decide +kernel
theorem dX6_isWhole_6 : decode cX6_isWhole 6 = .ok (.iconst 1, 1) := by decide +kernel
theorem dX6_isWhole_7 : decode cX6_isWhole 7 = .ok (.isub, 1) := by decide +kernel
theorem dX6_isWhole_8 : decode cX6_isWhole 8 = .ok (.invokestatic 25, 3) := by decide +kernel
theorem dX6_isWhole_11 : decode cX6_isWhole 11 = .ok (.ifCond .ne 16, 3) := by decide +kernel
theorem dX6_isWhole_14 : decode cX6_isWhole 14 = .ok (.iload_n 0, 1) := by decide +kernel
theorem dX6_isWhole_15 : decode cX6_isWhole 15 = .ok (.iconst 1, 1) := by decide +kernel
theorem dX6_isWhole_16 : decode cX6_isWhole 16 = .ok (.isub, 1) := by decide +kernel
theorem dX6_isWhole_17 : decode cX6_isWhole 17 = .ok (.invokestatic 29, 3) := by decide +kernel
theorem dX6_isWhole_20 : decode cX6_isWhole 20 = .ok (.ifCond .le 7, 3) := by decide +kernel
theorem dX6_isWhole_23 : decode cX6_isWhole 23 = .ok (.iconst 1, 1) := by decide +kernel
theorem dX6_isWhole_24 : decode cX6_isWhole 24 = .ok (.goto 4, 3) := by decide +kernel
theorem dX6_isWhole_27 : decode cX6_isWhole 27 = .ok (.iconst 0, 1) := by decide +kernel
theorem dX6_isWhole_28 : decode cX6_isWhole 28 = .ok (.ireturn, 1) := by decide +kernel
theorem dX6_partAt_0 : decode cX6_partAt 0 = .ok (.iload_n 0, 1) := by decide +kernel
theorem dX6_partAt_1 : decode cX6_partAt 1 = .ok (.iconst 1, 1) := by decide +kernel
theorem dX6_partAt_2 : decode cX6_partAt 2 = .ok (.isub, 1) := by decide +kernel
theorem dX6_partAt_3 : decode cX6_partAt 3 = .ok (.iconst 3, 1) := by decide +kernel
theorem dX6_partAt_4 : decode cX6_partAt 4 = .ok (.irem, 1) := by decide +kernel
theorem dX6_partAt_5 : decode cX6_partAt 5 = .ok (.ireturn, 1) := by decide +kernel
theorem dX6_gardenAt_0 : decode cX6_gardenAt 0 = .ok (.iload_n 0, 1) := by decide +kernel
theorem dX6_gardenAt_1 : decode cX6_gardenAt 1 = .ok (.iconst 1, 1) := by decide +kernel
theorem dX6_gardenAt_2 : decode cX6_gardenAt 2 = .ok (.isub, 1) := by decide +kernel
theorem dX6_gardenAt_3 : decode cX6_gardenAt 3 = .ok (.iconst 3, 1) := by decide +kernel
theorem dX6_gardenAt_4 : decode cX6_gardenAt 4 = .ok (.idiv, 1) := by decide +kernel
theorem dX6_gardenAt_5 : decode cX6_gardenAt 5 = .ok (.ireturn, 1) := by decide +kernel
theorem dX6_gardensOf_0 : decode cX6_gardensOf 0 = .ok (.iload_n 0, 1) := by decide +kernel
theorem dX6_gardensOf_1 : decode cX6_gardensOf 1 = .ok (.iconst 1, 1) := by decide +kernel
theorem dX6_gardensOf_2 : decode cX6_gardensOf 2 = .ok (.iadd, 1) := by decide +kernel
theorem dX6_gardensOf_3 : decode cX6_gardensOf 3 = .ok (.iconst 3, 1) := by decide +kernel
theorem dX6_gardensOf_4 : decode cX6_gardensOf 4 = .ok (.idiv, 1) := by decide +kernel
theorem dX6_gardensOf_5 : decode cX6_gardensOf 5 = .ok (.ireturn, 1) := by decide +kernel
theorem dX6_kindOf_0 : decode cX6_kindOf 0 = .ok (.iload_n 0, 1) := by decide +kernel
theorem dX6_kindOf_1 : decode cX6_kindOf 1 = .ok (.lookupswitch 41 #[(98, 39), (104, 35), (121, 37)], 35) := by decide +kernel
theorem dX6_kindOf_36 : decode cX6_kindOf 36 = .ok (.iconst 0, 1) := by decide +kernel
theorem dX6_kindOf_37 : decode cX6_kindOf 37 = .ok (.ireturn, 1) := by decide +kernel
theorem dX6_kindOf_38 : decode cX6_kindOf 38 = .ok (.iconst 1, 1) := by decide +kernel
theorem dX6_kindOf_39 : decode cX6_kindOf 39 = .ok (.ireturn, 1) := by decide +kernel
theorem dX6_kindOf_40 : decode cX6_kindOf 40 = .ok (.iconst 2, 1) := by decide +kernel
theorem dX6_kindOf_41 : decode cX6_kindOf 41 = .ok (.ireturn, 1) := by decide +kernel
theorem dX6_kindOf_42 : decode cX6_kindOf 42 = .ok (.iconst (-1), 1) := by decide +kernel
theorem dX6_kindOf_43 : decode cX6_kindOf 43 = .ok (.ireturn, 1) := by decide +kernel
theorem dX7_init_0 : decode cX7_init 0 = .ok (.aload_n 0, 1) := by decide +kernel
theorem dX7_init_1 : decode cX7_init 1 = .ok (.invokespecial 1, 3) := by decide +kernel
theorem dX7_init_4 : decode cX7_init 4 = .ok (.aload_n 0, 1) := by decide +kernel
theorem dX7_init_5 : decode cX7_init 5 = .ok (.iconst 0, 1) := by decide +kernel
theorem dX7_init_6 : decode cX7_init 6 = .ok (.putfield 7, 3) := by decide +kernel
theorem dX7_init_9 : decode cX7_init 9 = .ok (.return_, 1) := by decide +kernel
theorem dX7_enter_0 : decode cX7_enter 0 = .ok (.aload_n 0, 1) := by decide +kernel
theorem dX7_enter_1 : decode cX7_enter 1 = .ok (.bipush 31, 2) := by decide +kernel
theorem dX7_enter_3 : decode cX7_enter 3 = .ok (.aload_n 0, 1) := by decide +kernel
theorem dX7_enter_4 : decode cX7_enter 4 = .ok (.getfield 7, 3) := by decide +kernel
theorem dX7_enter_7 : decode cX7_enter 7 = .ok (.imul, 1) := by decide +kernel
theorem dX7_enter_8 : decode cX7_enter 8 = .ok (.iload_n 1, 1) := by decide +kernel
theorem dX7_enter_9 : decode cX7_enter 9 = .ok (.iadd, 1) := by decide +kernel
theorem dX7_enter_10 : decode cX7_enter 10 = .ok (.putfield 7, 3) := by decide +kernel
theorem dX7_enter_13 : decode cX7_enter 13 = .ok (.return_, 1) := by decide +kernel
theorem dX8_init_0 : decode cX8_init 0 = .ok (.aload_n 0, 1) := by decide +kernel
theorem dX8_init_1 : decode cX8_init 1 = .ok (.iload_n 1, 1) := by decide +kernel
theorem dX8_init_2 : decode cX8_init 2 = .ok (.iload_n 2, 1) := by decide +kernel
theorem dX8_init_3 : decode cX8_init 3 = .ok (.invokespecial 3, 3) := by decide +kernel
theorem dX8_init_6 : decode cX8_init 6 = .ok (.return_, 1) := by decide +kernel
theorem dX8_kind_0 : decode cX8_kind 0 = .ok (.iconst 1, 1) := by decide +kernel
theorem dX8_kind_1 : decode cX8_kind 1 = .ok (.ireturn, 1) := by decide +kernel
theorem dX8_growth_0 : decode cX8_growth 0 = .ok (.iload_n 1, 1) := by decide +kernel
theorem dX8_growth_1 : decode cX8_growth 1 = .ok (.ifCond .le 12, 3) := by decide +kernel
theorem dX8_growth_4 : decode cX8_growth 4 = .ok (.bipush 12, 2) := by decide +kernel
theorem dX8_growth_6 : decode cX8_growth 6 = .ok (.iload_n 1, 1) := by decide +kernel
theorem dX8_growth_7 : decode cX8_growth 7 = .ok (.imul, 1) := by decide +kernel
theorem dX8_growth_8 : decode cX8_growth 8 = .ok (.iconst 2, 1) := by decide +kernel
theorem dX8_growth_9 : decode cX8_growth 9 = .ok (.idiv, 1) := by decide +kernel
theorem dX8_growth_10 : decode cX8_growth 10 = .ok (.goto 6, 3) := by decide +kernel
theorem dX8_growth_13 : decode cX8_growth 13 = .ok (.iconst 3, 1) := by decide +kernel
theorem dX8_growth_14 : decode cX8_growth 14 = .ok (.iload_n 1, 1) := by decide +kernel
theorem dX8_growth_15 : decode cX8_growth 15 = .ok (.imul, 1) := by decide +kernel
theorem dX8_growth_16 : decode cX8_growth 16 = .ok (.ireturn, 1) := by decide +kernel
theorem dX8_telling_0 : decode cX8_telling 0 = .ok (.aload_n 1, 1) := by decide +kernel
theorem dX8_telling_1 : decode cX8_telling 1 = .ok (.iconst 2, 1) := by decide +kernel
theorem dX8_telling_2 : decode cX8_telling 2 = .ok (.invokevirtual 9, 3) := by decide +kernel
theorem dX8_telling_5 : decode cX8_telling 5 = .ok (.aload_n 0, 1) := by decide +kernel
theorem dX8_telling_6 : decode cX8_telling 6 = .ok (.aload_n 1, 1) := by decide +kernel
theorem dX8_telling_7 : decode cX8_telling 7 = .ok (.invokespecial 15, 3) := by decide +kernel
theorem dX8_telling_10 : decode cX8_telling 10 = .ok (.bipush 100, 2) := by decide +kernel
theorem dX8_telling_12 : decode cX8_telling 12 = .ok (.iadd, 1) := by decide +kernel
theorem dX8_telling_13 : decode cX8_telling 13 = .ok (.ireturn, 1) := by decide +kernel
theorem dX9_init_0 : decode cX9_init 0 = .ok (.aload_n 0, 1) := by decide +kernel
theorem dX9_init_1 : decode cX9_init 1 = .ok (.invokespecial 3, 3) := by decide +kernel
theorem dX9_init_4 : decode cX9_init 4 = .ok (.aload_n 0, 1) := by decide +kernel
theorem dX9_init_5 : decode cX9_init 5 = .ok (.new 9, 3) := by decide +kernel
theorem dX9_init_8 : decode cX9_init 8 = .ok (.dup, 1) := by decide +kernel
theorem dX9_init_9 : decode cX9_init 9 = .ok (.invokespecial 11, 3) := by decide +kernel
theorem dX9_init_12 : decode cX9_init 12 = .ok (.putfield 12, 3) := by decide +kernel
theorem dX9_init_15 : decode cX9_init 15 = .ok (.aload_n 0, 1) := by decide +kernel
theorem dX9_init_16 : decode cX9_init 16 = .ok (.new 18, 3) := by decide +kernel
theorem dX9_init_19 : decode cX9_init 19 = .ok (.dup, 1) := by decide +kernel
theorem dX9_init_20 : decode cX9_init 20 = .ok (.invokespecial 20, 3) := by decide +kernel
theorem dX9_init_23 : decode cX9_init 23 = .ok (.putfield 21, 3) := by decide +kernel
theorem dX9_init_26 : decode cX9_init 26 = .ok (.aload_n 0, 1) := by decide +kernel
theorem dX9_init_27 : decode cX9_init 27 = .ok (.new 25, 3) := by decide +kernel
theorem dX9_init_30 : decode cX9_init 30 = .ok (.dup, 1) := by decide +kernel
theorem dX9_init_31 : decode cX9_init 31 = .ok (.invokespecial 27, 3) := by decide +kernel
theorem dX9_init_34 : decode cX9_init 34 = .ok (.putfield 28, 3) := by decide +kernel
theorem dX9_init_37 : decode cX9_init 37 = .ok (.aload_n 0, 1) := by decide +kernel
theorem dX9_init_38 : decode cX9_init 38 = .ok (.iconst 4, 1) := by decide +kernel
theorem dX9_init_39 : decode cX9_init 39 = .ok (.anewarray 32, 3) := by decide +kernel
theorem dX9_init_42 : decode cX9_init 42 = .ok (.putfield 34, 3) := by decide +kernel
theorem dX9_init_45 : decode cX9_init 45 = .ok (.aload_n 0, 1) := by decide +kernel
theorem dX9_init_46 : decode cX9_init 46 = .ok (.iconst 0, 1) := by decide +kernel
theorem dX9_init_47 : decode cX9_init 47 = .ok (.putfield 38, 3) := by decide +kernel
theorem dX9_init_50 : decode cX9_init 50 = .ok (.iconst 0, 1) := by decide +kernel
theorem dX9_init_51 : decode cX9_init 51 = .ok (.istore_n 1, 1) := by decide +kernel
theorem dX9_init_52 : decode cX9_init 52 = .ok (.iload_n 1, 1) := by decide +kernel
theorem dX9_init_53 : decode cX9_init 53 = .ok (.iconst 4, 1) := by decide +kernel
theorem dX9_init_54 : decode cX9_init 54 = .ok (.if_icmp .ge 22, 3) := by decide +kernel
theorem dX9_init_57 : decode cX9_init 57 = .ok (.aload_n 0, 1) := by decide +kernel
theorem dX9_init_58 : decode cX9_init 58 = .ok (.getfield 34, 3) := by decide +kernel
theorem dX9_init_61 : decode cX9_init 61 = .ok (.iload_n 1, 1) := by decide +kernel
theorem dX9_init_62 : decode cX9_init 62 = .ok (.new 32, 3) := by decide +kernel
theorem dX9_init_65 : decode cX9_init 65 = .ok (.dup, 1) := by decide +kernel
theorem dX9_init_66 : decode cX9_init 66 = .ok (.invokespecial 42, 3) := by decide +kernel
theorem dX9_init_69 : decode cX9_init 69 = .ok (.aastore, 1) := by decide +kernel
theorem dX9_init_70 : decode cX9_init 70 = .ok (.iinc 1 1, 3) := by decide +kernel
theorem dX9_init_73 : decode cX9_init 73 = .ok (.goto (-21), 3) := by decide +kernel
theorem dX9_init_76 : decode cX9_init 76 = .ok (.return_, 1) := by decide +kernel
theorem dX9_gardens_0 : decode cX9_gardens 0 = .ok (.aload_n 0, 1) := by decide +kernel
theorem dX9_gardens_1 : decode cX9_gardens 1 = .ok (.iconst 0, 1) := by decide +kernel
theorem dX9_gardens_2 : decode cX9_gardens 2 = .ok (.putfield 38, 3) := by decide +kernel
theorem dX9_gardens_5 : decode cX9_gardens 5 = .ok (.iload_n 1, 1) := by decide +kernel
theorem dX9_gardens_6 : decode cX9_gardens 6 = .ok (.invokestatic 43, 3) := by decide +kernel
theorem dX9_gardens_9 : decode cX9_gardens 9 = .ok (.ifCond .ne 5, 3) := by decide +kernel
theorem dX9_gardens_12 : decode cX9_gardens 12 = .ok (.iconst (-1), 1) := by decide +kernel
theorem dX9_gardens_13 : decode cX9_gardens 13 = .ok (.ireturn, 1) := by decide +kernel
theorem dX9_gardens_14 : decode cX9_gardens 14 = .ok (.iload_n 2, 1) := by decide +kernel
theorem dX9_gardens_15 : decode cX9_gardens 15 = .ok (.iconst 2, 1) := by decide +kernel
theorem dX9_gardens_16 : decode cX9_gardens 16 = .ok (.invokestatic 47, 3) := by decide +kernel
theorem dX9_gardens_19 : decode cX9_gardens 19 = .ok (.ifCond .ne 6, 3) := by decide +kernel
theorem dX9_gardens_22 : decode cX9_gardens 22 = .ok (.bipush (-2), 2) := by decide +kernel
theorem dX9_gardens_24 : decode cX9_gardens 24 = .ok (.ireturn, 1) := by decide +kernel
theorem dX9_gardens_25 : decode cX9_gardens 25 = .ok (.aload_n 0, 1) := by decide +kernel
theorem dX9_gardens_26 : decode cX9_gardens 26 = .ok (.getfield 34, 3) := by decide +kernel
theorem dX9_gardens_29 : decode cX9_gardens 29 = .ok (.iload_n 1, 1) := by decide +kernel
theorem dX9_gardens_30 : decode cX9_gardens 30 = .ok (.aaload, 1) := by decide +kernel
theorem dX9_gardens_31 : decode cX9_gardens 31 = .ok (.astore 5, 2) := by decide +kernel
theorem dX9_gardens_33 : decode cX9_gardens 33 = .ok (.aload 5, 2) := by decide +kernel
theorem dX9_gardens_35 : decode cX9_gardens 35 = .ok (.iload_n 2, 1) := by decide +kernel
theorem dX9_gardens_36 : decode cX9_gardens 36 = .ok (.invokevirtual 51, 3) := by decide +kernel
theorem dX9_gardens_39 : decode cX9_gardens 39 = .ok (.ifCond .eq 9, 3) := by decide +kernel
theorem dX9_gardens_42 : decode cX9_gardens 42 = .ok (.aload_n 0, 1) := by decide +kernel
theorem dX9_gardens_43 : decode cX9_gardens 43 = .ok (.iconst 2, 1) := by decide +kernel
theorem dX9_gardens_44 : decode cX9_gardens 44 = .ok (.invokevirtual 54, 3) := by decide +kernel
theorem dX9_gardens_47 : decode cX9_gardens 47 = .ok (.ireturn, 1) := by decide +kernel
theorem dX9_gardens_48 : decode cX9_gardens 48 = .ok (.aload 5, 2) := by decide +kernel
theorem dX9_gardens_50 : decode cX9_gardens 50 = .ok (.invokevirtual 58, 3) := by decide +kernel
theorem dX9_gardens_53 : decode cX9_gardens 53 = .ok (.ifCond .eq 9, 3) := by decide +kernel
theorem dX9_gardens_56 : decode cX9_gardens 56 = .ok (.aload_n 0, 1) := by decide +kernel
theorem dX9_gardens_57 : decode cX9_gardens 57 = .ok (.iconst 1, 1) := by decide +kernel
theorem dX9_gardens_58 : decode cX9_gardens 58 = .ok (.invokevirtual 54, 3) := by decide +kernel
theorem dX9_gardens_61 : decode cX9_gardens 61 = .ok (.ireturn, 1) := by decide +kernel
theorem dX9_gardens_62 : decode cX9_gardens 62 = .ok (.iload 4, 2) := by decide +kernel
theorem dX9_gardens_64 : decode cX9_gardens 64 = .ok (.ifCond .ge 9, 3) := by decide +kernel
theorem dX9_gardens_67 : decode cX9_gardens 67 = .ok (.aload_n 0, 1) := by decide +kernel
theorem dX9_gardens_68 : decode cX9_gardens 68 = .ok (.iconst 4, 1) := by decide +kernel
theorem dX9_gardens_69 : decode cX9_gardens 69 = .ok (.invokevirtual 54, 3) := by decide +kernel
theorem dX9_gardens_72 : decode cX9_gardens 72 = .ok (.ireturn, 1) := by decide +kernel
theorem dX9_gardens_73 : decode cX9_gardens 73 = .ok (.aload 5, 2) := by decide +kernel
theorem dX9_gardens_75 : decode cX9_gardens 75 = .ok (.iload_n 3, 1) := by decide +kernel
theorem dX9_gardens_76 : decode cX9_gardens 76 = .ok (.iload 4, 2) := by decide +kernel
theorem dX9_gardens_78 : decode cX9_gardens 78 = .ok (.invokevirtual 62, 3) := by decide +kernel
theorem dX9_gardens_81 : decode cX9_gardens 81 = .ok (.ifCond .ne 9, 3) := by decide +kernel
theorem dX9_gardens_84 : decode cX9_gardens 84 = .ok (.aload_n 0, 1) := by decide +kernel
theorem dX9_gardens_85 : decode cX9_gardens 85 = .ok (.iconst 3, 1) := by decide +kernel
theorem dX9_gardens_86 : decode cX9_gardens 86 = .ok (.invokevirtual 54, 3) := by decide +kernel
theorem dX9_gardens_89 : decode cX9_gardens 89 = .ok (.ireturn, 1) := by decide +kernel
theorem dX9_gardens_90 : decode cX9_gardens 90 = .ok (.aload 5, 2) := by decide +kernel
theorem dX9_gardens_92 : decode cX9_gardens 92 = .ok (.iload_n 3, 1) := by decide +kernel
theorem dX9_gardens_93 : decode cX9_gardens 93 = .ok (.iload 4, 2) := by decide +kernel
theorem dX9_gardens_95 : decode cX9_gardens 95 = .ok (.invokestatic 65, 3) := by decide +kernel
theorem dX9_gardens_98 : decode cX9_gardens 98 = .ok (.istore 6, 2) := by decide +kernel
theorem dX9_gardens_100 : decode cX9_gardens 100 = .ok (.iload 6, 2) := by decide +kernel
theorem dX9_gardens_102 : decode cX9_gardens 102 = .ok (.iconst (-1), 1) := by decide +kernel
theorem dX9_gardens_103 : decode cX9_gardens 103 = .ok (.if_icmp .eq 9, 3) := by decide +kernel
theorem dX9_gardens_106 : decode cX9_gardens 106 = .ok (.bipush (-100), 2) := by decide +kernel
theorem dX9_gardens_108 : decode cX9_gardens 108 = .ok (.iload 6, 2) := by decide +kernel
theorem dX9_gardens_110 : decode cX9_gardens 110 = .ok (.isub, 1) := by decide +kernel
theorem dX9_gardens_111 : decode cX9_gardens 111 = .ok (.ireturn, 1) := by decide +kernel
theorem dX9_gardens_112 : decode cX9_gardens 112 = .ok (.aload_n 0, 1) := by decide +kernel
theorem dX9_gardens_113 : decode cX9_gardens 113 = .ok (.getfield 12, 3) := by decide +kernel
theorem dX9_gardens_116 : decode cX9_gardens 116 = .ok (.aload 5, 2) := by decide +kernel
theorem dX9_gardens_118 : decode cX9_gardens 118 = .ok (.iload_n 3, 1) := by decide +kernel
theorem dX9_gardens_119 : decode cX9_gardens 119 = .ok (.iload 4, 2) := by decide +kernel
theorem dX9_gardens_121 : decode cX9_gardens 121 = .ok (.invokevirtual 71, 3) := by decide +kernel
theorem dX9_gardens_124 : decode cX9_gardens 124 = .ok (.aload_n 0, 1) := by decide +kernel
theorem dX9_gardens_125 : decode cX9_gardens 125 = .ok (.getfield 21, 3) := by decide +kernel
theorem dX9_gardens_128 : decode cX9_gardens 128 = .ok (.invokevirtual 75, 3) := by decide +kernel
theorem dX9_gardens_131 : decode cX9_gardens 131 = .ok (.aload_n 0, 1) := by decide +kernel
theorem dX9_gardens_132 : decode cX9_gardens 132 = .ok (.getfield 12, 3) := by decide +kernel
theorem dX9_gardens_135 : decode cX9_gardens 135 = .ok (.getfield 78, 3) := by decide +kernel
theorem dX9_gardens_138 : decode cX9_gardens 138 = .ok (.ireturn, 1) := by decide +kernel
theorem dX9_wants_0 : decode cX9_wants 0 = .ok (.aload_n 0, 1) := by decide +kernel
theorem dX9_wants_1 : decode cX9_wants 1 = .ok (.getfield 12, 3) := by decide +kernel
theorem dX9_wants_4 : decode cX9_wants 4 = .ok (.iload_n 1, 1) := by decide +kernel
theorem dX9_wants_5 : decode cX9_wants 5 = .ok (.invokevirtual 81, 3) := by decide +kernel
theorem dX9_wants_8 : decode cX9_wants 8 = .ok (.ifCond .eq 15, 3) := by decide +kernel
theorem dX9_wants_11 : decode cX9_wants 11 = .ok (.aload_n 0, 1) := by decide +kernel
theorem dX9_wants_12 : decode cX9_wants 12 = .ok (.getfield 12, 3) := by decide +kernel
theorem dX9_wants_15 : decode cX9_wants 15 = .ok (.getfield 84, 3) := by decide +kernel
theorem dX9_wants_18 : decode cX9_wants 18 = .ok (.iload_n 1, 1) := by decide +kernel
theorem dX9_wants_19 : decode cX9_wants 19 = .ok (.iaload, 1) := by decide +kernel
theorem dX9_wants_20 : decode cX9_wants 20 = .ok (.goto 4, 3) := by decide +kernel
theorem dX9_wants_23 : decode cX9_wants 23 = .ok (.iconst (-1), 1) := by decide +kernel
theorem dX9_wants_24 : decode cX9_wants 24 = .ok (.ireturn, 1) := by decide +kernel
theorem dX9_ofHedge_0 : decode cX9_ofHedge 0 = .ok (.aload_n 0, 1) := by decide +kernel
theorem dX9_ofHedge_1 : decode cX9_ofHedge 1 = .ok (.getfield 12, 3) := by decide +kernel
theorem dX9_ofHedge_4 : decode cX9_ofHedge 4 = .ok (.iload_n 1, 1) := by decide +kernel
theorem dX9_ofHedge_5 : decode cX9_ofHedge 5 = .ok (.invokevirtual 88, 3) := by decide +kernel
theorem dX9_ofHedge_8 : decode cX9_ofHedge 8 = .ok (.ifCond .ne 5, 3) := by decide +kernel
theorem dX9_ofHedge_11 : decode cX9_ofHedge 11 = .ok (.iconst (-1), 1) := by decide +kernel
theorem dX9_ofHedge_12 : decode cX9_ofHedge 12 = .ok (.ireturn, 1) := by decide +kernel
theorem dX9_ofHedge_13 : decode cX9_ofHedge 13 = .ok (.iload_n 2, 1) := by decide +kernel
theorem dX9_ofHedge_14 : decode cX9_ofHedge 14 = .ok (.iconst 1, 1) := by decide +kernel
theorem dX9_ofHedge_15 : decode cX9_ofHedge 15 = .ok (.invokestatic 47, 3) := by decide +kernel
theorem dX9_ofHedge_18 : decode cX9_ofHedge 18 = .ok (.ifCond .ne 6, 3) := by decide +kernel
theorem dX9_ofHedge_21 : decode cX9_ofHedge 21 = .ok (.bipush (-2), 2) := by decide +kernel
theorem dX9_ofHedge_23 : decode cX9_ofHedge 23 = .ok (.ireturn, 1) := by decide +kernel
theorem dX9_ofHedge_24 : decode cX9_ofHedge 24 = .ok (.aload_n 0, 1) := by decide +kernel
theorem dX9_ofHedge_25 : decode cX9_ofHedge 25 = .ok (.getfield 12, 3) := by decide +kernel
theorem dX9_ofHedge_28 : decode cX9_ofHedge 28 = .ok (.getfield 91, 3) := by decide +kernel
theorem dX9_ofHedge_31 : decode cX9_ofHedge 31 = .ok (.iload_n 1, 1) := by decide +kernel
theorem dX9_ofHedge_32 : decode cX9_ofHedge 32 = .ok (.aaload, 1) := by decide +kernel
theorem dX9_ofHedge_33 : decode cX9_ofHedge 33 = .ok (.getfield 95, 3) := by decide +kernel
theorem dX9_ofHedge_36 : decode cX9_ofHedge 36 = .ok (.astore_n 3, 1) := by decide +kernel
theorem dX9_ofHedge_37 : decode cX9_ofHedge 37 = .ok (.iload_n 2, 1) := by decide +kernel
theorem dX9_ofHedge_38 : decode cX9_ofHedge 38 = .ok (.ifCond .ne 10, 3) := by decide +kernel
theorem dX9_ofHedge_41 : decode cX9_ofHedge 41 = .ok (.aload_n 3, 1) := by decide +kernel
theorem dX9_ofHedge_42 : decode cX9_ofHedge 42 = .ok (.invokevirtual 101, 3) := by decide +kernel
theorem dX9_ofHedge_45 : decode cX9_ofHedge 45 = .ok (.goto 7, 3) := by decide +kernel
theorem dX9_ofHedge_48 : decode cX9_ofHedge 48 = .ok (.aload_n 3, 1) := by decide +kernel
theorem dX9_ofHedge_49 : decode cX9_ofHedge 49 = .ok (.getfield 107, 3) := by decide +kernel
theorem dX9_ofHedge_52 : decode cX9_ofHedge 52 = .ok (.ireturn, 1) := by decide +kernel
theorem dX9_say_0 : decode cX9_say 0 = .ok (.aload_n 0, 1) := by decide +kernel
theorem dX9_say_1 : decode cX9_say 1 = .ok (.getfield 12, 3) := by decide +kernel
theorem dX9_say_4 : decode cX9_say 4 = .ok (.iload_n 1, 1) := by decide +kernel
theorem dX9_say_5 : decode cX9_say 5 = .ok (.invokevirtual 81, 3) := by decide +kernel
theorem dX9_say_8 : decode cX9_say 8 = .ok (.ifCond .ne 5, 3) := by decide +kernel
theorem dX9_say_11 : decode cX9_say 11 = .ok (.iconst (-1), 1) := by decide +kernel
theorem dX9_say_12 : decode cX9_say 12 = .ok (.ireturn, 1) := by decide +kernel
theorem dX9_say_13 : decode cX9_say 13 = .ok (.iload_n 2, 1) := by decide +kernel
theorem dX9_say_14 : decode cX9_say 14 = .ok (.invokestatic 110, 3) := by decide +kernel
theorem dX9_say_17 : decode cX9_say 17 = .ok (.ifCond .eq 22, 3) := by decide +kernel
theorem dX9_say_20 : decode cX9_say 20 = .ok (.iload_n 3, 1) := by decide +kernel
theorem dX9_say_21 : decode cX9_say 21 = .ok (.invokestatic 113, 3) := by decide +kernel
theorem dX9_say_24 : decode cX9_say 24 = .ok (.ifCond .eq 15, 3) := by decide +kernel
theorem dX9_say_27 : decode cX9_say 27 = .ok (.iload 4, 2) := by decide +kernel
theorem dX9_say_29 : decode cX9_say 29 = .ok (.invokestatic 116, 3) := by decide +kernel
theorem dX9_say_32 : decode cX9_say 32 = .ok (.iconst 3, 1) := by decide +kernel
theorem dX9_say_33 : decode cX9_say 33 = .ok (.invokestatic 47, 3) := by decide +kernel
theorem dX9_say_36 : decode cX9_say 36 = .ok (.ifCond .ne 6, 3) := by decide +kernel
theorem dX9_say_39 : decode cX9_say 39 = .ok (.bipush (-2), 2) := by decide +kernel
theorem dX9_say_41 : decode cX9_say 41 = .ok (.ireturn, 1) := by decide +kernel
theorem dX9_say_42 : decode cX9_say 42 = .ok (.iload_n 1, 1) := by decide +kernel
theorem dX9_say_43 : decode cX9_say 43 = .ok (.iload_n 2, 1) := by decide +kernel
theorem dX9_say_44 : decode cX9_say 44 = .ok (.invokestatic 121, 3) := by decide +kernel
theorem dX9_say_47 : decode cX9_say 47 = .ok (.istore 5, 2) := by decide +kernel
theorem dX9_say_49 : decode cX9_say 49 = .ok (.aload_n 0, 1) := by decide +kernel
theorem dX9_say_50 : decode cX9_say 50 = .ok (.getfield 12, 3) := by decide +kernel
theorem dX9_say_53 : decode cX9_say 53 = .ok (.iload 5, 2) := by decide +kernel
theorem dX9_say_55 : decode cX9_say 55 = .ok (.invokevirtual 88, 3) := by decide +kernel
theorem dX9_say_58 : decode cX9_say 58 = .ok (.ifCond .ne 5, 3) := by decide +kernel
theorem dX9_say_61 : decode cX9_say 61 = .ok (.iconst (-1), 1) := by decide +kernel
theorem dX9_say_62 : decode cX9_say 62 = .ok (.ireturn, 1) := by decide +kernel
theorem dX9_say_63 : decode cX9_say 63 = .ok (.aload_n 0, 1) := by decide +kernel
theorem dX9_say_64 : decode cX9_say 64 = .ok (.getfield 12, 3) := by decide +kernel
theorem dX9_say_67 : decode cX9_say 67 = .ok (.getfield 91, 3) := by decide +kernel
theorem dX9_say_70 : decode cX9_say 70 = .ok (.iload 5, 2) := by decide +kernel
theorem dX9_say_72 : decode cX9_say 72 = .ok (.aaload, 1) := by decide +kernel
theorem dX9_say_73 : decode cX9_say 73 = .ok (.iload_n 2, 1) := by decide +kernel
theorem dX9_say_74 : decode cX9_say 74 = .ok (.invokestatic 125, 3) := by decide +kernel
theorem dX9_say_77 : decode cX9_say 77 = .ok (.iload_n 3, 1) := by decide +kernel
theorem dX9_say_78 : decode cX9_say 78 = .ok (.iload 4, 2) := by decide +kernel
theorem dX9_say_80 : decode cX9_say 80 = .ok (.invokevirtual 128, 3) := by decide +kernel
theorem dX9_say_83 : decode cX9_say 83 = .ok (.bipush 10, 2) := by decide +kernel
theorem dX9_say_85 : decode cX9_say 85 = .ok (.iadd, 1) := by decide +kernel
theorem dX9_say_86 : decode cX9_say 86 = .ok (.ireturn, 1) := by decide +kernel
theorem dX9_clip_0 : decode cX9_clip 0 = .ok (.aload_n 0, 1) := by decide +kernel
theorem dX9_clip_1 : decode cX9_clip 1 = .ok (.getfield 12, 3) := by decide +kernel
theorem dX9_clip_4 : decode cX9_clip 4 = .ok (.iload_n 1, 1) := by decide +kernel
theorem dX9_clip_5 : decode cX9_clip 5 = .ok (.invokevirtual 88, 3) := by decide +kernel
theorem dX9_clip_8 : decode cX9_clip 8 = .ok (.ifCond .ne 5, 3) := by decide +kernel
theorem dX9_clip_11 : decode cX9_clip 11 = .ok (.iconst (-1), 1) := by decide +kernel
theorem dX9_clip_12 : decode cX9_clip 12 = .ok (.ireturn, 1) := by decide +kernel
theorem dX9_clip_13 : decode cX9_clip 13 = .ok (.iload_n 2, 1) := by decide +kernel
theorem dX9_clip_14 : decode cX9_clip 14 = .ok (.invokestatic 113, 3) := by decide +kernel
theorem dX9_clip_17 : decode cX9_clip 17 = .ok (.ifCond .eq 16, 3) := by decide +kernel
theorem dX9_clip_20 : decode cX9_clip 20 = .ok (.iload_n 3, 1) := by decide +kernel
theorem dX9_clip_21 : decode cX9_clip 21 = .ok (.bipush (-9), 2) := by decide +kernel
theorem dX9_clip_23 : decode cX9_clip 23 = .ok (.if_icmp .eq 13, 3) := by decide +kernel
theorem dX9_clip_26 : decode cX9_clip 26 = .ok (.iload_n 3, 1) := by decide +kernel
theorem dX9_clip_27 : decode cX9_clip 27 = .ok (.invokestatic 132, 3) := by decide +kernel
theorem dX9_clip_30 : decode cX9_clip 30 = .ok (.ifCond .ne 6, 3) := by decide +kernel
theorem dX9_clip_33 : decode cX9_clip 33 = .ok (.bipush (-2), 2) := by decide +kernel
theorem dX9_clip_35 : decode cX9_clip 35 = .ok (.ireturn, 1) := by decide +kernel
theorem dX9_clip_36 : decode cX9_clip 36 = .ok (.aload_n 0, 1) := by decide +kernel
theorem dX9_clip_37 : decode cX9_clip 37 = .ok (.getfield 12, 3) := by decide +kernel
theorem dX9_clip_40 : decode cX9_clip 40 = .ok (.getfield 91, 3) := by decide +kernel
theorem dX9_clip_43 : decode cX9_clip 43 = .ok (.iload_n 1, 1) := by decide +kernel
theorem dX9_clip_44 : decode cX9_clip 44 = .ok (.aaload, 1) := by decide +kernel
theorem dX9_clip_45 : decode cX9_clip 45 = .ok (.iload_n 2, 1) := by decide +kernel
theorem dX9_clip_46 : decode cX9_clip 46 = .ok (.iload_n 3, 1) := by decide +kernel
theorem dX9_clip_47 : decode cX9_clip 47 = .ok (.invokevirtual 135, 3) := by decide +kernel
theorem dX9_clip_50 : decode cX9_clip 50 = .ok (.ireturn, 1) := by decide +kernel
theorem dX9_face_0 : decode cX9_face 0 = .ok (.aload_n 0, 1) := by decide +kernel
theorem dX9_face_1 : decode cX9_face 1 = .ok (.getfield 12, 3) := by decide +kernel
theorem dX9_face_4 : decode cX9_face 4 = .ok (.iload_n 1, 1) := by decide +kernel
theorem dX9_face_5 : decode cX9_face 5 = .ok (.invokevirtual 88, 3) := by decide +kernel
theorem dX9_face_8 : decode cX9_face 8 = .ok (.ifCond .ne 5, 3) := by decide +kernel
theorem dX9_face_11 : decode cX9_face 11 = .ok (.iconst (-1), 1) := by decide +kernel
theorem dX9_face_12 : decode cX9_face 12 = .ok (.ireturn, 1) := by decide +kernel
theorem dX9_face_13 : decode cX9_face 13 = .ok (.iload_n 2, 1) := by decide +kernel
theorem dX9_face_14 : decode cX9_face 14 = .ok (.invokestatic 110, 3) := by decide +kernel
theorem dX9_face_17 : decode cX9_face 17 = .ok (.ifCond .eq 10, 3) := by decide +kernel
theorem dX9_face_20 : decode cX9_face 20 = .ok (.iload_n 3, 1) := by decide +kernel
theorem dX9_face_21 : decode cX9_face 21 = .ok (.invokestatic 138, 3) := by decide +kernel
theorem dX9_face_24 : decode cX9_face 24 = .ok (.ifCond .ne 6, 3) := by decide +kernel
theorem dX9_face_27 : decode cX9_face 27 = .ok (.bipush (-2), 2) := by decide +kernel
theorem dX9_face_29 : decode cX9_face 29 = .ok (.ireturn, 1) := by decide +kernel
theorem dX9_face_30 : decode cX9_face 30 = .ok (.aload_n 0, 1) := by decide +kernel
theorem dX9_face_31 : decode cX9_face 31 = .ok (.getfield 12, 3) := by decide +kernel
theorem dX9_face_34 : decode cX9_face 34 = .ok (.getfield 91, 3) := by decide +kernel
theorem dX9_face_37 : decode cX9_face 37 = .ok (.iload_n 1, 1) := by decide +kernel
theorem dX9_face_38 : decode cX9_face 38 = .ok (.aaload, 1) := by decide +kernel
theorem dX9_face_39 : decode cX9_face 39 = .ok (.getfield 141, 3) := by decide +kernel
theorem dX9_face_42 : decode cX9_face 42 = .ok (.iload_n 2, 1) := by decide +kernel
theorem dX9_face_43 : decode cX9_face 43 = .ok (.aaload, 1) := by decide +kernel
theorem dX9_face_44 : decode cX9_face 44 = .ok (.iload_n 3, 1) := by decide +kernel
theorem dX9_face_45 : decode cX9_face 45 = .ok (.iaload, 1) := by decide +kernel
theorem dX9_face_46 : decode cX9_face 46 = .ok (.ireturn, 1) := by decide +kernel
theorem dX9_height_0 : decode cX9_height 0 = .ok (.aload_n 0, 1) := by decide +kernel
theorem dX9_height_1 : decode cX9_height 1 = .ok (.getfield 12, 3) := by decide +kernel
theorem dX9_height_4 : decode cX9_height 4 = .ok (.iload_n 1, 1) := by decide +kernel
theorem dX9_height_5 : decode cX9_height 5 = .ok (.invokevirtual 88, 3) := by decide +kernel
theorem dX9_height_8 : decode cX9_height 8 = .ok (.ifCond .ne 5, 3) := by decide +kernel
theorem dX9_height_11 : decode cX9_height 11 = .ok (.iconst (-1), 1) := by decide +kernel
theorem dX9_height_12 : decode cX9_height 12 = .ok (.ireturn, 1) := by decide +kernel
theorem dX9_height_13 : decode cX9_height 13 = .ok (.iload_n 2, 1) := by decide +kernel
theorem dX9_height_14 : decode cX9_height 14 = .ok (.invokestatic 138, 3) := by decide +kernel
theorem dX9_height_17 : decode cX9_height 17 = .ok (.ifCond .eq 11, 3) := by decide +kernel
theorem dX9_height_20 : decode cX9_height 20 = .ok (.iload_n 3, 1) := by decide +kernel
theorem dX9_height_21 : decode cX9_height 21 = .ok (.iconst 1, 1) := by decide +kernel
theorem dX9_height_22 : decode cX9_height 22 = .ok (.invokestatic 47, 3) := by decide +kernel
theorem dX9_height_25 : decode cX9_height 25 = .ok (.ifCond .ne 6, 3) := by decide +kernel
theorem dX9_height_28 : decode cX9_height 28 = .ok (.bipush (-2), 2) := by decide +kernel
theorem dX9_height_30 : decode cX9_height 30 = .ok (.ireturn, 1) := by decide +kernel
theorem dX9_height_31 : decode cX9_height 31 = .ok (.aload_n 0, 1) := by decide +kernel
theorem dX9_height_32 : decode cX9_height 32 = .ok (.getfield 12, 3) := by decide +kernel
theorem dX9_height_35 : decode cX9_height 35 = .ok (.getfield 91, 3) := by decide +kernel
theorem dX9_height_38 : decode cX9_height 38 = .ok (.iload_n 1, 1) := by decide +kernel
theorem dX9_height_39 : decode cX9_height 39 = .ok (.aaload, 1) := by decide +kernel
theorem dX9_height_40 : decode cX9_height 40 = .ok (.astore 4, 2) := by decide +kernel
theorem dX9_height_42 : decode cX9_height 42 = .ok (.iload_n 3, 1) := by decide +kernel
theorem dX9_height_43 : decode cX9_height 43 = .ok (.ifCond .ne 12, 3) := by decide +kernel
theorem dX9_height_46 : decode cX9_height 46 = .ok (.aload 4, 2) := by decide +kernel
theorem dX9_height_48 : decode cX9_height 48 = .ok (.iload_n 2, 1) := by decide +kernel
theorem dX9_height_49 : decode cX9_height 49 = .ok (.invokevirtual 145, 3) := by decide +kernel
theorem dX9_height_52 : decode cX9_height 52 = .ok (.goto 13, 3) := by decide +kernel
theorem dX9_height_55 : decode cX9_height 55 = .ok (.aload 4, 2) := by decide +kernel
theorem dX9_height_57 : decode cX9_height 57 = .ok (.iload_n 2, 1) := by decide +kernel
theorem dX9_height_58 : decode cX9_height 58 = .ok (.invokevirtual 148, 3) := by decide +kernel
theorem dX9_height_61 : decode cX9_height 61 = .ok (.sipush 1000, 3) := by decide +kernel
theorem dX9_height_64 : decode cX9_height 64 = .ok (.iadd, 1) := by decide +kernel
theorem dX9_height_65 : decode cX9_height 65 = .ok (.ireturn, 1) := by decide +kernel
theorem dX9_light_0 : decode cX9_light 0 = .ok (.aload_n 0, 1) := by decide +kernel
theorem dX9_light_1 : decode cX9_light 1 = .ok (.getfield 12, 3) := by decide +kernel
theorem dX9_light_4 : decode cX9_light 4 = .ok (.iload_n 1, 1) := by decide +kernel
theorem dX9_light_5 : decode cX9_light 5 = .ok (.invokevirtual 81, 3) := by decide +kernel
theorem dX9_light_8 : decode cX9_light 8 = .ok (.ifCond .ne 5, 3) := by decide +kernel
theorem dX9_light_11 : decode cX9_light 11 = .ok (.iconst (-1), 1) := by decide +kernel
theorem dX9_light_12 : decode cX9_light 12 = .ok (.ireturn, 1) := by decide +kernel
theorem dX9_light_13 : decode cX9_light 13 = .ok (.iload_n 2, 1) := by decide +kernel
theorem dX9_light_14 : decode cX9_light 14 = .ok (.invokestatic 138, 3) := by decide +kernel
theorem dX9_light_17 : decode cX9_light 17 = .ok (.ifCond .ne 6, 3) := by decide +kernel
theorem dX9_light_20 : decode cX9_light 20 = .ok (.bipush (-2), 2) := by decide +kernel
theorem dX9_light_22 : decode cX9_light 22 = .ok (.ireturn, 1) := by decide +kernel
theorem dX9_light_23 : decode cX9_light 23 = .ok (.aload_n 0, 1) := by decide +kernel
theorem dX9_light_24 : decode cX9_light 24 = .ok (.getfield 12, 3) := by decide +kernel
theorem dX9_light_27 : decode cX9_light 27 = .ok (.iload_n 1, 1) := by decide +kernel
theorem dX9_light_28 : decode cX9_light 28 = .ok (.iload_n 2, 1) := by decide +kernel
theorem dX9_light_29 : decode cX9_light 29 = .ok (.iconst (-1), 1) := by decide +kernel
theorem dX9_light_30 : decode cX9_light 30 = .ok (.iconst 0, 1) := by decide +kernel
theorem dX9_light_31 : decode cX9_light 31 = .ok (.invokevirtual 151, 3) := by decide +kernel
theorem dX9_light_34 : decode cX9_light 34 = .ok (.ireturn, 1) := by decide +kernel
theorem dX9_goats_0 : decode cX9_goats 0 = .ok (.iload_n 1, 1) := by decide +kernel
theorem dX9_goats_1 : decode cX9_goats 1 = .ok (.invokestatic 138, 3) := by decide +kernel
theorem dX9_goats_4 : decode cX9_goats 4 = .ok (.ifCond .ne 6, 3) := by decide +kernel
theorem dX9_goats_7 : decode cX9_goats 7 = .ok (.bipush (-2), 2) := by decide +kernel
theorem dX9_goats_9 : decode cX9_goats 9 = .ok (.ireturn, 1) := by decide +kernel
theorem dX9_goats_10 : decode cX9_goats 10 = .ok (.aload_n 0, 1) := by decide +kernel
theorem dX9_goats_11 : decode cX9_goats 11 = .ok (.getfield 12, 3) := by decide +kernel
theorem dX9_goats_14 : decode cX9_goats 14 = .ok (.getfield 78, 3) := by decide +kernel
theorem dX9_goats_17 : decode cX9_goats 17 = .ok (.ifCond .ne 6, 3) := by decide +kernel
theorem dX9_goats_20 : decode cX9_goats 20 = .ok (.bipush (-3), 2) := by decide +kernel
theorem dX9_goats_22 : decode cX9_goats 22 = .ok (.ireturn, 1) := by decide +kernel
theorem dX9_goats_23 : decode cX9_goats 23 = .ok (.iconst 2, 1) := by decide +kernel
theorem dX9_goats_24 : decode cX9_goats 24 = .ok (.aload_n 0, 1) := by decide +kernel
theorem dX9_goats_25 : decode cX9_goats 25 = .ok (.getfield 12, 3) := by decide +kernel
theorem dX9_goats_28 : decode cX9_goats 28 = .ok (.iload_n 1, 1) := by decide +kernel
theorem dX9_goats_29 : decode cX9_goats 29 = .ok (.iconst (-1), 1) := by decide +kernel
theorem dX9_goats_30 : decode cX9_goats 30 = .ok (.iconst 0, 1) := by decide +kernel
theorem dX9_goats_31 : decode cX9_goats 31 = .ok (.invokevirtual 155, 3) := by decide +kernel
theorem dX9_goats_34 : decode cX9_goats 34 = .ok (.ishl, 1) := by decide +kernel
theorem dX9_goats_35 : decode cX9_goats 35 = .ok (.iconst 1, 1) := by decide +kernel
theorem dX9_goats_36 : decode cX9_goats 36 = .ok (.isub, 1) := by decide +kernel
theorem dX9_goats_37 : decode cX9_goats 37 = .ok (.ireturn, 1) := by decide +kernel
theorem dX9_off_0 : decode cX9_off 0 = .ok (.aload_n 0, 1) := by decide +kernel
theorem dX9_off_1 : decode cX9_off 1 = .ok (.getfield 12, 3) := by decide +kernel
theorem dX9_off_4 : decode cX9_off 4 = .ok (.iload_n 1, 1) := by decide +kernel
theorem dX9_off_5 : decode cX9_off 5 = .ok (.invokevirtual 81, 3) := by decide +kernel
theorem dX9_off_8 : decode cX9_off 8 = .ok (.ifCond .ne 5, 3) := by decide +kernel
theorem dX9_off_11 : decode cX9_off 11 = .ok (.iconst (-1), 1) := by decide +kernel
theorem dX9_off_12 : decode cX9_off 12 = .ok (.ireturn, 1) := by decide +kernel
theorem dX9_off_13 : decode cX9_off 13 = .ok (.iload_n 2, 1) := by decide +kernel
theorem dX9_off_14 : decode cX9_off 14 = .ok (.invokestatic 138, 3) := by decide +kernel
theorem dX9_off_17 : decode cX9_off 17 = .ok (.ifCond .ne 6, 3) := by decide +kernel
theorem dX9_off_20 : decode cX9_off 20 = .ok (.bipush (-2), 2) := by decide +kernel
theorem dX9_off_22 : decode cX9_off 22 = .ok (.ireturn, 1) := by decide +kernel
theorem dX9_off_23 : decode cX9_off 23 = .ok (.aload_n 0, 1) := by decide +kernel
theorem dX9_off_24 : decode cX9_off 24 = .ok (.getfield 12, 3) := by decide +kernel
theorem dX9_off_27 : decode cX9_off 27 = .ok (.iload_n 1, 1) := by decide +kernel
theorem dX9_off_28 : decode cX9_off 28 = .ok (.iload_n 2, 1) := by decide +kernel
theorem dX9_off_29 : decode cX9_off 29 = .ok (.iconst (-1), 1) := by decide +kernel
theorem dX9_off_30 : decode cX9_off 30 = .ok (.iconst 0, 1) := by decide +kernel
theorem dX9_off_31 : decode cX9_off 31 = .ok (.invokevirtual 158, 3) := by decide +kernel
theorem dX9_off_34 : decode cX9_off 34 = .ok (.ireturn, 1) := by decide +kernel
theorem dX9_scold_0 : decode cX9_scold 0 = .ok (.iload_n 3, 1) := by decide +kernel
theorem dX9_scold_1 : decode cX9_scold 1 = .ok (.iconst (-1), 1) := by decide +kernel
theorem dX9_scold_2 : decode cX9_scold 2 = .ok (.if_icmp .eq 16, 3) := by decide +kernel
theorem dX9_scold_5 : decode cX9_scold 5 = .ok (.aload_n 0, 1) := by decide +kernel
theorem dX9_scold_6 : decode cX9_scold 6 = .ok (.getfield 12, 3) := by decide +kernel
theorem dX9_scold_9 : decode cX9_scold 9 = .ok (.iload_n 3, 1) := by decide +kernel
theorem dX9_scold_10 : decode cX9_scold 10 = .ok (.invokevirtual 88, 3) := by decide +kernel
theorem dX9_scold_13 : decode cX9_scold 13 = .ok (.ifCond .ne 5, 3) := by decide +kernel
theorem dX9_scold_16 : decode cX9_scold 16 = .ok (.iconst (-1), 1) := by decide +kernel
theorem dX9_scold_17 : decode cX9_scold 17 = .ok (.ireturn, 1) := by decide +kernel
theorem dX9_scold_18 : decode cX9_scold 18 = .ok (.iload_n 1, 1) := by decide +kernel
theorem dX9_scold_19 : decode cX9_scold 19 = .ok (.invokestatic 113, 3) := by decide +kernel
theorem dX9_scold_22 : decode cX9_scold 22 = .ok (.ifCond .eq 18, 3) := by decide +kernel
theorem dX9_scold_25 : decode cX9_scold 25 = .ok (.iload_n 2, 1) := by decide +kernel
theorem dX9_scold_26 : decode cX9_scold 26 = .ok (.invokestatic 132, 3) := by decide +kernel
theorem dX9_scold_29 : decode cX9_scold 29 = .ok (.ifCond .eq 11, 3) := by decide +kernel
theorem dX9_scold_32 : decode cX9_scold 32 = .ok (.iload 4, 2) := by decide +kernel
theorem dX9_scold_34 : decode cX9_scold 34 = .ok (.invokestatic 110, 3) := by decide +kernel
theorem dX9_scold_37 : decode cX9_scold 37 = .ok (.ifCond .ne 6, 3) := by decide +kernel
theorem dX9_scold_40 : decode cX9_scold 40 = .ok (.bipush (-2), 2) := by decide +kernel
theorem dX9_scold_42 : decode cX9_scold 42 = .ok (.ireturn, 1) := by decide +kernel
theorem dX9_scold_43 : decode cX9_scold 43 = .ok (.aload_n 0, 1) := by decide +kernel
theorem dX9_scold_44 : decode cX9_scold 44 = .ok (.getfield 12, 3) := by decide +kernel
theorem dX9_scold_47 : decode cX9_scold 47 = .ok (.getfield 78, 3) := by decide +kernel
theorem dX9_scold_50 : decode cX9_scold 50 = .ok (.ifCond .ne 6, 3) := by decide +kernel
theorem dX9_scold_53 : decode cX9_scold 53 = .ok (.bipush (-3), 2) := by decide +kernel
theorem dX9_scold_55 : decode cX9_scold 55 = .ok (.ireturn, 1) := by decide +kernel
theorem dX9_scold_56 : decode cX9_scold 56 = .ok (.iload_n 3, 1) := by decide +kernel
theorem dX9_scold_57 : decode cX9_scold 57 = .ok (.iconst (-1), 1) := by decide +kernel
theorem dX9_scold_58 : decode cX9_scold 58 = .ok (.if_icmp .ne 13, 3) := by decide +kernel
theorem dX9_scold_61 : decode cX9_scold 61 = .ok (.aload_n 0, 1) := by decide +kernel
theorem dX9_scold_62 : decode cX9_scold 62 = .ok (.getfield 12, 3) := by decide +kernel
theorem dX9_scold_65 : decode cX9_scold 65 = .ok (.iload_n 1, 1) := by decide +kernel
theorem dX9_scold_66 : decode cX9_scold 66 = .ok (.iload_n 2, 1) := by decide +kernel
theorem dX9_scold_67 : decode cX9_scold 67 = .ok (.invokevirtual 161, 3) := by decide +kernel
theorem dX9_scold_70 : decode cX9_scold 70 = .ok (.ireturn, 1) := by decide +kernel
theorem dX9_scold_71 : decode cX9_scold 71 = .ok (.aload_n 0, 1) := by decide +kernel
theorem dX9_scold_72 : decode cX9_scold 72 = .ok (.getfield 12, 3) := by decide +kernel
theorem dX9_scold_75 : decode cX9_scold 75 = .ok (.getfield 91, 3) := by decide +kernel
theorem dX9_scold_78 : decode cX9_scold 78 = .ok (.iload_n 3, 1) := by decide +kernel
theorem dX9_scold_79 : decode cX9_scold 79 = .ok (.aaload, 1) := by decide +kernel
theorem dX9_scold_80 : decode cX9_scold 80 = .ok (.iload 4, 2) := by decide +kernel
theorem dX9_scold_82 : decode cX9_scold 82 = .ok (.iload_n 1, 1) := by decide +kernel
theorem dX9_scold_83 : decode cX9_scold 83 = .ok (.iload_n 2, 1) := by decide +kernel
theorem dX9_scold_84 : decode cX9_scold 84 = .ok (.invokevirtual 164, 3) := by decide +kernel
theorem dX9_scold_87 : decode cX9_scold 87 = .ok (.istore 5, 2) := by decide +kernel
theorem dX9_scold_89 : decode cX9_scold 89 = .ok (.iload 5, 2) := by decide +kernel
theorem dX9_scold_91 : decode cX9_scold 91 = .ok (.bipush (-9), 2) := by decide +kernel
theorem dX9_scold_93 : decode cX9_scold 93 = .ok (.if_icmp .ne 8, 3) := by decide +kernel
theorem dX9_scold_96 : decode cX9_scold 96 = .ok (.bipush (-9), 2) := by decide +kernel
theorem dX9_scold_98 : decode cX9_scold 98 = .ok (.goto 8, 3) := by decide +kernel
theorem dX9_scold_101 : decode cX9_scold 101 = .ok (.iload 5, 2) := by decide +kernel
theorem dX9_scold_103 : decode cX9_scold 103 = .ok (.bipush 10, 2) := by decide +kernel
theorem dX9_scold_105 : decode cX9_scold 105 = .ok (.iadd, 1) := by decide +kernel
theorem dX9_scold_106 : decode cX9_scold 106 = .ok (.ireturn, 1) := by decide +kernel
theorem dX9_reading_0 : decode cX9_reading 0 = .ok (.aload_n 0, 1) := by decide +kernel
theorem dX9_reading_1 : decode cX9_reading 1 = .ok (.getfield 12, 3) := by decide +kernel
theorem dX9_reading_4 : decode cX9_reading 4 = .ok (.iload_n 1, 1) := by decide +kernel
theorem dX9_reading_5 : decode cX9_reading 5 = .ok (.invokevirtual 88, 3) := by decide +kernel
theorem dX9_reading_8 : decode cX9_reading 8 = .ok (.ifCond .ne 5, 3) := by decide +kernel
theorem dX9_reading_11 : decode cX9_reading 11 = .ok (.iconst (-1), 1) := by decide +kernel
theorem dX9_reading_12 : decode cX9_reading 12 = .ok (.ireturn, 1) := by decide +kernel
theorem dX9_reading_13 : decode cX9_reading 13 = .ok (.iload_n 2, 1) := by decide +kernel
theorem dX9_reading_14 : decode cX9_reading 14 = .ok (.invokestatic 110, 3) := by decide +kernel
theorem dX9_reading_17 : decode cX9_reading 17 = .ok (.ifCond .eq 21, 3) := by decide +kernel
theorem dX9_reading_20 : decode cX9_reading 20 = .ok (.iload_n 3, 1) := by decide +kernel
theorem dX9_reading_21 : decode cX9_reading 21 = .ok (.invokestatic 138, 3) := by decide +kernel
theorem dX9_reading_24 : decode cX9_reading 24 = .ok (.ifCond .eq 14, 3) := by decide +kernel
theorem dX9_reading_27 : decode cX9_reading 27 = .ok (.iload 4, 2) := by decide +kernel
theorem dX9_reading_29 : decode cX9_reading 29 = .ok (.sipush 240, 3) := by decide +kernel
theorem dX9_reading_32 : decode cX9_reading 32 = .ok (.invokestatic 47, 3) := by decide +kernel
theorem dX9_reading_35 : decode cX9_reading 35 = .ok (.ifCond .ne 6, 3) := by decide +kernel
theorem dX9_reading_38 : decode cX9_reading 38 = .ok (.bipush (-2), 2) := by decide +kernel
theorem dX9_reading_40 : decode cX9_reading 40 = .ok (.ireturn, 1) := by decide +kernel
theorem dX9_reading_41 : decode cX9_reading 41 = .ok (.aload_n 0, 1) := by decide +kernel
theorem dX9_reading_42 : decode cX9_reading 42 = .ok (.getfield 21, 3) := by decide +kernel
theorem dX9_reading_45 : decode cX9_reading 45 = .ok (.getfield 167, 3) := by decide +kernel
theorem dX9_reading_48 : decode cX9_reading 48 = .ok (.bipush 10, 2) := by decide +kernel
theorem dX9_reading_50 : decode cX9_reading 50 = .ok (.if_icmp .lt 8, 3) := by decide +kernel
theorem dX9_reading_53 : decode cX9_reading 53 = .ok (.bipush (-4), 2) := by decide +kernel
theorem dX9_reading_55 : decode cX9_reading 55 = .ok (.goto 15, 3) := by decide +kernel
theorem dX9_reading_58 : decode cX9_reading 58 = .ok (.aload_n 0, 1) := by decide +kernel
theorem dX9_reading_59 : decode cX9_reading 59 = .ok (.getfield 21, 3) := by decide +kernel
theorem dX9_reading_62 : decode cX9_reading 62 = .ok (.iload_n 1, 1) := by decide +kernel
theorem dX9_reading_63 : decode cX9_reading 63 = .ok (.iload_n 2, 1) := by decide +kernel
theorem dX9_reading_64 : decode cX9_reading 64 = .ok (.iload_n 3, 1) := by decide +kernel
theorem dX9_reading_65 : decode cX9_reading 65 = .ok (.iload 4, 2) := by decide +kernel
theorem dX9_reading_67 : decode cX9_reading 67 = .ok (.invokevirtual 168, 3) := by decide +kernel
theorem dX9_reading_70 : decode cX9_reading 70 = .ok (.ireturn, 1) := by decide +kernel
theorem dX9_back_0 : decode cX9_back 0 = .ok (.iload_n 1, 1) := by decide +kernel
theorem dX9_back_1 : decode cX9_back 1 = .ok (.aload_n 0, 1) := by decide +kernel
theorem dX9_back_2 : decode cX9_back 2 = .ok (.getfield 21, 3) := by decide +kernel
theorem dX9_back_5 : decode cX9_back 5 = .ok (.getfield 167, 3) := by decide +kernel
theorem dX9_back_8 : decode cX9_back 8 = .ok (.invokestatic 47, 3) := by decide +kernel
theorem dX9_back_11 : decode cX9_back 11 = .ok (.ifCond .ne 6, 3) := by decide +kernel
theorem dX9_back_14 : decode cX9_back 14 = .ok (.bipush (-2), 2) := by decide +kernel
theorem dX9_back_16 : decode cX9_back 16 = .ok (.ireturn, 1) := by decide +kernel
theorem dX9_back_17 : decode cX9_back 17 = .ok (.aload_n 0, 1) := by decide +kernel
theorem dX9_back_18 : decode cX9_back 18 = .ok (.getfield 21, 3) := by decide +kernel
theorem dX9_back_21 : decode cX9_back 21 = .ok (.dup, 1) := by decide +kernel
theorem dX9_back_22 : decode cX9_back 22 = .ok (.getfield 167, 3) := by decide +kernel
theorem dX9_back_25 : decode cX9_back 25 = .ok (.iload_n 1, 1) := by decide +kernel
theorem dX9_back_26 : decode cX9_back 26 = .ok (.isub, 1) := by decide +kernel
theorem dX9_back_27 : decode cX9_back 27 = .ok (.putfield 167, 3) := by decide +kernel
theorem dX9_back_30 : decode cX9_back 30 = .ok (.aload_n 0, 1) := by decide +kernel
theorem dX9_back_31 : decode cX9_back 31 = .ok (.getfield 21, 3) := by decide +kernel
theorem dX9_back_34 : decode cX9_back 34 = .ok (.getfield 167, 3) := by decide +kernel
theorem dX9_back_37 : decode cX9_back 37 = .ok (.ireturn, 1) := by decide +kernel
theorem dX9_said_0 : decode cX9_said 0 = .ok (.aload_n 0, 1) := by decide +kernel
theorem dX9_said_1 : decode cX9_said 1 = .ok (.getfield 12, 3) := by decide +kernel
theorem dX9_said_4 : decode cX9_said 4 = .ok (.iload_n 1, 1) := by decide +kernel
theorem dX9_said_5 : decode cX9_said 5 = .ok (.invokevirtual 81, 3) := by decide +kernel
theorem dX9_said_8 : decode cX9_said 8 = .ok (.ifCond .ne 5, 3) := by decide +kernel
theorem dX9_said_11 : decode cX9_said 11 = .ok (.iconst (-1), 1) := by decide +kernel
theorem dX9_said_12 : decode cX9_said 12 = .ok (.ireturn, 1) := by decide +kernel
theorem dX9_said_13 : decode cX9_said 13 = .ok (.iload_n 2, 1) := by decide +kernel
theorem dX9_said_14 : decode cX9_said 14 = .ok (.invokestatic 110, 3) := by decide +kernel
theorem dX9_said_17 : decode cX9_said 17 = .ok (.ifCond .eq 10, 3) := by decide +kernel
theorem dX9_said_20 : decode cX9_said 20 = .ok (.iload_n 3, 1) := by decide +kernel
theorem dX9_said_21 : decode cX9_said 21 = .ok (.invokestatic 113, 3) := by decide +kernel
theorem dX9_said_24 : decode cX9_said 24 = .ok (.ifCond .ne 6, 3) := by decide +kernel
theorem dX9_said_27 : decode cX9_said 27 = .ok (.bipush (-2), 2) := by decide +kernel
theorem dX9_said_29 : decode cX9_said 29 = .ok (.ireturn, 1) := by decide +kernel
theorem dX9_said_30 : decode cX9_said 30 = .ok (.iload_n 1, 1) := by decide +kernel
theorem dX9_said_31 : decode cX9_said 31 = .ok (.iload_n 2, 1) := by decide +kernel
theorem dX9_said_32 : decode cX9_said 32 = .ok (.invokestatic 121, 3) := by decide +kernel
theorem dX9_said_35 : decode cX9_said 35 = .ok (.istore 4, 2) := by decide +kernel
theorem dX9_said_37 : decode cX9_said 37 = .ok (.aload_n 0, 1) := by decide +kernel
theorem dX9_said_38 : decode cX9_said 38 = .ok (.getfield 12, 3) := by decide +kernel
theorem dX9_said_41 : decode cX9_said 41 = .ok (.iload 4, 2) := by decide +kernel
theorem dX9_said_43 : decode cX9_said 43 = .ok (.invokevirtual 88, 3) := by decide +kernel
theorem dX9_said_46 : decode cX9_said 46 = .ok (.ifCond .ne 5, 3) := by decide +kernel
theorem dX9_said_49 : decode cX9_said 49 = .ok (.iconst (-1), 1) := by decide +kernel
theorem dX9_said_50 : decode cX9_said 50 = .ok (.ireturn, 1) := by decide +kernel
theorem dX9_said_51 : decode cX9_said 51 = .ok (.iconst 0, 1) := by decide +kernel
theorem dX9_said_52 : decode cX9_said 52 = .ok (.istore 5, 2) := by decide +kernel
theorem dX9_said_54 : decode cX9_said 54 = .ok (.bipush (-3), 2) := by decide +kernel
theorem dX9_said_56 : decode cX9_said 56 = .ok (.istore 6, 2) := by decide +kernel
theorem dX9_said_58 : decode cX9_said 58 = .ok (.iload 6, 2) := by decide +kernel
theorem dX9_said_60 : decode cX9_said 60 = .ok (.iconst 3, 1) := by decide +kernel
theorem dX9_said_61 : decode cX9_said 61 = .ok (.if_icmp .gt 43, 3) := by decide +kernel
theorem dX9_said_64 : decode cX9_said 64 = .ok (.aload_n 0, 1) := by decide +kernel
theorem dX9_said_65 : decode cX9_said 65 = .ok (.getfield 21, 3) := by decide +kernel
theorem dX9_said_68 : decode cX9_said 68 = .ok (.aload_n 0, 1) := by decide +kernel
theorem dX9_said_69 : decode cX9_said 69 = .ok (.getfield 12, 3) := by decide +kernel
theorem dX9_said_72 : decode cX9_said 72 = .ok (.iload 4, 2) := by decide +kernel
theorem dX9_said_74 : decode cX9_said 74 = .ok (.iload_n 2, 1) := by decide +kernel
theorem dX9_said_75 : decode cX9_said 75 = .ok (.invokestatic 125, 3) := by decide +kernel
theorem dX9_said_78 : decode cX9_said 78 = .ok (.iload_n 3, 1) := by decide +kernel
theorem dX9_said_79 : decode cX9_said 79 = .ok (.iload 6, 2) := by decide +kernel
theorem dX9_said_81 : decode cX9_said 81 = .ok (.invokevirtual 171, 3) := by decide +kernel
theorem dX9_said_84 : decode cX9_said 84 = .ok (.ifCond .eq 14, 3) := by decide +kernel
theorem dX9_said_87 : decode cX9_said 87 = .ok (.iload 5, 2) := by decide +kernel
theorem dX9_said_89 : decode cX9_said 89 = .ok (.iconst 1, 1) := by decide +kernel
theorem dX9_said_90 : decode cX9_said 90 = .ok (.iload 6, 2) := by decide +kernel
theorem dX9_said_92 : decode cX9_said 92 = .ok (.iconst 3, 1) := by decide +kernel
theorem dX9_said_93 : decode cX9_said 93 = .ok (.iadd, 1) := by decide +kernel
theorem dX9_said_94 : decode cX9_said 94 = .ok (.ishl, 1) := by decide +kernel
theorem dX9_said_95 : decode cX9_said 95 = .ok (.ior, 1) := by decide +kernel
theorem dX9_said_96 : decode cX9_said 96 = .ok (.istore 5, 2) := by decide +kernel
theorem dX9_said_98 : decode cX9_said 98 = .ok (.iinc 6 1, 3) := by decide +kernel
theorem dX9_said_101 : decode cX9_said 101 = .ok (.goto (-43), 3) := by decide +kernel
theorem dX9_said_104 : decode cX9_said 104 = .ok (.iload 5, 2) := by decide +kernel
theorem dX9_said_106 : decode cX9_said 106 = .ok (.ireturn, 1) := by decide +kernel
theorem dX9_quarrel_0 : decode cX9_quarrel 0 = .ok (.aload_n 0, 1) := by decide +kernel
theorem dX9_quarrel_1 : decode cX9_quarrel 1 = .ok (.getfield 12, 3) := by decide +kernel
theorem dX9_quarrel_4 : decode cX9_quarrel 4 = .ok (.iload_n 1, 1) := by decide +kernel
theorem dX9_quarrel_5 : decode cX9_quarrel 5 = .ok (.invokevirtual 88, 3) := by decide +kernel
theorem dX9_quarrel_8 : decode cX9_quarrel 8 = .ok (.ifCond .ne 5, 3) := by decide +kernel
theorem dX9_quarrel_11 : decode cX9_quarrel 11 = .ok (.iconst (-1), 1) := by decide +kernel
theorem dX9_quarrel_12 : decode cX9_quarrel 12 = .ok (.ireturn, 1) := by decide +kernel
theorem dX9_quarrel_13 : decode cX9_quarrel 13 = .ok (.iload_n 2, 1) := by decide +kernel
theorem dX9_quarrel_14 : decode cX9_quarrel 14 = .ok (.invokestatic 113, 3) := by decide +kernel
theorem dX9_quarrel_17 : decode cX9_quarrel 17 = .ok (.ifCond .eq 23, 3) := by decide +kernel
theorem dX9_quarrel_20 : decode cX9_quarrel 20 = .ok (.iload_n 3, 1) := by decide +kernel
theorem dX9_quarrel_21 : decode cX9_quarrel 21 = .ok (.invokestatic 113, 3) := by decide +kernel
theorem dX9_quarrel_24 : decode cX9_quarrel 24 = .ok (.ifCond .eq 16, 3) := by decide +kernel
theorem dX9_quarrel_27 : decode cX9_quarrel 27 = .ok (.iload_n 3, 1) := by decide +kernel
theorem dX9_quarrel_28 : decode cX9_quarrel 28 = .ok (.iload_n 2, 1) := by decide +kernel
theorem dX9_quarrel_29 : decode cX9_quarrel 29 = .ok (.if_icmp .lt 11, 3) := by decide +kernel
theorem dX9_quarrel_32 : decode cX9_quarrel 32 = .ok (.iload 4, 2) := by decide +kernel
theorem dX9_quarrel_34 : decode cX9_quarrel 34 = .ok (.invokestatic 110, 3) := by decide +kernel
theorem dX9_quarrel_37 : decode cX9_quarrel 37 = .ok (.ifCond .ne 6, 3) := by decide +kernel
theorem dX9_quarrel_40 : decode cX9_quarrel 40 = .ok (.bipush (-2), 2) := by decide +kernel
theorem dX9_quarrel_42 : decode cX9_quarrel 42 = .ok (.ireturn, 1) := by decide +kernel
theorem dX9_quarrel_43 : decode cX9_quarrel 43 = .ok (.aload_n 0, 1) := by decide +kernel
theorem dX9_quarrel_44 : decode cX9_quarrel 44 = .ok (.getfield 12, 3) := by decide +kernel
theorem dX9_quarrel_47 : decode cX9_quarrel 47 = .ok (.iload_n 1, 1) := by decide +kernel
theorem dX9_quarrel_48 : decode cX9_quarrel 48 = .ok (.iload_n 2, 1) := by decide +kernel
theorem dX9_quarrel_49 : decode cX9_quarrel 49 = .ok (.iload_n 3, 1) := by decide +kernel
theorem dX9_quarrel_50 : decode cX9_quarrel 50 = .ok (.iload 4, 2) := by decide +kernel
theorem dX9_quarrel_52 : decode cX9_quarrel 52 = .ok (.invokevirtual 175, 3) := by decide +kernel
theorem dX9_quarrel_55 : decode cX9_quarrel 55 = .ok (.bipush 10, 2) := by decide +kernel
theorem dX9_quarrel_57 : decode cX9_quarrel 57 = .ok (.iadd, 1) := by decide +kernel
theorem dX9_quarrel_58 : decode cX9_quarrel 58 = .ok (.ireturn, 1) := by decide +kernel
theorem dX9_peace_0 : decode cX9_peace 0 = .ok (.iload_n 1, 1) := by decide +kernel
theorem dX9_peace_1 : decode cX9_peace 1 = .ok (.invokestatic 113, 3) := by decide +kernel
theorem dX9_peace_4 : decode cX9_peace 4 = .ok (.ifCond .ne 6, 3) := by decide +kernel
theorem dX9_peace_7 : decode cX9_peace 7 = .ok (.bipush (-2), 2) := by decide +kernel
theorem dX9_peace_9 : decode cX9_peace 9 = .ok (.ireturn, 1) := by decide +kernel
theorem dX9_peace_10 : decode cX9_peace 10 = .ok (.aload_n 0, 1) := by decide +kernel
theorem dX9_peace_11 : decode cX9_peace 11 = .ok (.getfield 12, 3) := by decide +kernel
theorem dX9_peace_14 : decode cX9_peace 14 = .ok (.getfield 78, 3) := by decide +kernel
theorem dX9_peace_17 : decode cX9_peace 17 = .ok (.ifCond .ne 6, 3) := by decide +kernel
theorem dX9_peace_20 : decode cX9_peace 20 = .ok (.bipush (-3), 2) := by decide +kernel
theorem dX9_peace_22 : decode cX9_peace 22 = .ok (.ireturn, 1) := by decide +kernel
theorem dX9_peace_23 : decode cX9_peace 23 = .ok (.iconst 0, 1) := by decide +kernel
theorem dX9_peace_24 : decode cX9_peace 24 = .ok (.istore_n 2, 1) := by decide +kernel
theorem dX9_peace_25 : decode cX9_peace 25 = .ok (.iconst 0, 1) := by decide +kernel
theorem dX9_peace_26 : decode cX9_peace 26 = .ok (.istore_n 3, 1) := by decide +kernel
theorem dX9_peace_27 : decode cX9_peace 27 = .ok (.iload_n 3, 1) := by decide +kernel
theorem dX9_peace_28 : decode cX9_peace 28 = .ok (.aload_n 0, 1) := by decide +kernel
theorem dX9_peace_29 : decode cX9_peace 29 = .ok (.getfield 12, 3) := by decide +kernel
theorem dX9_peace_32 : decode cX9_peace 32 = .ok (.getfield 78, 3) := by decide +kernel
theorem dX9_peace_35 : decode cX9_peace 35 = .ok (.if_icmp .ge 41, 3) := by decide +kernel
theorem dX9_peace_38 : decode cX9_peace 38 = .ok (.aload_n 0, 1) := by decide +kernel
theorem dX9_peace_39 : decode cX9_peace 39 = .ok (.getfield 12, 3) := by decide +kernel
theorem dX9_peace_42 : decode cX9_peace 42 = .ok (.iload_n 3, 1) := by decide +kernel
theorem dX9_peace_43 : decode cX9_peace 43 = .ok (.iconst 0, 1) := by decide +kernel
theorem dX9_peace_44 : decode cX9_peace 44 = .ok (.iload_n 1, 1) := by decide +kernel
theorem dX9_peace_45 : decode cX9_peace 45 = .ok (.invokevirtual 178, 3) := by decide +kernel
theorem dX9_peace_48 : decode cX9_peace 48 = .ok (.ifCond .ne 16, 3) := by decide +kernel
theorem dX9_peace_51 : decode cX9_peace 51 = .ok (.aload_n 0, 1) := by decide +kernel
theorem dX9_peace_52 : decode cX9_peace 52 = .ok (.getfield 12, 3) := by decide +kernel
theorem dX9_peace_55 : decode cX9_peace 55 = .ok (.iload_n 3, 1) := by decide +kernel
theorem dX9_peace_56 : decode cX9_peace 56 = .ok (.iconst 1, 1) := by decide +kernel
theorem dX9_peace_57 : decode cX9_peace 57 = .ok (.iload_n 1, 1) := by decide +kernel
theorem dX9_peace_58 : decode cX9_peace 58 = .ok (.invokevirtual 178, 3) := by decide +kernel
theorem dX9_peace_61 : decode cX9_peace 61 = .ok (.ifCond .eq 9, 3) := by decide +kernel
theorem dX9_peace_64 : decode cX9_peace 64 = .ok (.iload_n 2, 1) := by decide +kernel
theorem dX9_peace_65 : decode cX9_peace 65 = .ok (.iconst 1, 1) := by decide +kernel
theorem dX9_peace_66 : decode cX9_peace 66 = .ok (.iload_n 3, 1) := by decide +kernel
theorem dX9_peace_67 : decode cX9_peace 67 = .ok (.ishl, 1) := by decide +kernel
theorem dX9_peace_68 : decode cX9_peace 68 = .ok (.ior, 1) := by decide +kernel
theorem dX9_peace_69 : decode cX9_peace 69 = .ok (.istore_n 2, 1) := by decide +kernel
theorem dX9_peace_70 : decode cX9_peace 70 = .ok (.iinc 3 1, 3) := by decide +kernel
theorem dX9_peace_73 : decode cX9_peace 73 = .ok (.goto (-46), 3) := by decide +kernel
theorem dX9_peace_76 : decode cX9_peace 76 = .ok (.iload_n 2, 1) := by decide +kernel
theorem dX9_peace_77 : decode cX9_peace 77 = .ok (.ireturn, 1) := by decide +kernel
theorem dX9_round_0 : decode cX9_round 0 = .ok (.iload_n 1, 1) := by decide +kernel
theorem dX9_round_1 : decode cX9_round 1 = .ok (.invokestatic 138, 3) := by decide +kernel
theorem dX9_round_4 : decode cX9_round 4 = .ok (.ifCond .eq 10, 3) := by decide +kernel
theorem dX9_round_7 : decode cX9_round 7 = .ok (.iload_n 2, 1) := by decide +kernel
theorem dX9_round_8 : decode cX9_round 8 = .ok (.invokestatic 132, 3) := by decide +kernel
theorem dX9_round_11 : decode cX9_round 11 = .ok (.ifCond .ne 6, 3) := by decide +kernel
theorem dX9_round_14 : decode cX9_round 14 = .ok (.bipush (-2), 2) := by decide +kernel
theorem dX9_round_16 : decode cX9_round 16 = .ok (.ireturn, 1) := by decide +kernel
theorem dX9_round_17 : decode cX9_round 17 = .ok (.aload_n 0, 1) := by decide +kernel
theorem dX9_round_18 : decode cX9_round 18 = .ok (.getfield 12, 3) := by decide +kernel
theorem dX9_round_21 : decode cX9_round 21 = .ok (.getfield 78, 3) := by decide +kernel
theorem dX9_round_24 : decode cX9_round 24 = .ok (.ifCond .ne 6, 3) := by decide +kernel
theorem dX9_round_27 : decode cX9_round 27 = .ok (.bipush (-3), 2) := by decide +kernel
theorem dX9_round_29 : decode cX9_round 29 = .ok (.ireturn, 1) := by decide +kernel
theorem dX9_round_30 : decode cX9_round 30 = .ok (.aload_n 0, 1) := by decide +kernel
theorem dX9_round_31 : decode cX9_round 31 = .ok (.getfield 12, 3) := by decide +kernel
theorem dX9_round_34 : decode cX9_round 34 = .ok (.iload_n 1, 1) := by decide +kernel
theorem dX9_round_35 : decode cX9_round 35 = .ok (.iload_n 2, 1) := by decide +kernel
theorem dX9_round_36 : decode cX9_round 36 = .ok (.invokevirtual 182, 3) := by decide +kernel
theorem dX9_round_39 : decode cX9_round 39 = .ok (.ireturn, 1) := by decide +kernel
theorem dX9_fines_0 : decode cX9_fines 0 = .ok (.iload_n 1, 1) := by decide +kernel
theorem dX9_fines_1 : decode cX9_fines 1 = .ok (.iconst (-1), 1) := by decide +kernel
theorem dX9_fines_2 : decode cX9_fines 2 = .ok (.if_icmp .eq 16, 3) := by decide +kernel
theorem dX9_fines_5 : decode cX9_fines 5 = .ok (.aload_n 0, 1) := by decide +kernel
theorem dX9_fines_6 : decode cX9_fines 6 = .ok (.getfield 12, 3) := by decide +kernel
theorem dX9_fines_9 : decode cX9_fines 9 = .ok (.iload_n 1, 1) := by decide +kernel
theorem dX9_fines_10 : decode cX9_fines 10 = .ok (.invokevirtual 81, 3) := by decide +kernel
theorem dX9_fines_13 : decode cX9_fines 13 = .ok (.ifCond .ne 5, 3) := by decide +kernel
theorem dX9_fines_16 : decode cX9_fines 16 = .ok (.iconst (-1), 1) := by decide +kernel
theorem dX9_fines_17 : decode cX9_fines 17 = .ok (.ireturn, 1) := by decide +kernel
theorem dX9_fines_18 : decode cX9_fines 18 = .ok (.iload_n 2, 1) := by decide +kernel
theorem dX9_fines_19 : decode cX9_fines 19 = .ok (.invokestatic 132, 3) := by decide +kernel
theorem dX9_fines_22 : decode cX9_fines 22 = .ok (.ifCond .ne 6, 3) := by decide +kernel
theorem dX9_fines_25 : decode cX9_fines 25 = .ok (.bipush (-2), 2) := by decide +kernel
theorem dX9_fines_27 : decode cX9_fines 27 = .ok (.ireturn, 1) := by decide +kernel
theorem dX9_fines_28 : decode cX9_fines 28 = .ok (.iload_n 1, 1) := by decide +kernel
theorem dX9_fines_29 : decode cX9_fines 29 = .ok (.iconst (-1), 1) := by decide +kernel
theorem dX9_fines_30 : decode cX9_fines 30 = .ok (.if_icmp .eq 13, 3) := by decide +kernel
theorem dX9_fines_33 : decode cX9_fines 33 = .ok (.aload_n 0, 1) := by decide +kernel
theorem dX9_fines_34 : decode cX9_fines 34 = .ok (.getfield 12, 3) := by decide +kernel
theorem dX9_fines_37 : decode cX9_fines 37 = .ok (.iload_n 1, 1) := by decide +kernel
theorem dX9_fines_38 : decode cX9_fines 38 = .ok (.iload_n 2, 1) := by decide +kernel
theorem dX9_fines_39 : decode cX9_fines 39 = .ok (.invokevirtual 185, 3) := by decide +kernel
theorem dX9_fines_42 : decode cX9_fines 42 = .ok (.ireturn, 1) := by decide +kernel
theorem dX9_fines_43 : decode cX9_fines 43 = .ok (.iconst 0, 1) := by decide +kernel
theorem dX9_fines_44 : decode cX9_fines 44 = .ok (.istore_n 3, 1) := by decide +kernel
theorem dX9_fines_45 : decode cX9_fines 45 = .ok (.iconst 0, 1) := by decide +kernel
theorem dX9_fines_46 : decode cX9_fines 46 = .ok (.istore 4, 2) := by decide +kernel
theorem dX9_fines_48 : decode cX9_fines 48 = .ok (.iload 4, 2) := by decide +kernel
theorem dX9_fines_50 : decode cX9_fines 50 = .ok (.aload_n 0, 1) := by decide +kernel
theorem dX9_fines_51 : decode cX9_fines 51 = .ok (.getfield 12, 3) := by decide +kernel
theorem dX9_fines_54 : decode cX9_fines 54 = .ok (.getfield 78, 3) := by decide +kernel
theorem dX9_fines_57 : decode cX9_fines 57 = .ok (.if_icmp .ge 22, 3) := by decide +kernel
theorem dX9_fines_60 : decode cX9_fines 60 = .ok (.iload_n 3, 1) := by decide +kernel
theorem dX9_fines_61 : decode cX9_fines 61 = .ok (.aload_n 0, 1) := by decide +kernel
theorem dX9_fines_62 : decode cX9_fines 62 = .ok (.getfield 12, 3) := by decide +kernel
theorem dX9_fines_65 : decode cX9_fines 65 = .ok (.iload 4, 2) := by decide +kernel
theorem dX9_fines_67 : decode cX9_fines 67 = .ok (.iload_n 2, 1) := by decide +kernel
theorem dX9_fines_68 : decode cX9_fines 68 = .ok (.invokevirtual 185, 3) := by decide +kernel
theorem dX9_fines_71 : decode cX9_fines 71 = .ok (.iadd, 1) := by decide +kernel
theorem dX9_fines_72 : decode cX9_fines 72 = .ok (.istore_n 3, 1) := by decide +kernel
theorem dX9_fines_73 : decode cX9_fines 73 = .ok (.iinc 4 1, 3) := by decide +kernel
theorem dX9_fines_76 : decode cX9_fines 76 = .ok (.goto (-28), 3) := by decide +kernel
theorem dX9_fines_79 : decode cX9_fines 79 = .ok (.iload_n 3, 1) := by decide +kernel
theorem dX9_fines_80 : decode cX9_fines 80 = .ok (.ireturn, 1) := by decide +kernel
theorem dX9_mean_0 : decode cX9_mean 0 = .ok (.iload_n 1, 1) := by decide +kernel
theorem dX9_mean_1 : decode cX9_mean 1 = .ok (.invokestatic 138, 3) := by decide +kernel
theorem dX9_mean_4 : decode cX9_mean 4 = .ok (.ifCond .eq 21, 3) := by decide +kernel
theorem dX9_mean_7 : decode cX9_mean 7 = .ok (.iload_n 2, 1) := by decide +kernel
theorem dX9_mean_8 : decode cX9_mean 8 = .ok (.iconst 1, 1) := by decide +kernel
theorem dX9_mean_9 : decode cX9_mean 9 = .ok (.invokestatic 47, 3) := by decide +kernel
theorem dX9_mean_12 : decode cX9_mean 12 = .ok (.ifCond .eq 13, 3) := by decide +kernel
theorem dX9_mean_15 : decode cX9_mean 15 = .ok (.aload_n 0, 1) := by decide +kernel
theorem dX9_mean_16 : decode cX9_mean 16 = .ok (.getfield 12, 3) := by decide +kernel
theorem dX9_mean_19 : decode cX9_mean 19 = .ok (.getfield 78, 3) := by decide +kernel
theorem dX9_mean_22 : decode cX9_mean 22 = .ok (.ifCond .ne 7, 3) := by decide +kernel
theorem dX9_mean_25 : decode cX9_mean 25 = .ok (.ldc2_w 188, 3) := by decide +kernel
theorem dX9_mean_28 : decode cX9_mean 28 = .ok (.lreturn, 1) := by decide +kernel
theorem dX9_mean_29 : decode cX9_mean 29 = .ok (.aload_n 0, 1) := by decide +kernel
theorem dX9_mean_30 : decode cX9_mean 30 = .ok (.getfield 12, 3) := by decide +kernel
theorem dX9_mean_33 : decode cX9_mean 33 = .ok (.iload_n 1, 1) := by decide +kernel
theorem dX9_mean_34 : decode cX9_mean 34 = .ok (.invokevirtual 190, 3) := by decide +kernel
theorem dX9_mean_37 : decode cX9_mean 37 = .ok (.istore_n 3, 1) := by decide +kernel
theorem dX9_mean_38 : decode cX9_mean 38 = .ok (.aload_n 0, 1) := by decide +kernel
theorem dX9_mean_39 : decode cX9_mean 39 = .ok (.getfield 12, 3) := by decide +kernel
theorem dX9_mean_42 : decode cX9_mean 42 = .ok (.getfield 78, 3) := by decide +kernel
theorem dX9_mean_45 : decode cX9_mean 45 = .ok (.iconst 1, 1) := by decide +kernel
theorem dX9_mean_46 : decode cX9_mean 46 = .ok (.isub, 1) := by decide +kernel
theorem dX9_mean_47 : decode cX9_mean 47 = .ok (.istore 4, 2) := by decide +kernel
theorem dX9_mean_49 : decode cX9_mean 49 = .ok (.iload_n 3, 1) := by decide +kernel
theorem dX9_mean_50 : decode cX9_mean 50 = .ok (.iload 4, 2) := by decide +kernel
theorem dX9_mean_52 : decode cX9_mean 52 = .ok (.invokestatic 193, 3) := by decide +kernel
theorem dX9_mean_55 : decode cX9_mean 55 = .ok (.istore 5, 2) := by decide +kernel
theorem dX9_mean_57 : decode cX9_mean 57 = .ok (.iload_n 2, 1) := by decide +kernel
theorem dX9_mean_58 : decode cX9_mean 58 = .ok (.ifCond .ne 7, 3) := by decide +kernel
theorem dX9_mean_61 : decode cX9_mean 61 = .ok (.iload_n 3, 1) := by decide +kernel
theorem dX9_mean_62 : decode cX9_mean 62 = .ok (.goto 5, 3) := by decide +kernel
theorem dX9_mean_65 : decode cX9_mean 65 = .ok (.iload 4, 2) := by decide +kernel
theorem dX9_mean_67 : decode cX9_mean 67 = .ok (.iload 5, 2) := by decide +kernel
theorem dX9_mean_69 : decode cX9_mean 69 = .ok (.idiv, 1) := by decide +kernel
theorem dX9_mean_70 : decode cX9_mean 70 = .ok (.i2l, 1) := by decide +kernel
theorem dX9_mean_71 : decode cX9_mean 71 = .ok (.lreturn, 1) := by decide +kernel
theorem dX9_sheet_0 : decode cX9_sheet 0 = .ok (.aload_n 0, 1) := by decide +kernel
theorem dX9_sheet_1 : decode cX9_sheet 1 = .ok (.iconst 0, 1) := by decide +kernel
theorem dX9_sheet_2 : decode cX9_sheet 2 = .ok (.putfield 38, 3) := by decide +kernel
theorem dX9_sheet_5 : decode cX9_sheet 5 = .ok (.iload_n 1, 1) := by decide +kernel
theorem dX9_sheet_6 : decode cX9_sheet 6 = .ok (.invokestatic 43, 3) := by decide +kernel
theorem dX9_sheet_9 : decode cX9_sheet 9 = .ok (.ifCond .ne 5, 3) := by decide +kernel
theorem dX9_sheet_12 : decode cX9_sheet 12 = .ok (.iconst (-1), 1) := by decide +kernel
theorem dX9_sheet_13 : decode cX9_sheet 13 = .ok (.ireturn, 1) := by decide +kernel
theorem dX9_sheet_14 : decode cX9_sheet 14 = .ok (.iload_n 2, 1) := by decide +kernel
theorem dX9_sheet_15 : decode cX9_sheet 15 = .ok (.iconst 2, 1) := by decide +kernel
theorem dX9_sheet_16 : decode cX9_sheet 16 = .ok (.invokestatic 47, 3) := by decide +kernel
theorem dX9_sheet_19 : decode cX9_sheet 19 = .ok (.ifCond .eq 9, 3) := by decide +kernel
theorem dX9_sheet_22 : decode cX9_sheet 22 = .ok (.iload_n 3, 1) := by decide +kernel
theorem dX9_sheet_23 : decode cX9_sheet 23 = .ok (.bipush 60, 2) := by decide +kernel
theorem dX9_sheet_25 : decode cX9_sheet 25 = .ok (.if_icmp .le 6, 3) := by decide +kernel
theorem dX9_sheet_28 : decode cX9_sheet 28 = .ok (.bipush (-2), 2) := by decide +kernel
theorem dX9_sheet_30 : decode cX9_sheet 30 = .ok (.ireturn, 1) := by decide +kernel
theorem dX9_sheet_31 : decode cX9_sheet 31 = .ok (.iload_n 3, 1) := by decide +kernel
theorem dX9_sheet_32 : decode cX9_sheet 32 = .ok (.ifCond .ge 9, 3) := by decide +kernel
theorem dX9_sheet_35 : decode cX9_sheet 35 = .ok (.aload_n 0, 1) := by decide +kernel
theorem dX9_sheet_36 : decode cX9_sheet 36 = .ok (.iconst 4, 1) := by decide +kernel
theorem dX9_sheet_37 : decode cX9_sheet 37 = .ok (.invokevirtual 54, 3) := by decide +kernel
theorem dX9_sheet_40 : decode cX9_sheet 40 = .ok (.ireturn, 1) := by decide +kernel
theorem dX9_sheet_41 : decode cX9_sheet 41 = .ok (.aload_n 0, 1) := by decide +kernel
theorem dX9_sheet_42 : decode cX9_sheet 42 = .ok (.getfield 34, 3) := by decide +kernel
theorem dX9_sheet_45 : decode cX9_sheet 45 = .ok (.iload_n 1, 1) := by decide +kernel
theorem dX9_sheet_46 : decode cX9_sheet 46 = .ok (.aaload, 1) := by decide +kernel
theorem dX9_sheet_47 : decode cX9_sheet 47 = .ok (.iload_n 2, 1) := by decide +kernel
theorem dX9_sheet_48 : decode cX9_sheet 48 = .ok (.iload_n 3, 1) := by decide +kernel
theorem dX9_sheet_49 : decode cX9_sheet 49 = .ok (.invokevirtual 196, 3) := by decide +kernel
theorem dX9_sheet_52 : decode cX9_sheet 52 = .ok (.iconst 1, 1) := by decide +kernel
theorem dX9_sheet_53 : decode cX9_sheet 53 = .ok (.ireturn, 1) := by decide +kernel
theorem dX9_lose_0 : decode cX9_lose 0 = .ok (.iload_n 1, 1) := by decide +kernel
theorem dX9_lose_1 : decode cX9_lose 1 = .ok (.invokestatic 43, 3) := by decide +kernel
theorem dX9_lose_4 : decode cX9_lose 4 = .ok (.ifCond .ne 5, 3) := by decide +kernel
theorem dX9_lose_7 : decode cX9_lose 7 = .ok (.iconst (-1), 1) := by decide +kernel
theorem dX9_lose_8 : decode cX9_lose 8 = .ok (.ireturn, 1) := by decide +kernel
theorem dX9_lose_9 : decode cX9_lose 9 = .ok (.aload_n 0, 1) := by decide +kernel
theorem dX9_lose_10 : decode cX9_lose 10 = .ok (.getfield 34, 3) := by decide +kernel
theorem dX9_lose_13 : decode cX9_lose 13 = .ok (.iload_n 1, 1) := by decide +kernel
theorem dX9_lose_14 : decode cX9_lose 14 = .ok (.aaload, 1) := by decide +kernel
theorem dX9_lose_15 : decode cX9_lose 15 = .ok (.invokevirtual 58, 3) := by decide +kernel
theorem dX9_lose_18 : decode cX9_lose 18 = .ok (.ifCond .eq 5, 3) := by decide +kernel
theorem dX9_lose_21 : decode cX9_lose 21 = .ok (.iconst 0, 1) := by decide +kernel
theorem dX9_lose_22 : decode cX9_lose 22 = .ok (.ireturn, 1) := by decide +kernel
theorem dX9_lose_23 : decode cX9_lose 23 = .ok (.aload_n 0, 1) := by decide +kernel
theorem dX9_lose_24 : decode cX9_lose 24 = .ok (.getfield 34, 3) := by decide +kernel
theorem dX9_lose_27 : decode cX9_lose 27 = .ok (.iload_n 1, 1) := by decide +kernel
theorem dX9_lose_28 : decode cX9_lose 28 = .ok (.aaload, 1) := by decide +kernel
theorem dX9_lose_29 : decode cX9_lose 29 = .ok (.invokevirtual 200, 3) := by decide +kernel
theorem dX9_lose_32 : decode cX9_lose 32 = .ok (.iconst 1, 1) := by decide +kernel
theorem dX9_lose_33 : decode cX9_lose 33 = .ok (.ireturn, 1) := by decide +kernel
theorem dX9_put_0 : decode cX9_put 0 = .ok (.aload_n 0, 1) := by decide +kernel
theorem dX9_put_1 : decode cX9_put 1 = .ok (.iconst 0, 1) := by decide +kernel
theorem dX9_put_2 : decode cX9_put 2 = .ok (.putfield 38, 3) := by decide +kernel
theorem dX9_put_5 : decode cX9_put 5 = .ok (.iload_n 1, 1) := by decide +kernel
theorem dX9_put_6 : decode cX9_put 6 = .ok (.invokestatic 43, 3) := by decide +kernel
theorem dX9_put_9 : decode cX9_put 9 = .ok (.ifCond .ne 5, 3) := by decide +kernel
theorem dX9_put_12 : decode cX9_put 12 = .ok (.iconst (-1), 1) := by decide +kernel
theorem dX9_put_13 : decode cX9_put 13 = .ok (.ireturn, 1) := by decide +kernel
theorem dX9_put_14 : decode cX9_put 14 = .ok (.aload_n 0, 1) := by decide +kernel
theorem dX9_put_15 : decode cX9_put 15 = .ok (.getfield 34, 3) := by decide +kernel
theorem dX9_put_18 : decode cX9_put 18 = .ok (.iload_n 1, 1) := by decide +kernel
theorem dX9_put_19 : decode cX9_put 19 = .ok (.aaload, 1) := by decide +kernel
theorem dX9_put_20 : decode cX9_put 20 = .ok (.invokevirtual 58, 3) := by decide +kernel
theorem dX9_put_23 : decode cX9_put 23 = .ok (.ifCond .eq 9, 3) := by decide +kernel
theorem dX9_put_26 : decode cX9_put 26 = .ok (.aload_n 0, 1) := by decide +kernel
theorem dX9_put_27 : decode cX9_put 27 = .ok (.iconst 1, 1) := by decide +kernel
theorem dX9_put_28 : decode cX9_put 28 = .ok (.invokevirtual 54, 3) := by decide +kernel
theorem dX9_put_31 : decode cX9_put 31 = .ok (.ireturn, 1) := by decide +kernel
theorem dX9_put_32 : decode cX9_put 32 = .ok (.aload_n 0, 1) := by decide +kernel
theorem dX9_put_33 : decode cX9_put 33 = .ok (.getfield 34, 3) := by decide +kernel
theorem dX9_put_36 : decode cX9_put 36 = .ok (.iload_n 1, 1) := by decide +kernel
theorem dX9_put_37 : decode cX9_put 37 = .ok (.aaload, 1) := by decide +kernel
theorem dX9_put_38 : decode cX9_put 38 = .ok (.iload_n 2, 1) := by decide +kernel
theorem dX9_put_39 : decode cX9_put 39 = .ok (.invokevirtual 203, 3) := by decide +kernel
theorem dX9_put_42 : decode cX9_put 42 = .ok (.ifCond .ne 9, 3) := by decide +kernel
theorem dX9_put_45 : decode cX9_put 45 = .ok (.aload_n 0, 1) := by decide +kernel
theorem dX9_put_46 : decode cX9_put 46 = .ok (.iconst 3, 1) := by decide +kernel
theorem dX9_put_47 : decode cX9_put 47 = .ok (.invokevirtual 54, 3) := by decide +kernel
theorem dX9_put_50 : decode cX9_put 50 = .ok (.ireturn, 1) := by decide +kernel
theorem dX9_put_51 : decode cX9_put 51 = .ok (.aload_n 0, 1) := by decide +kernel
theorem dX9_put_52 : decode cX9_put 52 = .ok (.getfield 34, 3) := by decide +kernel
theorem dX9_put_55 : decode cX9_put 55 = .ok (.iload_n 1, 1) := by decide +kernel
theorem dX9_put_56 : decode cX9_put 56 = .ok (.aaload, 1) := by decide +kernel
theorem dX9_put_57 : decode cX9_put 57 = .ok (.iload_n 2, 1) := by decide +kernel
theorem dX9_put_58 : decode cX9_put 58 = .ok (.iload_n 3, 1) := by decide +kernel
theorem dX9_put_59 : decode cX9_put 59 = .ok (.invokevirtual 206, 3) := by decide +kernel
theorem dX9_put_62 : decode cX9_put 62 = .ok (.iconst 1, 1) := by decide +kernel
theorem dX9_put_63 : decode cX9_put 63 = .ok (.ireturn, 1) := by decide +kernel
theorem dX9_cell_0 : decode cX9_cell 0 = .ok (.aload_n 0, 1) := by decide +kernel
theorem dX9_cell_1 : decode cX9_cell 1 = .ok (.iconst 0, 1) := by decide +kernel
theorem dX9_cell_2 : decode cX9_cell 2 = .ok (.putfield 38, 3) := by decide +kernel
theorem dX9_cell_5 : decode cX9_cell 5 = .ok (.iload_n 1, 1) := by decide +kernel
theorem dX9_cell_6 : decode cX9_cell 6 = .ok (.invokestatic 43, 3) := by decide +kernel
theorem dX9_cell_9 : decode cX9_cell 9 = .ok (.ifCond .eq 11, 3) := by decide +kernel
theorem dX9_cell_12 : decode cX9_cell 12 = .ok (.iload_n 3, 1) := by decide +kernel
theorem dX9_cell_13 : decode cX9_cell 13 = .ok (.iconst 2, 1) := by decide +kernel
theorem dX9_cell_14 : decode cX9_cell 14 = .ok (.invokestatic 47, 3) := by decide +kernel
theorem dX9_cell_17 : decode cX9_cell 17 = .ok (.ifCond .ne 7, 3) := by decide +kernel
theorem dX9_cell_20 : decode cX9_cell 20 = .ok (.ldc2_w 188, 3) := by decide +kernel
theorem dX9_cell_23 : decode cX9_cell 23 = .ok (.lreturn, 1) := by decide +kernel
theorem dX9_cell_24 : decode cX9_cell 24 = .ok (.aload_n 0, 1) := by decide +kernel
theorem dX9_cell_25 : decode cX9_cell 25 = .ok (.getfield 34, 3) := by decide +kernel
theorem dX9_cell_28 : decode cX9_cell 28 = .ok (.iload_n 1, 1) := by decide +kernel
theorem dX9_cell_29 : decode cX9_cell 29 = .ok (.aaload, 1) := by decide +kernel
theorem dX9_cell_30 : decode cX9_cell 30 = .ok (.astore 4, 2) := by decide +kernel
theorem dX9_cell_32 : decode cX9_cell 32 = .ok (.aload 4, 2) := by decide +kernel
theorem dX9_cell_34 : decode cX9_cell 34 = .ok (.iload_n 3, 1) := by decide +kernel
theorem dX9_cell_35 : decode cX9_cell 35 = .ok (.invokevirtual 51, 3) := by decide +kernel
theorem dX9_cell_38 : decode cX9_cell 38 = .ok (.ifCond .eq 9, 3) := by decide +kernel
theorem dX9_cell_41 : decode cX9_cell 41 = .ok (.aload_n 0, 1) := by decide +kernel
theorem dX9_cell_42 : decode cX9_cell 42 = .ok (.iconst 2, 1) := by decide +kernel
theorem dX9_cell_43 : decode cX9_cell 43 = .ok (.invokevirtual 209, 3) := by decide +kernel
theorem dX9_cell_46 : decode cX9_cell 46 = .ok (.lreturn, 1) := by decide +kernel
theorem dX9_cell_47 : decode cX9_cell 47 = .ok (.aload 4, 2) := by decide +kernel
theorem dX9_cell_49 : decode cX9_cell 49 = .ok (.invokevirtual 58, 3) := by decide +kernel
theorem dX9_cell_52 : decode cX9_cell 52 = .ok (.ifCond .eq 9, 3) := by decide +kernel
theorem dX9_cell_55 : decode cX9_cell 55 = .ok (.aload_n 0, 1) := by decide +kernel
theorem dX9_cell_56 : decode cX9_cell 56 = .ok (.iconst 1, 1) := by decide +kernel
theorem dX9_cell_57 : decode cX9_cell 57 = .ok (.invokevirtual 209, 3) := by decide +kernel
theorem dX9_cell_60 : decode cX9_cell 60 = .ok (.lreturn, 1) := by decide +kernel
theorem dX9_cell_61 : decode cX9_cell 61 = .ok (.aload 4, 2) := by decide +kernel
theorem dX9_cell_63 : decode cX9_cell 63 = .ok (.iload_n 2, 1) := by decide +kernel
theorem dX9_cell_64 : decode cX9_cell 64 = .ok (.invokevirtual 203, 3) := by decide +kernel
theorem dX9_cell_67 : decode cX9_cell 67 = .ok (.ifCond .ne 9, 3) := by decide +kernel
theorem dX9_cell_70 : decode cX9_cell 70 = .ok (.aload_n 0, 1) := by decide +kernel
theorem dX9_cell_71 : decode cX9_cell 71 = .ok (.iconst 3, 1) := by decide +kernel
theorem dX9_cell_72 : decode cX9_cell 72 = .ok (.invokevirtual 209, 3) := by decide +kernel
theorem dX9_cell_75 : decode cX9_cell 75 = .ok (.lreturn, 1) := by decide +kernel
theorem dX9_cell_76 : decode cX9_cell 76 = .ok (.aload 4, 2) := by decide +kernel
theorem dX9_cell_78 : decode cX9_cell 78 = .ok (.getfield 213, 3) := by decide +kernel
theorem dX9_cell_81 : decode cX9_cell 81 = .ok (.iload_n 2, 1) := by decide +kernel
theorem dX9_cell_82 : decode cX9_cell 82 = .ok (.iaload, 1) := by decide +kernel
theorem dX9_cell_83 : decode cX9_cell 83 = .ok (.i2l, 1) := by decide +kernel
theorem dX9_cell_84 : decode cX9_cell 84 = .ok (.lreturn, 1) := by decide +kernel
theorem dX9_copy_0 : decode cX9_copy 0 = .ok (.aload_n 0, 1) := by decide +kernel
theorem dX9_copy_1 : decode cX9_copy 1 = .ok (.iconst 0, 1) := by decide +kernel
theorem dX9_copy_2 : decode cX9_copy 2 = .ok (.putfield 38, 3) := by decide +kernel
theorem dX9_copy_5 : decode cX9_copy 5 = .ok (.iload_n 1, 1) := by decide +kernel
theorem dX9_copy_6 : decode cX9_copy 6 = .ok (.invokestatic 43, 3) := by decide +kernel
theorem dX9_copy_9 : decode cX9_copy 9 = .ok (.ifCond .eq 10, 3) := by decide +kernel
theorem dX9_copy_12 : decode cX9_copy 12 = .ok (.iload_n 3, 1) := by decide +kernel
theorem dX9_copy_13 : decode cX9_copy 13 = .ok (.invokestatic 43, 3) := by decide +kernel
theorem dX9_copy_16 : decode cX9_copy 16 = .ok (.ifCond .ne 5, 3) := by decide +kernel
theorem dX9_copy_19 : decode cX9_copy 19 = .ok (.iconst (-1), 1) := by decide +kernel
theorem dX9_copy_20 : decode cX9_copy 20 = .ok (.ireturn, 1) := by decide +kernel
theorem dX9_copy_21 : decode cX9_copy 21 = .ok (.aload_n 0, 1) := by decide +kernel
theorem dX9_copy_22 : decode cX9_copy 22 = .ok (.getfield 34, 3) := by decide +kernel
theorem dX9_copy_25 : decode cX9_copy 25 = .ok (.iload_n 1, 1) := by decide +kernel
theorem dX9_copy_26 : decode cX9_copy 26 = .ok (.aaload, 1) := by decide +kernel
theorem dX9_copy_27 : decode cX9_copy 27 = .ok (.astore 6, 2) := by decide +kernel
theorem dX9_copy_29 : decode cX9_copy 29 = .ok (.aload_n 0, 1) := by decide +kernel
theorem dX9_copy_30 : decode cX9_copy 30 = .ok (.getfield 34, 3) := by decide +kernel
theorem dX9_copy_33 : decode cX9_copy 33 = .ok (.iload_n 3, 1) := by decide +kernel
theorem dX9_copy_34 : decode cX9_copy 34 = .ok (.aaload, 1) := by decide +kernel
theorem dX9_copy_35 : decode cX9_copy 35 = .ok (.astore 7, 2) := by decide +kernel
theorem dX9_copy_37 : decode cX9_copy 37 = .ok (.aload 6, 2) := by decide +kernel
theorem dX9_copy_39 : decode cX9_copy 39 = .ok (.invokevirtual 58, 3) := by decide +kernel
theorem dX9_copy_42 : decode cX9_copy 42 = .ok (.ifCond .ne 11, 3) := by decide +kernel
theorem dX9_copy_45 : decode cX9_copy 45 = .ok (.aload 7, 2) := by decide +kernel
theorem dX9_copy_47 : decode cX9_copy 47 = .ok (.invokevirtual 58, 3) := by decide +kernel
theorem dX9_copy_50 : decode cX9_copy 50 = .ok (.ifCond .eq 9, 3) := by decide +kernel
theorem dX9_copy_53 : decode cX9_copy 53 = .ok (.aload_n 0, 1) := by decide +kernel
theorem dX9_copy_54 : decode cX9_copy 54 = .ok (.iconst 1, 1) := by decide +kernel
theorem dX9_copy_55 : decode cX9_copy 55 = .ok (.invokevirtual 54, 3) := by decide +kernel
theorem dX9_copy_58 : decode cX9_copy 58 = .ok (.ireturn, 1) := by decide +kernel
theorem dX9_copy_59 : decode cX9_copy 59 = .ok (.aload 6, 2) := by decide +kernel
theorem dX9_copy_61 : decode cX9_copy 61 = .ok (.aload 7, 2) := by decide +kernel
theorem dX9_copy_63 : decode cX9_copy 63 = .ok (.getfield 216, 3) := by decide +kernel
theorem dX9_copy_66 : decode cX9_copy 66 = .ok (.invokevirtual 51, 3) := by decide +kernel
theorem dX9_copy_69 : decode cX9_copy 69 = .ok (.ifCond .eq 9, 3) := by decide +kernel
theorem dX9_copy_72 : decode cX9_copy 72 = .ok (.aload_n 0, 1) := by decide +kernel
theorem dX9_copy_73 : decode cX9_copy 73 = .ok (.iconst 2, 1) := by decide +kernel
theorem dX9_copy_74 : decode cX9_copy 74 = .ok (.invokevirtual 54, 3) := by decide +kernel
theorem dX9_copy_77 : decode cX9_copy 77 = .ok (.ireturn, 1) := by decide +kernel
theorem dX9_copy_78 : decode cX9_copy 78 = .ok (.aload 6, 2) := by decide +kernel
theorem dX9_copy_80 : decode cX9_copy 80 = .ok (.iload_n 2, 1) := by decide +kernel
theorem dX9_copy_81 : decode cX9_copy 81 = .ok (.iload 5, 2) := by decide +kernel
theorem dX9_copy_83 : decode cX9_copy 83 = .ok (.invokevirtual 62, 3) := by decide +kernel
theorem dX9_copy_86 : decode cX9_copy 86 = .ok (.ifCond .eq 15, 3) := by decide +kernel
theorem dX9_copy_89 : decode cX9_copy 89 = .ok (.aload 7, 2) := by decide +kernel
theorem dX9_copy_91 : decode cX9_copy 91 = .ok (.iload 4, 2) := by decide +kernel
theorem dX9_copy_93 : decode cX9_copy 93 = .ok (.iload 5, 2) := by decide +kernel
theorem dX9_copy_95 : decode cX9_copy 95 = .ok (.invokevirtual 62, 3) := by decide +kernel
theorem dX9_copy_98 : decode cX9_copy 98 = .ok (.ifCond .ne 9, 3) := by decide +kernel
theorem dX9_copy_101 : decode cX9_copy 101 = .ok (.aload_n 0, 1) := by decide +kernel
theorem dX9_copy_102 : decode cX9_copy 102 = .ok (.iconst 3, 1) := by decide +kernel
theorem dX9_copy_103 : decode cX9_copy 103 = .ok (.invokevirtual 54, 3) := by decide +kernel
theorem dX9_copy_106 : decode cX9_copy 106 = .ok (.ireturn, 1) := by decide +kernel
theorem dX9_copy_107 : decode cX9_copy 107 = .ok (.aload 6, 2) := by decide +kernel
theorem dX9_copy_109 : decode cX9_copy 109 = .ok (.getfield 213, 3) := by decide +kernel
theorem dX9_copy_112 : decode cX9_copy 112 = .ok (.iload_n 2, 1) := by decide +kernel
theorem dX9_copy_113 : decode cX9_copy 113 = .ok (.aload 7, 2) := by decide +kernel
theorem dX9_copy_115 : decode cX9_copy 115 = .ok (.getfield 213, 3) := by decide +kernel
theorem dX9_copy_118 : decode cX9_copy 118 = .ok (.iload 4, 2) := by decide +kernel
theorem dX9_copy_120 : decode cX9_copy 120 = .ok (.iload 5, 2) := by decide +kernel
theorem dX9_copy_122 : decode cX9_copy 122 = .ok (.invokestatic 219, 3) := by decide +kernel
theorem dX9_copy_125 : decode cX9_copy 125 = .ok (.iload 5, 2) := by decide +kernel
theorem dX9_copy_127 : decode cX9_copy 127 = .ok (.ireturn, 1) := by decide +kernel
theorem dX9_tell_0 : decode cX9_tell 0 = .ok (.aload_n 0, 1) := by decide +kernel
theorem dX9_tell_1 : decode cX9_tell 1 = .ok (.getfield 12, 3) := by decide +kernel
theorem dX9_tell_4 : decode cX9_tell 4 = .ok (.iload_n 1, 1) := by decide +kernel
theorem dX9_tell_5 : decode cX9_tell 5 = .ok (.invokevirtual 88, 3) := by decide +kernel
theorem dX9_tell_8 : decode cX9_tell 8 = .ok (.ifCond .eq 25, 3) := by decide +kernel
theorem dX9_tell_11 : decode cX9_tell 11 = .ok (.aload_n 0, 1) := by decide +kernel
theorem dX9_tell_12 : decode cX9_tell 12 = .ok (.getfield 12, 3) := by decide +kernel
theorem dX9_tell_15 : decode cX9_tell 15 = .ok (.getfield 91, 3) := by decide +kernel
theorem dX9_tell_18 : decode cX9_tell 18 = .ok (.iload_n 1, 1) := by decide +kernel
theorem dX9_tell_19 : decode cX9_tell 19 = .ok (.aaload, 1) := by decide +kernel
theorem dX9_tell_20 : decode cX9_tell 20 = .ok (.getfield 95, 3) := by decide +kernel
theorem dX9_tell_23 : decode cX9_tell 23 = .ok (.aload_n 0, 1) := by decide +kernel
theorem dX9_tell_24 : decode cX9_tell 24 = .ok (.getfield 28, 3) := by decide +kernel
theorem dX9_tell_27 : decode cX9_tell 27 = .ok (.invokevirtual 225, 3) := by decide +kernel
theorem dX9_tell_30 : decode cX9_tell 30 = .ok (.goto 4, 3) := by decide +kernel
theorem dX9_tell_33 : decode cX9_tell 33 = .ok (.iconst (-1), 1) := by decide +kernel
theorem dX9_tell_34 : decode cX9_tell 34 = .ok (.ireturn, 1) := by decide +kernel
theorem dX9_lean_0 : decode cX9_lean 0 = .ok (.aload_n 0, 1) := by decide +kernel
theorem dX9_lean_1 : decode cX9_lean 1 = .ok (.getfield 12, 3) := by decide +kernel
theorem dX9_lean_4 : decode cX9_lean 4 = .ok (.iload_n 1, 1) := by decide +kernel
theorem dX9_lean_5 : decode cX9_lean 5 = .ok (.invokevirtual 88, 3) := by decide +kernel
theorem dX9_lean_8 : decode cX9_lean 8 = .ok (.ifCond .eq 25, 3) := by decide +kernel
theorem dX9_lean_11 : decode cX9_lean 11 = .ok (.aload_n 0, 1) := by decide +kernel
theorem dX9_lean_12 : decode cX9_lean 12 = .ok (.getfield 12, 3) := by decide +kernel
theorem dX9_lean_15 : decode cX9_lean 15 = .ok (.getfield 91, 3) := by decide +kernel
theorem dX9_lean_18 : decode cX9_lean 18 = .ok (.iload_n 1, 1) := by decide +kernel
theorem dX9_lean_19 : decode cX9_lean 19 = .ok (.aaload, 1) := by decide +kernel
theorem dX9_lean_20 : decode cX9_lean 20 = .ok (.getfield 95, 3) := by decide +kernel
theorem dX9_lean_23 : decode cX9_lean 23 = .ok (.aload_n 0, 1) := by decide +kernel
theorem dX9_lean_24 : decode cX9_lean 24 = .ok (.getfield 28, 3) := by decide +kernel
theorem dX9_lean_27 : decode cX9_lean 27 = .ok (.invokevirtual 229, 3) := by decide +kernel
theorem dX9_lean_30 : decode cX9_lean 30 = .ok (.goto 4, 3) := by decide +kernel
theorem dX9_lean_33 : decode cX9_lean 33 = .ok (.iconst (-1), 1) := by decide +kernel
theorem dX9_lean_34 : decode cX9_lean 34 = .ok (.ireturn, 1) := by decide +kernel
theorem dX9_as_0 : decode cX9_as 0 = .ok (.aload_n 0, 1) := by decide +kernel
theorem dX9_as_1 : decode cX9_as 1 = .ok (.iconst 0, 1) := by decide +kernel
theorem dX9_as_2 : decode cX9_as 2 = .ok (.putfield 38, 3) := by decide +kernel
theorem dX9_as_5 : decode cX9_as 5 = .ok (.aload_n 0, 1) := by decide +kernel
theorem dX9_as_6 : decode cX9_as 6 = .ok (.getfield 12, 3) := by decide +kernel
theorem dX9_as_9 : decode cX9_as 9 = .ok (.iload_n 1, 1) := by decide +kernel
theorem dX9_as_10 : decode cX9_as 10 = .ok (.invokevirtual 88, 3) := by decide +kernel
theorem dX9_as_13 : decode cX9_as 13 = .ok (.ifCond .ne 5, 3) := by decide +kernel
theorem dX9_as_16 : decode cX9_as 16 = .ok (.iconst (-1), 1) := by decide +kernel
theorem dX9_as_17 : decode cX9_as 17 = .ok (.ireturn, 1) := by decide +kernel
theorem dX9_as_18 : decode cX9_as 18 = .ok (.iload_n 2, 1) := by decide +kernel
theorem dX9_as_19 : decode cX9_as 19 = .ok (.iconst 2, 1) := by decide +kernel
end
section
theorem dX9_as_20 : decode cX9_as 20 = .ok (.invokestatic 47, 3) := by decide +kernel
theorem dX9_as_23 : decode cX9_as 23 = .ok (.ifCond .ne 6, 3) := by decide +kernel
theorem dX9_as_26 : decode cX9_as 26 = .ok (.bipush (-2), 2) := by decide +kernel
theorem dX9_as_28 : decode cX9_as 28 = .ok (.ireturn, 1) := by decide +kernel
theorem dX9_as_29 : decode cX9_as 29 = .ok (.aload_n 0, 1) := by decide +kernel
theorem dX9_as_30 : decode cX9_as 30 = .ok (.getfield 12, 3) := by decide +kernel
theorem dX9_as_33 : decode cX9_as 33 = .ok (.getfield 91, 3) := by decide +kernel
theorem dX9_as_36 : decode cX9_as 36 = .ok (.iload_n 1, 1) := by decide +kernel
theorem dX9_as_37 : decode cX9_as 37 = .ok (.aaload, 1) := by decide +kernel
theorem dX9_as_38 : decode cX9_as 38 = .ok (.getfield 95, 3) := by decide +kernel
theorem dX9_as_41 : decode cX9_as 41 = .ok (.invokevirtual 101, 3) := by decide +kernel
theorem dX9_as_44 : decode cX9_as 44 = .ok (.iload_n 2, 1) := by decide +kernel
theorem dX9_as_45 : decode cX9_as 45 = .ok (.if_icmp .lt 7, 3) := by decide +kernel
theorem dX9_as_48 : decode cX9_as 48 = .ok (.iconst 1, 1) := by decide +kernel
theorem dX9_as_49 : decode cX9_as 49 = .ok (.goto 8, 3) := by decide +kernel
theorem dX9_as_52 : decode cX9_as 52 = .ok (.aload_n 0, 1) := by decide +kernel
theorem dX9_as_53 : decode cX9_as 53 = .ok (.iconst 2, 1) := by decide +kernel
theorem dX9_as_54 : decode cX9_as 54 = .ok (.invokevirtual 54, 3) := by decide +kernel
theorem dX9_as_57 : decode cX9_as 57 = .ok (.ireturn, 1) := by decide +kernel
theorem dX9_trace_0 : decode cX9_trace 0 = .ok (.aload_n 0, 1) := by decide +kernel
theorem dX9_trace_1 : decode cX9_trace 1 = .ok (.getfield 28, 3) := by decide +kernel
theorem dX9_trace_4 : decode cX9_trace 4 = .ok (.getfield 232, 3) := by decide +kernel
theorem dX9_trace_7 : decode cX9_trace 7 = .ok (.ireturn, 1) := by decide +kernel
theorem dX9_fault_0 : decode cX9_fault 0 = .ok (.aload_n 0, 1) := by decide +kernel
theorem dX9_fault_1 : decode cX9_fault 1 = .ok (.getfield 38, 3) := by decide +kernel
theorem dX9_fault_4 : decode cX9_fault 4 = .ok (.ireturn, 1) := by decide +kernel
theorem dX9_many_0 : decode cX9_many 0 = .ok (.iload_n 1, 1) := by decide +kernel
theorem dX9_many_1 : decode cX9_many 1 = .ok (.tableswitch 57 0 2 #[27, 35, 49], 27) := by decide +kernel
theorem dX9_many_28 : decode cX9_many 28 = .ok (.aload_n 0, 1) := by decide +kernel
theorem dX9_many_29 : decode cX9_many 29 = .ok (.getfield 12, 3) := by decide +kernel
theorem dX9_many_32 : decode cX9_many 32 = .ok (.getfield 78, 3) := by decide +kernel
theorem dX9_many_35 : decode cX9_many 35 = .ok (.ireturn, 1) := by decide +kernel
theorem dX9_many_36 : decode cX9_many 36 = .ok (.iconst 0, 1) := by decide +kernel
theorem dX9_many_37 : decode cX9_many 37 = .ok (.aload_n 0, 1) := by decide +kernel
theorem dX9_many_38 : decode cX9_many 38 = .ok (.getfield 12, 3) := by decide +kernel
theorem dX9_many_41 : decode cX9_many 41 = .ok (.getfield 78, 3) := by decide +kernel
theorem dX9_many_44 : decode cX9_many 44 = .ok (.iconst 1, 1) := by decide +kernel
theorem dX9_many_45 : decode cX9_many 45 = .ok (.isub, 1) := by decide +kernel
theorem dX9_many_46 : decode cX9_many 46 = .ok (.invokestatic 235, 3) := by decide +kernel
theorem dX9_many_49 : decode cX9_many 49 = .ok (.ireturn, 1) := by decide +kernel
theorem dX9_many_50 : decode cX9_many 50 = .ok (.aload_n 0, 1) := by decide +kernel
theorem dX9_many_51 : decode cX9_many 51 = .ok (.getfield 21, 3) := by decide +kernel
theorem dX9_many_54 : decode cX9_many 54 = .ok (.getfield 167, 3) := by decide +kernel
theorem dX9_many_57 : decode cX9_many 57 = .ok (.ireturn, 1) := by decide +kernel
theorem dX9_many_58 : decode cX9_many 58 = .ok (.bipush (-2), 2) := by decide +kernel
theorem dX9_many_60 : decode cX9_many 60 = .ok (.ireturn, 1) := by decide +kernel
theorem dX9_faulted_0 : decode cX9_faulted 0 = .ok (.aload_n 0, 1) := by decide +kernel
theorem dX9_faulted_1 : decode cX9_faulted 1 = .ok (.iload_n 1, 1) := by decide +kernel
theorem dX9_faulted_2 : decode cX9_faulted 2 = .ok (.putfield 38, 3) := by decide +kernel
theorem dX9_faulted_5 : decode cX9_faulted 5 = .ok (.bipush (-10), 2) := by decide +kernel
theorem dX9_faulted_7 : decode cX9_faulted 7 = .ok (.iload_n 1, 1) := by decide +kernel
theorem dX9_faulted_8 : decode cX9_faulted 8 = .ok (.isub, 1) := by decide +kernel
theorem dX9_faulted_9 : decode cX9_faulted 9 = .ok (.ireturn, 1) := by decide +kernel
theorem dX9_lostBy_0 : decode cX9_lostBy 0 = .ok (.aload_n 0, 1) := by decide +kernel
theorem dX9_lostBy_1 : decode cX9_lostBy 1 = .ok (.iload_n 1, 1) := by decide +kernel
theorem dX9_lostBy_2 : decode cX9_lostBy 2 = .ok (.putfield 38, 3) := by decide +kernel
theorem dX9_lostBy_5 : decode cX9_lostBy 5 = .ok (.ldc2_w 188, 3) := by decide +kernel
theorem dX9_lostBy_8 : decode cX9_lostBy 8 = .ok (.lreturn, 1) := by decide +kernel
theorem dX9_isWithin_0 : decode cX9_isWithin 0 = .ok (.iload_n 0, 1) := by decide +kernel
theorem dX9_isWithin_1 : decode cX9_isWithin 1 = .ok (.ifCond .lt 12, 3) := by decide +kernel
theorem dX9_isWithin_4 : decode cX9_isWithin 4 = .ok (.iload_n 0, 1) := by decide +kernel
theorem dX9_isWithin_5 : decode cX9_isWithin 5 = .ok (.iload_n 1, 1) := by decide +kernel
theorem dX9_isWithin_6 : decode cX9_isWithin 6 = .ok (.if_icmp .gt 7, 3) := by decide +kernel
theorem dX9_isWithin_9 : decode cX9_isWithin 9 = .ok (.iconst 1, 1) := by decide +kernel
theorem dX9_isWithin_10 : decode cX9_isWithin 10 = .ok (.goto 4, 3) := by decide +kernel
theorem dX9_isWithin_13 : decode cX9_isWithin 13 = .ok (.iconst 0, 1) := by decide +kernel
theorem dX9_isWithin_14 : decode cX9_isWithin 14 = .ok (.ireturn, 1) := by decide +kernel
theorem dX9_isSheet_0 : decode cX9_isSheet 0 = .ok (.iload_n 0, 1) := by decide +kernel
theorem dX9_isSheet_1 : decode cX9_isSheet 1 = .ok (.iconst 3, 1) := by decide +kernel
theorem dX9_isSheet_2 : decode cX9_isSheet 2 = .ok (.invokestatic 47, 3) := by decide +kernel
theorem dX9_isSheet_5 : decode cX9_isSheet 5 = .ok (.ireturn, 1) := by decide +kernel
theorem dX9_isSide_0 : decode cX9_isSide 0 = .ok (.iload_n 0, 1) := by decide +kernel
theorem dX9_isSide_1 : decode cX9_isSide 1 = .ok (.iconst 1, 1) := by decide +kernel
theorem dX9_isSide_2 : decode cX9_isSide 2 = .ok (.invokestatic 47, 3) := by decide +kernel
theorem dX9_isSide_5 : decode cX9_isSide 5 = .ok (.ireturn, 1) := by decide +kernel
theorem dX9_isDay_0 : decode cX9_isDay 0 = .ok (.iload_n 0, 1) := by decide +kernel
theorem dX9_isDay_1 : decode cX9_isDay 1 = .ok (.bipush 29, 2) := by decide +kernel
theorem dX9_isDay_3 : decode cX9_isDay 3 = .ok (.invokestatic 47, 3) := by decide +kernel
theorem dX9_isDay_6 : decode cX9_isDay 6 = .ok (.ireturn, 1) := by decide +kernel
theorem dX9_isDawn_0 : decode cX9_isDawn 0 = .ok (.iload_n 0, 1) := by decide +kernel
theorem dX9_isDawn_1 : decode cX9_isDawn 1 = .ok (.bipush 30, 2) := by decide +kernel
theorem dX9_isDawn_3 : decode cX9_isDawn 3 = .ok (.invokestatic 47, 3) := by decide +kernel
theorem dX9_isDawn_6 : decode cX9_isDawn 6 = .ok (.ireturn, 1) := by decide +kernel
theorem dX9_isFeet_0 : decode cX9_isFeet 0 = .ok (.iload_n 0, 1) := by decide +kernel
theorem dX9_isFeet_1 : decode cX9_isFeet 1 = .ok (.bipush 20, 2) := by decide +kernel
theorem dX9_isFeet_3 : decode cX9_isFeet 3 = .ok (.invokestatic 47, 3) := by decide +kernel
theorem dX9_isFeet_6 : decode cX9_isFeet 6 = .ok (.ireturn, 1) := by decide +kernel
theorem dX9_hedgeBeside_0 : decode cX9_hedgeBeside 0 = .ok (.iload_n 1, 1) := by decide +kernel
theorem dX9_hedgeBeside_1 : decode cX9_hedgeBeside 1 = .ok (.ifCond .ne 9, 3) := by decide +kernel
theorem dX9_hedgeBeside_4 : decode cX9_hedgeBeside 4 = .ok (.iload_n 0, 1) := by decide +kernel
theorem dX9_hedgeBeside_5 : decode cX9_hedgeBeside 5 = .ok (.iconst 1, 1) := by decide +kernel
theorem dX9_hedgeBeside_6 : decode cX9_hedgeBeside 6 = .ok (.isub, 1) := by decide +kernel
theorem dX9_hedgeBeside_7 : decode cX9_hedgeBeside 7 = .ok (.goto 4, 3) := by decide +kernel
theorem dX9_hedgeBeside_10 : decode cX9_hedgeBeside 10 = .ok (.iload_n 0, 1) := by decide +kernel
theorem dX9_hedgeBeside_11 : decode cX9_hedgeBeside 11 = .ok (.ireturn, 1) := by decide +kernel
theorem dX9_otherSide_0 : decode cX9_otherSide 0 = .ok (.iload_n 0, 1) := by decide +kernel
theorem dX9_otherSide_1 : decode cX9_otherSide 1 = .ok (.ifCond .ne 7, 3) := by decide +kernel
theorem dX9_otherSide_4 : decode cX9_otherSide 4 = .ok (.iconst 1, 1) := by decide +kernel
theorem dX9_otherSide_5 : decode cX9_otherSide 5 = .ok (.goto 4, 3) := by decide +kernel
theorem dX9_otherSide_8 : decode cX9_otherSide 8 = .ok (.iconst 0, 1) := by decide +kernel
theorem dX9_otherSide_9 : decode cX9_otherSide 9 = .ok (.ireturn, 1) := by decide +kernel
theorem dX9_commonDivisor_0 : decode cX9_commonDivisor 0 = .ok (.iload_n 1, 1) := by decide +kernel
theorem dX9_commonDivisor_1 : decode cX9_commonDivisor 1 = .ok (.istore_n 2, 1) := by decide +kernel
theorem dX9_commonDivisor_2 : decode cX9_commonDivisor 2 = .ok (.iload_n 2, 1) := by decide +kernel
theorem dX9_commonDivisor_3 : decode cX9_commonDivisor 3 = .ok (.iconst 1, 1) := by decide +kernel
theorem dX9_commonDivisor_4 : decode cX9_commonDivisor 4 = .ok (.if_icmp .le 23, 3) := by decide +kernel
theorem dX9_commonDivisor_7 : decode cX9_commonDivisor 7 = .ok (.iload_n 0, 1) := by decide +kernel
theorem dX9_commonDivisor_8 : decode cX9_commonDivisor 8 = .ok (.iload_n 2, 1) := by decide +kernel
theorem dX9_commonDivisor_9 : decode cX9_commonDivisor 9 = .ok (.irem, 1) := by decide +kernel
theorem dX9_commonDivisor_10 : decode cX9_commonDivisor 10 = .ok (.ifCond .ne 11, 3) := by decide +kernel
theorem dX9_commonDivisor_13 : decode cX9_commonDivisor 13 = .ok (.iload_n 1, 1) := by decide +kernel
theorem dX9_commonDivisor_14 : decode cX9_commonDivisor 14 = .ok (.iload_n 2, 1) := by decide +kernel
theorem dX9_commonDivisor_15 : decode cX9_commonDivisor 15 = .ok (.irem, 1) := by decide +kernel
theorem dX9_commonDivisor_16 : decode cX9_commonDivisor 16 = .ok (.ifCond .ne 5, 3) := by decide +kernel
theorem dX9_commonDivisor_19 : decode cX9_commonDivisor 19 = .ok (.iload_n 2, 1) := by decide +kernel
theorem dX9_commonDivisor_20 : decode cX9_commonDivisor 20 = .ok (.ireturn, 1) := by decide +kernel
theorem dX9_commonDivisor_21 : decode cX9_commonDivisor 21 = .ok (.iinc 2 (-1), 3) := by decide +kernel
theorem dX9_commonDivisor_24 : decode cX9_commonDivisor 24 = .ok (.goto (-22), 3) := by decide +kernel
theorem dX9_commonDivisor_27 : decode cX9_commonDivisor 27 = .ok (.iconst 1, 1) := by decide +kernel
theorem dX9_commonDivisor_28 : decode cX9_commonDivisor 28 = .ok (.ireturn, 1) := by decide +kernel
theorem dX10_init_0 : decode cX10_init 0 = .ok (.aload_n 0, 1) := by decide +kernel
theorem dX10_init_1 : decode cX10_init 1 = .ok (.invokespecial 1, 3) := by decide +kernel
theorem dX10_init_4 : decode cX10_init 4 = .ok (.aload_n 0, 1) := by decide +kernel
theorem dX10_init_5 : decode cX10_init 5 = .ok (.bipush 7, 2) := by decide +kernel
theorem dX10_init_7 : decode cX10_init 7 = .ok (.newarray .int, 2) := by decide +kernel
theorem dX10_init_9 : decode cX10_init 9 = .ok (.putfield 7, 3) := by decide +kernel
theorem dX10_init_12 : decode cX10_init 12 = .ok (.aload_n 0, 1) := by decide +kernel
theorem dX10_init_13 : decode cX10_init 13 = .ok (.bipush 6, 2) := by decide +kernel
theorem dX10_init_15 : decode cX10_init 15 = .ok (.newarray .int, 2) := by decide +kernel
theorem dX10_init_17 : decode cX10_init 17 = .ok (.putfield 13, 3) := by decide +kernel
theorem dX10_init_20 : decode cX10_init 20 = .ok (.aload_n 0, 1) := by decide +kernel
theorem dX10_init_21 : decode cX10_init 21 = .ok (.bipush 6, 2) := by decide +kernel
theorem dX10_init_23 : decode cX10_init 23 = .ok (.newarray .int, 2) := by decide +kernel
theorem dX10_init_25 : decode cX10_init 25 = .ok (.putfield 16, 3) := by decide +kernel
theorem dX10_init_28 : decode cX10_init 28 = .ok (.aload_n 0, 1) := by decide +kernel
theorem dX10_init_29 : decode cX10_init 29 = .ok (.sipush 420, 3) := by decide +kernel
theorem dX10_init_32 : decode cX10_init 32 = .ok (.newarray .int, 2) := by decide +kernel
theorem dX10_init_34 : decode cX10_init 34 = .ok (.putfield 19, 3) := by decide +kernel
theorem dX10_init_37 : decode cX10_init 37 = .ok (.aload_n 0, 1) := by decide +kernel
theorem dX10_init_38 : decode cX10_init 38 = .ok (.sipush 180, 3) := by decide +kernel
theorem dX10_init_41 : decode cX10_init 41 = .ok (.newarray .int, 2) := by decide +kernel
theorem dX10_init_43 : decode cX10_init 43 = .ok (.putfield 22, 3) := by decide +kernel
theorem dX10_init_46 : decode cX10_init 46 = .ok (.aload_n 0, 1) := by decide +kernel
theorem dX10_init_47 : decode cX10_init 47 = .ok (.bipush 7, 2) := by decide +kernel
theorem dX10_init_49 : decode cX10_init 49 = .ok (.newarray .int, 2) := by decide +kernel
theorem dX10_init_51 : decode cX10_init 51 = .ok (.putfield 25, 3) := by decide +kernel
theorem dX10_init_54 : decode cX10_init 54 = .ok (.aload_n 0, 1) := by decide +kernel
theorem dX10_init_55 : decode cX10_init 55 = .ok (.bipush 6, 2) := by decide +kernel
theorem dX10_init_57 : decode cX10_init 57 = .ok (.newarray .int, 2) := by decide +kernel
theorem dX10_init_59 : decode cX10_init 59 = .ok (.putfield 28, 3) := by decide +kernel
theorem dX10_init_62 : decode cX10_init 62 = .ok (.aload_n 0, 1) := by decide +kernel
theorem dX10_init_63 : decode cX10_init 63 = .ok (.bipush 6, 2) := by decide +kernel
theorem dX10_init_65 : decode cX10_init 65 = .ok (.newarray .int, 2) := by decide +kernel
theorem dX10_init_67 : decode cX10_init 67 = .ok (.putfield 31, 3) := by decide +kernel
theorem dX10_init_70 : decode cX10_init 70 = .ok (.aload_n 0, 1) := by decide +kernel
theorem dX10_init_71 : decode cX10_init 71 = .ok (.bipush 10, 2) := by decide +kernel
theorem dX10_init_73 : decode cX10_init 73 = .ok (.newarray .int, 2) := by decide +kernel
theorem dX10_init_75 : decode cX10_init 75 = .ok (.putfield 34, 3) := by decide +kernel
theorem dX10_init_78 : decode cX10_init 78 = .ok (.aload_n 0, 1) := by decide +kernel
theorem dX10_init_79 : decode cX10_init 79 = .ok (.bipush 10, 2) := by decide +kernel
theorem dX10_init_81 : decode cX10_init 81 = .ok (.newarray .int, 2) := by decide +kernel
theorem dX10_init_83 : decode cX10_init 83 = .ok (.putfield 37, 3) := by decide +kernel
theorem dX10_init_86 : decode cX10_init 86 = .ok (.aload_n 0, 1) := by decide +kernel
theorem dX10_init_87 : decode cX10_init 87 = .ok (.bipush 10, 2) := by decide +kernel
theorem dX10_init_89 : decode cX10_init 89 = .ok (.newarray .int, 2) := by decide +kernel
theorem dX10_init_91 : decode cX10_init 91 = .ok (.putfield 40, 3) := by decide +kernel
theorem dX10_init_94 : decode cX10_init 94 = .ok (.aload_n 0, 1) := by decide +kernel
theorem dX10_init_95 : decode cX10_init 95 = .ok (.bipush 10, 2) := by decide +kernel
theorem dX10_init_97 : decode cX10_init 97 = .ok (.newarray .int, 2) := by decide +kernel
theorem dX10_init_99 : decode cX10_init 99 = .ok (.putfield 43, 3) := by decide +kernel
theorem dX10_init_102 : decode cX10_init 102 = .ok (.aload_n 0, 1) := by decide +kernel
theorem dX10_init_103 : decode cX10_init 103 = .ok (.bipush 60, 2) := by decide +kernel
theorem dX10_init_105 : decode cX10_init 105 = .ok (.newarray .int, 2) := by decide +kernel
theorem dX10_init_107 : decode cX10_init 107 = .ok (.putfield 46, 3) := by decide +kernel
theorem dX10_init_110 : decode cX10_init 110 = .ok (.aload_n 0, 1) := by decide +kernel
theorem dX10_init_111 : decode cX10_init 111 = .ok (.iconst 4, 1) := by decide +kernel
theorem dX10_init_112 : decode cX10_init 112 = .ok (.newarray .int, 2) := by decide +kernel
theorem dX10_init_114 : decode cX10_init 114 = .ok (.putfield 49, 3) := by decide +kernel
theorem dX10_init_117 : decode cX10_init 117 = .ok (.aload_n 0, 1) := by decide +kernel
theorem dX10_init_118 : decode cX10_init 118 = .ok (.iconst 4, 1) := by decide +kernel
theorem dX10_init_119 : decode cX10_init 119 = .ok (.newarray .int, 2) := by decide +kernel
theorem dX10_init_121 : decode cX10_init 121 = .ok (.putfield 52, 3) := by decide +kernel
theorem dX10_init_124 : decode cX10_init 124 = .ok (.aload_n 0, 1) := by decide +kernel
theorem dX10_init_125 : decode cX10_init 125 = .ok (.sipush 240, 3) := by decide +kernel
theorem dX10_init_128 : decode cX10_init 128 = .ok (.newarray .int, 2) := by decide +kernel
theorem dX10_init_130 : decode cX10_init 130 = .ok (.putfield 55, 3) := by decide +kernel
theorem dX10_init_133 : decode cX10_init 133 = .ok (.aload_n 0, 1) := by decide +kernel
theorem dX10_init_134 : decode cX10_init 134 = .ok (.bipush 60, 2) := by decide +kernel
theorem dX10_init_136 : decode cX10_init 136 = .ok (.newarray .int, 2) := by decide +kernel
theorem dX10_init_138 : decode cX10_init 138 = .ok (.putfield 58, 3) := by decide +kernel
theorem dX10_init_141 : decode cX10_init 141 = .ok (.iconst 0, 1) := by decide +kernel
theorem dX10_init_142 : decode cX10_init 142 = .ok (.istore_n 1, 1) := by decide +kernel
theorem dX10_init_143 : decode cX10_init 143 = .ok (.iload_n 1, 1) := by decide +kernel
theorem dX10_init_144 : decode cX10_init 144 = .ok (.iconst 4, 1) := by decide +kernel
theorem dX10_init_145 : decode cX10_init 145 = .ok (.if_icmp .ge 16, 3) := by decide +kernel
theorem dX10_init_148 : decode cX10_init 148 = .ok (.aload_n 0, 1) := by decide +kernel
theorem dX10_init_149 : decode cX10_init 149 = .ok (.getfield 49, 3) := by decide +kernel
theorem dX10_init_152 : decode cX10_init 152 = .ok (.iload_n 1, 1) := by decide +kernel
theorem dX10_init_153 : decode cX10_init 153 = .ok (.iconst (-1), 1) := by decide +kernel
theorem dX10_init_154 : decode cX10_init 154 = .ok (.iastore, 1) := by decide +kernel
theorem dX10_init_155 : decode cX10_init 155 = .ok (.iinc 1 1, 3) := by decide +kernel
theorem dX10_init_158 : decode cX10_init 158 = .ok (.goto (-15), 3) := by decide +kernel
theorem dX10_init_161 : decode cX10_init 161 = .ok (.return_, 1) := by decide +kernel
theorem dX10_in_0 : decode cX10_in 0 = .ok (.lload_n 0, 1) := by decide +kernel
theorem dX10_in_1 : decode cX10_in 1 = .ok (.lload_n 2, 1) := by decide +kernel
theorem dX10_in_2 : decode cX10_in 2 = .ok (.lcmp, 1) := by decide +kernel
theorem dX10_in_3 : decode cX10_in 3 = .ok (.ifCond .lt 14, 3) := by decide +kernel
theorem dX10_in_6 : decode cX10_in 6 = .ok (.lload_n 0, 1) := by decide +kernel
theorem dX10_in_7 : decode cX10_in 7 = .ok (.lload 4, 2) := by decide +kernel
theorem dX10_in_9 : decode cX10_in 9 = .ok (.lcmp, 1) := by decide +kernel
theorem dX10_in_10 : decode cX10_in 10 = .ok (.ifCond .gt 7, 3) := by decide +kernel
theorem dX10_in_13 : decode cX10_in 13 = .ok (.iconst 1, 1) := by decide +kernel
theorem dX10_in_14 : decode cX10_in 14 = .ok (.goto 4, 3) := by decide +kernel
theorem dX10_in_17 : decode cX10_in 17 = .ok (.iconst 0, 1) := by decide +kernel
theorem dX10_in_18 : decode cX10_in 18 = .ok (.ireturn, 1) := by decide +kernel
theorem dX10_lost_0 : decode cX10_lost 0 = .ok (.ldc2_w 61, 3) := by decide +kernel
theorem dX10_lost_3 : decode cX10_lost 3 = .ok (.lreturn, 1) := by decide +kernel
theorem dX10_lesser_0 : decode cX10_lesser 0 = .ok (.iload_n 0, 1) := by decide +kernel
theorem dX10_lesser_1 : decode cX10_lesser 1 = .ok (.iload_n 1, 1) := by decide +kernel
theorem dX10_lesser_2 : decode cX10_lesser 2 = .ok (.if_icmp .ge 7, 3) := by decide +kernel
theorem dX10_lesser_5 : decode cX10_lesser 5 = .ok (.iload_n 0, 1) := by decide +kernel
theorem dX10_lesser_6 : decode cX10_lesser 6 = .ok (.goto 4, 3) := by decide +kernel
theorem dX10_lesser_9 : decode cX10_lesser 9 = .ok (.iload_n 1, 1) := by decide +kernel
theorem dX10_lesser_10 : decode cX10_lesser 10 = .ok (.ireturn, 1) := by decide +kernel
theorem dX10_told_0 : decode cX10_told 0 = .ok (.lload_n 0, 1) := by decide +kernel
theorem dX10_told_1 : decode cX10_told 1 = .ok (.lstore 5, 2) := by decide +kernel
theorem dX10_told_3 : decode cX10_told 3 = .ok (.lload_n 2, 1) := by decide +kernel
theorem dX10_told_4 : decode cX10_told 4 = .ok (.lstore 7, 2) := by decide +kernel
theorem dX10_told_6 : decode cX10_told 6 = .ok (.lload 7, 2) := by decide +kernel
theorem dX10_told_8 : decode cX10_told 8 = .ok (.lconst 0, 1) := by decide +kernel
theorem dX10_told_9 : decode cX10_told 9 = .ok (.lcmp, 1) := by decide +kernel
theorem dX10_told_10 : decode cX10_told 10 = .ok (.ifCond .eq 21, 3) := by decide +kernel
theorem dX10_told_13 : decode cX10_told 13 = .ok (.lload 5, 2) := by decide +kernel
theorem dX10_told_15 : decode cX10_told 15 = .ok (.lload 7, 2) := by decide +kernel
theorem dX10_told_17 : decode cX10_told 17 = .ok (.lrem, 1) := by decide +kernel
theorem dX10_told_18 : decode cX10_told 18 = .ok (.lstore 9, 2) := by decide +kernel
theorem dX10_told_20 : decode cX10_told 20 = .ok (.lload 7, 2) := by decide +kernel
theorem dX10_told_22 : decode cX10_told 22 = .ok (.lstore 5, 2) := by decide +kernel
theorem dX10_told_24 : decode cX10_told 24 = .ok (.lload 9, 2) := by decide +kernel
theorem dX10_told_26 : decode cX10_told 26 = .ok (.lstore 7, 2) := by decide +kernel
theorem dX10_told_28 : decode cX10_told 28 = .ok (.goto (-22), 3) := by decide +kernel
theorem dX10_told_31 : decode cX10_told 31 = .ok (.iload 4, 2) := by decide +kernel
theorem dX10_told_33 : decode cX10_told 33 = .ok (.ifCond .ne 7, 3) := by decide +kernel
theorem dX10_told_36 : decode cX10_told 36 = .ok (.lload_n 0, 1) := by decide +kernel
theorem dX10_told_37 : decode cX10_told 37 = .ok (.goto 4, 3) := by decide +kernel
theorem dX10_told_40 : decode cX10_told 40 = .ok (.lload_n 2, 1) := by decide +kernel
theorem dX10_told_41 : decode cX10_told 41 = .ok (.lload 5, 2) := by decide +kernel
theorem dX10_told_43 : decode cX10_told 43 = .ok (.ldiv, 1) := by decide +kernel
theorem dX10_told_44 : decode cX10_told 44 = .ok (.lreturn, 1) := by decide +kernel
theorem dX10_refused_0 : decode cX10_refused 0 = .ok (.aload_n 0, 1) := by decide +kernel
theorem dX10_refused_1 : decode cX10_refused 1 = .ok (.iconst 0, 1) := by decide +kernel
theorem dX10_refused_2 : decode cX10_refused 2 = .ok (.putfield 63, 3) := by decide +kernel
theorem dX10_refused_5 : decode cX10_refused 5 = .ok (.iload_n 1, 1) := by decide +kernel
theorem dX10_refused_6 : decode cX10_refused 6 = .ok (.ireturn, 1) := by decide +kernel
theorem dX10_failed_0 : decode cX10_failed 0 = .ok (.aload_n 0, 1) := by decide +kernel
theorem dX10_failed_1 : decode cX10_failed 1 = .ok (.iload_n 1, 1) := by decide +kernel
theorem dX10_failed_2 : decode cX10_failed 2 = .ok (.putfield 63, 3) := by decide +kernel
theorem dX10_failed_5 : decode cX10_failed 5 = .ok (.bipush (-10), 2) := by decide +kernel
theorem dX10_failed_7 : decode cX10_failed 7 = .ok (.iload_n 1, 1) := by decide +kernel
theorem dX10_failed_8 : decode cX10_failed 8 = .ok (.isub, 1) := by decide +kernel
theorem dX10_failed_9 : decode cX10_failed 9 = .ok (.ireturn, 1) := by decide +kernel
theorem dX10_failedLong_0 : decode cX10_failedLong 0 = .ok (.aload_n 0, 1) := by decide +kernel
theorem dX10_failedLong_1 : decode cX10_failedLong 1 = .ok (.iload_n 1, 1) := by decide +kernel
theorem dX10_failedLong_2 : decode cX10_failedLong 2 = .ok (.putfield 63, 3) := by decide +kernel
theorem dX10_failedLong_5 : decode cX10_failedLong 5 = .ok (.invokestatic 67, 3) := by decide +kernel
theorem dX10_failedLong_8 : decode cX10_failedLong 8 = .ok (.lreturn, 1) := by decide +kernel
theorem dX10_hedges_0 : decode cX10_hedges 0 = .ok (.aload_n 0, 1) := by decide +kernel
theorem dX10_hedges_1 : decode cX10_hedges 1 = .ok (.getfield 71, 3) := by decide +kernel
theorem dX10_hedges_4 : decode cX10_hedges 4 = .ok (.ifCond .le 12, 3) := by decide +kernel
theorem dX10_hedges_7 : decode cX10_hedges 7 = .ok (.aload_n 0, 1) := by decide +kernel
theorem dX10_hedges_8 : decode cX10_hedges 8 = .ok (.getfield 71, 3) := by decide +kernel
theorem dX10_hedges_11 : decode cX10_hedges 11 = .ok (.iconst 1, 1) := by decide +kernel
theorem dX10_hedges_12 : decode cX10_hedges 12 = .ok (.isub, 1) := by decide +kernel
theorem dX10_hedges_13 : decode cX10_hedges 13 = .ok (.goto 4, 3) := by decide +kernel
theorem dX10_hedges_16 : decode cX10_hedges 16 = .ok (.iconst 0, 1) := by decide +kernel
theorem dX10_hedges_17 : decode cX10_hedges 17 = .ok (.ireturn, 1) := by decide +kernel
theorem dX10_noGarden_0 : decode cX10_noGarden 0 = .ok (.iload_n 1, 1) := by decide +kernel
theorem dX10_noGarden_1 : decode cX10_noGarden 1 = .ok (.i2l, 1) := by decide +kernel
theorem dX10_noGarden_2 : decode cX10_noGarden 2 = .ok (.lconst 0, 1) := by decide +kernel
theorem dX10_noGarden_3 : decode cX10_noGarden 3 = .ok (.aload_n 0, 1) := by decide +kernel
theorem dX10_noGarden_4 : decode cX10_noGarden 4 = .ok (.getfield 71, 3) := by decide +kernel
theorem dX10_noGarden_7 : decode cX10_noGarden 7 = .ok (.i2l, 1) := by decide +kernel
theorem dX10_noGarden_8 : decode cX10_noGarden 8 = .ok (.lconst 1, 1) := by decide +kernel
theorem dX10_noGarden_9 : decode cX10_noGarden 9 = .ok (.lsub, 1) := by decide +kernel
theorem dX10_noGarden_10 : decode cX10_noGarden 10 = .ok (.invokestatic 74, 3) := by decide +kernel
theorem dX10_noGarden_13 : decode cX10_noGarden 13 = .ok (.ifCond .ne 7, 3) := by decide +kernel
theorem dX10_noGarden_16 : decode cX10_noGarden 16 = .ok (.iconst 1, 1) := by decide +kernel
theorem dX10_noGarden_17 : decode cX10_noGarden 17 = .ok (.goto 4, 3) := by decide +kernel
theorem dX10_noGarden_20 : decode cX10_noGarden 20 = .ok (.iconst 0, 1) := by decide +kernel
theorem dX10_noGarden_21 : decode cX10_noGarden 21 = .ok (.ireturn, 1) := by decide +kernel
theorem dX10_noHedge_0 : decode cX10_noHedge 0 = .ok (.iload_n 1, 1) := by decide +kernel
theorem dX10_noHedge_1 : decode cX10_noHedge 1 = .ok (.i2l, 1) := by decide +kernel
theorem dX10_noHedge_2 : decode cX10_noHedge 2 = .ok (.lconst 0, 1) := by decide +kernel
theorem dX10_noHedge_3 : decode cX10_noHedge 3 = .ok (.aload_n 0, 1) := by decide +kernel
theorem dX10_noHedge_4 : decode cX10_noHedge 4 = .ok (.invokevirtual 78, 3) := by decide +kernel
theorem dX10_noHedge_7 : decode cX10_noHedge 7 = .ok (.i2l, 1) := by decide +kernel
theorem dX10_noHedge_8 : decode cX10_noHedge 8 = .ok (.lconst 1, 1) := by decide +kernel
theorem dX10_noHedge_9 : decode cX10_noHedge 9 = .ok (.lsub, 1) := by decide +kernel
theorem dX10_noHedge_10 : decode cX10_noHedge 10 = .ok (.invokestatic 74, 3) := by decide +kernel
theorem dX10_noHedge_13 : decode cX10_noHedge 13 = .ok (.ifCond .ne 7, 3) := by decide +kernel
theorem dX10_noHedge_16 : decode cX10_noHedge 16 = .ok (.iconst 1, 1) := by decide +kernel
theorem dX10_noHedge_17 : decode cX10_noHedge 17 = .ok (.goto 4, 3) := by decide +kernel
theorem dX10_noHedge_20 : decode cX10_noHedge 20 = .ok (.iconst 0, 1) := by decide +kernel
theorem dX10_noHedge_21 : decode cX10_noHedge 21 = .ok (.ireturn, 1) := by decide +kernel
theorem dX10_isDay_0 : decode cX10_isDay 0 = .ok (.iload_n 0, 1) := by decide +kernel
theorem dX10_isDay_1 : decode cX10_isDay 1 = .ok (.i2l, 1) := by decide +kernel
theorem dX10_isDay_2 : decode cX10_isDay 2 = .ok (.lconst 0, 1) := by decide +kernel
theorem dX10_isDay_3 : decode cX10_isDay 3 = .ok (.ldc2_w 82, 3) := by decide +kernel
theorem dX10_isDay_6 : decode cX10_isDay 6 = .ok (.invokestatic 74, 3) := by decide +kernel
theorem dX10_isDay_9 : decode cX10_isDay 9 = .ok (.ireturn, 1) := by decide +kernel
theorem dX10_isDawn_0 : decode cX10_isDawn 0 = .ok (.iload_n 0, 1) := by decide +kernel
theorem dX10_isDawn_1 : decode cX10_isDawn 1 = .ok (.i2l, 1) := by decide +kernel
theorem dX10_isDawn_2 : decode cX10_isDawn 2 = .ok (.lconst 0, 1) := by decide +kernel
theorem dX10_isDawn_3 : decode cX10_isDawn 3 = .ok (.ldc2_w 84, 3) := by decide +kernel
theorem dX10_isDawn_6 : decode cX10_isDawn 6 = .ok (.invokestatic 74, 3) := by decide +kernel
theorem dX10_isDawn_9 : decode cX10_isDawn 9 = .ok (.ireturn, 1) := by decide +kernel
theorem dX10_isSide_0 : decode cX10_isSide 0 = .ok (.iload_n 0, 1) := by decide +kernel
theorem dX10_isSide_1 : decode cX10_isSide 1 = .ok (.i2l, 1) := by decide +kernel
theorem dX10_isSide_2 : decode cX10_isSide 2 = .ok (.lconst 0, 1) := by decide +kernel
theorem dX10_isSide_3 : decode cX10_isSide 3 = .ok (.lconst 1, 1) := by decide +kernel
theorem dX10_isSide_4 : decode cX10_isSide 4 = .ok (.invokestatic 74, 3) := by decide +kernel
theorem dX10_isSide_7 : decode cX10_isSide 7 = .ok (.ireturn, 1) := by decide +kernel
theorem dX10_isFeet_0 : decode cX10_isFeet 0 = .ok (.iload_n 0, 1) := by decide +kernel
theorem dX10_isFeet_1 : decode cX10_isFeet 1 = .ok (.i2l, 1) := by decide +kernel
theorem dX10_isFeet_2 : decode cX10_isFeet 2 = .ok (.lconst 0, 1) := by decide +kernel
theorem dX10_isFeet_3 : decode cX10_isFeet 3 = .ok (.ldc2_w 86, 3) := by decide +kernel
theorem dX10_isFeet_6 : decode cX10_isFeet 6 = .ok (.invokestatic 74, 3) := by decide +kernel
theorem dX10_isFeet_9 : decode cX10_isFeet 9 = .ok (.ireturn, 1) := by decide +kernel
theorem dX10_codeAt_0 : decode cX10_codeAt 0 = .ok (.aload_n 0, 1) := by decide +kernel
theorem dX10_codeAt_1 : decode cX10_codeAt 1 = .ok (.getfield 88, 3) := by decide +kernel
theorem dX10_codeAt_4 : decode cX10_codeAt 4 = .ok (.iload_n 2, 1) := by decide +kernel
theorem dX10_codeAt_5 : decode cX10_codeAt 5 = .ok (.if_icmp .ge 17, 3) := by decide +kernel
theorem dX10_codeAt_8 : decode cX10_codeAt 8 = .ok (.aload_n 0, 1) := by decide +kernel
theorem dX10_codeAt_9 : decode cX10_codeAt 9 = .ok (.getfield 55, 3) := by decide +kernel
theorem dX10_codeAt_12 : decode cX10_codeAt 12 = .ok (.iload_n 1, 1) := by decide +kernel
theorem dX10_codeAt_13 : decode cX10_codeAt 13 = .ok (.aload_n 0, 1) := by decide +kernel
theorem dX10_codeAt_14 : decode cX10_codeAt 14 = .ok (.getfield 88, 3) := by decide +kernel
theorem dX10_codeAt_17 : decode cX10_codeAt 17 = .ok (.iadd, 1) := by decide +kernel
theorem dX10_codeAt_18 : decode cX10_codeAt 18 = .ok (.iaload, 1) := by decide +kernel
theorem dX10_codeAt_19 : decode cX10_codeAt 19 = .ok (.goto 5, 3) := by decide +kernel
theorem dX10_codeAt_22 : decode cX10_codeAt 22 = .ok (.bipush (-9), 2) := by decide +kernel
theorem dX10_codeAt_24 : decode cX10_codeAt 24 = .ok (.ireturn, 1) := by decide +kernel
theorem dX10_figure_0 : decode cX10_figure 0 = .ok (.aload_n 0, 1) := by decide +kernel
theorem dX10_figure_1 : decode cX10_figure 1 = .ok (.iload_n 1, 1) := by decide +kernel
theorem dX10_figure_2 : decode cX10_figure 2 = .ok (.iload_n 2, 1) := by decide +kernel
theorem dX10_figure_3 : decode cX10_figure 3 = .ok (.invokevirtual 91, 3) := by decide +kernel
theorem dX10_figure_6 : decode cX10_figure 6 = .ok (.bipush 48, 2) := by decide +kernel
theorem dX10_figure_8 : decode cX10_figure 8 = .ok (.isub, 1) := by decide +kernel
theorem dX10_figure_9 : decode cX10_figure 9 = .ok (.istore_n 3, 1) := by decide +kernel
theorem dX10_figure_10 : decode cX10_figure 10 = .ok (.iload_n 3, 1) := by decide +kernel
theorem dX10_figure_11 : decode cX10_figure 11 = .ok (.i2l, 1) := by decide +kernel
theorem dX10_figure_12 : decode cX10_figure 12 = .ok (.lconst 0, 1) := by decide +kernel
theorem dX10_figure_13 : decode cX10_figure 13 = .ok (.ldc2_w 95, 3) := by decide +kernel
theorem dX10_figure_16 : decode cX10_figure 16 = .ok (.invokestatic 74, 3) := by decide +kernel
theorem dX10_figure_19 : decode cX10_figure 19 = .ok (.istore 4, 2) := by decide +kernel
theorem dX10_figure_21 : decode cX10_figure 21 = .ok (.aload_n 0, 1) := by decide +kernel
theorem dX10_figure_22 : decode cX10_figure 22 = .ok (.dup, 1) := by decide +kernel
theorem dX10_figure_23 : decode cX10_figure 23 = .ok (.getfield 88, 3) := by decide +kernel
theorem dX10_figure_26 : decode cX10_figure 26 = .ok (.iload 4, 2) := by decide +kernel
theorem dX10_figure_28 : decode cX10_figure 28 = .ok (.ifCond .eq 7, 3) := by decide +kernel
theorem dX10_figure_31 : decode cX10_figure 31 = .ok (.iconst 1, 1) := by decide +kernel
theorem dX10_figure_32 : decode cX10_figure 32 = .ok (.goto 4, 3) := by decide +kernel
theorem dX10_figure_35 : decode cX10_figure 35 = .ok (.iconst 0, 1) := by decide +kernel
theorem dX10_figure_36 : decode cX10_figure 36 = .ok (.iadd, 1) := by decide +kernel
theorem dX10_figure_37 : decode cX10_figure 37 = .ok (.putfield 88, 3) := by decide +kernel
theorem dX10_figure_40 : decode cX10_figure 40 = .ok (.iload 4, 2) := by decide +kernel
theorem dX10_figure_42 : decode cX10_figure 42 = .ok (.ifCond .eq 7, 3) := by decide +kernel
theorem dX10_figure_45 : decode cX10_figure 45 = .ok (.iload_n 3, 1) := by decide +kernel
theorem dX10_figure_46 : decode cX10_figure 46 = .ok (.goto 5, 3) := by decide +kernel
theorem dX10_figure_49 : decode cX10_figure 49 = .ok (.bipush (-9), 2) := by decide +kernel
theorem dX10_figure_51 : decode cX10_figure 51 = .ok (.ireturn, 1) := by decide +kernel
theorem dX10_readsMore_0 : decode cX10_readsMore 0 = .ok (.aload_n 0, 1) := by decide +kernel
theorem dX10_readsMore_1 : decode cX10_readsMore 1 = .ok (.iload_n 1, 1) := by decide +kernel
theorem dX10_readsMore_2 : decode cX10_readsMore 2 = .ok (.iload_n 2, 1) := by decide +kernel
theorem dX10_readsMore_3 : decode cX10_readsMore 3 = .ok (.invokevirtual 91, 3) := by decide +kernel
theorem dX10_readsMore_6 : decode cX10_readsMore 6 = .ok (.istore_n 3, 1) := by decide +kernel
theorem dX10_readsMore_7 : decode cX10_readsMore 7 = .ok (.aload_n 0, 1) := by decide +kernel
theorem dX10_readsMore_8 : decode cX10_readsMore 8 = .ok (.getfield 97, 3) := by decide +kernel
theorem dX10_readsMore_11 : decode cX10_readsMore 11 = .ok (.bipush 7, 2) := by decide +kernel
theorem dX10_readsMore_13 : decode cX10_readsMore 13 = .ok (.if_icmp .eq 21, 3) := by decide +kernel
theorem dX10_readsMore_16 : decode cX10_readsMore 16 = .ok (.iload_n 3, 1) := by decide +kernel
theorem dX10_readsMore_17 : decode cX10_readsMore 17 = .ok (.bipush 104, 2) := by decide +kernel
theorem dX10_readsMore_19 : decode cX10_readsMore 19 = .ok (.if_icmp .eq 17, 3) := by decide +kernel
theorem dX10_readsMore_22 : decode cX10_readsMore 22 = .ok (.iload_n 3, 1) := by decide +kernel
theorem dX10_readsMore_23 : decode cX10_readsMore 23 = .ok (.bipush 121, 2) := by decide +kernel
theorem dX10_readsMore_25 : decode cX10_readsMore 25 = .ok (.if_icmp .eq 11, 3) := by decide +kernel
theorem dX10_readsMore_28 : decode cX10_readsMore 28 = .ok (.iload_n 3, 1) := by decide +kernel
theorem dX10_readsMore_29 : decode cX10_readsMore 29 = .ok (.bipush 98, 2) := by decide +kernel
theorem dX10_readsMore_31 : decode cX10_readsMore 31 = .ok (.if_icmp .eq 5, 3) := by decide +kernel
theorem dX10_readsMore_34 : decode cX10_readsMore 34 = .ok (.iconst 0, 1) := by decide +kernel
theorem dX10_readsMore_35 : decode cX10_readsMore 35 = .ok (.ireturn, 1) := by decide +kernel
theorem dX10_readsMore_36 : decode cX10_readsMore 36 = .ok (.aload_n 0, 1) := by decide +kernel
theorem dX10_readsMore_37 : decode cX10_readsMore 37 = .ok (.dup, 1) := by decide +kernel
theorem dX10_readsMore_38 : decode cX10_readsMore 38 = .ok (.getfield 88, 3) := by decide +kernel
theorem dX10_readsMore_41 : decode cX10_readsMore 41 = .ok (.iconst 1, 1) := by decide +kernel
theorem dX10_readsMore_42 : decode cX10_readsMore 42 = .ok (.iadd, 1) := by decide +kernel
theorem dX10_readsMore_43 : decode cX10_readsMore 43 = .ok (.putfield 88, 3) := by decide +kernel
theorem dX10_readsMore_46 : decode cX10_readsMore 46 = .ok (.aload_n 0, 1) := by decide +kernel
theorem dX10_readsMore_47 : decode cX10_readsMore 47 = .ok (.iload_n 1, 1) := by decide +kernel
theorem dX10_readsMore_48 : decode cX10_readsMore 48 = .ok (.iload_n 2, 1) := by decide +kernel
theorem dX10_readsMore_49 : decode cX10_readsMore 49 = .ok (.invokevirtual 100, 3) := by decide +kernel
theorem dX10_readsMore_52 : decode cX10_readsMore 52 = .ok (.istore 4, 2) := by decide +kernel
theorem dX10_readsMore_54 : decode cX10_readsMore 54 = .ok (.iload 4, 2) := by decide +kernel
theorem dX10_readsMore_56 : decode cX10_readsMore 56 = .ok (.ifCond .ge 8, 3) := by decide +kernel
theorem dX10_readsMore_59 : decode cX10_readsMore 59 = .ok (.bipush (-9), 2) := by decide +kernel
theorem dX10_readsMore_61 : decode cX10_readsMore 61 = .ok (.goto 9, 3) := by decide +kernel
theorem dX10_readsMore_64 : decode cX10_readsMore 64 = .ok (.aload_n 0, 1) := by decide +kernel
theorem dX10_readsMore_65 : decode cX10_readsMore 65 = .ok (.iload_n 1, 1) := by decide +kernel
theorem dX10_readsMore_66 : decode cX10_readsMore 66 = .ok (.iload_n 2, 1) := by decide +kernel
theorem dX10_readsMore_67 : decode cX10_readsMore 67 = .ok (.invokevirtual 100, 3) := by decide +kernel
theorem dX10_readsMore_70 : decode cX10_readsMore 70 = .ok (.istore 5, 2) := by decide +kernel
theorem dX10_readsMore_72 : decode cX10_readsMore 72 = .ok (.iload 5, 2) := by decide +kernel
theorem dX10_readsMore_74 : decode cX10_readsMore 74 = .ok (.ifCond .ge 5, 3) := by decide +kernel
theorem dX10_readsMore_77 : decode cX10_readsMore 77 = .ok (.iconst 0, 1) := by decide +kernel
theorem dX10_readsMore_78 : decode cX10_readsMore 78 = .ok (.ireturn, 1) := by decide +kernel
theorem dX10_readsMore_79 : decode cX10_readsMore 79 = .ok (.aload_n 0, 1) := by decide +kernel
theorem dX10_readsMore_80 : decode cX10_readsMore 80 = .ok (.getfield 28, 3) := by decide +kernel
theorem dX10_readsMore_83 : decode cX10_readsMore 83 = .ok (.aload_n 0, 1) := by decide +kernel
theorem dX10_readsMore_84 : decode cX10_readsMore 84 = .ok (.getfield 97, 3) := by decide +kernel
theorem dX10_readsMore_87 : decode cX10_readsMore 87 = .ok (.iconst 1, 1) := by decide +kernel
theorem dX10_readsMore_88 : decode cX10_readsMore 88 = .ok (.isub, 1) := by decide +kernel
theorem dX10_readsMore_89 : decode cX10_readsMore 89 = .ok (.iload_n 3, 1) := by decide +kernel
theorem dX10_readsMore_90 : decode cX10_readsMore 90 = .ok (.bipush 104, 2) := by decide +kernel
theorem dX10_readsMore_92 : decode cX10_readsMore 92 = .ok (.if_icmp .ne 7, 3) := by decide +kernel
theorem dX10_readsMore_95 : decode cX10_readsMore 95 = .ok (.iconst 0, 1) := by decide +kernel
theorem dX10_readsMore_96 : decode cX10_readsMore 96 = .ok (.goto 14, 3) := by decide +kernel
theorem dX10_readsMore_99 : decode cX10_readsMore 99 = .ok (.iload_n 3, 1) := by decide +kernel
theorem dX10_readsMore_100 : decode cX10_readsMore 100 = .ok (.bipush 121, 2) := by decide +kernel
theorem dX10_readsMore_102 : decode cX10_readsMore 102 = .ok (.if_icmp .ne 7, 3) := by decide +kernel
theorem dX10_readsMore_105 : decode cX10_readsMore 105 = .ok (.iconst 1, 1) := by decide +kernel
theorem dX10_readsMore_106 : decode cX10_readsMore 106 = .ok (.goto 4, 3) := by decide +kernel
theorem dX10_readsMore_109 : decode cX10_readsMore 109 = .ok (.iconst 2, 1) := by decide +kernel
theorem dX10_readsMore_110 : decode cX10_readsMore 110 = .ok (.iastore, 1) := by decide +kernel
theorem dX10_readsMore_111 : decode cX10_readsMore 111 = .ok (.aload_n 0, 1) := by decide +kernel
theorem dX10_readsMore_112 : decode cX10_readsMore 112 = .ok (.getfield 31, 3) := by decide +kernel
theorem dX10_readsMore_115 : decode cX10_readsMore 115 = .ok (.aload_n 0, 1) := by decide +kernel
theorem dX10_readsMore_116 : decode cX10_readsMore 116 = .ok (.getfield 97, 3) := by decide +kernel
theorem dX10_readsMore_119 : decode cX10_readsMore 119 = .ok (.iconst 1, 1) := by decide +kernel
theorem dX10_readsMore_120 : decode cX10_readsMore 120 = .ok (.isub, 1) := by decide +kernel
theorem dX10_readsMore_121 : decode cX10_readsMore 121 = .ok (.iload 4, 2) := by decide +kernel
theorem dX10_readsMore_123 : decode cX10_readsMore 123 = .ok (.iastore, 1) := by decide +kernel
theorem dX10_readsMore_124 : decode cX10_readsMore 124 = .ok (.aload_n 0, 1) := by decide +kernel
theorem dX10_readsMore_125 : decode cX10_readsMore 125 = .ok (.getfield 25, 3) := by decide +kernel
theorem dX10_readsMore_128 : decode cX10_readsMore 128 = .ok (.aload_n 0, 1) := by decide +kernel
theorem dX10_readsMore_129 : decode cX10_readsMore 129 = .ok (.getfield 97, 3) := by decide +kernel
theorem dX10_readsMore_132 : decode cX10_readsMore 132 = .ok (.iload 5, 2) := by decide +kernel
theorem dX10_readsMore_134 : decode cX10_readsMore 134 = .ok (.iastore, 1) := by decide +kernel
theorem dX10_readsMore_135 : decode cX10_readsMore 135 = .ok (.aload_n 0, 1) := by decide +kernel
theorem dX10_readsMore_136 : decode cX10_readsMore 136 = .ok (.dup, 1) := by decide +kernel
theorem dX10_readsMore_137 : decode cX10_readsMore 137 = .ok (.getfield 97, 3) := by decide +kernel
theorem dX10_readsMore_140 : decode cX10_readsMore 140 = .ok (.iconst 1, 1) := by decide +kernel
theorem dX10_readsMore_141 : decode cX10_readsMore 141 = .ok (.iadd, 1) := by decide +kernel
theorem dX10_readsMore_142 : decode cX10_readsMore 142 = .ok (.putfield 97, 3) := by decide +kernel
theorem dX10_readsMore_145 : decode cX10_readsMore 145 = .ok (.iconst 1, 1) := by decide +kernel
theorem dX10_readsMore_146 : decode cX10_readsMore 146 = .ok (.ireturn, 1) := by decide +kernel
theorem dX10_readsAll_0 : decode cX10_readsAll 0 = .ok (.aload_n 0, 1) := by decide +kernel
theorem dX10_readsAll_1 : decode cX10_readsAll 1 = .ok (.iconst 0, 1) := by decide +kernel
theorem dX10_readsAll_2 : decode cX10_readsAll 2 = .ok (.putfield 88, 3) := by decide +kernel
theorem dX10_readsAll_5 : decode cX10_readsAll 5 = .ok (.aload_n 0, 1) := by decide +kernel
theorem dX10_readsAll_6 : decode cX10_readsAll 6 = .ok (.iconst 1, 1) := by decide +kernel
theorem dX10_readsAll_7 : decode cX10_readsAll 7 = .ok (.putfield 97, 3) := by decide +kernel
theorem dX10_readsAll_10 : decode cX10_readsAll 10 = .ok (.aload_n 0, 1) := by decide +kernel
theorem dX10_readsAll_11 : decode cX10_readsAll 11 = .ok (.iload_n 1, 1) := by decide +kernel
theorem dX10_readsAll_12 : decode cX10_readsAll 12 = .ok (.iload_n 2, 1) := by decide +kernel
theorem dX10_readsAll_13 : decode cX10_readsAll 13 = .ok (.invokevirtual 91, 3) := by decide +kernel
theorem dX10_readsAll_16 : decode cX10_readsAll 16 = .ok (.bipush 103, 2) := by decide +kernel
theorem dX10_readsAll_18 : decode cX10_readsAll 18 = .ok (.if_icmp .eq 5, 3) := by decide +kernel
theorem dX10_readsAll_21 : decode cX10_readsAll 21 = .ok (.iconst 0, 1) := by decide +kernel
theorem dX10_readsAll_22 : decode cX10_readsAll 22 = .ok (.ireturn, 1) := by decide +kernel
theorem dX10_readsAll_23 : decode cX10_readsAll 23 = .ok (.aload_n 0, 1) := by decide +kernel
theorem dX10_readsAll_24 : decode cX10_readsAll 24 = .ok (.dup, 1) := by decide +kernel
theorem dX10_readsAll_25 : decode cX10_readsAll 25 = .ok (.getfield 88, 3) := by decide +kernel
theorem dX10_readsAll_28 : decode cX10_readsAll 28 = .ok (.iconst 1, 1) := by decide +kernel
theorem dX10_readsAll_29 : decode cX10_readsAll 29 = .ok (.iadd, 1) := by decide +kernel
theorem dX10_readsAll_30 : decode cX10_readsAll 30 = .ok (.putfield 88, 3) := by decide +kernel
theorem dX10_readsAll_33 : decode cX10_readsAll 33 = .ok (.aload_n 0, 1) := by decide +kernel
theorem dX10_readsAll_34 : decode cX10_readsAll 34 = .ok (.getfield 25, 3) := by decide +kernel
theorem dX10_readsAll_37 : decode cX10_readsAll 37 = .ok (.iconst 0, 1) := by decide +kernel
theorem dX10_readsAll_38 : decode cX10_readsAll 38 = .ok (.aload_n 0, 1) := by decide +kernel
theorem dX10_readsAll_39 : decode cX10_readsAll 39 = .ok (.iload_n 1, 1) := by decide +kernel
theorem dX10_readsAll_40 : decode cX10_readsAll 40 = .ok (.iload_n 2, 1) := by decide +kernel
theorem dX10_readsAll_41 : decode cX10_readsAll 41 = .ok (.invokevirtual 100, 3) := by decide +kernel
theorem dX10_readsAll_44 : decode cX10_readsAll 44 = .ok (.iastore, 1) := by decide +kernel
theorem dX10_readsAll_45 : decode cX10_readsAll 45 = .ok (.aload_n 0, 1) := by decide +kernel
theorem dX10_readsAll_46 : decode cX10_readsAll 46 = .ok (.getfield 25, 3) := by decide +kernel
theorem dX10_readsAll_49 : decode cX10_readsAll 49 = .ok (.iconst 0, 1) := by decide +kernel
theorem dX10_readsAll_50 : decode cX10_readsAll 50 = .ok (.iaload, 1) := by decide +kernel
theorem dX10_readsAll_51 : decode cX10_readsAll 51 = .ok (.ifCond .lt 16, 3) := by decide +kernel
theorem dX10_readsAll_54 : decode cX10_readsAll 54 = .ok (.aload_n 0, 1) := by decide +kernel
theorem dX10_readsAll_55 : decode cX10_readsAll 55 = .ok (.iload_n 1, 1) := by decide +kernel
theorem dX10_readsAll_56 : decode cX10_readsAll 56 = .ok (.iload_n 2, 1) := by decide +kernel
theorem dX10_readsAll_57 : decode cX10_readsAll 57 = .ok (.invokevirtual 103, 3) := by decide +kernel
theorem dX10_readsAll_60 : decode cX10_readsAll 60 = .ok (.ifCond .eq 7, 3) := by decide +kernel
theorem dX10_readsAll_63 : decode cX10_readsAll 63 = .ok (.iconst 1, 1) := by decide +kernel
theorem dX10_readsAll_64 : decode cX10_readsAll 64 = .ok (.goto 4, 3) := by decide +kernel
theorem dX10_readsAll_67 : decode cX10_readsAll 67 = .ok (.iconst 0, 1) := by decide +kernel
theorem dX10_readsAll_68 : decode cX10_readsAll 68 = .ok (.istore_n 3, 1) := by decide +kernel
theorem dX10_readsAll_69 : decode cX10_readsAll 69 = .ok (.iload_n 3, 1) := by decide +kernel
theorem dX10_readsAll_70 : decode cX10_readsAll 70 = .ok (.ifCond .eq 21, 3) := by decide +kernel
theorem dX10_readsAll_73 : decode cX10_readsAll 73 = .ok (.aload_n 0, 1) := by decide +kernel
theorem dX10_readsAll_74 : decode cX10_readsAll 74 = .ok (.getfield 88, 3) := by decide +kernel
theorem dX10_readsAll_77 : decode cX10_readsAll 77 = .ok (.iload_n 2, 1) := by decide +kernel
theorem dX10_readsAll_78 : decode cX10_readsAll 78 = .ok (.if_icmp .ge 13, 3) := by decide +kernel
theorem dX10_readsAll_81 : decode cX10_readsAll 81 = .ok (.aload_n 0, 1) := by decide +kernel
theorem dX10_readsAll_82 : decode cX10_readsAll 82 = .ok (.iload_n 1, 1) := by decide +kernel
theorem dX10_readsAll_83 : decode cX10_readsAll 83 = .ok (.iload_n 2, 1) := by decide +kernel
theorem dX10_readsAll_84 : decode cX10_readsAll 84 = .ok (.invokevirtual 103, 3) := by decide +kernel
theorem dX10_readsAll_87 : decode cX10_readsAll 87 = .ok (.istore_n 3, 1) := by decide +kernel
theorem dX10_readsAll_88 : decode cX10_readsAll 88 = .ok (.goto (-19), 3) := by decide +kernel
theorem dX10_readsAll_91 : decode cX10_readsAll 91 = .ok (.iload_n 3, 1) := by decide +kernel
theorem dX10_readsAll_92 : decode cX10_readsAll 92 = .ok (.ireturn, 1) := by decide +kernel
theorem dX10_gardens_0 : decode cX10_gardens 0 = .ok (.iload_n 1, 1) := by decide +kernel
theorem dX10_gardens_1 : decode cX10_gardens 1 = .ok (.invokestatic 107, 3) := by decide +kernel
theorem dX10_gardens_4 : decode cX10_gardens 4 = .ok (.ifCond .eq 9, 3) := by decide +kernel
theorem dX10_gardens_7 : decode cX10_gardens 7 = .ok (.aload_n 0, 1) := by decide +kernel
theorem dX10_gardens_8 : decode cX10_gardens 8 = .ok (.iconst (-1), 1) := by decide +kernel
theorem dX10_gardens_9 : decode cX10_gardens 9 = .ok (.invokevirtual 111, 3) := by decide +kernel
theorem dX10_gardens_12 : decode cX10_gardens 12 = .ok (.ireturn, 1) := by decide +kernel
theorem dX10_gardens_13 : decode cX10_gardens 13 = .ok (.iload_n 2, 1) := by decide +kernel
theorem dX10_gardens_14 : decode cX10_gardens 14 = .ok (.i2l, 1) := by decide +kernel
theorem dX10_gardens_15 : decode cX10_gardens 15 = .ok (.lconst 0, 1) := by decide +kernel
theorem dX10_gardens_16 : decode cX10_gardens 16 = .ok (.ldc2_w 115, 3) := by decide +kernel
theorem dX10_gardens_19 : decode cX10_gardens 19 = .ok (.invokestatic 74, 3) := by decide +kernel
theorem dX10_gardens_22 : decode cX10_gardens 22 = .ok (.ifCond .ne 10, 3) := by decide +kernel
theorem dX10_gardens_25 : decode cX10_gardens 25 = .ok (.aload_n 0, 1) := by decide +kernel
theorem dX10_gardens_26 : decode cX10_gardens 26 = .ok (.bipush (-2), 2) := by decide +kernel
theorem dX10_gardens_28 : decode cX10_gardens 28 = .ok (.invokevirtual 111, 3) := by decide +kernel
theorem dX10_gardens_31 : decode cX10_gardens 31 = .ok (.ireturn, 1) := by decide +kernel
theorem dX10_gardens_32 : decode cX10_gardens 32 = .ok (.aload_n 0, 1) := by decide +kernel
theorem dX10_gardens_33 : decode cX10_gardens 33 = .ok (.getfield 49, 3) := by decide +kernel
theorem dX10_gardens_36 : decode cX10_gardens 36 = .ok (.iload_n 1, 1) := by decide +kernel
theorem dX10_gardens_37 : decode cX10_gardens 37 = .ok (.iaload, 1) := by decide +kernel
theorem dX10_gardens_38 : decode cX10_gardens 38 = .ok (.ifCond .lt 19, 3) := by decide +kernel
theorem dX10_gardens_41 : decode cX10_gardens 41 = .ok (.aload_n 0, 1) := by decide +kernel
theorem dX10_gardens_42 : decode cX10_gardens 42 = .ok (.getfield 52, 3) := by decide +kernel
theorem dX10_gardens_45 : decode cX10_gardens 45 = .ok (.iload_n 1, 1) := by decide +kernel
theorem dX10_gardens_46 : decode cX10_gardens 46 = .ok (.iaload, 1) := by decide +kernel
theorem dX10_gardens_47 : decode cX10_gardens 47 = .ok (.iload_n 2, 1) := by decide +kernel
theorem dX10_gardens_48 : decode cX10_gardens 48 = .ok (.if_icmp .eq 9, 3) := by decide +kernel
theorem dX10_gardens_51 : decode cX10_gardens 51 = .ok (.aload_n 0, 1) := by decide +kernel
theorem dX10_gardens_52 : decode cX10_gardens 52 = .ok (.iconst 2, 1) := by decide +kernel
theorem dX10_gardens_53 : decode cX10_gardens 53 = .ok (.invokevirtual 117, 3) := by decide +kernel
theorem dX10_gardens_56 : decode cX10_gardens 56 = .ok (.ireturn, 1) := by decide +kernel
theorem dX10_gardens_57 : decode cX10_gardens 57 = .ok (.aload_n 0, 1) := by decide +kernel
theorem dX10_gardens_58 : decode cX10_gardens 58 = .ok (.getfield 49, 3) := by decide +kernel
theorem dX10_gardens_61 : decode cX10_gardens 61 = .ok (.iload_n 1, 1) := by decide +kernel
theorem dX10_gardens_62 : decode cX10_gardens 62 = .ok (.iaload, 1) := by decide +kernel
theorem dX10_gardens_63 : decode cX10_gardens 63 = .ok (.ifCond .ge 9, 3) := by decide +kernel
theorem dX10_gardens_66 : decode cX10_gardens 66 = .ok (.aload_n 0, 1) := by decide +kernel
theorem dX10_gardens_67 : decode cX10_gardens 67 = .ok (.iconst 1, 1) := by decide +kernel
theorem dX10_gardens_68 : decode cX10_gardens 68 = .ok (.invokevirtual 117, 3) := by decide +kernel
theorem dX10_gardens_71 : decode cX10_gardens 71 = .ok (.ireturn, 1) := by decide +kernel
theorem dX10_gardens_72 : decode cX10_gardens 72 = .ok (.iload 4, 2) := by decide +kernel
theorem dX10_gardens_74 : decode cX10_gardens 74 = .ok (.ifCond .ge 9, 3) := by decide +kernel
theorem dX10_gardens_77 : decode cX10_gardens 77 = .ok (.aload_n 0, 1) := by decide +kernel
theorem dX10_gardens_78 : decode cX10_gardens 78 = .ok (.iconst 4, 1) := by decide +kernel
theorem dX10_gardens_79 : decode cX10_gardens 79 = .ok (.invokevirtual 117, 3) := by decide +kernel
theorem dX10_gardens_82 : decode cX10_gardens 82 = .ok (.ireturn, 1) := by decide +kernel
theorem dX10_gardens_83 : decode cX10_gardens 83 = .ok (.iload_n 3, 1) := by decide +kernel
theorem dX10_gardens_84 : decode cX10_gardens 84 = .ok (.iload 4, 2) := by decide +kernel
theorem dX10_gardens_86 : decode cX10_gardens 86 = .ok (.i2l, 1) := by decide +kernel
theorem dX10_gardens_87 : decode cX10_gardens 87 = .ok (.aload_n 0, 1) := by decide +kernel
theorem dX10_gardens_88 : decode cX10_gardens 88 = .ok (.getfield 49, 3) := by decide +kernel
theorem dX10_gardens_91 : decode cX10_gardens 91 = .ok (.iload_n 1, 1) := by decide +kernel
theorem dX10_gardens_92 : decode cX10_gardens 92 = .ok (.iaload, 1) := by decide +kernel
theorem dX10_gardens_93 : decode cX10_gardens 93 = .ok (.invokestatic 120, 3) := by decide +kernel
theorem dX10_gardens_96 : decode cX10_gardens 96 = .ok (.ifCond .eq 9, 3) := by decide +kernel
theorem dX10_gardens_99 : decode cX10_gardens 99 = .ok (.aload_n 0, 1) := by decide +kernel
theorem dX10_gardens_100 : decode cX10_gardens 100 = .ok (.iconst 3, 1) := by decide +kernel
theorem dX10_gardens_101 : decode cX10_gardens 101 = .ok (.invokevirtual 117, 3) := by decide +kernel
theorem dX10_gardens_104 : decode cX10_gardens 104 = .ok (.ireturn, 1) := by decide +kernel
theorem dX10_gardens_105 : decode cX10_gardens 105 = .ok (.aload_n 0, 1) := by decide +kernel
theorem dX10_gardens_106 : decode cX10_gardens 106 = .ok (.bipush 60, 2) := by decide +kernel
theorem dX10_gardens_108 : decode cX10_gardens 108 = .ok (.iload_n 1, 1) := by decide +kernel
theorem dX10_gardens_109 : decode cX10_gardens 109 = .ok (.imul, 1) := by decide +kernel
theorem dX10_gardens_110 : decode cX10_gardens 110 = .ok (.iload_n 3, 1) := by decide +kernel
theorem dX10_gardens_111 : decode cX10_gardens 111 = .ok (.iadd, 1) := by decide +kernel
theorem dX10_gardens_112 : decode cX10_gardens 112 = .ok (.iload 4, 2) := by decide +kernel
theorem dX10_gardens_114 : decode cX10_gardens 114 = .ok (.invokevirtual 124, 3) := by decide +kernel
theorem dX10_gardens_117 : decode cX10_gardens 117 = .ok (.ifCond .ne 15, 3) := by decide +kernel
theorem dX10_gardens_120 : decode cX10_gardens 120 = .ok (.aload_n 0, 1) := by decide +kernel
theorem dX10_gardens_121 : decode cX10_gardens 121 = .ok (.bipush (-100), 2) := by decide +kernel
theorem dX10_gardens_123 : decode cX10_gardens 123 = .ok (.aload_n 0, 1) := by decide +kernel
theorem dX10_gardens_124 : decode cX10_gardens 124 = .ok (.getfield 88, 3) := by decide +kernel
theorem dX10_gardens_127 : decode cX10_gardens 127 = .ok (.isub, 1) := by decide +kernel
theorem dX10_gardens_128 : decode cX10_gardens 128 = .ok (.invokevirtual 111, 3) := by decide +kernel
theorem dX10_gardens_131 : decode cX10_gardens 131 = .ok (.ireturn, 1) := by decide +kernel
theorem dX10_gardens_132 : decode cX10_gardens 132 = .ok (.aload_n 0, 1) := by decide +kernel
theorem dX10_gardens_133 : decode cX10_gardens 133 = .ok (.aload_n 0, 1) := by decide +kernel
theorem dX10_gardens_134 : decode cX10_gardens 134 = .ok (.getfield 97, 3) := by decide +kernel
theorem dX10_gardens_137 : decode cX10_gardens 137 = .ok (.putfield 71, 3) := by decide +kernel
theorem dX10_gardens_140 : decode cX10_gardens 140 = .ok (.iconst 0, 1) := by decide +kernel
theorem dX10_gardens_141 : decode cX10_gardens 141 = .ok (.istore 5, 2) := by decide +kernel
theorem dX10_gardens_143 : decode cX10_gardens 143 = .ok (.iload 5, 2) := by decide +kernel
theorem dX10_gardens_145 : decode cX10_gardens 145 = .ok (.aload_n 0, 1) := by decide +kernel
theorem dX10_gardens_146 : decode cX10_gardens 146 = .ok (.getfield 71, 3) := by decide +kernel
theorem dX10_gardens_149 : decode cX10_gardens 149 = .ok (.if_icmp .ge 23, 3) := by decide +kernel
theorem dX10_gardens_152 : decode cX10_gardens 152 = .ok (.aload_n 0, 1) := by decide +kernel
theorem dX10_gardens_153 : decode cX10_gardens 153 = .ok (.getfield 7, 3) := by decide +kernel
theorem dX10_gardens_156 : decode cX10_gardens 156 = .ok (.iload 5, 2) := by decide +kernel
theorem dX10_gardens_158 : decode cX10_gardens 158 = .ok (.aload_n 0, 1) := by decide +kernel
theorem dX10_gardens_159 : decode cX10_gardens 159 = .ok (.getfield 25, 3) := by decide +kernel
theorem dX10_gardens_162 : decode cX10_gardens 162 = .ok (.iload 5, 2) := by decide +kernel
theorem dX10_gardens_164 : decode cX10_gardens 164 = .ok (.iaload, 1) := by decide +kernel
theorem dX10_gardens_165 : decode cX10_gardens 165 = .ok (.iastore, 1) := by decide +kernel
theorem dX10_gardens_166 : decode cX10_gardens 166 = .ok (.iinc 5 1, 3) := by decide +kernel
theorem dX10_gardens_169 : decode cX10_gardens 169 = .ok (.goto (-26), 3) := by decide +kernel
theorem dX10_gardens_172 : decode cX10_gardens 172 = .ok (.iconst 0, 1) := by decide +kernel
theorem dX10_gardens_173 : decode cX10_gardens 173 = .ok (.istore 5, 2) := by decide +kernel
theorem dX10_gardens_175 : decode cX10_gardens 175 = .ok (.iload 5, 2) := by decide +kernel
theorem dX10_gardens_177 : decode cX10_gardens 177 = .ok (.aload_n 0, 1) := by decide +kernel
theorem dX10_gardens_178 : decode cX10_gardens 178 = .ok (.invokevirtual 78, 3) := by decide +kernel
theorem dX10_gardens_181 : decode cX10_gardens 181 = .ok (.if_icmp .ge 37, 3) := by decide +kernel
theorem dX10_gardens_184 : decode cX10_gardens 184 = .ok (.aload_n 0, 1) := by decide +kernel
theorem dX10_gardens_185 : decode cX10_gardens 185 = .ok (.getfield 13, 3) := by decide +kernel
theorem dX10_gardens_188 : decode cX10_gardens 188 = .ok (.iload 5, 2) := by decide +kernel
theorem dX10_gardens_190 : decode cX10_gardens 190 = .ok (.aload_n 0, 1) := by decide +kernel
theorem dX10_gardens_191 : decode cX10_gardens 191 = .ok (.getfield 28, 3) := by decide +kernel
theorem dX10_gardens_194 : decode cX10_gardens 194 = .ok (.iload 5, 2) := by decide +kernel
theorem dX10_gardens_196 : decode cX10_gardens 196 = .ok (.iaload, 1) := by decide +kernel
theorem dX10_gardens_197 : decode cX10_gardens 197 = .ok (.iastore, 1) := by decide +kernel
theorem dX10_gardens_198 : decode cX10_gardens 198 = .ok (.aload_n 0, 1) := by decide +kernel
theorem dX10_gardens_199 : decode cX10_gardens 199 = .ok (.getfield 16, 3) := by decide +kernel
theorem dX10_gardens_202 : decode cX10_gardens 202 = .ok (.iload 5, 2) := by decide +kernel
theorem dX10_gardens_204 : decode cX10_gardens 204 = .ok (.aload_n 0, 1) := by decide +kernel
theorem dX10_gardens_205 : decode cX10_gardens 205 = .ok (.getfield 31, 3) := by decide +kernel
theorem dX10_gardens_208 : decode cX10_gardens 208 = .ok (.iload 5, 2) := by decide +kernel
theorem dX10_gardens_210 : decode cX10_gardens 210 = .ok (.iaload, 1) := by decide +kernel
theorem dX10_gardens_211 : decode cX10_gardens 211 = .ok (.iastore, 1) := by decide +kernel
theorem dX10_gardens_212 : decode cX10_gardens 212 = .ok (.iinc 5 1, 3) := by decide +kernel
theorem dX10_gardens_215 : decode cX10_gardens 215 = .ok (.goto (-40), 3) := by decide +kernel
theorem dX10_gardens_218 : decode cX10_gardens 218 = .ok (.iconst 0, 1) := by decide +kernel
theorem dX10_gardens_219 : decode cX10_gardens 219 = .ok (.istore 5, 2) := by decide +kernel
theorem dX10_gardens_221 : decode cX10_gardens 221 = .ok (.iload 5, 2) := by decide +kernel
theorem dX10_gardens_223 : decode cX10_gardens 223 = .ok (.sipush 420, 3) := by decide +kernel
theorem dX10_gardens_226 : decode cX10_gardens 226 = .ok (.if_icmp .ge 17, 3) := by decide +kernel
theorem dX10_gardens_229 : decode cX10_gardens 229 = .ok (.aload_n 0, 1) := by decide +kernel
theorem dX10_gardens_230 : decode cX10_gardens 230 = .ok (.getfield 19, 3) := by decide +kernel
theorem dX10_gardens_233 : decode cX10_gardens 233 = .ok (.iload 5, 2) := by decide +kernel
theorem dX10_gardens_235 : decode cX10_gardens 235 = .ok (.iconst 0, 1) := by decide +kernel
theorem dX10_gardens_236 : decode cX10_gardens 236 = .ok (.iastore, 1) := by decide +kernel
theorem dX10_gardens_237 : decode cX10_gardens 237 = .ok (.iinc 5 1, 3) := by decide +kernel
theorem dX10_gardens_240 : decode cX10_gardens 240 = .ok (.goto (-19), 3) := by decide +kernel
theorem dX10_gardens_243 : decode cX10_gardens 243 = .ok (.iconst 0, 1) := by decide +kernel
theorem dX10_gardens_244 : decode cX10_gardens 244 = .ok (.istore 5, 2) := by decide +kernel
theorem dX10_gardens_246 : decode cX10_gardens 246 = .ok (.iload 5, 2) := by decide +kernel
theorem dX10_gardens_248 : decode cX10_gardens 248 = .ok (.sipush 180, 3) := by decide +kernel
theorem dX10_gardens_251 : decode cX10_gardens 251 = .ok (.if_icmp .ge 18, 3) := by decide +kernel
theorem dX10_gardens_254 : decode cX10_gardens 254 = .ok (.aload_n 0, 1) := by decide +kernel
theorem dX10_gardens_255 : decode cX10_gardens 255 = .ok (.getfield 22, 3) := by decide +kernel
theorem dX10_gardens_258 : decode cX10_gardens 258 = .ok (.iload 5, 2) := by decide +kernel
theorem dX10_gardens_260 : decode cX10_gardens 260 = .ok (.bipush (-9), 2) := by decide +kernel
theorem dX10_gardens_262 : decode cX10_gardens 262 = .ok (.iastore, 1) := by decide +kernel
theorem dX10_gardens_263 : decode cX10_gardens 263 = .ok (.iinc 5 1, 3) := by decide +kernel
theorem dX10_gardens_266 : decode cX10_gardens 266 = .ok (.goto (-20), 3) := by decide +kernel
theorem dX10_gardens_269 : decode cX10_gardens 269 = .ok (.aload_n 0, 1) := by decide +kernel
theorem dX10_gardens_270 : decode cX10_gardens 270 = .ok (.iconst 0, 1) := by decide +kernel
theorem dX10_gardens_271 : decode cX10_gardens 271 = .ok (.putfield 127, 3) := by decide +kernel
theorem dX10_gardens_274 : decode cX10_gardens 274 = .ok (.aload_n 0, 1) := by decide +kernel
theorem dX10_gardens_275 : decode cX10_gardens 275 = .ok (.aload_n 0, 1) := by decide +kernel
theorem dX10_gardens_276 : decode cX10_gardens 276 = .ok (.getfield 71, 3) := by decide +kernel
theorem dX10_gardens_279 : decode cX10_gardens 279 = .ok (.invokevirtual 111, 3) := by decide +kernel
theorem dX10_gardens_282 : decode cX10_gardens 282 = .ok (.ireturn, 1) := by decide +kernel
theorem dX10_wants_0 : decode cX10_wants 0 = .ok (.aload_n 0, 1) := by decide +kernel
theorem dX10_wants_1 : decode cX10_wants 1 = .ok (.iload_n 1, 1) := by decide +kernel
theorem dX10_wants_2 : decode cX10_wants 2 = .ok (.invokevirtual 130, 3) := by decide +kernel
theorem dX10_wants_5 : decode cX10_wants 5 = .ok (.ifCond .eq 7, 3) := by decide +kernel
theorem dX10_wants_8 : decode cX10_wants 8 = .ok (.iconst (-1), 1) := by decide +kernel
theorem dX10_wants_9 : decode cX10_wants 9 = .ok (.goto 9, 3) := by decide +kernel
theorem dX10_wants_12 : decode cX10_wants 12 = .ok (.aload_n 0, 1) := by decide +kernel
theorem dX10_wants_13 : decode cX10_wants 13 = .ok (.getfield 7, 3) := by decide +kernel
theorem dX10_wants_16 : decode cX10_wants 16 = .ok (.iload_n 1, 1) := by decide +kernel
theorem dX10_wants_17 : decode cX10_wants 17 = .ok (.iaload, 1) := by decide +kernel
theorem dX10_wants_18 : decode cX10_wants 18 = .ok (.ireturn, 1) := by decide +kernel
theorem dX10_ofHedge_0 : decode cX10_ofHedge 0 = .ok (.aload_n 0, 1) := by decide +kernel
theorem dX10_ofHedge_1 : decode cX10_ofHedge 1 = .ok (.iload_n 1, 1) := by decide +kernel
theorem dX10_ofHedge_2 : decode cX10_ofHedge 2 = .ok (.invokevirtual 133, 3) := by decide +kernel
theorem dX10_ofHedge_5 : decode cX10_ofHedge 5 = .ok (.ifCond .eq 5, 3) := by decide +kernel
theorem dX10_ofHedge_8 : decode cX10_ofHedge 8 = .ok (.iconst (-1), 1) := by decide +kernel
theorem dX10_ofHedge_9 : decode cX10_ofHedge 9 = .ok (.ireturn, 1) := by decide +kernel
theorem dX10_ofHedge_10 : decode cX10_ofHedge 10 = .ok (.iload_n 2, 1) := by decide +kernel
theorem dX10_ofHedge_11 : decode cX10_ofHedge 11 = .ok (.ifCond .ne 12, 3) := by decide +kernel
theorem dX10_ofHedge_14 : decode cX10_ofHedge 14 = .ok (.aload_n 0, 1) := by decide +kernel
theorem dX10_ofHedge_15 : decode cX10_ofHedge 15 = .ok (.getfield 13, 3) := by decide +kernel
theorem dX10_ofHedge_18 : decode cX10_ofHedge 18 = .ok (.iload_n 1, 1) := by decide +kernel
theorem dX10_ofHedge_19 : decode cX10_ofHedge 19 = .ok (.iaload, 1) := by decide +kernel
theorem dX10_ofHedge_20 : decode cX10_ofHedge 20 = .ok (.goto 19, 3) := by decide +kernel
theorem dX10_ofHedge_23 : decode cX10_ofHedge 23 = .ok (.iload_n 2, 1) := by decide +kernel
theorem dX10_ofHedge_24 : decode cX10_ofHedge 24 = .ok (.iconst 1, 1) := by decide +kernel
theorem dX10_ofHedge_25 : decode cX10_ofHedge 25 = .ok (.if_icmp .ne 12, 3) := by decide +kernel
theorem dX10_ofHedge_28 : decode cX10_ofHedge 28 = .ok (.aload_n 0, 1) := by decide +kernel
theorem dX10_ofHedge_29 : decode cX10_ofHedge 29 = .ok (.getfield 16, 3) := by decide +kernel
theorem dX10_ofHedge_32 : decode cX10_ofHedge 32 = .ok (.iload_n 1, 1) := by decide +kernel
theorem dX10_ofHedge_33 : decode cX10_ofHedge 33 = .ok (.iaload, 1) := by decide +kernel
theorem dX10_ofHedge_34 : decode cX10_ofHedge 34 = .ok (.goto 5, 3) := by decide +kernel
theorem dX10_ofHedge_37 : decode cX10_ofHedge 37 = .ok (.bipush (-2), 2) := by decide +kernel
theorem dX10_ofHedge_39 : decode cX10_ofHedge 39 = .ok (.ireturn, 1) := by decide +kernel
theorem dX10_placeOf_0 : decode cX10_placeOf 0 = .ok (.bipush 60, 2) := by decide +kernel
theorem dX10_placeOf_2 : decode cX10_placeOf 2 = .ok (.iload_n 0, 1) := by decide +kernel
theorem dX10_placeOf_3 : decode cX10_placeOf 3 = .ok (.imul, 1) := by decide +kernel
theorem dX10_placeOf_4 : decode cX10_placeOf 4 = .ok (.bipush 30, 2) := by decide +kernel
theorem dX10_placeOf_6 : decode cX10_placeOf 6 = .ok (.iload_n 1, 1) := by decide +kernel
theorem dX10_placeOf_7 : decode cX10_placeOf 7 = .ok (.imul, 1) := by decide +kernel
theorem dX10_placeOf_8 : decode cX10_placeOf 8 = .ok (.iadd, 1) := by decide +kernel
theorem dX10_placeOf_9 : decode cX10_placeOf 9 = .ok (.iload_n 2, 1) := by decide +kernel
theorem dX10_placeOf_10 : decode cX10_placeOf 10 = .ok (.iadd, 1) := by decide +kernel
theorem dX10_placeOf_11 : decode cX10_placeOf 11 = .ok (.ireturn, 1) := by decide +kernel
theorem dX10_hedgeAt_0 : decode cX10_hedgeAt 0 = .ok (.iload_n 1, 1) := by decide +kernel
theorem dX10_hedgeAt_1 : decode cX10_hedgeAt 1 = .ok (.ifCond .ne 9, 3) := by decide +kernel
theorem dX10_hedgeAt_4 : decode cX10_hedgeAt 4 = .ok (.iload_n 0, 1) := by decide +kernel
theorem dX10_hedgeAt_5 : decode cX10_hedgeAt 5 = .ok (.iconst 1, 1) := by decide +kernel
theorem dX10_hedgeAt_6 : decode cX10_hedgeAt 6 = .ok (.isub, 1) := by decide +kernel
theorem dX10_hedgeAt_7 : decode cX10_hedgeAt 7 = .ok (.goto 4, 3) := by decide +kernel
theorem dX10_hedgeAt_10 : decode cX10_hedgeAt 10 = .ok (.iload_n 0, 1) := by decide +kernel
theorem dX10_hedgeAt_11 : decode cX10_hedgeAt 11 = .ok (.ireturn, 1) := by decide +kernel
theorem dX10_say_0 : decode cX10_say 0 = .ok (.aload_n 0, 1) := by decide +kernel
theorem dX10_say_1 : decode cX10_say 1 = .ok (.iload_n 1, 1) := by decide +kernel
theorem dX10_say_2 : decode cX10_say 2 = .ok (.invokevirtual 130, 3) := by decide +kernel
theorem dX10_say_5 : decode cX10_say 5 = .ok (.ifCond .eq 5, 3) := by decide +kernel
theorem dX10_say_8 : decode cX10_say 8 = .ok (.iconst (-1), 1) := by decide +kernel
theorem dX10_say_9 : decode cX10_say 9 = .ok (.ireturn, 1) := by decide +kernel
theorem dX10_say_10 : decode cX10_say 10 = .ok (.iload_n 2, 1) := by decide +kernel
theorem dX10_say_11 : decode cX10_say 11 = .ok (.invokestatic 136, 3) := by decide +kernel
theorem dX10_say_14 : decode cX10_say 14 = .ok (.ifCond .eq 25, 3) := by decide +kernel
theorem dX10_say_17 : decode cX10_say 17 = .ok (.iload_n 3, 1) := by decide +kernel
theorem dX10_say_18 : decode cX10_say 18 = .ok (.invokestatic 139, 3) := by decide +kernel
theorem dX10_say_21 : decode cX10_say 21 = .ok (.ifCond .eq 18, 3) := by decide +kernel
theorem dX10_say_24 : decode cX10_say 24 = .ok (.iload 4, 2) := by decide +kernel
theorem dX10_say_26 : decode cX10_say 26 = .ok (.i2l, 1) := by decide +kernel
theorem dX10_say_27 : decode cX10_say 27 = .ok (.ldc2_w 142, 3) := by decide +kernel
theorem dX10_say_30 : decode cX10_say 30 = .ok (.ldc2_w 144, 3) := by decide +kernel
theorem dX10_say_33 : decode cX10_say 33 = .ok (.invokestatic 74, 3) := by decide +kernel
theorem dX10_say_36 : decode cX10_say 36 = .ok (.ifCond .ne 6, 3) := by decide +kernel
theorem dX10_say_39 : decode cX10_say 39 = .ok (.bipush (-2), 2) := by decide +kernel
theorem dX10_say_41 : decode cX10_say 41 = .ok (.ireturn, 1) := by decide +kernel
theorem dX10_say_42 : decode cX10_say 42 = .ok (.aload_n 0, 1) := by decide +kernel
theorem dX10_say_43 : decode cX10_say 43 = .ok (.iload_n 1, 1) := by decide +kernel
theorem dX10_say_44 : decode cX10_say 44 = .ok (.iload_n 2, 1) := by decide +kernel
theorem dX10_say_45 : decode cX10_say 45 = .ok (.invokestatic 146, 3) := by decide +kernel
theorem dX10_say_48 : decode cX10_say 48 = .ok (.invokevirtual 133, 3) := by decide +kernel
theorem dX10_say_51 : decode cX10_say 51 = .ok (.ifCond .eq 5, 3) := by decide +kernel
theorem dX10_say_54 : decode cX10_say 54 = .ok (.iconst (-1), 1) := by decide +kernel
theorem dX10_say_55 : decode cX10_say 55 = .ok (.ireturn, 1) := by decide +kernel
theorem dX10_say_56 : decode cX10_say 56 = .ok (.aload_n 0, 1) := by decide +kernel
theorem dX10_say_57 : decode cX10_say 57 = .ok (.getfield 19, 3) := by decide +kernel
theorem dX10_say_60 : decode cX10_say 60 = .ok (.iload_n 1, 1) := by decide +kernel
theorem dX10_say_61 : decode cX10_say 61 = .ok (.iload_n 2, 1) := by decide +kernel
theorem dX10_say_62 : decode cX10_say 62 = .ok (.iload_n 3, 1) := by decide +kernel
theorem dX10_say_63 : decode cX10_say 63 = .ok (.invokestatic 149, 3) := by decide +kernel
theorem dX10_say_66 : decode cX10_say 66 = .ok (.iaload, 1) := by decide +kernel
theorem dX10_say_67 : decode cX10_say 67 = .ok (.istore 5, 2) := by decide +kernel
theorem dX10_say_69 : decode cX10_say 69 = .ok (.aload_n 0, 1) := by decide +kernel
theorem dX10_say_70 : decode cX10_say 70 = .ok (.getfield 19, 3) := by decide +kernel
theorem dX10_say_73 : decode cX10_say 73 = .ok (.iload_n 1, 1) := by decide +kernel
theorem dX10_say_74 : decode cX10_say 74 = .ok (.iload_n 2, 1) := by decide +kernel
theorem dX10_say_75 : decode cX10_say 75 = .ok (.iload_n 3, 1) := by decide +kernel
theorem dX10_say_76 : decode cX10_say 76 = .ok (.invokestatic 149, 3) := by decide +kernel
theorem dX10_say_79 : decode cX10_say 79 = .ok (.iload 4, 2) := by decide +kernel
theorem dX10_say_81 : decode cX10_say 81 = .ok (.iastore, 1) := by decide +kernel
theorem dX10_say_82 : decode cX10_say 82 = .ok (.iload 5, 2) := by decide +kernel
theorem dX10_say_84 : decode cX10_say 84 = .ok (.bipush 10, 2) := by decide +kernel
theorem dX10_say_86 : decode cX10_say 86 = .ok (.iadd, 1) := by decide +kernel
theorem dX10_say_87 : decode cX10_say 87 = .ok (.ireturn, 1) := by decide +kernel
theorem dX10_clip_0 : decode cX10_clip 0 = .ok (.aload_n 0, 1) := by decide +kernel
theorem dX10_clip_1 : decode cX10_clip 1 = .ok (.iload_n 1, 1) := by decide +kernel
theorem dX10_clip_2 : decode cX10_clip 2 = .ok (.invokevirtual 133, 3) := by decide +kernel
theorem dX10_clip_5 : decode cX10_clip 5 = .ok (.ifCond .eq 5, 3) := by decide +kernel
theorem dX10_clip_8 : decode cX10_clip 8 = .ok (.iconst (-1), 1) := by decide +kernel
theorem dX10_clip_9 : decode cX10_clip 9 = .ok (.ireturn, 1) := by decide +kernel
theorem dX10_clip_10 : decode cX10_clip 10 = .ok (.iload_n 2, 1) := by decide +kernel
theorem dX10_clip_11 : decode cX10_clip 11 = .ok (.invokestatic 139, 3) := by decide +kernel
theorem dX10_clip_14 : decode cX10_clip 14 = .ok (.ifCond .eq 16, 3) := by decide +kernel
theorem dX10_clip_17 : decode cX10_clip 17 = .ok (.iload_n 3, 1) := by decide +kernel
theorem dX10_clip_18 : decode cX10_clip 18 = .ok (.bipush (-9), 2) := by decide +kernel
theorem dX10_clip_20 : decode cX10_clip 20 = .ok (.if_icmp .eq 13, 3) := by decide +kernel
theorem dX10_clip_23 : decode cX10_clip 23 = .ok (.iload_n 3, 1) := by decide +kernel
theorem dX10_clip_24 : decode cX10_clip 24 = .ok (.invokestatic 153, 3) := by decide +kernel
theorem dX10_clip_27 : decode cX10_clip 27 = .ok (.ifCond .ne 6, 3) := by decide +kernel
theorem dX10_clip_30 : decode cX10_clip 30 = .ok (.bipush (-2), 2) := by decide +kernel
theorem dX10_clip_32 : decode cX10_clip 32 = .ok (.ireturn, 1) := by decide +kernel
theorem dX10_clip_33 : decode cX10_clip 33 = .ok (.aload_n 0, 1) := by decide +kernel
theorem dX10_clip_34 : decode cX10_clip 34 = .ok (.getfield 22, 3) := by decide +kernel
theorem dX10_clip_37 : decode cX10_clip 37 = .ok (.bipush 30, 2) := by decide +kernel
theorem dX10_clip_39 : decode cX10_clip 39 = .ok (.iload_n 1, 1) := by decide +kernel
theorem dX10_clip_40 : decode cX10_clip 40 = .ok (.imul, 1) := by decide +kernel
theorem dX10_clip_41 : decode cX10_clip 41 = .ok (.iload_n 2, 1) := by decide +kernel
theorem dX10_clip_42 : decode cX10_clip 42 = .ok (.iadd, 1) := by decide +kernel
theorem dX10_clip_43 : decode cX10_clip 43 = .ok (.iaload, 1) := by decide +kernel
theorem dX10_clip_44 : decode cX10_clip 44 = .ok (.istore 4, 2) := by decide +kernel
theorem dX10_clip_46 : decode cX10_clip 46 = .ok (.aload_n 0, 1) := by decide +kernel
theorem dX10_clip_47 : decode cX10_clip 47 = .ok (.getfield 22, 3) := by decide +kernel
theorem dX10_clip_50 : decode cX10_clip 50 = .ok (.bipush 30, 2) := by decide +kernel
theorem dX10_clip_52 : decode cX10_clip 52 = .ok (.iload_n 1, 1) := by decide +kernel
theorem dX10_clip_53 : decode cX10_clip 53 = .ok (.imul, 1) := by decide +kernel
theorem dX10_clip_54 : decode cX10_clip 54 = .ok (.iload_n 2, 1) := by decide +kernel
theorem dX10_clip_55 : decode cX10_clip 55 = .ok (.iadd, 1) := by decide +kernel
theorem dX10_clip_56 : decode cX10_clip 56 = .ok (.iload_n 3, 1) := by decide +kernel
theorem dX10_clip_57 : decode cX10_clip 57 = .ok (.iastore, 1) := by decide +kernel
theorem dX10_clip_58 : decode cX10_clip 58 = .ok (.iload 4, 2) := by decide +kernel
theorem dX10_clip_60 : decode cX10_clip 60 = .ok (.ireturn, 1) := by decide +kernel
theorem dX10_heardAt_0 : decode cX10_heardAt 0 = .ok (.iload_n 1, 1) := by decide +kernel
theorem dX10_heardAt_1 : decode cX10_heardAt 1 = .ok (.ifCond .ne 12, 3) := by decide +kernel
theorem dX10_heardAt_4 : decode cX10_heardAt 4 = .ok (.iload_n 0, 1) := by decide +kernel
theorem dX10_heardAt_5 : decode cX10_heardAt 5 = .ok (.iconst 1, 1) := by decide +kernel
theorem dX10_heardAt_6 : decode cX10_heardAt 6 = .ok (.iload_n 2, 1) := by decide +kernel
theorem dX10_heardAt_7 : decode cX10_heardAt 7 = .ok (.invokestatic 149, 3) := by decide +kernel
theorem dX10_heardAt_10 : decode cX10_heardAt 10 = .ok (.goto 11, 3) := by decide +kernel
theorem dX10_heardAt_13 : decode cX10_heardAt 13 = .ok (.iload_n 0, 1) := by decide +kernel
theorem dX10_heardAt_14 : decode cX10_heardAt 14 = .ok (.iconst 1, 1) := by decide +kernel
theorem dX10_heardAt_15 : decode cX10_heardAt 15 = .ok (.iadd, 1) := by decide +kernel
theorem dX10_heardAt_16 : decode cX10_heardAt 16 = .ok (.iconst 0, 1) := by decide +kernel
theorem dX10_heardAt_17 : decode cX10_heardAt 17 = .ok (.iload_n 2, 1) := by decide +kernel
theorem dX10_heardAt_18 : decode cX10_heardAt 18 = .ok (.invokestatic 149, 3) := by decide +kernel
theorem dX10_heardAt_21 : decode cX10_heardAt 21 = .ok (.ireturn, 1) := by decide +kernel
theorem dX10_bounded_0 : decode cX10_bounded 0 = .ok (.iload_n 0, 1) := by decide +kernel
theorem dX10_bounded_1 : decode cX10_bounded 1 = .ok (.ifCond .ge 7, 3) := by decide +kernel
theorem dX10_bounded_4 : decode cX10_bounded 4 = .ok (.iconst 0, 1) := by decide +kernel
theorem dX10_bounded_5 : decode cX10_bounded 5 = .ok (.goto 17, 3) := by decide +kernel
theorem dX10_bounded_8 : decode cX10_bounded 8 = .ok (.iload_n 0, 1) := by decide +kernel
theorem dX10_bounded_9 : decode cX10_bounded 9 = .ok (.sipush 240, 3) := by decide +kernel
theorem dX10_bounded_12 : decode cX10_bounded 12 = .ok (.if_icmp .le 9, 3) := by decide +kernel
theorem dX10_bounded_15 : decode cX10_bounded 15 = .ok (.sipush 240, 3) := by decide +kernel
theorem dX10_bounded_18 : decode cX10_bounded 18 = .ok (.goto 4, 3) := by decide +kernel
theorem dX10_bounded_21 : decode cX10_bounded 21 = .ok (.iload_n 0, 1) := by decide +kernel
theorem dX10_bounded_22 : decode cX10_bounded 22 = .ok (.ireturn, 1) := by decide +kernel
theorem dX10_grows_0 : decode cX10_grows 0 = .ok (.iload_n 1, 1) := by decide +kernel
theorem dX10_grows_1 : decode cX10_grows 1 = .ok (.ifCond .le 19, 3) := by decide +kernel
theorem dX10_grows_4 : decode cX10_grows 4 = .ok (.iload_n 0, 1) := by decide +kernel
theorem dX10_grows_5 : decode cX10_grows 5 = .ok (.ifCond .ne 10, 3) := by decide +kernel
theorem dX10_grows_8 : decode cX10_grows 8 = .ok (.bipush 12, 2) := by decide +kernel
theorem dX10_grows_10 : decode cX10_grows 10 = .ok (.iload_n 1, 1) := by decide +kernel
theorem dX10_grows_11 : decode cX10_grows 11 = .ok (.imul, 1) := by decide +kernel
theorem dX10_grows_12 : decode cX10_grows 12 = .ok (.goto 7, 3) := by decide +kernel
theorem dX10_grows_15 : decode cX10_grows 15 = .ok (.bipush 6, 2) := by decide +kernel
theorem dX10_grows_17 : decode cX10_grows 17 = .ok (.iload_n 1, 1) := by decide +kernel
theorem dX10_grows_18 : decode cX10_grows 18 = .ok (.imul, 1) := by decide +kernel
theorem dX10_grows_19 : decode cX10_grows 19 = .ok (.ireturn, 1) := by decide +kernel
theorem dX10_grows_20 : decode cX10_grows 20 = .ok (.iload_n 0, 1) := by decide +kernel
theorem dX10_grows_21 : decode cX10_grows 21 = .ok (.iconst 2, 1) := by decide +kernel
theorem dX10_grows_22 : decode cX10_grows 22 = .ok (.if_icmp .ne 14, 3) := by decide +kernel
theorem dX10_grows_25 : decode cX10_grows 25 = .ok (.iload_n 1, 1) := by decide +kernel
theorem dX10_grows_26 : decode cX10_grows 26 = .ok (.ifCond .ne 8, 3) := by decide +kernel
theorem dX10_grows_29 : decode cX10_grows 29 = .ok (.bipush (-6), 2) := by decide +kernel
theorem dX10_grows_31 : decode cX10_grows 31 = .ok (.goto 4, 3) := by decide +kernel
theorem dX10_grows_34 : decode cX10_grows 34 = .ok (.iconst 0, 1) := by decide +kernel
theorem dX10_grows_35 : decode cX10_grows 35 = .ok (.ireturn, 1) := by decide +kernel
theorem dX10_grows_36 : decode cX10_grows 36 = .ok (.iconst 3, 1) := by decide +kernel
theorem dX10_grows_37 : decode cX10_grows 37 = .ok (.iload_n 1, 1) := by decide +kernel
theorem dX10_grows_38 : decode cX10_grows 38 = .ok (.imul, 1) := by decide +kernel
theorem dX10_grows_39 : decode cX10_grows 39 = .ok (.ireturn, 1) := by decide +kernel
theorem dX10_faceAt_0 : decode cX10_faceAt 0 = .ok (.bipush 12, 2) := by decide +kernel
theorem dX10_faceAt_2 : decode cX10_faceAt 2 = .ok (.aload_n 0, 1) := by decide +kernel
theorem dX10_faceAt_3 : decode cX10_faceAt 3 = .ok (.getfield 16, 3) := by decide +kernel
theorem dX10_faceAt_6 : decode cX10_faceAt 6 = .ok (.iload_n 1, 1) := by decide +kernel
theorem dX10_faceAt_7 : decode cX10_faceAt 7 = .ok (.iaload, 1) := by decide +kernel
theorem dX10_faceAt_8 : decode cX10_faceAt 8 = .ok (.imul, 1) := by decide +kernel
theorem dX10_faceAt_9 : decode cX10_faceAt 9 = .ok (.istore 4, 2) := by decide +kernel
theorem dX10_faceAt_11 : decode cX10_faceAt 11 = .ok (.iconst 0, 1) := by decide +kernel
theorem dX10_faceAt_12 : decode cX10_faceAt 12 = .ok (.istore 5, 2) := by decide +kernel
theorem dX10_faceAt_14 : decode cX10_faceAt 14 = .ok (.iload 5, 2) := by decide +kernel
theorem dX10_faceAt_16 : decode cX10_faceAt 16 = .ok (.iload_n 3, 1) := by decide +kernel
theorem dX10_faceAt_17 : decode cX10_faceAt 17 = .ok (.if_icmp .ge 74, 3) := by decide +kernel
theorem dX10_faceAt_20 : decode cX10_faceAt 20 = .ok (.iload 4, 2) := by decide +kernel
theorem dX10_faceAt_22 : decode cX10_faceAt 22 = .ok (.aload_n 0, 1) := by decide +kernel
theorem dX10_faceAt_23 : decode cX10_faceAt 23 = .ok (.getfield 13, 3) := by decide +kernel
theorem dX10_faceAt_26 : decode cX10_faceAt 26 = .ok (.iload_n 1, 1) := by decide +kernel
theorem dX10_faceAt_27 : decode cX10_faceAt 27 = .ok (.iaload, 1) := by decide +kernel
theorem dX10_faceAt_28 : decode cX10_faceAt 28 = .ok (.aload_n 0, 1) := by decide +kernel
theorem dX10_faceAt_29 : decode cX10_faceAt 29 = .ok (.getfield 19, 3) := by decide +kernel
theorem dX10_faceAt_32 : decode cX10_faceAt 32 = .ok (.iload_n 1, 1) := by decide +kernel
theorem dX10_faceAt_33 : decode cX10_faceAt 33 = .ok (.iload_n 2, 1) := by decide +kernel
theorem dX10_faceAt_34 : decode cX10_faceAt 34 = .ok (.iload 5, 2) := by decide +kernel
theorem dX10_faceAt_36 : decode cX10_faceAt 36 = .ok (.invokestatic 156, 3) := by decide +kernel
theorem dX10_faceAt_39 : decode cX10_faceAt 39 = .ok (.iaload, 1) := by decide +kernel
theorem dX10_faceAt_40 : decode cX10_faceAt 40 = .ok (.invokestatic 159, 3) := by decide +kernel
theorem dX10_faceAt_43 : decode cX10_faceAt 43 = .ok (.iadd, 1) := by decide +kernel
theorem dX10_faceAt_44 : decode cX10_faceAt 44 = .ok (.invokestatic 162, 3) := by decide +kernel
theorem dX10_faceAt_47 : decode cX10_faceAt 47 = .ok (.istore 4, 2) := by decide +kernel
theorem dX10_faceAt_49 : decode cX10_faceAt 49 = .ok (.aload_n 0, 1) := by decide +kernel
theorem dX10_faceAt_50 : decode cX10_faceAt 50 = .ok (.getfield 22, 3) := by decide +kernel
theorem dX10_faceAt_53 : decode cX10_faceAt 53 = .ok (.bipush 30, 2) := by decide +kernel
theorem dX10_faceAt_55 : decode cX10_faceAt 55 = .ok (.iload_n 1, 1) := by decide +kernel
theorem dX10_faceAt_56 : decode cX10_faceAt 56 = .ok (.imul, 1) := by decide +kernel
theorem dX10_faceAt_57 : decode cX10_faceAt 57 = .ok (.iload 5, 2) := by decide +kernel
theorem dX10_faceAt_59 : decode cX10_faceAt 59 = .ok (.iadd, 1) := by decide +kernel
theorem dX10_faceAt_60 : decode cX10_faceAt 60 = .ok (.iaload, 1) := by decide +kernel
theorem dX10_faceAt_61 : decode cX10_faceAt 61 = .ok (.istore 6, 2) := by decide +kernel
theorem dX10_faceAt_63 : decode cX10_faceAt 63 = .ok (.iload 6, 2) := by decide +kernel
theorem dX10_faceAt_65 : decode cX10_faceAt 65 = .ok (.ifCond .lt 16, 3) := by decide +kernel
theorem dX10_faceAt_68 : decode cX10_faceAt 68 = .ok (.iload 4, 2) := by decide +kernel
theorem dX10_faceAt_70 : decode cX10_faceAt 70 = .ok (.bipush 12, 2) := by decide +kernel
theorem dX10_faceAt_72 : decode cX10_faceAt 72 = .ok (.iload 6, 2) := by decide +kernel
theorem dX10_faceAt_74 : decode cX10_faceAt 74 = .ok (.imul, 1) := by decide +kernel
theorem dX10_faceAt_75 : decode cX10_faceAt 75 = .ok (.invokestatic 165, 3) := by decide +kernel
theorem dX10_faceAt_78 : decode cX10_faceAt 78 = .ok (.goto 5, 3) := by decide +kernel
theorem dX10_faceAt_81 : decode cX10_faceAt 81 = .ok (.iload 4, 2) := by decide +kernel
theorem dX10_faceAt_83 : decode cX10_faceAt 83 = .ok (.istore 4, 2) := by decide +kernel
theorem dX10_faceAt_85 : decode cX10_faceAt 85 = .ok (.iinc 5 1, 3) := by decide +kernel
theorem dX10_faceAt_88 : decode cX10_faceAt 88 = .ok (.goto (-74), 3) := by decide +kernel
theorem dX10_faceAt_91 : decode cX10_faceAt 91 = .ok (.iload 4, 2) := by decide +kernel
theorem dX10_faceAt_93 : decode cX10_faceAt 93 = .ok (.ireturn, 1) := by decide +kernel
theorem dX10_face_0 : decode cX10_face 0 = .ok (.aload_n 0, 1) := by decide +kernel
theorem dX10_face_1 : decode cX10_face 1 = .ok (.iload_n 1, 1) := by decide +kernel
theorem dX10_face_2 : decode cX10_face 2 = .ok (.invokevirtual 133, 3) := by decide +kernel
theorem dX10_face_5 : decode cX10_face 5 = .ok (.ifCond .eq 5, 3) := by decide +kernel
theorem dX10_face_8 : decode cX10_face 8 = .ok (.iconst (-1), 1) := by decide +kernel
theorem dX10_face_9 : decode cX10_face 9 = .ok (.ireturn, 1) := by decide +kernel
theorem dX10_face_10 : decode cX10_face 10 = .ok (.iload_n 2, 1) := by decide +kernel
theorem dX10_face_11 : decode cX10_face 11 = .ok (.invokestatic 136, 3) := by decide +kernel
theorem dX10_face_14 : decode cX10_face 14 = .ok (.ifCond .eq 20, 3) := by decide +kernel
theorem dX10_face_17 : decode cX10_face 17 = .ok (.iload_n 3, 1) := by decide +kernel
theorem dX10_face_18 : decode cX10_face 18 = .ok (.invokestatic 168, 3) := by decide +kernel
theorem dX10_face_21 : decode cX10_face 21 = .ok (.ifCond .eq 13, 3) := by decide +kernel
theorem dX10_face_24 : decode cX10_face 24 = .ok (.aload_n 0, 1) := by decide +kernel
theorem dX10_face_25 : decode cX10_face 25 = .ok (.iload_n 1, 1) := by decide +kernel
theorem dX10_face_26 : decode cX10_face 26 = .ok (.iload_n 2, 1) := by decide +kernel
theorem dX10_face_27 : decode cX10_face 27 = .ok (.iload_n 3, 1) := by decide +kernel
theorem dX10_face_28 : decode cX10_face 28 = .ok (.invokevirtual 171, 3) := by decide +kernel
theorem dX10_face_31 : decode cX10_face 31 = .ok (.goto 5, 3) := by decide +kernel
theorem dX10_face_34 : decode cX10_face 34 = .ok (.bipush (-2), 2) := by decide +kernel
theorem dX10_face_36 : decode cX10_face 36 = .ok (.ireturn, 1) := by decide +kernel
theorem dX10_heightAt_0 : decode cX10_heightAt 0 = .ok (.aload_n 0, 1) := by decide +kernel
theorem dX10_heightAt_1 : decode cX10_heightAt 1 = .ok (.iload_n 1, 1) := by decide +kernel
theorem dX10_heightAt_2 : decode cX10_heightAt 2 = .ok (.iconst 0, 1) := by decide +kernel
theorem dX10_heightAt_3 : decode cX10_heightAt 3 = .ok (.iload_n 2, 1) := by decide +kernel
theorem dX10_heightAt_4 : decode cX10_heightAt 4 = .ok (.invokevirtual 171, 3) := by decide +kernel
theorem dX10_heightAt_7 : decode cX10_heightAt 7 = .ok (.aload_n 0, 1) := by decide +kernel
theorem dX10_heightAt_8 : decode cX10_heightAt 8 = .ok (.iload_n 1, 1) := by decide +kernel
theorem dX10_heightAt_9 : decode cX10_heightAt 9 = .ok (.iconst 1, 1) := by decide +kernel
theorem dX10_heightAt_10 : decode cX10_heightAt 10 = .ok (.iload_n 2, 1) := by decide +kernel
theorem dX10_heightAt_11 : decode cX10_heightAt 11 = .ok (.invokevirtual 171, 3) := by decide +kernel
theorem dX10_heightAt_14 : decode cX10_heightAt 14 = .ok (.invokestatic 165, 3) := by decide +kernel
theorem dX10_heightAt_17 : decode cX10_heightAt 17 = .ok (.ireturn, 1) := by decide +kernel
theorem dX10_height_0 : decode cX10_height 0 = .ok (.aload_n 0, 1) := by decide +kernel
theorem dX10_height_1 : decode cX10_height 1 = .ok (.iload_n 1, 1) := by decide +kernel
theorem dX10_height_2 : decode cX10_height 2 = .ok (.invokevirtual 133, 3) := by decide +kernel
theorem dX10_height_5 : decode cX10_height 5 = .ok (.ifCond .eq 5, 3) := by decide +kernel
theorem dX10_height_8 : decode cX10_height 8 = .ok (.iconst (-1), 1) := by decide +kernel
theorem dX10_height_9 : decode cX10_height 9 = .ok (.ireturn, 1) := by decide +kernel
theorem dX10_height_10 : decode cX10_height 10 = .ok (.iload_n 2, 1) := by decide +kernel
theorem dX10_height_11 : decode cX10_height 11 = .ok (.invokestatic 168, 3) := by decide +kernel
theorem dX10_height_14 : decode cX10_height 14 = .ok (.ifCond .eq 13, 3) := by decide +kernel
theorem dX10_height_17 : decode cX10_height 17 = .ok (.iload_n 3, 1) := by decide +kernel
theorem dX10_height_18 : decode cX10_height 18 = .ok (.i2l, 1) := by decide +kernel
theorem dX10_height_19 : decode cX10_height 19 = .ok (.lconst 0, 1) := by decide +kernel
theorem dX10_height_20 : decode cX10_height 20 = .ok (.lconst 1, 1) := by decide +kernel
theorem dX10_height_21 : decode cX10_height 21 = .ok (.invokestatic 74, 3) := by decide +kernel
theorem dX10_height_24 : decode cX10_height 24 = .ok (.ifCond .ne 6, 3) := by decide +kernel
theorem dX10_height_27 : decode cX10_height 27 = .ok (.bipush (-2), 2) := by decide +kernel
theorem dX10_height_29 : decode cX10_height 29 = .ok (.ireturn, 1) := by decide +kernel
theorem dX10_height_30 : decode cX10_height 30 = .ok (.iload_n 3, 1) := by decide +kernel
theorem dX10_height_31 : decode cX10_height 31 = .ok (.ifCond .ne 12, 3) := by decide +kernel
theorem dX10_height_34 : decode cX10_height 34 = .ok (.aload_n 0, 1) := by decide +kernel
theorem dX10_height_35 : decode cX10_height 35 = .ok (.iload_n 1, 1) := by decide +kernel
theorem dX10_height_36 : decode cX10_height 36 = .ok (.iload_n 2, 1) := by decide +kernel
theorem dX10_height_37 : decode cX10_height 37 = .ok (.invokevirtual 174, 3) := by decide +kernel
theorem dX10_height_40 : decode cX10_height 40 = .ok (.goto 22, 3) := by decide +kernel
theorem dX10_height_43 : decode cX10_height 43 = .ok (.aload_n 0, 1) := by decide +kernel
theorem dX10_height_44 : decode cX10_height 44 = .ok (.iload_n 1, 1) := by decide +kernel
theorem dX10_height_45 : decode cX10_height 45 = .ok (.iconst 0, 1) := by decide +kernel
theorem dX10_height_46 : decode cX10_height 46 = .ok (.iload_n 2, 1) := by decide +kernel
theorem dX10_height_47 : decode cX10_height 47 = .ok (.invokevirtual 171, 3) := by decide +kernel
theorem dX10_height_50 : decode cX10_height 50 = .ok (.aload_n 0, 1) := by decide +kernel
theorem dX10_height_51 : decode cX10_height 51 = .ok (.iload_n 1, 1) := by decide +kernel
theorem dX10_height_52 : decode cX10_height 52 = .ok (.iconst 1, 1) := by decide +kernel
theorem dX10_height_53 : decode cX10_height 53 = .ok (.iload_n 2, 1) := by decide +kernel
theorem dX10_height_54 : decode cX10_height 54 = .ok (.invokevirtual 171, 3) := by decide +kernel
theorem dX10_height_57 : decode cX10_height 57 = .ok (.isub, 1) := by decide +kernel
theorem dX10_height_58 : decode cX10_height 58 = .ok (.sipush 1000, 3) := by decide +kernel
theorem dX10_height_61 : decode cX10_height 61 = .ok (.iadd, 1) := by decide +kernel
theorem dX10_height_62 : decode cX10_height 62 = .ok (.ireturn, 1) := by decide +kernel
theorem dX10_lightAt_0 : decode cX10_lightAt 0 = .ok (.bipush 20, 2) := by decide +kernel
theorem dX10_lightAt_2 : decode cX10_lightAt 2 = .ok (.istore_n 3, 1) := by decide +kernel
theorem dX10_lightAt_3 : decode cX10_lightAt 3 = .ok (.iconst 0, 1) := by decide +kernel
theorem dX10_lightAt_4 : decode cX10_lightAt 4 = .ok (.istore 4, 2) := by decide +kernel
theorem dX10_lightAt_6 : decode cX10_lightAt 6 = .ok (.iload 4, 2) := by decide +kernel
theorem dX10_lightAt_8 : decode cX10_lightAt 8 = .ok (.iconst 2, 1) := by decide +kernel
theorem dX10_lightAt_9 : decode cX10_lightAt 9 = .ok (.if_icmp .ge 43, 3) := by decide +kernel
theorem dX10_lightAt_12 : decode cX10_lightAt 12 = .ok (.iload_n 1, 1) := by decide +kernel
theorem dX10_lightAt_13 : decode cX10_lightAt 13 = .ok (.iload 4, 2) := by decide +kernel
theorem dX10_lightAt_15 : decode cX10_lightAt 15 = .ok (.invokestatic 146, 3) := by decide +kernel
theorem dX10_lightAt_18 : decode cX10_lightAt 18 = .ok (.istore 5, 2) := by decide +kernel
theorem dX10_lightAt_20 : decode cX10_lightAt 20 = .ok (.iload_n 3, 1) := by decide +kernel
theorem dX10_lightAt_21 : decode cX10_lightAt 21 = .ok (.aload_n 0, 1) := by decide +kernel
theorem dX10_lightAt_22 : decode cX10_lightAt 22 = .ok (.iload 5, 2) := by decide +kernel
theorem dX10_lightAt_24 : decode cX10_lightAt 24 = .ok (.invokevirtual 133, 3) := by decide +kernel
theorem dX10_lightAt_27 : decode cX10_lightAt 27 = .ok (.ifCond .eq 7, 3) := by decide +kernel
theorem dX10_lightAt_30 : decode cX10_lightAt 30 = .ok (.iconst 0, 1) := by decide +kernel
theorem dX10_lightAt_31 : decode cX10_lightAt 31 = .ok (.goto 13, 3) := by decide +kernel
theorem dX10_lightAt_34 : decode cX10_lightAt 34 = .ok (.aload_n 0, 1) := by decide +kernel
theorem dX10_lightAt_35 : decode cX10_lightAt 35 = .ok (.iload 5, 2) := by decide +kernel
theorem dX10_lightAt_37 : decode cX10_lightAt 37 = .ok (.iload_n 2, 1) := by decide +kernel
theorem dX10_lightAt_38 : decode cX10_lightAt 38 = .ok (.invokevirtual 174, 3) := by decide +kernel
theorem dX10_lightAt_41 : decode cX10_lightAt 41 = .ok (.bipush 12, 2) := by decide +kernel
theorem dX10_lightAt_43 : decode cX10_lightAt 43 = .ok (.idiv, 1) := by decide +kernel
theorem dX10_lightAt_44 : decode cX10_lightAt 44 = .ok (.isub, 1) := by decide +kernel
theorem dX10_lightAt_45 : decode cX10_lightAt 45 = .ok (.istore_n 3, 1) := by decide +kernel
theorem dX10_lightAt_46 : decode cX10_lightAt 46 = .ok (.iinc 4 1, 3) := by decide +kernel
theorem dX10_lightAt_49 : decode cX10_lightAt 49 = .ok (.goto (-43), 3) := by decide +kernel
theorem dX10_lightAt_52 : decode cX10_lightAt 52 = .ok (.iload_n 3, 1) := by decide +kernel
theorem dX10_lightAt_53 : decode cX10_lightAt 53 = .ok (.ifCond .ge 7, 3) := by decide +kernel
theorem dX10_lightAt_56 : decode cX10_lightAt 56 = .ok (.iconst 0, 1) := by decide +kernel
theorem dX10_lightAt_57 : decode cX10_lightAt 57 = .ok (.goto 4, 3) := by decide +kernel
theorem dX10_lightAt_60 : decode cX10_lightAt 60 = .ok (.iload_n 3, 1) := by decide +kernel
theorem dX10_lightAt_61 : decode cX10_lightAt 61 = .ok (.ireturn, 1) := by decide +kernel
theorem dX10_light_0 : decode cX10_light 0 = .ok (.aload_n 0, 1) := by decide +kernel
theorem dX10_light_1 : decode cX10_light 1 = .ok (.iload_n 1, 1) := by decide +kernel
theorem dX10_light_2 : decode cX10_light 2 = .ok (.invokevirtual 130, 3) := by decide +kernel
theorem dX10_light_5 : decode cX10_light 5 = .ok (.ifCond .eq 5, 3) := by decide +kernel
theorem dX10_light_8 : decode cX10_light 8 = .ok (.iconst (-1), 1) := by decide +kernel
theorem dX10_light_9 : decode cX10_light 9 = .ok (.ireturn, 1) := by decide +kernel
theorem dX10_light_10 : decode cX10_light 10 = .ok (.iload_n 2, 1) := by decide +kernel
theorem dX10_light_11 : decode cX10_light 11 = .ok (.invokestatic 168, 3) := by decide +kernel
theorem dX10_light_14 : decode cX10_light 14 = .ok (.ifCond .eq 12, 3) := by decide +kernel
theorem dX10_light_17 : decode cX10_light 17 = .ok (.aload_n 0, 1) := by decide +kernel
theorem dX10_light_18 : decode cX10_light 18 = .ok (.iload_n 1, 1) := by decide +kernel
theorem dX10_light_19 : decode cX10_light 19 = .ok (.iload_n 2, 1) := by decide +kernel
theorem dX10_light_20 : decode cX10_light 20 = .ok (.invokevirtual 177, 3) := by decide +kernel
theorem dX10_light_23 : decode cX10_light 23 = .ok (.goto 5, 3) := by decide +kernel
theorem dX10_light_26 : decode cX10_light 26 = .ok (.bipush (-2), 2) := by decide +kernel
theorem dX10_light_28 : decode cX10_light 28 = .ok (.ireturn, 1) := by decide +kernel
theorem dX10_doGoatsCome_0 : decode cX10_doGoatsCome 0 = .ok (.iconst 1, 1) := by decide +kernel
theorem dX10_doGoatsCome_1 : decode cX10_doGoatsCome 1 = .ok (.istore_n 3, 1) := by decide +kernel
theorem dX10_doGoatsCome_2 : decode cX10_doGoatsCome 2 = .ok (.iconst 0, 1) := by decide +kernel
theorem dX10_doGoatsCome_3 : decode cX10_doGoatsCome 3 = .ok (.istore 4, 2) := by decide +kernel
theorem dX10_doGoatsCome_5 : decode cX10_doGoatsCome 5 = .ok (.iload 4, 2) := by decide +kernel
theorem dX10_doGoatsCome_7 : decode cX10_doGoatsCome 7 = .ok (.iload_n 1, 1) := by decide +kernel
theorem dX10_doGoatsCome_8 : decode cX10_doGoatsCome 8 = .ok (.if_icmp .ge 31, 3) := by decide +kernel
theorem dX10_doGoatsCome_11 : decode cX10_doGoatsCome 11 = .ok (.iload_n 3, 1) := by decide +kernel
theorem dX10_doGoatsCome_12 : decode cX10_doGoatsCome 12 = .ok (.ifCond .eq 27, 3) := by decide +kernel
theorem dX10_doGoatsCome_15 : decode cX10_doGoatsCome 15 = .ok (.aload_n 0, 1) := by decide +kernel
theorem dX10_doGoatsCome_16 : decode cX10_doGoatsCome 16 = .ok (.iload 4, 2) := by decide +kernel
theorem dX10_doGoatsCome_18 : decode cX10_doGoatsCome 18 = .ok (.iload_n 2, 1) := by decide +kernel
theorem dX10_doGoatsCome_19 : decode cX10_doGoatsCome 19 = .ok (.invokevirtual 174, 3) := by decide +kernel
theorem dX10_doGoatsCome_22 : decode cX10_doGoatsCome 22 = .ok (.bipush 36, 2) := by decide +kernel
theorem dX10_doGoatsCome_24 : decode cX10_doGoatsCome 24 = .ok (.if_icmp .ge 7, 3) := by decide +kernel
theorem dX10_doGoatsCome_27 : decode cX10_doGoatsCome 27 = .ok (.iconst 1, 1) := by decide +kernel
theorem dX10_doGoatsCome_28 : decode cX10_doGoatsCome 28 = .ok (.goto 4, 3) := by decide +kernel
theorem dX10_doGoatsCome_31 : decode cX10_doGoatsCome 31 = .ok (.iconst 0, 1) := by decide +kernel
theorem dX10_doGoatsCome_32 : decode cX10_doGoatsCome 32 = .ok (.istore_n 3, 1) := by decide +kernel
theorem dX10_doGoatsCome_33 : decode cX10_doGoatsCome 33 = .ok (.iinc 4 1, 3) := by decide +kernel
theorem dX10_doGoatsCome_36 : decode cX10_doGoatsCome 36 = .ok (.goto (-31), 3) := by decide +kernel
theorem dX10_doGoatsCome_39 : decode cX10_doGoatsCome 39 = .ok (.iload_n 3, 1) := by decide +kernel
theorem dX10_doGoatsCome_40 : decode cX10_doGoatsCome 40 = .ok (.ireturn, 1) := by decide +kernel
theorem dX10_goats_0 : decode cX10_goats 0 = .ok (.iload_n 1, 1) := by decide +kernel
theorem dX10_goats_1 : decode cX10_goats 1 = .ok (.invokestatic 168, 3) := by decide +kernel
theorem dX10_goats_4 : decode cX10_goats 4 = .ok (.ifCond .ne 6, 3) := by decide +kernel
theorem dX10_goats_7 : decode cX10_goats 7 = .ok (.bipush (-2), 2) := by decide +kernel
theorem dX10_goats_9 : decode cX10_goats 9 = .ok (.ireturn, 1) := by decide +kernel
theorem dX10_goats_10 : decode cX10_goats 10 = .ok (.aload_n 0, 1) := by decide +kernel
theorem dX10_goats_11 : decode cX10_goats 11 = .ok (.getfield 71, 3) := by decide +kernel
theorem dX10_goats_14 : decode cX10_goats 14 = .ok (.ifCond .ne 6, 3) := by decide +kernel
theorem dX10_goats_17 : decode cX10_goats 17 = .ok (.bipush (-3), 2) := by decide +kernel
theorem dX10_goats_19 : decode cX10_goats 19 = .ok (.ireturn, 1) := by decide +kernel
theorem dX10_goats_20 : decode cX10_goats 20 = .ok (.iconst 0, 1) := by decide +kernel
theorem dX10_goats_21 : decode cX10_goats 21 = .ok (.istore_n 2, 1) := by decide +kernel
theorem dX10_goats_22 : decode cX10_goats 22 = .ok (.iconst 0, 1) := by decide +kernel
theorem dX10_goats_23 : decode cX10_goats 23 = .ok (.istore_n 3, 1) := by decide +kernel
theorem dX10_goats_24 : decode cX10_goats 24 = .ok (.iload_n 3, 1) := by decide +kernel
theorem dX10_goats_25 : decode cX10_goats 25 = .ok (.aload_n 0, 1) := by decide +kernel
theorem dX10_goats_26 : decode cX10_goats 26 = .ok (.getfield 71, 3) := by decide +kernel
theorem dX10_goats_29 : decode cX10_goats 29 = .ok (.if_icmp .ge 28, 3) := by decide +kernel
theorem dX10_goats_32 : decode cX10_goats 32 = .ok (.iload_n 2, 1) := by decide +kernel
theorem dX10_goats_33 : decode cX10_goats 33 = .ok (.aload_n 0, 1) := by decide +kernel
theorem dX10_goats_34 : decode cX10_goats 34 = .ok (.iload_n 3, 1) := by decide +kernel
theorem dX10_goats_35 : decode cX10_goats 35 = .ok (.iload_n 1, 1) := by decide +kernel
theorem dX10_goats_36 : decode cX10_goats 36 = .ok (.invokevirtual 180, 3) := by decide +kernel
theorem dX10_goats_39 : decode cX10_goats 39 = .ok (.ifCond .eq 9, 3) := by decide +kernel
theorem dX10_goats_42 : decode cX10_goats 42 = .ok (.iconst 1, 1) := by decide +kernel
theorem dX10_goats_43 : decode cX10_goats 43 = .ok (.iload_n 3, 1) := by decide +kernel
theorem dX10_goats_44 : decode cX10_goats 44 = .ok (.ishl, 1) := by decide +kernel
theorem dX10_goats_45 : decode cX10_goats 45 = .ok (.goto 4, 3) := by decide +kernel
theorem dX10_goats_48 : decode cX10_goats 48 = .ok (.iconst 0, 1) := by decide +kernel
theorem dX10_goats_49 : decode cX10_goats 49 = .ok (.ior, 1) := by decide +kernel
theorem dX10_goats_50 : decode cX10_goats 50 = .ok (.istore_n 2, 1) := by decide +kernel
theorem dX10_goats_51 : decode cX10_goats 51 = .ok (.iinc 3 1, 3) := by decide +kernel
theorem dX10_goats_54 : decode cX10_goats 54 = .ok (.goto (-30), 3) := by decide +kernel
theorem dX10_goats_57 : decode cX10_goats 57 = .ok (.iload_n 2, 1) := by decide +kernel
theorem dX10_goats_58 : decode cX10_goats 58 = .ok (.ireturn, 1) := by decide +kernel
theorem dX10_offAt_0 : decode cX10_offAt 0 = .ok (.aload_n 0, 1) := by decide +kernel
theorem dX10_offAt_1 : decode cX10_offAt 1 = .ok (.iload_n 1, 1) := by decide +kernel
theorem dX10_offAt_2 : decode cX10_offAt 2 = .ok (.iload_n 2, 1) := by decide +kernel
theorem dX10_offAt_3 : decode cX10_offAt 3 = .ok (.invokevirtual 177, 3) := by decide +kernel
theorem dX10_offAt_6 : decode cX10_offAt 6 = .ok (.aload_n 0, 1) := by decide +kernel
theorem dX10_offAt_7 : decode cX10_offAt 7 = .ok (.getfield 7, 3) := by decide +kernel
theorem dX10_offAt_10 : decode cX10_offAt 10 = .ok (.iload_n 1, 1) := by decide +kernel
theorem dX10_offAt_11 : decode cX10_offAt 11 = .ok (.iaload, 1) := by decide +kernel
theorem dX10_offAt_12 : decode cX10_offAt 12 = .ok (.if_icmp .lt 7, 3) := by decide +kernel
theorem dX10_offAt_15 : decode cX10_offAt 15 = .ok (.iconst 1, 1) := by decide +kernel
theorem dX10_offAt_16 : decode cX10_offAt 16 = .ok (.goto 4, 3) := by decide +kernel
theorem dX10_offAt_19 : decode cX10_offAt 19 = .ok (.iconst 0, 1) := by decide +kernel
theorem dX10_offAt_20 : decode cX10_offAt 20 = .ok (.istore_n 3, 1) := by decide +kernel
theorem dX10_offAt_21 : decode cX10_offAt 21 = .ok (.aload_n 0, 1) := by decide +kernel
theorem dX10_offAt_22 : decode cX10_offAt 22 = .ok (.iload_n 1, 1) := by decide +kernel
theorem dX10_offAt_23 : decode cX10_offAt 23 = .ok (.iload_n 2, 1) := by decide +kernel
theorem dX10_offAt_24 : decode cX10_offAt 24 = .ok (.invokevirtual 180, 3) := by decide +kernel
theorem dX10_offAt_27 : decode cX10_offAt 27 = .ok (.ifCond .eq 7, 3) := by decide +kernel
theorem dX10_offAt_30 : decode cX10_offAt 30 = .ok (.iload_n 3, 1) := by decide +kernel
theorem dX10_offAt_31 : decode cX10_offAt 31 = .ok (.goto 6, 3) := by decide +kernel
theorem dX10_offAt_34 : decode cX10_offAt 34 = .ok (.iload_n 3, 1) := by decide +kernel
theorem dX10_offAt_35 : decode cX10_offAt 35 = .ok (.iconst 1, 1) := by decide +kernel
theorem dX10_offAt_36 : decode cX10_offAt 36 = .ok (.iadd, 1) := by decide +kernel
theorem dX10_offAt_37 : decode cX10_offAt 37 = .ok (.ireturn, 1) := by decide +kernel
theorem dX10_off_0 : decode cX10_off 0 = .ok (.aload_n 0, 1) := by decide +kernel
theorem dX10_off_1 : decode cX10_off 1 = .ok (.iload_n 1, 1) := by decide +kernel
theorem dX10_off_2 : decode cX10_off 2 = .ok (.invokevirtual 130, 3) := by decide +kernel
theorem dX10_off_5 : decode cX10_off 5 = .ok (.ifCond .eq 5, 3) := by decide +kernel
theorem dX10_off_8 : decode cX10_off 8 = .ok (.iconst (-1), 1) := by decide +kernel
theorem dX10_off_9 : decode cX10_off 9 = .ok (.ireturn, 1) := by decide +kernel
theorem dX10_off_10 : decode cX10_off 10 = .ok (.iload_n 2, 1) := by decide +kernel
theorem dX10_off_11 : decode cX10_off 11 = .ok (.invokestatic 168, 3) := by decide +kernel
theorem dX10_off_14 : decode cX10_off 14 = .ok (.ifCond .eq 12, 3) := by decide +kernel
theorem dX10_off_17 : decode cX10_off 17 = .ok (.aload_n 0, 1) := by decide +kernel
theorem dX10_off_18 : decode cX10_off 18 = .ok (.iload_n 1, 1) := by decide +kernel
theorem dX10_off_19 : decode cX10_off 19 = .ok (.iload_n 2, 1) := by decide +kernel
theorem dX10_off_20 : decode cX10_off 20 = .ok (.invokevirtual 183, 3) := by decide +kernel
theorem dX10_off_23 : decode cX10_off 23 = .ok (.goto 5, 3) := by decide +kernel
theorem dX10_off_26 : decode cX10_off 26 = .ok (.bipush (-2), 2) := by decide +kernel
theorem dX10_off_28 : decode cX10_off 28 = .ok (.ireturn, 1) := by decide +kernel
theorem dX10_enoughFor_0 : decode cX10_enoughFor 0 = .ok (.iload_n 3, 1) := by decide +kernel
theorem dX10_enoughFor_1 : decode cX10_enoughFor 1 = .ok (.iload 4, 2) := by decide +kernel
theorem dX10_enoughFor_3 : decode cX10_enoughFor 3 = .ok (.iload_n 1, 1) := by decide +kernel
theorem dX10_enoughFor_4 : decode cX10_enoughFor 4 = .ok (.invokestatic 156, 3) := by decide +kernel
theorem dX10_enoughFor_7 : decode cX10_enoughFor 7 = .ok (.istore 5, 2) := by decide +kernel
theorem dX10_enoughFor_9 : decode cX10_enoughFor 9 = .ok (.aload_n 0, 1) := by decide +kernel
theorem dX10_enoughFor_10 : decode cX10_enoughFor 10 = .ok (.getfield 19, 3) := by decide +kernel
theorem dX10_enoughFor_13 : decode cX10_enoughFor 13 = .ok (.iload 5, 2) := by decide +kernel
theorem dX10_enoughFor_15 : decode cX10_enoughFor 15 = .ok (.iaload, 1) := by decide +kernel
theorem dX10_enoughFor_16 : decode cX10_enoughFor 16 = .ok (.istore 6, 2) := by decide +kernel
theorem dX10_enoughFor_18 : decode cX10_enoughFor 18 = .ok (.bipush (-9), 2) := by decide +kernel
theorem dX10_enoughFor_20 : decode cX10_enoughFor 20 = .ok (.istore 7, 2) := by decide +kernel
theorem dX10_enoughFor_22 : decode cX10_enoughFor 22 = .ok (.iconst 3, 1) := by decide +kernel
theorem dX10_enoughFor_23 : decode cX10_enoughFor 23 = .ok (.istore 8, 2) := by decide +kernel
theorem dX10_enoughFor_25 : decode cX10_enoughFor 25 = .ok (.iload 8, 2) := by decide +kernel
theorem dX10_enoughFor_27 : decode cX10_enoughFor 27 = .ok (.iload 6, 2) := by decide +kernel
theorem dX10_enoughFor_29 : decode cX10_enoughFor 29 = .ok (.if_icmp .lt 43, 3) := by decide +kernel
theorem dX10_enoughFor_32 : decode cX10_enoughFor 32 = .ok (.aload_n 0, 1) := by decide +kernel
theorem dX10_enoughFor_33 : decode cX10_enoughFor 33 = .ok (.getfield 19, 3) := by decide +kernel
theorem dX10_enoughFor_36 : decode cX10_enoughFor 36 = .ok (.iload 5, 2) := by decide +kernel
theorem dX10_enoughFor_38 : decode cX10_enoughFor 38 = .ok (.iload 8, 2) := by decide +kernel
theorem dX10_enoughFor_40 : decode cX10_enoughFor 40 = .ok (.iastore, 1) := by decide +kernel
theorem dX10_enoughFor_41 : decode cX10_enoughFor 41 = .ok (.aload_n 0, 1) := by decide +kernel
theorem dX10_enoughFor_42 : decode cX10_enoughFor 42 = .ok (.iload_n 3, 1) := by decide +kernel
theorem dX10_enoughFor_43 : decode cX10_enoughFor 43 = .ok (.iload 4, 2) := by decide +kernel
theorem dX10_enoughFor_45 : decode cX10_enoughFor 45 = .ok (.bipush 30, 2) := by decide +kernel
theorem dX10_enoughFor_47 : decode cX10_enoughFor 47 = .ok (.invokevirtual 171, 3) := by decide +kernel
theorem dX10_enoughFor_50 : decode cX10_enoughFor 50 = .ok (.bipush 12, 2) := by decide +kernel
theorem dX10_enoughFor_52 : decode cX10_enoughFor 52 = .ok (.iload_n 2, 1) := by decide +kernel
theorem dX10_enoughFor_53 : decode cX10_enoughFor 53 = .ok (.imul, 1) := by decide +kernel
theorem dX10_enoughFor_54 : decode cX10_enoughFor 54 = .ok (.if_icmp .lt 8, 3) := by decide +kernel
end
section
theorem dX10_enoughFor_57 : decode cX10_enoughFor 57 = .ok (.iload 8, 2) := by decide +kernel
theorem dX10_enoughFor_59 : decode cX10_enoughFor 59 = .ok (.goto 5, 3) := by decide +kernel
theorem dX10_enoughFor_62 : decode cX10_enoughFor 62 = .ok (.iload 7, 2) := by decide +kernel
theorem dX10_enoughFor_64 : decode cX10_enoughFor 64 = .ok (.istore 7, 2) := by decide +kernel
theorem dX10_enoughFor_66 : decode cX10_enoughFor 66 = .ok (.iinc 8 (-1), 3) := by decide +kernel
theorem dX10_enoughFor_69 : decode cX10_enoughFor 69 = .ok (.goto (-44), 3) := by decide +kernel
theorem dX10_enoughFor_72 : decode cX10_enoughFor 72 = .ok (.aload_n 0, 1) := by decide +kernel
theorem dX10_enoughFor_73 : decode cX10_enoughFor 73 = .ok (.getfield 19, 3) := by decide +kernel
theorem dX10_enoughFor_76 : decode cX10_enoughFor 76 = .ok (.iload 5, 2) := by decide +kernel
theorem dX10_enoughFor_78 : decode cX10_enoughFor 78 = .ok (.iload 6, 2) := by decide +kernel
theorem dX10_enoughFor_80 : decode cX10_enoughFor 80 = .ok (.iastore, 1) := by decide +kernel
theorem dX10_enoughFor_81 : decode cX10_enoughFor 81 = .ok (.iload 7, 2) := by decide +kernel
theorem dX10_enoughFor_83 : decode cX10_enoughFor 83 = .ok (.ireturn, 1) := by decide +kernel
theorem dX10_scold_0 : decode cX10_scold 0 = .ok (.iload_n 3, 1) := by decide +kernel
theorem dX10_scold_1 : decode cX10_scold 1 = .ok (.iconst (-1), 1) := by decide +kernel
theorem dX10_scold_2 : decode cX10_scold 2 = .ok (.if_icmp .eq 13, 3) := by decide +kernel
theorem dX10_scold_5 : decode cX10_scold 5 = .ok (.aload_n 0, 1) := by decide +kernel
theorem dX10_scold_6 : decode cX10_scold 6 = .ok (.iload_n 3, 1) := by decide +kernel
theorem dX10_scold_7 : decode cX10_scold 7 = .ok (.invokevirtual 133, 3) := by decide +kernel
theorem dX10_scold_10 : decode cX10_scold 10 = .ok (.ifCond .eq 5, 3) := by decide +kernel
theorem dX10_scold_13 : decode cX10_scold 13 = .ok (.iconst (-1), 1) := by decide +kernel
theorem dX10_scold_14 : decode cX10_scold 14 = .ok (.ireturn, 1) := by decide +kernel
theorem dX10_scold_15 : decode cX10_scold 15 = .ok (.iload_n 1, 1) := by decide +kernel
theorem dX10_scold_16 : decode cX10_scold 16 = .ok (.invokestatic 139, 3) := by decide +kernel
theorem dX10_scold_19 : decode cX10_scold 19 = .ok (.ifCond .eq 18, 3) := by decide +kernel
theorem dX10_scold_22 : decode cX10_scold 22 = .ok (.iload_n 2, 1) := by decide +kernel
theorem dX10_scold_23 : decode cX10_scold 23 = .ok (.invokestatic 153, 3) := by decide +kernel
theorem dX10_scold_26 : decode cX10_scold 26 = .ok (.ifCond .eq 11, 3) := by decide +kernel
theorem dX10_scold_29 : decode cX10_scold 29 = .ok (.iload 4, 2) := by decide +kernel
theorem dX10_scold_31 : decode cX10_scold 31 = .ok (.invokestatic 136, 3) := by decide +kernel
theorem dX10_scold_34 : decode cX10_scold 34 = .ok (.ifCond .ne 6, 3) := by decide +kernel
theorem dX10_scold_37 : decode cX10_scold 37 = .ok (.bipush (-2), 2) := by decide +kernel
theorem dX10_scold_39 : decode cX10_scold 39 = .ok (.ireturn, 1) := by decide +kernel
theorem dX10_scold_40 : decode cX10_scold 40 = .ok (.aload_n 0, 1) := by decide +kernel
theorem dX10_scold_41 : decode cX10_scold 41 = .ok (.getfield 71, 3) := by decide +kernel
theorem dX10_scold_44 : decode cX10_scold 44 = .ok (.ifCond .ne 6, 3) := by decide +kernel
theorem dX10_scold_47 : decode cX10_scold 47 = .ok (.bipush (-3), 2) := by decide +kernel
theorem dX10_scold_49 : decode cX10_scold 49 = .ok (.ireturn, 1) := by decide +kernel
theorem dX10_scold_50 : decode cX10_scold 50 = .ok (.iload_n 3, 1) := by decide +kernel
theorem dX10_scold_51 : decode cX10_scold 51 = .ok (.ifCond .lt 32, 3) := by decide +kernel
theorem dX10_scold_54 : decode cX10_scold 54 = .ok (.aload_n 0, 1) := by decide +kernel
theorem dX10_scold_55 : decode cX10_scold 55 = .ok (.iload_n 1, 1) := by decide +kernel
theorem dX10_scold_56 : decode cX10_scold 56 = .ok (.iload_n 2, 1) := by decide +kernel
theorem dX10_scold_57 : decode cX10_scold 57 = .ok (.iload_n 3, 1) := by decide +kernel
theorem dX10_scold_58 : decode cX10_scold 58 = .ok (.iload 4, 2) := by decide +kernel
theorem dX10_scold_60 : decode cX10_scold 60 = .ok (.invokevirtual 186, 3) := by decide +kernel
theorem dX10_scold_63 : decode cX10_scold 63 = .ok (.istore 5, 2) := by decide +kernel
theorem dX10_scold_65 : decode cX10_scold 65 = .ok (.iload 5, 2) := by decide +kernel
theorem dX10_scold_67 : decode cX10_scold 67 = .ok (.bipush (-3), 2) := by decide +kernel
theorem dX10_scold_69 : decode cX10_scold 69 = .ok (.if_icmp .ge 8, 3) := by decide +kernel
theorem dX10_scold_72 : decode cX10_scold 72 = .ok (.bipush (-9), 2) := by decide +kernel
theorem dX10_scold_74 : decode cX10_scold 74 = .ok (.goto 8, 3) := by decide +kernel
theorem dX10_scold_77 : decode cX10_scold 77 = .ok (.iload 5, 2) := by decide +kernel
theorem dX10_scold_79 : decode cX10_scold 79 = .ok (.bipush 10, 2) := by decide +kernel
theorem dX10_scold_81 : decode cX10_scold 81 = .ok (.iadd, 1) := by decide +kernel
theorem dX10_scold_82 : decode cX10_scold 82 = .ok (.ireturn, 1) := by decide +kernel
theorem dX10_scold_83 : decode cX10_scold 83 = .ok (.iconst 0, 1) := by decide +kernel
theorem dX10_scold_84 : decode cX10_scold 84 = .ok (.istore 5, 2) := by decide +kernel
theorem dX10_scold_86 : decode cX10_scold 86 = .ok (.iconst 0, 1) := by decide +kernel
theorem dX10_scold_87 : decode cX10_scold 87 = .ok (.istore 6, 2) := by decide +kernel
theorem dX10_scold_89 : decode cX10_scold 89 = .ok (.iload 6, 2) := by decide +kernel
theorem dX10_scold_91 : decode cX10_scold 91 = .ok (.iconst 2, 1) := by decide +kernel
theorem dX10_scold_92 : decode cX10_scold 92 = .ok (.aload_n 0, 1) := by decide +kernel
theorem dX10_scold_93 : decode cX10_scold 93 = .ok (.invokevirtual 78, 3) := by decide +kernel
theorem dX10_scold_96 : decode cX10_scold 96 = .ok (.imul, 1) := by decide +kernel
theorem dX10_scold_97 : decode cX10_scold 97 = .ok (.if_icmp .ge 60, 3) := by decide +kernel
theorem dX10_scold_100 : decode cX10_scold 100 = .ok (.aload_n 0, 1) := by decide +kernel
theorem dX10_scold_101 : decode cX10_scold 101 = .ok (.iload_n 1, 1) := by decide +kernel
theorem dX10_scold_102 : decode cX10_scold 102 = .ok (.iload_n 2, 1) := by decide +kernel
theorem dX10_scold_103 : decode cX10_scold 103 = .ok (.iload 6, 2) := by decide +kernel
theorem dX10_scold_105 : decode cX10_scold 105 = .ok (.iconst 2, 1) := by decide +kernel
theorem dX10_scold_106 : decode cX10_scold 106 = .ok (.idiv, 1) := by decide +kernel
theorem dX10_scold_107 : decode cX10_scold 107 = .ok (.iload 6, 2) := by decide +kernel
theorem dX10_scold_109 : decode cX10_scold 109 = .ok (.iconst 2, 1) := by decide +kernel
theorem dX10_scold_110 : decode cX10_scold 110 = .ok (.irem, 1) := by decide +kernel
theorem dX10_scold_111 : decode cX10_scold 111 = .ok (.invokevirtual 186, 3) := by decide +kernel
theorem dX10_scold_114 : decode cX10_scold 114 = .ok (.istore 7, 2) := by decide +kernel
theorem dX10_scold_116 : decode cX10_scold 116 = .ok (.iload 7, 2) := by decide +kernel
theorem dX10_scold_118 : decode cX10_scold 118 = .ok (.bipush (-3), 2) := by decide +kernel
theorem dX10_scold_120 : decode cX10_scold 120 = .ok (.if_icmp .ge 6, 3) := by decide +kernel
theorem dX10_scold_123 : decode cX10_scold 123 = .ok (.bipush (-9), 2) := by decide +kernel
theorem dX10_scold_125 : decode cX10_scold 125 = .ok (.ireturn, 1) := by decide +kernel
theorem dX10_scold_126 : decode cX10_scold 126 = .ok (.iload 5, 2) := by decide +kernel
theorem dX10_scold_128 : decode cX10_scold 128 = .ok (.iload 7, 2) := by decide +kernel
theorem dX10_scold_130 : decode cX10_scold 130 = .ok (.aload_n 0, 1) := by decide +kernel
theorem dX10_scold_131 : decode cX10_scold 131 = .ok (.getfield 19, 3) := by decide +kernel
theorem dX10_scold_134 : decode cX10_scold 134 = .ok (.iload 6, 2) := by decide +kernel
theorem dX10_scold_136 : decode cX10_scold 136 = .ok (.iconst 2, 1) := by decide +kernel
theorem dX10_scold_137 : decode cX10_scold 137 = .ok (.idiv, 1) := by decide +kernel
theorem dX10_scold_138 : decode cX10_scold 138 = .ok (.iload 6, 2) := by decide +kernel
theorem dX10_scold_140 : decode cX10_scold 140 = .ok (.iconst 2, 1) := by decide +kernel
theorem dX10_scold_141 : decode cX10_scold 141 = .ok (.irem, 1) := by decide +kernel
theorem dX10_scold_142 : decode cX10_scold 142 = .ok (.iload_n 1, 1) := by decide +kernel
theorem dX10_scold_143 : decode cX10_scold 143 = .ok (.invokestatic 156, 3) := by decide +kernel
theorem dX10_scold_146 : decode cX10_scold 146 = .ok (.iaload, 1) := by decide +kernel
theorem dX10_scold_147 : decode cX10_scold 147 = .ok (.isub, 1) := by decide +kernel
theorem dX10_scold_148 : decode cX10_scold 148 = .ok (.iadd, 1) := by decide +kernel
theorem dX10_scold_149 : decode cX10_scold 149 = .ok (.istore 5, 2) := by decide +kernel
theorem dX10_scold_151 : decode cX10_scold 151 = .ok (.iinc 6 1, 3) := by decide +kernel
theorem dX10_scold_154 : decode cX10_scold 154 = .ok (.goto (-65), 3) := by decide +kernel
theorem dX10_scold_157 : decode cX10_scold 157 = .ok (.iload 5, 2) := by decide +kernel
theorem dX10_scold_159 : decode cX10_scold 159 = .ok (.ireturn, 1) := by decide +kernel
theorem dX10_reading_0 : decode cX10_reading 0 = .ok (.aload_n 0, 1) := by decide +kernel
theorem dX10_reading_1 : decode cX10_reading 1 = .ok (.iload_n 1, 1) := by decide +kernel
theorem dX10_reading_2 : decode cX10_reading 2 = .ok (.invokevirtual 133, 3) := by decide +kernel
theorem dX10_reading_5 : decode cX10_reading 5 = .ok (.ifCond .eq 5, 3) := by decide +kernel
theorem dX10_reading_8 : decode cX10_reading 8 = .ok (.iconst (-1), 1) := by decide +kernel
theorem dX10_reading_9 : decode cX10_reading 9 = .ok (.ireturn, 1) := by decide +kernel
theorem dX10_reading_10 : decode cX10_reading 10 = .ok (.iload_n 2, 1) := by decide +kernel
theorem dX10_reading_11 : decode cX10_reading 11 = .ok (.invokestatic 136, 3) := by decide +kernel
theorem dX10_reading_14 : decode cX10_reading 14 = .ok (.ifCond .eq 23, 3) := by decide +kernel
theorem dX10_reading_17 : decode cX10_reading 17 = .ok (.iload_n 3, 1) := by decide +kernel
theorem dX10_reading_18 : decode cX10_reading 18 = .ok (.invokestatic 168, 3) := by decide +kernel
theorem dX10_reading_21 : decode cX10_reading 21 = .ok (.ifCond .eq 16, 3) := by decide +kernel
theorem dX10_reading_24 : decode cX10_reading 24 = .ok (.iload 4, 2) := by decide +kernel
theorem dX10_reading_26 : decode cX10_reading 26 = .ok (.i2l, 1) := by decide +kernel
theorem dX10_reading_27 : decode cX10_reading 27 = .ok (.lconst 0, 1) := by decide +kernel
theorem dX10_reading_28 : decode cX10_reading 28 = .ok (.ldc2_w 190, 3) := by decide +kernel
theorem dX10_reading_31 : decode cX10_reading 31 = .ok (.invokestatic 74, 3) := by decide +kernel
theorem dX10_reading_34 : decode cX10_reading 34 = .ok (.ifCond .ne 6, 3) := by decide +kernel
theorem dX10_reading_37 : decode cX10_reading 37 = .ok (.bipush (-2), 2) := by decide +kernel
theorem dX10_reading_39 : decode cX10_reading 39 = .ok (.ireturn, 1) := by decide +kernel
theorem dX10_reading_40 : decode cX10_reading 40 = .ok (.aload_n 0, 1) := by decide +kernel
theorem dX10_reading_41 : decode cX10_reading 41 = .ok (.getfield 127, 3) := by decide +kernel
theorem dX10_reading_44 : decode cX10_reading 44 = .ok (.bipush 10, 2) := by decide +kernel
theorem dX10_reading_46 : decode cX10_reading 46 = .ok (.if_icmp .ne 6, 3) := by decide +kernel
theorem dX10_reading_49 : decode cX10_reading 49 = .ok (.bipush (-4), 2) := by decide +kernel
theorem dX10_reading_51 : decode cX10_reading 51 = .ok (.ireturn, 1) := by decide +kernel
theorem dX10_reading_52 : decode cX10_reading 52 = .ok (.aload_n 0, 1) := by decide +kernel
theorem dX10_reading_53 : decode cX10_reading 53 = .ok (.getfield 34, 3) := by decide +kernel
theorem dX10_reading_56 : decode cX10_reading 56 = .ok (.aload_n 0, 1) := by decide +kernel
theorem dX10_reading_57 : decode cX10_reading 57 = .ok (.getfield 127, 3) := by decide +kernel
theorem dX10_reading_60 : decode cX10_reading 60 = .ok (.iload_n 1, 1) := by decide +kernel
theorem dX10_reading_61 : decode cX10_reading 61 = .ok (.iastore, 1) := by decide +kernel
theorem dX10_reading_62 : decode cX10_reading 62 = .ok (.aload_n 0, 1) := by decide +kernel
theorem dX10_reading_63 : decode cX10_reading 63 = .ok (.getfield 37, 3) := by decide +kernel
theorem dX10_reading_66 : decode cX10_reading 66 = .ok (.aload_n 0, 1) := by decide +kernel
theorem dX10_reading_67 : decode cX10_reading 67 = .ok (.getfield 127, 3) := by decide +kernel
theorem dX10_reading_70 : decode cX10_reading 70 = .ok (.iload_n 2, 1) := by decide +kernel
theorem dX10_reading_71 : decode cX10_reading 71 = .ok (.iastore, 1) := by decide +kernel
theorem dX10_reading_72 : decode cX10_reading 72 = .ok (.aload_n 0, 1) := by decide +kernel
theorem dX10_reading_73 : decode cX10_reading 73 = .ok (.getfield 40, 3) := by decide +kernel
theorem dX10_reading_76 : decode cX10_reading 76 = .ok (.aload_n 0, 1) := by decide +kernel
theorem dX10_reading_77 : decode cX10_reading 77 = .ok (.getfield 127, 3) := by decide +kernel
theorem dX10_reading_80 : decode cX10_reading 80 = .ok (.iload_n 3, 1) := by decide +kernel
theorem dX10_reading_81 : decode cX10_reading 81 = .ok (.iastore, 1) := by decide +kernel
theorem dX10_reading_82 : decode cX10_reading 82 = .ok (.aload_n 0, 1) := by decide +kernel
theorem dX10_reading_83 : decode cX10_reading 83 = .ok (.getfield 43, 3) := by decide +kernel
theorem dX10_reading_86 : decode cX10_reading 86 = .ok (.aload_n 0, 1) := by decide +kernel
theorem dX10_reading_87 : decode cX10_reading 87 = .ok (.getfield 127, 3) := by decide +kernel
theorem dX10_reading_90 : decode cX10_reading 90 = .ok (.iload 4, 2) := by decide +kernel
theorem dX10_reading_92 : decode cX10_reading 92 = .ok (.iastore, 1) := by decide +kernel
theorem dX10_reading_93 : decode cX10_reading 93 = .ok (.aload_n 0, 1) := by decide +kernel
theorem dX10_reading_94 : decode cX10_reading 94 = .ok (.dup, 1) := by decide +kernel
theorem dX10_reading_95 : decode cX10_reading 95 = .ok (.getfield 127, 3) := by decide +kernel
theorem dX10_reading_98 : decode cX10_reading 98 = .ok (.iconst 1, 1) := by decide +kernel
theorem dX10_reading_99 : decode cX10_reading 99 = .ok (.iadd, 1) := by decide +kernel
theorem dX10_reading_100 : decode cX10_reading 100 = .ok (.putfield 127, 3) := by decide +kernel
theorem dX10_reading_103 : decode cX10_reading 103 = .ok (.aload_n 0, 1) := by decide +kernel
theorem dX10_reading_104 : decode cX10_reading 104 = .ok (.getfield 127, 3) := by decide +kernel
theorem dX10_reading_107 : decode cX10_reading 107 = .ok (.iconst 1, 1) := by decide +kernel
theorem dX10_reading_108 : decode cX10_reading 108 = .ok (.isub, 1) := by decide +kernel
theorem dX10_reading_109 : decode cX10_reading 109 = .ok (.ireturn, 1) := by decide +kernel
theorem dX10_back_0 : decode cX10_back 0 = .ok (.iload_n 1, 1) := by decide +kernel
theorem dX10_back_1 : decode cX10_back 1 = .ok (.i2l, 1) := by decide +kernel
theorem dX10_back_2 : decode cX10_back 2 = .ok (.lconst 0, 1) := by decide +kernel
theorem dX10_back_3 : decode cX10_back 3 = .ok (.aload_n 0, 1) := by decide +kernel
theorem dX10_back_4 : decode cX10_back 4 = .ok (.getfield 127, 3) := by decide +kernel
theorem dX10_back_7 : decode cX10_back 7 = .ok (.i2l, 1) := by decide +kernel
theorem dX10_back_8 : decode cX10_back 8 = .ok (.invokestatic 74, 3) := by decide +kernel
theorem dX10_back_11 : decode cX10_back 11 = .ok (.ifCond .ne 6, 3) := by decide +kernel
theorem dX10_back_14 : decode cX10_back 14 = .ok (.bipush (-2), 2) := by decide +kernel
theorem dX10_back_16 : decode cX10_back 16 = .ok (.ireturn, 1) := by decide +kernel
theorem dX10_back_17 : decode cX10_back 17 = .ok (.aload_n 0, 1) := by decide +kernel
theorem dX10_back_18 : decode cX10_back 18 = .ok (.dup, 1) := by decide +kernel
theorem dX10_back_19 : decode cX10_back 19 = .ok (.getfield 127, 3) := by decide +kernel
theorem dX10_back_22 : decode cX10_back 22 = .ok (.iload_n 1, 1) := by decide +kernel
theorem dX10_back_23 : decode cX10_back 23 = .ok (.isub, 1) := by decide +kernel
theorem dX10_back_24 : decode cX10_back 24 = .ok (.putfield 127, 3) := by decide +kernel
theorem dX10_back_27 : decode cX10_back 27 = .ok (.aload_n 0, 1) := by decide +kernel
theorem dX10_back_28 : decode cX10_back 28 = .ok (.getfield 127, 3) := by decide +kernel
theorem dX10_back_31 : decode cX10_back 31 = .ok (.ireturn, 1) := by decide +kernel
theorem dX10_areSo_0 : decode cX10_areSo 0 = .ok (.iconst 1, 1) := by decide +kernel
theorem dX10_areSo_1 : decode cX10_areSo 1 = .ok (.istore_n 1, 1) := by decide +kernel
theorem dX10_areSo_2 : decode cX10_areSo 2 = .ok (.iconst 0, 1) := by decide +kernel
theorem dX10_areSo_3 : decode cX10_areSo 3 = .ok (.istore_n 2, 1) := by decide +kernel
theorem dX10_areSo_4 : decode cX10_areSo 4 = .ok (.iload_n 2, 1) := by decide +kernel
theorem dX10_areSo_5 : decode cX10_areSo 5 = .ok (.aload_n 0, 1) := by decide +kernel
theorem dX10_areSo_6 : decode cX10_areSo 6 = .ok (.getfield 127, 3) := by decide +kernel
theorem dX10_areSo_9 : decode cX10_areSo 9 = .ok (.if_icmp .ge 50, 3) := by decide +kernel
theorem dX10_areSo_12 : decode cX10_areSo 12 = .ok (.iload_n 1, 1) := by decide +kernel
theorem dX10_areSo_13 : decode cX10_areSo 13 = .ok (.ifCond .eq 46, 3) := by decide +kernel
theorem dX10_areSo_16 : decode cX10_areSo 16 = .ok (.aload_n 0, 1) := by decide +kernel
theorem dX10_areSo_17 : decode cX10_areSo 17 = .ok (.aload_n 0, 1) := by decide +kernel
theorem dX10_areSo_18 : decode cX10_areSo 18 = .ok (.getfield 34, 3) := by decide +kernel
theorem dX10_areSo_21 : decode cX10_areSo 21 = .ok (.iload_n 2, 1) := by decide +kernel
theorem dX10_areSo_22 : decode cX10_areSo 22 = .ok (.iaload, 1) := by decide +kernel
theorem dX10_areSo_23 : decode cX10_areSo 23 = .ok (.aload_n 0, 1) := by decide +kernel
theorem dX10_areSo_24 : decode cX10_areSo 24 = .ok (.getfield 37, 3) := by decide +kernel
theorem dX10_areSo_27 : decode cX10_areSo 27 = .ok (.iload_n 2, 1) := by decide +kernel
theorem dX10_areSo_28 : decode cX10_areSo 28 = .ok (.iaload, 1) := by decide +kernel
theorem dX10_areSo_29 : decode cX10_areSo 29 = .ok (.aload_n 0, 1) := by decide +kernel
theorem dX10_areSo_30 : decode cX10_areSo 30 = .ok (.getfield 40, 3) := by decide +kernel
theorem dX10_areSo_33 : decode cX10_areSo 33 = .ok (.iload_n 2, 1) := by decide +kernel
theorem dX10_areSo_34 : decode cX10_areSo 34 = .ok (.iaload, 1) := by decide +kernel
theorem dX10_areSo_35 : decode cX10_areSo 35 = .ok (.invokevirtual 171, 3) := by decide +kernel
theorem dX10_areSo_38 : decode cX10_areSo 38 = .ok (.aload_n 0, 1) := by decide +kernel
theorem dX10_areSo_39 : decode cX10_areSo 39 = .ok (.getfield 43, 3) := by decide +kernel
theorem dX10_areSo_42 : decode cX10_areSo 42 = .ok (.iload_n 2, 1) := by decide +kernel
theorem dX10_areSo_43 : decode cX10_areSo 43 = .ok (.iaload, 1) := by decide +kernel
theorem dX10_areSo_44 : decode cX10_areSo 44 = .ok (.if_icmp .ne 7, 3) := by decide +kernel
theorem dX10_areSo_47 : decode cX10_areSo 47 = .ok (.iconst 1, 1) := by decide +kernel
theorem dX10_areSo_48 : decode cX10_areSo 48 = .ok (.goto 4, 3) := by decide +kernel
theorem dX10_areSo_51 : decode cX10_areSo 51 = .ok (.iconst 0, 1) := by decide +kernel
theorem dX10_areSo_52 : decode cX10_areSo 52 = .ok (.istore_n 1, 1) := by decide +kernel
theorem dX10_areSo_53 : decode cX10_areSo 53 = .ok (.iinc 2 1, 3) := by decide +kernel
theorem dX10_areSo_56 : decode cX10_areSo 56 = .ok (.goto (-52), 3) := by decide +kernel
theorem dX10_areSo_59 : decode cX10_areSo 59 = .ok (.iload_n 1, 1) := by decide +kernel
theorem dX10_areSo_60 : decode cX10_areSo 60 = .ok (.ireturn, 1) := by decide +kernel
theorem dX10_said_0 : decode cX10_said 0 = .ok (.aload_n 0, 1) := by decide +kernel
theorem dX10_said_1 : decode cX10_said 1 = .ok (.iload_n 1, 1) := by decide +kernel
theorem dX10_said_2 : decode cX10_said 2 = .ok (.invokevirtual 130, 3) := by decide +kernel
theorem dX10_said_5 : decode cX10_said 5 = .ok (.ifCond .eq 5, 3) := by decide +kernel
theorem dX10_said_8 : decode cX10_said 8 = .ok (.iconst (-1), 1) := by decide +kernel
theorem dX10_said_9 : decode cX10_said 9 = .ok (.ireturn, 1) := by decide +kernel
theorem dX10_said_10 : decode cX10_said 10 = .ok (.iload_n 2, 1) := by decide +kernel
theorem dX10_said_11 : decode cX10_said 11 = .ok (.invokestatic 136, 3) := by decide +kernel
theorem dX10_said_14 : decode cX10_said 14 = .ok (.ifCond .eq 10, 3) := by decide +kernel
theorem dX10_said_17 : decode cX10_said 17 = .ok (.iload_n 3, 1) := by decide +kernel
theorem dX10_said_18 : decode cX10_said 18 = .ok (.invokestatic 139, 3) := by decide +kernel
theorem dX10_said_21 : decode cX10_said 21 = .ok (.ifCond .ne 6, 3) := by decide +kernel
theorem dX10_said_24 : decode cX10_said 24 = .ok (.bipush (-2), 2) := by decide +kernel
theorem dX10_said_26 : decode cX10_said 26 = .ok (.ireturn, 1) := by decide +kernel
theorem dX10_said_27 : decode cX10_said 27 = .ok (.aload_n 0, 1) := by decide +kernel
theorem dX10_said_28 : decode cX10_said 28 = .ok (.iload_n 1, 1) := by decide +kernel
theorem dX10_said_29 : decode cX10_said 29 = .ok (.iload_n 2, 1) := by decide +kernel
theorem dX10_said_30 : decode cX10_said 30 = .ok (.invokestatic 146, 3) := by decide +kernel
theorem dX10_said_33 : decode cX10_said 33 = .ok (.invokevirtual 133, 3) := by decide +kernel
theorem dX10_said_36 : decode cX10_said 36 = .ok (.ifCond .eq 5, 3) := by decide +kernel
theorem dX10_said_39 : decode cX10_said 39 = .ok (.iconst (-1), 1) := by decide +kernel
theorem dX10_said_40 : decode cX10_said 40 = .ok (.ireturn, 1) := by decide +kernel
theorem dX10_said_41 : decode cX10_said 41 = .ok (.iload_n 1, 1) := by decide +kernel
theorem dX10_said_42 : decode cX10_said 42 = .ok (.iload_n 2, 1) := by decide +kernel
theorem dX10_said_43 : decode cX10_said 43 = .ok (.iload_n 3, 1) := by decide +kernel
theorem dX10_said_44 : decode cX10_said 44 = .ok (.invokestatic 149, 3) := by decide +kernel
theorem dX10_said_47 : decode cX10_said 47 = .ok (.istore 4, 2) := by decide +kernel
theorem dX10_said_49 : decode cX10_said 49 = .ok (.aload_n 0, 1) := by decide +kernel
theorem dX10_said_50 : decode cX10_said 50 = .ok (.getfield 19, 3) := by decide +kernel
theorem dX10_said_53 : decode cX10_said 53 = .ok (.iload 4, 2) := by decide +kernel
theorem dX10_said_55 : decode cX10_said 55 = .ok (.iaload, 1) := by decide +kernel
theorem dX10_said_56 : decode cX10_said 56 = .ok (.istore 5, 2) := by decide +kernel
theorem dX10_said_58 : decode cX10_said 58 = .ok (.iconst 0, 1) := by decide +kernel
theorem dX10_said_59 : decode cX10_said 59 = .ok (.istore 6, 2) := by decide +kernel
theorem dX10_said_61 : decode cX10_said 61 = .ok (.bipush (-3), 2) := by decide +kernel
theorem dX10_said_63 : decode cX10_said 63 = .ok (.istore 7, 2) := by decide +kernel
theorem dX10_said_65 : decode cX10_said 65 = .ok (.iload 7, 2) := by decide +kernel
theorem dX10_said_67 : decode cX10_said 67 = .ok (.iconst 4, 1) := by decide +kernel
theorem dX10_said_68 : decode cX10_said 68 = .ok (.if_icmp .ge 40, 3) := by decide +kernel
theorem dX10_said_71 : decode cX10_said 71 = .ok (.aload_n 0, 1) := by decide +kernel
theorem dX10_said_72 : decode cX10_said 72 = .ok (.getfield 19, 3) := by decide +kernel
theorem dX10_said_75 : decode cX10_said 75 = .ok (.iload 4, 2) := by decide +kernel
theorem dX10_said_77 : decode cX10_said 77 = .ok (.iload 7, 2) := by decide +kernel
theorem dX10_said_79 : decode cX10_said 79 = .ok (.iastore, 1) := by decide +kernel
theorem dX10_said_80 : decode cX10_said 80 = .ok (.iload 6, 2) := by decide +kernel
theorem dX10_said_82 : decode cX10_said 82 = .ok (.aload_n 0, 1) := by decide +kernel
theorem dX10_said_83 : decode cX10_said 83 = .ok (.invokevirtual 192, 3) := by decide +kernel
theorem dX10_said_86 : decode cX10_said 86 = .ok (.ifCond .eq 12, 3) := by decide +kernel
theorem dX10_said_89 : decode cX10_said 89 = .ok (.iconst 1, 1) := by decide +kernel
theorem dX10_said_90 : decode cX10_said 90 = .ok (.iconst 3, 1) := by decide +kernel
theorem dX10_said_91 : decode cX10_said 91 = .ok (.iload 7, 2) := by decide +kernel
theorem dX10_said_93 : decode cX10_said 93 = .ok (.iadd, 1) := by decide +kernel
theorem dX10_said_94 : decode cX10_said 94 = .ok (.ishl, 1) := by decide +kernel
theorem dX10_said_95 : decode cX10_said 95 = .ok (.goto 4, 3) := by decide +kernel
theorem dX10_said_98 : decode cX10_said 98 = .ok (.iconst 0, 1) := by decide +kernel
theorem dX10_said_99 : decode cX10_said 99 = .ok (.ior, 1) := by decide +kernel
theorem dX10_said_100 : decode cX10_said 100 = .ok (.istore 6, 2) := by decide +kernel
theorem dX10_said_102 : decode cX10_said 102 = .ok (.iinc 7 1, 3) := by decide +kernel
theorem dX10_said_105 : decode cX10_said 105 = .ok (.goto (-40), 3) := by decide +kernel
theorem dX10_said_108 : decode cX10_said 108 = .ok (.aload_n 0, 1) := by decide +kernel
theorem dX10_said_109 : decode cX10_said 109 = .ok (.getfield 19, 3) := by decide +kernel
theorem dX10_said_112 : decode cX10_said 112 = .ok (.iload 4, 2) := by decide +kernel
theorem dX10_said_114 : decode cX10_said 114 = .ok (.iload 5, 2) := by decide +kernel
theorem dX10_said_116 : decode cX10_said 116 = .ok (.iastore, 1) := by decide +kernel
theorem dX10_said_117 : decode cX10_said 117 = .ok (.iload 6, 2) := by decide +kernel
theorem dX10_said_119 : decode cX10_said 119 = .ok (.ireturn, 1) := by decide +kernel
theorem dX10_chosenFor_0 : decode cX10_chosenFor 0 = .ok (.aload_n 0, 1) := by decide +kernel
theorem dX10_chosenFor_1 : decode cX10_chosenFor 1 = .ok (.getfield 19, 3) := by decide +kernel
theorem dX10_chosenFor_4 : decode cX10_chosenFor 4 = .ok (.iload_n 2, 1) := by decide +kernel
theorem dX10_chosenFor_5 : decode cX10_chosenFor 5 = .ok (.iaload, 1) := by decide +kernel
theorem dX10_chosenFor_6 : decode cX10_chosenFor 6 = .ok (.istore 4, 2) := by decide +kernel
theorem dX10_chosenFor_8 : decode cX10_chosenFor 8 = .ok (.iconst 0, 1) := by decide +kernel
theorem dX10_chosenFor_9 : decode cX10_chosenFor 9 = .ok (.istore 5, 2) := by decide +kernel
theorem dX10_chosenFor_11 : decode cX10_chosenFor 11 = .ok (.aload_n 0, 1) := by decide +kernel
theorem dX10_chosenFor_12 : decode cX10_chosenFor 12 = .ok (.getfield 19, 3) := by decide +kernel
theorem dX10_chosenFor_15 : decode cX10_chosenFor 15 = .ok (.iload_n 2, 1) := by decide +kernel
theorem dX10_chosenFor_16 : decode cX10_chosenFor 16 = .ok (.iconst 0, 1) := by decide +kernel
theorem dX10_chosenFor_17 : decode cX10_chosenFor 17 = .ok (.iastore, 1) := by decide +kernel
theorem dX10_chosenFor_18 : decode cX10_chosenFor 18 = .ok (.aload_n 0, 1) := by decide +kernel
theorem dX10_chosenFor_19 : decode cX10_chosenFor 19 = .ok (.iload_n 1, 1) := by decide +kernel
theorem dX10_chosenFor_20 : decode cX10_chosenFor 20 = .ok (.iload_n 3, 1) := by decide +kernel
theorem dX10_chosenFor_21 : decode cX10_chosenFor 21 = .ok (.invokevirtual 183, 3) := by decide +kernel
theorem dX10_chosenFor_24 : decode cX10_chosenFor 24 = .ok (.istore 6, 2) := by decide +kernel
theorem dX10_chosenFor_26 : decode cX10_chosenFor 26 = .ok (.iconst (-1), 1) := by decide +kernel
theorem dX10_chosenFor_27 : decode cX10_chosenFor 27 = .ok (.istore 7, 2) := by decide +kernel
theorem dX10_chosenFor_29 : decode cX10_chosenFor 29 = .ok (.iload 7, 2) := by decide +kernel
theorem dX10_chosenFor_31 : decode cX10_chosenFor 31 = .ok (.iconst 2, 1) := by decide +kernel
theorem dX10_chosenFor_32 : decode cX10_chosenFor 32 = .ok (.if_icmp .ge 40, 3) := by decide +kernel
theorem dX10_chosenFor_35 : decode cX10_chosenFor 35 = .ok (.aload_n 0, 1) := by decide +kernel
theorem dX10_chosenFor_36 : decode cX10_chosenFor 36 = .ok (.getfield 19, 3) := by decide +kernel
theorem dX10_chosenFor_39 : decode cX10_chosenFor 39 = .ok (.iload_n 2, 1) := by decide +kernel
theorem dX10_chosenFor_40 : decode cX10_chosenFor 40 = .ok (.iload 7, 2) := by decide +kernel
theorem dX10_chosenFor_42 : decode cX10_chosenFor 42 = .ok (.iastore, 1) := by decide +kernel
theorem dX10_chosenFor_43 : decode cX10_chosenFor 43 = .ok (.aload_n 0, 1) := by decide +kernel
theorem dX10_chosenFor_44 : decode cX10_chosenFor 44 = .ok (.iload_n 1, 1) := by decide +kernel
theorem dX10_chosenFor_45 : decode cX10_chosenFor 45 = .ok (.iload_n 3, 1) := by decide +kernel
theorem dX10_chosenFor_46 : decode cX10_chosenFor 46 = .ok (.invokevirtual 183, 3) := by decide +kernel
theorem dX10_chosenFor_49 : decode cX10_chosenFor 49 = .ok (.istore 8, 2) := by decide +kernel
theorem dX10_chosenFor_51 : decode cX10_chosenFor 51 = .ok (.iload 8, 2) := by decide +kernel
theorem dX10_chosenFor_53 : decode cX10_chosenFor 53 = .ok (.iload 6, 2) := by decide +kernel
theorem dX10_chosenFor_55 : decode cX10_chosenFor 55 = .ok (.if_icmp .le 11, 3) := by decide +kernel
theorem dX10_chosenFor_58 : decode cX10_chosenFor 58 = .ok (.iload 7, 2) := by decide +kernel
theorem dX10_chosenFor_60 : decode cX10_chosenFor 60 = .ok (.istore 5, 2) := by decide +kernel
theorem dX10_chosenFor_62 : decode cX10_chosenFor 62 = .ok (.iload 8, 2) := by decide +kernel
theorem dX10_chosenFor_64 : decode cX10_chosenFor 64 = .ok (.istore 6, 2) := by decide +kernel
theorem dX10_chosenFor_66 : decode cX10_chosenFor 66 = .ok (.iinc 7 2, 3) := by decide +kernel
theorem dX10_chosenFor_69 : decode cX10_chosenFor 69 = .ok (.goto (-40), 3) := by decide +kernel
theorem dX10_chosenFor_72 : decode cX10_chosenFor 72 = .ok (.aload_n 0, 1) := by decide +kernel
theorem dX10_chosenFor_73 : decode cX10_chosenFor 73 = .ok (.getfield 19, 3) := by decide +kernel
theorem dX10_chosenFor_76 : decode cX10_chosenFor 76 = .ok (.iload_n 2, 1) := by decide +kernel
theorem dX10_chosenFor_77 : decode cX10_chosenFor 77 = .ok (.iload 4, 2) := by decide +kernel
theorem dX10_chosenFor_79 : decode cX10_chosenFor 79 = .ok (.iastore, 1) := by decide +kernel
theorem dX10_chosenFor_80 : decode cX10_chosenFor 80 = .ok (.iload 5, 2) := by decide +kernel
theorem dX10_chosenFor_82 : decode cX10_chosenFor 82 = .ok (.ireturn, 1) := by decide +kernel
theorem dX10_quarrel_0 : decode cX10_quarrel 0 = .ok (.aload_n 0, 1) := by decide +kernel
theorem dX10_quarrel_1 : decode cX10_quarrel 1 = .ok (.iload_n 1, 1) := by decide +kernel
theorem dX10_quarrel_2 : decode cX10_quarrel 2 = .ok (.invokevirtual 133, 3) := by decide +kernel
theorem dX10_quarrel_5 : decode cX10_quarrel 5 = .ok (.ifCond .eq 5, 3) := by decide +kernel
theorem dX10_quarrel_8 : decode cX10_quarrel 8 = .ok (.iconst (-1), 1) := by decide +kernel
theorem dX10_quarrel_9 : decode cX10_quarrel 9 = .ok (.ireturn, 1) := by decide +kernel
theorem dX10_quarrel_10 : decode cX10_quarrel 10 = .ok (.iload_n 2, 1) := by decide +kernel
theorem dX10_quarrel_11 : decode cX10_quarrel 11 = .ok (.invokestatic 139, 3) := by decide +kernel
theorem dX10_quarrel_14 : decode cX10_quarrel 14 = .ok (.ifCond .eq 23, 3) := by decide +kernel
theorem dX10_quarrel_17 : decode cX10_quarrel 17 = .ok (.iload_n 3, 1) := by decide +kernel
theorem dX10_quarrel_18 : decode cX10_quarrel 18 = .ok (.invokestatic 139, 3) := by decide +kernel
theorem dX10_quarrel_21 : decode cX10_quarrel 21 = .ok (.ifCond .eq 16, 3) := by decide +kernel
theorem dX10_quarrel_24 : decode cX10_quarrel 24 = .ok (.iload_n 3, 1) := by decide +kernel
theorem dX10_quarrel_25 : decode cX10_quarrel 25 = .ok (.iload_n 2, 1) := by decide +kernel
theorem dX10_quarrel_26 : decode cX10_quarrel 26 = .ok (.if_icmp .lt 11, 3) := by decide +kernel
theorem dX10_quarrel_29 : decode cX10_quarrel 29 = .ok (.iload 4, 2) := by decide +kernel
theorem dX10_quarrel_31 : decode cX10_quarrel 31 = .ok (.invokestatic 136, 3) := by decide +kernel
theorem dX10_quarrel_34 : decode cX10_quarrel 34 = .ok (.ifCond .ne 6, 3) := by decide +kernel
theorem dX10_quarrel_37 : decode cX10_quarrel 37 = .ok (.bipush (-2), 2) := by decide +kernel
theorem dX10_quarrel_39 : decode cX10_quarrel 39 = .ok (.ireturn, 1) := by decide +kernel
theorem dX10_quarrel_40 : decode cX10_quarrel 40 = .ok (.iconst 0, 1) := by decide +kernel
theorem dX10_quarrel_41 : decode cX10_quarrel 41 = .ok (.istore 5, 2) := by decide +kernel
theorem dX10_quarrel_43 : decode cX10_quarrel 43 = .ok (.iload 5, 2) := by decide +kernel
theorem dX10_quarrel_45 : decode cX10_quarrel 45 = .ok (.bipush 30, 2) := by decide +kernel
theorem dX10_quarrel_47 : decode cX10_quarrel 47 = .ok (.if_icmp .ge 50, 3) := by decide +kernel
theorem dX10_quarrel_50 : decode cX10_quarrel 50 = .ok (.aload_n 0, 1) := by decide +kernel
theorem dX10_quarrel_51 : decode cX10_quarrel 51 = .ok (.getfield 46, 3) := by decide +kernel
theorem dX10_quarrel_54 : decode cX10_quarrel 54 = .ok (.iload 5, 2) := by decide +kernel
theorem dX10_quarrel_56 : decode cX10_quarrel 56 = .ok (.aload_n 0, 1) := by decide +kernel
theorem dX10_quarrel_57 : decode cX10_quarrel 57 = .ok (.getfield 19, 3) := by decide +kernel
theorem dX10_quarrel_60 : decode cX10_quarrel 60 = .ok (.iload_n 1, 1) := by decide +kernel
theorem dX10_quarrel_61 : decode cX10_quarrel 61 = .ok (.iconst 0, 1) := by decide +kernel
theorem dX10_quarrel_62 : decode cX10_quarrel 62 = .ok (.iload 5, 2) := by decide +kernel
theorem dX10_quarrel_64 : decode cX10_quarrel 64 = .ok (.invokestatic 156, 3) := by decide +kernel
theorem dX10_quarrel_67 : decode cX10_quarrel 67 = .ok (.iaload, 1) := by decide +kernel
theorem dX10_quarrel_68 : decode cX10_quarrel 68 = .ok (.iastore, 1) := by decide +kernel
theorem dX10_quarrel_69 : decode cX10_quarrel 69 = .ok (.aload_n 0, 1) := by decide +kernel
theorem dX10_quarrel_70 : decode cX10_quarrel 70 = .ok (.getfield 46, 3) := by decide +kernel
theorem dX10_quarrel_73 : decode cX10_quarrel 73 = .ok (.bipush 30, 2) := by decide +kernel
theorem dX10_quarrel_75 : decode cX10_quarrel 75 = .ok (.iload 5, 2) := by decide +kernel
theorem dX10_quarrel_77 : decode cX10_quarrel 77 = .ok (.iadd, 1) := by decide +kernel
theorem dX10_quarrel_78 : decode cX10_quarrel 78 = .ok (.aload_n 0, 1) := by decide +kernel
theorem dX10_quarrel_79 : decode cX10_quarrel 79 = .ok (.getfield 19, 3) := by decide +kernel
theorem dX10_quarrel_82 : decode cX10_quarrel 82 = .ok (.iload_n 1, 1) := by decide +kernel
theorem dX10_quarrel_83 : decode cX10_quarrel 83 = .ok (.iconst 1, 1) := by decide +kernel
theorem dX10_quarrel_84 : decode cX10_quarrel 84 = .ok (.iload 5, 2) := by decide +kernel
theorem dX10_quarrel_86 : decode cX10_quarrel 86 = .ok (.invokestatic 156, 3) := by decide +kernel
theorem dX10_quarrel_89 : decode cX10_quarrel 89 = .ok (.iaload, 1) := by decide +kernel
theorem dX10_quarrel_90 : decode cX10_quarrel 90 = .ok (.iastore, 1) := by decide +kernel
theorem dX10_quarrel_91 : decode cX10_quarrel 91 = .ok (.iinc 5 1, 3) := by decide +kernel
theorem dX10_quarrel_94 : decode cX10_quarrel 94 = .ok (.goto (-51), 3) := by decide +kernel
theorem dX10_quarrel_97 : decode cX10_quarrel 97 = .ok (.iconst 0, 1) := by decide +kernel
theorem dX10_quarrel_98 : decode cX10_quarrel 98 = .ok (.istore 5, 2) := by decide +kernel
theorem dX10_quarrel_100 : decode cX10_quarrel 100 = .ok (.iload_n 2, 1) := by decide +kernel
theorem dX10_quarrel_101 : decode cX10_quarrel 101 = .ok (.istore 6, 2) := by decide +kernel
theorem dX10_quarrel_103 : decode cX10_quarrel 103 = .ok (.iload 6, 2) := by decide +kernel
theorem dX10_quarrel_105 : decode cX10_quarrel 105 = .ok (.iload_n 3, 1) := by decide +kernel
theorem dX10_quarrel_106 : decode cX10_quarrel 106 = .ok (.if_icmp .gt 103, 3) := by decide +kernel
theorem dX10_quarrel_109 : decode cX10_quarrel 109 = .ok (.iload_n 1, 1) := by decide +kernel
theorem dX10_quarrel_110 : decode cX10_quarrel 110 = .ok (.iconst 0, 1) := by decide +kernel
theorem dX10_quarrel_111 : decode cX10_quarrel 111 = .ok (.iload 6, 2) := by decide +kernel
theorem dX10_quarrel_113 : decode cX10_quarrel 113 = .ok (.invokestatic 156, 3) := by decide +kernel
theorem dX10_quarrel_116 : decode cX10_quarrel 116 = .ok (.istore 7, 2) := by decide +kernel
theorem dX10_quarrel_118 : decode cX10_quarrel 118 = .ok (.iload_n 1, 1) := by decide +kernel
theorem dX10_quarrel_119 : decode cX10_quarrel 119 = .ok (.iconst 1, 1) := by decide +kernel
theorem dX10_quarrel_120 : decode cX10_quarrel 120 = .ok (.iload 6, 2) := by decide +kernel
theorem dX10_quarrel_122 : decode cX10_quarrel 122 = .ok (.invokestatic 156, 3) := by decide +kernel
theorem dX10_quarrel_125 : decode cX10_quarrel 125 = .ok (.istore 8, 2) := by decide +kernel
theorem dX10_quarrel_127 : decode cX10_quarrel 127 = .ok (.aload_n 0, 1) := by decide +kernel
theorem dX10_quarrel_128 : decode cX10_quarrel 128 = .ok (.getfield 19, 3) := by decide +kernel
theorem dX10_quarrel_131 : decode cX10_quarrel 131 = .ok (.iload 7, 2) := by decide +kernel
theorem dX10_quarrel_133 : decode cX10_quarrel 133 = .ok (.iconst 0, 1) := by decide +kernel
theorem dX10_quarrel_134 : decode cX10_quarrel 134 = .ok (.iastore, 1) := by decide +kernel
theorem dX10_quarrel_135 : decode cX10_quarrel 135 = .ok (.aload_n 0, 1) := by decide +kernel
theorem dX10_quarrel_136 : decode cX10_quarrel 136 = .ok (.getfield 19, 3) := by decide +kernel
theorem dX10_quarrel_139 : decode cX10_quarrel 139 = .ok (.iload 8, 2) := by decide +kernel
theorem dX10_quarrel_141 : decode cX10_quarrel 141 = .ok (.iconst 0, 1) := by decide +kernel
theorem dX10_quarrel_142 : decode cX10_quarrel 142 = .ok (.iastore, 1) := by decide +kernel
theorem dX10_quarrel_143 : decode cX10_quarrel 143 = .ok (.aload_n 0, 1) := by decide +kernel
theorem dX10_quarrel_144 : decode cX10_quarrel 144 = .ok (.iload_n 1, 1) := by decide +kernel
theorem dX10_quarrel_145 : decode cX10_quarrel 145 = .ok (.iload 7, 2) := by decide +kernel
theorem dX10_quarrel_147 : decode cX10_quarrel 147 = .ok (.iload 6, 2) := by decide +kernel
theorem dX10_quarrel_149 : decode cX10_quarrel 149 = .ok (.iconst 1, 1) := by decide +kernel
theorem dX10_quarrel_150 : decode cX10_quarrel 150 = .ok (.iadd, 1) := by decide +kernel
theorem dX10_quarrel_151 : decode cX10_quarrel 151 = .ok (.invokevirtual 196, 3) := by decide +kernel
theorem dX10_quarrel_154 : decode cX10_quarrel 154 = .ok (.istore 9, 2) := by decide +kernel
theorem dX10_quarrel_156 : decode cX10_quarrel 156 = .ok (.aload_n 0, 1) := by decide +kernel
theorem dX10_quarrel_157 : decode cX10_quarrel 157 = .ok (.iload_n 1, 1) := by decide +kernel
theorem dX10_quarrel_158 : decode cX10_quarrel 158 = .ok (.iconst 1, 1) := by decide +kernel
theorem dX10_quarrel_159 : decode cX10_quarrel 159 = .ok (.iadd, 1) := by decide +kernel
theorem dX10_quarrel_160 : decode cX10_quarrel 160 = .ok (.iload 8, 2) := by decide +kernel
theorem dX10_quarrel_162 : decode cX10_quarrel 162 = .ok (.iload 6, 2) := by decide +kernel
theorem dX10_quarrel_164 : decode cX10_quarrel 164 = .ok (.iconst 1, 1) := by decide +kernel
theorem dX10_quarrel_165 : decode cX10_quarrel 165 = .ok (.iadd, 1) := by decide +kernel
theorem dX10_quarrel_166 : decode cX10_quarrel 166 = .ok (.invokevirtual 196, 3) := by decide +kernel
theorem dX10_quarrel_169 : decode cX10_quarrel 169 = .ok (.istore 10, 2) := by decide +kernel
theorem dX10_quarrel_171 : decode cX10_quarrel 171 = .ok (.aload_n 0, 1) := by decide +kernel
theorem dX10_quarrel_172 : decode cX10_quarrel 172 = .ok (.getfield 19, 3) := by decide +kernel
theorem dX10_quarrel_175 : decode cX10_quarrel 175 = .ok (.iload 7, 2) := by decide +kernel
theorem dX10_quarrel_177 : decode cX10_quarrel 177 = .ok (.iload 9, 2) := by decide +kernel
theorem dX10_quarrel_179 : decode cX10_quarrel 179 = .ok (.iastore, 1) := by decide +kernel
theorem dX10_quarrel_180 : decode cX10_quarrel 180 = .ok (.aload_n 0, 1) := by decide +kernel
theorem dX10_quarrel_181 : decode cX10_quarrel 181 = .ok (.getfield 19, 3) := by decide +kernel
theorem dX10_quarrel_184 : decode cX10_quarrel 184 = .ok (.iload 8, 2) := by decide +kernel
theorem dX10_quarrel_186 : decode cX10_quarrel 186 = .ok (.iload 10, 2) := by decide +kernel
theorem dX10_quarrel_188 : decode cX10_quarrel 188 = .ok (.iastore, 1) := by decide +kernel
theorem dX10_quarrel_189 : decode cX10_quarrel 189 = .ok (.iload 4, 2) := by decide +kernel
theorem dX10_quarrel_191 : decode cX10_quarrel 191 = .ok (.ifCond .ne 8, 3) := by decide +kernel
theorem dX10_quarrel_194 : decode cX10_quarrel 194 = .ok (.iload 9, 2) := by decide +kernel
theorem dX10_quarrel_196 : decode cX10_quarrel 196 = .ok (.goto 5, 3) := by decide +kernel
theorem dX10_quarrel_199 : decode cX10_quarrel 199 = .ok (.iload 10, 2) := by decide +kernel
theorem dX10_quarrel_201 : decode cX10_quarrel 201 = .ok (.istore 5, 2) := by decide +kernel
theorem dX10_quarrel_203 : decode cX10_quarrel 203 = .ok (.iinc 6 1, 3) := by decide +kernel
theorem dX10_quarrel_206 : decode cX10_quarrel 206 = .ok (.goto (-103), 3) := by decide +kernel
theorem dX10_quarrel_209 : decode cX10_quarrel 209 = .ok (.iconst 0, 1) := by decide +kernel
theorem dX10_quarrel_210 : decode cX10_quarrel 210 = .ok (.istore 6, 2) := by decide +kernel
theorem dX10_quarrel_212 : decode cX10_quarrel 212 = .ok (.iload 6, 2) := by decide +kernel
theorem dX10_quarrel_214 : decode cX10_quarrel 214 = .ok (.bipush 30, 2) := by decide +kernel
theorem dX10_quarrel_216 : decode cX10_quarrel 216 = .ok (.if_icmp .ge 50, 3) := by decide +kernel
theorem dX10_quarrel_219 : decode cX10_quarrel 219 = .ok (.aload_n 0, 1) := by decide +kernel
theorem dX10_quarrel_220 : decode cX10_quarrel 220 = .ok (.getfield 19, 3) := by decide +kernel
theorem dX10_quarrel_223 : decode cX10_quarrel 223 = .ok (.iload_n 1, 1) := by decide +kernel
theorem dX10_quarrel_224 : decode cX10_quarrel 224 = .ok (.iconst 0, 1) := by decide +kernel
theorem dX10_quarrel_225 : decode cX10_quarrel 225 = .ok (.iload 6, 2) := by decide +kernel
theorem dX10_quarrel_227 : decode cX10_quarrel 227 = .ok (.invokestatic 156, 3) := by decide +kernel
theorem dX10_quarrel_230 : decode cX10_quarrel 230 = .ok (.aload_n 0, 1) := by decide +kernel
theorem dX10_quarrel_231 : decode cX10_quarrel 231 = .ok (.getfield 46, 3) := by decide +kernel
theorem dX10_quarrel_234 : decode cX10_quarrel 234 = .ok (.iload 6, 2) := by decide +kernel
theorem dX10_quarrel_236 : decode cX10_quarrel 236 = .ok (.iaload, 1) := by decide +kernel
theorem dX10_quarrel_237 : decode cX10_quarrel 237 = .ok (.iastore, 1) := by decide +kernel
theorem dX10_quarrel_238 : decode cX10_quarrel 238 = .ok (.aload_n 0, 1) := by decide +kernel
theorem dX10_quarrel_239 : decode cX10_quarrel 239 = .ok (.getfield 19, 3) := by decide +kernel
theorem dX10_quarrel_242 : decode cX10_quarrel 242 = .ok (.iload_n 1, 1) := by decide +kernel
theorem dX10_quarrel_243 : decode cX10_quarrel 243 = .ok (.iconst 1, 1) := by decide +kernel
theorem dX10_quarrel_244 : decode cX10_quarrel 244 = .ok (.iload 6, 2) := by decide +kernel
theorem dX10_quarrel_246 : decode cX10_quarrel 246 = .ok (.invokestatic 156, 3) := by decide +kernel
theorem dX10_quarrel_249 : decode cX10_quarrel 249 = .ok (.aload_n 0, 1) := by decide +kernel
theorem dX10_quarrel_250 : decode cX10_quarrel 250 = .ok (.getfield 46, 3) := by decide +kernel
theorem dX10_quarrel_253 : decode cX10_quarrel 253 = .ok (.bipush 30, 2) := by decide +kernel
theorem dX10_quarrel_255 : decode cX10_quarrel 255 = .ok (.iload 6, 2) := by decide +kernel
theorem dX10_quarrel_257 : decode cX10_quarrel 257 = .ok (.iadd, 1) := by decide +kernel
theorem dX10_quarrel_258 : decode cX10_quarrel 258 = .ok (.iaload, 1) := by decide +kernel
theorem dX10_quarrel_259 : decode cX10_quarrel 259 = .ok (.iastore, 1) := by decide +kernel
theorem dX10_quarrel_260 : decode cX10_quarrel 260 = .ok (.iinc 6 1, 3) := by decide +kernel
theorem dX10_quarrel_263 : decode cX10_quarrel 263 = .ok (.goto (-51), 3) := by decide +kernel
theorem dX10_quarrel_266 : decode cX10_quarrel 266 = .ok (.iload 5, 2) := by decide +kernel
theorem dX10_quarrel_268 : decode cX10_quarrel 268 = .ok (.bipush 10, 2) := by decide +kernel
theorem dX10_quarrel_270 : decode cX10_quarrel 270 = .ok (.iadd, 1) := by decide +kernel
theorem dX10_quarrel_271 : decode cX10_quarrel 271 = .ok (.ireturn, 1) := by decide +kernel
theorem dX10_wouldChange_0 : decode cX10_wouldChange 0 = .ok (.aload_n 0, 1) := by decide +kernel
theorem dX10_wouldChange_1 : decode cX10_wouldChange 1 = .ok (.iload_n 1, 1) := by decide +kernel
theorem dX10_wouldChange_2 : decode cX10_wouldChange 2 = .ok (.iload_n 2, 1) := by decide +kernel
theorem dX10_wouldChange_3 : decode cX10_wouldChange 3 = .ok (.iconst 1, 1) := by decide +kernel
theorem dX10_wouldChange_4 : decode cX10_wouldChange 4 = .ok (.iadd, 1) := by decide +kernel
theorem dX10_wouldChange_5 : decode cX10_wouldChange 5 = .ok (.invokevirtual 183, 3) := by decide +kernel
theorem dX10_wouldChange_8 : decode cX10_wouldChange 8 = .ok (.istore_n 3, 1) := by decide +kernel
theorem dX10_wouldChange_9 : decode cX10_wouldChange 9 = .ok (.iconst 0, 1) := by decide +kernel
theorem dX10_wouldChange_10 : decode cX10_wouldChange 10 = .ok (.istore 4, 2) := by decide +kernel
theorem dX10_wouldChange_12 : decode cX10_wouldChange 12 = .ok (.iconst 0, 1) := by decide +kernel
theorem dX10_wouldChange_13 : decode cX10_wouldChange 13 = .ok (.istore 5, 2) := by decide +kernel
theorem dX10_wouldChange_15 : decode cX10_wouldChange 15 = .ok (.iload 5, 2) := by decide +kernel
theorem dX10_wouldChange_17 : decode cX10_wouldChange 17 = .ok (.iconst 2, 1) := by decide +kernel
theorem dX10_wouldChange_18 : decode cX10_wouldChange 18 = .ok (.if_icmp .ge 97, 3) := by decide +kernel
theorem dX10_wouldChange_21 : decode cX10_wouldChange 21 = .ok (.aload_n 0, 1) := by decide +kernel
theorem dX10_wouldChange_22 : decode cX10_wouldChange 22 = .ok (.iload_n 1, 1) := by decide +kernel
theorem dX10_wouldChange_23 : decode cX10_wouldChange 23 = .ok (.iload 5, 2) := by decide +kernel
theorem dX10_wouldChange_25 : decode cX10_wouldChange 25 = .ok (.invokestatic 146, 3) := by decide +kernel
theorem dX10_wouldChange_28 : decode cX10_wouldChange 28 = .ok (.invokevirtual 133, 3) := by decide +kernel
theorem dX10_wouldChange_31 : decode cX10_wouldChange 31 = .ok (.ifCond .ne 78, 3) := by decide +kernel
theorem dX10_wouldChange_34 : decode cX10_wouldChange 34 = .ok (.iload_n 1, 1) := by decide +kernel
theorem dX10_wouldChange_35 : decode cX10_wouldChange 35 = .ok (.iload 5, 2) := by decide +kernel
theorem dX10_wouldChange_37 : decode cX10_wouldChange 37 = .ok (.iload_n 2, 1) := by decide +kernel
theorem dX10_wouldChange_38 : decode cX10_wouldChange 38 = .ok (.invokestatic 149, 3) := by decide +kernel
theorem dX10_wouldChange_41 : decode cX10_wouldChange 41 = .ok (.istore 6, 2) := by decide +kernel
theorem dX10_wouldChange_43 : decode cX10_wouldChange 43 = .ok (.aload_n 0, 1) := by decide +kernel
theorem dX10_wouldChange_44 : decode cX10_wouldChange 44 = .ok (.getfield 19, 3) := by decide +kernel
theorem dX10_wouldChange_47 : decode cX10_wouldChange 47 = .ok (.iload 6, 2) := by decide +kernel
theorem dX10_wouldChange_49 : decode cX10_wouldChange 49 = .ok (.iaload, 1) := by decide +kernel
theorem dX10_wouldChange_50 : decode cX10_wouldChange 50 = .ok (.istore 7, 2) := by decide +kernel
theorem dX10_wouldChange_52 : decode cX10_wouldChange 52 = .ok (.iconst (-1), 1) := by decide +kernel
theorem dX10_wouldChange_53 : decode cX10_wouldChange 53 = .ok (.istore 8, 2) := by decide +kernel
theorem dX10_wouldChange_55 : decode cX10_wouldChange 55 = .ok (.iload 8, 2) := by decide +kernel
theorem dX10_wouldChange_57 : decode cX10_wouldChange 57 = .ok (.iconst 2, 1) := by decide +kernel
theorem dX10_wouldChange_58 : decode cX10_wouldChange 58 = .ok (.if_icmp .ge 42, 3) := by decide +kernel
theorem dX10_wouldChange_61 : decode cX10_wouldChange 61 = .ok (.aload_n 0, 1) := by decide +kernel
theorem dX10_wouldChange_62 : decode cX10_wouldChange 62 = .ok (.getfield 19, 3) := by decide +kernel
theorem dX10_wouldChange_65 : decode cX10_wouldChange 65 = .ok (.iload 6, 2) := by decide +kernel
theorem dX10_wouldChange_67 : decode cX10_wouldChange 67 = .ok (.iload 8, 2) := by decide +kernel
theorem dX10_wouldChange_69 : decode cX10_wouldChange 69 = .ok (.iastore, 1) := by decide +kernel
theorem dX10_wouldChange_70 : decode cX10_wouldChange 70 = .ok (.iload 4, 2) := by decide +kernel
theorem dX10_wouldChange_72 : decode cX10_wouldChange 72 = .ok (.ifCond .ne 15, 3) := by decide +kernel
theorem dX10_wouldChange_75 : decode cX10_wouldChange 75 = .ok (.aload_n 0, 1) := by decide +kernel
theorem dX10_wouldChange_76 : decode cX10_wouldChange 76 = .ok (.iload_n 1, 1) := by decide +kernel
theorem dX10_wouldChange_77 : decode cX10_wouldChange 77 = .ok (.iload_n 2, 1) := by decide +kernel
theorem dX10_wouldChange_78 : decode cX10_wouldChange 78 = .ok (.iconst 1, 1) := by decide +kernel
theorem dX10_wouldChange_79 : decode cX10_wouldChange 79 = .ok (.iadd, 1) := by decide +kernel
theorem dX10_wouldChange_80 : decode cX10_wouldChange 80 = .ok (.invokevirtual 183, 3) := by decide +kernel
theorem dX10_wouldChange_83 : decode cX10_wouldChange 83 = .ok (.iload_n 3, 1) := by decide +kernel
theorem dX10_wouldChange_84 : decode cX10_wouldChange 84 = .ok (.if_icmp .le 7, 3) := by decide +kernel
theorem dX10_wouldChange_87 : decode cX10_wouldChange 87 = .ok (.iconst 1, 1) := by decide +kernel
theorem dX10_wouldChange_88 : decode cX10_wouldChange 88 = .ok (.goto 4, 3) := by decide +kernel
theorem dX10_wouldChange_91 : decode cX10_wouldChange 91 = .ok (.iconst 0, 1) := by decide +kernel
theorem dX10_wouldChange_92 : decode cX10_wouldChange 92 = .ok (.istore 4, 2) := by decide +kernel
theorem dX10_wouldChange_94 : decode cX10_wouldChange 94 = .ok (.iinc 8 1, 3) := by decide +kernel
theorem dX10_wouldChange_97 : decode cX10_wouldChange 97 = .ok (.goto (-42), 3) := by decide +kernel
theorem dX10_wouldChange_100 : decode cX10_wouldChange 100 = .ok (.aload_n 0, 1) := by decide +kernel
theorem dX10_wouldChange_101 : decode cX10_wouldChange 101 = .ok (.getfield 19, 3) := by decide +kernel
theorem dX10_wouldChange_104 : decode cX10_wouldChange 104 = .ok (.iload 6, 2) := by decide +kernel
theorem dX10_wouldChange_106 : decode cX10_wouldChange 106 = .ok (.iload 7, 2) := by decide +kernel
theorem dX10_wouldChange_108 : decode cX10_wouldChange 108 = .ok (.iastore, 1) := by decide +kernel
theorem dX10_wouldChange_109 : decode cX10_wouldChange 109 = .ok (.iinc 5 1, 3) := by decide +kernel
theorem dX10_wouldChange_112 : decode cX10_wouldChange 112 = .ok (.goto (-97), 3) := by decide +kernel
theorem dX10_wouldChange_115 : decode cX10_wouldChange 115 = .ok (.iload 4, 2) := by decide +kernel
theorem dX10_wouldChange_117 : decode cX10_wouldChange 117 = .ok (.ireturn, 1) := by decide +kernel
theorem dX10_peace_0 : decode cX10_peace 0 = .ok (.iload_n 1, 1) := by decide +kernel
theorem dX10_peace_1 : decode cX10_peace 1 = .ok (.invokestatic 139, 3) := by decide +kernel
theorem dX10_peace_4 : decode cX10_peace 4 = .ok (.ifCond .ne 6, 3) := by decide +kernel
theorem dX10_peace_7 : decode cX10_peace 7 = .ok (.bipush (-2), 2) := by decide +kernel
theorem dX10_peace_9 : decode cX10_peace 9 = .ok (.ireturn, 1) := by decide +kernel
theorem dX10_peace_10 : decode cX10_peace 10 = .ok (.aload_n 0, 1) := by decide +kernel
theorem dX10_peace_11 : decode cX10_peace 11 = .ok (.getfield 71, 3) := by decide +kernel
theorem dX10_peace_14 : decode cX10_peace 14 = .ok (.ifCond .ne 6, 3) := by decide +kernel
theorem dX10_peace_17 : decode cX10_peace 17 = .ok (.bipush (-3), 2) := by decide +kernel
theorem dX10_peace_19 : decode cX10_peace 19 = .ok (.ireturn, 1) := by decide +kernel
theorem dX10_peace_20 : decode cX10_peace 20 = .ok (.iconst 0, 1) := by decide +kernel
theorem dX10_peace_21 : decode cX10_peace 21 = .ok (.istore_n 2, 1) := by decide +kernel
theorem dX10_peace_22 : decode cX10_peace 22 = .ok (.iconst 0, 1) := by decide +kernel
theorem dX10_peace_23 : decode cX10_peace 23 = .ok (.istore_n 3, 1) := by decide +kernel
theorem dX10_peace_24 : decode cX10_peace 24 = .ok (.iload_n 3, 1) := by decide +kernel
theorem dX10_peace_25 : decode cX10_peace 25 = .ok (.aload_n 0, 1) := by decide +kernel
theorem dX10_peace_26 : decode cX10_peace 26 = .ok (.getfield 71, 3) := by decide +kernel
theorem dX10_peace_29 : decode cX10_peace 29 = .ok (.if_icmp .ge 28, 3) := by decide +kernel
theorem dX10_peace_32 : decode cX10_peace 32 = .ok (.iload_n 2, 1) := by decide +kernel
theorem dX10_peace_33 : decode cX10_peace 33 = .ok (.aload_n 0, 1) := by decide +kernel
theorem dX10_peace_34 : decode cX10_peace 34 = .ok (.iload_n 3, 1) := by decide +kernel
theorem dX10_peace_35 : decode cX10_peace 35 = .ok (.iload_n 1, 1) := by decide +kernel
theorem dX10_peace_36 : decode cX10_peace 36 = .ok (.invokevirtual 199, 3) := by decide +kernel
theorem dX10_peace_39 : decode cX10_peace 39 = .ok (.ifCond .eq 9, 3) := by decide +kernel
theorem dX10_peace_42 : decode cX10_peace 42 = .ok (.iconst 1, 1) := by decide +kernel
theorem dX10_peace_43 : decode cX10_peace 43 = .ok (.iload_n 3, 1) := by decide +kernel
theorem dX10_peace_44 : decode cX10_peace 44 = .ok (.ishl, 1) := by decide +kernel
theorem dX10_peace_45 : decode cX10_peace 45 = .ok (.goto 4, 3) := by decide +kernel
theorem dX10_peace_48 : decode cX10_peace 48 = .ok (.iconst 0, 1) := by decide +kernel
theorem dX10_peace_49 : decode cX10_peace 49 = .ok (.ior, 1) := by decide +kernel
theorem dX10_peace_50 : decode cX10_peace 50 = .ok (.istore_n 2, 1) := by decide +kernel
theorem dX10_peace_51 : decode cX10_peace 51 = .ok (.iinc 3 1, 3) := by decide +kernel
theorem dX10_peace_54 : decode cX10_peace 54 = .ok (.goto (-30), 3) := by decide +kernel
theorem dX10_peace_57 : decode cX10_peace 57 = .ok (.iload_n 2, 1) := by decide +kernel
theorem dX10_peace_58 : decode cX10_peace 58 = .ok (.ireturn, 1) := by decide +kernel
theorem dX10_above_0 : decode cX10_above 0 = .ok (.iload_n 0, 1) := by decide +kernel
theorem dX10_above_1 : decode cX10_above 1 = .ok (.iload_n 1, 1) := by decide +kernel
theorem dX10_above_2 : decode cX10_above 2 = .ok (.if_icmp .le 9, 3) := by decide +kernel
theorem dX10_above_5 : decode cX10_above 5 = .ok (.iload_n 0, 1) := by decide +kernel
theorem dX10_above_6 : decode cX10_above 6 = .ok (.iload_n 1, 1) := by decide +kernel
theorem dX10_above_7 : decode cX10_above 7 = .ok (.isub, 1) := by decide +kernel
theorem dX10_above_8 : decode cX10_above 8 = .ok (.goto 4, 3) := by decide +kernel
theorem dX10_above_11 : decode cX10_above 11 = .ok (.iconst 0, 1) := by decide +kernel
theorem dX10_above_12 : decode cX10_above 12 = .ok (.ireturn, 1) := by decide +kernel
theorem dX10_round_0 : decode cX10_round 0 = .ok (.iload_n 1, 1) := by decide +kernel
theorem dX10_round_1 : decode cX10_round 1 = .ok (.invokestatic 168, 3) := by decide +kernel
theorem dX10_round_4 : decode cX10_round 4 = .ok (.ifCond .eq 10, 3) := by decide +kernel
theorem dX10_round_7 : decode cX10_round 7 = .ok (.iload_n 2, 1) := by decide +kernel
theorem dX10_round_8 : decode cX10_round 8 = .ok (.invokestatic 153, 3) := by decide +kernel
theorem dX10_round_11 : decode cX10_round 11 = .ok (.ifCond .ne 6, 3) := by decide +kernel
theorem dX10_round_14 : decode cX10_round 14 = .ok (.bipush (-2), 2) := by decide +kernel
theorem dX10_round_16 : decode cX10_round 16 = .ok (.ireturn, 1) := by decide +kernel
theorem dX10_round_17 : decode cX10_round 17 = .ok (.aload_n 0, 1) := by decide +kernel
theorem dX10_round_18 : decode cX10_round 18 = .ok (.getfield 71, 3) := by decide +kernel
theorem dX10_round_21 : decode cX10_round 21 = .ok (.ifCond .ne 6, 3) := by decide +kernel
theorem dX10_round_24 : decode cX10_round 24 = .ok (.bipush (-3), 2) := by decide +kernel
theorem dX10_round_26 : decode cX10_round 26 = .ok (.ireturn, 1) := by decide +kernel
theorem dX10_round_27 : decode cX10_round 27 = .ok (.iconst 0, 1) := by decide +kernel
theorem dX10_round_28 : decode cX10_round 28 = .ok (.istore_n 3, 1) := by decide +kernel
theorem dX10_round_29 : decode cX10_round 29 = .ok (.iconst 0, 1) := by decide +kernel
theorem dX10_round_30 : decode cX10_round 30 = .ok (.istore 4, 2) := by decide +kernel
theorem dX10_round_32 : decode cX10_round 32 = .ok (.iconst 0, 1) := by decide +kernel
theorem dX10_round_33 : decode cX10_round 33 = .ok (.istore 5, 2) := by decide +kernel
theorem dX10_round_35 : decode cX10_round 35 = .ok (.iload 5, 2) := by decide +kernel
theorem dX10_round_37 : decode cX10_round 37 = .ok (.aload_n 0, 1) := by decide +kernel
theorem dX10_round_38 : decode cX10_round 38 = .ok (.invokevirtual 78, 3) := by decide +kernel
theorem dX10_round_41 : decode cX10_round 41 = .ok (.if_icmp .ge 67, 3) := by decide +kernel
theorem dX10_round_44 : decode cX10_round 44 = .ok (.aload_n 0, 1) := by decide +kernel
theorem dX10_round_45 : decode cX10_round 45 = .ok (.iload 5, 2) := by decide +kernel
theorem dX10_round_47 : decode cX10_round 47 = .ok (.iconst 0, 1) := by decide +kernel
theorem dX10_round_48 : decode cX10_round 48 = .ok (.iload_n 1, 1) := by decide +kernel
theorem dX10_round_49 : decode cX10_round 49 = .ok (.invokevirtual 171, 3) := by decide +kernel
theorem dX10_round_52 : decode cX10_round 52 = .ok (.bipush 12, 2) := by decide +kernel
theorem dX10_round_54 : decode cX10_round 54 = .ok (.iload_n 2, 1) := by decide +kernel
theorem dX10_round_55 : decode cX10_round 55 = .ok (.imul, 1) := by decide +kernel
theorem dX10_round_56 : decode cX10_round 56 = .ok (.invokestatic 202, 3) := by decide +kernel
theorem dX10_round_59 : decode cX10_round 59 = .ok (.aload_n 0, 1) := by decide +kernel
theorem dX10_round_60 : decode cX10_round 60 = .ok (.iload 5, 2) := by decide +kernel
theorem dX10_round_62 : decode cX10_round 62 = .ok (.iconst 1, 1) := by decide +kernel
theorem dX10_round_63 : decode cX10_round 63 = .ok (.iload_n 1, 1) := by decide +kernel
theorem dX10_round_64 : decode cX10_round 64 = .ok (.invokevirtual 171, 3) := by decide +kernel
theorem dX10_round_67 : decode cX10_round 67 = .ok (.bipush 12, 2) := by decide +kernel
theorem dX10_round_69 : decode cX10_round 69 = .ok (.iload_n 2, 1) := by decide +kernel
theorem dX10_round_70 : decode cX10_round 70 = .ok (.imul, 1) := by decide +kernel
theorem dX10_round_71 : decode cX10_round 71 = .ok (.invokestatic 202, 3) := by decide +kernel
theorem dX10_round_74 : decode cX10_round 74 = .ok (.iadd, 1) := by decide +kernel
theorem dX10_round_75 : decode cX10_round 75 = .ok (.istore 6, 2) := by decide +kernel
theorem dX10_round_77 : decode cX10_round 77 = .ok (.iload 6, 2) := by decide +kernel
theorem dX10_round_79 : decode cX10_round 79 = .ok (.ifCond .le 8, 3) := by decide +kernel
theorem dX10_round_82 : decode cX10_round 82 = .ok (.iload 5, 2) := by decide +kernel
theorem dX10_round_84 : decode cX10_round 84 = .ok (.goto 4, 3) := by decide +kernel
theorem dX10_round_87 : decode cX10_round 87 = .ok (.iload_n 3, 1) := by decide +kernel
theorem dX10_round_88 : decode cX10_round 88 = .ok (.istore_n 3, 1) := by decide +kernel
theorem dX10_round_89 : decode cX10_round 89 = .ok (.iload 4, 2) := by decide +kernel
theorem dX10_round_91 : decode cX10_round 91 = .ok (.iload 6, 2) := by decide +kernel
theorem dX10_round_93 : decode cX10_round 93 = .ok (.bipush 11, 2) := by decide +kernel
theorem dX10_round_95 : decode cX10_round 95 = .ok (.iadd, 1) := by decide +kernel
theorem dX10_round_96 : decode cX10_round 96 = .ok (.bipush 12, 2) := by decide +kernel
theorem dX10_round_98 : decode cX10_round 98 = .ok (.idiv, 1) := by decide +kernel
theorem dX10_round_99 : decode cX10_round 99 = .ok (.iadd, 1) := by decide +kernel
theorem dX10_round_100 : decode cX10_round 100 = .ok (.istore 4, 2) := by decide +kernel
theorem dX10_round_102 : decode cX10_round 102 = .ok (.iinc 5 1, 3) := by decide +kernel
theorem dX10_round_105 : decode cX10_round 105 = .ok (.goto (-70), 3) := by decide +kernel
theorem dX10_round_108 : decode cX10_round 108 = .ok (.iload_n 3, 1) := by decide +kernel
theorem dX10_round_109 : decode cX10_round 109 = .ok (.iload 4, 2) := by decide +kernel
theorem dX10_round_111 : decode cX10_round 111 = .ok (.iadd, 1) := by decide +kernel
theorem dX10_round_112 : decode cX10_round 112 = .ok (.ireturn, 1) := by decide +kernel
theorem dX10_finedAt_0 : decode cX10_finedAt 0 = .ok (.aload_n 0, 1) := by decide +kernel
theorem dX10_finedAt_1 : decode cX10_finedAt 1 = .ok (.iload_n 1, 1) := by decide +kernel
theorem dX10_finedAt_2 : decode cX10_finedAt 2 = .ok (.iconst 0, 1) := by decide +kernel
theorem dX10_finedAt_3 : decode cX10_finedAt 3 = .ok (.iload_n 3, 1) := by decide +kernel
theorem dX10_finedAt_4 : decode cX10_finedAt 4 = .ok (.invokevirtual 171, 3) := by decide +kernel
theorem dX10_finedAt_7 : decode cX10_finedAt 7 = .ok (.istore 5, 2) := by decide +kernel
theorem dX10_finedAt_9 : decode cX10_finedAt 9 = .ok (.aload_n 0, 1) := by decide +kernel
theorem dX10_finedAt_10 : decode cX10_finedAt 10 = .ok (.iload_n 1, 1) := by decide +kernel
theorem dX10_finedAt_11 : decode cX10_finedAt 11 = .ok (.iconst 1, 1) := by decide +kernel
theorem dX10_finedAt_12 : decode cX10_finedAt 12 = .ok (.iload_n 3, 1) := by decide +kernel
theorem dX10_finedAt_13 : decode cX10_finedAt 13 = .ok (.invokevirtual 171, 3) := by decide +kernel
theorem dX10_finedAt_16 : decode cX10_finedAt 16 = .ok (.istore 6, 2) := by decide +kernel
theorem dX10_finedAt_18 : decode cX10_finedAt 18 = .ok (.iload 5, 2) := by decide +kernel
theorem dX10_finedAt_20 : decode cX10_finedAt 20 = .ok (.iload 6, 2) := by decide +kernel
theorem dX10_finedAt_22 : decode cX10_finedAt 22 = .ok (.invokestatic 165, 3) := by decide +kernel
theorem dX10_finedAt_25 : decode cX10_finedAt 25 = .ok (.istore 7, 2) := by decide +kernel
theorem dX10_finedAt_27 : decode cX10_finedAt 27 = .ok (.iload 7, 2) := by decide +kernel
theorem dX10_finedAt_29 : decode cX10_finedAt 29 = .ok (.bipush 12, 2) := by decide +kernel
theorem dX10_finedAt_31 : decode cX10_finedAt 31 = .ok (.iload 4, 2) := by decide +kernel
theorem dX10_finedAt_33 : decode cX10_finedAt 33 = .ok (.imul, 1) := by decide +kernel
theorem dX10_finedAt_34 : decode cX10_finedAt 34 = .ok (.if_icmp .gt 5, 3) := by decide +kernel
theorem dX10_finedAt_37 : decode cX10_finedAt 37 = .ok (.iconst 0, 1) := by decide +kernel
theorem dX10_finedAt_38 : decode cX10_finedAt 38 = .ok (.ireturn, 1) := by decide +kernel
theorem dX10_finedAt_39 : decode cX10_finedAt 39 = .ok (.iload 7, 2) := by decide +kernel
theorem dX10_finedAt_41 : decode cX10_finedAt 41 = .ok (.bipush 12, 2) := by decide +kernel
theorem dX10_finedAt_43 : decode cX10_finedAt 43 = .ok (.idiv, 1) := by decide +kernel
theorem dX10_finedAt_44 : decode cX10_finedAt 44 = .ok (.istore 8, 2) := by decide +kernel
theorem dX10_finedAt_46 : decode cX10_finedAt 46 = .ok (.iload 5, 2) := by decide +kernel
theorem dX10_finedAt_48 : decode cX10_finedAt 48 = .ok (.iload 6, 2) := by decide +kernel
theorem dX10_finedAt_50 : decode cX10_finedAt 50 = .ok (.if_icmp .lt 7, 3) := by decide +kernel
theorem dX10_finedAt_53 : decode cX10_finedAt 53 = .ok (.iconst 0, 1) := by decide +kernel
theorem dX10_finedAt_54 : decode cX10_finedAt 54 = .ok (.goto 4, 3) := by decide +kernel
theorem dX10_finedAt_57 : decode cX10_finedAt 57 = .ok (.iconst 1, 1) := by decide +kernel
theorem dX10_finedAt_58 : decode cX10_finedAt 58 = .ok (.iload_n 2, 1) := by decide +kernel
theorem dX10_finedAt_59 : decode cX10_finedAt 59 = .ok (.if_icmp .ne 7, 3) := by decide +kernel
theorem dX10_finedAt_62 : decode cX10_finedAt 62 = .ok (.iconst 1, 1) := by decide +kernel
theorem dX10_finedAt_63 : decode cX10_finedAt 63 = .ok (.goto 4, 3) := by decide +kernel
theorem dX10_finedAt_66 : decode cX10_finedAt 66 = .ok (.iconst 0, 1) := by decide +kernel
theorem dX10_finedAt_67 : decode cX10_finedAt 67 = .ok (.istore 9, 2) := by decide +kernel
theorem dX10_finedAt_69 : decode cX10_finedAt 69 = .ok (.iload 8, 2) := by decide +kernel
theorem dX10_finedAt_71 : decode cX10_finedAt 71 = .ok (.iconst 2, 1) := by decide +kernel
theorem dX10_finedAt_72 : decode cX10_finedAt 72 = .ok (.idiv, 1) := by decide +kernel
theorem dX10_finedAt_73 : decode cX10_finedAt 73 = .ok (.iload 9, 2) := by decide +kernel
theorem dX10_finedAt_75 : decode cX10_finedAt 75 = .ok (.ifCond .eq 10, 3) := by decide +kernel
theorem dX10_finedAt_78 : decode cX10_finedAt 78 = .ok (.iload 8, 2) := by decide +kernel
theorem dX10_finedAt_80 : decode cX10_finedAt 80 = .ok (.iconst 2, 1) := by decide +kernel
theorem dX10_finedAt_81 : decode cX10_finedAt 81 = .ok (.irem, 1) := by decide +kernel
theorem dX10_finedAt_82 : decode cX10_finedAt 82 = .ok (.goto 4, 3) := by decide +kernel
theorem dX10_finedAt_85 : decode cX10_finedAt 85 = .ok (.iconst 0, 1) := by decide +kernel
theorem dX10_finedAt_86 : decode cX10_finedAt 86 = .ok (.iadd, 1) := by decide +kernel
theorem dX10_finedAt_87 : decode cX10_finedAt 87 = .ok (.ireturn, 1) := by decide +kernel
theorem dX10_finesOf_0 : decode cX10_finesOf 0 = .ok (.iconst 0, 1) := by decide +kernel
theorem dX10_finesOf_1 : decode cX10_finesOf 1 = .ok (.istore_n 3, 1) := by decide +kernel
theorem dX10_finesOf_2 : decode cX10_finesOf 2 = .ok (.iconst 1, 1) := by decide +kernel
theorem dX10_finesOf_3 : decode cX10_finesOf 3 = .ok (.istore 4, 2) := by decide +kernel
theorem dX10_finesOf_5 : decode cX10_finesOf 5 = .ok (.iload 4, 2) := by decide +kernel
theorem dX10_finesOf_7 : decode cX10_finesOf 7 = .ok (.bipush 30, 2) := by decide +kernel
theorem dX10_finesOf_9 : decode cX10_finesOf 9 = .ok (.if_icmp .gt 61, 3) := by decide +kernel
theorem dX10_finesOf_12 : decode cX10_finesOf 12 = .ok (.iconst 0, 1) := by decide +kernel
theorem dX10_finesOf_13 : decode cX10_finesOf 13 = .ok (.istore 5, 2) := by decide +kernel
theorem dX10_finesOf_15 : decode cX10_finesOf 15 = .ok (.iload 5, 2) := by decide +kernel
theorem dX10_finesOf_17 : decode cX10_finesOf 17 = .ok (.iconst 2, 1) := by decide +kernel
theorem dX10_finesOf_18 : decode cX10_finesOf 18 = .ok (.if_icmp .ge 46, 3) := by decide +kernel
theorem dX10_finesOf_21 : decode cX10_finesOf 21 = .ok (.iload_n 1, 1) := by decide +kernel
theorem dX10_finesOf_22 : decode cX10_finesOf 22 = .ok (.iload 5, 2) := by decide +kernel
theorem dX10_finesOf_24 : decode cX10_finesOf 24 = .ok (.invokestatic 146, 3) := by decide +kernel
theorem dX10_finesOf_27 : decode cX10_finesOf 27 = .ok (.istore 6, 2) := by decide +kernel
theorem dX10_finesOf_29 : decode cX10_finesOf 29 = .ok (.iload_n 3, 1) := by decide +kernel
theorem dX10_finesOf_30 : decode cX10_finesOf 30 = .ok (.aload_n 0, 1) := by decide +kernel
theorem dX10_finesOf_31 : decode cX10_finesOf 31 = .ok (.iload 6, 2) := by decide +kernel
theorem dX10_finesOf_33 : decode cX10_finesOf 33 = .ok (.invokevirtual 133, 3) := by decide +kernel
theorem dX10_finesOf_36 : decode cX10_finesOf 36 = .ok (.ifCond .eq 7, 3) := by decide +kernel
theorem dX10_finesOf_39 : decode cX10_finesOf 39 = .ok (.iconst 0, 1) := by decide +kernel
theorem dX10_finesOf_40 : decode cX10_finesOf 40 = .ok (.goto 16, 3) := by decide +kernel
theorem dX10_finesOf_43 : decode cX10_finesOf 43 = .ok (.aload_n 0, 1) := by decide +kernel
theorem dX10_finesOf_44 : decode cX10_finesOf 44 = .ok (.iload 6, 2) := by decide +kernel
theorem dX10_finesOf_46 : decode cX10_finesOf 46 = .ok (.iconst 1, 1) := by decide +kernel
theorem dX10_finesOf_47 : decode cX10_finesOf 47 = .ok (.iload 5, 2) := by decide +kernel
theorem dX10_finesOf_49 : decode cX10_finesOf 49 = .ok (.isub, 1) := by decide +kernel
theorem dX10_finesOf_50 : decode cX10_finesOf 50 = .ok (.iload 4, 2) := by decide +kernel
theorem dX10_finesOf_52 : decode cX10_finesOf 52 = .ok (.iload_n 2, 1) := by decide +kernel
theorem dX10_finesOf_53 : decode cX10_finesOf 53 = .ok (.invokevirtual 205, 3) := by decide +kernel
theorem dX10_finesOf_56 : decode cX10_finesOf 56 = .ok (.iadd, 1) := by decide +kernel
theorem dX10_finesOf_57 : decode cX10_finesOf 57 = .ok (.istore_n 3, 1) := by decide +kernel
theorem dX10_finesOf_58 : decode cX10_finesOf 58 = .ok (.iinc 5 1, 3) := by decide +kernel
theorem dX10_finesOf_61 : decode cX10_finesOf 61 = .ok (.goto (-46), 3) := by decide +kernel
theorem dX10_finesOf_64 : decode cX10_finesOf 64 = .ok (.iinc 4 1, 3) := by decide +kernel
theorem dX10_finesOf_67 : decode cX10_finesOf 67 = .ok (.goto (-62), 3) := by decide +kernel
theorem dX10_finesOf_70 : decode cX10_finesOf 70 = .ok (.iload_n 3, 1) := by decide +kernel
theorem dX10_finesOf_71 : decode cX10_finesOf 71 = .ok (.ireturn, 1) := by decide +kernel
theorem dX10_fines_0 : decode cX10_fines 0 = .ok (.iload_n 1, 1) := by decide +kernel
theorem dX10_fines_1 : decode cX10_fines 1 = .ok (.iconst (-1), 1) := by decide +kernel
theorem dX10_fines_2 : decode cX10_fines 2 = .ok (.if_icmp .eq 13, 3) := by decide +kernel
theorem dX10_fines_5 : decode cX10_fines 5 = .ok (.aload_n 0, 1) := by decide +kernel
theorem dX10_fines_6 : decode cX10_fines 6 = .ok (.iload_n 1, 1) := by decide +kernel
theorem dX10_fines_7 : decode cX10_fines 7 = .ok (.invokevirtual 130, 3) := by decide +kernel
theorem dX10_fines_10 : decode cX10_fines 10 = .ok (.ifCond .eq 5, 3) := by decide +kernel
theorem dX10_fines_13 : decode cX10_fines 13 = .ok (.iconst (-1), 1) := by decide +kernel
theorem dX10_fines_14 : decode cX10_fines 14 = .ok (.ireturn, 1) := by decide +kernel
theorem dX10_fines_15 : decode cX10_fines 15 = .ok (.iload_n 2, 1) := by decide +kernel
theorem dX10_fines_16 : decode cX10_fines 16 = .ok (.invokestatic 153, 3) := by decide +kernel
theorem dX10_fines_19 : decode cX10_fines 19 = .ok (.ifCond .ne 6, 3) := by decide +kernel
theorem dX10_fines_22 : decode cX10_fines 22 = .ok (.bipush (-2), 2) := by decide +kernel
theorem dX10_fines_24 : decode cX10_fines 24 = .ok (.ireturn, 1) := by decide +kernel
theorem dX10_fines_25 : decode cX10_fines 25 = .ok (.iload_n 1, 1) := by decide +kernel
theorem dX10_fines_26 : decode cX10_fines 26 = .ok (.ifCond .lt 10, 3) := by decide +kernel
theorem dX10_fines_29 : decode cX10_fines 29 = .ok (.aload_n 0, 1) := by decide +kernel
theorem dX10_fines_30 : decode cX10_fines 30 = .ok (.iload_n 1, 1) := by decide +kernel
theorem dX10_fines_31 : decode cX10_fines 31 = .ok (.iload_n 2, 1) := by decide +kernel
theorem dX10_fines_32 : decode cX10_fines 32 = .ok (.invokevirtual 208, 3) := by decide +kernel
theorem dX10_fines_35 : decode cX10_fines 35 = .ok (.ireturn, 1) := by decide +kernel
theorem dX10_fines_36 : decode cX10_fines 36 = .ok (.iconst 0, 1) := by decide +kernel
theorem dX10_fines_37 : decode cX10_fines 37 = .ok (.istore_n 3, 1) := by decide +kernel
theorem dX10_fines_38 : decode cX10_fines 38 = .ok (.iconst 0, 1) := by decide +kernel
theorem dX10_fines_39 : decode cX10_fines 39 = .ok (.istore 4, 2) := by decide +kernel
theorem dX10_fines_41 : decode cX10_fines 41 = .ok (.iload 4, 2) := by decide +kernel
theorem dX10_fines_43 : decode cX10_fines 43 = .ok (.aload_n 0, 1) := by decide +kernel
theorem dX10_fines_44 : decode cX10_fines 44 = .ok (.getfield 71, 3) := by decide +kernel
theorem dX10_fines_47 : decode cX10_fines 47 = .ok (.if_icmp .ge 19, 3) := by decide +kernel
theorem dX10_fines_50 : decode cX10_fines 50 = .ok (.iload_n 3, 1) := by decide +kernel
theorem dX10_fines_51 : decode cX10_fines 51 = .ok (.aload_n 0, 1) := by decide +kernel
theorem dX10_fines_52 : decode cX10_fines 52 = .ok (.iload 4, 2) := by decide +kernel
theorem dX10_fines_54 : decode cX10_fines 54 = .ok (.iload_n 2, 1) := by decide +kernel
theorem dX10_fines_55 : decode cX10_fines 55 = .ok (.invokevirtual 208, 3) := by decide +kernel
theorem dX10_fines_58 : decode cX10_fines 58 = .ok (.iadd, 1) := by decide +kernel
theorem dX10_fines_59 : decode cX10_fines 59 = .ok (.istore_n 3, 1) := by decide +kernel
theorem dX10_fines_60 : decode cX10_fines 60 = .ok (.iinc 4 1, 3) := by decide +kernel
theorem dX10_fines_63 : decode cX10_fines 63 = .ok (.goto (-22), 3) := by decide +kernel
theorem dX10_fines_66 : decode cX10_fines 66 = .ok (.iload_n 3, 1) := by decide +kernel
theorem dX10_fines_67 : decode cX10_fines 67 = .ok (.ireturn, 1) := by decide +kernel
theorem dX10_mean_0 : decode cX10_mean 0 = .ok (.iload_n 1, 1) := by decide +kernel
theorem dX10_mean_1 : decode cX10_mean 1 = .ok (.invokestatic 168, 3) := by decide +kernel
theorem dX10_mean_4 : decode cX10_mean 4 = .ok (.ifCond .eq 20, 3) := by decide +kernel
theorem dX10_mean_7 : decode cX10_mean 7 = .ok (.iload_n 2, 1) := by decide +kernel
theorem dX10_mean_8 : decode cX10_mean 8 = .ok (.i2l, 1) := by decide +kernel
theorem dX10_mean_9 : decode cX10_mean 9 = .ok (.lconst 0, 1) := by decide +kernel
theorem dX10_mean_10 : decode cX10_mean 10 = .ok (.lconst 1, 1) := by decide +kernel
theorem dX10_mean_11 : decode cX10_mean 11 = .ok (.invokestatic 74, 3) := by decide +kernel
theorem dX10_mean_14 : decode cX10_mean 14 = .ok (.ifCond .eq 10, 3) := by decide +kernel
theorem dX10_mean_17 : decode cX10_mean 17 = .ok (.aload_n 0, 1) := by decide +kernel
theorem dX10_mean_18 : decode cX10_mean 18 = .ok (.getfield 71, 3) := by decide +kernel
theorem dX10_mean_21 : decode cX10_mean 21 = .ok (.ifCond .ne 7, 3) := by decide +kernel
theorem dX10_mean_24 : decode cX10_mean 24 = .ok (.invokestatic 67, 3) := by decide +kernel
theorem dX10_mean_27 : decode cX10_mean 27 = .ok (.lreturn, 1) := by decide +kernel
theorem dX10_mean_28 : decode cX10_mean 28 = .ok (.iconst 0, 1) := by decide +kernel
theorem dX10_mean_29 : decode cX10_mean 29 = .ok (.istore_n 3, 1) := by decide +kernel
theorem dX10_mean_30 : decode cX10_mean 30 = .ok (.iconst 0, 1) := by decide +kernel
theorem dX10_mean_31 : decode cX10_mean 31 = .ok (.istore 4, 2) := by decide +kernel
theorem dX10_mean_33 : decode cX10_mean 33 = .ok (.iload 4, 2) := by decide +kernel
theorem dX10_mean_35 : decode cX10_mean 35 = .ok (.aload_n 0, 1) := by decide +kernel
theorem dX10_mean_36 : decode cX10_mean 36 = .ok (.invokevirtual 78, 3) := by decide +kernel
theorem dX10_mean_39 : decode cX10_mean 39 = .ok (.if_icmp .ge 19, 3) := by decide +kernel
theorem dX10_mean_42 : decode cX10_mean 42 = .ok (.iload_n 3, 1) := by decide +kernel
theorem dX10_mean_43 : decode cX10_mean 43 = .ok (.aload_n 0, 1) := by decide +kernel
theorem dX10_mean_44 : decode cX10_mean 44 = .ok (.iload 4, 2) := by decide +kernel
theorem dX10_mean_46 : decode cX10_mean 46 = .ok (.iload_n 1, 1) := by decide +kernel
theorem dX10_mean_47 : decode cX10_mean 47 = .ok (.invokevirtual 174, 3) := by decide +kernel
theorem dX10_mean_50 : decode cX10_mean 50 = .ok (.iadd, 1) := by decide +kernel
theorem dX10_mean_51 : decode cX10_mean 51 = .ok (.istore_n 3, 1) := by decide +kernel
theorem dX10_mean_52 : decode cX10_mean 52 = .ok (.iinc 4 1, 3) := by decide +kernel
theorem dX10_mean_55 : decode cX10_mean 55 = .ok (.goto (-22), 3) := by decide +kernel
theorem dX10_mean_58 : decode cX10_mean 58 = .ok (.iload_n 3, 1) := by decide +kernel
theorem dX10_mean_59 : decode cX10_mean 59 = .ok (.i2l, 1) := by decide +kernel
theorem dX10_mean_60 : decode cX10_mean 60 = .ok (.aload_n 0, 1) := by decide +kernel
theorem dX10_mean_61 : decode cX10_mean 61 = .ok (.invokevirtual 78, 3) := by decide +kernel
theorem dX10_mean_64 : decode cX10_mean 64 = .ok (.i2l, 1) := by decide +kernel
theorem dX10_mean_65 : decode cX10_mean 65 = .ok (.iload_n 2, 1) := by decide +kernel
theorem dX10_mean_66 : decode cX10_mean 66 = .ok (.invokestatic 211, 3) := by decide +kernel
theorem dX10_mean_69 : decode cX10_mean 69 = .ok (.lreturn, 1) := by decide +kernel
theorem dX10_noSheet_0 : decode cX10_noSheet 0 = .ok (.iload_n 0, 1) := by decide +kernel
theorem dX10_noSheet_1 : decode cX10_noSheet 1 = .ok (.i2l, 1) := by decide +kernel
theorem dX10_noSheet_2 : decode cX10_noSheet 2 = .ok (.lconst 0, 1) := by decide +kernel
theorem dX10_noSheet_3 : decode cX10_noSheet 3 = .ok (.ldc2_w 144, 3) := by decide +kernel
theorem dX10_noSheet_6 : decode cX10_noSheet 6 = .ok (.invokestatic 74, 3) := by decide +kernel
theorem dX10_noSheet_9 : decode cX10_noSheet 9 = .ok (.ifCond .ne 7, 3) := by decide +kernel
theorem dX10_noSheet_12 : decode cX10_noSheet 12 = .ok (.iconst 1, 1) := by decide +kernel
theorem dX10_noSheet_13 : decode cX10_noSheet 13 = .ok (.goto 4, 3) := by decide +kernel
theorem dX10_noSheet_16 : decode cX10_noSheet 16 = .ok (.iconst 0, 1) := by decide +kernel
theorem dX10_noSheet_17 : decode cX10_noSheet 17 = .ok (.ireturn, 1) := by decide +kernel
theorem dX10_sheet_0 : decode cX10_sheet 0 = .ok (.iload_n 1, 1) := by decide +kernel
theorem dX10_sheet_1 : decode cX10_sheet 1 = .ok (.invokestatic 107, 3) := by decide +kernel
theorem dX10_sheet_4 : decode cX10_sheet 4 = .ok (.ifCond .eq 9, 3) := by decide +kernel
theorem dX10_sheet_7 : decode cX10_sheet 7 = .ok (.aload_n 0, 1) := by decide +kernel
theorem dX10_sheet_8 : decode cX10_sheet 8 = .ok (.iconst (-1), 1) := by decide +kernel
theorem dX10_sheet_9 : decode cX10_sheet 9 = .ok (.invokevirtual 111, 3) := by decide +kernel
theorem dX10_sheet_12 : decode cX10_sheet 12 = .ok (.ireturn, 1) := by decide +kernel
theorem dX10_sheet_13 : decode cX10_sheet 13 = .ok (.iload_n 2, 1) := by decide +kernel
theorem dX10_sheet_14 : decode cX10_sheet 14 = .ok (.i2l, 1) := by decide +kernel
theorem dX10_sheet_15 : decode cX10_sheet 15 = .ok (.lconst 0, 1) := by decide +kernel
theorem dX10_sheet_16 : decode cX10_sheet 16 = .ok (.ldc2_w 115, 3) := by decide +kernel
theorem dX10_sheet_19 : decode cX10_sheet 19 = .ok (.invokestatic 74, 3) := by decide +kernel
theorem dX10_sheet_22 : decode cX10_sheet 22 = .ok (.ifCond .eq 9, 3) := by decide +kernel
theorem dX10_sheet_25 : decode cX10_sheet 25 = .ok (.iload_n 3, 1) := by decide +kernel
theorem dX10_sheet_26 : decode cX10_sheet 26 = .ok (.bipush 60, 2) := by decide +kernel
theorem dX10_sheet_28 : decode cX10_sheet 28 = .ok (.if_icmp .le 10, 3) := by decide +kernel
theorem dX10_sheet_31 : decode cX10_sheet 31 = .ok (.aload_n 0, 1) := by decide +kernel
theorem dX10_sheet_32 : decode cX10_sheet 32 = .ok (.bipush (-2), 2) := by decide +kernel
theorem dX10_sheet_34 : decode cX10_sheet 34 = .ok (.invokevirtual 111, 3) := by decide +kernel
theorem dX10_sheet_37 : decode cX10_sheet 37 = .ok (.ireturn, 1) := by decide +kernel
theorem dX10_sheet_38 : decode cX10_sheet 38 = .ok (.iload_n 3, 1) := by decide +kernel
theorem dX10_sheet_39 : decode cX10_sheet 39 = .ok (.ifCond .ge 9, 3) := by decide +kernel
theorem dX10_sheet_42 : decode cX10_sheet 42 = .ok (.aload_n 0, 1) := by decide +kernel
theorem dX10_sheet_43 : decode cX10_sheet 43 = .ok (.iconst 4, 1) := by decide +kernel
theorem dX10_sheet_44 : decode cX10_sheet 44 = .ok (.invokevirtual 117, 3) := by decide +kernel
theorem dX10_sheet_47 : decode cX10_sheet 47 = .ok (.ireturn, 1) := by decide +kernel
theorem dX10_sheet_48 : decode cX10_sheet 48 = .ok (.aload_n 0, 1) := by decide +kernel
theorem dX10_sheet_49 : decode cX10_sheet 49 = .ok (.getfield 49, 3) := by decide +kernel
theorem dX10_sheet_52 : decode cX10_sheet 52 = .ok (.iload_n 1, 1) := by decide +kernel
theorem dX10_sheet_53 : decode cX10_sheet 53 = .ok (.iload_n 3, 1) := by decide +kernel
theorem dX10_sheet_54 : decode cX10_sheet 54 = .ok (.iastore, 1) := by decide +kernel
theorem dX10_sheet_55 : decode cX10_sheet 55 = .ok (.aload_n 0, 1) := by decide +kernel
theorem dX10_sheet_56 : decode cX10_sheet 56 = .ok (.getfield 52, 3) := by decide +kernel
theorem dX10_sheet_59 : decode cX10_sheet 59 = .ok (.iload_n 1, 1) := by decide +kernel
theorem dX10_sheet_60 : decode cX10_sheet 60 = .ok (.iload_n 2, 1) := by decide +kernel
theorem dX10_sheet_61 : decode cX10_sheet 61 = .ok (.iastore, 1) := by decide +kernel
theorem dX10_sheet_62 : decode cX10_sheet 62 = .ok (.iconst 0, 1) := by decide +kernel
theorem dX10_sheet_63 : decode cX10_sheet 63 = .ok (.istore 4, 2) := by decide +kernel
theorem dX10_sheet_65 : decode cX10_sheet 65 = .ok (.iload 4, 2) := by decide +kernel
theorem dX10_sheet_67 : decode cX10_sheet 67 = .ok (.iload_n 3, 1) := by decide +kernel
theorem dX10_sheet_68 : decode cX10_sheet 68 = .ok (.if_icmp .ge 22, 3) := by decide +kernel
theorem dX10_sheet_71 : decode cX10_sheet 71 = .ok (.aload_n 0, 1) := by decide +kernel
theorem dX10_sheet_72 : decode cX10_sheet 72 = .ok (.getfield 55, 3) := by decide +kernel
theorem dX10_sheet_75 : decode cX10_sheet 75 = .ok (.bipush 60, 2) := by decide +kernel
theorem dX10_sheet_77 : decode cX10_sheet 77 = .ok (.iload_n 1, 1) := by decide +kernel
theorem dX10_sheet_78 : decode cX10_sheet 78 = .ok (.imul, 1) := by decide +kernel
theorem dX10_sheet_79 : decode cX10_sheet 79 = .ok (.iload 4, 2) := by decide +kernel
theorem dX10_sheet_81 : decode cX10_sheet 81 = .ok (.iadd, 1) := by decide +kernel
theorem dX10_sheet_82 : decode cX10_sheet 82 = .ok (.iconst 0, 1) := by decide +kernel
theorem dX10_sheet_83 : decode cX10_sheet 83 = .ok (.iastore, 1) := by decide +kernel
theorem dX10_sheet_84 : decode cX10_sheet 84 = .ok (.iinc 4 1, 3) := by decide +kernel
theorem dX10_sheet_87 : decode cX10_sheet 87 = .ok (.goto (-22), 3) := by decide +kernel
theorem dX10_sheet_90 : decode cX10_sheet 90 = .ok (.aload_n 0, 1) := by decide +kernel
theorem dX10_sheet_91 : decode cX10_sheet 91 = .ok (.iconst 1, 1) := by decide +kernel
theorem dX10_sheet_92 : decode cX10_sheet 92 = .ok (.invokevirtual 111, 3) := by decide +kernel
theorem dX10_sheet_95 : decode cX10_sheet 95 = .ok (.ireturn, 1) := by decide +kernel
theorem dX10_lose_0 : decode cX10_lose 0 = .ok (.iload_n 1, 1) := by decide +kernel
theorem dX10_lose_1 : decode cX10_lose 1 = .ok (.invokestatic 107, 3) := by decide +kernel
theorem dX10_lose_4 : decode cX10_lose 4 = .ok (.ifCond .eq 5, 3) := by decide +kernel
theorem dX10_lose_7 : decode cX10_lose 7 = .ok (.iconst (-1), 1) := by decide +kernel
theorem dX10_lose_8 : decode cX10_lose 8 = .ok (.ireturn, 1) := by decide +kernel
theorem dX10_lose_9 : decode cX10_lose 9 = .ok (.aload_n 0, 1) := by decide +kernel
theorem dX10_lose_10 : decode cX10_lose 10 = .ok (.getfield 49, 3) := by decide +kernel
theorem dX10_lose_13 : decode cX10_lose 13 = .ok (.iload_n 1, 1) := by decide +kernel
theorem dX10_lose_14 : decode cX10_lose 14 = .ok (.iaload, 1) := by decide +kernel
theorem dX10_lose_15 : decode cX10_lose 15 = .ok (.ifCond .ge 7, 3) := by decide +kernel
theorem dX10_lose_18 : decode cX10_lose 18 = .ok (.iconst 0, 1) := by decide +kernel
theorem dX10_lose_19 : decode cX10_lose 19 = .ok (.goto 4, 3) := by decide +kernel
theorem dX10_lose_22 : decode cX10_lose 22 = .ok (.iconst 1, 1) := by decide +kernel
theorem dX10_lose_23 : decode cX10_lose 23 = .ok (.istore_n 2, 1) := by decide +kernel
theorem dX10_lose_24 : decode cX10_lose 24 = .ok (.aload_n 0, 1) := by decide +kernel
theorem dX10_lose_25 : decode cX10_lose 25 = .ok (.getfield 49, 3) := by decide +kernel
theorem dX10_lose_28 : decode cX10_lose 28 = .ok (.iload_n 1, 1) := by decide +kernel
theorem dX10_lose_29 : decode cX10_lose 29 = .ok (.iconst (-1), 1) := by decide +kernel
theorem dX10_lose_30 : decode cX10_lose 30 = .ok (.iastore, 1) := by decide +kernel
theorem dX10_lose_31 : decode cX10_lose 31 = .ok (.iload_n 2, 1) := by decide +kernel
theorem dX10_lose_32 : decode cX10_lose 32 = .ok (.ireturn, 1) := by decide +kernel
theorem dX10_noCell_0 : decode cX10_noCell 0 = .ok (.aload_n 0, 1) := by decide +kernel
theorem dX10_noCell_1 : decode cX10_noCell 1 = .ok (.getfield 49, 3) := by decide +kernel
theorem dX10_noCell_4 : decode cX10_noCell 4 = .ok (.iload_n 1, 1) := by decide +kernel
theorem dX10_noCell_5 : decode cX10_noCell 5 = .ok (.iaload, 1) := by decide +kernel
theorem dX10_noCell_6 : decode cX10_noCell 6 = .ok (.ifCond .ge 7, 3) := by decide +kernel
theorem dX10_noCell_9 : decode cX10_noCell 9 = .ok (.iconst 1, 1) := by decide +kernel
theorem dX10_noCell_10 : decode cX10_noCell 10 = .ok (.goto 26, 3) := by decide +kernel
theorem dX10_noCell_13 : decode cX10_noCell 13 = .ok (.iload_n 2, 1) := by decide +kernel
theorem dX10_noCell_14 : decode cX10_noCell 14 = .ok (.i2l, 1) := by decide +kernel
theorem dX10_noCell_15 : decode cX10_noCell 15 = .ok (.lconst 0, 1) := by decide +kernel
theorem dX10_noCell_16 : decode cX10_noCell 16 = .ok (.aload_n 0, 1) := by decide +kernel
theorem dX10_noCell_17 : decode cX10_noCell 17 = .ok (.getfield 49, 3) := by decide +kernel
theorem dX10_noCell_20 : decode cX10_noCell 20 = .ok (.iload_n 1, 1) := by decide +kernel
theorem dX10_noCell_21 : decode cX10_noCell 21 = .ok (.iaload, 1) := by decide +kernel
theorem dX10_noCell_22 : decode cX10_noCell 22 = .ok (.i2l, 1) := by decide +kernel
theorem dX10_noCell_23 : decode cX10_noCell 23 = .ok (.lconst 1, 1) := by decide +kernel
theorem dX10_noCell_24 : decode cX10_noCell 24 = .ok (.lsub, 1) := by decide +kernel
theorem dX10_noCell_25 : decode cX10_noCell 25 = .ok (.invokestatic 74, 3) := by decide +kernel
theorem dX10_noCell_28 : decode cX10_noCell 28 = .ok (.ifCond .eq 7, 3) := by decide +kernel
theorem dX10_noCell_31 : decode cX10_noCell 31 = .ok (.iconst 0, 1) := by decide +kernel
theorem dX10_noCell_32 : decode cX10_noCell 32 = .ok (.goto 4, 3) := by decide +kernel
theorem dX10_noCell_35 : decode cX10_noCell 35 = .ok (.iconst 3, 1) := by decide +kernel
theorem dX10_noCell_36 : decode cX10_noCell 36 = .ok (.ireturn, 1) := by decide +kernel
theorem dX10_put_0 : decode cX10_put 0 = .ok (.iload_n 1, 1) := by decide +kernel
theorem dX10_put_1 : decode cX10_put 1 = .ok (.invokestatic 107, 3) := by decide +kernel
theorem dX10_put_4 : decode cX10_put 4 = .ok (.ifCond .eq 9, 3) := by decide +kernel
theorem dX10_put_7 : decode cX10_put 7 = .ok (.aload_n 0, 1) := by decide +kernel
theorem dX10_put_8 : decode cX10_put 8 = .ok (.iconst (-1), 1) := by decide +kernel
theorem dX10_put_9 : decode cX10_put 9 = .ok (.invokevirtual 111, 3) := by decide +kernel
theorem dX10_put_12 : decode cX10_put 12 = .ok (.ireturn, 1) := by decide +kernel
theorem dX10_put_13 : decode cX10_put 13 = .ok (.aload_n 0, 1) := by decide +kernel
theorem dX10_put_14 : decode cX10_put 14 = .ok (.iload_n 1, 1) := by decide +kernel
theorem dX10_put_15 : decode cX10_put 15 = .ok (.iload_n 2, 1) := by decide +kernel
theorem dX10_put_16 : decode cX10_put 16 = .ok (.invokevirtual 215, 3) := by decide +kernel
theorem dX10_put_19 : decode cX10_put 19 = .ok (.ifCond .le 14, 3) := by decide +kernel
theorem dX10_put_22 : decode cX10_put 22 = .ok (.aload_n 0, 1) := by decide +kernel
theorem dX10_put_23 : decode cX10_put 23 = .ok (.aload_n 0, 1) := by decide +kernel
theorem dX10_put_24 : decode cX10_put 24 = .ok (.iload_n 1, 1) := by decide +kernel
theorem dX10_put_25 : decode cX10_put 25 = .ok (.iload_n 2, 1) := by decide +kernel
theorem dX10_put_26 : decode cX10_put 26 = .ok (.invokevirtual 215, 3) := by decide +kernel
theorem dX10_put_29 : decode cX10_put 29 = .ok (.invokevirtual 117, 3) := by decide +kernel
theorem dX10_put_32 : decode cX10_put 32 = .ok (.ireturn, 1) := by decide +kernel
theorem dX10_put_33 : decode cX10_put 33 = .ok (.aload_n 0, 1) := by decide +kernel
theorem dX10_put_34 : decode cX10_put 34 = .ok (.getfield 55, 3) := by decide +kernel
theorem dX10_put_37 : decode cX10_put 37 = .ok (.bipush 60, 2) := by decide +kernel
theorem dX10_put_39 : decode cX10_put 39 = .ok (.iload_n 1, 1) := by decide +kernel
theorem dX10_put_40 : decode cX10_put 40 = .ok (.imul, 1) := by decide +kernel
theorem dX10_put_41 : decode cX10_put 41 = .ok (.iload_n 2, 1) := by decide +kernel
theorem dX10_put_42 : decode cX10_put 42 = .ok (.iadd, 1) := by decide +kernel
theorem dX10_put_43 : decode cX10_put 43 = .ok (.aload_n 0, 1) := by decide +kernel
theorem dX10_put_44 : decode cX10_put 44 = .ok (.getfield 52, 3) := by decide +kernel
theorem dX10_put_47 : decode cX10_put 47 = .ok (.iload_n 1, 1) := by decide +kernel
theorem dX10_put_48 : decode cX10_put 48 = .ok (.iaload, 1) := by decide +kernel
theorem dX10_put_49 : decode cX10_put 49 = .ok (.ifCond .ne 8, 3) := by decide +kernel
theorem dX10_put_52 : decode cX10_put 52 = .ok (.iload_n 3, 1) := by decide +kernel
theorem dX10_put_53 : decode cX10_put 53 = .ok (.i2b, 1) := by decide +kernel
theorem dX10_put_54 : decode cX10_put 54 = .ok (.goto 19, 3) := by decide +kernel
theorem dX10_put_57 : decode cX10_put 57 = .ok (.aload_n 0, 1) := by decide +kernel
theorem dX10_put_58 : decode cX10_put 58 = .ok (.getfield 52, 3) := by decide +kernel
theorem dX10_put_61 : decode cX10_put 61 = .ok (.iload_n 1, 1) := by decide +kernel
theorem dX10_put_62 : decode cX10_put 62 = .ok (.iaload, 1) := by decide +kernel
theorem dX10_put_63 : decode cX10_put 63 = .ok (.iconst 1, 1) := by decide +kernel
theorem dX10_put_64 : decode cX10_put 64 = .ok (.if_icmp .ne 8, 3) := by decide +kernel
theorem dX10_put_67 : decode cX10_put 67 = .ok (.iload_n 3, 1) := by decide +kernel
theorem dX10_put_68 : decode cX10_put 68 = .ok (.i2s, 1) := by decide +kernel
theorem dX10_put_69 : decode cX10_put 69 = .ok (.goto 4, 3) := by decide +kernel
theorem dX10_put_72 : decode cX10_put 72 = .ok (.iload_n 3, 1) := by decide +kernel
theorem dX10_put_73 : decode cX10_put 73 = .ok (.iastore, 1) := by decide +kernel
theorem dX10_put_74 : decode cX10_put 74 = .ok (.aload_n 0, 1) := by decide +kernel
theorem dX10_put_75 : decode cX10_put 75 = .ok (.iconst 1, 1) := by decide +kernel
theorem dX10_put_76 : decode cX10_put 76 = .ok (.invokevirtual 111, 3) := by decide +kernel
theorem dX10_put_79 : decode cX10_put 79 = .ok (.ireturn, 1) := by decide +kernel
theorem dX10_cell_0 : decode cX10_cell 0 = .ok (.aload_n 0, 1) := by decide +kernel
theorem dX10_cell_1 : decode cX10_cell 1 = .ok (.iconst 0, 1) := by decide +kernel
theorem dX10_cell_2 : decode cX10_cell 2 = .ok (.putfield 63, 3) := by decide +kernel
theorem dX10_cell_5 : decode cX10_cell 5 = .ok (.iload_n 1, 1) := by decide +kernel
theorem dX10_cell_6 : decode cX10_cell 6 = .ok (.invokestatic 107, 3) := by decide +kernel
theorem dX10_cell_9 : decode cX10_cell 9 = .ok (.ifCond .ne 15, 3) := by decide +kernel
theorem dX10_cell_12 : decode cX10_cell 12 = .ok (.iload_n 3, 1) := by decide +kernel
theorem dX10_cell_13 : decode cX10_cell 13 = .ok (.i2l, 1) := by decide +kernel
theorem dX10_cell_14 : decode cX10_cell 14 = .ok (.lconst 0, 1) := by decide +kernel
theorem dX10_cell_15 : decode cX10_cell 15 = .ok (.ldc2_w 115, 3) := by decide +kernel
theorem dX10_cell_18 : decode cX10_cell 18 = .ok (.invokestatic 74, 3) := by decide +kernel
theorem dX10_cell_21 : decode cX10_cell 21 = .ok (.ifCond .ne 7, 3) := by decide +kernel
theorem dX10_cell_24 : decode cX10_cell 24 = .ok (.invokestatic 67, 3) := by decide +kernel
theorem dX10_cell_27 : decode cX10_cell 27 = .ok (.lreturn, 1) := by decide +kernel
theorem dX10_cell_28 : decode cX10_cell 28 = .ok (.aload_n 0, 1) := by decide +kernel
theorem dX10_cell_29 : decode cX10_cell 29 = .ok (.getfield 49, 3) := by decide +kernel
theorem dX10_cell_32 : decode cX10_cell 32 = .ok (.iload_n 1, 1) := by decide +kernel
theorem dX10_cell_33 : decode cX10_cell 33 = .ok (.iaload, 1) := by decide +kernel
theorem dX10_cell_34 : decode cX10_cell 34 = .ok (.ifCond .lt 19, 3) := by decide +kernel
theorem dX10_cell_37 : decode cX10_cell 37 = .ok (.aload_n 0, 1) := by decide +kernel
theorem dX10_cell_38 : decode cX10_cell 38 = .ok (.getfield 52, 3) := by decide +kernel
theorem dX10_cell_41 : decode cX10_cell 41 = .ok (.iload_n 1, 1) := by decide +kernel
theorem dX10_cell_42 : decode cX10_cell 42 = .ok (.iaload, 1) := by decide +kernel
theorem dX10_cell_43 : decode cX10_cell 43 = .ok (.iload_n 3, 1) := by decide +kernel
theorem dX10_cell_44 : decode cX10_cell 44 = .ok (.if_icmp .eq 9, 3) := by decide +kernel
theorem dX10_cell_47 : decode cX10_cell 47 = .ok (.aload_n 0, 1) := by decide +kernel
theorem dX10_cell_48 : decode cX10_cell 48 = .ok (.iconst 2, 1) := by decide +kernel
theorem dX10_cell_49 : decode cX10_cell 49 = .ok (.invokevirtual 218, 3) := by decide +kernel
theorem dX10_cell_52 : decode cX10_cell 52 = .ok (.lreturn, 1) := by decide +kernel
theorem dX10_cell_53 : decode cX10_cell 53 = .ok (.aload_n 0, 1) := by decide +kernel
theorem dX10_cell_54 : decode cX10_cell 54 = .ok (.iload_n 1, 1) := by decide +kernel
theorem dX10_cell_55 : decode cX10_cell 55 = .ok (.iload_n 2, 1) := by decide +kernel
theorem dX10_cell_56 : decode cX10_cell 56 = .ok (.invokevirtual 215, 3) := by decide +kernel
theorem dX10_cell_59 : decode cX10_cell 59 = .ok (.ifCond .le 16, 3) := by decide +kernel
theorem dX10_cell_62 : decode cX10_cell 62 = .ok (.aload_n 0, 1) := by decide +kernel
theorem dX10_cell_63 : decode cX10_cell 63 = .ok (.aload_n 0, 1) := by decide +kernel
theorem dX10_cell_64 : decode cX10_cell 64 = .ok (.iload_n 1, 1) := by decide +kernel
theorem dX10_cell_65 : decode cX10_cell 65 = .ok (.iload_n 2, 1) := by decide +kernel
theorem dX10_cell_66 : decode cX10_cell 66 = .ok (.invokevirtual 215, 3) := by decide +kernel
theorem dX10_cell_69 : decode cX10_cell 69 = .ok (.invokevirtual 218, 3) := by decide +kernel
theorem dX10_cell_72 : decode cX10_cell 72 = .ok (.goto 15, 3) := by decide +kernel
theorem dX10_cell_75 : decode cX10_cell 75 = .ok (.aload_n 0, 1) := by decide +kernel
theorem dX10_cell_76 : decode cX10_cell 76 = .ok (.getfield 55, 3) := by decide +kernel
theorem dX10_cell_79 : decode cX10_cell 79 = .ok (.bipush 60, 2) := by decide +kernel
theorem dX10_cell_81 : decode cX10_cell 81 = .ok (.iload_n 1, 1) := by decide +kernel
theorem dX10_cell_82 : decode cX10_cell 82 = .ok (.imul, 1) := by decide +kernel
theorem dX10_cell_83 : decode cX10_cell 83 = .ok (.iload_n 2, 1) := by decide +kernel
theorem dX10_cell_84 : decode cX10_cell 84 = .ok (.iadd, 1) := by decide +kernel
theorem dX10_cell_85 : decode cX10_cell 85 = .ok (.iaload, 1) := by decide +kernel
theorem dX10_cell_86 : decode cX10_cell 86 = .ok (.i2l, 1) := by decide +kernel
theorem dX10_cell_87 : decode cX10_cell 87 = .ok (.lreturn, 1) := by decide +kernel
theorem dX10_isBeyond_0 : decode cX10_isBeyond 0 = .ok (.iload_n 0, 1) := by decide +kernel
theorem dX10_isBeyond_1 : decode cX10_isBeyond 1 = .ok (.ifCond .lt 19, 3) := by decide +kernel
theorem dX10_isBeyond_4 : decode cX10_isBeyond 4 = .ok (.lload_n 1, 1) := by decide +kernel
theorem dX10_isBeyond_5 : decode cX10_isBeyond 5 = .ok (.lconst 0, 1) := by decide +kernel
theorem dX10_isBeyond_6 : decode cX10_isBeyond 6 = .ok (.lcmp, 1) := by decide +kernel
theorem dX10_isBeyond_7 : decode cX10_isBeyond 7 = .ok (.ifCond .lt 13, 3) := by decide +kernel
theorem dX10_isBeyond_10 : decode cX10_isBeyond 10 = .ok (.iload_n 0, 1) := by decide +kernel
theorem dX10_isBeyond_11 : decode cX10_isBeyond 11 = .ok (.i2l, 1) := by decide +kernel
theorem dX10_isBeyond_12 : decode cX10_isBeyond 12 = .ok (.lload_n 1, 1) := by decide +kernel
theorem dX10_isBeyond_13 : decode cX10_isBeyond 13 = .ok (.ladd, 1) := by decide +kernel
theorem dX10_isBeyond_14 : decode cX10_isBeyond 14 = .ok (.iload_n 3, 1) := by decide +kernel
theorem dX10_isBeyond_15 : decode cX10_isBeyond 15 = .ok (.i2l, 1) := by decide +kernel
theorem dX10_isBeyond_16 : decode cX10_isBeyond 16 = .ok (.lcmp, 1) := by decide +kernel
theorem dX10_isBeyond_17 : decode cX10_isBeyond 17 = .ok (.ifCond .le 7, 3) := by decide +kernel
theorem dX10_isBeyond_20 : decode cX10_isBeyond 20 = .ok (.iconst 1, 1) := by decide +kernel
theorem dX10_isBeyond_21 : decode cX10_isBeyond 21 = .ok (.goto 4, 3) := by decide +kernel
theorem dX10_isBeyond_24 : decode cX10_isBeyond 24 = .ok (.iconst 0, 1) := by decide +kernel
theorem dX10_isBeyond_25 : decode cX10_isBeyond 25 = .ok (.ireturn, 1) := by decide +kernel
theorem dX10_copy_0 : decode cX10_copy 0 = .ok (.iload_n 1, 1) := by decide +kernel
theorem dX10_copy_1 : decode cX10_copy 1 = .ok (.invokestatic 107, 3) := by decide +kernel
theorem dX10_copy_4 : decode cX10_copy 4 = .ok (.ifCond .ne 10, 3) := by decide +kernel
theorem dX10_copy_7 : decode cX10_copy 7 = .ok (.iload_n 3, 1) := by decide +kernel
theorem dX10_copy_8 : decode cX10_copy 8 = .ok (.invokestatic 107, 3) := by decide +kernel
theorem dX10_copy_11 : decode cX10_copy 11 = .ok (.ifCond .eq 9, 3) := by decide +kernel
theorem dX10_copy_14 : decode cX10_copy 14 = .ok (.aload_n 0, 1) := by decide +kernel
theorem dX10_copy_15 : decode cX10_copy 15 = .ok (.iconst (-1), 1) := by decide +kernel
theorem dX10_copy_16 : decode cX10_copy 16 = .ok (.invokevirtual 111, 3) := by decide +kernel
theorem dX10_copy_19 : decode cX10_copy 19 = .ok (.ireturn, 1) := by decide +kernel
theorem dX10_copy_20 : decode cX10_copy 20 = .ok (.aload_n 0, 1) := by decide +kernel
theorem dX10_copy_21 : decode cX10_copy 21 = .ok (.getfield 49, 3) := by decide +kernel
theorem dX10_copy_24 : decode cX10_copy 24 = .ok (.iload_n 1, 1) := by decide +kernel
theorem dX10_copy_25 : decode cX10_copy 25 = .ok (.iaload, 1) := by decide +kernel
theorem dX10_copy_26 : decode cX10_copy 26 = .ok (.ifCond .lt 12, 3) := by decide +kernel
theorem dX10_copy_29 : decode cX10_copy 29 = .ok (.aload_n 0, 1) := by decide +kernel
theorem dX10_copy_30 : decode cX10_copy 30 = .ok (.getfield 49, 3) := by decide +kernel
theorem dX10_copy_33 : decode cX10_copy 33 = .ok (.iload_n 3, 1) := by decide +kernel
theorem dX10_copy_34 : decode cX10_copy 34 = .ok (.iaload, 1) := by decide +kernel
theorem dX10_copy_35 : decode cX10_copy 35 = .ok (.ifCond .ge 9, 3) := by decide +kernel
theorem dX10_copy_38 : decode cX10_copy 38 = .ok (.aload_n 0, 1) := by decide +kernel
theorem dX10_copy_39 : decode cX10_copy 39 = .ok (.iconst 1, 1) := by decide +kernel
theorem dX10_copy_40 : decode cX10_copy 40 = .ok (.invokevirtual 117, 3) := by decide +kernel
theorem dX10_copy_43 : decode cX10_copy 43 = .ok (.ireturn, 1) := by decide +kernel
theorem dX10_copy_44 : decode cX10_copy 44 = .ok (.aload_n 0, 1) := by decide +kernel
theorem dX10_copy_45 : decode cX10_copy 45 = .ok (.getfield 52, 3) := by decide +kernel
theorem dX10_copy_48 : decode cX10_copy 48 = .ok (.iload_n 1, 1) := by decide +kernel
theorem dX10_copy_49 : decode cX10_copy 49 = .ok (.iaload, 1) := by decide +kernel
theorem dX10_copy_50 : decode cX10_copy 50 = .ok (.aload_n 0, 1) := by decide +kernel
theorem dX10_copy_51 : decode cX10_copy 51 = .ok (.getfield 52, 3) := by decide +kernel
theorem dX10_copy_54 : decode cX10_copy 54 = .ok (.iload_n 3, 1) := by decide +kernel
theorem dX10_copy_55 : decode cX10_copy 55 = .ok (.iaload, 1) := by decide +kernel
theorem dX10_copy_56 : decode cX10_copy 56 = .ok (.if_icmp .eq 9, 3) := by decide +kernel
theorem dX10_copy_59 : decode cX10_copy 59 = .ok (.aload_n 0, 1) := by decide +kernel
theorem dX10_copy_60 : decode cX10_copy 60 = .ok (.iconst 2, 1) := by decide +kernel
theorem dX10_copy_61 : decode cX10_copy 61 = .ok (.invokevirtual 117, 3) := by decide +kernel
theorem dX10_copy_64 : decode cX10_copy 64 = .ok (.ireturn, 1) := by decide +kernel
theorem dX10_copy_65 : decode cX10_copy 65 = .ok (.iload_n 2, 1) := by decide +kernel
theorem dX10_copy_66 : decode cX10_copy 66 = .ok (.iload 5, 2) := by decide +kernel
theorem dX10_copy_68 : decode cX10_copy 68 = .ok (.i2l, 1) := by decide +kernel
theorem dX10_copy_69 : decode cX10_copy 69 = .ok (.aload_n 0, 1) := by decide +kernel
theorem dX10_copy_70 : decode cX10_copy 70 = .ok (.getfield 49, 3) := by decide +kernel
theorem dX10_copy_73 : decode cX10_copy 73 = .ok (.iload_n 1, 1) := by decide +kernel
theorem dX10_copy_74 : decode cX10_copy 74 = .ok (.iaload, 1) := by decide +kernel
theorem dX10_copy_75 : decode cX10_copy 75 = .ok (.invokestatic 120, 3) := by decide +kernel
theorem dX10_copy_78 : decode cX10_copy 78 = .ok (.ifCond .ne 20, 3) := by decide +kernel
theorem dX10_copy_81 : decode cX10_copy 81 = .ok (.iload 4, 2) := by decide +kernel
theorem dX10_copy_83 : decode cX10_copy 83 = .ok (.iload 5, 2) := by decide +kernel
theorem dX10_copy_85 : decode cX10_copy 85 = .ok (.i2l, 1) := by decide +kernel
theorem dX10_copy_86 : decode cX10_copy 86 = .ok (.aload_n 0, 1) := by decide +kernel
theorem dX10_copy_87 : decode cX10_copy 87 = .ok (.getfield 49, 3) := by decide +kernel
theorem dX10_copy_90 : decode cX10_copy 90 = .ok (.iload_n 3, 1) := by decide +kernel
theorem dX10_copy_91 : decode cX10_copy 91 = .ok (.iaload, 1) := by decide +kernel
theorem dX10_copy_92 : decode cX10_copy 92 = .ok (.invokestatic 120, 3) := by decide +kernel
theorem dX10_copy_95 : decode cX10_copy 95 = .ok (.ifCond .eq 9, 3) := by decide +kernel
theorem dX10_copy_98 : decode cX10_copy 98 = .ok (.aload_n 0, 1) := by decide +kernel
theorem dX10_copy_99 : decode cX10_copy 99 = .ok (.iconst 3, 1) := by decide +kernel
theorem dX10_copy_100 : decode cX10_copy 100 = .ok (.invokevirtual 117, 3) := by decide +kernel
theorem dX10_copy_103 : decode cX10_copy 103 = .ok (.ireturn, 1) := by decide +kernel
theorem dX10_copy_104 : decode cX10_copy 104 = .ok (.iconst 0, 1) := by decide +kernel
theorem dX10_copy_105 : decode cX10_copy 105 = .ok (.istore 6, 2) := by decide +kernel
theorem dX10_copy_107 : decode cX10_copy 107 = .ok (.iload 6, 2) := by decide +kernel
theorem dX10_copy_109 : decode cX10_copy 109 = .ok (.iload 5, 2) := by decide +kernel
theorem dX10_copy_111 : decode cX10_copy 111 = .ok (.if_icmp .ge 30, 3) := by decide +kernel
theorem dX10_copy_114 : decode cX10_copy 114 = .ok (.aload_n 0, 1) := by decide +kernel
theorem dX10_copy_115 : decode cX10_copy 115 = .ok (.getfield 58, 3) := by decide +kernel
theorem dX10_copy_118 : decode cX10_copy 118 = .ok (.iload 6, 2) := by decide +kernel
theorem dX10_copy_120 : decode cX10_copy 120 = .ok (.aload_n 0, 1) := by decide +kernel
theorem dX10_copy_121 : decode cX10_copy 121 = .ok (.getfield 55, 3) := by decide +kernel
theorem dX10_copy_124 : decode cX10_copy 124 = .ok (.bipush 60, 2) := by decide +kernel
theorem dX10_copy_126 : decode cX10_copy 126 = .ok (.iload_n 1, 1) := by decide +kernel
theorem dX10_copy_127 : decode cX10_copy 127 = .ok (.imul, 1) := by decide +kernel
theorem dX10_copy_128 : decode cX10_copy 128 = .ok (.iload_n 2, 1) := by decide +kernel
theorem dX10_copy_129 : decode cX10_copy 129 = .ok (.iadd, 1) := by decide +kernel
theorem dX10_copy_130 : decode cX10_copy 130 = .ok (.iload 6, 2) := by decide +kernel
theorem dX10_copy_132 : decode cX10_copy 132 = .ok (.iadd, 1) := by decide +kernel
theorem dX10_copy_133 : decode cX10_copy 133 = .ok (.iaload, 1) := by decide +kernel
theorem dX10_copy_134 : decode cX10_copy 134 = .ok (.iastore, 1) := by decide +kernel
theorem dX10_copy_135 : decode cX10_copy 135 = .ok (.iinc 6 1, 3) := by decide +kernel
theorem dX10_copy_138 : decode cX10_copy 138 = .ok (.goto (-31), 3) := by decide +kernel
theorem dX10_copy_141 : decode cX10_copy 141 = .ok (.iconst 0, 1) := by decide +kernel
theorem dX10_copy_142 : decode cX10_copy 142 = .ok (.istore 6, 2) := by decide +kernel
theorem dX10_copy_144 : decode cX10_copy 144 = .ok (.iload 6, 2) := by decide +kernel
theorem dX10_copy_146 : decode cX10_copy 146 = .ok (.iload 5, 2) := by decide +kernel
theorem dX10_copy_148 : decode cX10_copy 148 = .ok (.if_icmp .ge 31, 3) := by decide +kernel
theorem dX10_copy_151 : decode cX10_copy 151 = .ok (.aload_n 0, 1) := by decide +kernel
theorem dX10_copy_152 : decode cX10_copy 152 = .ok (.getfield 55, 3) := by decide +kernel
theorem dX10_copy_155 : decode cX10_copy 155 = .ok (.bipush 60, 2) := by decide +kernel
theorem dX10_copy_157 : decode cX10_copy 157 = .ok (.iload_n 3, 1) := by decide +kernel
theorem dX10_copy_158 : decode cX10_copy 158 = .ok (.imul, 1) := by decide +kernel
theorem dX10_copy_159 : decode cX10_copy 159 = .ok (.iload 4, 2) := by decide +kernel
theorem dX10_copy_161 : decode cX10_copy 161 = .ok (.iadd, 1) := by decide +kernel
theorem dX10_copy_162 : decode cX10_copy 162 = .ok (.iload 6, 2) := by decide +kernel
theorem dX10_copy_164 : decode cX10_copy 164 = .ok (.iadd, 1) := by decide +kernel
theorem dX10_copy_165 : decode cX10_copy 165 = .ok (.aload_n 0, 1) := by decide +kernel
theorem dX10_copy_166 : decode cX10_copy 166 = .ok (.getfield 58, 3) := by decide +kernel
theorem dX10_copy_169 : decode cX10_copy 169 = .ok (.iload 6, 2) := by decide +kernel
theorem dX10_copy_171 : decode cX10_copy 171 = .ok (.iaload, 1) := by decide +kernel
theorem dX10_copy_172 : decode cX10_copy 172 = .ok (.iastore, 1) := by decide +kernel
end
section
theorem dX10_copy_173 : decode cX10_copy 173 = .ok (.iinc 6 1, 3) := by decide +kernel
theorem dX10_copy_176 : decode cX10_copy 176 = .ok (.goto (-32), 3) := by decide +kernel
theorem dX10_copy_179 : decode cX10_copy 179 = .ok (.aload_n 0, 1) := by decide +kernel
theorem dX10_copy_180 : decode cX10_copy 180 = .ok (.iload 5, 2) := by decide +kernel
theorem dX10_copy_182 : decode cX10_copy 182 = .ok (.invokevirtual 111, 3) := by decide +kernel
theorem dX10_copy_185 : decode cX10_copy 185 = .ok (.ireturn, 1) := by decide +kernel
theorem dX10_traced_0 : decode cX10_traced 0 = .ok (.aload_n 0, 1) := by decide +kernel
theorem dX10_traced_1 : decode cX10_traced 1 = .ok (.bipush 31, 2) := by decide +kernel
theorem dX10_traced_3 : decode cX10_traced 3 = .ok (.aload_n 0, 1) := by decide +kernel
theorem dX10_traced_4 : decode cX10_traced 4 = .ok (.getfield 222, 3) := by decide +kernel
theorem dX10_traced_7 : decode cX10_traced 7 = .ok (.imul, 1) := by decide +kernel
theorem dX10_traced_8 : decode cX10_traced 8 = .ok (.iload_n 1, 1) := by decide +kernel
theorem dX10_traced_9 : decode cX10_traced 9 = .ok (.iadd, 1) := by decide +kernel
theorem dX10_traced_10 : decode cX10_traced 10 = .ok (.putfield 222, 3) := by decide +kernel
theorem dX10_traced_13 : decode cX10_traced 13 = .ok (.return_, 1) := by decide +kernel
theorem dX10_tell_0 : decode cX10_tell 0 = .ok (.aload_n 0, 1) := by decide +kernel
theorem dX10_tell_1 : decode cX10_tell 1 = .ok (.iload_n 1, 1) := by decide +kernel
theorem dX10_tell_2 : decode cX10_tell 2 = .ok (.invokevirtual 133, 3) := by decide +kernel
theorem dX10_tell_5 : decode cX10_tell 5 = .ok (.ifCond .eq 5, 3) := by decide +kernel
theorem dX10_tell_8 : decode cX10_tell 8 = .ok (.iconst (-1), 1) := by decide +kernel
theorem dX10_tell_9 : decode cX10_tell 9 = .ok (.ireturn, 1) := by decide +kernel
theorem dX10_tell_10 : decode cX10_tell 10 = .ok (.aload_n 0, 1) := by decide +kernel
theorem dX10_tell_11 : decode cX10_tell 11 = .ok (.getfield 13, 3) := by decide +kernel
theorem dX10_tell_14 : decode cX10_tell 14 = .ok (.iload_n 1, 1) := by decide +kernel
theorem dX10_tell_15 : decode cX10_tell 15 = .ok (.iaload, 1) := by decide +kernel
theorem dX10_tell_16 : decode cX10_tell 16 = .ok (.istore_n 2, 1) := by decide +kernel
theorem dX10_tell_17 : decode cX10_tell 17 = .ok (.iload_n 2, 1) := by decide +kernel
theorem dX10_tell_18 : decode cX10_tell 18 = .ok (.iconst 2, 1) := by decide +kernel
theorem dX10_tell_19 : decode cX10_tell 19 = .ok (.if_icmp .ne 8, 3) := by decide +kernel
theorem dX10_tell_22 : decode cX10_tell 22 = .ok (.aload_n 0, 1) := by decide +kernel
theorem dX10_tell_23 : decode cX10_tell 23 = .ok (.iconst 3, 1) := by decide +kernel
theorem dX10_tell_24 : decode cX10_tell 24 = .ok (.invokevirtual 225, 3) := by decide +kernel
theorem dX10_tell_27 : decode cX10_tell 27 = .ok (.iload_n 2, 1) := by decide +kernel
theorem dX10_tell_28 : decode cX10_tell 28 = .ok (.ifCond .le 8, 3) := by decide +kernel
theorem dX10_tell_31 : decode cX10_tell 31 = .ok (.aload_n 0, 1) := by decide +kernel
theorem dX10_tell_32 : decode cX10_tell 32 = .ok (.iconst 2, 1) := by decide +kernel
theorem dX10_tell_33 : decode cX10_tell 33 = .ok (.invokevirtual 225, 3) := by decide +kernel
theorem dX10_tell_36 : decode cX10_tell 36 = .ok (.aload_n 0, 1) := by decide +kernel
theorem dX10_tell_37 : decode cX10_tell 37 = .ok (.iconst 1, 1) := by decide +kernel
theorem dX10_tell_38 : decode cX10_tell 38 = .ok (.invokevirtual 225, 3) := by decide +kernel
theorem dX10_tell_41 : decode cX10_tell 41 = .ok (.iload_n 2, 1) := by decide +kernel
theorem dX10_tell_42 : decode cX10_tell 42 = .ok (.iconst 2, 1) := by decide +kernel
theorem dX10_tell_43 : decode cX10_tell 43 = .ok (.if_icmp .ne 8, 3) := by decide +kernel
theorem dX10_tell_46 : decode cX10_tell 46 = .ok (.aload_n 0, 1) := by decide +kernel
theorem dX10_tell_47 : decode cX10_tell 47 = .ok (.iconst 1, 1) := by decide +kernel
theorem dX10_tell_48 : decode cX10_tell 48 = .ok (.invokevirtual 225, 3) := by decide +kernel
theorem dX10_tell_51 : decode cX10_tell 51 = .ok (.aload_n 0, 1) := by decide +kernel
theorem dX10_tell_52 : decode cX10_tell 52 = .ok (.getfield 16, 3) := by decide +kernel
theorem dX10_tell_55 : decode cX10_tell 55 = .ok (.iload_n 1, 1) := by decide +kernel
theorem dX10_tell_56 : decode cX10_tell 56 = .ok (.iaload, 1) := by decide +kernel
theorem dX10_tell_57 : decode cX10_tell 57 = .ok (.istore_n 3, 1) := by decide +kernel
theorem dX10_tell_58 : decode cX10_tell 58 = .ok (.iload_n 2, 1) := by decide +kernel
theorem dX10_tell_59 : decode cX10_tell 59 = .ok (.ifCond .ne 7, 3) := by decide +kernel
theorem dX10_tell_62 : decode cX10_tell 62 = .ok (.iload_n 3, 1) := by decide +kernel
theorem dX10_tell_63 : decode cX10_tell 63 = .ok (.goto 21, 3) := by decide +kernel
theorem dX10_tell_66 : decode cX10_tell 66 = .ok (.iload_n 2, 1) := by decide +kernel
theorem dX10_tell_67 : decode cX10_tell 67 = .ok (.iconst 1, 1) := by decide +kernel
theorem dX10_tell_68 : decode cX10_tell 68 = .ok (.if_icmp .ne 10, 3) := by decide +kernel
theorem dX10_tell_71 : decode cX10_tell 71 = .ok (.iload_n 3, 1) := by decide +kernel
theorem dX10_tell_72 : decode cX10_tell 72 = .ok (.bipush 100, 2) := by decide +kernel
theorem dX10_tell_74 : decode cX10_tell 74 = .ok (.iadd, 1) := by decide +kernel
theorem dX10_tell_75 : decode cX10_tell 75 = .ok (.goto 9, 3) := by decide +kernel
theorem dX10_tell_78 : decode cX10_tell 78 = .ok (.iconst 2, 1) := by decide +kernel
theorem dX10_tell_79 : decode cX10_tell 79 = .ok (.iload_n 3, 1) := by decide +kernel
theorem dX10_tell_80 : decode cX10_tell 80 = .ok (.imul, 1) := by decide +kernel
theorem dX10_tell_81 : decode cX10_tell 81 = .ok (.bipush 100, 2) := by decide +kernel
theorem dX10_tell_83 : decode cX10_tell 83 = .ok (.iadd, 1) := by decide +kernel
theorem dX10_tell_84 : decode cX10_tell 84 = .ok (.ireturn, 1) := by decide +kernel
theorem dX10_lean_0 : decode cX10_lean 0 = .ok (.aload_n 0, 1) := by decide +kernel
theorem dX10_lean_1 : decode cX10_lean 1 = .ok (.iload_n 1, 1) := by decide +kernel
theorem dX10_lean_2 : decode cX10_lean 2 = .ok (.invokevirtual 133, 3) := by decide +kernel
theorem dX10_lean_5 : decode cX10_lean 5 = .ok (.ifCond .eq 5, 3) := by decide +kernel
theorem dX10_lean_8 : decode cX10_lean 8 = .ok (.iconst (-1), 1) := by decide +kernel
theorem dX10_lean_9 : decode cX10_lean 9 = .ok (.ireturn, 1) := by decide +kernel
theorem dX10_lean_10 : decode cX10_lean 10 = .ok (.aload_n 0, 1) := by decide +kernel
theorem dX10_lean_11 : decode cX10_lean 11 = .ok (.aload_n 0, 1) := by decide +kernel
theorem dX10_lean_12 : decode cX10_lean 12 = .ok (.getfield 13, 3) := by decide +kernel
theorem dX10_lean_15 : decode cX10_lean 15 = .ok (.iload_n 1, 1) := by decide +kernel
theorem dX10_lean_16 : decode cX10_lean 16 = .ok (.iaload, 1) := by decide +kernel
theorem dX10_lean_17 : decode cX10_lean 17 = .ok (.iconst 2, 1) := by decide +kernel
theorem dX10_lean_18 : decode cX10_lean 18 = .ok (.if_icmp .ne 7, 3) := by decide +kernel
theorem dX10_lean_21 : decode cX10_lean 21 = .ok (.iconst 5, 1) := by decide +kernel
theorem dX10_lean_22 : decode cX10_lean 22 = .ok (.goto 4, 3) := by decide +kernel
theorem dX10_lean_25 : decode cX10_lean 25 = .ok (.iconst 4, 1) := by decide +kernel
theorem dX10_lean_26 : decode cX10_lean 26 = .ok (.invokevirtual 225, 3) := by decide +kernel
theorem dX10_lean_29 : decode cX10_lean 29 = .ok (.aload_n 0, 1) := by decide +kernel
theorem dX10_lean_30 : decode cX10_lean 30 = .ok (.getfield 13, 3) := by decide +kernel
theorem dX10_lean_33 : decode cX10_lean 33 = .ok (.iload_n 1, 1) := by decide +kernel
theorem dX10_lean_34 : decode cX10_lean 34 = .ok (.iaload, 1) := by decide +kernel
theorem dX10_lean_35 : decode cX10_lean 35 = .ok (.iconst 2, 1) := by decide +kernel
theorem dX10_lean_36 : decode cX10_lean 36 = .ok (.if_icmp .ne 8, 3) := by decide +kernel
theorem dX10_lean_39 : decode cX10_lean 39 = .ok (.bipush 20, 2) := by decide +kernel
theorem dX10_lean_41 : decode cX10_lean 41 = .ok (.goto 4, 3) := by decide +kernel
theorem dX10_lean_44 : decode cX10_lean 44 = .ok (.iload_n 1, 1) := by decide +kernel
theorem dX10_lean_45 : decode cX10_lean 45 = .ok (.ireturn, 1) := by decide +kernel
theorem dX10_as_0 : decode cX10_as 0 = .ok (.aload_n 0, 1) := by decide +kernel
theorem dX10_as_1 : decode cX10_as 1 = .ok (.iload_n 1, 1) := by decide +kernel
theorem dX10_as_2 : decode cX10_as 2 = .ok (.invokevirtual 133, 3) := by decide +kernel
theorem dX10_as_5 : decode cX10_as 5 = .ok (.ifCond .eq 9, 3) := by decide +kernel
theorem dX10_as_8 : decode cX10_as 8 = .ok (.aload_n 0, 1) := by decide +kernel
theorem dX10_as_9 : decode cX10_as 9 = .ok (.iconst (-1), 1) := by decide +kernel
theorem dX10_as_10 : decode cX10_as 10 = .ok (.invokevirtual 111, 3) := by decide +kernel
theorem dX10_as_13 : decode cX10_as 13 = .ok (.ireturn, 1) := by decide +kernel
theorem dX10_as_14 : decode cX10_as 14 = .ok (.iload_n 2, 1) := by decide +kernel
theorem dX10_as_15 : decode cX10_as 15 = .ok (.i2l, 1) := by decide +kernel
theorem dX10_as_16 : decode cX10_as 16 = .ok (.lconst 0, 1) := by decide +kernel
theorem dX10_as_17 : decode cX10_as 17 = .ok (.ldc2_w 115, 3) := by decide +kernel
theorem dX10_as_20 : decode cX10_as 20 = .ok (.invokestatic 74, 3) := by decide +kernel
theorem dX10_as_23 : decode cX10_as 23 = .ok (.ifCond .ne 10, 3) := by decide +kernel
theorem dX10_as_26 : decode cX10_as 26 = .ok (.aload_n 0, 1) := by decide +kernel
theorem dX10_as_27 : decode cX10_as 27 = .ok (.bipush (-2), 2) := by decide +kernel
theorem dX10_as_29 : decode cX10_as 29 = .ok (.invokevirtual 111, 3) := by decide +kernel
theorem dX10_as_32 : decode cX10_as 32 = .ok (.ireturn, 1) := by decide +kernel
theorem dX10_as_33 : decode cX10_as 33 = .ok (.aload_n 0, 1) := by decide +kernel
theorem dX10_as_34 : decode cX10_as 34 = .ok (.getfield 13, 3) := by decide +kernel
theorem dX10_as_37 : decode cX10_as 37 = .ok (.iload_n 1, 1) := by decide +kernel
theorem dX10_as_38 : decode cX10_as 38 = .ok (.iaload, 1) := by decide +kernel
theorem dX10_as_39 : decode cX10_as 39 = .ok (.iload_n 2, 1) := by decide +kernel
theorem dX10_as_40 : decode cX10_as 40 = .ok (.if_icmp .lt 11, 3) := by decide +kernel
theorem dX10_as_43 : decode cX10_as 43 = .ok (.aload_n 0, 1) := by decide +kernel
theorem dX10_as_44 : decode cX10_as 44 = .ok (.iconst 1, 1) := by decide +kernel
theorem dX10_as_45 : decode cX10_as 45 = .ok (.invokevirtual 111, 3) := by decide +kernel
theorem dX10_as_48 : decode cX10_as 48 = .ok (.goto 8, 3) := by decide +kernel
theorem dX10_as_51 : decode cX10_as 51 = .ok (.aload_n 0, 1) := by decide +kernel
theorem dX10_as_52 : decode cX10_as 52 = .ok (.iconst 2, 1) := by decide +kernel
theorem dX10_as_53 : decode cX10_as 53 = .ok (.invokevirtual 117, 3) := by decide +kernel
theorem dX10_as_56 : decode cX10_as 56 = .ok (.ireturn, 1) := by decide +kernel
theorem dX10_trace_0 : decode cX10_trace 0 = .ok (.aload_n 0, 1) := by decide +kernel
theorem dX10_trace_1 : decode cX10_trace 1 = .ok (.getfield 222, 3) := by decide +kernel
theorem dX10_trace_4 : decode cX10_trace 4 = .ok (.ireturn, 1) := by decide +kernel
theorem dX10_fault_0 : decode cX10_fault 0 = .ok (.aload_n 0, 1) := by decide +kernel
theorem dX10_fault_1 : decode cX10_fault 1 = .ok (.getfield 63, 3) := by decide +kernel
theorem dX10_fault_4 : decode cX10_fault 4 = .ok (.ireturn, 1) := by decide +kernel
theorem dX10_many_0 : decode cX10_many 0 = .ok (.iload_n 1, 1) := by decide +kernel
theorem dX10_many_1 : decode cX10_many 1 = .ok (.tableswitch 42 0 2 #[27, 32, 37], 27) := by decide +kernel
theorem dX10_many_28 : decode cX10_many 28 = .ok (.aload_n 0, 1) := by decide +kernel
theorem dX10_many_29 : decode cX10_many 29 = .ok (.getfield 71, 3) := by decide +kernel
theorem dX10_many_32 : decode cX10_many 32 = .ok (.ireturn, 1) := by decide +kernel
theorem dX10_many_33 : decode cX10_many 33 = .ok (.aload_n 0, 1) := by decide +kernel
theorem dX10_many_34 : decode cX10_many 34 = .ok (.invokevirtual 78, 3) := by decide +kernel
theorem dX10_many_37 : decode cX10_many 37 = .ok (.ireturn, 1) := by decide +kernel
theorem dX10_many_38 : decode cX10_many 38 = .ok (.aload_n 0, 1) := by decide +kernel
theorem dX10_many_39 : decode cX10_many 39 = .ok (.getfield 127, 3) := by decide +kernel
theorem dX10_many_42 : decode cX10_many 42 = .ok (.ireturn, 1) := by decide +kernel
theorem dX10_many_43 : decode cX10_many 43 = .ok (.bipush (-2), 2) := by decide +kernel
theorem dX10_many_45 : decode cX10_many 45 = .ok (.ireturn, 1) := by decide +kernel
theorem dJ9_abs_0f7a4_0 : decode cJ9_abs_0f7a4 0 = .ok (.iload_n 0, 1) := by decide +kernel
theorem dJ9_abs_0f7a4_1 : decode cJ9_abs_0f7a4 1 = .ok (.ifCond .ge 8, 3) := by decide +kernel
theorem dJ9_abs_0f7a4_4 : decode cJ9_abs_0f7a4 4 = .ok (.iload_n 0, 1) := by decide +kernel
theorem dJ9_abs_0f7a4_5 : decode cJ9_abs_0f7a4 5 = .ok (.ineg, 1) := by decide +kernel
theorem dJ9_abs_0f7a4_6 : decode cJ9_abs_0f7a4 6 = .ok (.goto 4, 3) := by decide +kernel
theorem dJ9_abs_0f7a4_9 : decode cJ9_abs_0f7a4 9 = .ok (.iload_n 0, 1) := by decide +kernel
theorem dJ9_abs_0f7a4_10 : decode cJ9_abs_0f7a4 10 = .ok (.ireturn, 1) := by decide +kernel
theorem dJ9_max_7cf53_0 : decode cJ9_max_7cf53 0 = .ok (.iload_n 0, 1) := by decide +kernel
theorem dJ9_max_7cf53_1 : decode cJ9_max_7cf53 1 = .ok (.iload_n 1, 1) := by decide +kernel
theorem dJ9_max_7cf53_2 : decode cJ9_max_7cf53 2 = .ok (.if_icmp .lt 7, 3) := by decide +kernel
theorem dJ9_max_7cf53_5 : decode cJ9_max_7cf53 5 = .ok (.iload_n 0, 1) := by decide +kernel
theorem dJ9_max_7cf53_6 : decode cJ9_max_7cf53 6 = .ok (.goto 4, 3) := by decide +kernel
theorem dJ9_max_7cf53_9 : decode cJ9_max_7cf53 9 = .ok (.iload_n 1, 1) := by decide +kernel
theorem dJ9_max_7cf53_10 : decode cJ9_max_7cf53 10 = .ok (.ireturn, 1) := by decide +kernel
theorem dJ9_min_7cf53_0 : decode cJ9_min_7cf53 0 = .ok (.iload_n 0, 1) := by decide +kernel
theorem dJ9_min_7cf53_1 : decode cJ9_min_7cf53 1 = .ok (.iload_n 1, 1) := by decide +kernel
theorem dJ9_min_7cf53_2 : decode cJ9_min_7cf53 2 = .ok (.if_icmp .gt 7, 3) := by decide +kernel
theorem dJ9_min_7cf53_5 : decode cJ9_min_7cf53 5 = .ok (.iload_n 0, 1) := by decide +kernel
theorem dJ9_min_7cf53_6 : decode cJ9_min_7cf53 6 = .ok (.goto 4, 3) := by decide +kernel
theorem dJ9_min_7cf53_9 : decode cJ9_min_7cf53 9 = .ok (.iload_n 1, 1) := by decide +kernel
theorem dJ9_min_7cf53_10 : decode cJ9_min_7cf53 10 = .ok (.ireturn, 1) := by decide +kernel
theorem dJ7_fill_53178_0 : decode cJ7_fill_53178 0 = .ok (.iconst 0, 1) := by decide +kernel
theorem dJ7_fill_53178_1 : decode cJ7_fill_53178 1 = .ok (.istore_n 2, 1) := by decide +kernel
theorem dJ7_fill_53178_2 : decode cJ7_fill_53178 2 = .ok (.aload_n 0, 1) := by decide +kernel
theorem dJ7_fill_53178_3 : decode cJ7_fill_53178 3 = .ok (.arraylength, 1) := by decide +kernel
theorem dJ7_fill_53178_4 : decode cJ7_fill_53178 4 = .ok (.istore_n 3, 1) := by decide +kernel
theorem dJ7_fill_53178_5 : decode cJ7_fill_53178 5 = .ok (.iload_n 2, 1) := by decide +kernel
theorem dJ7_fill_53178_6 : decode cJ7_fill_53178 6 = .ok (.iload_n 3, 1) := by decide +kernel
theorem dJ7_fill_53178_7 : decode cJ7_fill_53178 7 = .ok (.if_icmp .ge 13, 3) := by decide +kernel
theorem dJ7_fill_53178_10 : decode cJ7_fill_53178 10 = .ok (.aload_n 0, 1) := by decide +kernel
theorem dJ7_fill_53178_11 : decode cJ7_fill_53178 11 = .ok (.iload_n 2, 1) := by decide +kernel
theorem dJ7_fill_53178_12 : decode cJ7_fill_53178 12 = .ok (.iload_n 1, 1) := by decide +kernel
theorem dJ7_fill_53178_13 : decode cJ7_fill_53178 13 = .ok (.iastore, 1) := by decide +kernel
theorem dJ7_fill_53178_14 : decode cJ7_fill_53178 14 = .ok (.iinc 2 1, 3) := by decide +kernel
theorem dJ7_fill_53178_17 : decode cJ7_fill_53178 17 = .ok (.goto (-12), 3) := by decide +kernel
theorem dJ7_fill_53178_20 : decode cJ7_fill_53178 20 = .ok (.return_, 1) := by decide +kernel
theorem dL_law_0 : decode cL_law 0 = .ok (.new 7, 3) := by decide +kernel
theorem dL_law_3 : decode cL_law 3 = .ok (.dup, 1) := by decide +kernel
theorem dL_law_4 : decode cL_law 4 = .ok (.invokespecial 9, 3) := by decide +kernel
theorem dL_law_7 : decode cL_law 7 = .ok (.astore_n 1, 1) := by decide +kernel
theorem dL_law_8 : decode cL_law 8 = .ok (.new 10, 3) := by decide +kernel
theorem dL_law_11 : decode cL_law 11 = .ok (.dup, 1) := by decide +kernel
theorem dL_law_12 : decode cL_law 12 = .ok (.invokespecial 12, 3) := by decide +kernel
theorem dL_law_15 : decode cL_law 15 = .ok (.astore_n 2, 1) := by decide +kernel
theorem dL_law_16 : decode cL_law 16 = .ok (.iconst 0, 1) := by decide +kernel
theorem dL_law_17 : decode cL_law 17 = .ok (.istore_n 3, 1) := by decide +kernel
theorem dL_law_18 : decode cL_law 18 = .ok (.iload_n 3, 1) := by decide +kernel
theorem dL_law_19 : decode cL_law 19 = .ok (.aload_n 0, 1) := by decide +kernel
theorem dL_law_20 : decode cL_law 20 = .ok (.arraylength, 1) := by decide +kernel
theorem dL_law_21 : decode cL_law 21 = .ok (.bipush 6, 2) := by decide +kernel
theorem dL_law_23 : decode cL_law 23 = .ok (.isub, 1) := by decide +kernel
theorem dL_law_24 : decode cL_law 24 = .ok (.if_icmp .gt 1222, 3) := by decide +kernel
theorem dL_law_27 : decode cL_law 27 = .ok (.aload_n 0, 1) := by decide +kernel
theorem dL_law_28 : decode cL_law 28 = .ok (.iload_n 3, 1) := by decide +kernel
theorem dL_law_29 : decode cL_law 29 = .ok (.iaload, 1) := by decide +kernel
theorem dL_law_30 : decode cL_law 30 = .ok (.bipush 31, 2) := by decide +kernel
theorem dL_law_32 : decode cL_law 32 = .ok (.iand, 1) := by decide +kernel
theorem dL_law_33 : decode cL_law 33 = .ok (.tableswitch 1207 0 29 #[135, 188, 211, 244, 297, 340, 383, 426, 459, 482, 515, 568, 621, 644, 687, 740, 763, 796, 829, 863, 906, 929, 972, 1016, 1079, 1102, 1125, 1158, 1171, 1184], 135) := by decide +kernel
theorem dL_law_168 : decode cL_law 168 = .ok (.aload_n 1, 1) := by decide +kernel
theorem dL_law_169 : decode cL_law 169 = .ok (.aload_n 0, 1) := by decide +kernel
theorem dL_law_170 : decode cL_law 170 = .ok (.iload_n 3, 1) := by decide +kernel
theorem dL_law_171 : decode cL_law 171 = .ok (.iconst 1, 1) := by decide +kernel
theorem dL_law_172 : decode cL_law 172 = .ok (.iadd, 1) := by decide +kernel
theorem dL_law_173 : decode cL_law 173 = .ok (.iaload, 1) := by decide +kernel
theorem dL_law_174 : decode cL_law 174 = .ok (.aload_n 0, 1) := by decide +kernel
theorem dL_law_175 : decode cL_law 175 = .ok (.iload_n 3, 1) := by decide +kernel
theorem dL_law_176 : decode cL_law 176 = .ok (.iconst 2, 1) := by decide +kernel
theorem dL_law_177 : decode cL_law 177 = .ok (.iadd, 1) := by decide +kernel
theorem dL_law_178 : decode cL_law 178 = .ok (.iaload, 1) := by decide +kernel
theorem dL_law_179 : decode cL_law 179 = .ok (.aload_n 0, 1) := by decide +kernel
theorem dL_law_180 : decode cL_law 180 = .ok (.iload_n 3, 1) := by decide +kernel
theorem dL_law_181 : decode cL_law 181 = .ok (.iconst 3, 1) := by decide +kernel
theorem dL_law_182 : decode cL_law 182 = .ok (.iadd, 1) := by decide +kernel
theorem dL_law_183 : decode cL_law 183 = .ok (.iaload, 1) := by decide +kernel
theorem dL_law_184 : decode cL_law 184 = .ok (.aload_n 0, 1) := by decide +kernel
theorem dL_law_185 : decode cL_law 185 = .ok (.iload_n 3, 1) := by decide +kernel
theorem dL_law_186 : decode cL_law 186 = .ok (.iconst 4, 1) := by decide +kernel
theorem dL_law_187 : decode cL_law 187 = .ok (.iadd, 1) := by decide +kernel
theorem dL_law_188 : decode cL_law 188 = .ok (.iaload, 1) := by decide +kernel
theorem dL_law_189 : decode cL_law 189 = .ok (.invokevirtual 13, 3) := by decide +kernel
theorem dL_law_192 : decode cL_law 192 = .ok (.aload_n 2, 1) := by decide +kernel
theorem dL_law_193 : decode cL_law 193 = .ok (.aload_n 0, 1) := by decide +kernel
theorem dL_law_194 : decode cL_law 194 = .ok (.iload_n 3, 1) := by decide +kernel
theorem dL_law_195 : decode cL_law 195 = .ok (.iconst 1, 1) := by decide +kernel
theorem dL_law_196 : decode cL_law 196 = .ok (.iadd, 1) := by decide +kernel
theorem dL_law_197 : decode cL_law 197 = .ok (.iaload, 1) := by decide +kernel
theorem dL_law_198 : decode cL_law 198 = .ok (.aload_n 0, 1) := by decide +kernel
theorem dL_law_199 : decode cL_law 199 = .ok (.iload_n 3, 1) := by decide +kernel
theorem dL_law_200 : decode cL_law 200 = .ok (.iconst 2, 1) := by decide +kernel
theorem dL_law_201 : decode cL_law 201 = .ok (.iadd, 1) := by decide +kernel
theorem dL_law_202 : decode cL_law 202 = .ok (.iaload, 1) := by decide +kernel
theorem dL_law_203 : decode cL_law 203 = .ok (.aload_n 0, 1) := by decide +kernel
theorem dL_law_204 : decode cL_law 204 = .ok (.iload_n 3, 1) := by decide +kernel
theorem dL_law_205 : decode cL_law 205 = .ok (.iconst 3, 1) := by decide +kernel
theorem dL_law_206 : decode cL_law 206 = .ok (.iadd, 1) := by decide +kernel
theorem dL_law_207 : decode cL_law 207 = .ok (.iaload, 1) := by decide +kernel
theorem dL_law_208 : decode cL_law 208 = .ok (.aload_n 0, 1) := by decide +kernel
theorem dL_law_209 : decode cL_law 209 = .ok (.iload_n 3, 1) := by decide +kernel
theorem dL_law_210 : decode cL_law 210 = .ok (.iconst 4, 1) := by decide +kernel
theorem dL_law_211 : decode cL_law 211 = .ok (.iadd, 1) := by decide +kernel
theorem dL_law_212 : decode cL_law 212 = .ok (.iaload, 1) := by decide +kernel
theorem dL_law_213 : decode cL_law 213 = .ok (.invokevirtual 17, 3) := by decide +kernel
theorem dL_law_216 : decode cL_law 216 = .ok (.if_icmp .eq 1024, 3) := by decide +kernel
theorem dL_law_219 : decode cL_law 219 = .ok (.iconst 0, 1) := by decide +kernel
theorem dL_law_220 : decode cL_law 220 = .ok (.ireturn, 1) := by decide +kernel
theorem dL_law_221 : decode cL_law 221 = .ok (.aload_n 1, 1) := by decide +kernel
theorem dL_law_222 : decode cL_law 222 = .ok (.aload_n 0, 1) := by decide +kernel
theorem dL_law_223 : decode cL_law 223 = .ok (.iload_n 3, 1) := by decide +kernel
theorem dL_law_224 : decode cL_law 224 = .ok (.iconst 1, 1) := by decide +kernel
theorem dL_law_225 : decode cL_law 225 = .ok (.iadd, 1) := by decide +kernel
theorem dL_law_226 : decode cL_law 226 = .ok (.iaload, 1) := by decide +kernel
theorem dL_law_227 : decode cL_law 227 = .ok (.invokevirtual 18, 3) := by decide +kernel
theorem dL_law_230 : decode cL_law 230 = .ok (.aload_n 2, 1) := by decide +kernel
theorem dL_law_231 : decode cL_law 231 = .ok (.aload_n 0, 1) := by decide +kernel
theorem dL_law_232 : decode cL_law 232 = .ok (.iload_n 3, 1) := by decide +kernel
theorem dL_law_233 : decode cL_law 233 = .ok (.iconst 1, 1) := by decide +kernel
theorem dL_law_234 : decode cL_law 234 = .ok (.iadd, 1) := by decide +kernel
theorem dL_law_235 : decode cL_law 235 = .ok (.iaload, 1) := by decide +kernel
theorem dL_law_236 : decode cL_law 236 = .ok (.invokevirtual 22, 3) := by decide +kernel
theorem dL_law_239 : decode cL_law 239 = .ok (.if_icmp .eq 1001, 3) := by decide +kernel
theorem dL_law_242 : decode cL_law 242 = .ok (.iconst 0, 1) := by decide +kernel
theorem dL_law_243 : decode cL_law 243 = .ok (.ireturn, 1) := by decide +kernel
theorem dL_law_244 : decode cL_law 244 = .ok (.aload_n 1, 1) := by decide +kernel
theorem dL_law_245 : decode cL_law 245 = .ok (.aload_n 0, 1) := by decide +kernel
theorem dL_law_246 : decode cL_law 246 = .ok (.iload_n 3, 1) := by decide +kernel
theorem dL_law_247 : decode cL_law 247 = .ok (.iconst 1, 1) := by decide +kernel
theorem dL_law_248 : decode cL_law 248 = .ok (.iadd, 1) := by decide +kernel
theorem dL_law_249 : decode cL_law 249 = .ok (.iaload, 1) := by decide +kernel
theorem dL_law_250 : decode cL_law 250 = .ok (.aload_n 0, 1) := by decide +kernel
theorem dL_law_251 : decode cL_law 251 = .ok (.iload_n 3, 1) := by decide +kernel
theorem dL_law_252 : decode cL_law 252 = .ok (.iconst 2, 1) := by decide +kernel
theorem dL_law_253 : decode cL_law 253 = .ok (.iadd, 1) := by decide +kernel
theorem dL_law_254 : decode cL_law 254 = .ok (.iaload, 1) := by decide +kernel
theorem dL_law_255 : decode cL_law 255 = .ok (.invokevirtual 23, 3) := by decide +kernel
theorem dL_law_258 : decode cL_law 258 = .ok (.aload_n 2, 1) := by decide +kernel
theorem dL_law_259 : decode cL_law 259 = .ok (.aload_n 0, 1) := by decide +kernel
theorem dL_law_260 : decode cL_law 260 = .ok (.iload_n 3, 1) := by decide +kernel
theorem dL_law_261 : decode cL_law 261 = .ok (.iconst 1, 1) := by decide +kernel
theorem dL_law_262 : decode cL_law 262 = .ok (.iadd, 1) := by decide +kernel
theorem dL_law_263 : decode cL_law 263 = .ok (.iaload, 1) := by decide +kernel
theorem dL_law_264 : decode cL_law 264 = .ok (.aload_n 0, 1) := by decide +kernel
theorem dL_law_265 : decode cL_law 265 = .ok (.iload_n 3, 1) := by decide +kernel
theorem dL_law_266 : decode cL_law 266 = .ok (.iconst 2, 1) := by decide +kernel
theorem dL_law_267 : decode cL_law 267 = .ok (.iadd, 1) := by decide +kernel
theorem dL_law_268 : decode cL_law 268 = .ok (.iaload, 1) := by decide +kernel
theorem dL_law_269 : decode cL_law 269 = .ok (.invokevirtual 27, 3) := by decide +kernel
theorem dL_law_272 : decode cL_law 272 = .ok (.if_icmp .eq 968, 3) := by decide +kernel
theorem dL_law_275 : decode cL_law 275 = .ok (.iconst 0, 1) := by decide +kernel
theorem dL_law_276 : decode cL_law 276 = .ok (.ireturn, 1) := by decide +kernel
theorem dL_law_277 : decode cL_law 277 = .ok (.aload_n 1, 1) := by decide +kernel
theorem dL_law_278 : decode cL_law 278 = .ok (.aload_n 0, 1) := by decide +kernel
theorem dL_law_279 : decode cL_law 279 = .ok (.iload_n 3, 1) := by decide +kernel
theorem dL_law_280 : decode cL_law 280 = .ok (.iconst 1, 1) := by decide +kernel
theorem dL_law_281 : decode cL_law 281 = .ok (.iadd, 1) := by decide +kernel
theorem dL_law_282 : decode cL_law 282 = .ok (.iaload, 1) := by decide +kernel
theorem dL_law_283 : decode cL_law 283 = .ok (.aload_n 0, 1) := by decide +kernel
theorem dL_law_284 : decode cL_law 284 = .ok (.iload_n 3, 1) := by decide +kernel
theorem dL_law_285 : decode cL_law 285 = .ok (.iconst 2, 1) := by decide +kernel
theorem dL_law_286 : decode cL_law 286 = .ok (.iadd, 1) := by decide +kernel
theorem dL_law_287 : decode cL_law 287 = .ok (.iaload, 1) := by decide +kernel
theorem dL_law_288 : decode cL_law 288 = .ok (.aload_n 0, 1) := by decide +kernel
theorem dL_law_289 : decode cL_law 289 = .ok (.iload_n 3, 1) := by decide +kernel
theorem dL_law_290 : decode cL_law 290 = .ok (.iconst 3, 1) := by decide +kernel
theorem dL_law_291 : decode cL_law 291 = .ok (.iadd, 1) := by decide +kernel
theorem dL_law_292 : decode cL_law 292 = .ok (.iaload, 1) := by decide +kernel
theorem dL_law_293 : decode cL_law 293 = .ok (.aload_n 0, 1) := by decide +kernel
theorem dL_law_294 : decode cL_law 294 = .ok (.iload_n 3, 1) := by decide +kernel
theorem dL_law_295 : decode cL_law 295 = .ok (.iconst 4, 1) := by decide +kernel
theorem dL_law_296 : decode cL_law 296 = .ok (.iadd, 1) := by decide +kernel
theorem dL_law_297 : decode cL_law 297 = .ok (.iaload, 1) := by decide +kernel
theorem dL_law_298 : decode cL_law 298 = .ok (.invokevirtual 28, 3) := by decide +kernel
theorem dL_law_301 : decode cL_law 301 = .ok (.aload_n 2, 1) := by decide +kernel
theorem dL_law_302 : decode cL_law 302 = .ok (.aload_n 0, 1) := by decide +kernel
theorem dL_law_303 : decode cL_law 303 = .ok (.iload_n 3, 1) := by decide +kernel
theorem dL_law_304 : decode cL_law 304 = .ok (.iconst 1, 1) := by decide +kernel
theorem dL_law_305 : decode cL_law 305 = .ok (.iadd, 1) := by decide +kernel
theorem dL_law_306 : decode cL_law 306 = .ok (.iaload, 1) := by decide +kernel
theorem dL_law_307 : decode cL_law 307 = .ok (.aload_n 0, 1) := by decide +kernel
theorem dL_law_308 : decode cL_law 308 = .ok (.iload_n 3, 1) := by decide +kernel
theorem dL_law_309 : decode cL_law 309 = .ok (.iconst 2, 1) := by decide +kernel
theorem dL_law_310 : decode cL_law 310 = .ok (.iadd, 1) := by decide +kernel
theorem dL_law_311 : decode cL_law 311 = .ok (.iaload, 1) := by decide +kernel
theorem dL_law_312 : decode cL_law 312 = .ok (.aload_n 0, 1) := by decide +kernel
theorem dL_law_313 : decode cL_law 313 = .ok (.iload_n 3, 1) := by decide +kernel
theorem dL_law_314 : decode cL_law 314 = .ok (.iconst 3, 1) := by decide +kernel
theorem dL_law_315 : decode cL_law 315 = .ok (.iadd, 1) := by decide +kernel
theorem dL_law_316 : decode cL_law 316 = .ok (.iaload, 1) := by decide +kernel
theorem dL_law_317 : decode cL_law 317 = .ok (.aload_n 0, 1) := by decide +kernel
theorem dL_law_318 : decode cL_law 318 = .ok (.iload_n 3, 1) := by decide +kernel
theorem dL_law_319 : decode cL_law 319 = .ok (.iconst 4, 1) := by decide +kernel
theorem dL_law_320 : decode cL_law 320 = .ok (.iadd, 1) := by decide +kernel
theorem dL_law_321 : decode cL_law 321 = .ok (.iaload, 1) := by decide +kernel
theorem dL_law_322 : decode cL_law 322 = .ok (.invokevirtual 31, 3) := by decide +kernel
theorem dL_law_325 : decode cL_law 325 = .ok (.if_icmp .eq 915, 3) := by decide +kernel
theorem dL_law_328 : decode cL_law 328 = .ok (.iconst 0, 1) := by decide +kernel
theorem dL_law_329 : decode cL_law 329 = .ok (.ireturn, 1) := by decide +kernel
theorem dL_law_330 : decode cL_law 330 = .ok (.aload_n 1, 1) := by decide +kernel
theorem dL_law_331 : decode cL_law 331 = .ok (.aload_n 0, 1) := by decide +kernel
theorem dL_law_332 : decode cL_law 332 = .ok (.iload_n 3, 1) := by decide +kernel
theorem dL_law_333 : decode cL_law 333 = .ok (.iconst 1, 1) := by decide +kernel
theorem dL_law_334 : decode cL_law 334 = .ok (.iadd, 1) := by decide +kernel
theorem dL_law_335 : decode cL_law 335 = .ok (.iaload, 1) := by decide +kernel
theorem dL_law_336 : decode cL_law 336 = .ok (.aload_n 0, 1) := by decide +kernel
theorem dL_law_337 : decode cL_law 337 = .ok (.iload_n 3, 1) := by decide +kernel
theorem dL_law_338 : decode cL_law 338 = .ok (.iconst 2, 1) := by decide +kernel
theorem dL_law_339 : decode cL_law 339 = .ok (.iadd, 1) := by decide +kernel
theorem dL_law_340 : decode cL_law 340 = .ok (.iaload, 1) := by decide +kernel
theorem dL_law_341 : decode cL_law 341 = .ok (.aload_n 0, 1) := by decide +kernel
theorem dL_law_342 : decode cL_law 342 = .ok (.iload_n 3, 1) := by decide +kernel
theorem dL_law_343 : decode cL_law 343 = .ok (.iconst 3, 1) := by decide +kernel
theorem dL_law_344 : decode cL_law 344 = .ok (.iadd, 1) := by decide +kernel
theorem dL_law_345 : decode cL_law 345 = .ok (.iaload, 1) := by decide +kernel
theorem dL_law_346 : decode cL_law 346 = .ok (.invokevirtual 32, 3) := by decide +kernel
theorem dL_law_349 : decode cL_law 349 = .ok (.aload_n 2, 1) := by decide +kernel
theorem dL_law_350 : decode cL_law 350 = .ok (.aload_n 0, 1) := by decide +kernel
theorem dL_law_351 : decode cL_law 351 = .ok (.iload_n 3, 1) := by decide +kernel
theorem dL_law_352 : decode cL_law 352 = .ok (.iconst 1, 1) := by decide +kernel
theorem dL_law_353 : decode cL_law 353 = .ok (.iadd, 1) := by decide +kernel
theorem dL_law_354 : decode cL_law 354 = .ok (.iaload, 1) := by decide +kernel
theorem dL_law_355 : decode cL_law 355 = .ok (.aload_n 0, 1) := by decide +kernel
theorem dL_law_356 : decode cL_law 356 = .ok (.iload_n 3, 1) := by decide +kernel
theorem dL_law_357 : decode cL_law 357 = .ok (.iconst 2, 1) := by decide +kernel
theorem dL_law_358 : decode cL_law 358 = .ok (.iadd, 1) := by decide +kernel
theorem dL_law_359 : decode cL_law 359 = .ok (.iaload, 1) := by decide +kernel
theorem dL_law_360 : decode cL_law 360 = .ok (.aload_n 0, 1) := by decide +kernel
theorem dL_law_361 : decode cL_law 361 = .ok (.iload_n 3, 1) := by decide +kernel
theorem dL_law_362 : decode cL_law 362 = .ok (.iconst 3, 1) := by decide +kernel
theorem dL_law_363 : decode cL_law 363 = .ok (.iadd, 1) := by decide +kernel
theorem dL_law_364 : decode cL_law 364 = .ok (.iaload, 1) := by decide +kernel
theorem dL_law_365 : decode cL_law 365 = .ok (.invokevirtual 36, 3) := by decide +kernel
theorem dL_law_368 : decode cL_law 368 = .ok (.if_icmp .eq 872, 3) := by decide +kernel
theorem dL_law_371 : decode cL_law 371 = .ok (.iconst 0, 1) := by decide +kernel
theorem dL_law_372 : decode cL_law 372 = .ok (.ireturn, 1) := by decide +kernel
theorem dL_law_373 : decode cL_law 373 = .ok (.aload_n 1, 1) := by decide +kernel
theorem dL_law_374 : decode cL_law 374 = .ok (.aload_n 0, 1) := by decide +kernel
theorem dL_law_375 : decode cL_law 375 = .ok (.iload_n 3, 1) := by decide +kernel
theorem dL_law_376 : decode cL_law 376 = .ok (.iconst 1, 1) := by decide +kernel
theorem dL_law_377 : decode cL_law 377 = .ok (.iadd, 1) := by decide +kernel
theorem dL_law_378 : decode cL_law 378 = .ok (.iaload, 1) := by decide +kernel
theorem dL_law_379 : decode cL_law 379 = .ok (.aload_n 0, 1) := by decide +kernel
theorem dL_law_380 : decode cL_law 380 = .ok (.iload_n 3, 1) := by decide +kernel
theorem dL_law_381 : decode cL_law 381 = .ok (.iconst 2, 1) := by decide +kernel
theorem dL_law_382 : decode cL_law 382 = .ok (.iadd, 1) := by decide +kernel
theorem dL_law_383 : decode cL_law 383 = .ok (.iaload, 1) := by decide +kernel
theorem dL_law_384 : decode cL_law 384 = .ok (.aload_n 0, 1) := by decide +kernel
theorem dL_law_385 : decode cL_law 385 = .ok (.iload_n 3, 1) := by decide +kernel
theorem dL_law_386 : decode cL_law 386 = .ok (.iconst 3, 1) := by decide +kernel
theorem dL_law_387 : decode cL_law 387 = .ok (.iadd, 1) := by decide +kernel
theorem dL_law_388 : decode cL_law 388 = .ok (.iaload, 1) := by decide +kernel
theorem dL_law_389 : decode cL_law 389 = .ok (.invokevirtual 37, 3) := by decide +kernel
theorem dL_law_392 : decode cL_law 392 = .ok (.aload_n 2, 1) := by decide +kernel
theorem dL_law_393 : decode cL_law 393 = .ok (.aload_n 0, 1) := by decide +kernel
theorem dL_law_394 : decode cL_law 394 = .ok (.iload_n 3, 1) := by decide +kernel
theorem dL_law_395 : decode cL_law 395 = .ok (.iconst 1, 1) := by decide +kernel
theorem dL_law_396 : decode cL_law 396 = .ok (.iadd, 1) := by decide +kernel
theorem dL_law_397 : decode cL_law 397 = .ok (.iaload, 1) := by decide +kernel
theorem dL_law_398 : decode cL_law 398 = .ok (.aload_n 0, 1) := by decide +kernel
theorem dL_law_399 : decode cL_law 399 = .ok (.iload_n 3, 1) := by decide +kernel
theorem dL_law_400 : decode cL_law 400 = .ok (.iconst 2, 1) := by decide +kernel
theorem dL_law_401 : decode cL_law 401 = .ok (.iadd, 1) := by decide +kernel
theorem dL_law_402 : decode cL_law 402 = .ok (.iaload, 1) := by decide +kernel
theorem dL_law_403 : decode cL_law 403 = .ok (.aload_n 0, 1) := by decide +kernel
theorem dL_law_404 : decode cL_law 404 = .ok (.iload_n 3, 1) := by decide +kernel
theorem dL_law_405 : decode cL_law 405 = .ok (.iconst 3, 1) := by decide +kernel
theorem dL_law_406 : decode cL_law 406 = .ok (.iadd, 1) := by decide +kernel
theorem dL_law_407 : decode cL_law 407 = .ok (.iaload, 1) := by decide +kernel
theorem dL_law_408 : decode cL_law 408 = .ok (.invokevirtual 40, 3) := by decide +kernel
theorem dL_law_411 : decode cL_law 411 = .ok (.if_icmp .eq 829, 3) := by decide +kernel
theorem dL_law_414 : decode cL_law 414 = .ok (.iconst 0, 1) := by decide +kernel
theorem dL_law_415 : decode cL_law 415 = .ok (.ireturn, 1) := by decide +kernel
theorem dL_law_416 : decode cL_law 416 = .ok (.aload_n 1, 1) := by decide +kernel
theorem dL_law_417 : decode cL_law 417 = .ok (.aload_n 0, 1) := by decide +kernel
theorem dL_law_418 : decode cL_law 418 = .ok (.iload_n 3, 1) := by decide +kernel
theorem dL_law_419 : decode cL_law 419 = .ok (.iconst 1, 1) := by decide +kernel
theorem dL_law_420 : decode cL_law 420 = .ok (.iadd, 1) := by decide +kernel
theorem dL_law_421 : decode cL_law 421 = .ok (.iaload, 1) := by decide +kernel
theorem dL_law_422 : decode cL_law 422 = .ok (.aload_n 0, 1) := by decide +kernel
theorem dL_law_423 : decode cL_law 423 = .ok (.iload_n 3, 1) := by decide +kernel
theorem dL_law_424 : decode cL_law 424 = .ok (.iconst 2, 1) := by decide +kernel
theorem dL_law_425 : decode cL_law 425 = .ok (.iadd, 1) := by decide +kernel
theorem dL_law_426 : decode cL_law 426 = .ok (.iaload, 1) := by decide +kernel
theorem dL_law_427 : decode cL_law 427 = .ok (.aload_n 0, 1) := by decide +kernel
theorem dL_law_428 : decode cL_law 428 = .ok (.iload_n 3, 1) := by decide +kernel
theorem dL_law_429 : decode cL_law 429 = .ok (.iconst 3, 1) := by decide +kernel
theorem dL_law_430 : decode cL_law 430 = .ok (.iadd, 1) := by decide +kernel
theorem dL_law_431 : decode cL_law 431 = .ok (.iaload, 1) := by decide +kernel
theorem dL_law_432 : decode cL_law 432 = .ok (.invokevirtual 41, 3) := by decide +kernel
theorem dL_law_435 : decode cL_law 435 = .ok (.aload_n 2, 1) := by decide +kernel
theorem dL_law_436 : decode cL_law 436 = .ok (.aload_n 0, 1) := by decide +kernel
theorem dL_law_437 : decode cL_law 437 = .ok (.iload_n 3, 1) := by decide +kernel
theorem dL_law_438 : decode cL_law 438 = .ok (.iconst 1, 1) := by decide +kernel
theorem dL_law_439 : decode cL_law 439 = .ok (.iadd, 1) := by decide +kernel
theorem dL_law_440 : decode cL_law 440 = .ok (.iaload, 1) := by decide +kernel
theorem dL_law_441 : decode cL_law 441 = .ok (.aload_n 0, 1) := by decide +kernel
theorem dL_law_442 : decode cL_law 442 = .ok (.iload_n 3, 1) := by decide +kernel
theorem dL_law_443 : decode cL_law 443 = .ok (.iconst 2, 1) := by decide +kernel
theorem dL_law_444 : decode cL_law 444 = .ok (.iadd, 1) := by decide +kernel
theorem dL_law_445 : decode cL_law 445 = .ok (.iaload, 1) := by decide +kernel
theorem dL_law_446 : decode cL_law 446 = .ok (.aload_n 0, 1) := by decide +kernel
theorem dL_law_447 : decode cL_law 447 = .ok (.iload_n 3, 1) := by decide +kernel
theorem dL_law_448 : decode cL_law 448 = .ok (.iconst 3, 1) := by decide +kernel
theorem dL_law_449 : decode cL_law 449 = .ok (.iadd, 1) := by decide +kernel
theorem dL_law_450 : decode cL_law 450 = .ok (.iaload, 1) := by decide +kernel
theorem dL_law_451 : decode cL_law 451 = .ok (.invokevirtual 44, 3) := by decide +kernel
theorem dL_law_454 : decode cL_law 454 = .ok (.if_icmp .eq 786, 3) := by decide +kernel
theorem dL_law_457 : decode cL_law 457 = .ok (.iconst 0, 1) := by decide +kernel
theorem dL_law_458 : decode cL_law 458 = .ok (.ireturn, 1) := by decide +kernel
theorem dL_law_459 : decode cL_law 459 = .ok (.aload_n 1, 1) := by decide +kernel
theorem dL_law_460 : decode cL_law 460 = .ok (.aload_n 0, 1) := by decide +kernel
theorem dL_law_461 : decode cL_law 461 = .ok (.iload_n 3, 1) := by decide +kernel
theorem dL_law_462 : decode cL_law 462 = .ok (.iconst 1, 1) := by decide +kernel
theorem dL_law_463 : decode cL_law 463 = .ok (.iadd, 1) := by decide +kernel
theorem dL_law_464 : decode cL_law 464 = .ok (.iaload, 1) := by decide +kernel
theorem dL_law_465 : decode cL_law 465 = .ok (.aload_n 0, 1) := by decide +kernel
theorem dL_law_466 : decode cL_law 466 = .ok (.iload_n 3, 1) := by decide +kernel
theorem dL_law_467 : decode cL_law 467 = .ok (.iconst 2, 1) := by decide +kernel
theorem dL_law_468 : decode cL_law 468 = .ok (.iadd, 1) := by decide +kernel
theorem dL_law_469 : decode cL_law 469 = .ok (.iaload, 1) := by decide +kernel
theorem dL_law_470 : decode cL_law 470 = .ok (.invokevirtual 45, 3) := by decide +kernel
theorem dL_law_473 : decode cL_law 473 = .ok (.aload_n 2, 1) := by decide +kernel
theorem dL_law_474 : decode cL_law 474 = .ok (.aload_n 0, 1) := by decide +kernel
theorem dL_law_475 : decode cL_law 475 = .ok (.iload_n 3, 1) := by decide +kernel
theorem dL_law_476 : decode cL_law 476 = .ok (.iconst 1, 1) := by decide +kernel
theorem dL_law_477 : decode cL_law 477 = .ok (.iadd, 1) := by decide +kernel
theorem dL_law_478 : decode cL_law 478 = .ok (.iaload, 1) := by decide +kernel
theorem dL_law_479 : decode cL_law 479 = .ok (.aload_n 0, 1) := by decide +kernel
theorem dL_law_480 : decode cL_law 480 = .ok (.iload_n 3, 1) := by decide +kernel
theorem dL_law_481 : decode cL_law 481 = .ok (.iconst 2, 1) := by decide +kernel
theorem dL_law_482 : decode cL_law 482 = .ok (.iadd, 1) := by decide +kernel
theorem dL_law_483 : decode cL_law 483 = .ok (.iaload, 1) := by decide +kernel
theorem dL_law_484 : decode cL_law 484 = .ok (.invokevirtual 48, 3) := by decide +kernel
theorem dL_law_487 : decode cL_law 487 = .ok (.if_icmp .eq 753, 3) := by decide +kernel
theorem dL_law_490 : decode cL_law 490 = .ok (.iconst 0, 1) := by decide +kernel
theorem dL_law_491 : decode cL_law 491 = .ok (.ireturn, 1) := by decide +kernel
theorem dL_law_492 : decode cL_law 492 = .ok (.aload_n 1, 1) := by decide +kernel
theorem dL_law_493 : decode cL_law 493 = .ok (.aload_n 0, 1) := by decide +kernel
theorem dL_law_494 : decode cL_law 494 = .ok (.iload_n 3, 1) := by decide +kernel
theorem dL_law_495 : decode cL_law 495 = .ok (.iconst 1, 1) := by decide +kernel
theorem dL_law_496 : decode cL_law 496 = .ok (.iadd, 1) := by decide +kernel
theorem dL_law_497 : decode cL_law 497 = .ok (.iaload, 1) := by decide +kernel
theorem dL_law_498 : decode cL_law 498 = .ok (.invokevirtual 49, 3) := by decide +kernel
theorem dL_law_501 : decode cL_law 501 = .ok (.aload_n 2, 1) := by decide +kernel
theorem dL_law_502 : decode cL_law 502 = .ok (.aload_n 0, 1) := by decide +kernel
theorem dL_law_503 : decode cL_law 503 = .ok (.iload_n 3, 1) := by decide +kernel
theorem dL_law_504 : decode cL_law 504 = .ok (.iconst 1, 1) := by decide +kernel
theorem dL_law_505 : decode cL_law 505 = .ok (.iadd, 1) := by decide +kernel
theorem dL_law_506 : decode cL_law 506 = .ok (.iaload, 1) := by decide +kernel
theorem dL_law_507 : decode cL_law 507 = .ok (.invokevirtual 52, 3) := by decide +kernel
theorem dL_law_510 : decode cL_law 510 = .ok (.if_icmp .eq 730, 3) := by decide +kernel
theorem dL_law_513 : decode cL_law 513 = .ok (.iconst 0, 1) := by decide +kernel
theorem dL_law_514 : decode cL_law 514 = .ok (.ireturn, 1) := by decide +kernel
theorem dL_law_515 : decode cL_law 515 = .ok (.aload_n 1, 1) := by decide +kernel
theorem dL_law_516 : decode cL_law 516 = .ok (.aload_n 0, 1) := by decide +kernel
theorem dL_law_517 : decode cL_law 517 = .ok (.iload_n 3, 1) := by decide +kernel
theorem dL_law_518 : decode cL_law 518 = .ok (.iconst 1, 1) := by decide +kernel
theorem dL_law_519 : decode cL_law 519 = .ok (.iadd, 1) := by decide +kernel
theorem dL_law_520 : decode cL_law 520 = .ok (.iaload, 1) := by decide +kernel
theorem dL_law_521 : decode cL_law 521 = .ok (.aload_n 0, 1) := by decide +kernel
theorem dL_law_522 : decode cL_law 522 = .ok (.iload_n 3, 1) := by decide +kernel
theorem dL_law_523 : decode cL_law 523 = .ok (.iconst 2, 1) := by decide +kernel
theorem dL_law_524 : decode cL_law 524 = .ok (.iadd, 1) := by decide +kernel
theorem dL_law_525 : decode cL_law 525 = .ok (.iaload, 1) := by decide +kernel
theorem dL_law_526 : decode cL_law 526 = .ok (.invokevirtual 53, 3) := by decide +kernel
theorem dL_law_529 : decode cL_law 529 = .ok (.aload_n 2, 1) := by decide +kernel
theorem dL_law_530 : decode cL_law 530 = .ok (.aload_n 0, 1) := by decide +kernel
theorem dL_law_531 : decode cL_law 531 = .ok (.iload_n 3, 1) := by decide +kernel
theorem dL_law_532 : decode cL_law 532 = .ok (.iconst 1, 1) := by decide +kernel
theorem dL_law_533 : decode cL_law 533 = .ok (.iadd, 1) := by decide +kernel
theorem dL_law_534 : decode cL_law 534 = .ok (.iaload, 1) := by decide +kernel
theorem dL_law_535 : decode cL_law 535 = .ok (.aload_n 0, 1) := by decide +kernel
theorem dL_law_536 : decode cL_law 536 = .ok (.iload_n 3, 1) := by decide +kernel
theorem dL_law_537 : decode cL_law 537 = .ok (.iconst 2, 1) := by decide +kernel
theorem dL_law_538 : decode cL_law 538 = .ok (.iadd, 1) := by decide +kernel
theorem dL_law_539 : decode cL_law 539 = .ok (.iaload, 1) := by decide +kernel
theorem dL_law_540 : decode cL_law 540 = .ok (.invokevirtual 56, 3) := by decide +kernel
theorem dL_law_543 : decode cL_law 543 = .ok (.if_icmp .eq 697, 3) := by decide +kernel
theorem dL_law_546 : decode cL_law 546 = .ok (.iconst 0, 1) := by decide +kernel
theorem dL_law_547 : decode cL_law 547 = .ok (.ireturn, 1) := by decide +kernel
theorem dL_law_548 : decode cL_law 548 = .ok (.aload_n 1, 1) := by decide +kernel
theorem dL_law_549 : decode cL_law 549 = .ok (.aload_n 0, 1) := by decide +kernel
theorem dL_law_550 : decode cL_law 550 = .ok (.iload_n 3, 1) := by decide +kernel
theorem dL_law_551 : decode cL_law 551 = .ok (.iconst 1, 1) := by decide +kernel
theorem dL_law_552 : decode cL_law 552 = .ok (.iadd, 1) := by decide +kernel
theorem dL_law_553 : decode cL_law 553 = .ok (.iaload, 1) := by decide +kernel
theorem dL_law_554 : decode cL_law 554 = .ok (.aload_n 0, 1) := by decide +kernel
theorem dL_law_555 : decode cL_law 555 = .ok (.iload_n 3, 1) := by decide +kernel
theorem dL_law_556 : decode cL_law 556 = .ok (.iconst 2, 1) := by decide +kernel
theorem dL_law_557 : decode cL_law 557 = .ok (.iadd, 1) := by decide +kernel
theorem dL_law_558 : decode cL_law 558 = .ok (.iaload, 1) := by decide +kernel
theorem dL_law_559 : decode cL_law 559 = .ok (.aload_n 0, 1) := by decide +kernel
theorem dL_law_560 : decode cL_law 560 = .ok (.iload_n 3, 1) := by decide +kernel
theorem dL_law_561 : decode cL_law 561 = .ok (.iconst 3, 1) := by decide +kernel
theorem dL_law_562 : decode cL_law 562 = .ok (.iadd, 1) := by decide +kernel
theorem dL_law_563 : decode cL_law 563 = .ok (.iaload, 1) := by decide +kernel
theorem dL_law_564 : decode cL_law 564 = .ok (.aload_n 0, 1) := by decide +kernel
theorem dL_law_565 : decode cL_law 565 = .ok (.iload_n 3, 1) := by decide +kernel
theorem dL_law_566 : decode cL_law 566 = .ok (.iconst 4, 1) := by decide +kernel
theorem dL_law_567 : decode cL_law 567 = .ok (.iadd, 1) := by decide +kernel
theorem dL_law_568 : decode cL_law 568 = .ok (.iaload, 1) := by decide +kernel
theorem dL_law_569 : decode cL_law 569 = .ok (.invokevirtual 57, 3) := by decide +kernel
theorem dL_law_572 : decode cL_law 572 = .ok (.aload_n 2, 1) := by decide +kernel
theorem dL_law_573 : decode cL_law 573 = .ok (.aload_n 0, 1) := by decide +kernel
theorem dL_law_574 : decode cL_law 574 = .ok (.iload_n 3, 1) := by decide +kernel
theorem dL_law_575 : decode cL_law 575 = .ok (.iconst 1, 1) := by decide +kernel
theorem dL_law_576 : decode cL_law 576 = .ok (.iadd, 1) := by decide +kernel
theorem dL_law_577 : decode cL_law 577 = .ok (.iaload, 1) := by decide +kernel
theorem dL_law_578 : decode cL_law 578 = .ok (.aload_n 0, 1) := by decide +kernel
theorem dL_law_579 : decode cL_law 579 = .ok (.iload_n 3, 1) := by decide +kernel
theorem dL_law_580 : decode cL_law 580 = .ok (.iconst 2, 1) := by decide +kernel
theorem dL_law_581 : decode cL_law 581 = .ok (.iadd, 1) := by decide +kernel
theorem dL_law_582 : decode cL_law 582 = .ok (.iaload, 1) := by decide +kernel
theorem dL_law_583 : decode cL_law 583 = .ok (.aload_n 0, 1) := by decide +kernel
theorem dL_law_584 : decode cL_law 584 = .ok (.iload_n 3, 1) := by decide +kernel
theorem dL_law_585 : decode cL_law 585 = .ok (.iconst 3, 1) := by decide +kernel
theorem dL_law_586 : decode cL_law 586 = .ok (.iadd, 1) := by decide +kernel
theorem dL_law_587 : decode cL_law 587 = .ok (.iaload, 1) := by decide +kernel
theorem dL_law_588 : decode cL_law 588 = .ok (.aload_n 0, 1) := by decide +kernel
theorem dL_law_589 : decode cL_law 589 = .ok (.iload_n 3, 1) := by decide +kernel
theorem dL_law_590 : decode cL_law 590 = .ok (.iconst 4, 1) := by decide +kernel
theorem dL_law_591 : decode cL_law 591 = .ok (.iadd, 1) := by decide +kernel
theorem dL_law_592 : decode cL_law 592 = .ok (.iaload, 1) := by decide +kernel
theorem dL_law_593 : decode cL_law 593 = .ok (.invokevirtual 60, 3) := by decide +kernel
theorem dL_law_596 : decode cL_law 596 = .ok (.if_icmp .eq 644, 3) := by decide +kernel
theorem dL_law_599 : decode cL_law 599 = .ok (.iconst 0, 1) := by decide +kernel
theorem dL_law_600 : decode cL_law 600 = .ok (.ireturn, 1) := by decide +kernel
theorem dL_law_601 : decode cL_law 601 = .ok (.aload_n 1, 1) := by decide +kernel
theorem dL_law_602 : decode cL_law 602 = .ok (.aload_n 0, 1) := by decide +kernel
theorem dL_law_603 : decode cL_law 603 = .ok (.iload_n 3, 1) := by decide +kernel
theorem dL_law_604 : decode cL_law 604 = .ok (.iconst 1, 1) := by decide +kernel
theorem dL_law_605 : decode cL_law 605 = .ok (.iadd, 1) := by decide +kernel
theorem dL_law_606 : decode cL_law 606 = .ok (.iaload, 1) := by decide +kernel
theorem dL_law_607 : decode cL_law 607 = .ok (.aload_n 0, 1) := by decide +kernel
theorem dL_law_608 : decode cL_law 608 = .ok (.iload_n 3, 1) := by decide +kernel
theorem dL_law_609 : decode cL_law 609 = .ok (.iconst 2, 1) := by decide +kernel
theorem dL_law_610 : decode cL_law 610 = .ok (.iadd, 1) := by decide +kernel
theorem dL_law_611 : decode cL_law 611 = .ok (.iaload, 1) := by decide +kernel
theorem dL_law_612 : decode cL_law 612 = .ok (.aload_n 0, 1) := by decide +kernel
theorem dL_law_613 : decode cL_law 613 = .ok (.iload_n 3, 1) := by decide +kernel
theorem dL_law_614 : decode cL_law 614 = .ok (.iconst 3, 1) := by decide +kernel
theorem dL_law_615 : decode cL_law 615 = .ok (.iadd, 1) := by decide +kernel
theorem dL_law_616 : decode cL_law 616 = .ok (.iaload, 1) := by decide +kernel
theorem dL_law_617 : decode cL_law 617 = .ok (.aload_n 0, 1) := by decide +kernel
theorem dL_law_618 : decode cL_law 618 = .ok (.iload_n 3, 1) := by decide +kernel
theorem dL_law_619 : decode cL_law 619 = .ok (.iconst 4, 1) := by decide +kernel
theorem dL_law_620 : decode cL_law 620 = .ok (.iadd, 1) := by decide +kernel
theorem dL_law_621 : decode cL_law 621 = .ok (.iaload, 1) := by decide +kernel
theorem dL_law_622 : decode cL_law 622 = .ok (.invokevirtual 61, 3) := by decide +kernel
theorem dL_law_625 : decode cL_law 625 = .ok (.aload_n 2, 1) := by decide +kernel
theorem dL_law_626 : decode cL_law 626 = .ok (.aload_n 0, 1) := by decide +kernel
theorem dL_law_627 : decode cL_law 627 = .ok (.iload_n 3, 1) := by decide +kernel
theorem dL_law_628 : decode cL_law 628 = .ok (.iconst 1, 1) := by decide +kernel
theorem dL_law_629 : decode cL_law 629 = .ok (.iadd, 1) := by decide +kernel
theorem dL_law_630 : decode cL_law 630 = .ok (.iaload, 1) := by decide +kernel
theorem dL_law_631 : decode cL_law 631 = .ok (.aload_n 0, 1) := by decide +kernel
theorem dL_law_632 : decode cL_law 632 = .ok (.iload_n 3, 1) := by decide +kernel
theorem dL_law_633 : decode cL_law 633 = .ok (.iconst 2, 1) := by decide +kernel
theorem dL_law_634 : decode cL_law 634 = .ok (.iadd, 1) := by decide +kernel
theorem dL_law_635 : decode cL_law 635 = .ok (.iaload, 1) := by decide +kernel
theorem dL_law_636 : decode cL_law 636 = .ok (.aload_n 0, 1) := by decide +kernel
theorem dL_law_637 : decode cL_law 637 = .ok (.iload_n 3, 1) := by decide +kernel
theorem dL_law_638 : decode cL_law 638 = .ok (.iconst 3, 1) := by decide +kernel
theorem dL_law_639 : decode cL_law 639 = .ok (.iadd, 1) := by decide +kernel
theorem dL_law_640 : decode cL_law 640 = .ok (.iaload, 1) := by decide +kernel
theorem dL_law_641 : decode cL_law 641 = .ok (.aload_n 0, 1) := by decide +kernel
theorem dL_law_642 : decode cL_law 642 = .ok (.iload_n 3, 1) := by decide +kernel
theorem dL_law_643 : decode cL_law 643 = .ok (.iconst 4, 1) := by decide +kernel
theorem dL_law_644 : decode cL_law 644 = .ok (.iadd, 1) := by decide +kernel
theorem dL_law_645 : decode cL_law 645 = .ok (.iaload, 1) := by decide +kernel
theorem dL_law_646 : decode cL_law 646 = .ok (.invokevirtual 64, 3) := by decide +kernel
theorem dL_law_649 : decode cL_law 649 = .ok (.if_icmp .eq 591, 3) := by decide +kernel
theorem dL_law_652 : decode cL_law 652 = .ok (.iconst 0, 1) := by decide +kernel
theorem dL_law_653 : decode cL_law 653 = .ok (.ireturn, 1) := by decide +kernel
theorem dL_law_654 : decode cL_law 654 = .ok (.aload_n 1, 1) := by decide +kernel
theorem dL_law_655 : decode cL_law 655 = .ok (.aload_n 0, 1) := by decide +kernel
theorem dL_law_656 : decode cL_law 656 = .ok (.iload_n 3, 1) := by decide +kernel
theorem dL_law_657 : decode cL_law 657 = .ok (.iconst 1, 1) := by decide +kernel
theorem dL_law_658 : decode cL_law 658 = .ok (.iadd, 1) := by decide +kernel
theorem dL_law_659 : decode cL_law 659 = .ok (.iaload, 1) := by decide +kernel
theorem dL_law_660 : decode cL_law 660 = .ok (.invokevirtual 65, 3) := by decide +kernel
theorem dL_law_663 : decode cL_law 663 = .ok (.aload_n 2, 1) := by decide +kernel
theorem dL_law_664 : decode cL_law 664 = .ok (.aload_n 0, 1) := by decide +kernel
theorem dL_law_665 : decode cL_law 665 = .ok (.iload_n 3, 1) := by decide +kernel
theorem dL_law_666 : decode cL_law 666 = .ok (.iconst 1, 1) := by decide +kernel
theorem dL_law_667 : decode cL_law 667 = .ok (.iadd, 1) := by decide +kernel
theorem dL_law_668 : decode cL_law 668 = .ok (.iaload, 1) := by decide +kernel
theorem dL_law_669 : decode cL_law 669 = .ok (.invokevirtual 68, 3) := by decide +kernel
theorem dL_law_672 : decode cL_law 672 = .ok (.if_icmp .eq 568, 3) := by decide +kernel
theorem dL_law_675 : decode cL_law 675 = .ok (.iconst 0, 1) := by decide +kernel
theorem dL_law_676 : decode cL_law 676 = .ok (.ireturn, 1) := by decide +kernel
theorem dL_law_677 : decode cL_law 677 = .ok (.aload_n 1, 1) := by decide +kernel
theorem dL_law_678 : decode cL_law 678 = .ok (.aload_n 0, 1) := by decide +kernel
theorem dL_law_679 : decode cL_law 679 = .ok (.iload_n 3, 1) := by decide +kernel
theorem dL_law_680 : decode cL_law 680 = .ok (.iconst 1, 1) := by decide +kernel
theorem dL_law_681 : decode cL_law 681 = .ok (.iadd, 1) := by decide +kernel
theorem dL_law_682 : decode cL_law 682 = .ok (.iaload, 1) := by decide +kernel
theorem dL_law_683 : decode cL_law 683 = .ok (.aload_n 0, 1) := by decide +kernel
theorem dL_law_684 : decode cL_law 684 = .ok (.iload_n 3, 1) := by decide +kernel
theorem dL_law_685 : decode cL_law 685 = .ok (.iconst 2, 1) := by decide +kernel
theorem dL_law_686 : decode cL_law 686 = .ok (.iadd, 1) := by decide +kernel
theorem dL_law_687 : decode cL_law 687 = .ok (.iaload, 1) := by decide +kernel
theorem dL_law_688 : decode cL_law 688 = .ok (.aload_n 0, 1) := by decide +kernel
theorem dL_law_689 : decode cL_law 689 = .ok (.iload_n 3, 1) := by decide +kernel
theorem dL_law_690 : decode cL_law 690 = .ok (.iconst 3, 1) := by decide +kernel
theorem dL_law_691 : decode cL_law 691 = .ok (.iadd, 1) := by decide +kernel
theorem dL_law_692 : decode cL_law 692 = .ok (.iaload, 1) := by decide +kernel
theorem dL_law_693 : decode cL_law 693 = .ok (.invokevirtual 69, 3) := by decide +kernel
theorem dL_law_696 : decode cL_law 696 = .ok (.aload_n 2, 1) := by decide +kernel
theorem dL_law_697 : decode cL_law 697 = .ok (.aload_n 0, 1) := by decide +kernel
theorem dL_law_698 : decode cL_law 698 = .ok (.iload_n 3, 1) := by decide +kernel
theorem dL_law_699 : decode cL_law 699 = .ok (.iconst 1, 1) := by decide +kernel
theorem dL_law_700 : decode cL_law 700 = .ok (.iadd, 1) := by decide +kernel
theorem dL_law_701 : decode cL_law 701 = .ok (.iaload, 1) := by decide +kernel
theorem dL_law_702 : decode cL_law 702 = .ok (.aload_n 0, 1) := by decide +kernel
theorem dL_law_703 : decode cL_law 703 = .ok (.iload_n 3, 1) := by decide +kernel
theorem dL_law_704 : decode cL_law 704 = .ok (.iconst 2, 1) := by decide +kernel
theorem dL_law_705 : decode cL_law 705 = .ok (.iadd, 1) := by decide +kernel
theorem dL_law_706 : decode cL_law 706 = .ok (.iaload, 1) := by decide +kernel
theorem dL_law_707 : decode cL_law 707 = .ok (.aload_n 0, 1) := by decide +kernel
theorem dL_law_708 : decode cL_law 708 = .ok (.iload_n 3, 1) := by decide +kernel
theorem dL_law_709 : decode cL_law 709 = .ok (.iconst 3, 1) := by decide +kernel
theorem dL_law_710 : decode cL_law 710 = .ok (.iadd, 1) := by decide +kernel
theorem dL_law_711 : decode cL_law 711 = .ok (.iaload, 1) := by decide +kernel
theorem dL_law_712 : decode cL_law 712 = .ok (.invokevirtual 72, 3) := by decide +kernel
theorem dL_law_715 : decode cL_law 715 = .ok (.if_icmp .eq 525, 3) := by decide +kernel
theorem dL_law_718 : decode cL_law 718 = .ok (.iconst 0, 1) := by decide +kernel
theorem dL_law_719 : decode cL_law 719 = .ok (.ireturn, 1) := by decide +kernel
theorem dL_law_720 : decode cL_law 720 = .ok (.aload_n 1, 1) := by decide +kernel
theorem dL_law_721 : decode cL_law 721 = .ok (.aload_n 0, 1) := by decide +kernel
theorem dL_law_722 : decode cL_law 722 = .ok (.iload_n 3, 1) := by decide +kernel
theorem dL_law_723 : decode cL_law 723 = .ok (.iconst 1, 1) := by decide +kernel
theorem dL_law_724 : decode cL_law 724 = .ok (.iadd, 1) := by decide +kernel
theorem dL_law_725 : decode cL_law 725 = .ok (.iaload, 1) := by decide +kernel
theorem dL_law_726 : decode cL_law 726 = .ok (.aload_n 0, 1) := by decide +kernel
theorem dL_law_727 : decode cL_law 727 = .ok (.iload_n 3, 1) := by decide +kernel
theorem dL_law_728 : decode cL_law 728 = .ok (.iconst 2, 1) := by decide +kernel
theorem dL_law_729 : decode cL_law 729 = .ok (.iadd, 1) := by decide +kernel
theorem dL_law_730 : decode cL_law 730 = .ok (.iaload, 1) := by decide +kernel
theorem dL_law_731 : decode cL_law 731 = .ok (.aload_n 0, 1) := by decide +kernel
theorem dL_law_732 : decode cL_law 732 = .ok (.iload_n 3, 1) := by decide +kernel
theorem dL_law_733 : decode cL_law 733 = .ok (.iconst 3, 1) := by decide +kernel
theorem dL_law_734 : decode cL_law 734 = .ok (.iadd, 1) := by decide +kernel
theorem dL_law_735 : decode cL_law 735 = .ok (.iaload, 1) := by decide +kernel
theorem dL_law_736 : decode cL_law 736 = .ok (.aload_n 0, 1) := by decide +kernel
theorem dL_law_737 : decode cL_law 737 = .ok (.iload_n 3, 1) := by decide +kernel
theorem dL_law_738 : decode cL_law 738 = .ok (.iconst 4, 1) := by decide +kernel
theorem dL_law_739 : decode cL_law 739 = .ok (.iadd, 1) := by decide +kernel
theorem dL_law_740 : decode cL_law 740 = .ok (.iaload, 1) := by decide +kernel
theorem dL_law_741 : decode cL_law 741 = .ok (.invokevirtual 73, 3) := by decide +kernel
theorem dL_law_744 : decode cL_law 744 = .ok (.aload_n 2, 1) := by decide +kernel
theorem dL_law_745 : decode cL_law 745 = .ok (.aload_n 0, 1) := by decide +kernel
theorem dL_law_746 : decode cL_law 746 = .ok (.iload_n 3, 1) := by decide +kernel
theorem dL_law_747 : decode cL_law 747 = .ok (.iconst 1, 1) := by decide +kernel
theorem dL_law_748 : decode cL_law 748 = .ok (.iadd, 1) := by decide +kernel
theorem dL_law_749 : decode cL_law 749 = .ok (.iaload, 1) := by decide +kernel
theorem dL_law_750 : decode cL_law 750 = .ok (.aload_n 0, 1) := by decide +kernel
theorem dL_law_751 : decode cL_law 751 = .ok (.iload_n 3, 1) := by decide +kernel
theorem dL_law_752 : decode cL_law 752 = .ok (.iconst 2, 1) := by decide +kernel
theorem dL_law_753 : decode cL_law 753 = .ok (.iadd, 1) := by decide +kernel
theorem dL_law_754 : decode cL_law 754 = .ok (.iaload, 1) := by decide +kernel
theorem dL_law_755 : decode cL_law 755 = .ok (.aload_n 0, 1) := by decide +kernel
theorem dL_law_756 : decode cL_law 756 = .ok (.iload_n 3, 1) := by decide +kernel
theorem dL_law_757 : decode cL_law 757 = .ok (.iconst 3, 1) := by decide +kernel
theorem dL_law_758 : decode cL_law 758 = .ok (.iadd, 1) := by decide +kernel
theorem dL_law_759 : decode cL_law 759 = .ok (.iaload, 1) := by decide +kernel
theorem dL_law_760 : decode cL_law 760 = .ok (.aload_n 0, 1) := by decide +kernel
theorem dL_law_761 : decode cL_law 761 = .ok (.iload_n 3, 1) := by decide +kernel
theorem dL_law_762 : decode cL_law 762 = .ok (.iconst 4, 1) := by decide +kernel
theorem dL_law_763 : decode cL_law 763 = .ok (.iadd, 1) := by decide +kernel
theorem dL_law_764 : decode cL_law 764 = .ok (.iaload, 1) := by decide +kernel
theorem dL_law_765 : decode cL_law 765 = .ok (.invokevirtual 76, 3) := by decide +kernel
theorem dL_law_768 : decode cL_law 768 = .ok (.if_icmp .eq 472, 3) := by decide +kernel
theorem dL_law_771 : decode cL_law 771 = .ok (.iconst 0, 1) := by decide +kernel
theorem dL_law_772 : decode cL_law 772 = .ok (.ireturn, 1) := by decide +kernel
theorem dL_law_773 : decode cL_law 773 = .ok (.aload_n 1, 1) := by decide +kernel
theorem dL_law_774 : decode cL_law 774 = .ok (.aload_n 0, 1) := by decide +kernel
theorem dL_law_775 : decode cL_law 775 = .ok (.iload_n 3, 1) := by decide +kernel
theorem dL_law_776 : decode cL_law 776 = .ok (.iconst 1, 1) := by decide +kernel
theorem dL_law_777 : decode cL_law 777 = .ok (.iadd, 1) := by decide +kernel
theorem dL_law_778 : decode cL_law 778 = .ok (.iaload, 1) := by decide +kernel
theorem dL_law_779 : decode cL_law 779 = .ok (.invokevirtual 77, 3) := by decide +kernel
theorem dL_law_782 : decode cL_law 782 = .ok (.aload_n 2, 1) := by decide +kernel
theorem dL_law_783 : decode cL_law 783 = .ok (.aload_n 0, 1) := by decide +kernel
theorem dL_law_784 : decode cL_law 784 = .ok (.iload_n 3, 1) := by decide +kernel
theorem dL_law_785 : decode cL_law 785 = .ok (.iconst 1, 1) := by decide +kernel
theorem dL_law_786 : decode cL_law 786 = .ok (.iadd, 1) := by decide +kernel
theorem dL_law_787 : decode cL_law 787 = .ok (.iaload, 1) := by decide +kernel
theorem dL_law_788 : decode cL_law 788 = .ok (.invokevirtual 80, 3) := by decide +kernel
theorem dL_law_791 : decode cL_law 791 = .ok (.if_icmp .eq 449, 3) := by decide +kernel
theorem dL_law_794 : decode cL_law 794 = .ok (.iconst 0, 1) := by decide +kernel
theorem dL_law_795 : decode cL_law 795 = .ok (.ireturn, 1) := by decide +kernel
theorem dL_law_796 : decode cL_law 796 = .ok (.aload_n 1, 1) := by decide +kernel
theorem dL_law_797 : decode cL_law 797 = .ok (.aload_n 0, 1) := by decide +kernel
theorem dL_law_798 : decode cL_law 798 = .ok (.iload_n 3, 1) := by decide +kernel
theorem dL_law_799 : decode cL_law 799 = .ok (.iconst 1, 1) := by decide +kernel
theorem dL_law_800 : decode cL_law 800 = .ok (.iadd, 1) := by decide +kernel
theorem dL_law_801 : decode cL_law 801 = .ok (.iaload, 1) := by decide +kernel
theorem dL_law_802 : decode cL_law 802 = .ok (.aload_n 0, 1) := by decide +kernel
theorem dL_law_803 : decode cL_law 803 = .ok (.iload_n 3, 1) := by decide +kernel
theorem dL_law_804 : decode cL_law 804 = .ok (.iconst 2, 1) := by decide +kernel
theorem dL_law_805 : decode cL_law 805 = .ok (.iadd, 1) := by decide +kernel
theorem dL_law_806 : decode cL_law 806 = .ok (.iaload, 1) := by decide +kernel
theorem dL_law_807 : decode cL_law 807 = .ok (.invokevirtual 81, 3) := by decide +kernel
theorem dL_law_810 : decode cL_law 810 = .ok (.aload_n 2, 1) := by decide +kernel
theorem dL_law_811 : decode cL_law 811 = .ok (.aload_n 0, 1) := by decide +kernel
theorem dL_law_812 : decode cL_law 812 = .ok (.iload_n 3, 1) := by decide +kernel
theorem dL_law_813 : decode cL_law 813 = .ok (.iconst 1, 1) := by decide +kernel
theorem dL_law_814 : decode cL_law 814 = .ok (.iadd, 1) := by decide +kernel
theorem dL_law_815 : decode cL_law 815 = .ok (.iaload, 1) := by decide +kernel
theorem dL_law_816 : decode cL_law 816 = .ok (.aload_n 0, 1) := by decide +kernel
theorem dL_law_817 : decode cL_law 817 = .ok (.iload_n 3, 1) := by decide +kernel
theorem dL_law_818 : decode cL_law 818 = .ok (.iconst 2, 1) := by decide +kernel
theorem dL_law_819 : decode cL_law 819 = .ok (.iadd, 1) := by decide +kernel
theorem dL_law_820 : decode cL_law 820 = .ok (.iaload, 1) := by decide +kernel
theorem dL_law_821 : decode cL_law 821 = .ok (.invokevirtual 84, 3) := by decide +kernel
theorem dL_law_824 : decode cL_law 824 = .ok (.if_icmp .eq 416, 3) := by decide +kernel
theorem dL_law_827 : decode cL_law 827 = .ok (.iconst 0, 1) := by decide +kernel
theorem dL_law_828 : decode cL_law 828 = .ok (.ireturn, 1) := by decide +kernel
theorem dL_law_829 : decode cL_law 829 = .ok (.aload_n 1, 1) := by decide +kernel
theorem dL_law_830 : decode cL_law 830 = .ok (.aload_n 0, 1) := by decide +kernel
theorem dL_law_831 : decode cL_law 831 = .ok (.iload_n 3, 1) := by decide +kernel
theorem dL_law_832 : decode cL_law 832 = .ok (.iconst 1, 1) := by decide +kernel
theorem dL_law_833 : decode cL_law 833 = .ok (.iadd, 1) := by decide +kernel
theorem dL_law_834 : decode cL_law 834 = .ok (.iaload, 1) := by decide +kernel
theorem dL_law_835 : decode cL_law 835 = .ok (.aload_n 0, 1) := by decide +kernel
theorem dL_law_836 : decode cL_law 836 = .ok (.iload_n 3, 1) := by decide +kernel
theorem dL_law_837 : decode cL_law 837 = .ok (.iconst 2, 1) := by decide +kernel
theorem dL_law_838 : decode cL_law 838 = .ok (.iadd, 1) := by decide +kernel
theorem dL_law_839 : decode cL_law 839 = .ok (.iaload, 1) := by decide +kernel
theorem dL_law_840 : decode cL_law 840 = .ok (.invokevirtual 85, 3) := by decide +kernel
theorem dL_law_843 : decode cL_law 843 = .ok (.aload_n 2, 1) := by decide +kernel
theorem dL_law_844 : decode cL_law 844 = .ok (.aload_n 0, 1) := by decide +kernel
theorem dL_law_845 : decode cL_law 845 = .ok (.iload_n 3, 1) := by decide +kernel
theorem dL_law_846 : decode cL_law 846 = .ok (.iconst 1, 1) := by decide +kernel
theorem dL_law_847 : decode cL_law 847 = .ok (.iadd, 1) := by decide +kernel
theorem dL_law_848 : decode cL_law 848 = .ok (.iaload, 1) := by decide +kernel
theorem dL_law_849 : decode cL_law 849 = .ok (.aload_n 0, 1) := by decide +kernel
theorem dL_law_850 : decode cL_law 850 = .ok (.iload_n 3, 1) := by decide +kernel
theorem dL_law_851 : decode cL_law 851 = .ok (.iconst 2, 1) := by decide +kernel
theorem dL_law_852 : decode cL_law 852 = .ok (.iadd, 1) := by decide +kernel
theorem dL_law_853 : decode cL_law 853 = .ok (.iaload, 1) := by decide +kernel
theorem dL_law_854 : decode cL_law 854 = .ok (.invokevirtual 88, 3) := by decide +kernel
theorem dL_law_857 : decode cL_law 857 = .ok (.if_icmp .eq 383, 3) := by decide +kernel
theorem dL_law_860 : decode cL_law 860 = .ok (.iconst 0, 1) := by decide +kernel
theorem dL_law_861 : decode cL_law 861 = .ok (.ireturn, 1) := by decide +kernel
theorem dL_law_862 : decode cL_law 862 = .ok (.aload_n 1, 1) := by decide +kernel
theorem dL_law_863 : decode cL_law 863 = .ok (.aload_n 0, 1) := by decide +kernel
theorem dL_law_864 : decode cL_law 864 = .ok (.iload_n 3, 1) := by decide +kernel
theorem dL_law_865 : decode cL_law 865 = .ok (.iconst 1, 1) := by decide +kernel
theorem dL_law_866 : decode cL_law 866 = .ok (.iadd, 1) := by decide +kernel
theorem dL_law_867 : decode cL_law 867 = .ok (.iaload, 1) := by decide +kernel
theorem dL_law_868 : decode cL_law 868 = .ok (.aload_n 0, 1) := by decide +kernel
theorem dL_law_869 : decode cL_law 869 = .ok (.iload_n 3, 1) := by decide +kernel
theorem dL_law_870 : decode cL_law 870 = .ok (.iconst 2, 1) := by decide +kernel
theorem dL_law_871 : decode cL_law 871 = .ok (.iadd, 1) := by decide +kernel
theorem dL_law_872 : decode cL_law 872 = .ok (.iaload, 1) := by decide +kernel
theorem dL_law_873 : decode cL_law 873 = .ok (.invokevirtual 89, 3) := by decide +kernel
theorem dL_law_876 : decode cL_law 876 = .ok (.aload_n 2, 1) := by decide +kernel
theorem dL_law_877 : decode cL_law 877 = .ok (.aload_n 0, 1) := by decide +kernel
theorem dL_law_878 : decode cL_law 878 = .ok (.iload_n 3, 1) := by decide +kernel
theorem dL_law_879 : decode cL_law 879 = .ok (.iconst 1, 1) := by decide +kernel
theorem dL_law_880 : decode cL_law 880 = .ok (.iadd, 1) := by decide +kernel
theorem dL_law_881 : decode cL_law 881 = .ok (.iaload, 1) := by decide +kernel
theorem dL_law_882 : decode cL_law 882 = .ok (.aload_n 0, 1) := by decide +kernel
theorem dL_law_883 : decode cL_law 883 = .ok (.iload_n 3, 1) := by decide +kernel
theorem dL_law_884 : decode cL_law 884 = .ok (.iconst 2, 1) := by decide +kernel
theorem dL_law_885 : decode cL_law 885 = .ok (.iadd, 1) := by decide +kernel
theorem dL_law_886 : decode cL_law 886 = .ok (.iaload, 1) := by decide +kernel
theorem dL_law_887 : decode cL_law 887 = .ok (.invokevirtual 93, 3) := by decide +kernel
theorem dL_law_890 : decode cL_law 890 = .ok (.lcmp, 1) := by decide +kernel
theorem dL_law_891 : decode cL_law 891 = .ok (.ifCond .eq 349, 3) := by decide +kernel
theorem dL_law_894 : decode cL_law 894 = .ok (.iconst 0, 1) := by decide +kernel
theorem dL_law_895 : decode cL_law 895 = .ok (.ireturn, 1) := by decide +kernel
theorem dL_law_896 : decode cL_law 896 = .ok (.aload_n 1, 1) := by decide +kernel
theorem dL_law_897 : decode cL_law 897 = .ok (.aload_n 0, 1) := by decide +kernel
theorem dL_law_898 : decode cL_law 898 = .ok (.iload_n 3, 1) := by decide +kernel
theorem dL_law_899 : decode cL_law 899 = .ok (.iconst 1, 1) := by decide +kernel
theorem dL_law_900 : decode cL_law 900 = .ok (.iadd, 1) := by decide +kernel
theorem dL_law_901 : decode cL_law 901 = .ok (.iaload, 1) := by decide +kernel
theorem dL_law_902 : decode cL_law 902 = .ok (.aload_n 0, 1) := by decide +kernel
theorem dL_law_903 : decode cL_law 903 = .ok (.iload_n 3, 1) := by decide +kernel
theorem dL_law_904 : decode cL_law 904 = .ok (.iconst 2, 1) := by decide +kernel
theorem dL_law_905 : decode cL_law 905 = .ok (.iadd, 1) := by decide +kernel
theorem dL_law_906 : decode cL_law 906 = .ok (.iaload, 1) := by decide +kernel
theorem dL_law_907 : decode cL_law 907 = .ok (.aload_n 0, 1) := by decide +kernel
theorem dL_law_908 : decode cL_law 908 = .ok (.iload_n 3, 1) := by decide +kernel
theorem dL_law_909 : decode cL_law 909 = .ok (.iconst 3, 1) := by decide +kernel
theorem dL_law_910 : decode cL_law 910 = .ok (.iadd, 1) := by decide +kernel
theorem dL_law_911 : decode cL_law 911 = .ok (.iaload, 1) := by decide +kernel
theorem dL_law_912 : decode cL_law 912 = .ok (.invokevirtual 94, 3) := by decide +kernel
theorem dL_law_915 : decode cL_law 915 = .ok (.aload_n 2, 1) := by decide +kernel
theorem dL_law_916 : decode cL_law 916 = .ok (.aload_n 0, 1) := by decide +kernel
theorem dL_law_917 : decode cL_law 917 = .ok (.iload_n 3, 1) := by decide +kernel
theorem dL_law_918 : decode cL_law 918 = .ok (.iconst 1, 1) := by decide +kernel
theorem dL_law_919 : decode cL_law 919 = .ok (.iadd, 1) := by decide +kernel
theorem dL_law_920 : decode cL_law 920 = .ok (.iaload, 1) := by decide +kernel
theorem dL_law_921 : decode cL_law 921 = .ok (.aload_n 0, 1) := by decide +kernel
theorem dL_law_922 : decode cL_law 922 = .ok (.iload_n 3, 1) := by decide +kernel
theorem dL_law_923 : decode cL_law 923 = .ok (.iconst 2, 1) := by decide +kernel
theorem dL_law_924 : decode cL_law 924 = .ok (.iadd, 1) := by decide +kernel
theorem dL_law_925 : decode cL_law 925 = .ok (.iaload, 1) := by decide +kernel
theorem dL_law_926 : decode cL_law 926 = .ok (.aload_n 0, 1) := by decide +kernel
theorem dL_law_927 : decode cL_law 927 = .ok (.iload_n 3, 1) := by decide +kernel
theorem dL_law_928 : decode cL_law 928 = .ok (.iconst 3, 1) := by decide +kernel
theorem dL_law_929 : decode cL_law 929 = .ok (.iadd, 1) := by decide +kernel
theorem dL_law_930 : decode cL_law 930 = .ok (.iaload, 1) := by decide +kernel
theorem dL_law_931 : decode cL_law 931 = .ok (.invokevirtual 97, 3) := by decide +kernel
theorem dL_law_934 : decode cL_law 934 = .ok (.if_icmp .eq 306, 3) := by decide +kernel
theorem dL_law_937 : decode cL_law 937 = .ok (.iconst 0, 1) := by decide +kernel
theorem dL_law_938 : decode cL_law 938 = .ok (.ireturn, 1) := by decide +kernel
theorem dL_law_939 : decode cL_law 939 = .ok (.aload_n 1, 1) := by decide +kernel
theorem dL_law_940 : decode cL_law 940 = .ok (.aload_n 0, 1) := by decide +kernel
theorem dL_law_941 : decode cL_law 941 = .ok (.iload_n 3, 1) := by decide +kernel
theorem dL_law_942 : decode cL_law 942 = .ok (.iconst 1, 1) := by decide +kernel
theorem dL_law_943 : decode cL_law 943 = .ok (.iadd, 1) := by decide +kernel
theorem dL_law_944 : decode cL_law 944 = .ok (.iaload, 1) := by decide +kernel
theorem dL_law_945 : decode cL_law 945 = .ok (.invokevirtual 98, 3) := by decide +kernel
theorem dL_law_948 : decode cL_law 948 = .ok (.aload_n 2, 1) := by decide +kernel
theorem dL_law_949 : decode cL_law 949 = .ok (.aload_n 0, 1) := by decide +kernel
theorem dL_law_950 : decode cL_law 950 = .ok (.iload_n 3, 1) := by decide +kernel
theorem dL_law_951 : decode cL_law 951 = .ok (.iconst 1, 1) := by decide +kernel
theorem dL_law_952 : decode cL_law 952 = .ok (.iadd, 1) := by decide +kernel
theorem dL_law_953 : decode cL_law 953 = .ok (.iaload, 1) := by decide +kernel
theorem dL_law_954 : decode cL_law 954 = .ok (.invokevirtual 101, 3) := by decide +kernel
theorem dL_law_957 : decode cL_law 957 = .ok (.if_icmp .eq 283, 3) := by decide +kernel
theorem dL_law_960 : decode cL_law 960 = .ok (.iconst 0, 1) := by decide +kernel
theorem dL_law_961 : decode cL_law 961 = .ok (.ireturn, 1) := by decide +kernel
theorem dL_law_962 : decode cL_law 962 = .ok (.aload_n 1, 1) := by decide +kernel
theorem dL_law_963 : decode cL_law 963 = .ok (.aload_n 0, 1) := by decide +kernel
theorem dL_law_964 : decode cL_law 964 = .ok (.iload_n 3, 1) := by decide +kernel
theorem dL_law_965 : decode cL_law 965 = .ok (.iconst 1, 1) := by decide +kernel
theorem dL_law_966 : decode cL_law 966 = .ok (.iadd, 1) := by decide +kernel
theorem dL_law_967 : decode cL_law 967 = .ok (.iaload, 1) := by decide +kernel
theorem dL_law_968 : decode cL_law 968 = .ok (.aload_n 0, 1) := by decide +kernel
theorem dL_law_969 : decode cL_law 969 = .ok (.iload_n 3, 1) := by decide +kernel
theorem dL_law_970 : decode cL_law 970 = .ok (.iconst 2, 1) := by decide +kernel
theorem dL_law_971 : decode cL_law 971 = .ok (.iadd, 1) := by decide +kernel
theorem dL_law_972 : decode cL_law 972 = .ok (.iaload, 1) := by decide +kernel
theorem dL_law_973 : decode cL_law 973 = .ok (.aload_n 0, 1) := by decide +kernel
theorem dL_law_974 : decode cL_law 974 = .ok (.iload_n 3, 1) := by decide +kernel
theorem dL_law_975 : decode cL_law 975 = .ok (.iconst 3, 1) := by decide +kernel
theorem dL_law_976 : decode cL_law 976 = .ok (.iadd, 1) := by decide +kernel
theorem dL_law_977 : decode cL_law 977 = .ok (.iaload, 1) := by decide +kernel
theorem dL_law_978 : decode cL_law 978 = .ok (.invokevirtual 102, 3) := by decide +kernel
theorem dL_law_981 : decode cL_law 981 = .ok (.aload_n 2, 1) := by decide +kernel
theorem dL_law_982 : decode cL_law 982 = .ok (.aload_n 0, 1) := by decide +kernel
theorem dL_law_983 : decode cL_law 983 = .ok (.iload_n 3, 1) := by decide +kernel
theorem dL_law_984 : decode cL_law 984 = .ok (.iconst 1, 1) := by decide +kernel
theorem dL_law_985 : decode cL_law 985 = .ok (.iadd, 1) := by decide +kernel
theorem dL_law_986 : decode cL_law 986 = .ok (.iaload, 1) := by decide +kernel
theorem dL_law_987 : decode cL_law 987 = .ok (.aload_n 0, 1) := by decide +kernel
theorem dL_law_988 : decode cL_law 988 = .ok (.iload_n 3, 1) := by decide +kernel
theorem dL_law_989 : decode cL_law 989 = .ok (.iconst 2, 1) := by decide +kernel
theorem dL_law_990 : decode cL_law 990 = .ok (.iadd, 1) := by decide +kernel
theorem dL_law_991 : decode cL_law 991 = .ok (.iaload, 1) := by decide +kernel
theorem dL_law_992 : decode cL_law 992 = .ok (.aload_n 0, 1) := by decide +kernel
theorem dL_law_993 : decode cL_law 993 = .ok (.iload_n 3, 1) := by decide +kernel
theorem dL_law_994 : decode cL_law 994 = .ok (.iconst 3, 1) := by decide +kernel
theorem dL_law_995 : decode cL_law 995 = .ok (.iadd, 1) := by decide +kernel
theorem dL_law_996 : decode cL_law 996 = .ok (.iaload, 1) := by decide +kernel
theorem dL_law_997 : decode cL_law 997 = .ok (.invokevirtual 105, 3) := by decide +kernel
theorem dL_law_1000 : decode cL_law 1000 = .ok (.if_icmp .eq 240, 3) := by decide +kernel
theorem dL_law_1003 : decode cL_law 1003 = .ok (.iconst 0, 1) := by decide +kernel
theorem dL_law_1004 : decode cL_law 1004 = .ok (.ireturn, 1) := by decide +kernel
theorem dL_law_1005 : decode cL_law 1005 = .ok (.aload_n 1, 1) := by decide +kernel
theorem dL_law_1006 : decode cL_law 1006 = .ok (.aload_n 0, 1) := by decide +kernel
theorem dL_law_1007 : decode cL_law 1007 = .ok (.iload_n 3, 1) := by decide +kernel
theorem dL_law_1008 : decode cL_law 1008 = .ok (.iconst 1, 1) := by decide +kernel
theorem dL_law_1009 : decode cL_law 1009 = .ok (.iadd, 1) := by decide +kernel
theorem dL_law_1010 : decode cL_law 1010 = .ok (.iaload, 1) := by decide +kernel
theorem dL_law_1011 : decode cL_law 1011 = .ok (.aload_n 0, 1) := by decide +kernel
theorem dL_law_1012 : decode cL_law 1012 = .ok (.iload_n 3, 1) := by decide +kernel
theorem dL_law_1013 : decode cL_law 1013 = .ok (.iconst 2, 1) := by decide +kernel
theorem dL_law_1014 : decode cL_law 1014 = .ok (.iadd, 1) := by decide +kernel
theorem dL_law_1015 : decode cL_law 1015 = .ok (.iaload, 1) := by decide +kernel
theorem dL_law_1016 : decode cL_law 1016 = .ok (.aload_n 0, 1) := by decide +kernel
theorem dL_law_1017 : decode cL_law 1017 = .ok (.iload_n 3, 1) := by decide +kernel
theorem dL_law_1018 : decode cL_law 1018 = .ok (.iconst 3, 1) := by decide +kernel
theorem dL_law_1019 : decode cL_law 1019 = .ok (.iadd, 1) := by decide +kernel
theorem dL_law_1020 : decode cL_law 1020 = .ok (.iaload, 1) := by decide +kernel
theorem dL_law_1021 : decode cL_law 1021 = .ok (.invokevirtual 106, 3) := by decide +kernel
theorem dL_law_1024 : decode cL_law 1024 = .ok (.aload_n 2, 1) := by decide +kernel
theorem dL_law_1025 : decode cL_law 1025 = .ok (.aload_n 0, 1) := by decide +kernel
theorem dL_law_1026 : decode cL_law 1026 = .ok (.iload_n 3, 1) := by decide +kernel
theorem dL_law_1027 : decode cL_law 1027 = .ok (.iconst 1, 1) := by decide +kernel
theorem dL_law_1028 : decode cL_law 1028 = .ok (.iadd, 1) := by decide +kernel
theorem dL_law_1029 : decode cL_law 1029 = .ok (.iaload, 1) := by decide +kernel
theorem dL_law_1030 : decode cL_law 1030 = .ok (.aload_n 0, 1) := by decide +kernel
theorem dL_law_1031 : decode cL_law 1031 = .ok (.iload_n 3, 1) := by decide +kernel
theorem dL_law_1032 : decode cL_law 1032 = .ok (.iconst 2, 1) := by decide +kernel
theorem dL_law_1033 : decode cL_law 1033 = .ok (.iadd, 1) := by decide +kernel
theorem dL_law_1034 : decode cL_law 1034 = .ok (.iaload, 1) := by decide +kernel
theorem dL_law_1035 : decode cL_law 1035 = .ok (.aload_n 0, 1) := by decide +kernel
theorem dL_law_1036 : decode cL_law 1036 = .ok (.iload_n 3, 1) := by decide +kernel
theorem dL_law_1037 : decode cL_law 1037 = .ok (.iconst 3, 1) := by decide +kernel
theorem dL_law_1038 : decode cL_law 1038 = .ok (.iadd, 1) := by decide +kernel
theorem dL_law_1039 : decode cL_law 1039 = .ok (.iaload, 1) := by decide +kernel
theorem dL_law_1040 : decode cL_law 1040 = .ok (.invokevirtual 110, 3) := by decide +kernel
theorem dL_law_1043 : decode cL_law 1043 = .ok (.lcmp, 1) := by decide +kernel
theorem dL_law_1044 : decode cL_law 1044 = .ok (.ifCond .eq 196, 3) := by decide +kernel
theorem dL_law_1047 : decode cL_law 1047 = .ok (.iconst 0, 1) := by decide +kernel
theorem dL_law_1048 : decode cL_law 1048 = .ok (.ireturn, 1) := by decide +kernel
theorem dL_law_1049 : decode cL_law 1049 = .ok (.aload_n 1, 1) := by decide +kernel
theorem dL_law_1050 : decode cL_law 1050 = .ok (.aload_n 0, 1) := by decide +kernel
theorem dL_law_1051 : decode cL_law 1051 = .ok (.iload_n 3, 1) := by decide +kernel
theorem dL_law_1052 : decode cL_law 1052 = .ok (.iconst 1, 1) := by decide +kernel
theorem dL_law_1053 : decode cL_law 1053 = .ok (.iadd, 1) := by decide +kernel
theorem dL_law_1054 : decode cL_law 1054 = .ok (.iaload, 1) := by decide +kernel
theorem dL_law_1055 : decode cL_law 1055 = .ok (.aload_n 0, 1) := by decide +kernel
theorem dL_law_1056 : decode cL_law 1056 = .ok (.iload_n 3, 1) := by decide +kernel
theorem dL_law_1057 : decode cL_law 1057 = .ok (.iconst 2, 1) := by decide +kernel
theorem dL_law_1058 : decode cL_law 1058 = .ok (.iadd, 1) := by decide +kernel
theorem dL_law_1059 : decode cL_law 1059 = .ok (.iaload, 1) := by decide +kernel
theorem dL_law_1060 : decode cL_law 1060 = .ok (.aload_n 0, 1) := by decide +kernel
theorem dL_law_1061 : decode cL_law 1061 = .ok (.iload_n 3, 1) := by decide +kernel
theorem dL_law_1062 : decode cL_law 1062 = .ok (.iconst 3, 1) := by decide +kernel
theorem dL_law_1063 : decode cL_law 1063 = .ok (.iadd, 1) := by decide +kernel
theorem dL_law_1064 : decode cL_law 1064 = .ok (.iaload, 1) := by decide +kernel
theorem dL_law_1065 : decode cL_law 1065 = .ok (.aload_n 0, 1) := by decide +kernel
theorem dL_law_1066 : decode cL_law 1066 = .ok (.iload_n 3, 1) := by decide +kernel
theorem dL_law_1067 : decode cL_law 1067 = .ok (.iconst 4, 1) := by decide +kernel
theorem dL_law_1068 : decode cL_law 1068 = .ok (.iadd, 1) := by decide +kernel
theorem dL_law_1069 : decode cL_law 1069 = .ok (.iaload, 1) := by decide +kernel
theorem dL_law_1070 : decode cL_law 1070 = .ok (.aload_n 0, 1) := by decide +kernel
theorem dL_law_1071 : decode cL_law 1071 = .ok (.iload_n 3, 1) := by decide +kernel
theorem dL_law_1072 : decode cL_law 1072 = .ok (.iconst 5, 1) := by decide +kernel
theorem dL_law_1073 : decode cL_law 1073 = .ok (.iadd, 1) := by decide +kernel
theorem dL_law_1074 : decode cL_law 1074 = .ok (.iaload, 1) := by decide +kernel
theorem dL_law_1075 : decode cL_law 1075 = .ok (.invokevirtual 111, 3) := by decide +kernel
theorem dL_law_1078 : decode cL_law 1078 = .ok (.aload_n 2, 1) := by decide +kernel
theorem dL_law_1079 : decode cL_law 1079 = .ok (.aload_n 0, 1) := by decide +kernel
theorem dL_law_1080 : decode cL_law 1080 = .ok (.iload_n 3, 1) := by decide +kernel
theorem dL_law_1081 : decode cL_law 1081 = .ok (.iconst 1, 1) := by decide +kernel
theorem dL_law_1082 : decode cL_law 1082 = .ok (.iadd, 1) := by decide +kernel
theorem dL_law_1083 : decode cL_law 1083 = .ok (.iaload, 1) := by decide +kernel
theorem dL_law_1084 : decode cL_law 1084 = .ok (.aload_n 0, 1) := by decide +kernel
theorem dL_law_1085 : decode cL_law 1085 = .ok (.iload_n 3, 1) := by decide +kernel
theorem dL_law_1086 : decode cL_law 1086 = .ok (.iconst 2, 1) := by decide +kernel
theorem dL_law_1087 : decode cL_law 1087 = .ok (.iadd, 1) := by decide +kernel
theorem dL_law_1088 : decode cL_law 1088 = .ok (.iaload, 1) := by decide +kernel
theorem dL_law_1089 : decode cL_law 1089 = .ok (.aload_n 0, 1) := by decide +kernel
theorem dL_law_1090 : decode cL_law 1090 = .ok (.iload_n 3, 1) := by decide +kernel
theorem dL_law_1091 : decode cL_law 1091 = .ok (.iconst 3, 1) := by decide +kernel
theorem dL_law_1092 : decode cL_law 1092 = .ok (.iadd, 1) := by decide +kernel
theorem dL_law_1093 : decode cL_law 1093 = .ok (.iaload, 1) := by decide +kernel
theorem dL_law_1094 : decode cL_law 1094 = .ok (.aload_n 0, 1) := by decide +kernel
theorem dL_law_1095 : decode cL_law 1095 = .ok (.iload_n 3, 1) := by decide +kernel
theorem dL_law_1096 : decode cL_law 1096 = .ok (.iconst 4, 1) := by decide +kernel
theorem dL_law_1097 : decode cL_law 1097 = .ok (.iadd, 1) := by decide +kernel
theorem dL_law_1098 : decode cL_law 1098 = .ok (.iaload, 1) := by decide +kernel
theorem dL_law_1099 : decode cL_law 1099 = .ok (.aload_n 0, 1) := by decide +kernel
theorem dL_law_1100 : decode cL_law 1100 = .ok (.iload_n 3, 1) := by decide +kernel
theorem dL_law_1101 : decode cL_law 1101 = .ok (.iconst 5, 1) := by decide +kernel
theorem dL_law_1102 : decode cL_law 1102 = .ok (.iadd, 1) := by decide +kernel
theorem dL_law_1103 : decode cL_law 1103 = .ok (.iaload, 1) := by decide +kernel
theorem dL_law_1104 : decode cL_law 1104 = .ok (.invokevirtual 115, 3) := by decide +kernel
theorem dL_law_1107 : decode cL_law 1107 = .ok (.if_icmp .eq 133, 3) := by decide +kernel
theorem dL_law_1110 : decode cL_law 1110 = .ok (.iconst 0, 1) := by decide +kernel
theorem dL_law_1111 : decode cL_law 1111 = .ok (.ireturn, 1) := by decide +kernel
theorem dL_law_1112 : decode cL_law 1112 = .ok (.aload_n 1, 1) := by decide +kernel
theorem dL_law_1113 : decode cL_law 1113 = .ok (.aload_n 0, 1) := by decide +kernel
theorem dL_law_1114 : decode cL_law 1114 = .ok (.iload_n 3, 1) := by decide +kernel
theorem dL_law_1115 : decode cL_law 1115 = .ok (.iconst 1, 1) := by decide +kernel
theorem dL_law_1116 : decode cL_law 1116 = .ok (.iadd, 1) := by decide +kernel
theorem dL_law_1117 : decode cL_law 1117 = .ok (.iaload, 1) := by decide +kernel
theorem dL_law_1118 : decode cL_law 1118 = .ok (.invokevirtual 116, 3) := by decide +kernel
theorem dL_law_1121 : decode cL_law 1121 = .ok (.aload_n 2, 1) := by decide +kernel
theorem dL_law_1122 : decode cL_law 1122 = .ok (.aload_n 0, 1) := by decide +kernel
theorem dL_law_1123 : decode cL_law 1123 = .ok (.iload_n 3, 1) := by decide +kernel
theorem dL_law_1124 : decode cL_law 1124 = .ok (.iconst 1, 1) := by decide +kernel
theorem dL_law_1125 : decode cL_law 1125 = .ok (.iadd, 1) := by decide +kernel
theorem dL_law_1126 : decode cL_law 1126 = .ok (.iaload, 1) := by decide +kernel
theorem dL_law_1127 : decode cL_law 1127 = .ok (.invokevirtual 119, 3) := by decide +kernel
theorem dL_law_1130 : decode cL_law 1130 = .ok (.if_icmp .eq 110, 3) := by decide +kernel
theorem dL_law_1133 : decode cL_law 1133 = .ok (.iconst 0, 1) := by decide +kernel
theorem dL_law_1134 : decode cL_law 1134 = .ok (.ireturn, 1) := by decide +kernel
theorem dL_law_1135 : decode cL_law 1135 = .ok (.aload_n 1, 1) := by decide +kernel
theorem dL_law_1136 : decode cL_law 1136 = .ok (.aload_n 0, 1) := by decide +kernel
theorem dL_law_1137 : decode cL_law 1137 = .ok (.iload_n 3, 1) := by decide +kernel
theorem dL_law_1138 : decode cL_law 1138 = .ok (.iconst 1, 1) := by decide +kernel
theorem dL_law_1139 : decode cL_law 1139 = .ok (.iadd, 1) := by decide +kernel
theorem dL_law_1140 : decode cL_law 1140 = .ok (.iaload, 1) := by decide +kernel
theorem dL_law_1141 : decode cL_law 1141 = .ok (.invokevirtual 120, 3) := by decide +kernel
theorem dL_law_1144 : decode cL_law 1144 = .ok (.aload_n 2, 1) := by decide +kernel
theorem dL_law_1145 : decode cL_law 1145 = .ok (.aload_n 0, 1) := by decide +kernel
theorem dL_law_1146 : decode cL_law 1146 = .ok (.iload_n 3, 1) := by decide +kernel
theorem dL_law_1147 : decode cL_law 1147 = .ok (.iconst 1, 1) := by decide +kernel
theorem dL_law_1148 : decode cL_law 1148 = .ok (.iadd, 1) := by decide +kernel
theorem dL_law_1149 : decode cL_law 1149 = .ok (.iaload, 1) := by decide +kernel
theorem dL_law_1150 : decode cL_law 1150 = .ok (.invokevirtual 123, 3) := by decide +kernel
theorem dL_law_1153 : decode cL_law 1153 = .ok (.if_icmp .eq 87, 3) := by decide +kernel
theorem dL_law_1156 : decode cL_law 1156 = .ok (.iconst 0, 1) := by decide +kernel
theorem dL_law_1157 : decode cL_law 1157 = .ok (.ireturn, 1) := by decide +kernel
theorem dL_law_1158 : decode cL_law 1158 = .ok (.aload_n 1, 1) := by decide +kernel
theorem dL_law_1159 : decode cL_law 1159 = .ok (.aload_n 0, 1) := by decide +kernel
theorem dL_law_1160 : decode cL_law 1160 = .ok (.iload_n 3, 1) := by decide +kernel
theorem dL_law_1161 : decode cL_law 1161 = .ok (.iconst 1, 1) := by decide +kernel
theorem dL_law_1162 : decode cL_law 1162 = .ok (.iadd, 1) := by decide +kernel
theorem dL_law_1163 : decode cL_law 1163 = .ok (.iaload, 1) := by decide +kernel
theorem dL_law_1164 : decode cL_law 1164 = .ok (.aload_n 0, 1) := by decide +kernel
theorem dL_law_1165 : decode cL_law 1165 = .ok (.iload_n 3, 1) := by decide +kernel
theorem dL_law_1166 : decode cL_law 1166 = .ok (.iconst 2, 1) := by decide +kernel
theorem dL_law_1167 : decode cL_law 1167 = .ok (.iadd, 1) := by decide +kernel
theorem dL_law_1168 : decode cL_law 1168 = .ok (.iaload, 1) := by decide +kernel
theorem dL_law_1169 : decode cL_law 1169 = .ok (.invokevirtual 124, 3) := by decide +kernel
theorem dL_law_1172 : decode cL_law 1172 = .ok (.aload_n 2, 1) := by decide +kernel
theorem dL_law_1173 : decode cL_law 1173 = .ok (.aload_n 0, 1) := by decide +kernel
theorem dL_law_1174 : decode cL_law 1174 = .ok (.iload_n 3, 1) := by decide +kernel
theorem dL_law_1175 : decode cL_law 1175 = .ok (.iconst 1, 1) := by decide +kernel
theorem dL_law_1176 : decode cL_law 1176 = .ok (.iadd, 1) := by decide +kernel
theorem dL_law_1177 : decode cL_law 1177 = .ok (.iaload, 1) := by decide +kernel
theorem dL_law_1178 : decode cL_law 1178 = .ok (.aload_n 0, 1) := by decide +kernel
theorem dL_law_1179 : decode cL_law 1179 = .ok (.iload_n 3, 1) := by decide +kernel
theorem dL_law_1180 : decode cL_law 1180 = .ok (.iconst 2, 1) := by decide +kernel
theorem dL_law_1181 : decode cL_law 1181 = .ok (.iadd, 1) := by decide +kernel
theorem dL_law_1182 : decode cL_law 1182 = .ok (.iaload, 1) := by decide +kernel
theorem dL_law_1183 : decode cL_law 1183 = .ok (.invokevirtual 127, 3) := by decide +kernel
theorem dL_law_1186 : decode cL_law 1186 = .ok (.if_icmp .eq 54, 3) := by decide +kernel
theorem dL_law_1189 : decode cL_law 1189 = .ok (.iconst 0, 1) := by decide +kernel
theorem dL_law_1190 : decode cL_law 1190 = .ok (.ireturn, 1) := by decide +kernel
theorem dL_law_1191 : decode cL_law 1191 = .ok (.aload_n 1, 1) := by decide +kernel
theorem dL_law_1192 : decode cL_law 1192 = .ok (.invokevirtual 128, 3) := by decide +kernel
theorem dL_law_1195 : decode cL_law 1195 = .ok (.aload_n 2, 1) := by decide +kernel
theorem dL_law_1196 : decode cL_law 1196 = .ok (.invokevirtual 132, 3) := by decide +kernel
theorem dL_law_1199 : decode cL_law 1199 = .ok (.if_icmp .eq 41, 3) := by decide +kernel
theorem dL_law_1202 : decode cL_law 1202 = .ok (.iconst 0, 1) := by decide +kernel
theorem dL_law_1203 : decode cL_law 1203 = .ok (.ireturn, 1) := by decide +kernel
theorem dL_law_1204 : decode cL_law 1204 = .ok (.aload_n 1, 1) := by decide +kernel
theorem dL_law_1205 : decode cL_law 1205 = .ok (.invokevirtual 133, 3) := by decide +kernel
theorem dL_law_1208 : decode cL_law 1208 = .ok (.aload_n 2, 1) := by decide +kernel
theorem dL_law_1209 : decode cL_law 1209 = .ok (.invokevirtual 136, 3) := by decide +kernel
theorem dL_law_1212 : decode cL_law 1212 = .ok (.if_icmp .eq 28, 3) := by decide +kernel
theorem dL_law_1215 : decode cL_law 1215 = .ok (.iconst 0, 1) := by decide +kernel
theorem dL_law_1216 : decode cL_law 1216 = .ok (.ireturn, 1) := by decide +kernel
theorem dL_law_1217 : decode cL_law 1217 = .ok (.aload_n 1, 1) := by decide +kernel
theorem dL_law_1218 : decode cL_law 1218 = .ok (.aload_n 0, 1) := by decide +kernel
theorem dL_law_1219 : decode cL_law 1219 = .ok (.iload_n 3, 1) := by decide +kernel
theorem dL_law_1220 : decode cL_law 1220 = .ok (.iconst 1, 1) := by decide +kernel
theorem dL_law_1221 : decode cL_law 1221 = .ok (.iadd, 1) := by decide +kernel
theorem dL_law_1222 : decode cL_law 1222 = .ok (.iaload, 1) := by decide +kernel
theorem dL_law_1223 : decode cL_law 1223 = .ok (.invokevirtual 137, 3) := by decide +kernel
theorem dL_law_1226 : decode cL_law 1226 = .ok (.aload_n 2, 1) := by decide +kernel
theorem dL_law_1227 : decode cL_law 1227 = .ok (.aload_n 0, 1) := by decide +kernel
theorem dL_law_1228 : decode cL_law 1228 = .ok (.iload_n 3, 1) := by decide +kernel
theorem dL_law_1229 : decode cL_law 1229 = .ok (.iconst 1, 1) := by decide +kernel
theorem dL_law_1230 : decode cL_law 1230 = .ok (.iadd, 1) := by decide +kernel
theorem dL_law_1231 : decode cL_law 1231 = .ok (.iaload, 1) := by decide +kernel
theorem dL_law_1232 : decode cL_law 1232 = .ok (.invokevirtual 140, 3) := by decide +kernel
theorem dL_law_1235 : decode cL_law 1235 = .ok (.if_icmp .eq 5, 3) := by decide +kernel
theorem dL_law_1238 : decode cL_law 1238 = .ok (.iconst 0, 1) := by decide +kernel
theorem dL_law_1239 : decode cL_law 1239 = .ok (.ireturn, 1) := by decide +kernel
theorem dL_law_1240 : decode cL_law 1240 = .ok (.iinc 3 6, 3) := by decide +kernel
theorem dL_law_1243 : decode cL_law 1243 = .ok (.goto (-1225), 3) := by decide +kernel
theorem dL_law_1246 : decode cL_law 1246 = .ok (.iconst 1, 1) := by decide +kernel
theorem dL_law_1247 : decode cL_law 1247 = .ok (.ireturn, 1) := by decide +kernel
end
section
/-! THE WORLD: every cell of the class's object and of the reference's object, by kind and number. Kinds: 0 WordHedges, 1 Row, 2 Rings, 3 Trace, 4 sheets, 5 Sheet, 6 a Sheet's cells, 7 wanted, 8 borders, 9 Border, 10 a Border's Hedge, 11 words, 12 a row of words (2 h + side), 13 inches, 14 a row of inches, 15 clips, 16 the Rings' rows, 17 the reference, 18 its rows. -/
abbrev XC : Type := va_G × (Nat → ClassId) × (Nat → Nat → Nat) × Nat × Nat
abbrev XS : Type := (Nat → Nat → Nat → Int32) × (Nat → Nat → Nat → Int32) × (Nat → Nat) × (Nat → Nat)
/-- a number field: of kind k, field f, object j -/
def gS (z : XS) (k f j : Nat) : Int32 := z.1 k f j
/-- a place of a row of numbers: of kind k, row j, place i -/
def gA (z : XS) (k j i : Nat) : Int32 := z.2.1 k j i
def pS (z : XS) (k f j : Nat) (v : Int32) : XS := (fun k' f' j' => if k' = k ∧ f' = f ∧ j' = j then v else z.1 k' f' j', z.2)
def pA (z : XS) (k j i : Nat) (v : Int32) : XS := (z.1, fun k' j' i' => if k' = k ∧ j' = j ∧ i' = i then v else z.2.1 k' j' i', z.2.2)
def xcnt (k : Nat) : Nat := match k with
  | 0 => 1 | 1 => 1 | 2 => 1 | 3 => 1 | 4 => 1 | 5 => 4 | 6 => 4 | 7 => 1 | 8 => 1 | 9 => 6 | 10 => 6 | 11 => 6 | 12 => 12 | 13 => 6 | 14 => 12 | 15 => 6 | 16 => 4 | 17 => 1 | 18 => 17 | _ => 0
def xl18 (j : Nat) : Nat := match j with
  | 0 => 7 | 1 => 6 | 2 => 6 | 3 => 420 | 4 => 180 | 5 => 7 | 6 => 6 | 7 => 6 | 8 => 10 | 9 => 10 | 10 => 10 | 11 => 10 | 12 => 60 | 13 => 4 | 14 => 4 | 15 => 240 | _ => 60
def xlen (k j : Nat) : Nat := match k with
  | 6 => 60 | 7 => 7 | 12 => 30 | 14 => 31 | 15 => 30 | 16 => 10 | 18 => xl18 j | _ => 0
def xisI (k : Nat) : Bool := match k with
  | 6 => true | 7 => true | 12 => true | 14 => true | 15 => true | 16 => true | 18 => true | _ => false
def xrf (q : ClassId) (n : Nat) (f : Nat → Nat) : va_E := .inl (q, n, .inr (.inr (.inr (.inr (fun i => some (f i))))))
def xrI (X : XC) (n : Nat) (f : Nat → Int32) : va_E := .inl (X.2.1 0, n, .inl f)
/-- a cell by its kind and number, out of its own numbers -/
def xcf (X : XC) (k j : Nat) (sc ar : Nat → Int32) (ha hk : Nat) : va_E := match k with
  | 0 => .inr (8, [.ref (X.2.2.1 1 0), .ref (X.2.2.1 2 0), .ref (X.2.2.1 3 0), .ref (X.2.2.1 4 0), .int (sc 4)])
  | 1 => .inr (4, [.ref (X.2.2.1 7 0), .ref (X.2.2.1 8 0), .int (sc 2)])
  | 2 => .inr (3, [.ref (X.2.2.1 16 0), .ref (X.2.2.1 16 1), .ref (X.2.2.1 16 2), .ref (X.2.2.1 16 3), .int (sc 4)])
  | 3 => .inr (6, [.int (sc 0)])
  | 4 => xrf (X.2.1 3) 4 (fun i => X.2.2.1 5 i)
  | 5 => .inr (5, [.ref (X.2.2.1 6 j), .int (sc 1), .int (sc 2)])
  | 6 => xrI X 60 ar
  | 7 => xrI X 7 ar
  | 8 => xrf (X.2.1 2) 6 (fun i => X.2.2.1 9 i)
  | 9 => .inr (0, [.ref ha, .ref (X.2.2.1 11 j), .ref (X.2.2.1 13 j), .ref (X.2.2.1 15 j)])
  | 10 => .inr (hk, [.int (sc 0), .int (sc 1)])
  | 11 => xrf (X.2.1 1) 2 (fun i => X.2.2.1 12 (2 * j + i))
  | 12 => xrI X 30 ar
  | 13 => xrf (X.2.1 1) 2 (fun i => X.2.2.1 14 (2 * j + i))
  | 14 => xrI X 31 ar
  | 15 => xrI X 30 ar
  | 16 => xrI X 10 ar
  | 17 => .inr (9, [.int (sc 0), .int (sc 1), .ref (X.2.2.1 18 0), .ref (X.2.2.1 18 1), .ref (X.2.2.1 18 2), .ref (X.2.2.1 18 3), .ref (X.2.2.1 18 4), .int (sc 7), .int (sc 8), .ref (X.2.2.1 18 5), .ref (X.2.2.1 18 6), .ref (X.2.2.1 18 7), .int (sc 12), .ref (X.2.2.1 18 8), .ref (X.2.2.1 18 9), .ref (X.2.2.1 18 10), .ref (X.2.2.1 18 11), .ref (X.2.2.1 18 12), .ref (X.2.2.1 18 13), .ref (X.2.2.1 18 14), .ref (X.2.2.1 18 15), .ref (X.2.2.1 18 16), .int (sc 22)])
  | 18 => xrI X (xl18 j) ar
  | _ => xrI X 0 ar
def xct (X : XC) (z : XS) (k j : Nat) : va_E := xcf X k j (fun f => gS z k f j) (fun i => gA z k j i) (z.2.2.1 j) (z.2.2.2 j)
/-- where a cell lies -/
def xad (X : XC) (z : XS) (k j : Nat) : Nat := match k with
  | 10 => z.2.2.1 j
  | k => X.2.2.1 k j
def xids : List (Nat × Nat) := (List.range 19).flatMap fun k => (List.range (xcnt k)).map fun j => (k, j)
def xf (X : XC) (z : XS) (q : Nat × Nat) : Nat × va_E := (xad X z q.1 q.2, xct X z q.1 q.2)
def xcells (X : XC) (z : XS) : va_W := xids.map (xf X z)
theorem xcnt_lt {k j : Nat} (h : j < xcnt k) : k < 19 := by
  rcases Nat.lt_or_ge k 19 with q | q
  · exact q
  · exfalso
    have e : xcnt k = 0 := by
      unfold xcnt
      split <;> first | rfl | omega
    omega
theorem x_mem {k j : Nat} (h : j < xcnt k) : (k, j) ∈ xids := by
  unfold xids
  rw [List.mem_flatMap]
  exact ⟨k, List.mem_range.mpr (xcnt_lt h), List.mem_map.mpr ⟨j, List.mem_range.mpr h, rfl⟩⟩
theorem x_of_mem {q : Nat × Nat} (h : q ∈ xids) : q.2 < xcnt q.1 := by
  unfold xids at h
  rw [List.mem_flatMap] at h
  obtain ⟨k, -, h⟩ := h
  obtain ⟨j, h1, h2⟩ := List.mem_map.mp h
  subst h2
  exact List.mem_range.mp h1
theorem x_place (X : XC) (z : XS) (ex : va_W) {k j : Nat} (h : j < xcnt k) : ∃ n : Nat, (xcells X z ++ ex)[n]? = some (xad X z k j, xct X z k j) := by
  apply List.getElem?_of_mem
  exact List.mem_append_left _ (List.mem_map.mpr ⟨(k, j), x_mem h, rfl⟩)
theorem x_set {A : Nat → Prop} {ids : List (Nat × Nat)} {f g : Nat × Nat → Nat × va_E} {ex : va_W} {n : Nat} {q0 : Nat × Nat} {e : va_E} (hD : va_D A (ids.map f ++ ex)) (h0 : q0 ∈ ids) (hn : (ids.map f ++ ex)[n]? = some (f q0)) (hg0 : g q0 = ((f q0).1, e)) (hg : ∀ q ∈ ids, q ≠ q0 → g q = f q) : (ids.map f ++ ex).set n ((f q0).1, e) = ids.map g ++ ex := by
  obtain ⟨i, hi⟩ := List.getElem?_of_mem h0
  have hil : i < ids.length := (List.getElem?_eq_some_iff.mp hi).1
  have h2 : (ids.map f ++ ex)[i]? = some (f q0) := by
    rw [List.getElem?_append_left (by rw [List.length_map]; exact hil), List.getElem?_map, hi]
    rfl
  have hni : n = i := hD.1 n i _ _ hn h2 rfl
  subst hni
  apply List.ext_getElem?
  intro j
  by_cases hj : j = n
  · subst hj
    rw [List.getElem?_set_self (by rw [List.length_append, List.length_map]; omega), List.getElem?_append_left (by rw [List.length_map]; exact hil), List.getElem?_map, hi, ← hg0]
    rfl
  · rw [List.getElem?_set_ne (Ne.symm hj)]
    by_cases hjl : j < ids.length
    · rw [List.getElem?_append_left (by rw [List.length_map]; exact hjl), List.getElem?_append_left (by rw [List.length_map]; exact hjl), List.getElem?_map, List.getElem?_map]
      cases hq : ids[j]? with
      | none => rfl
      | some q =>
        have hne : q ≠ q0 := by
          intro e0
          subst e0
          have h3 : (ids.map f ++ ex)[j]? = some (f q) := by
            rw [List.getElem?_append_left (by rw [List.length_map]; exact hjl), List.getElem?_map, hq]
            rfl
          exact hj (hD.1 j n _ _ h3 h2 rfl)
        show some (f q) = some (g q)
        rw [hg q (List.mem_of_getElem? hq) hne]
    · rw [List.getElem?_append_right (by rw [List.length_map]; omega), List.getElem?_append_right (by rw [List.length_map]; omega), List.length_map, List.length_map]
theorem gS_pS_ne {z : XS} {k f j k' f' j' : Nat} {v : Int32} (h : ¬ (k' = k ∧ j' = j)) : gS (pS z k f j v) k' f' j' = gS z k' f' j' := by
  unfold gS pS
  exact if_neg (fun q => h ⟨q.1, q.2.2⟩)
theorem gS_pS {z : XS} {k f j f' : Nat} {v : Int32} : gS (pS z k f j v) k f' j = if f' = f then v else gS z k f' j := by
  unfold gS pS
  by_cases h : f' = f
  · rw [if_pos h]; exact if_pos ⟨rfl, h, rfl⟩
  · rw [if_neg h]; exact if_neg (fun q => h q.2.1)
theorem gA_pA_ne {z : XS} {k j i k' j' i' : Nat} {v : Int32} (h : ¬ (k' = k ∧ j' = j)) : gA (pA z k j i v) k' j' i' = gA z k' j' i' := by
  unfold gA pA
  exact if_neg (fun q => h ⟨q.1, q.2.1⟩)
theorem gA_pA {z : XS} {k j i : Nat} {v : Int32} : (fun i' => gA (pA z k j i v) k j i') = upd (fun i' => gA z k j i') i v := by
  funext i'
  unfold gA pA upd
  by_cases h : i' = i
  · rw [if_pos h]; exact if_pos ⟨rfl, rfl, h⟩
  · rw [if_neg h]; exact if_neg (fun q => h q.2.2)
theorem gS_pA {z : XS} {k j i k' f' j' : Nat} {v : Int32} : gS (pA z k j i v) k' f' j' = gS z k' f' j' := rfl
theorem gA_pS {z : XS} {k f j k' j' i' : Nat} {v : Int32} : gA (pS z k f j v) k' j' i' = gA z k' j' i' := rfl
theorem xct_pS_ne {X : XC} {z : XS} {k f j k' j' : Nat} {v : Int32} (h : ¬ (k' = k ∧ j' = j)) : xct X (pS z k f j v) k' j' = xct X z k' j' := by
  unfold xct
  rw [show (fun f' => gS (pS z k f j v) k' f' j') = (fun f' => gS z k' f' j') from funext fun _ => gS_pS_ne h]
  rfl
theorem xct_pA_ne {X : XC} {z : XS} {k j i k' j' : Nat} {v : Int32} (h : ¬ (k' = k ∧ j' = j)) : xct X (pA z k j i v) k' j' = xct X z k' j' := by
  unfold xct
  rw [show (fun i' => gA (pA z k j i v) k' j' i') = (fun i' => gA z k' j' i') from funext fun _ => gA_pA_ne h]
  rfl
theorem xct_pS {X : XC} {z : XS} {k f j : Nat} {v : Int32} : xct X (pS z k f j v) k j = xcf X k j (fun g => if g = f then v else gS z k g j) (fun i => gA z k j i) (z.2.2.1 j) (z.2.2.2 j) := by
  unfold xct
  rw [show (fun f' => gS (pS z k f j v) k f' j) = (fun g => if g = f then v else gS z k g j) from funext fun _ => gS_pS]
  rfl
theorem xcf_I {X : XC} {k j : Nat} {sc ar : Nat → Int32} {ha hk : Nat} (h : xisI k = true) : xcf X k j sc ar ha hk = xrI X (xlen k j) ar := by
  unfold xisI at h
  split at h <;> first | rfl | cases h
theorem xct_I {X : XC} {z : XS} {k j : Nat} (h : xisI k = true) : xct X z k j = .inl (X.2.1 0, xlen k j, .inl (fun i => gA z k j i)) := xcf_I h
theorem xad_pS {X : XC} {z : XS} {k f j k' j' : Nat} {v : Int32} : xad X (pS z k f j v) k' j' = xad X z k' j' := rfl
theorem xad_pA {X : XC} {z : XS} {k j i k' j' : Nat} {v : Int32} : xad X (pA z k j i v) k' j' = xad X z k' j' := rfl
/-- a number field is written -/
theorem xcells_pS {A : Nat → Prop} {X : XC} {z : XS} {ex : va_W} {k f j n : Nat} {v : Int32} {e : va_E} (hD : va_D A (xcells X z ++ ex)) (hj : j < xcnt k) (hn : (xcells X z ++ ex)[n]? = some (xad X z k j, xct X z k j)) (he : xct X (pS z k f j v) k j = e) : (xcells X z ++ ex).set n (xad X z k j, e) = xcells X (pS z k f j v) ++ ex := by
  refine x_set (q0 := (k, j)) (f := xf X z) (g := xf X (pS z k f j v)) hD (x_mem hj) hn ?_ ?_
  · show (xad X (pS z k f j v) k j, xct X (pS z k f j v) k j) = (xad X z k j, e)
    rw [he, xad_pS]
  · intro q _ hq
    show (xad X (pS z k f j v) q.1 q.2, xct X (pS z k f j v) q.1 q.2) = (xad X z q.1 q.2, xct X z q.1 q.2)
    rw [xad_pS, xct_pS_ne (fun h => hq (Prod.ext h.1 h.2))]
theorem xcells_pA {A : Nat → Prop} {X : XC} {z : XS} {ex : va_W} {k j i n : Nat} {v : Int32} (hk : xisI k = true) (hD : va_D A (xcells X z ++ ex)) (hj : j < xcnt k) (hn : (xcells X z ++ ex)[n]? = some (xad X z k j, xct X z k j)) : (xcells X z ++ ex).set n (xad X z k j, .inl (X.2.1 0, xlen k j, .inl (upd (fun i' => gA z k j i') i v))) = xcells X (pA z k j i v) ++ ex := by
  refine x_set (q0 := (k, j)) (f := xf X z) (g := xf X (pA z k j i v)) hD (x_mem hj) hn ?_ ?_
  · show (xad X (pA z k j i v) k j, xct X (pA z k j i v) k j) = (xad X z k j, _)
    rw [xct_I hk, gA_pA, xad_pA]
  · intro q _ hq
    show (xad X (pA z k j i v) q.1 q.2, xct X (pA z k j i v) q.1 q.2) = (xad X z q.1 q.2, xct X z q.1 q.2)
    rw [xad_pA, xct_pA_ne (fun h => hq (Prod.ext h.1 h.2))]
end
section
def xnf : List (String × Nat × String × String × String × String) := [("WordHedges", 95, "WordHedges$Border", "hedge", "LWordHedges$Hedge;", "WordHedges"), ("WordHedges$Row", 86, "WordHedges$Border", "words", "[[I", "WordHedges"), ("WordHedges$Rings", 40, "WordHedges$Border", "inches", "[[I", "WordHedges"), ("WordHedges", 141, "WordHedges$Border", "inches", "[[I", "WordHedges"), ("WordHedges$Row", 90, "WordHedges$Border", "inches", "[[I", "WordHedges"), ("WordHedges", 84, "WordHedges$Row", "wanted", "[I", "WordHedges"), ("WordHedges$Rings", 28, "WordHedges$Row", "borders", "[LWordHedges$Border;", "WordHedges"), ("WordHedges", 91, "WordHedges$Row", "borders", "[LWordHedges$Border;", "WordHedges"), ("WordHedges", 78, "WordHedges$Row", "count", "I", "WordHedges"), ("WordHedges", 167, "WordHedges$Rings", "count", "I", "WordHedges"), ("WordHedges", 232, "WordHedges$Trace", "mark", "I", "WordHedges"), ("WordHedges$Text", 9, "WordHedges$Sheet", "cells", "[I", "WordHedges"), ("WordHedges$Row", 32, "WordHedges$Sheet", "cells", "[I", "WordHedges"), ("WordHedges", 213, "WordHedges$Sheet", "cells", "[I", "WordHedges"), ("WordHedges", 216, "WordHedges$Sheet", "lane", "I", "WordHedges"), ("WordHedges$Row", 100, "WordHedges", "CHOICES", "[I", "WordHedges")]
def xnm : List (String × Nat × MethodName × String) := [("WordHedges$Row", 25, ⟨"WordHedges$Border", "<init>", "()V"⟩, "WordHedges"), ("WordHedges", 20, ⟨"WordHedges$Rings", "<init>", "()V"⟩, "WordHedges"), ("WordHedges", 27, ⟨"WordHedges$Trace", "<init>", "()V"⟩, "WordHedges"), ("WordHedges", 42, ⟨"WordHedges$Sheet", "<init>", "()V"⟩, "WordHedges"), ("WordHedges$Row", 109, ⟨"WordHedges", "hedgeBeside", "(II)I"⟩, "WordHedges"), ("WordHedges$Row", 112, ⟨"WordHedges", "otherSide", "(I)I"⟩, "WordHedges"), ("WordHedges$Border", 62, ⟨"WordHedges", "otherSide", "(I)I"⟩, "WordHedges")]
def xtys (X : XC) : List (ClassId × FieldType) := [(X.2.1 0, .int), (X.2.1 1, .array .int), (X.2.1 2, .object "WordHedges$Border"), (X.2.1 3, .object "WordHedges$Sheet")]
def xA (X : XC) : Nat → Prop := fun q => X.2.2.2.1 ≤ q
def chv (j : Nat) : Value := match j with | 0 => .int 0 | 1 => .int (-1) | _ => .int 1
def xN (U : State) : Prop := (∀ q ∈ xnf, va_Nw (.fieldLinkNest q.1 q.2.1 q.2.2.1 q.2.2.2.1 q.2.2.2.2.1 q.2.2.2.2.2) U) ∧ ∀ q ∈ xnm, va_Nw (.methodLinkNest q.1 q.2.1 q.2.2.1 q.2.2.2) U
def gtbl : List Cond := lw_tbl.filter goodWord
theorem gm_of {w : Cond} (h : w ∈ lw_tbl) (g : goodWord w = true) : w ∈ gtbl := List.mem_filter.mpr ⟨h, g⟩
theorem gm1 {w : Cond} (i : Nat) (h : tables_1_1[i]? = some w) (g : goodWord w = true) : w ∈ gtbl := gm_of (List.mem_append_right _ (List.mem_append_left _ (List.mem_of_getElem? h))) g
theorem gm2 {w : Cond} (i : Nat) (h : tables_1_2[i]? = some w) (g : goodWord w = true) : w ∈ gtbl := gm_of (List.mem_append_right _ (List.mem_append_right _ (List.mem_append_left _ (List.mem_of_getElem? h)))) g
theorem gm3 {w : Cond} (i : Nat) (h : tables_1_3[i]? = some w) (g : goodWord w = true) : w ∈ gtbl := gm_of (List.mem_append_right _ (List.mem_append_right _ (List.mem_append_right _ (List.mem_append_left _ (List.mem_of_getElem? h))))) g
theorem gm4 {w : Cond} (i : Nat) (h : tables_1_4[i]? = some w) (g : goodWord w = true) : w ∈ gtbl := gm_of (List.mem_append_right _ (List.mem_append_right _ (List.mem_append_right _ (List.mem_append_right _ (List.mem_of_getElem? h))))) g
theorem gm0 {w : Cond} (i : Nat) (h : (k2_sels lw_privs)[i]? = some w) (g : goodWord w = true) : w ∈ gtbl := gm_of (List.mem_append_left _ (List.mem_of_getElem? h)) g
theorem gtbl_good : GoodIn gtbl gtbl := fun w h => ⟨h, good_of_word (List.mem_filter.mp h).2⟩
def xZ (X : XC) (U : State) : Prop := va_Z "WordHedges" "CHOICES" "[I" (.ref X.2.2.2.2) (xA X) U U.heap ∧ va_T .int X.2.2.2.2 3 chv (xA X) U U.heap
/-- what stands of the tables and of the start -/
def xG (X : XC) (U : State) : Prop := X.2.2.2.1 ≤ U.heap.size ∧ va_K X.1 vwCl (xtys X) U ∧ xN U ∧ xZ X U
def xH (X : XC) (ex : va_W) (z : XS) (H : Heap) : Prop := va_P X.1 vwCl (xcells X z ++ ex) H ∧ va_D (xA X) (xcells X z ++ ex)
def xU (X : XC) (ex : va_W) (z : XS) (U : State) : Prop := xG X U ∧ xH X ex z U.heap
def xw (X : XC) (ex : va_W) (z : XS) (s : State) (H : Heap) (locs : List Loc) : Prop := xG X s ∧ xH X ex z H ∧ va_S (xA X) s.heap H locs
theorem xN.warm {s U : State} (h : xN s) (hW : s.WarmedH U.vm) : xN U := ⟨fun q hq => (h.1 q hq).warmF hW, fun q hq => (h.2 q hq).warmM hW⟩
theorem xN.same {s U : State} (h : xN s) (e : s.vm = U.vm) : xN U := ⟨fun q hq => (h.1 q hq).same rfl e, fun q hq => (h.2 q hq).same rfl e⟩
theorem xG.at {X : XC} {s U : State} {H : Heap} {locs : List Loc} (h : xG X s) (hS : va_S (xA X) s.heap H locs) (hU : U.heap = H) (hW : s.WarmedH U.vm) : xG X U := by
  obtain ⟨h1, h2, h3, h4, h5⟩ := h
  refine ⟨by rw [hU]; exact Nat.le_trans h1 hS.1, h2.moved hW.alike, h3.warm hW, ?_, ?_⟩
  · rw [hU]; exact (h4.kept hS.2.1).moved hW.alike
  · rw [hU]; exact (h5.kept hS.2.1).moved hW.alike
theorem xw.to {X : XC} {ex : va_W} {z : XS} {s U : State} {H : Heap} {locs : List Loc} (h : xw X ex z s H locs) (hU : U.heap = H) (hW : s.WarmedH U.vm) : xU X ex z U := ⟨h.1.at h.2.2 hU hW, by rw [hU]; exact h.2.1⟩
theorem xG.call {X : XC} {U : State} (h : xG X U) (g : JFrame) (mk : MethodId) (a : Array Value) : xG X (U.calling g mk a) := by
  obtain ⟨h1, h2, h3, h4, h5⟩ := h
  exact ⟨h1, va_K.moved (u := U) (U := U.calling g mk a) (Vm.Alike.refl U.vm) h2, h3.same rfl, va_Z.moved (u := U) (U := U.calling g mk a) (Vm.Alike.refl U.vm) h4, va_T.moved (u := U) (U := U.calling g mk a) (Vm.Alike.refl U.vm) h5⟩
theorem xblind {X : XC} {ex : va_W} {z : XS} {avs : List Value} : FrameBlind (va_Pc avs (xU X ex z)) := fun a _ g mk h => ⟨h.1, h.2.1.call g mk a, h.2.2⟩
theorem xA_ge {X : XC} {s : State} (h : xG X s) : ∀ q, s.heap.size ≤ q → xA X q := fun _ hq => Nat.le_trans h.1 hq
/-- a contract: what it answers, and the world behind it -/
abbrev xQi (X : XC) (ex : va_W) (z : XS) (r : Int32) : Array Value → State → Outcome → State → Prop := va_Qi (fun r' (_ : Unit) => r' = r) (fun _ t => xU X ex z t) (xA X)
abbrev xQl (X : XC) (ex : va_W) (z : XS) (r : Int64) : Array Value → State → Outcome → State → Prop := va_Ql (fun r' (_ : Unit) => r' = r) (fun _ t => xU X ex z t) (xA X)
abbrev xQv (X : XC) (ex : va_W) (z : XS) : Array Value → State → Outcome → State → Prop := va_Qv (fun (_ : Unit) => True) (fun _ t => xU X ex z t) (xA X)
abbrev xM (l : Launch) (X : XC) (ex : va_W) (y : MethodName) (cc : ByteArray) (nL : Nat) (ret : Option FieldType) (rm : Room) (avs : List Value) (z : XS) (Qc : Array Value → State → Outcome → State → Prop) : Prop := Met l y (.code y cc nL ret :: gtbl) rm (va_Pc avs (xU X ex z)) Qc rm.cells rm.slots (xA X)
theorem x_ent {l : Launch} {X : XC} {ex : va_W} {y : MethodName} {cc : ByteArray} {nL : Nat} {ret : Option FieldType} {rm : Room} {avs : List Value} {z : XS} {Qc : Array Value → State → Outcome → State → Prop} (hy : plainName y.cls = true) (hlen : (lg_sl avs).length ≤ nL)
    (body : ∀ (p : Program) (e : Env) (s : State) (m : MethodId) (below : List Frame) (meth : Method) (c : Code) (ls : Array Slot), CallFix p m c cc nL s avs.toArray gtbl y.cls → meth.sig.returnType = ret → meth.locks = false → xw X ex z s s.heap [] → lv_has ls nL (lv_args 0 avs) →
      W p l e rm s m avs.toArray below meth c s.heap [] 0 0 (MQ below Qc avs.toArray s rm.cells rm.slots (xA X)) (F0 m 0 ls [])) : xM l X ex y cc nL ret rm avs z Qc := by
  refine Met.ofW (cc := cc) (maxL := nL) (ret := ret) hy rfl ?_
  intro p e s m args below meth c s₁ B hml hv
  obtain ⟨rfl, hU⟩ := hv
  have hts := atoms_spec (ws := .code y cc nL ret :: gtbl) B.pre
  have hown : s.vm.findClass y.cls = some m.cls := findClass_of_methodNamed B.named
  rw [lg_entry_eq]
  exact body p e s m below meth c _ ⟨B.exec, B.bytes, hml, hown, fun w h => hts w (List.mem_cons_of_mem _ h)⟩ B.returns B.notSynchronized ⟨hU.1, hU.2, va_S.rf⟩ (lv_entry avs hlen)
section XR
variable {p : Program} {l : Launch} {e : Env} {R : Room} {s : State} {m : MethodId} {args : Array Value} {below : List Frame} {meth : Method} {c : Code} {H : Heap} {locs : List Loc} {cells slots : Nat} {Q : State → Prop}
variable {cc : ByteArray} {pc nL : Nat} {ls : Array Slot} {rest : List Value} {X : XC} {ex : va_W} {z : XS} {own : String}
theorem x_get (C : CallFix p m c cc nL s args gtbl own) (hw : xw X ex z s H locs) {k j : Nat} (hj : j < xcnt k) {ci N index : Nat} (f : Nat) {Cn : String} {T : u_T} {fs : List Value} {v : Value} (hct : xct X z k j = .inr (ci, fs)) (hc : vwCl[ci]? = some (Cn, T, N)) (hin : ∀ w ∈ u_ws Cn T N, w ∈ gtbl) (hf : f < N) (hlink : Cond.fieldLink own index (T f).1 (T f).2.1 (T f).2.2.1 ∈ gtbl) (hv : fs[f]? = some v) (hdg : decode cc pc = .ok (.getfield index, 3))
    (kk : W p l e R s m args below meth c H locs cells slots Q (F0 m (pc + 3) ls (v :: rest))) : W p l e R s m args below meth c H locs cells slots Q (F0 m pc ls (.ref (xad X z k j) :: rest)) := by
  obtain ⟨n, hn⟩ := x_place X z ex hj
  rw [hct] at hn
  exact va_get C.1 C.2.1 C.2.2.2.2 hin C.2.2.2.1 hw.1.2.1 hw.2.1.1 n hn hc f hf (C.2.2.2.2 _ hlink) (fun _ h => h) hv hdg kk
theorem x_getN (C : CallFix p m c cc nL s args gtbl own) (hw : xw X ex z s H locs) {k j : Nat} (hj : j < xcnt k) {ci N index : Nat} (f : Nat) {Cn : String} {T : u_T} {fs : List Value} {v : Value} (hct : xct X z k j = .inr (ci, fs)) (hc : vwCl[ci]? = some (Cn, T, N)) (hin : ∀ w ∈ u_ws Cn T N, w ∈ gtbl) (hf : f < N) (hlink : (own, index, (T f).1, (T f).2.1, (T f).2.2.1, "WordHedges") ∈ xnf) (hv : fs[f]? = some v) (hdg : decode cc pc = .ok (.getfield index, 3))
    (kk : W p l e R s m args below meth c H locs cells slots Q (F0 m (pc + 3) ls (v :: rest))) : W p l e R s m args below meth c H locs cells slots Q (F0 m pc ls (.ref (xad X z k j) :: rest)) := by
  obtain ⟨n, hn⟩ := x_place X z ex hj
  rw [hct] at hn
  exact va_getN (host := "WordHedges") C.1 C.2.1 C.2.2.2.2 hin C.2.2.2.1 hw.1.2.1 hw.2.1.1 n hn hc f hf (va_Nw.use rfl (hw.1.2.2.1.1 _ hlink)) (fun _ h => h) hv hdg kk
theorem x_put (C : CallFix p m c cc nL s args gtbl own) (hw : xw X ex z s H locs) {k j : Nat} (hj : j < xcnt k) {ci N index : Nat} (f : Nat) {Cn : String} {T : u_T} {fs : List Value} {v : Int32} (hct : xct X z k j = .inr (ci, fs)) (hct2 : xcf X k j (fun g => if g = f then v else gS z k g j) (fun i => gA z k j i) (z.2.2.1 j) (z.2.2.2 j) = .inr (ci, fs.set f (.int v))) (hc : vwCl[ci]? = some (Cn, T, N)) (hin : ∀ w ∈ u_ws Cn T N, w ∈ gtbl) (ty0 : Nat → FieldType) (hty : ∀ k, k < N → parseFieldDescriptor (T k).2.2.1 = some (ty0 k)) (hnm : ∀ a, a < N → ∀ b, b < N → a ≠ b → (T a).2.1 ≠ (T b).2.1) (hf : f < N) (hlink : Cond.fieldLink own index (T f).1 (T f).2.1 (T f).2.2.1 ∈ gtbl) (hfin : (T f).2.2.2 = false) (hd : parseFieldDescriptor (T f).2.2.1 = some .int) (hl : f < fs.length) (hdg : decode cc pc = .ok (.putfield index, 3))
    (kk : ∀ (H1 : Heap) (locs1 : List Loc), xw X ex (pS z k f j v) s H1 locs1 → W p l e R s m args below meth c H1 locs1 cells slots Q (F0 m (pc + 3) ls rest)) : W p l e R s m args below meth c H locs cells slots Q (F0 m pc ls (.int v :: .ref (xad X z k j) :: rest)) := by
  obtain ⟨n, hn⟩ := x_place X z ex hj
  have hn0 := hn
  rw [hct] at hn
  refine va_put C.1 C.2.1 C.2.2.2.2 hin ty0 hty hnm C.2.2.2.1 hw.1.2.1 hw.2.1.1 hw.2.1.2 hw.2.2 n hn hc f hf (C.2.2.2.2 _ hlink) (fun _ h => h) hfin hd rfl rfl hl hdg (fun H1 locs1 hP hD hS => kk H1 locs1 ⟨hw.1, ?_, hS⟩)
  rw [xcells_pS (f := f) (v := v) hw.2.1.2 hj hn0 (xct_pS.trans hct2)] at hP hD
  exact ⟨hP, hD⟩
theorem x_putN (C : CallFix p m c cc nL s args gtbl own) (hw : xw X ex z s H locs) {k j : Nat} (hj : j < xcnt k) {ci N index : Nat} (f : Nat) {Cn : String} {T : u_T} {fs : List Value} {v : Int32} (hct : xct X z k j = .inr (ci, fs)) (hct2 : xcf X k j (fun g => if g = f then v else gS z k g j) (fun i => gA z k j i) (z.2.2.1 j) (z.2.2.2 j) = .inr (ci, fs.set f (.int v))) (hc : vwCl[ci]? = some (Cn, T, N)) (hin : ∀ w ∈ u_ws Cn T N, w ∈ gtbl) (ty0 : Nat → FieldType) (hty : ∀ k, k < N → parseFieldDescriptor (T k).2.2.1 = some (ty0 k)) (hnm : ∀ a, a < N → ∀ b, b < N → a ≠ b → (T a).2.1 ≠ (T b).2.1) (hf : f < N) (hlink : (own, index, (T f).1, (T f).2.1, (T f).2.2.1, "WordHedges") ∈ xnf) (hfin : (T f).2.2.2 = false) (hd : parseFieldDescriptor (T f).2.2.1 = some .int) (hl : f < fs.length) (hdg : decode cc pc = .ok (.putfield index, 3))
    (kk : ∀ (H1 : Heap) (locs1 : List Loc), xw X ex (pS z k f j v) s H1 locs1 → W p l e R s m args below meth c H1 locs1 cells slots Q (F0 m (pc + 3) ls rest)) : W p l e R s m args below meth c H locs cells slots Q (F0 m pc ls (.int v :: .ref (xad X z k j) :: rest)) := by
  obtain ⟨n, hn⟩ := x_place X z ex hj
  have hn0 := hn
  rw [hct] at hn
  refine va_putN (host := "WordHedges") C.1 C.2.1 C.2.2.2.2 hin ty0 hty hnm C.2.2.2.1 hw.1.2.1 hw.2.1.1 hw.2.1.2 hw.2.2 n hn hc f hf (va_Nw.use rfl (hw.1.2.2.1.1 _ hlink)) (fun _ h => h) hfin hd rfl rfl hl hdg (fun H1 locs1 hP hD hS => kk H1 locs1 ⟨hw.1, ?_, hS⟩)
  rw [xcells_pS (f := f) (v := v) hw.2.1.2 hj hn0 (xct_pS.trans hct2)] at hP hD
  exact ⟨hP, hD⟩
theorem x_iald (C : CallFix p m c cc nL s args gtbl own) (hw : xw X ex z s H locs) {k j : Nat} (hk : xisI k = true) (hj : j < xcnt k) {i : Int32} (hin : vp_in i (xlen k j)) (hdg : decode cc pc = .ok (.iaload, 1))
    (kk : W p l e R s m args below meth c H locs cells slots Q (F0 m (pc + 1) ls (.int (gA z k j i.toNatClampNeg) :: rest))) : W p l e R s m args below meth c H locs cells slots Q (F0 m pc ls (.int i :: .ref (xad X z k j) :: rest)) := by
  obtain ⟨n, hn⟩ := x_place X z ex hj
  rw [xct_I hk] at hn
  exact va_iald C.1 C.2.1 hw.1.2.1 hw.2.1.1 n 0 hn rfl hin hdg kk
theorem x_iast (C : CallFix p m c cc nL s args gtbl own) (hw : xw X ex z s H locs) {k j : Nat} (hk : xisI k = true) (hj : j < xcnt k) {i v : Int32} (hin : vp_in i (xlen k j)) (hdg : decode cc pc = .ok (.iastore, 1))
    (kk : ∀ (H1 : Heap) (locs1 : List Loc), xw X ex (pA z k j i.toNatClampNeg v) s H1 locs1 → W p l e R s m args below meth c H1 locs1 cells slots Q (F0 m (pc + 1) ls rest)) : W p l e R s m args below meth c H locs cells slots Q (F0 m pc ls (.int v :: .int i :: .ref (xad X z k j) :: rest)) := by
  obtain ⟨n, hn⟩ := x_place X z ex hj
  have hn0 := hn
  rw [xct_I hk] at hn
  refine va_iast C.1 C.2.1 hw.1.2.1 hw.2.1.1 hw.2.1.2 hw.2.2 n 0 hn rfl hin hdg (fun H1 locs1 hP hD hS => kk H1 locs1 ⟨hw.1, ?_, hS⟩)
  rw [xcells_pA hk hw.2.1.2 hj hn0] at hP hD
  exact ⟨hP, hD⟩
theorem x_ialen (C : CallFix p m c cc nL s args gtbl own) (hw : xw X ex z s H locs) {k j : Nat} (hk : xisI k = true) (hj : j < xcnt k) {v : Int32} (hv : Int32.ofNat (xlen k j) = v) (hdg : decode cc pc = .ok (.arraylength, 1))
    (kk : W p l e R s m args below meth c H locs cells slots Q (F0 m (pc + 1) ls (.int v :: rest))) : W p l e R s m args below meth c H locs cells slots Q (F0 m pc ls (.ref (xad X z k j) :: rest)) := by
  obtain ⟨n, hn⟩ := x_place X z ex hj
  rw [xct_I hk] at hn
  exact va_alen C.1 C.2.1 hw.1.2.1 hw.2.1.1 n 0 hn rfl hv hdg kk
/-- a place of a row of cells: of objects (t 2, 3), of rows (t 1) -/
theorem x_aald (C : CallFix p m c cc nL s args gtbl own) (hw : xw X ex z s H locs) {k j : Nat} (hj : j < xcnt k) {n : Nat} {f : Nat → Nat} (t : Nat) {ty : FieldType} (hct : xct X z k j = xrf (X.2.1 t) n f) (ht : (xtys X)[t]? = some (X.2.1 t, ty)) (hty : ty.isReference = true) {i : Int32} (hin : vp_in i n) {a : Nat} (ha : f i.toNatClampNeg = a) (hdg : decode cc pc = .ok (.aaload, 1))
    (kk : W p l e R s m args below meth c H locs cells slots Q (F0 m (pc + 1) ls (.ref a :: rest))) : W p l e R s m args below meth c H locs cells slots Q (F0 m pc ls (.int i :: .ref (xad X z k j) :: rest)) := by
  obtain ⟨q, hq⟩ := x_place X z ex hj
  rw [hct] at hq
  subst ha
  have hlt : i.toNatClampNeg < n := Nat.not_le.mp fun q => hin (Or.inr q)
  exact W.aald (v := .ref (f i.toNatClampNeg)) (ty := ty) C.1 C.2.1 (hw.2.1.1 q _ hq) ((hw.1.2.1.2 t _ ht).1 n (fun j => va_rf (some (f j)))) hty (fun q => by cases q) (by show ¬ (i < 0 ∨ (arrV _ _ _).slots.size ≤ _); rw [arrV_size]; exact hin) (by show (arrV _ _ _).slots[_]? = _; rw [arrV_read _ _ hlt]; rfl) rfl rfl hdg kk
theorem x_iret (C : CallFix p m c cc nL s args gtbl own) (hw : xw X ex z s H locs) (hr : meth.sig.returnType = some .int) (hk : meth.locks = false) {v : Int32} (hdg : decode cc pc = .ok (.ireturn, 1)) : W p l e R s m args below meth c H locs cells slots (MQ below (xQi X ex z v) args s cells slots (xA X)) (F0 m pc ls [.int v]) :=
  W.iret (v := v) C.1 C.2.1 hr (fun t ht hW => ⟨⟨v, (), rfl, rfl, hw.to ht hW⟩, hw.2.2.F ht⟩) hw.2.2.2.2 hdg hk
theorem x_zret (C : CallFix p m c cc nL s args gtbl own) (hw : xw X ex z s H locs) (hr : meth.sig.returnType = some .boolean) (hk : meth.locks = false) {v : Int32} (hv : narrow .boolean (.int v) = .int v) (hdg : decode cc pc = .ok (.ireturn, 1)) : W p l e R s m args below meth c H locs cells slots (MQ below (xQi X ex z v) args s cells slots (xA X)) (F0 m pc ls [.int v]) :=
  W.zret (v := v) C.1 C.2.1 hr hv (fun t ht hW => ⟨⟨v, (), rfl, rfl, hw.to ht hW⟩, hw.2.2.F ht⟩) hw.2.2.2.2 hdg hk
theorem x_lret (C : CallFix p m c cc nL s args gtbl own) (hw : xw X ex z s H locs) (hr : meth.sig.returnType = some .long) (hk : meth.locks = false) {v : Int64} (hdg : decode cc pc = .ok (.lreturn, 1)) : W p l e R s m args below meth c H locs cells slots (MQ below (xQl X ex z v) args s cells slots (xA X)) (F0 m pc ls [.long v]) :=
  W.lret (v := v) C.1 C.2.1 hr (fun t ht hW => ⟨⟨v, (), rfl, rfl, hw.to ht hW⟩, hw.2.2.F ht⟩) hw.2.2.2.2 hdg hk
theorem x_vret (C : CallFix p m c cc nL s args gtbl own) (hw : xw X ex z s H locs) (hr : meth.sig.returnType = none) (hk : meth.locks = false) (hdg : decode cc pc = .ok (.return_, 1)) : W p l e R s m args below meth c H locs cells slots (MQ below (xQv X ex z) args s cells slots (xA X)) (F0 m pc ls []) :=
  W.vret C.1 C.2.1 hr (fun t ht hW => ⟨⟨(), rfl, trivial, hw.to ht hW⟩, hw.2.2.F ht⟩) hw.2.2.2.2 hdg hk
/-- what a call asks of the callee -/
abbrev xc (y : MethodName) (bytes : ByteArray) (maxL : Nat) (ret : Option FieldType) (n : Nat) : Prop := Cond.code y bytes maxL ret ∈ gtbl ∧ Cond.initialized y.cls ∈ gtbl ∧ (y.cls ≠ "java/lang/invoke/MethodHandle" ∧ y.cls ≠ "java/lang/invoke/VarHandle" ∧ (parseMethodDescriptor y.desc).map (fun d => d.parameters.length) = some n)
abbrev xcV (y : MethodName) (bytes : ByteArray) (maxL : Nat) (ret : Option FieldType) (n : Nat) : Prop := xc y bytes maxL ret n ∧ Cond.instanceMethod y ∈ gtbl ∧ Cond.selects y.cls y y ∈ gtbl
abbrev xcS (y : MethodName) (bytes : ByteArray) (maxL : Nat) (ret : Option FieldType) (n : Nat) : Prop := xc y bytes maxL ret n ∧ Cond.static y ∈ gtbl
theorem xgood {y : MethodName} {bytes : ByteArray} {maxL : Nat} {ret : Option FieldType} (h : Cond.code y bytes maxL ret ∈ gtbl) : GoodIn gtbl (Cond.code y bytes maxL ret :: gtbl) := fun w hw => (List.mem_cons.mp hw).elim (fun q => by rw [q]; exact gtbl_good _ h) (fun q => gtbl_good w q)
variable {y : MethodName} {bytes : ByteArray} {maxL n index : Nat} {ret : Option FieldType} {rm : Room} {Qc : Array Value → State → Outcome → State → Prop} {As st0 : List Value}
theorem x_recv (hw : xw X ex z s H locs) {k j : Nat} (hj : j < xcnt k) {ci : Nat} {q : vw_C} {fs : List Value} (hct : xct X z k j = .inr (ci, fs)) (hc : vwCl[ci]? = some q) : ∃ cell : Cell, H[xad X z k j]? = some cell ∧ cell.vm.isStatics = false ∧ s.vm.findClass q.1 = some cell.cls := by
  obtain ⟨n, hn⟩ := x_place X z ex hj
  rw [hct] at hn
  exact va_recv hw.1.2.1 hw.2.1.1 hc hn
theorem x_runV (C : CallFix p m c cc nL s args gtbl own) (hw : xw X ex z s H locs) {k j : Nat} (hj : j < xcnt k) {ci N : Nat} {T : u_T} {fs : List Value} (hct : xct X z k j = .inr (ci, fs)) (hc : vwCl[ci]? = some (y.cls, T, N)) (cv : xcV y bytes maxL ret n) (hl : Cond.methodLink own index y ∈ gtbl) (hM : xM l X ex y bytes maxL ret rm (.ref (xad X z k j) :: As) z Qc) (hR : rm.frames + 1 ≤ R.frames ∧ 8 + (maxL + 11) + rm.locals ≤ R.locals)
    (hn : As.length = n) (hsize : ls.size = nL) (hstack : st0 = As.reverse ++ .ref (xad X z k j) :: rest) (hW : (rest.map fun v => v.category).sum ≤ 8) (hdg : decode cc pc = .ok (.invokevirtual index, 3)) (hf : cells + rm.cells ≤ R.cells ∧ slots + rm.slots ≤ R.slots) :
    va_Run p l e R s m args below meth c H locs cells slots rm.cells rm.slots (F0 m pc ls st0) rest (Qc (Value.ref (xad X z k j) :: As).toArray) (xA X) :=
  va_runV (C := y.cls) C hM ⟨callB_of n C.2.2.2.2 (xgood cv.1.1) rfl rfl rfl (C.2.2.2.2 _ cv.1.2.1) (C.2.2.2.2 _ hl) cv.1.2.2 hR, C.2.2.2.2 _ cv.2.1, C.2.2.2.2 _ cv.2.2⟩ ⟨xblind, x_recv hw hj hct hc, fun U hU hW => ⟨rfl, hw.to hU hW⟩⟩ rfl hn hsize hstack (lv_room hW) hdg hf
theorem x_runS (C : CallFix p m c cc nL s args gtbl own) (hw : xw X ex z s H locs) (cv : xcS y bytes maxL ret n) (hl : Cond.methodLink own index y ∈ gtbl) (hM : xM l X ex y bytes maxL ret rm As z Qc) (hR : rm.frames + 1 ≤ R.frames ∧ 8 + (maxL + 11) + rm.locals ≤ R.locals)
    (hn : As.length = n) (hsize : ls.size = nL) (hstack : st0 = As.reverse ++ rest) (hW : (rest.map fun v => v.category).sum ≤ 8) (hdg : decode cc pc = .ok (.invokestatic index, 3)) (hf : cells + rm.cells ≤ R.cells ∧ slots + rm.slots ≤ R.slots) :
    va_Run p l e R s m args below meth c H locs cells slots rm.cells rm.slots (F0 m pc ls st0) rest (Qc As.toArray) (xA X) :=
  va_runS C hM ⟨callB_of n C.2.2.2.2 (xgood cv.1.1) rfl rfl rfl (C.2.2.2.2 _ cv.1.2.1) (C.2.2.2.2 _ hl) cv.1.2.2 hR, C.2.2.2.2 _ cv.2⟩ ⟨xblind, fun U hU hW => ⟨rfl, hw.to hU hW⟩⟩ rfl hn hsize hstack (lv_room hW) hdg hf
theorem x_runSN (C : CallFix p m c cc nL s args gtbl own) (hw : xw X ex z s H locs) (cv : xcS y bytes maxL ret n) (hl : (own, index, y, "WordHedges") ∈ xnm) (hM : xM l X ex y bytes maxL ret rm As z Qc) (hR : rm.frames + 1 ≤ R.frames ∧ 8 + (maxL + 11) + rm.locals ≤ R.locals)
    (hn : As.length = n) (hsize : ls.size = nL) (hstack : st0 = As.reverse ++ rest) (hW : (rest.map fun v => v.category).sum ≤ 8) (hdg : decode cc pc = .ok (.invokestatic index, 3)) (hf : cells + rm.cells ≤ R.cells ∧ slots + rm.slots ≤ R.slots) :
    va_Run p l e R s m args below meth c H locs cells slots rm.cells rm.slots (F0 m pc ls st0) rest (Qc As.toArray) (xA X) :=
  va_runSN (host := "WordHedges") C hM ⟨va_cnB n C.2.2.2.2 (xgood cv.1.1) rfl rfl rfl (hw.1.2.2.1.2 _ hl) (C.2.2.2.2 _ cv.1.2.1) cv.1.2.2 hR, C.2.2.2.2 _ cv.2, trivial⟩ ⟨xblind, fun U hU hW => ⟨rfl, hw.to hU hW⟩⟩ rfl hn hsize hstack (lv_room hW) hdg hf
variable {a : Array Value} {mc ms : Nat} {z1 : XS}
theorem x_goi (hw : xw X ex z s H locs) {r : Int32} (hr : va_Run p l e R s m args below meth c H locs cells slots mc ms (F0 m pc ls st0) rest (xQi X ex z1 r a) (xA X))
    (kk : ∀ (H1 : Heap) (locs1 : List Loc), xw X ex z1 s H1 locs1 → W p l e R s m args below meth c H1 locs1 (cells + mc) (slots + ms) Q (F0 m (pc + 3) ls (.int r :: rest))) : W p l e R s m args below meth c H locs cells slots Q (F0 m pc ls st0) := by
  refine va_calli hr hw.2.2 (fun q _ h => h) (fun q h => h) (fun r' u t H1 locs1 ht hvm hp hB hz hk hS => ?_)
  rw [hp]
  exact kk H1 locs1 ⟨hw.1, by rw [← ht]; exact hB.2, hS⟩
theorem x_gol (hw : xw X ex z s H locs) {r : Int64} (hr : va_Run p l e R s m args below meth c H locs cells slots mc ms (F0 m pc ls st0) rest (xQl X ex z1 r a) (xA X))
    (kk : ∀ (H1 : Heap) (locs1 : List Loc), xw X ex z1 s H1 locs1 → W p l e R s m args below meth c H1 locs1 (cells + mc) (slots + ms) Q (F0 m (pc + 3) ls (.long r :: rest))) : W p l e R s m args below meth c H locs cells slots Q (F0 m pc ls st0) := by
  refine va_calll hr hw.2.2 (fun q _ h => h) (fun q h => h) (fun r' u t H1 locs1 ht hvm hp hB hz hk hS => ?_)
  rw [hp]
  exact kk H1 locs1 ⟨hw.1, by rw [← ht]; exact hB.2, hS⟩
theorem x_gov (hw : xw X ex z s H locs) (hr : va_Run p l e R s m args below meth c H locs cells slots mc ms (F0 m pc ls st0) rest (xQv X ex z1 a) (xA X))
    (kk : ∀ (H1 : Heap) (locs1 : List Loc), xw X ex z1 s H1 locs1 → W p l e R s m args below meth c H1 locs1 (cells + mc) (slots + ms) Q (F0 m (pc + 3) ls rest)) : W p l e R s m args below meth c H locs cells slots Q (F0 m pc ls st0) := by
  refine va_callv hr hw.2.2 (fun q _ h => h) (fun q h => h) (fun u t H1 locs1 ht hvm hp hB hz hk hS => ?_)
  exact kk H1 locs1 ⟨hw.1, by rw [← ht]; exact hB.2, hS⟩
end XR
end
section
def gd {α : Type} (b : Bool) (t : Option α) : Option α := match b with
  | true => t
  | false => none
theorem gd_some {α : Type} {b : Bool} {t : Option α} {x : α} (h : gd b t = some x) : b = true ∧ t = some x := by
  cases b with
  | false => cases h
  | true => exact ⟨rfl, h⟩
def inB (i : Int32) (n : Nat) : Bool := decide (0 ≤ i.toInt) && decide (i.toInt < (n : Int))
theorem inB_in {i : Int32} {n : Nat} (h : inB i n = true) : vp_in i n := vp_in_iff.mpr (by simpa [inB] using h)
theorem inB_lt {i : Int32} {n : Nat} (h : inB i n = true) : i.toNatClampNeg < n := Nat.not_le.mp fun q => inB_in h (Or.inr q)
def nzI (y : Int32) : Bool := decide (¬ y = 0)
theorem nzI_of {y : Int32} (h : nzI y = true) : ¬ y = 0 := of_decide_eq_true h
def nzL (y : Int64) : Bool := decide (¬ y = 0)
theorem nzL_of {y : Int64} (h : nzL y = true) : ¬ y = 0 := of_decide_eq_true h
def isZ (v : Int32) : Bool := decide (v = 0) || decide (v = 1)
theorem isZ_n {v : Int32} (h : isZ v = true) : narrow .boolean (.int v) = .int v := by
  simp only [isZ, Bool.or_eq_true, decide_eq_true_eq] at h
  rcases h with rfl | rfl <;> rfl
theorem nb0 : narrow .boolean (.int (0 : Int32)) = .int (0 : Int32) := rfl
theorem nb1 : narrow .boolean (.int (1 : Int32)) = .int (1 : Int32) := rfl
def isH (z : XS) (j : Nat) : Bool := decide (z.2.2.2 j = 1) || decide (z.2.2.2 j = 2) || decide (z.2.2.2 j = 7)
theorem isH_or {z : XS} {j : Nat} (h : isH z j = true) : z.2.2.2 j = 1 ∨ z.2.2.2 j = 2 ∨ z.2.2.2 j = 7 := by
  simp only [isH, Bool.or_eq_true, decide_eq_true_eq] at h
  rcases h with (h | h) | h
  · exact Or.inl h
  · exact Or.inr (Or.inl h)
  · exact Or.inr (Or.inr h)
theorem x_lt2 {j i : Nat} (hj : j < 6) (hi : i < 2) : 2 * j + i < 12 := by omega
theorem xw_eq {X : XC} {ex : va_W} {a b : XS} {s : State} {H : Heap} {locs : List Loc} (h : some a = some b) (hw : xw X ex a s H locs) : xw X ex b s H locs := by
  rw [← Option.some.inj h]; exact hw
theorem sw_ne {x : Int32} {n : Int} (k : Int32) (hk : k.toInt = n) (h : ¬ x = k) : ¬ n = x.toInt := fun q => h (Int32.toInt_inj.mp (q.symm.trans hk.symm))
def chI (j : Nat) : Int32 := match j with | 0 => 0 | 1 => -1 | _ => 1
theorem chv_I (j : Nat) : chv j = .int (chI j) := match j with
  | 0 => rfl
  | 1 => rfl
  | _ + 2 => rfl
theorem ixX0 : ∀ w ∈ u_ws RX0 TX0 4, w ∈ gtbl := by decide +kernel
theorem ixX1 : ∀ w ∈ u_ws RX1 TX1 2, w ∈ gtbl := by decide +kernel
theorem ixX2 : ∀ w ∈ u_ws RX2 TX2 2, w ∈ gtbl := by decide +kernel
theorem ixX3 : ∀ w ∈ u_ws RX3 TX3 5, w ∈ gtbl := by decide +kernel
theorem ixX4 : ∀ w ∈ u_ws RX4 TX4 3, w ∈ gtbl := by decide +kernel
theorem ixX5 : ∀ w ∈ u_ws RX5 TX5 3, w ∈ gtbl := by decide +kernel
theorem ixX7 : ∀ w ∈ u_ws RX7 TX7 1, w ∈ gtbl := by decide +kernel
theorem ixX8 : ∀ w ∈ u_ws RX8 TX8 2, w ∈ gtbl := by decide +kernel
theorem ixX9 : ∀ w ∈ u_ws RX9 TX9 5, w ∈ gtbl := by decide +kernel
theorem ixX10 : ∀ w ∈ u_ws RX10 TX10 23, w ∈ gtbl := by decide +kernel
section XH
variable {p : Program} {l : Launch} {e : Env} {R : Room} {s : State} {m : MethodId} {args : Array Value} {below : List Frame} {meth : Method} {c : Code} {H : Heap} {locs : List Loc} {cells slots : Nat} {Q : State → Prop}
variable {cc : ByteArray} {pc nL : Nat} {ls : Array Slot} {rest : List Value} {X : XC} {ex : va_W} {z : XS} {own : String}
theorem x_getH (C : CallFix p m c cc nL s args gtbl own) (hw : xw X ex z s H locs) {j : Nat} (hj : j < 6) (hh : isH z j = true) {index : Nat} (f : Nat) (hf : f < 2) (hlink : Cond.fieldLink own index (TX2 f).1 (TX2 f).2.1 (TX2 f).2.2.1 ∈ gtbl) (hdg : decode cc pc = .ok (.getfield index, 3))
    (kk : W p l e R s m args below meth c H locs cells slots Q (F0 m (pc + 3) ls (.int (gS z 10 f j) :: rest))) : W p l e R s m args below meth c H locs cells slots Q (F0 m pc ls (.ref (z.2.2.1 j) :: rest)) := by
  have hv : ([.int (gS z 10 0 j), .int (gS z 10 1 j)] : List Value)[f]? = some (.int (gS z 10 f j)) := by
    rcases (show f = 0 ∨ f = 1 by omega) with rfl | rfl <;> rfl
  have hc : xct X z 10 j = .inr (z.2.2.2 j, [.int (gS z 10 0 j), .int (gS z 10 1 j)]) := rfl
  rcases isH_or hh with h | h | h
  · rw [h] at hc
    exact x_get (k := 10) (j := j) C hw hj f hc (show vwCl[1]? = some (RX1, TX1, 2) from rfl) ixX1 hf hlink hv hdg kk
  · rw [h] at hc
    exact x_get (k := 10) (j := j) C hw hj f hc (show vwCl[2]? = some (RX2, TX2, 2) from rfl) ixX2 hf hlink hv hdg kk
  · rw [h] at hc
    exact x_get (k := 10) (j := j) C hw hj f hc (show vwCl[7]? = some (RX8, TX8, 2) from rfl) ixX8 hf hlink hv hdg kk
theorem x_choices (C : CallFix p m c cc nL s args gtbl own) (hw : xw X ex z s H locs) {index : Nat} (hlink : (own, index, "WordHedges", "CHOICES", "[I", "WordHedges") ∈ xnf) (hdg : decode cc pc = .ok (.getstatic index, 3))
    (kk : W p l e R s m args below meth c H locs cells slots Q (F0 m (pc + 3) ls (.ref X.2.2.2.2 :: rest))) : W p l e R s m args below meth c H locs cells slots Q (F0 m pc ls rest) :=
  va_getsN (host := "WordHedges") C.1 C.2.1 hw.1.2.2.2.1 hw.2.2 C.2.2.2.1 (va_Nw.use rfl (hw.1.2.2.1.1 _ hlink)) (fun _ h => h) hdg kk
theorem x_chald (C : CallFix p m c cc nL s args gtbl own) (hw : xw X ex z s H locs) {i : Int32} (hin : vp_in i 3) (hdg : decode cc pc = .ok (.iaload, 1))
    (kk : W p l e R s m args below meth c H locs cells slots Q (F0 m (pc + 1) ls (.int (chI i.toNatClampNeg) :: rest))) : W p l e R s m args below meth c H locs cells slots Q (F0 m pc ls (.int i :: .ref X.2.2.2.2 :: rest)) :=
  va_ti C.1 C.2.1 hw.1.2.2.2.2 hw.2.2 hin (chv_I _) hdg kk
theorem x_chlen (C : CallFix p m c cc nL s args gtbl own) (hw : xw X ex z s H locs) (hdg : decode cc pc = .ok (.arraylength, 1))
    (kk : W p l e R s m args below meth c H locs cells slots Q (F0 m (pc + 1) ls (.int (3 : Int32) :: rest))) : W p l e R s m args below meth c H locs cells slots Q (F0 m pc ls (.ref X.2.2.2.2 :: rest)) :=
  va_tlen C.1 C.2.1 hw.1.2.2.2.2 hw.2.2 rfl hdg kk
end XH
section XD
variable {p : Program} {l : Launch} {e : Env} {R : Room} {s : State} {m : MethodId} {args : Array Value} {below : List Frame} {meth : Method} {c : Code} {H : Heap} {locs : List Loc} {cells slots : Nat} {Q : State → Prop}
variable {cc : ByteArray} {pc nL : Nat} {ls : Array Slot} {rest : List Value} {X : XC} {ex : va_W} {z : XS} {own : String}
variable {y : MethodName} {bytes : ByteArray} {maxL n index : Nat} {ret : Option FieldType} {rm : Room} {Qc : Array Value → State → Outcome → State → Prop} {As st0 : List Value}
/-- a call whose method is selected by the receiver -/
theorem x_runD (C : CallFix p m c cc nL s args gtbl own) (hw : xw X ex z s H locs) {k j : Nat} (hj : j < xcnt k) {ci N : Nat} {Cn : String} {T : u_T} {fs : List Value} (hct : xct X z k j = .inr (ci, fs)) (hc : vwCl[ci]? = some (Cn, T, N)) {x : MethodName} {owner : String} (cv : Cond.code y bytes maxL ret ∈ gtbl ∧ Cond.initialized y.cls ∈ gtbl ∧ Cond.instanceMethod y ∈ gtbl) (hd : owner ≠ "java/lang/invoke/MethodHandle" ∧ owner ≠ "java/lang/invoke/VarHandle" ∧ (parseMethodDescriptor x.desc).map (fun d => d.parameters.length) = some n) (hl : Cond.methodLink own index x ∈ gtbl) (hsm : Cond.sameMethod x.cls owner x.name x.desc ∈ gtbl) (hdi : Cond.instanceMethod ⟨owner, x.name, x.desc⟩ ∈ gtbl) {b0 : ByteArray} {m0 : Nat} {r0 : Option FieldType} (h0 : Cond.code ⟨owner, x.name, x.desc⟩ b0 m0 r0 ∈ gtbl) (hsel : Cond.selects Cn x y ∈ gtbl) (hM : xM l X ex y bytes maxL ret rm (.ref (xad X z k j) :: As) z Qc) (hR : rm.frames + 1 ≤ R.frames ∧ 8 + (maxL + 11) + rm.locals ≤ R.locals)
    (hn : As.length = n) (hsize : ls.size = nL) (hstack : st0 = As.reverse ++ .ref (xad X z k j) :: rest) (hW : (rest.map fun v => v.category).sum ≤ 8) (hdg : decode cc pc = .ok (.invokevirtual index, 3)) (hf : cells + rm.cells ≤ R.cells ∧ slots + rm.slots ≤ R.slots) :
    va_Run p l e R s m args below meth c H locs cells slots rm.cells rm.slots (F0 m pc ls st0) rest (Qc (Value.ref (xad X z k j) :: As).toArray) (xA X) := by
  refine va_runU (C := Cn) (x := x) (owner := owner) (n := n) C hM ⟨⟨rfl, rfl, hR.1, hR.2, pay_in C.2.2.2.2 (xgood cv.1), List.mem_cons_self⟩, C.2.2.2.2 _ cv.1, C.2.2.2.2 _ cv.2.1, ⟨hd.1, hd.2.1⟩, fun sig h => ?_, C.2.2.2.2 _ hl, C.2.2.2.2 _ hsm, va_Decl.of (C.2.2.2.2 _ hdi) (C.2.2.2.2 _ h0), C.2.2.2.2 _ hsel, C.2.2.2.2 _ cv.2.2⟩ ⟨xblind, x_recv hw hj hct hc, fun U hU hW => ⟨rfl, hw.to hU hW⟩⟩ rfl hn hsize hstack (lv_room hW) hdg hf
  have h2 := hd.2.2
  rw [h] at h2
  exact (Option.some.inj h2).symm
/-- a call of the superclass's own method -/
theorem x_runSU (C : CallFix p m c cc nL s args gtbl own) (hw : xw X ex z s H locs) {k j : Nat} (hj : j < xcnt k) {ci N : Nat} {Cn : String} {T : u_T} {fs : List Value} (hct : xct X z k j = .inr (ci, fs)) (hc : vwCl[ci]? = some (Cn, T, N)) (cv : Cond.code y bytes maxL ret ∈ gtbl ∧ Cond.initialized y.cls ∈ gtbl ∧ Cond.instanceMethod y ∈ gtbl) (hd : y.name ≠ "<init>" ∧ (parseMethodDescriptor y.desc).map (fun d => d.parameters.length) = some n) (hl : Cond.methodLink own index y ∈ gtbl) (hsm : Cond.sameMethod y.cls y.cls y.name y.desc ∈ gtbl) (hsu : Cond.superclass own y.cls ∈ gtbl) (hM : xM l X ex y bytes maxL ret rm (.ref (xad X z k j) :: As) z Qc) (hR : rm.frames + 1 ≤ R.frames ∧ 8 + (maxL + 11) + rm.locals ≤ R.locals)
    (hn : As.length = n) (hsize : ls.size = nL) (hstack : st0 = As.reverse ++ .ref (xad X z k j) :: rest) (hW : (rest.map fun v => v.category).sum ≤ 8) (hdg : decode cc pc = .ok (.invokespecial index, 3)) (hf : cells + rm.cells ≤ R.cells ∧ slots + rm.slots ≤ R.slots) :
    va_Run p l e R s m args below meth c H locs cells slots rm.cells rm.slots (F0 m pc ls st0) rest (Qc (Value.ref (xad X z k j) :: As).toArray) (xA X) := by
  refine va_runSU (C := Cn) (cC := X.1.1 ci) (n := n) (hw.1.2.1.1 ci _ hc).2 C hM ⟨⟨rfl, rfl, hR.1, hR.2, pay_in C.2.2.2.2 (xgood cv.1), List.mem_cons_self⟩, C.2.2.2.2 _ hl, C.2.2.2.2 _ hsm, C.2.2.2.2 _ hsu, C.2.2.2.2 _ cv.2.2, C.2.2.2.2 _ cv.2.1, C.2.2.2.2 _ cv.1, hd.1, fun sig h => ?_⟩ ⟨xblind, x_recv hw hj hct hc, fun U hU hW => ⟨rfl, hw.to hU hW⟩⟩ rfl hn hsize hstack (lv_room hW) hdg hf
  have h2 := hd.2
  rw [h] at h2
  exact (Option.some.inj h2).symm
end XD
end
section
theorem kw_0 : Cond.code yX9_isWithin cX9_isWithin 2 (some .boolean) ∈ gtbl := gm1 166 rfl rfl
theorem kw_1 : Cond.initialized RX9 ∈ gtbl := gm1 1 rfl rfl
theorem nd_X9_isWithin : (yX9_isWithin).cls ≠ "java/lang/invoke/MethodHandle" ∧ (yX9_isWithin).cls ≠ "java/lang/invoke/VarHandle" ∧ (parseMethodDescriptor (yX9_isWithin).desc).map (fun d => d.parameters.length) = some 2 := by decide +kernel
theorem kw_3 : Cond.static yX9_isWithin ∈ gtbl := gm1 165 rfl rfl
theorem cS_X9_isWithin : xcS yX9_isWithin cX9_isWithin 2 (some .boolean) 2 := ⟨⟨kw_0, kw_1, nd_X9_isWithin⟩, kw_3⟩
theorem kw_5 : Cond.methodLink RX9 47 yX9_isWithin ∈ gtbl := gm1 164 rfl rfl
theorem kw_6 : Cond.fieldLink RX5 15 (TX5 1).1 (TX5 1).2.1 (TX5 1).2.2.1 ∈ gtbl := gm1 131 rfl rfl
theorem gf_X5_1 {p : Program} {l : Launch} {e : Env} {R : Room} {s : State} {m : MethodId} {args : Array Value} {below : List Frame} {meth : Method} {c : Code} {H : Heap} {locs : List Loc} {cells slots : Nat} {Q : State → Prop} {cc : ByteArray} {pc nL index : Nat} {ls : Array Slot} {rest : List Value} {X : XC} {ex : va_W} {z : XS} {own : String} (C : CallFix p m c cc nL s args gtbl own) (hw : xw X ex z s H locs) {j : Nat} (hj : j < 4) (hlink : Cond.fieldLink own index (TX5 1).1 (TX5 1).2.1 (TX5 1).2.2.1 ∈ gtbl) (hdg : decode cc pc = .ok (.getfield index, 3)) (kk : W p l e R s m args below meth c H locs cells slots Q (F0 m (pc + 3) ls (.int (gS z 5 1 j) :: rest))) : W p l e R s m args below meth c H locs cells slots Q (F0 m pc ls (.ref (X.2.2.1 5 j) :: rest)) :=
  x_get (k := 5) (j := j) C hw hj 1 (v := .int (gS z 5 1 j)) rfl rfl ixX5 (by decide) hlink rfl hdg kk
theorem kw_8 : Cond.fieldLink RX9 38 (TX9 4).1 (TX9 4).2.1 (TX9 4).2.2.1 ∈ gtbl := gm1 145 rfl rfl
theorem pf_X9_4 {p : Program} {l : Launch} {e : Env} {R : Room} {s : State} {m : MethodId} {args : Array Value} {below : List Frame} {meth : Method} {c : Code} {H : Heap} {locs : List Loc} {cells slots : Nat} {Q : State → Prop} {cc : ByteArray} {pc nL index : Nat} {ls : Array Slot} {rest : List Value} {X : XC} {ex : va_W} {z : XS} {own : String} (C : CallFix p m c cc nL s args gtbl own) (hw : xw X ex z s H locs) {v : Int32} (hlink : Cond.fieldLink own index (TX9 4).1 (TX9 4).2.1 (TX9 4).2.2.1 ∈ gtbl) (hdg : decode cc pc = .ok (.putfield index, 3)) (kk : ∀ (H1 : Heap) (locs1 : List Loc), xw X ex (pS z 0 4 0 v) s H1 locs1 → W p l e R s m args below meth c H1 locs1 cells slots Q (F0 m (pc + 3) ls rest)) : W p l e R s m args below meth c H locs cells slots Q (F0 m pc ls (.int v :: .ref (X.2.2.1 0 0) :: rest)) :=
  x_put (k := 0) (j := 0) C hw (Nat.le_of_ble_eq_true rfl) 4 (v := v) rfl rfl rfl ixX9 tyX9 tyX9_ok nmX9 (by decide) hlink rfl (by decide +kernel) (Nat.le_of_ble_eq_true rfl) hdg kk
theorem kw_10 : Cond.fieldLink RX5 19 (TX5 2).1 (TX5 2).2.1 (TX5 2).2.2.1 ∈ gtbl := gm1 133 rfl rfl
theorem gf_X5_2 {p : Program} {l : Launch} {e : Env} {R : Room} {s : State} {m : MethodId} {args : Array Value} {below : List Frame} {meth : Method} {c : Code} {H : Heap} {locs : List Loc} {cells slots : Nat} {Q : State → Prop} {cc : ByteArray} {pc nL index : Nat} {ls : Array Slot} {rest : List Value} {X : XC} {ex : va_W} {z : XS} {own : String} (C : CallFix p m c cc nL s args gtbl own) (hw : xw X ex z s H locs) {j : Nat} (hj : j < 4) (hlink : Cond.fieldLink own index (TX5 2).1 (TX5 2).2.1 (TX5 2).2.2.1 ∈ gtbl) (hdg : decode cc pc = .ok (.getfield index, 3)) (kk : W p l e R s m args below meth c H locs cells slots Q (F0 m (pc + 3) ls (.int (gS z 5 2 j) :: rest))) : W p l e R s m args below meth c H locs cells slots Q (F0 m pc ls (.ref (X.2.2.1 5 j) :: rest)) :=
  x_get (k := 5) (j := j) C hw hj 2 (v := .int (gS z 5 2 j)) rfl rfl ixX5 (by decide) hlink rfl hdg kk
theorem kw_12 : Cond.code yX6_partAt cX6_partAt 1 (some .int) ∈ gtbl := gm1 191 rfl rfl
theorem kw_13 : Cond.initialized RX6 ∈ gtbl := gm1 9 rfl rfl
theorem nd_X6_partAt : (yX6_partAt).cls ≠ "java/lang/invoke/MethodHandle" ∧ (yX6_partAt).cls ≠ "java/lang/invoke/VarHandle" ∧ (parseMethodDescriptor (yX6_partAt).desc).map (fun d => d.parameters.length) = some 1 := by decide +kernel
theorem kw_15 : Cond.static yX6_partAt ∈ gtbl := gm1 190 rfl rfl
theorem cS_X6_partAt : xcS yX6_partAt cX6_partAt 1 (some .int) 1 := ⟨⟨kw_12, kw_13, nd_X6_partAt⟩, kw_15⟩
theorem kw_17 : Cond.methodLink RX6 25 yX6_partAt ∈ gtbl := gm1 189 rfl rfl
theorem kw_18 : Cond.code yX6_gardenAt cX6_gardenAt 1 (some .int) ∈ gtbl := gm1 194 rfl rfl
theorem nd_X6_gardenAt : (yX6_gardenAt).cls ≠ "java/lang/invoke/MethodHandle" ∧ (yX6_gardenAt).cls ≠ "java/lang/invoke/VarHandle" ∧ (parseMethodDescriptor (yX6_gardenAt).desc).map (fun d => d.parameters.length) = some 1 := by decide +kernel
theorem kw_20 : Cond.static yX6_gardenAt ∈ gtbl := gm1 193 rfl rfl
theorem cS_X6_gardenAt : xcS yX6_gardenAt cX6_gardenAt 1 (some .int) 1 := ⟨⟨kw_18, kw_13, nd_X6_gardenAt⟩, kw_20⟩
theorem kw_22 : Cond.methodLink RX6 29 yX6_gardenAt ∈ gtbl := gm1 192 rfl rfl
theorem kw_23 : Cond.code yX6_kindOf cX6_kindOf 1 (some .int) ∈ gtbl := gm1 197 rfl rfl
theorem nd_X6_kindOf : (yX6_kindOf).cls ≠ "java/lang/invoke/MethodHandle" ∧ (yX6_kindOf).cls ≠ "java/lang/invoke/VarHandle" ∧ (parseMethodDescriptor (yX6_kindOf).desc).map (fun d => d.parameters.length) = some 1 := by decide +kernel
theorem kw_25 : Cond.static yX6_kindOf ∈ gtbl := gm1 196 rfl rfl
theorem cS_X6_kindOf : xcS yX6_kindOf cX6_kindOf 1 (some .int) 1 := ⟨⟨kw_23, kw_13, nd_X6_kindOf⟩, kw_25⟩
theorem kw_27 : Cond.methodLink RX6 32 yX6_kindOf ∈ gtbl := gm1 195 rfl rfl
theorem kw_28 : Cond.code yX6_isWhole cX6_isWhole 1 (some .boolean) ∈ gtbl := gm1 200 rfl rfl
theorem nd_X6_isWhole : (yX6_isWhole).cls ≠ "java/lang/invoke/MethodHandle" ∧ (yX6_isWhole).cls ≠ "java/lang/invoke/VarHandle" ∧ (parseMethodDescriptor (yX6_isWhole).desc).map (fun d => d.parameters.length) = some 1 := by decide +kernel
theorem kw_30 : Cond.static yX6_isWhole ∈ gtbl := gm1 199 rfl rfl
theorem cS_X6_isWhole : xcS yX6_isWhole cX6_isWhole 1 (some .boolean) 1 := ⟨⟨kw_28, kw_13, nd_X6_isWhole⟩, kw_30⟩
theorem kw_32 : Cond.methodLink RX6 21 yX6_isWhole ∈ gtbl := gm1 198 rfl rfl
theorem gNf_X5_0 {p : Program} {l : Launch} {e : Env} {R : Room} {s : State} {m : MethodId} {args : Array Value} {below : List Frame} {meth : Method} {c : Code} {H : Heap} {locs : List Loc} {cells slots : Nat} {Q : State → Prop} {cc : ByteArray} {pc nL index : Nat} {ls : Array Slot} {rest : List Value} {X : XC} {ex : va_W} {z : XS} {own : String} (C : CallFix p m c cc nL s args gtbl own) (hw : xw X ex z s H locs) {j : Nat} (hj : j < 4) (hlink : (own, index, (TX5 0).1, (TX5 0).2.1, (TX5 0).2.2.1, "WordHedges") ∈ xnf) (hdg : decode cc pc = .ok (.getfield index, 3)) (kk : W p l e R s m args below meth c H locs cells slots Q (F0 m (pc + 3) ls (.ref (X.2.2.1 6 j) :: rest))) : W p l e R s m args below meth c H locs cells slots Q (F0 m pc ls (.ref (X.2.2.1 5 j) :: rest)) :=
  x_getN (k := 5) (j := j) C hw hj 0 (v := .ref (X.2.2.1 6 j)) rfl rfl ixX5 (by decide) hlink rfl hdg kk
theorem kw_34 : Cond.code yX6_goesOn cX6_goesOn 2 (some .boolean) ∈ gtbl := gm1 188 rfl rfl
theorem nd_X6_goesOn : (yX6_goesOn).cls ≠ "java/lang/invoke/MethodHandle" ∧ (yX6_goesOn).cls ≠ "java/lang/invoke/VarHandle" ∧ (parseMethodDescriptor (yX6_goesOn).desc).map (fun d => d.parameters.length) = some 2 := by decide +kernel
theorem kw_36 : Cond.static yX6_goesOn ∈ gtbl := gm1 187 rfl rfl
theorem cS_X6_goesOn : xcS yX6_goesOn cX6_goesOn 2 (some .boolean) 2 := ⟨⟨kw_34, kw_13, nd_X6_goesOn⟩, kw_36⟩
theorem kw_38 : Cond.methodLink RX6 15 yX6_goesOn ∈ gtbl := gm1 186 rfl rfl
theorem kw_39 : Cond.fieldLink RX4 21 (TX4 2).1 (TX4 2).2.1 (TX4 2).2.2.1 ∈ gtbl := gm1 77 rfl rfl
theorem gf_X4_2 {p : Program} {l : Launch} {e : Env} {R : Room} {s : State} {m : MethodId} {args : Array Value} {below : List Frame} {meth : Method} {c : Code} {H : Heap} {locs : List Loc} {cells slots : Nat} {Q : State → Prop} {cc : ByteArray} {pc nL index : Nat} {ls : Array Slot} {rest : List Value} {X : XC} {ex : va_W} {z : XS} {own : String} (C : CallFix p m c cc nL s args gtbl own) (hw : xw X ex z s H locs) (hlink : Cond.fieldLink own index (TX4 2).1 (TX4 2).2.1 (TX4 2).2.2.1 ∈ gtbl) (hdg : decode cc pc = .ok (.getfield index, 3)) (kk : W p l e R s m args below meth c H locs cells slots Q (F0 m (pc + 3) ls (.int (gS z 1 2 0) :: rest))) : W p l e R s m args below meth c H locs cells slots Q (F0 m pc ls (.ref (X.2.2.1 1 0) :: rest)) :=
  x_get (k := 1) (j := 0) C hw (Nat.le_of_ble_eq_true rfl) 2 (v := .int (gS z 1 2 0)) rfl rfl ixX4 (by decide) hlink rfl hdg kk
abbrev rm_X9_isWithin : Room := { frames := 0, cells := 0, slots := 0, locals := 0 }
def D_X9_isWithin (x0 : Int32) (x1 : Int32) (z : XS) : Option (Int32 × XS) :=
  (if x0 < 0 then some ((0 : Int32), z) else (if x1 < x0 then some ((0 : Int32), z) else some ((1 : Int32), z)))
set_option maxHeartbeats 4000000 in
set_option maxRecDepth 100000 in
theorem c_X9_isWithin (l : Launch) (X : XC) (ex : va_W) (x0 : Int32) (x1 : Int32) (z : XS) (R0 : Int32 × XS) (hD : D_X9_isWithin x0 x1 z = some R0) : xM l X ex yX9_isWithin cX9_isWithin 2 (some .boolean) rm_X9_isWithin [.int (x0), .int (x1)] z (xQi X ex R0.2 R0.1) := by
  refine x_ent (by decide) (Nat.le_of_ble_eq_true rfl) ?_
  intro p e s m below meth c ls C hr hk hw hl
  replace hl : lv_has ls 2 [(0, .int (x0)), (1, .int (x1))] := hl
  unfold D_X9_isWithin at hD
  refine lv_iload_n C.1 C.2.1 dX9_isWithin_0 rfl (lv_at hl 0 rfl) ?_
  refine lv_if_lt (tgt := 13) C.1 C.2.1 dX9_isWithin_1 (by decide) (fun c1 => ?_) (fun c1 => ?_)
  · replace hD := (if_pos c1).symm.trans hD
    refine lv_iconst (v := (0 : Int32)) C.1 C.2.1 dX9_isWithin_13 (by decide) ?_
    obtain rfl := Option.some.inj hD
    exact x_zret (v := (0 : Int32)) C hw hr hk nb0 dX9_isWithin_14
  · replace hD := (if_neg c1).symm.trans hD
    refine lv_iload_n C.1 C.2.1 dX9_isWithin_4 rfl (lv_at hl 0 rfl) ?_
    refine lv_iload_n C.1 C.2.1 dX9_isWithin_5 rfl (lv_at hl 1 rfl) ?_
    refine lv_icmp_gt (tgt := 13) C.1 C.2.1 dX9_isWithin_6 (by decide) (fun c2 => ?_) (fun c2 => ?_)
    · replace hD := (if_pos c2).symm.trans hD
      refine lv_iconst (v := (0 : Int32)) C.1 C.2.1 dX9_isWithin_13 (by decide) ?_
      obtain rfl := Option.some.inj hD
      exact x_zret (v := (0 : Int32)) C hw hr hk nb0 dX9_isWithin_14
    · replace hD := (if_neg c2).symm.trans hD
      refine lv_iconst (v := (1 : Int32)) C.1 C.2.1 dX9_isWithin_9 (by decide) ?_
      refine lv_goto (tgt := 14) C.1 C.2.1 dX9_isWithin_10 (by decide) ?_
      obtain rfl := Option.some.inj hD
      exact x_zret (v := (1 : Int32)) C hw hr hk nb1 dX9_isWithin_14
abbrev rm_X9_isSheet : Room := { frames := 1, cells := 0, slots := 0, locals := 21 }
def D_X9_isSheet (x0 : Int32) (z : XS) : Option (Int32 × XS) :=
  (D_X9_isWithin x0 (3 : Int32) z).bind fun q1 => (gd (isZ q1.1) (some (q1.1, q1.2)))
set_option maxHeartbeats 4000000 in
set_option maxRecDepth 100000 in
theorem c_X9_isSheet (l : Launch) (X : XC) (ex : va_W) (x0 : Int32) (z : XS) (R0 : Int32 × XS) (hD : D_X9_isSheet x0 z = some R0) : xM l X ex yX9_isSheet cX9_isSheet 1 (some .boolean) rm_X9_isSheet [.int (x0)] z (xQi X ex R0.2 R0.1) := by
  refine x_ent (by decide) (Nat.le_of_ble_eq_true rfl) ?_
  intro p e s m below meth c ls C hr hk hw hl
  replace hl : lv_has ls 1 [(0, .int (x0))] := hl
  unfold D_X9_isSheet at hD
  refine lv_iload_n C.1 C.2.1 dX9_isSheet_0 rfl (lv_at hl 0 rfl) ?_
  refine lv_iconst (v := (3 : Int32)) C.1 C.2.1 dX9_isSheet_1 (by decide) ?_
  obtain ⟨q1, hq1, hD⟩ := Option.bind_eq_some_iff.mp hD
  refine x_goi hw (x_runS (As := [.int (x0), .int ((3 : Int32))]) (rest := []) C hw cS_X9_isWithin kw_5 (c_X9_isWithin l X ex x0 (3 : Int32)  z q1 hq1) ⟨Nat.le_of_ble_eq_true rfl, Nat.le_of_ble_eq_true rfl⟩ rfl hl.1 rfl (Nat.le_of_ble_eq_true rfl) dX9_isSheet_2 ⟨Nat.le_of_ble_eq_true rfl, Nat.le_of_ble_eq_true rfl⟩) (fun H locs hw => ?_)
  obtain ⟨g2, hD⟩ := gd_some hD
  obtain rfl := Option.some.inj hD
  exact x_zret (v := q1.1) C hw hr hk (isZ_n g2) dX9_isSheet_5
abbrev rm_X5_isOfOtherLane : Room := { frames := 0, cells := 0, slots := 0, locals := 0 }
def D_X5_isOfOtherLane (j0 : Nat) (x1 : Int32) (z : XS) : Option (Int32 × XS) :=
  (if gS z 5 1 j0 = (-1 : Int32) then some ((0 : Int32), z) else (if gS z 5 1 j0 = x1 then some ((0 : Int32), z) else some ((1 : Int32), z)))
set_option maxHeartbeats 4000000 in
set_option maxRecDepth 100000 in
theorem c_X5_isOfOtherLane (l : Launch) (X : XC) (ex : va_W) (j0 : Nat) (x1 : Int32) (hj0 : j0 < 4) (z : XS) (R0 : Int32 × XS) (hD : D_X5_isOfOtherLane j0 x1 z = some R0) : xM l X ex yX5_isOfOtherLane cX5_isOfOtherLane 2 (some .boolean) rm_X5_isOfOtherLane [.ref (X.2.2.1 5 (j0)), .int (x1)] z (xQi X ex R0.2 R0.1) := by
  refine x_ent (by decide) (Nat.le_of_ble_eq_true rfl) ?_
  intro p e s m below meth c ls C hr hk hw hl
  replace hl : lv_has ls 2 [(0, .ref (X.2.2.1 5 (j0))), (1, .int (x1))] := hl
  unfold D_X5_isOfOtherLane at hD
  refine lv_aload_n C.1 C.2.1 dX5_isOfOtherLane_0 rfl (lv_at hl 0 rfl) ?_
  refine gf_X5_1 C hw (j := j0) hj0 kw_6 dX5_isOfOtherLane_1 ?_
  refine lv_iconst (v := (-1 : Int32)) C.1 C.2.1 dX5_isOfOtherLane_4 (by decide) ?_
  refine lv_icmp_eq (tgt := 20) C.1 C.2.1 dX5_isOfOtherLane_5 (by decide) (fun c1 => ?_) (fun c1 => ?_)
  · replace hD := (if_pos c1).symm.trans hD
    refine lv_iconst (v := (0 : Int32)) C.1 C.2.1 dX5_isOfOtherLane_20 (by decide) ?_
    obtain rfl := Option.some.inj hD
    exact x_zret (v := (0 : Int32)) C hw hr hk nb0 dX5_isOfOtherLane_21
  · replace hD := (if_neg c1).symm.trans hD
    refine lv_aload_n C.1 C.2.1 dX5_isOfOtherLane_8 rfl (lv_at hl 0 rfl) ?_
    refine gf_X5_1 C hw (j := j0) hj0 kw_6 dX5_isOfOtherLane_9 ?_
    refine lv_iload_n C.1 C.2.1 dX5_isOfOtherLane_12 rfl (lv_at hl 1 rfl) ?_
    refine lv_icmp_eq (tgt := 20) C.1 C.2.1 dX5_isOfOtherLane_13 (by decide) (fun c2 => ?_) (fun c2 => ?_)
    · replace hD := (if_pos c2).symm.trans hD
      refine lv_iconst (v := (0 : Int32)) C.1 C.2.1 dX5_isOfOtherLane_20 (by decide) ?_
      obtain rfl := Option.some.inj hD
      exact x_zret (v := (0 : Int32)) C hw hr hk nb0 dX5_isOfOtherLane_21
    · replace hD := (if_neg c2).symm.trans hD
      refine lv_iconst (v := (1 : Int32)) C.1 C.2.1 dX5_isOfOtherLane_16 (by decide) ?_
      refine lv_goto (tgt := 21) C.1 C.2.1 dX5_isOfOtherLane_17 (by decide) ?_
      obtain rfl := Option.some.inj hD
      exact x_zret (v := (1 : Int32)) C hw hr hk nb1 dX5_isOfOtherLane_21
abbrev rm_X9_faulted : Room := { frames := 0, cells := 0, slots := 0, locals := 0 }
def D_X9_faulted (x1 : Int32) (z : XS) : Option (Int32 × XS) :=
  (some (pS z 0 4 0 x1)).bind fun z1 => (some ((-10 : Int32) - x1, z1))
set_option maxHeartbeats 4000000 in
set_option maxRecDepth 100000 in
theorem c_X9_faulted (l : Launch) (X : XC) (ex : va_W) (x1 : Int32) (z : XS) (R0 : Int32 × XS) (hD : D_X9_faulted x1 z = some R0) : xM l X ex yX9_faulted cX9_faulted 2 (some .int) rm_X9_faulted [.ref (X.2.2.1 0 (0)), .int (x1)] z (xQi X ex R0.2 R0.1) := by
  refine x_ent (by decide) (Nat.le_of_ble_eq_true rfl) ?_
  intro p e s m below meth c ls C hr hk hw hl
  replace hl : lv_has ls 2 [(0, .ref (X.2.2.1 0 (0))), (1, .int (x1))] := hl
  unfold D_X9_faulted at hD
  refine lv_aload_n C.1 C.2.1 dX9_faulted_0 rfl (lv_at hl 0 rfl) ?_
  refine lv_iload_n C.1 C.2.1 dX9_faulted_1 rfl (lv_at hl 1 rfl) ?_
  obtain ⟨z1, hz1, hD⟩ := Option.bind_eq_some_iff.mp hD
  refine pf_X9_4 C hw kw_8 dX9_faulted_2 (fun H locs hw => ?_)
  replace hw := xw_eq hz1 hw
  refine lv_bipush (v := (-10 : Int32)) C.1 C.2.1 dX9_faulted_5 (by decide) ?_
  refine lv_iload_n C.1 C.2.1 dX9_faulted_7 rfl (lv_at hl 1 rfl) ?_
  refine lv_isub C.1 C.2.1 dX9_faulted_8 ?_
  obtain rfl := Option.some.inj hD
  exact x_iret C hw hr hk dX9_faulted_9
abbrev rm_X5_hasNothing : Room := { frames := 0, cells := 0, slots := 0, locals := 0 }
def D_X5_hasNothing (j0 : Nat) (z : XS) : Option (Int32 × XS) :=
  (if gS z 5 1 j0 = (-1 : Int32) then some ((1 : Int32), z) else some ((0 : Int32), z))
set_option maxHeartbeats 4000000 in
set_option maxRecDepth 100000 in
theorem c_X5_hasNothing (l : Launch) (X : XC) (ex : va_W) (j0 : Nat) (hj0 : j0 < 4) (z : XS) (R0 : Int32 × XS) (hD : D_X5_hasNothing j0 z = some R0) : xM l X ex yX5_hasNothing cX5_hasNothing 1 (some .boolean) rm_X5_hasNothing [.ref (X.2.2.1 5 (j0))] z (xQi X ex R0.2 R0.1) := by
  refine x_ent (by decide) (Nat.le_of_ble_eq_true rfl) ?_
  intro p e s m below meth c ls C hr hk hw hl
  replace hl : lv_has ls 1 [(0, .ref (X.2.2.1 5 (j0)))] := hl
  unfold D_X5_hasNothing at hD
  refine lv_aload_n C.1 C.2.1 dX5_hasNothing_0 rfl (lv_at hl 0 rfl) ?_
  refine gf_X5_1 C hw (j := j0) hj0 kw_6 dX5_hasNothing_1 ?_
  refine lv_iconst (v := (-1 : Int32)) C.1 C.2.1 dX5_hasNothing_4 (by decide) ?_
  refine lv_icmp_ne (tgt := 12) C.1 C.2.1 dX5_hasNothing_5 (by decide) (fun c1 => ?_) (fun c1 => ?_)
  · replace hD := (if_neg c1).symm.trans hD
    refine lv_iconst (v := (0 : Int32)) C.1 C.2.1 dX5_hasNothing_12 (by decide) ?_
    obtain rfl := Option.some.inj hD
    exact x_zret (v := (0 : Int32)) C hw hr hk nb0 dX5_hasNothing_13
  · replace hD := (if_pos c1).symm.trans hD
    refine lv_iconst (v := (1 : Int32)) C.1 C.2.1 dX5_hasNothing_8 (by decide) ?_
    refine lv_goto (tgt := 13) C.1 C.2.1 dX5_hasNothing_9 (by decide) ?_
    obtain rfl := Option.some.inj hD
    exact x_zret (v := (1 : Int32)) C hw hr hk nb1 dX5_hasNothing_13
abbrev rm_X5_holdsRun : Room := { frames := 0, cells := 0, slots := 0, locals := 0 }
def D_X5_holdsRun (j0 : Nat) (x1 : Int32) (x2 : Int32) (z : XS) : Option (Int32 × XS) :=
  (if x1 < 0 then some ((0 : Int32), z) else (if gS z 5 2 j0 < x1 then some ((0 : Int32), z) else (if x2 < 0 then some ((0 : Int32), z) else (if (gS z 5 2 j0) - x1 < x2 then some ((0 : Int32), z) else some ((1 : Int32), z)))))
set_option maxHeartbeats 4000000 in
set_option maxRecDepth 100000 in
theorem c_X5_holdsRun (l : Launch) (X : XC) (ex : va_W) (j0 : Nat) (x1 : Int32) (x2 : Int32) (hj0 : j0 < 4) (z : XS) (R0 : Int32 × XS) (hD : D_X5_holdsRun j0 x1 x2 z = some R0) : xM l X ex yX5_holdsRun cX5_holdsRun 3 (some .boolean) rm_X5_holdsRun [.ref (X.2.2.1 5 (j0)), .int (x1), .int (x2)] z (xQi X ex R0.2 R0.1) := by
  refine x_ent (by decide) (Nat.le_of_ble_eq_true rfl) ?_
  intro p e s m below meth c ls C hr hk hw hl
  replace hl : lv_has ls 3 [(0, .ref (X.2.2.1 5 (j0))), (1, .int (x1)), (2, .int (x2))] := hl
  unfold D_X5_holdsRun at hD
  refine lv_iload_n C.1 C.2.1 dX5_holdsRun_0 rfl (lv_at hl 1 rfl) ?_
  refine lv_if_lt (tgt := 30) C.1 C.2.1 dX5_holdsRun_1 (by decide) (fun c1 => ?_) (fun c1 => ?_)
  · replace hD := (if_pos c1).symm.trans hD
    refine lv_iconst (v := (0 : Int32)) C.1 C.2.1 dX5_holdsRun_30 (by decide) ?_
    obtain rfl := Option.some.inj hD
    exact x_zret (v := (0 : Int32)) C hw hr hk nb0 dX5_holdsRun_31
  · replace hD := (if_neg c1).symm.trans hD
    refine lv_iload_n C.1 C.2.1 dX5_holdsRun_4 rfl (lv_at hl 1 rfl) ?_
    refine lv_aload_n C.1 C.2.1 dX5_holdsRun_5 rfl (lv_at hl 0 rfl) ?_
    refine gf_X5_2 C hw (j := j0) hj0 kw_10 dX5_holdsRun_6 ?_
    refine lv_icmp_gt (tgt := 30) C.1 C.2.1 dX5_holdsRun_9 (by decide) (fun c2 => ?_) (fun c2 => ?_)
    · replace hD := (if_pos c2).symm.trans hD
      refine lv_iconst (v := (0 : Int32)) C.1 C.2.1 dX5_holdsRun_30 (by decide) ?_
      obtain rfl := Option.some.inj hD
      exact x_zret (v := (0 : Int32)) C hw hr hk nb0 dX5_holdsRun_31
    · replace hD := (if_neg c2).symm.trans hD
      refine lv_iload_n C.1 C.2.1 dX5_holdsRun_12 rfl (lv_at hl 2 rfl) ?_
      refine lv_if_lt (tgt := 30) C.1 C.2.1 dX5_holdsRun_13 (by decide) (fun c3 => ?_) (fun c3 => ?_)
      · replace hD := (if_pos c3).symm.trans hD
        refine lv_iconst (v := (0 : Int32)) C.1 C.2.1 dX5_holdsRun_30 (by decide) ?_
        obtain rfl := Option.some.inj hD
        exact x_zret (v := (0 : Int32)) C hw hr hk nb0 dX5_holdsRun_31
      · replace hD := (if_neg c3).symm.trans hD
        refine lv_iload_n C.1 C.2.1 dX5_holdsRun_16 rfl (lv_at hl 2 rfl) ?_
        refine lv_aload_n C.1 C.2.1 dX5_holdsRun_17 rfl (lv_at hl 0 rfl) ?_
        refine gf_X5_2 C hw (j := j0) hj0 kw_10 dX5_holdsRun_18 ?_
        refine lv_iload_n C.1 C.2.1 dX5_holdsRun_21 rfl (lv_at hl 1 rfl) ?_
        refine lv_isub C.1 C.2.1 dX5_holdsRun_22 ?_
        refine lv_icmp_gt (tgt := 30) C.1 C.2.1 dX5_holdsRun_23 (by decide) (fun c4 => ?_) (fun c4 => ?_)
        · replace hD := (if_pos c4).symm.trans hD
          refine lv_iconst (v := (0 : Int32)) C.1 C.2.1 dX5_holdsRun_30 (by decide) ?_
          obtain rfl := Option.some.inj hD
          exact x_zret (v := (0 : Int32)) C hw hr hk nb0 dX5_holdsRun_31
        · replace hD := (if_neg c4).symm.trans hD
          refine lv_iconst (v := (1 : Int32)) C.1 C.2.1 dX5_holdsRun_26 (by decide) ?_
          refine lv_goto (tgt := 31) C.1 C.2.1 dX5_holdsRun_27 (by decide) ?_
          obtain rfl := Option.some.inj hD
          exact x_zret (v := (1 : Int32)) C hw hr hk nb1 dX5_holdsRun_31
abbrev rm_X6_partAt : Room := { frames := 0, cells := 0, slots := 0, locals := 0 }
def D_X6_partAt (x0 : Int32) (z : XS) : Option (Int32 × XS) :=
  some ((x0 - (1 : Int32)) - (x0 - (1 : Int32)) / (3 : Int32) * (3 : Int32), z)
set_option maxHeartbeats 4000000 in
set_option maxRecDepth 100000 in
theorem c_X6_partAt (l : Launch) (X : XC) (ex : va_W) (x0 : Int32) (z : XS) (R0 : Int32 × XS) (hD : D_X6_partAt x0 z = some R0) : xM l X ex yX6_partAt cX6_partAt 1 (some .int) rm_X6_partAt [.int (x0)] z (xQi X ex R0.2 R0.1) := by
  refine x_ent (by decide) (Nat.le_of_ble_eq_true rfl) ?_
  intro p e s m below meth c ls C hr hk hw hl
  replace hl : lv_has ls 1 [(0, .int (x0))] := hl
  unfold D_X6_partAt at hD
  refine lv_iload_n C.1 C.2.1 dX6_partAt_0 rfl (lv_at hl 0 rfl) ?_
  refine lv_iconst (v := (1 : Int32)) C.1 C.2.1 dX6_partAt_1 (by decide) ?_
  refine lv_isub C.1 C.2.1 dX6_partAt_2 ?_
  refine lv_iconst (v := (3 : Int32)) C.1 C.2.1 dX6_partAt_3 (by decide) ?_
  refine lv_irem C.1 C.2.1 dX6_partAt_4 (by decide) ?_
  obtain rfl := Option.some.inj hD
  exact x_iret C hw hr hk dX6_partAt_5
abbrev rm_X6_gardenAt : Room := { frames := 0, cells := 0, slots := 0, locals := 0 }
def D_X6_gardenAt (x0 : Int32) (z : XS) : Option (Int32 × XS) :=
  some ((x0 - (1 : Int32)) / (3 : Int32), z)
set_option maxHeartbeats 4000000 in
set_option maxRecDepth 100000 in
theorem c_X6_gardenAt (l : Launch) (X : XC) (ex : va_W) (x0 : Int32) (z : XS) (R0 : Int32 × XS) (hD : D_X6_gardenAt x0 z = some R0) : xM l X ex yX6_gardenAt cX6_gardenAt 1 (some .int) rm_X6_gardenAt [.int (x0)] z (xQi X ex R0.2 R0.1) := by
  refine x_ent (by decide) (Nat.le_of_ble_eq_true rfl) ?_
  intro p e s m below meth c ls C hr hk hw hl
  replace hl : lv_has ls 1 [(0, .int (x0))] := hl
  unfold D_X6_gardenAt at hD
  refine lv_iload_n C.1 C.2.1 dX6_gardenAt_0 rfl (lv_at hl 0 rfl) ?_
  refine lv_iconst (v := (1 : Int32)) C.1 C.2.1 dX6_gardenAt_1 (by decide) ?_
  refine lv_isub C.1 C.2.1 dX6_gardenAt_2 ?_
  refine lv_iconst (v := (3 : Int32)) C.1 C.2.1 dX6_gardenAt_3 (by decide) ?_
  refine lv_idiv C.1 C.2.1 dX6_gardenAt_4 (by decide) ?_
  obtain rfl := Option.some.inj hD
  exact x_iret C hw hr hk dX6_gardenAt_5
abbrev rm_X6_kindOf : Room := { frames := 0, cells := 0, slots := 0, locals := 0 }
def D_X6_kindOf (x0 : Int32) (z : XS) : Option (Int32 × XS) :=
  (if x0 = (98 : Int32) then some ((2 : Int32), z) else (if x0 = (104 : Int32) then some ((0 : Int32), z) else (if x0 = (121 : Int32) then some ((1 : Int32), z) else some ((-1 : Int32), z))))
set_option maxHeartbeats 4000000 in
set_option maxRecDepth 100000 in
theorem c_X6_kindOf (l : Launch) (X : XC) (ex : va_W) (x0 : Int32) (z : XS) (R0 : Int32 × XS) (hD : D_X6_kindOf x0 z = some R0) : xM l X ex yX6_kindOf cX6_kindOf 1 (some .int) rm_X6_kindOf [.int (x0)] z (xQi X ex R0.2 R0.1) := by
  refine x_ent (by decide) (Nat.le_of_ble_eq_true rfl) ?_
  intro p e s m below meth c ls C hr hk hw hl
  replace hl : lv_has ls 1 [(0, .int (x0))] := hl
  unfold D_X6_kindOf at hD
  refine lv_iload_n C.1 C.2.1 dX6_kindOf_0 rfl (lv_at hl 0 rfl) ?_
  by_cases c1 : x0 = (98 : Int32)
  · replace hD := (if_pos c1).symm.trans hD
    refine lv_lookup (off := 39) (tgt := 40) C.1 C.2.1 dX6_kindOf_1 (by decide) (by rw [c1]; decide) (by decide) ?_
    refine lv_iconst (v := (2 : Int32)) C.1 C.2.1 dX6_kindOf_40 (by decide) ?_
    obtain rfl := Option.some.inj hD
    exact x_iret C hw hr hk dX6_kindOf_41
  · replace hD := (if_neg c1).symm.trans hD
    by_cases c2 : x0 = (104 : Int32)
    · replace hD := (if_pos c2).symm.trans hD
      refine lv_lookup (off := 35) (tgt := 36) C.1 C.2.1 dX6_kindOf_1 (by decide) (by rw [c2]; decide) (by decide) ?_
      refine lv_iconst (v := (0 : Int32)) C.1 C.2.1 dX6_kindOf_36 (by decide) ?_
      obtain rfl := Option.some.inj hD
      exact x_iret C hw hr hk dX6_kindOf_37
    · replace hD := (if_neg c2).symm.trans hD
      by_cases c3 : x0 = (121 : Int32)
      · replace hD := (if_pos c3).symm.trans hD
        refine lv_lookup (off := 37) (tgt := 38) C.1 C.2.1 dX6_kindOf_1 (by decide) (by rw [c3]; decide) (by decide) ?_
        refine lv_iconst (v := (1 : Int32)) C.1 C.2.1 dX6_kindOf_38 (by decide) ?_
        obtain rfl := Option.some.inj hD
        exact x_iret C hw hr hk dX6_kindOf_39
      · replace hD := (if_neg c3).symm.trans hD
        refine lv_lookup (off := 41) (tgt := 42) C.1 C.2.1 dX6_kindOf_1 (by decide) (by simp [Op.lookupswitch.offset, sw_ne (n := 98) (98 : Int32) rfl c1, sw_ne (n := 104) (104 : Int32) rfl c2, sw_ne (n := 121) (121 : Int32) rfl c3]) (by decide) ?_
        refine lv_iconst (v := (-1 : Int32)) C.1 C.2.1 dX6_kindOf_42 (by decide) ?_
        obtain rfl := Option.some.inj hD
        exact x_iret C hw hr hk dX6_kindOf_43
abbrev rm_X6_goesOn : Room := { frames := 1, cells := 0, slots := 0, locals := 20 }
def D_X6_goesOn (x0 : Int32) (x1 : Int32) (z : XS) : Option (Int32 × XS) :=
  (if x0 = 0 then (if x1 = (103 : Int32) then some ((1 : Int32), z) else some ((0 : Int32), z)) else (D_X6_partAt x0 z).bind fun q2 => ((if q2.1 = (1 : Int32) then (D_X6_gardenAt x0 q2.2).bind fun q6 => ((if (6 : Int32) ≤ q6.1 then some ((0 : Int32), q6.2) else (D_X6_kindOf x1 q6.2).bind fun q8 => ((if q8.1 < 0 then some ((0 : Int32), q8.2) else some ((1 : Int32), q8.2))))) else (if x1 < (48 : Int32) then some ((0 : Int32), q2.2) else (if (57 : Int32) < x1 then some ((0 : Int32), q2.2) else some ((1 : Int32), q2.2))))))
set_option maxHeartbeats 4000000 in
set_option maxRecDepth 100000 in
theorem c_X6_goesOn (l : Launch) (X : XC) (ex : va_W) (x0 : Int32) (x1 : Int32) (z : XS) (R0 : Int32 × XS) (hD : D_X6_goesOn x0 x1 z = some R0) : xM l X ex yX6_goesOn cX6_goesOn 2 (some .boolean) rm_X6_goesOn [.int (x0), .int (x1)] z (xQi X ex R0.2 R0.1) := by
  refine x_ent (by decide) (Nat.le_of_ble_eq_true rfl) ?_
  intro p e s m below meth c ls C hr hk hw hl
  replace hl : lv_has ls 2 [(0, .int (x0)), (1, .int (x1))] := hl
  unfold D_X6_goesOn at hD
  refine lv_iload_n C.1 C.2.1 dX6_goesOn_0 rfl (lv_at hl 0 rfl) ?_
  refine lv_if_ne (tgt := 16) C.1 C.2.1 dX6_goesOn_1 (by decide) (fun c1 => ?_) (fun c1 => ?_)
  · replace hD := (if_neg c1).symm.trans hD
    refine lv_iload_n C.1 C.2.1 dX6_goesOn_16 rfl (lv_at hl 0 rfl) ?_
    obtain ⟨q2, hq2, hD⟩ := Option.bind_eq_some_iff.mp hD
    refine x_goi hw (x_runS (As := [.int (x0)]) (rest := []) C hw cS_X6_partAt kw_17 (c_X6_partAt l X ex x0  z q2 hq2) ⟨Nat.le_of_ble_eq_true rfl, Nat.le_of_ble_eq_true rfl⟩ rfl hl.1 rfl (Nat.le_of_ble_eq_true rfl) dX6_goesOn_17 ⟨Nat.le_of_ble_eq_true rfl, Nat.le_of_ble_eq_true rfl⟩) (fun H locs hw => ?_)
    refine lv_iconst (v := (1 : Int32)) C.1 C.2.1 dX6_goesOn_20 (by decide) ?_
    refine lv_icmp_ne (tgt := 46) C.1 C.2.1 dX6_goesOn_21 (by decide) (fun c3 => ?_) (fun c3 => ?_)
    · replace hD := (if_neg c3).symm.trans hD
      refine lv_iload_n C.1 C.2.1 dX6_goesOn_46 rfl (lv_at hl 1 rfl) ?_
      refine lv_bipush (v := (48 : Int32)) C.1 C.2.1 dX6_goesOn_47 (by decide) ?_
      refine lv_icmp_lt (tgt := 62) C.1 C.2.1 dX6_goesOn_49 (by decide) (fun c4 => ?_) (fun c4 => ?_)
      · replace hD := (if_pos c4).symm.trans hD
        refine lv_iconst (v := (0 : Int32)) C.1 C.2.1 dX6_goesOn_62 (by decide) ?_
        obtain rfl := Option.some.inj hD
        exact x_zret (v := (0 : Int32)) C hw hr hk nb0 dX6_goesOn_63
      · replace hD := (if_neg c4).symm.trans hD
        refine lv_iload_n C.1 C.2.1 dX6_goesOn_52 rfl (lv_at hl 1 rfl) ?_
        refine lv_bipush (v := (57 : Int32)) C.1 C.2.1 dX6_goesOn_53 (by decide) ?_
        refine lv_icmp_gt (tgt := 62) C.1 C.2.1 dX6_goesOn_55 (by decide) (fun c5 => ?_) (fun c5 => ?_)
        · replace hD := (if_pos c5).symm.trans hD
          refine lv_iconst (v := (0 : Int32)) C.1 C.2.1 dX6_goesOn_62 (by decide) ?_
          obtain rfl := Option.some.inj hD
          exact x_zret (v := (0 : Int32)) C hw hr hk nb0 dX6_goesOn_63
        · replace hD := (if_neg c5).symm.trans hD
          refine lv_iconst (v := (1 : Int32)) C.1 C.2.1 dX6_goesOn_58 (by decide) ?_
          refine lv_goto (tgt := 63) C.1 C.2.1 dX6_goesOn_59 (by decide) ?_
          obtain rfl := Option.some.inj hD
          exact x_zret (v := (1 : Int32)) C hw hr hk nb1 dX6_goesOn_63
    · replace hD := (if_pos c3).symm.trans hD
      refine lv_iload_n C.1 C.2.1 dX6_goesOn_24 rfl (lv_at hl 0 rfl) ?_
      obtain ⟨q6, hq6, hD⟩ := Option.bind_eq_some_iff.mp hD
      refine x_goi hw (x_runS (As := [.int (x0)]) (rest := []) C hw cS_X6_gardenAt kw_22 (c_X6_gardenAt l X ex x0  q2.2 q6 hq6) ⟨Nat.le_of_ble_eq_true rfl, Nat.le_of_ble_eq_true rfl⟩ rfl hl.1 rfl (Nat.le_of_ble_eq_true rfl) dX6_goesOn_25 ⟨Nat.le_of_ble_eq_true rfl, Nat.le_of_ble_eq_true rfl⟩) (fun H locs hw => ?_)
      refine lv_bipush (v := (6 : Int32)) C.1 C.2.1 dX6_goesOn_28 (by decide) ?_
      refine lv_icmp_ge (tgt := 44) C.1 C.2.1 dX6_goesOn_30 (by decide) (fun c7 => ?_) (fun c7 => ?_)
      · replace hD := (if_pos c7).symm.trans hD
        refine lv_iconst (v := (0 : Int32)) C.1 C.2.1 dX6_goesOn_44 (by decide) ?_
        obtain rfl := Option.some.inj hD
        exact x_zret (v := (0 : Int32)) C hw hr hk nb0 dX6_goesOn_45
      · replace hD := (if_neg c7).symm.trans hD
        refine lv_iload_n C.1 C.2.1 dX6_goesOn_33 rfl (lv_at hl 1 rfl) ?_
        obtain ⟨q8, hq8, hD⟩ := Option.bind_eq_some_iff.mp hD
        refine x_goi hw (x_runS (As := [.int (x1)]) (rest := []) C hw cS_X6_kindOf kw_27 (c_X6_kindOf l X ex x1  q6.2 q8 hq8) ⟨Nat.le_of_ble_eq_true rfl, Nat.le_of_ble_eq_true rfl⟩ rfl hl.1 rfl (Nat.le_of_ble_eq_true rfl) dX6_goesOn_34 ⟨Nat.le_of_ble_eq_true rfl, Nat.le_of_ble_eq_true rfl⟩) (fun H locs hw => ?_)
        refine lv_if_lt (tgt := 44) C.1 C.2.1 dX6_goesOn_37 (by decide) (fun c9 => ?_) (fun c9 => ?_)
        · replace hD := (if_pos c9).symm.trans hD
          refine lv_iconst (v := (0 : Int32)) C.1 C.2.1 dX6_goesOn_44 (by decide) ?_
          obtain rfl := Option.some.inj hD
          exact x_zret (v := (0 : Int32)) C hw hr hk nb0 dX6_goesOn_45
        · replace hD := (if_neg c9).symm.trans hD
          refine lv_iconst (v := (1 : Int32)) C.1 C.2.1 dX6_goesOn_40 (by decide) ?_
          refine lv_goto (tgt := 45) C.1 C.2.1 dX6_goesOn_41 (by decide) ?_
          obtain rfl := Option.some.inj hD
          exact x_zret (v := (1 : Int32)) C hw hr hk nb1 dX6_goesOn_45
  · replace hD := (if_pos c1).symm.trans hD
    refine lv_iload_n C.1 C.2.1 dX6_goesOn_4 rfl (lv_at hl 1 rfl) ?_
    refine lv_bipush (v := (103 : Int32)) C.1 C.2.1 dX6_goesOn_5 (by decide) ?_
    refine lv_icmp_ne (tgt := 14) C.1 C.2.1 dX6_goesOn_7 (by decide) (fun c10 => ?_) (fun c10 => ?_)
    · replace hD := (if_neg c10).symm.trans hD
      refine lv_iconst (v := (0 : Int32)) C.1 C.2.1 dX6_goesOn_14 (by decide) ?_
      obtain rfl := Option.some.inj hD
      exact x_zret (v := (0 : Int32)) C hw hr hk nb0 dX6_goesOn_15
    · replace hD := (if_pos c10).symm.trans hD
      refine lv_iconst (v := (1 : Int32)) C.1 C.2.1 dX6_goesOn_10 (by decide) ?_
      refine lv_goto (tgt := 15) C.1 C.2.1 dX6_goesOn_11 (by decide) ?_
      obtain rfl := Option.some.inj hD
      exact x_zret (v := (1 : Int32)) C hw hr hk nb1 dX6_goesOn_15
abbrev rm_X6_isWhole : Room := { frames := 1, cells := 0, slots := 0, locals := 20 }
def D_X6_isWhole (x0 : Int32) (z : XS) : Option (Int32 × XS) :=
  (if x0 ≤ (1 : Int32) then some ((0 : Int32), z) else (D_X6_partAt (x0 - (1 : Int32)) z).bind fun q2 => ((if q2.1 = 0 then (D_X6_gardenAt (x0 - (1 : Int32)) q2.2).bind fun q4 => ((if q4.1 ≤ 0 then some ((0 : Int32), q4.2) else some ((1 : Int32), q4.2))) else some ((0 : Int32), q2.2))))
set_option maxHeartbeats 4000000 in
set_option maxRecDepth 100000 in
theorem c_X6_isWhole (l : Launch) (X : XC) (ex : va_W) (x0 : Int32) (z : XS) (R0 : Int32 × XS) (hD : D_X6_isWhole x0 z = some R0) : xM l X ex yX6_isWhole cX6_isWhole 1 (some .boolean) rm_X6_isWhole [.int (x0)] z (xQi X ex R0.2 R0.1) := by
  refine x_ent (by decide) (Nat.le_of_ble_eq_true rfl) ?_
  intro p e s m below meth c ls C hr hk hw hl
  replace hl : lv_has ls 1 [(0, .int (x0))] := hl
  unfold D_X6_isWhole at hD
  refine lv_iload_n C.1 C.2.1 dX6_isWhole_0 rfl (lv_at hl 0 rfl) ?_
  refine lv_iconst (v := (1 : Int32)) C.1 C.2.1 dX6_isWhole_1 (by decide) ?_
  refine lv_icmp_le (tgt := 27) C.1 C.2.1 dX6_isWhole_2 (by decide) (fun c1 => ?_) (fun c1 => ?_)
  · replace hD := (if_pos c1).symm.trans hD
    refine lv_iconst (v := (0 : Int32)) C.1 C.2.1 dX6_isWhole_27 (by decide) ?_
    obtain rfl := Option.some.inj hD
    exact x_zret (v := (0 : Int32)) C hw hr hk nb0 dX6_isWhole_28
  · replace hD := (if_neg c1).symm.trans hD
    refine lv_iload_n C.1 C.2.1 dX6_isWhole_5 rfl (lv_at hl 0 rfl) ?_
    refine lv_iconst (v := (1 : Int32)) C.1 C.2.1 dX6_isWhole_6 (by decide) ?_
    refine lv_isub C.1 C.2.1 dX6_isWhole_7 ?_
    obtain ⟨q2, hq2, hD⟩ := Option.bind_eq_some_iff.mp hD
    refine x_goi hw (x_runS (As := [.int (x0 - (1 : Int32))]) (rest := []) C hw cS_X6_partAt kw_17 (c_X6_partAt l X ex (x0 - (1 : Int32))  z q2 hq2) ⟨Nat.le_of_ble_eq_true rfl, Nat.le_of_ble_eq_true rfl⟩ rfl hl.1 rfl (Nat.le_of_ble_eq_true rfl) dX6_isWhole_8 ⟨Nat.le_of_ble_eq_true rfl, Nat.le_of_ble_eq_true rfl⟩) (fun H locs hw => ?_)
    refine lv_if_ne (tgt := 27) C.1 C.2.1 dX6_isWhole_11 (by decide) (fun c3 => ?_) (fun c3 => ?_)
    · replace hD := (if_neg c3).symm.trans hD
      refine lv_iconst (v := (0 : Int32)) C.1 C.2.1 dX6_isWhole_27 (by decide) ?_
      obtain rfl := Option.some.inj hD
      exact x_zret (v := (0 : Int32)) C hw hr hk nb0 dX6_isWhole_28
    · replace hD := (if_pos c3).symm.trans hD
      refine lv_iload_n C.1 C.2.1 dX6_isWhole_14 rfl (lv_at hl 0 rfl) ?_
      refine lv_iconst (v := (1 : Int32)) C.1 C.2.1 dX6_isWhole_15 (by decide) ?_
      refine lv_isub C.1 C.2.1 dX6_isWhole_16 ?_
      obtain ⟨q4, hq4, hD⟩ := Option.bind_eq_some_iff.mp hD
      refine x_goi hw (x_runS (As := [.int (x0 - (1 : Int32))]) (rest := []) C hw cS_X6_gardenAt kw_22 (c_X6_gardenAt l X ex (x0 - (1 : Int32))  q2.2 q4 hq4) ⟨Nat.le_of_ble_eq_true rfl, Nat.le_of_ble_eq_true rfl⟩ rfl hl.1 rfl (Nat.le_of_ble_eq_true rfl) dX6_isWhole_17 ⟨Nat.le_of_ble_eq_true rfl, Nat.le_of_ble_eq_true rfl⟩) (fun H locs hw => ?_)
      refine lv_if_le (tgt := 27) C.1 C.2.1 dX6_isWhole_20 (by decide) (fun c5 => ?_) (fun c5 => ?_)
      · replace hD := (if_pos c5).symm.trans hD
        refine lv_iconst (v := (0 : Int32)) C.1 C.2.1 dX6_isWhole_27 (by decide) ?_
        obtain rfl := Option.some.inj hD
        exact x_zret (v := (0 : Int32)) C hw hr hk nb0 dX6_isWhole_28
      · replace hD := (if_neg c5).symm.trans hD
        refine lv_iconst (v := (1 : Int32)) C.1 C.2.1 dX6_isWhole_23 (by decide) ?_
        refine lv_goto (tgt := 28) C.1 C.2.1 dX6_isWhole_24 (by decide) ?_
        obtain rfl := Option.some.inj hD
        exact x_zret (v := (1 : Int32)) C hw hr hk nb1 dX6_isWhole_28
abbrev rm_X6_firstFault : Room := { frames := 2, cells := 0, slots := 0, locals := 41 }
def B_X6_firstFault_2 (x0 : Nat) (x1 : Int32) (x2 : Int32) (k2_ : Int32 → XS → Option (Int32 × XS)) (y3 : Int32) (z : XS) : Option (Int32 × XS) :=
  (if x2 ≤ y3 then (D_X6_isWhole x2 z).bind fun q2 => ((if q2.1 = 0 then some (x2, q2.2) else some ((-1 : Int32), q2.2))) else gd (inB (x1 + y3) 60) ((D_X6_goesOn y3 (gA z 6 x0 (x1 + y3).toNatClampNeg) z).bind fun q5 => ((if q5.1 = 0 then some (y3, q5.2) else k2_ (y3 + 1) q5.2))))
def L_X6_firstFault_2 (x0 : Nat) (x1 : Int32) (x2 : Int32) : Nat → Int32 → XS → Option (Int32 × XS)
  | 0 => fun _ _ => none
  | n + 1 => B_X6_firstFault_2 x0 x1 x2  (L_X6_firstFault_2 x0 x1 x2  n)
set_option maxHeartbeats 4000000 in
set_option maxRecDepth 100000 in
theorem w_X6_firstFault_2 {p : Program} {l : Launch} {e : Env} {s : State} {m : MethodId} {below : List Frame} {meth : Method} {c : Code} {X : XC} {ex : va_W} (x0 : Nat) (x1 : Int32) (x2 : Int32) (hx0 : x0 < 4) (C : CallFix p m c cX6_firstFault 4 s (([.ref (X.2.2.1 5 (x0)), .int (x1), .int (x2)] : List Value).toArray) gtbl RX6) (hr : meth.sig.returnType = (some .int)) (hk : meth.locks = false) (R0 : Int32 × XS)  : ∀ (n : Nat), ∀ (y3 : Int32) (z : XS), L_X6_firstFault_2 x0 x1 x2  n y3 z = some R0 → ∀ (H : Heap) (locs : List Loc), xw X ex z s H locs → ∀ (ls : Array Slot), lv_has ls 4 [(0, .ref (X.2.2.1 5 (x0))), (1, .int (x1)), (2, .int (x2)), (3, .int (y3))] → W p l e rm_X6_firstFault s m (([.ref (X.2.2.1 5 (x0)), .int (x1), .int (x2)] : List Value).toArray) below meth c H locs 0 0 (MQ below (xQi X ex R0.2 R0.1) (([.ref (X.2.2.1 5 (x0)), .int (x1), .int (x2)] : List Value).toArray) s 0 0 (xA X)) (F0 m 2 ls []) := by
  intro n
  induction n with
  | zero =>
    intro y3 z  hD
    cases hD
  | succ n ih =>
    intro y3 z  hD H locs hw ls hl
    replace hD : B_X6_firstFault_2 x0 x1 x2  (L_X6_firstFault_2 x0 x1 x2  n) y3 z = some R0 := hD
    unfold B_X6_firstFault_2 at hD
    refine lv_iload_n C.1 C.2.1 dX6_firstFault_2 rfl (lv_at hl 3 rfl) ?_
    refine lv_iload_n C.1 C.2.1 dX6_firstFault_3 rfl (lv_at hl 2 rfl) ?_
    refine lv_icmp_ge (tgt := 30) C.1 C.2.1 dX6_firstFault_4 (by decide) (fun c1 => ?_) (fun c1 => ?_)
    · replace hD := (if_pos c1).symm.trans hD
      refine lv_iload_n C.1 C.2.1 dX6_firstFault_30 rfl (lv_at hl 2 rfl) ?_
      obtain ⟨q2, hq2, hD⟩ := Option.bind_eq_some_iff.mp hD
      refine x_goi hw (x_runS (As := [.int (x2)]) (rest := []) C hw cS_X6_isWhole kw_32 (c_X6_isWhole l X ex x2  z q2 hq2) ⟨Nat.le_of_ble_eq_true rfl, Nat.le_of_ble_eq_true rfl⟩ rfl hl.1 rfl (Nat.le_of_ble_eq_true rfl) dX6_firstFault_31 ⟨Nat.le_of_ble_eq_true rfl, Nat.le_of_ble_eq_true rfl⟩) (fun H locs hw => ?_)
      refine lv_if_eq (tgt := 41) C.1 C.2.1 dX6_firstFault_34 (by decide) (fun c3 => ?_) (fun c3 => ?_)
      · replace hD := (if_pos c3).symm.trans hD
        refine lv_iload_n C.1 C.2.1 dX6_firstFault_41 rfl (lv_at hl 2 rfl) ?_
        obtain rfl := Option.some.inj hD
        exact x_iret C hw hr hk dX6_firstFault_42
      · replace hD := (if_neg c3).symm.trans hD
        refine lv_iconst (v := (-1 : Int32)) C.1 C.2.1 dX6_firstFault_37 (by decide) ?_
        refine lv_goto (tgt := 42) C.1 C.2.1 dX6_firstFault_38 (by decide) ?_
        obtain rfl := Option.some.inj hD
        exact x_iret C hw hr hk dX6_firstFault_42
    · replace hD := (if_neg c1).symm.trans hD
      refine lv_iload_n C.1 C.2.1 dX6_firstFault_7 rfl (lv_at hl 3 rfl) ?_
      refine lv_aload_n C.1 C.2.1 dX6_firstFault_8 rfl (lv_at hl 0 rfl) ?_
      refine gNf_X5_0 C hw (j := x0) hx0 (List.mem_of_getElem? (i := 11) rfl) dX6_firstFault_9 ?_
      refine lv_iload_n C.1 C.2.1 dX6_firstFault_12 rfl (lv_at hl 1 rfl) ?_
      refine lv_iload_n C.1 C.2.1 dX6_firstFault_13 rfl (lv_at hl 3 rfl) ?_
      refine lv_iadd C.1 C.2.1 dX6_firstFault_14 ?_
      obtain ⟨g4, hD⟩ := gd_some hD
      refine x_iald (k := 6) (j := x0) C hw rfl hx0 (inB_in g4) dX6_firstFault_15 ?_
      obtain ⟨q5, hq5, hD⟩ := Option.bind_eq_some_iff.mp hD
      refine x_goi hw (x_runS (As := [.int (y3), .int (gA z 6 x0 (x1 + y3).toNatClampNeg)]) (rest := []) C hw cS_X6_goesOn kw_38 (c_X6_goesOn l X ex y3 (gA z 6 x0 (x1 + y3).toNatClampNeg)  z q5 hq5) ⟨Nat.le_of_ble_eq_true rfl, Nat.le_of_ble_eq_true rfl⟩ rfl hl.1 rfl (Nat.le_of_ble_eq_true rfl) dX6_firstFault_16 ⟨Nat.le_of_ble_eq_true rfl, Nat.le_of_ble_eq_true rfl⟩) (fun H locs hw => ?_)
      refine lv_if_ne (tgt := 24) C.1 C.2.1 dX6_firstFault_19 (by decide) (fun c6 => ?_) (fun c6 => ?_)
      · replace hD := (if_neg c6).symm.trans hD
        refine lv_iinc (v := y3 + 1) (lv' := [(3, .int (y3 + 1)), (0, .ref (X.2.2.1 5 (x0))), (1, .int (x1)), (2, .int (x2))]) C.1 C.2.1 dX6_firstFault_24 hl (k := 3) rfl rfl (by decide) rfl (fun ls hl => ?_)
        refine lv_goto (tgt := 2) C.1 C.2.1 dX6_firstFault_27 (by decide) ?_
        exact ih (y3 + 1) q5.2  hD _ _ hw _ (lv_sub hl [1, 2, 3, 0] rfl)
      · replace hD := (if_pos c6).symm.trans hD
        refine lv_iload_n C.1 C.2.1 dX6_firstFault_22 rfl (lv_at hl 3 rfl) ?_
        obtain rfl := Option.some.inj hD
        exact x_iret C hw hr hk dX6_firstFault_23
def D_X6_firstFault (x0 : Nat) (x1 : Int32) (x2 : Int32) (z : XS) : Option (Int32 × XS) :=
  L_X6_firstFault_2 x0 x1 x2  64 (0 : Int32) z
set_option maxHeartbeats 4000000 in
set_option maxRecDepth 100000 in
theorem c_X6_firstFault (l : Launch) (X : XC) (ex : va_W) (x0 : Nat) (x1 : Int32) (x2 : Int32) (hx0 : x0 < 4) (z : XS) (R0 : Int32 × XS) (hD : D_X6_firstFault x0 x1 x2 z = some R0) : xM l X ex yX6_firstFault cX6_firstFault 4 (some .int) rm_X6_firstFault [.ref (X.2.2.1 5 (x0)), .int (x1), .int (x2)] z (xQi X ex R0.2 R0.1) := by
  refine x_ent (by decide) (Nat.le_of_ble_eq_true rfl) ?_
  intro p e s m below meth c ls C hr hk hw hl
  replace hl : lv_has ls 4 [(0, .ref (X.2.2.1 5 (x0))), (1, .int (x1)), (2, .int (x2))] := hl
  unfold D_X6_firstFault at hD
  refine lv_iconst (v := (0 : Int32)) C.1 C.2.1 dX6_firstFault_0 (by decide) ?_
  refine lv_istore_n (lv' := [(3, .int ((0 : Int32))), (0, .ref (X.2.2.1 5 (x0))), (1, .int (x1)), (2, .int (x2))]) C.1 C.2.1 dX6_firstFault_1 rfl hl (by decide) rfl (fun ls hl => ?_)
  exact w_X6_firstFault_2 x0 x1 x2 hx0 C hr hk R0   64 (0 : Int32) z  hD _ _ hw _ (lv_sub hl [1, 2, 3, 0] rfl)
abbrev rm_X6_gardensOf : Room := { frames := 0, cells := 0, slots := 0, locals := 0 }
def D_X6_gardensOf (x0 : Int32) (z : XS) : Option (Int32 × XS) :=
  some ((x0 + (1 : Int32)) / (3 : Int32), z)
set_option maxHeartbeats 4000000 in
set_option maxRecDepth 100000 in
theorem c_X6_gardensOf (l : Launch) (X : XC) (ex : va_W) (x0 : Int32) (z : XS) (R0 : Int32 × XS) (hD : D_X6_gardensOf x0 z = some R0) : xM l X ex yX6_gardensOf cX6_gardensOf 1 (some .int) rm_X6_gardensOf [.int (x0)] z (xQi X ex R0.2 R0.1) := by
  refine x_ent (by decide) (Nat.le_of_ble_eq_true rfl) ?_
  intro p e s m below meth c ls C hr hk hw hl
  replace hl : lv_has ls 1 [(0, .int (x0))] := hl
  unfold D_X6_gardensOf at hD
  refine lv_iload_n C.1 C.2.1 dX6_gardensOf_0 rfl (lv_at hl 0 rfl) ?_
  refine lv_iconst (v := (1 : Int32)) C.1 C.2.1 dX6_gardensOf_1 (by decide) ?_
  refine lv_iadd C.1 C.2.1 dX6_gardensOf_2 ?_
  refine lv_iconst (v := (3 : Int32)) C.1 C.2.1 dX6_gardensOf_3 (by decide) ?_
  refine lv_idiv C.1 C.2.1 dX6_gardensOf_4 (by decide) ?_
  obtain rfl := Option.some.inj hD
  exact x_iret C hw hr hk dX6_gardensOf_5
abbrev rm_X4_isHedge : Room := { frames := 0, cells := 0, slots := 0, locals := 0 }
def D_X4_isHedge (x1 : Int32) (z : XS) : Option (Int32 × XS) :=
  (if x1 < 0 then some ((0 : Int32), z) else (if (gS z 1 2 0) - (1 : Int32) ≤ x1 then some ((0 : Int32), z) else some ((1 : Int32), z)))
set_option maxHeartbeats 4000000 in
set_option maxRecDepth 100000 in
theorem c_X4_isHedge (l : Launch) (X : XC) (ex : va_W) (x1 : Int32) (z : XS) (R0 : Int32 × XS) (hD : D_X4_isHedge x1 z = some R0) : xM l X ex yX4_isHedge cX4_isHedge 2 (some .boolean) rm_X4_isHedge [.ref (X.2.2.1 1 (0)), .int (x1)] z (xQi X ex R0.2 R0.1) := by
  refine x_ent (by decide) (Nat.le_of_ble_eq_true rfl) ?_
  intro p e s m below meth c ls C hr hk hw hl
  replace hl : lv_has ls 2 [(0, .ref (X.2.2.1 1 (0))), (1, .int (x1))] := hl
  unfold D_X4_isHedge at hD
  refine lv_iload_n C.1 C.2.1 dX4_isHedge_0 rfl (lv_at hl 1 rfl) ?_
  refine lv_if_lt (tgt := 18) C.1 C.2.1 dX4_isHedge_1 (by decide) (fun c1 => ?_) (fun c1 => ?_)
  · replace hD := (if_pos c1).symm.trans hD
    refine lv_iconst (v := (0 : Int32)) C.1 C.2.1 dX4_isHedge_18 (by decide) ?_
    obtain rfl := Option.some.inj hD
    exact x_zret (v := (0 : Int32)) C hw hr hk nb0 dX4_isHedge_19
  · replace hD := (if_neg c1).symm.trans hD
    refine lv_iload_n C.1 C.2.1 dX4_isHedge_4 rfl (lv_at hl 1 rfl) ?_
    refine lv_aload_n C.1 C.2.1 dX4_isHedge_5 rfl (lv_at hl 0 rfl) ?_
    refine gf_X4_2 C hw kw_39 dX4_isHedge_6 ?_
    refine lv_iconst (v := (1 : Int32)) C.1 C.2.1 dX4_isHedge_9 (by decide) ?_
    refine lv_isub C.1 C.2.1 dX4_isHedge_10 ?_
    refine lv_icmp_ge (tgt := 18) C.1 C.2.1 dX4_isHedge_11 (by decide) (fun c2 => ?_) (fun c2 => ?_)
    · replace hD := (if_pos c2).symm.trans hD
      refine lv_iconst (v := (0 : Int32)) C.1 C.2.1 dX4_isHedge_18 (by decide) ?_
      obtain rfl := Option.some.inj hD
      exact x_zret (v := (0 : Int32)) C hw hr hk nb0 dX4_isHedge_19
    · replace hD := (if_neg c2).symm.trans hD
      refine lv_iconst (v := (1 : Int32)) C.1 C.2.1 dX4_isHedge_14 (by decide) ?_
      refine lv_goto (tgt := 19) C.1 C.2.1 dX4_isHedge_15 (by decide) ?_
      obtain rfl := Option.some.inj hD
      exact x_zret (v := (1 : Int32)) C hw hr hk nb1 dX4_isHedge_19
end
