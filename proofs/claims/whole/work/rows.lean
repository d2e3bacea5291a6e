section
-- ===== PART A: goes FIRST, ahead of the names: the tables' words, and 'selects' of the private methods out of them =====
/-- a private method of a class that the tables say can be made, by its rows of tables_1 -/
def lw_okq (q : MethodName × Nat) : Prop := (q.1.cls ≠ "java/lang/invoke/MethodHandle" ∧ q.1.cls ≠ "java/lang/invoke/VarHandle") ∧ Cond.instantiable q.1.cls q.2 ∈ tables_1 ∧ Cond.privateMethod q.1 ∈ tables_1 ∧ Cond.instanceMethod q.1 ∈ tables_1
theorem lw_p0 : lw_okq (⟨"SpaceWords", "refuse", "(I)I"⟩, 6) := ⟨⟨by decide +kernel, by decide +kernel⟩, List.mem_of_getElem? (i := 13) (by decide +kernel), List.mem_of_getElem? (i := 150) (by decide +kernel), List.mem_of_getElem? (i := 151) (by decide +kernel)⟩
theorem lw_p1 : lw_okq (⟨"SpaceWords", "along", "(I)LSpaceWords$Way;"⟩, 6) := ⟨⟨by decide +kernel, by decide +kernel⟩, List.mem_of_getElem? (i := 13) (by decide +kernel), List.mem_of_getElem? (i := 249) (by decide +kernel), List.mem_of_getElem? (i := 250) (by decide +kernel)⟩
theorem lw_p2 : lw_okq (⟨"SpaceWords$Way", "refresh", "()V"⟩, 13) := ⟨⟨by decide +kernel, by decide +kernel⟩, List.mem_of_getElem? (i := 61) (by decide +kernel), List.mem_of_getElem? (i := 257) (by decide +kernel), List.mem_of_getElem? (i := 258) (by decide +kernel)⟩
theorem lw_p3 : lw_okq (⟨"SpaceWords$Way", "takeLeast", "(II)V"⟩, 13) := ⟨⟨by decide +kernel, by decide +kernel⟩, List.mem_of_getElem? (i := 61) (by decide +kernel), List.mem_of_getElem? (i := 374) (by decide +kernel), List.mem_of_getElem? (i := 375) (by decide +kernel)⟩
theorem lw_p4 : lw_okq (⟨"SpaceWords$Way", "numberEnds", "()V"⟩, 13) := ⟨⟨by decide +kernel, by decide +kernel⟩, List.mem_of_getElem? (i := 61) (by decide +kernel), List.mem_of_getElem? (i := 382) (by decide +kernel), List.mem_of_getElem? (i := 383) (by decide +kernel)⟩
theorem lw_p5 : lw_okq (⟨"SpaceWords$Way", "isFirstOfItsLikes", "(I)Z"⟩, 13) := ⟨⟨by decide +kernel, by decide +kernel⟩, List.mem_of_getElem? (i := 61) (by decide +kernel), List.mem_of_getElem? (i := 386) (by decide +kernel), List.mem_of_getElem? (i := 387) (by decide +kernel)⟩
theorem lw_p6 : lw_okq (⟨"SpaceWords$Way", "signOfEnds", "(II)I"⟩, 13) := ⟨⟨by decide +kernel, by decide +kernel⟩, List.mem_of_getElem? (i := 61) (by decide +kernel), List.mem_of_getElem? (i := 390) (by decide +kernel), List.mem_of_getElem? (i := 391) (by decide +kernel)⟩
theorem lw_p7 : lw_okq (⟨"SpaceWords$Way", "findCore", "()I"⟩, 13) := ⟨⟨by decide +kernel, by decide +kernel⟩, List.mem_of_getElem? (i := 61) (by decide +kernel), List.mem_of_getElem? (i := 420) (by decide +kernel), List.mem_of_getElem? (i := 421) (by decide +kernel)⟩
theorem lw_p8 : lw_okq (⟨"SpaceWords", "isMisfit", "(I)Z"⟩, 6) := ⟨⟨by decide +kernel, by decide +kernel⟩, List.mem_of_getElem? (i := 13) (by decide +kernel), List.mem_of_getElem? (i := 498) (by decide +kernel), List.mem_of_getElem? (i := 499) (by decide +kernel)⟩
theorem lw_p9 : lw_okq (⟨"SpaceWordsModel", "findSamples", "()V"⟩, 18) := ⟨⟨by decide +kernel, by decide +kernel⟩, List.mem_of_getElem? (i := 520) (by decide +kernel), List.mem_of_getElem? (i := 526) (by decide +kernel), List.mem_of_getElem? (i := 527) (by decide +kernel)⟩
theorem lw_p10 : lw_okq (⟨"SpaceWordsModel", "findComposed", "()V"⟩, 18) := ⟨⟨by decide +kernel, by decide +kernel⟩, List.mem_of_getElem? (i := 520) (by decide +kernel), List.mem_of_getElem? (i := 536) (by decide +kernel), List.mem_of_getElem? (i := 537) (by decide +kernel)⟩
theorem lw_p11 : lw_okq (⟨"SpaceWordsModel", "composeBy", "(IIII)V"⟩, 18) := ⟨⟨by decide +kernel, by decide +kernel⟩, List.mem_of_getElem? (i := 520) (by decide +kernel), List.mem_of_getElem? (i := 540) (by decide +kernel), List.mem_of_getElem? (i := 541) (by decide +kernel)⟩
theorem lw_p12 : lw_okq (⟨"SpaceWordsModel", "findNear", "()V"⟩, 18) := ⟨⟨by decide +kernel, by decide +kernel⟩, List.mem_of_getElem? (i := 520) (by decide +kernel), List.mem_of_getElem? (i := 544) (by decide +kernel), List.mem_of_getElem? (i := 545) (by decide +kernel)⟩
theorem lw_p13 : lw_okq (⟨"SpaceWordsModel", "findSteps", "()V"⟩, 18) := ⟨⟨by decide +kernel, by decide +kernel⟩, List.mem_of_getElem? (i := 520) (by decide +kernel), List.mem_of_getElem? (i := 548) (by decide +kernel), List.mem_of_getElem? (i := 549) (by decide +kernel)⟩
theorem lw_p14 : lw_okq (⟨"SpaceWordsModel", "refuse", "(I)I"⟩, 18) := ⟨⟨by decide +kernel, by decide +kernel⟩, List.mem_of_getElem? (i := 520) (by decide +kernel), List.mem_of_getElem? (i := 617) (by decide +kernel), List.mem_of_getElem? (i := 618) (by decide +kernel)⟩
theorem lw_p15 : lw_okq (⟨"SpaceWordsModel", "compose", "(II)I"⟩, 18) := ⟨⟨by decide +kernel, by decide +kernel⟩, List.mem_of_getElem? (i := 520) (by decide +kernel), List.mem_of_getElem? (i := 625) (by decide +kernel), List.mem_of_getElem? (i := 626) (by decide +kernel)⟩
def lw_privs_1 : List (MethodName × Nat) := [(⟨"SpaceWords", "refuse", "(I)I"⟩, 6), (⟨"SpaceWords", "along", "(I)LSpaceWords$Way;"⟩, 6), (⟨"SpaceWords$Way", "refresh", "()V"⟩, 13), (⟨"SpaceWords$Way", "takeLeast", "(II)V"⟩, 13), (⟨"SpaceWords$Way", "numberEnds", "()V"⟩, 13), (⟨"SpaceWords$Way", "isFirstOfItsLikes", "(I)Z"⟩, 13), (⟨"SpaceWords$Way", "signOfEnds", "(II)I"⟩, 13), (⟨"SpaceWords$Way", "findCore", "()I"⟩, 13), (⟨"SpaceWords", "isMisfit", "(I)Z"⟩, 6), (⟨"SpaceWordsModel", "findSamples", "()V"⟩, 18), (⟨"SpaceWordsModel", "findComposed", "()V"⟩, 18), (⟨"SpaceWordsModel", "composeBy", "(IIII)V"⟩, 18), (⟨"SpaceWordsModel", "findNear", "()V"⟩, 18), (⟨"SpaceWordsModel", "findSteps", "()V"⟩, 18), (⟨"SpaceWordsModel", "refuse", "(I)I"⟩, 18), (⟨"SpaceWordsModel", "compose", "(II)I"⟩, 18)]
theorem lw_r1 : ∀ q ∈ lw_privs_1, lw_okq q := List.forall_mem_cons.mpr ⟨lw_p0, List.forall_mem_cons.mpr ⟨lw_p1, List.forall_mem_cons.mpr ⟨lw_p2, List.forall_mem_cons.mpr ⟨lw_p3, List.forall_mem_cons.mpr ⟨lw_p4, List.forall_mem_cons.mpr ⟨lw_p5, List.forall_mem_cons.mpr ⟨lw_p6, List.forall_mem_cons.mpr ⟨lw_p7, List.forall_mem_cons.mpr ⟨lw_p8, List.forall_mem_cons.mpr ⟨lw_p9, List.forall_mem_cons.mpr ⟨lw_p10, List.forall_mem_cons.mpr ⟨lw_p11, List.forall_mem_cons.mpr ⟨lw_p12, List.forall_mem_cons.mpr ⟨lw_p13, List.forall_mem_cons.mpr ⟨lw_p14, List.forall_mem_cons.mpr ⟨lw_p15, fun _ h => absurd h List.not_mem_nil⟩⟩⟩⟩⟩⟩⟩⟩⟩⟩⟩⟩⟩⟩⟩⟩
theorem lw_p16 : lw_okq (⟨"SpaceWordsModel", "add", "(IIII)I"⟩, 18) := ⟨⟨by decide +kernel, by decide +kernel⟩, List.mem_of_getElem? (i := 520) (by decide +kernel), List.mem_of_getElem? (i := 647) (by decide +kernel), List.mem_of_getElem? (i := 648) (by decide +kernel)⟩
theorem lw_p17 : lw_okq (⟨"SpaceWordsModel", "isStatement", "(I)Z"⟩, 18) := ⟨⟨by decide +kernel, by decide +kernel⟩, List.mem_of_getElem? (i := 520) (by decide +kernel), List.mem_of_getElem? (i := 655) (by decide +kernel), List.mem_of_getElem? (i := 656) (by decide +kernel)⟩
theorem lw_p18 : lw_okq (⟨"SpaceWordsModel", "tellAll", "(II)V"⟩, 18) := ⟨⟨by decide +kernel, by decide +kernel⟩, List.mem_of_getElem? (i := 520) (by decide +kernel), List.mem_of_getElem? (i := 673) (by decide +kernel), List.mem_of_getElem? (i := 674) (by decide +kernel)⟩
theorem lw_p19 : lw_okq (⟨"SpaceWordsModel", "close", "(I)Z"⟩, 18) := ⟨⟨by decide +kernel, by decide +kernel⟩, List.mem_of_getElem? (i := 520) (by decide +kernel), List.mem_of_getElem? (i := 681) (by decide +kernel), List.mem_of_getElem? (i := 682) (by decide +kernel)⟩
theorem lw_p20 : lw_okq (⟨"SpaceWordsModel", "canBeWithout", "(II)Z"⟩, 18) := ⟨⟨by decide +kernel, by decide +kernel⟩, List.mem_of_getElem? (i := 520) (by decide +kernel), List.mem_of_getElem? (i := 689) (by decide +kernel), List.mem_of_getElem? (i := 690) (by decide +kernel)⟩
theorem lw_p21 : lw_okq (⟨"SpaceWordsModel", "draw", "()Z"⟩, 18) := ⟨⟨by decide +kernel, by decide +kernel⟩, List.mem_of_getElem? (i := 520) (by decide +kernel), List.mem_of_getElem? (i := 693) (by decide +kernel), List.mem_of_getElem? (i := 694) (by decide +kernel)⟩
theorem lw_p22 : lw_okq (⟨"SpaceWordsModel", "copyNet", "(II)V"⟩, 18) := ⟨⟨by decide +kernel, by decide +kernel⟩, List.mem_of_getElem? (i := 520) (by decide +kernel), List.mem_of_getElem? (i := 697) (by decide +kernel), List.mem_of_getElem? (i := 698) (by decide +kernel)⟩
theorem lw_p23 : lw_okq (⟨"SpaceWordsModel", "fix", "(IIII)V"⟩, 18) := ⟨⟨by decide +kernel, by decide +kernel⟩, List.mem_of_getElem? (i := 520) (by decide +kernel), List.mem_of_getElem? (i := 701) (by decide +kernel), List.mem_of_getElem? (i := 702) (by decide +kernel)⟩
theorem lw_p24 : lw_okq (⟨"SpaceWordsModel", "canSet", "(III)I"⟩, 18) := ⟨⟨by decide +kernel, by decide +kernel⟩, List.mem_of_getElem? (i := 520) (by decide +kernel), List.mem_of_getElem? (i := 709) (by decide +kernel), List.mem_of_getElem? (i := 710) (by decide +kernel)⟩
theorem lw_p25 : lw_okq (⟨"SpaceWordsModel", "rankOf", "(I)I"⟩, 18) := ⟨⟨by decide +kernel, by decide +kernel⟩, List.mem_of_getElem? (i := 520) (by decide +kernel), List.mem_of_getElem? (i := 717) (by decide +kernel), List.mem_of_getElem? (i := 718) (by decide +kernel)⟩
theorem lw_p26 : lw_okq (⟨"SpaceWordsModel", "compareEnds", "(II)I"⟩, 18) := ⟨⟨by decide +kernel, by decide +kernel⟩, List.mem_of_getElem? (i := 520) (by decide +kernel), List.mem_of_getElem? (i := 721) (by decide +kernel), List.mem_of_getElem? (i := 722) (by decide +kernel)⟩
theorem lw_p27 : lw_okq (⟨"SpaceWordsModel", "ofBoxes", "(III)I"⟩, 18) := ⟨⟨by decide +kernel, by decide +kernel⟩, List.mem_of_getElem? (i := 520) (by decide +kernel), List.mem_of_getElem? (i := 763) (by decide +kernel), List.mem_of_getElem? (i := 764) (by decide +kernel)⟩
def lw_privs_2 : List (MethodName × Nat) := [(⟨"SpaceWordsModel", "add", "(IIII)I"⟩, 18), (⟨"SpaceWordsModel", "isStatement", "(I)Z"⟩, 18), (⟨"SpaceWordsModel", "tellAll", "(II)V"⟩, 18), (⟨"SpaceWordsModel", "close", "(I)Z"⟩, 18), (⟨"SpaceWordsModel", "canBeWithout", "(II)Z"⟩, 18), (⟨"SpaceWordsModel", "draw", "()Z"⟩, 18), (⟨"SpaceWordsModel", "copyNet", "(II)V"⟩, 18), (⟨"SpaceWordsModel", "fix", "(IIII)V"⟩, 18), (⟨"SpaceWordsModel", "canSet", "(III)I"⟩, 18), (⟨"SpaceWordsModel", "rankOf", "(I)I"⟩, 18), (⟨"SpaceWordsModel", "compareEnds", "(II)I"⟩, 18), (⟨"SpaceWordsModel", "ofBoxes", "(III)I"⟩, 18)]
theorem lw_r2 : ∀ q ∈ lw_privs_2, lw_okq q := List.forall_mem_cons.mpr ⟨lw_p16, List.forall_mem_cons.mpr ⟨lw_p17, List.forall_mem_cons.mpr ⟨lw_p18, List.forall_mem_cons.mpr ⟨lw_p19, List.forall_mem_cons.mpr ⟨lw_p20, List.forall_mem_cons.mpr ⟨lw_p21, List.forall_mem_cons.mpr ⟨lw_p22, List.forall_mem_cons.mpr ⟨lw_p23, List.forall_mem_cons.mpr ⟨lw_p24, List.forall_mem_cons.mpr ⟨lw_p25, List.forall_mem_cons.mpr ⟨lw_p26, List.forall_mem_cons.mpr ⟨lw_p27, fun _ h => absurd h List.not_mem_nil⟩⟩⟩⟩⟩⟩⟩⟩⟩⟩⟩⟩
def lw_privs : List (MethodName × Nat) := lw_privs_1 ++ (lw_privs_2)
def lw_tbl : List Cond := k2_sels lw_privs ++ tables_1
theorem lw_privs_ok : ∀ q ∈ lw_privs, lw_okq q := by
  show ∀ q ∈ lw_privs_1 ++ (lw_privs_2), lw_okq q
  exact List.forall_mem_append.mpr ⟨lw_r1, lw_r2⟩
def x_tbl : List Cond := lw_tbl.filter goodWord
end
section
def RX0 : String := "SpaceWords$Boxes"
def TX0 : u_T := fun k => match k with
  | 0 => ("SpaceWords$Boxes", "numbers", "[I", true)
  | _ => ("SpaceWords$Boxes", "there", "[Z", true)
def tyX0 : Nat → FieldType := fun k => match k with
  | 0 => .array .int
  | _ => .array .boolean
abbrev wsX00 : List Cond := u_ws RX0 TX0 2
theorem nmX0 : ∀ a, a < 2 → ∀ b, b < 2 → a ≠ b → (TX0 a).2.1 ≠ (TX0 b).2.1 := by decide +kernel
theorem tyX0_ok : ∀ k, k < 2 → parseFieldDescriptor (TX0 k).2.2.1 = some (tyX0 k) := by decide +kernel
abbrev cX0_init : ByteArray := prog_2_method_1_code
def yX0_init : MethodName := ⟨RX0, "<init>", "()V"⟩
abbrev cX0_has : ByteArray := prog_2_method_2_code
def yX0_has : MethodName := ⟨RX0, "has", "(I)Z"⟩
abbrev cX0_haveBoth : ByteArray := prog_2_method_3_code
def yX0_haveBoth : MethodName := ⟨RX0, "haveBoth", "(II)Z"⟩
abbrev cX0_draw : ByteArray := prog_2_method_4_code
def yX0_draw : MethodName := ⟨RX0, "draw", "(IIIII)V"⟩
abbrev cX0_remove : ByteArray := prog_2_method_5_code
def yX0_remove : MethodName := ⟨RX0, "remove", "(I)V"⟩
abbrev cX0_howMany : ByteArray := prog_2_method_6_code
def yX0_howMany : MethodName := ⟨RX0, "howMany", "()I"⟩
abbrev cX0_relation : ByteArray := prog_2_method_7_code
def yX0_relation : MethodName := ⟨RX0, "relation", "(III)I"⟩
abbrev cX0_agree : ByteArray := prog_2_method_8_code
def yX0_agree : MethodName := ⟨RX0, "agree", "(IIII)Z"⟩
def RX1 : String := "SpaceWords$Nets"
def TX1 : u_T := fun k => match k with
  | _ => ("", "", "", false)
def tyX1 : Nat → FieldType := fun k => match k with
  | _ => .int
abbrev wsX10 : List Cond := u_ws RX1 TX1 0
theorem nmX1 : ∀ a, a < 0 → ∀ b, b < 0 → a ≠ b → (TX1 a).2.1 ≠ (TX1 b).2.1 := by decide +kernel
theorem tyX1_ok : ∀ k, k < 0 → parseFieldDescriptor (TX1 k).2.2.1 = some (tyX1 k) := by decide +kernel
abbrev cX1_pairOf : ByteArray := prog_3_method_2_code
def yX1_pairOf : MethodName := ⟨RX1, "pairOf", "(II)I"⟩
abbrev cX1_firstOf : ByteArray := prog_3_method_3_code
def yX1_firstOf : MethodName := ⟨RX1, "firstOf", "(I)I"⟩
abbrev cX1_secondOf : ByteArray := prog_3_method_4_code
def yX1_secondOf : MethodName := ⟨RX1, "secondOf", "(I)I"⟩
abbrev cX1_open : ByteArray := prog_3_method_5_code
def yX1_open : MethodName := ⟨RX1, "open", "([I)V"⟩
abbrev cX1_put : ByteArray := prog_3_method_6_code
def yX1_put : MethodName := ⟨RX1, "put", "([IIII)V"⟩
abbrev cX1_close : ByteArray := prog_3_method_7_code
def yX1_close : MethodName := ⟨RX1, "close", "([II)Z"⟩
abbrev cX1_narrow : ByteArray := prog_3_method_8_code
def yX1_narrow : MethodName := ⟨RX1, "narrow", "([IIII)I"⟩
def RX2 : String := "SpaceWords$Relations"
def TX2 : u_T := fun k => match k with
  | _ => ("", "", "", false)
def tyX2 : Nat → FieldType := fun k => match k with
  | _ => .int
abbrev wsX20 : List Cond := u_ws RX2 TX2 0
theorem nmX2 : ∀ a, a < 0 → ∀ b, b < 0 → a ≠ b → (TX2 a).2.1 ≠ (TX2 b).2.1 := by decide +kernel
theorem tyX2_ok : ∀ k, k < 0 → parseFieldDescriptor (TX2 k).2.2.1 = some (tyX2 k) := by decide +kernel
abbrev cX2_turn : ByteArray := prog_4_method_2_code
def yX2_turn : MethodName := ⟨RX2, "turn", "(I)I"⟩
abbrev cX2_isWithin : ByteArray := prog_4_method_3_code
def yX2_isWithin : MethodName := ⟨RX2, "isWithin", "(II)Z"⟩
abbrev cX2_compose : ByteArray := prog_4_method_4_code
def yX2_compose : MethodName := ⟨RX2, "compose", "(III)I"⟩
abbrev cX2_areNear : ByteArray := prog_4_method_5_code
def yX2_areNear : MethodName := ⟨RX2, "areNear", "(II)Z"⟩
abbrev cX2_stepsBetween : ByteArray := prog_4_method_6_code
def yX2_stepsBetween : MethodName := ⟨RX2, "stepsBetween", "(II)I"⟩
abbrev cX2_allNear : ByteArray := prog_4_method_7_code
def yX2_allNear : MethodName := ⟨RX2, "allNear", "(I)I"⟩
abbrev cX2_between : ByteArray := prog_4_method_8_code
def yX2_between : MethodName := ⟨RX2, "between", "(IIII)I"⟩
abbrev cX2_sign : ByteArray := prog_4_method_9_code
def yX2_sign : MethodName := ⟨RX2, "sign", "(II)I"⟩
abbrev cX2_signOfEnds : ByteArray := prog_4_method_10_code
def yX2_signOfEnds : MethodName := ⟨RX2, "signOfEnds", "(III)I"⟩
abbrev cX2_least : ByteArray := prog_4_method_11_code
def yX2_least : MethodName := ⟨RX2, "least", "(I)I"⟩
abbrev cX2_isPlain : ByteArray := prog_4_method_12_code
def yX2_isPlain : MethodName := ⟨RX2, "isPlain", "(I)Z"⟩
abbrev cX2_allSigns : ByteArray := prog_4_method_13_code
def yX2_allSigns : MethodName := ⟨RX2, "allSigns", "(I)I"⟩
def RX3 : String := "SpaceWords$Search"
def TX3 : u_T := fun k => match k with
  | _ => ("SpaceWords$Search", "levels", "[[I", true)
def tyX3 : Nat → FieldType := fun k => match k with
  | _ => .array (.array .int)
abbrev wsX30 : List Cond := u_ws RX3 TX3 1
theorem nmX3 : ∀ a, a < 1 → ∀ b, b < 1 → a ≠ b → (TX3 a).2.1 ≠ (TX3 b).2.1 := by decide +kernel
theorem tyX3_ok : ∀ k, k < 1 → parseFieldDescriptor (TX3 k).2.2.1 = some (tyX3 k) := by decide +kernel
abbrev cX3_init : ByteArray := prog_5_method_1_code
def yX3_init : MethodName := ⟨RX3, "<init>", "()V"⟩
abbrev cX3_canHold : ByteArray := prog_5_method_2_code
def yX3_canHold : MethodName := ⟨RX3, "canHold", "([I)Z"⟩
abbrev cX3_canHoldWith : ByteArray := prog_5_method_3_code
def yX3_canHoldWith : MethodName := ⟨RX3, "canHoldWith", "([IIII)Z"⟩
abbrev cX3_keepNet : ByteArray := prog_5_method_4_code
def yX3_keepNet : MethodName := ⟨RX3, "keepNet", "([I)V"⟩
abbrev cX3_settles : ByteArray := prog_5_method_5_code
def yX3_settles : MethodName := ⟨RX3, "settles", "([[II)Z"⟩
abbrev cX3_pairToSplit : ByteArray := prog_5_method_6_code
def yX3_pairToSplit : MethodName := ⟨RX3, "pairToSplit", "([I)I"⟩
def RX4 : String := "SpaceWords$Statements"
def TX4 : u_T := fun k => match k with
  | 0 => ("SpaceWords$Statements", "firsts", "[I", true)
  | 1 => ("SpaceWords$Statements", "seconds", "[I", true)
  | 2 => ("SpaceWords$Statements", "sets", "[[I", true)
  | 3 => ("SpaceWords$Statements", "tolds", "[Z", true)
  | 4 => ("SpaceWords$Statements", "size", "I", false)
  | _ => ("SpaceWords$Statements", "changes", "I", false)
def tyX4 : Nat → FieldType := fun k => match k with
  | 0 => .array .int
  | 1 => .array .int
  | 2 => .array (.array .int)
  | 3 => .array .boolean
  | 4 => .int
  | _ => .int
abbrev wsX40 : List Cond := u_ws RX4 TX4 6
theorem nmX4 : ∀ a, a < 6 → ∀ b, b < 6 → a ≠ b → (TX4 a).2.1 ≠ (TX4 b).2.1 := by decide +kernel
theorem tyX4_ok : ∀ k, k < 6 → parseFieldDescriptor (TX4 k).2.2.1 = some (tyX4 k) := by decide +kernel
abbrev cX4_init : ByteArray := prog_6_method_1_code
def yX4_init : MethodName := ⟨RX4, "<init>", "()V"⟩
abbrev cX4_size : ByteArray := prog_6_method_2_code
def yX4_size : MethodName := ⟨RX4, "size", "()I"⟩
abbrev cX4_changes : ByteArray := prog_6_method_3_code
def yX4_changes : MethodName := ⟨RX4, "changes", "()I"⟩
abbrev cX4_isFull : ByteArray := prog_6_method_4_code
def yX4_isFull : MethodName := ⟨RX4, "isFull", "()Z"⟩
abbrev cX4_has : ByteArray := prog_6_method_5_code
def yX4_has : MethodName := ⟨RX4, "has", "(I)Z"⟩
abbrev cX4_firstOf : ByteArray := prog_6_method_6_code
def yX4_firstOf : MethodName := ⟨RX4, "firstOf", "(I)I"⟩
abbrev cX4_secondOf : ByteArray := prog_6_method_7_code
def yX4_secondOf : MethodName := ⟨RX4, "secondOf", "(I)I"⟩
abbrev cX4_setOf : ByteArray := prog_6_method_8_code
def yX4_setOf : MethodName := ⟨RX4, "setOf", "(II)I"⟩
abbrev cX4_isTold : ByteArray := prog_6_method_9_code
def yX4_isTold : MethodName := ⟨RX4, "isTold", "(I)Z"⟩
abbrev cX4_add : ByteArray := prog_6_method_10_code
def yX4_add : MethodName := ⟨RX4, "add", "(IIII)I"⟩
abbrev cX4_turnSilent : ByteArray := prog_6_method_11_code
def yX4_turnSilent : MethodName := ⟨RX4, "turnSilent", "(IZ)Z"⟩
abbrev cX4_howManyTold : ByteArray := prog_6_method_12_code
def yX4_howManyTold : MethodName := ⟨RX4, "howManyTold", "()I"⟩
abbrev cX4_toldBits : ByteArray := prog_6_method_13_code
def yX4_toldBits : MethodName := ⟨RX4, "toldBits", "()I"⟩
abbrev cX4_writeNet : ByteArray := prog_6_method_14_code
def yX4_writeNet : MethodName := ⟨RX4, "writeNet", "(II[I)V"⟩
def RX5 : String := "SpaceWords$Way"
def TX5 : u_T := fun k => match k with
  | 0 => ("SpaceWords$Way", "way", "I", true)
  | 1 => ("SpaceWords$Way", "statements", "LSpaceWords$Statements;", true)
  | 2 => ("SpaceWords$Way", "search", "LSpaceWords$Search;", true)
  | 3 => ("SpaceWords$Way", "toldNet", "[I", true)
  | 4 => ("SpaceWords$Way", "closedNet", "[I", true)
  | 5 => ("SpaceWords$Way", "firstNet", "[I", true)
  | 6 => ("SpaceWords$Way", "trialNet", "[I", true)
  | 7 => ("SpaceWords$Way", "canSets", "[I", true)
  | 8 => ("SpaceWords$Way", "firstNumbers", "[I", true)
  | 9 => ("SpaceWords$Way", "changesSeen", "I", false)
  | 10 => ("SpaceWords$Way", "possible", "I", false)
  | 11 => ("SpaceWords$Way", "coreFound", "I", false)
  | _ => ("SpaceWords$Way", "firstIsKnown", "Z", false)
def tyX5 : Nat → FieldType := fun k => match k with
  | 0 => .int
  | 1 => .object "SpaceWords$Statements"
  | 2 => .object "SpaceWords$Search"
  | 3 => .array .int
  | 4 => .array .int
  | 5 => .array .int
  | 6 => .array .int
  | 7 => .array .int
  | 8 => .array .int
  | 9 => .int
  | 10 => .int
  | 11 => .int
  | _ => .boolean
abbrev wsX50 : List Cond := u_ws RX5 TX5 13
theorem nmX5 : ∀ a, a < 13 → ∀ b, b < 13 → a ≠ b → (TX5 a).2.1 ≠ (TX5 b).2.1 := by decide +kernel
theorem tyX5_ok : ∀ k, k < 13 → parseFieldDescriptor (TX5 k).2.2.1 = some (tyX5 k) := by decide +kernel
abbrev cX5_init : ByteArray := prog_7_method_1_code
def yX5_init : MethodName := ⟨RX5, "<init>", "(ILSpaceWords$Statements;LSpaceWords$Search;)V"⟩
abbrev cX5_toldSet : ByteArray := prog_7_method_2_code
def yX5_toldSet : MethodName := ⟨RX5, "toldSet", "(II)I"⟩
abbrev cX5_closedSet : ByteArray := prog_7_method_3_code
def yX5_closedSet : MethodName := ⟨RX5, "closedSet", "(II)I"⟩
abbrev cX5_isPossible : ByteArray := prog_7_method_4_code
def yX5_isPossible : MethodName := ⟨RX5, "isPossible", "()Z"⟩
abbrev cX5_canSet : ByteArray := prog_7_method_5_code
def yX5_canSet : MethodName := ⟨RX5, "canSet", "(II)I"⟩
abbrev cX5_isFirstDrawn : ByteArray := prog_7_method_6_code
def yX5_isFirstDrawn : MethodName := ⟨RX5, "isFirstDrawn", "()Z"⟩
abbrev cX5_firstRelation : ByteArray := prog_7_method_7_code
def yX5_firstRelation : MethodName := ⟨RX5, "firstRelation", "(II)I"⟩
abbrev cX5_firstNumber : ByteArray := prog_7_method_8_code
def yX5_firstNumber : MethodName := ⟨RX5, "firstNumber", "(II)I"⟩
abbrev cX5_coreBits : ByteArray := prog_7_method_9_code
def yX5_coreBits : MethodName := ⟨RX5, "coreBits", "()I"⟩
abbrev cX5_refresh : ByteArray := prog_7_method_10_code
def yX5_refresh : MethodName := ⟨RX5, "refresh", "()V"⟩
abbrev cX5_findCore : ByteArray := prog_7_method_11_code
def yX5_findCore : MethodName := ⟨RX5, "findCore", "()I"⟩
abbrev cX5_takeLeast : ByteArray := prog_7_method_12_code
def yX5_takeLeast : MethodName := ⟨RX5, "takeLeast", "(II)V"⟩
abbrev cX5_numberEnds : ByteArray := prog_7_method_13_code
def yX5_numberEnds : MethodName := ⟨RX5, "numberEnds", "()V"⟩
abbrev cX5_isFirstOfItsLikes : ByteArray := prog_7_method_14_code
def yX5_isFirstOfItsLikes : MethodName := ⟨RX5, "isFirstOfItsLikes", "(I)Z"⟩
abbrev cX5_signOfEnds : ByteArray := prog_7_method_15_code
def yX5_signOfEnds : MethodName := ⟨RX5, "signOfEnds", "(II)I"⟩
def RX6 : String := "SpaceWords"
def TX6 : u_T := fun k => match k with
  | 0 => ("SpaceWords", "statements", "LSpaceWords$Statements;", true)
  | 1 => ("SpaceWords", "wayZero", "LSpaceWords$Way;", true)
  | 2 => ("SpaceWords", "wayOne", "LSpaceWords$Way;", true)
  | 3 => ("SpaceWords", "boxes", "LSpaceWords$Boxes;", true)
  | 4 => ("SpaceWords", "wordSets", "[[I", true)
  | _ => ("SpaceWords", "refusals", "[I", true)
def tyX6 : Nat → FieldType := fun k => match k with
  | 0 => .object "SpaceWords$Statements"
  | 1 => .object "SpaceWords$Way"
  | 2 => .object "SpaceWords$Way"
  | 3 => .object "SpaceWords$Boxes"
  | 4 => .array (.array .int)
  | _ => .array .int
abbrev wsX60 : List Cond := u_ws RX6 TX6 6
theorem nmX6 : ∀ a, a < 6 → ∀ b, b < 6 → a ≠ b → (TX6 a).2.1 ≠ (TX6 b).2.1 := by decide +kernel
theorem tyX6_ok : ∀ k, k < 6 → parseFieldDescriptor (TX6 k).2.2.1 = some (tyX6 k) := by decide +kernel
abbrev cX6_init : ByteArray := prog_1_method_1_code
def yX6_init : MethodName := ⟨RX6, "<init>", "()V"⟩
abbrev cX6_turned : ByteArray := prog_1_method_2_code
def yX6_turned : MethodName := ⟨RX6, "turned", "(I)I"⟩
abbrev cX6_composed : ByteArray := prog_1_method_3_code
def yX6_composed : MethodName := ⟨RX6, "composed", "(II)I"⟩
abbrev cX6_near : ByteArray := prog_1_method_4_code
def yX6_near : MethodName := ⟨RX6, "near", "(II)I"⟩
abbrev cX6_steps : ByteArray := prog_1_method_5_code
def yX6_steps : MethodName := ⟨RX6, "steps", "(II)I"⟩
abbrev cX6_tell : ByteArray := prog_1_method_6_code
def yX6_tell : MethodName := ⟨RX6, "tell", "(IIII)I"⟩
abbrev cX6_silent : ByteArray := prog_1_method_7_code
def yX6_silent : MethodName := ⟨RX6, "silent", "(IZ)I"⟩
abbrev cX6_statement : ByteArray := prog_1_method_8_code
def yX6_statement : MethodName := ⟨RX6, "statement", "(II)I"⟩
abbrev cX6_told : ByteArray := prog_1_method_9_code
def yX6_told : MethodName := ⟨RX6, "told", "(III)I"⟩
abbrev cX6_closed : ByteArray := prog_1_method_10_code
def yX6_closed : MethodName := ⟨RX6, "closed", "(III)I"⟩
abbrev cX6_canBe : ByteArray := prog_1_method_11_code
def yX6_canBe : MethodName := ⟨RX6, "canBe", "(I)I"⟩
abbrev cX6_can : ByteArray := prog_1_method_12_code
def yX6_can : MethodName := ⟨RX6, "can", "(III)I"⟩
abbrev cX6_drawing : ByteArray := prog_1_method_13_code
def yX6_drawing : MethodName := ⟨RX6, "drawing", "(III)I"⟩
abbrev cX6_drawn : ByteArray := prog_1_method_14_code
def yX6_drawn : MethodName := ⟨RX6, "drawn", "(III)I"⟩
abbrev cX6_core : ByteArray := prog_1_method_15_code
def yX6_core : MethodName := ⟨RX6, "core", "(I)I"⟩
abbrev cX6_word : ByteArray := prog_1_method_16_code
def yX6_word : MethodName := ⟨RX6, "word", "(III)I"⟩
abbrev cX6_say : ByteArray := prog_1_method_17_code
def yX6_say : MethodName := ⟨RX6, "say", "(III)I"⟩
abbrev cX6_ask : ByteArray := prog_1_method_18_code
def yX6_ask : MethodName := ⟨RX6, "ask", "(III)I"⟩
abbrev cX6_box : ByteArray := prog_1_method_19_code
def yX6_box : MethodName := ⟨RX6, "box", "(IIIII)I"⟩
abbrev cX6_rub : ByteArray := prog_1_method_20_code
def yX6_rub : MethodName := ⟨RX6, "rub", "(I)I"⟩
abbrev cX6_read : ByteArray := prog_1_method_21_code
def yX6_read : MethodName := ⟨RX6, "read", "(III)I"⟩
abbrev cX6_holds : ByteArray := prog_1_method_22_code
def yX6_holds : MethodName := ⟨RX6, "holds", "(III)I"⟩
abbrev cX6_fits : ByteArray := prog_1_method_23_code
def yX6_fits : MethodName := ⟨RX6, "fits", "()I"⟩
abbrev cX6_moved : ByteArray := prog_1_method_24_code
def yX6_moved : MethodName := ⟨RX6, "moved", "(III)I"⟩
abbrev cX6_count : ByteArray := prog_1_method_25_code
def yX6_count : MethodName := ⟨RX6, "count", "(I)I"⟩
abbrev cX6_isMisfit : ByteArray := prog_1_method_26_code
def yX6_isMisfit : MethodName := ⟨RX6, "isMisfit", "(I)Z"⟩
abbrev cX6_refuse : ByteArray := prog_1_method_27_code
def yX6_refuse : MethodName := ⟨RX6, "refuse", "(I)I"⟩
abbrev cX6_along : ByteArray := prog_1_method_28_code
def yX6_along : MethodName := ⟨RX6, "along", "(I)LSpaceWords$Way;"⟩
abbrev cX6_refusalAlong : ByteArray := prog_1_method_29_code
def yX6_refusalAlong : MethodName := ⟨RX6, "refusalAlong", "(III)I"⟩
abbrev cX6_isThing : ByteArray := prog_1_method_30_code
def yX6_isThing : MethodName := ⟨RX6, "isThing", "(I)Z"⟩
abbrev cX6_areTwoThings : ByteArray := prog_1_method_31_code
def yX6_areTwoThings : MethodName := ⟨RX6, "areTwoThings", "(II)Z"⟩
abbrev cX6_isWay : ByteArray := prog_1_method_32_code
def yX6_isWay : MethodName := ⟨RX6, "isWay", "(I)Z"⟩
abbrev cX6_isWord : ByteArray := prog_1_method_33_code
def yX6_isWord : MethodName := ⟨RX6, "isWord", "(I)Z"⟩
abbrev cX6_isRelation : ByteArray := prog_1_method_34_code
def yX6_isRelation : MethodName := ⟨RX6, "isRelation", "(I)Z"⟩
abbrev cX6_isSet : ByteArray := prog_1_method_35_code
def yX6_isSet : MethodName := ⟨RX6, "isSet", "(I)Z"⟩
def RX7 : String := "SpaceWordsModel"
def TX7 : u_T := fun k => match k with
  | 0 => ("SpaceWordsModel", "comp", "[I", true)
  | 1 => ("SpaceWordsModel", "sample", "[I", true)
  | 2 => ("SpaceWordsModel", "nearTo", "[I", true)
  | 3 => ("SpaceWordsModel", "stepsTo", "[I", true)
  | 4 => ("SpaceWordsModel", "statements", "I", false)
  | 5 => ("SpaceWordsModel", "first", "[I", true)
  | 6 => ("SpaceWordsModel", "second", "[I", true)
  | 7 => ("SpaceWordsModel", "sets", "[I", true)
  | 8 => ("SpaceWordsModel", "isTold", "[Z", true)
  | 9 => ("SpaceWordsModel", "words", "[I", true)
  | 10 => ("SpaceWordsModel", "isDrawn", "[Z", true)
  | 11 => ("SpaceWordsModel", "boxes", "[I", true)
  | 12 => ("SpaceWordsModel", "refused", "[I", true)
  | 13 => ("SpaceWordsModel", "four", "[I", true)
  | 14 => ("SpaceWordsModel", "net", "[I", true)
  | 15 => ("SpaceWordsModel", "pairA", "[I", true)
  | 16 => ("SpaceWordsModel", "pairB", "[I", true)
  | _ => ("SpaceWordsModel", "tried", "[I", true)
def tyX7 : Nat → FieldType := fun k => match k with
  | 0 => .array .int
  | 1 => .array .int
  | 2 => .array .int
  | 3 => .array .int
  | 4 => .int
  | 5 => .array .int
  | 6 => .array .int
  | 7 => .array .int
  | 8 => .array .boolean
  | 9 => .array .int
  | 10 => .array .boolean
  | 11 => .array .int
  | 12 => .array .int
  | 13 => .array .int
  | 14 => .array .int
  | 15 => .array .int
  | 16 => .array .int
  | _ => .array .int
abbrev wsX70 : List Cond := u_ws RX7 TX7 18
theorem nmX7 : ∀ a, a < 18 → ∀ b, b < 18 → a ≠ b → (TX7 a).2.1 ≠ (TX7 b).2.1 := by decide +kernel
theorem tyX7_ok : ∀ k, k < 18 → parseFieldDescriptor (TX7 k).2.2.1 = some (tyX7 k) := by decide +kernel
abbrev cX7_init : ByteArray := prog_9_method_1_code
def yX7_init : MethodName := ⟨RX7, "<init>", "()V"⟩
abbrev cX7_in : ByteArray := prog_9_method_3_code
def yX7_in : MethodName := ⟨RX7, "in", "(III)Z"⟩
abbrev cX7_refuse : ByteArray := prog_9_method_4_code
def yX7_refuse : MethodName := ⟨RX7, "refuse", "(I)I"⟩
abbrev cX7_early : ByteArray := prog_9_method_5_code
def yX7_early : MethodName := ⟨RX7, "early", "(IIII)I"⟩
abbrev cX7_relation : ByteArray := prog_9_method_6_code
def yX7_relation : MethodName := ⟨RX7, "relation", "(IIII)I"⟩
abbrev cX7_findSamples : ByteArray := prog_9_method_7_code
def yX7_findSamples : MethodName := ⟨RX7, "findSamples", "()V"⟩
abbrev cX7_findComposed : ByteArray := prog_9_method_8_code
def yX7_findComposed : MethodName := ⟨RX7, "findComposed", "()V"⟩
abbrev cX7_composeBy : ByteArray := prog_9_method_9_code
def yX7_composeBy : MethodName := ⟨RX7, "composeBy", "(IIII)V"⟩
abbrev cX7_findNear : ByteArray := prog_9_method_10_code
def yX7_findNear : MethodName := ⟨RX7, "findNear", "()V"⟩
abbrev cX7_findSteps : ByteArray := prog_9_method_11_code
def yX7_findSteps : MethodName := ⟨RX7, "findSteps", "()V"⟩
abbrev cX7_turn : ByteArray := prog_9_method_12_code
def yX7_turn : MethodName := ⟨RX7, "turn", "(I)I"⟩
abbrev cX7_compose : ByteArray := prog_9_method_13_code
def yX7_compose : MethodName := ⟨RX7, "compose", "(II)I"⟩
abbrev cX7_turned : ByteArray := prog_9_method_14_code
def yX7_turned : MethodName := ⟨RX7, "turned", "(I)I"⟩
abbrev cX7_composed : ByteArray := prog_9_method_15_code
def yX7_composed : MethodName := ⟨RX7, "composed", "(II)I"⟩
abbrev cX7_near : ByteArray := prog_9_method_16_code
def yX7_near : MethodName := ⟨RX7, "near", "(II)I"⟩
abbrev cX7_steps : ByteArray := prog_9_method_17_code
def yX7_steps : MethodName := ⟨RX7, "steps", "(II)I"⟩
abbrev cX7_isThing : ByteArray := prog_9_method_18_code
def yX7_isThing : MethodName := ⟨RX7, "isThing", "(I)Z"⟩
abbrev cX7_areTwo : ByteArray := prog_9_method_19_code
def yX7_areTwo : MethodName := ⟨RX7, "areTwo", "(II)Z"⟩
abbrev cX7_add : ByteArray := prog_9_method_20_code
def yX7_add : MethodName := ⟨RX7, "add", "(IIII)I"⟩
abbrev cX7_tell : ByteArray := prog_9_method_21_code
def yX7_tell : MethodName := ⟨RX7, "tell", "(IIII)I"⟩
abbrev cX7_isStatement : ByteArray := prog_9_method_22_code
def yX7_isStatement : MethodName := ⟨RX7, "isStatement", "(I)Z"⟩
abbrev cX7_silent : ByteArray := prog_9_method_23_code
def yX7_silent : MethodName := ⟨RX7, "silent", "(IZ)I"⟩
abbrev cX7_statement : ByteArray := prog_9_method_24_code
def yX7_statement : MethodName := ⟨RX7, "statement", "(II)I"⟩
abbrev cX7_tellAll : ByteArray := prog_9_method_25_code
def yX7_tellAll : MethodName := ⟨RX7, "tellAll", "(II)V"⟩
abbrev cX7_close : ByteArray := prog_9_method_26_code
def yX7_close : MethodName := ⟨RX7, "close", "(I)Z"⟩
abbrev cX7_copyNet : ByteArray := prog_9_method_27_code
def yX7_copyNet : MethodName := ⟨RX7, "copyNet", "(II)V"⟩
abbrev cX7_fix : ByteArray := prog_9_method_28_code
def yX7_fix : MethodName := ⟨RX7, "fix", "(IIII)V"⟩
abbrev cX7_draw : ByteArray := prog_9_method_29_code
def yX7_draw : MethodName := ⟨RX7, "draw", "()Z"⟩
abbrev cX7_canBeWithout : ByteArray := prog_9_method_30_code
def yX7_canBeWithout : MethodName := ⟨RX7, "canBeWithout", "(II)Z"⟩
abbrev cX7_isWay : ByteArray := prog_9_method_31_code
def yX7_isWay : MethodName := ⟨RX7, "isWay", "(I)Z"⟩
abbrev cX7_wrong : ByteArray := prog_9_method_32_code
def yX7_wrong : MethodName := ⟨RX7, "wrong", "(III)I"⟩
abbrev cX7_told : ByteArray := prog_9_method_33_code
def yX7_told : MethodName := ⟨RX7, "told", "(III)I"⟩
abbrev cX7_closed : ByteArray := prog_9_method_34_code
def yX7_closed : MethodName := ⟨RX7, "closed", "(III)I"⟩
abbrev cX7_canBe : ByteArray := prog_9_method_35_code
def yX7_canBe : MethodName := ⟨RX7, "canBe", "(I)I"⟩
abbrev cX7_canSet : ByteArray := prog_9_method_36_code
def yX7_canSet : MethodName := ⟨RX7, "canSet", "(III)I"⟩
abbrev cX7_can : ByteArray := prog_9_method_37_code
def yX7_can : MethodName := ⟨RX7, "can", "(III)I"⟩
abbrev cX7_bitOf : ByteArray := prog_9_method_38_code
def yX7_bitOf : MethodName := ⟨RX7, "bitOf", "(I)I"⟩
abbrev cX7_compareEnds : ByteArray := prog_9_method_39_code
def yX7_compareEnds : MethodName := ⟨RX7, "compareEnds", "(II)I"⟩
abbrev cX7_rankOf : ByteArray := prog_9_method_40_code
def yX7_rankOf : MethodName := ⟨RX7, "rankOf", "(I)I"⟩
abbrev cX7_drawing : ByteArray := prog_9_method_41_code
def yX7_drawing : MethodName := ⟨RX7, "drawing", "(III)I"⟩
abbrev cX7_drawn : ByteArray := prog_9_method_42_code
def yX7_drawn : MethodName := ⟨RX7, "drawn", "(III)I"⟩
abbrev cX7_core : ByteArray := prog_9_method_43_code
def yX7_core : MethodName := ⟨RX7, "core", "(I)I"⟩
abbrev cX7_isWord : ByteArray := prog_9_method_44_code
def yX7_isWord : MethodName := ⟨RX7, "isWord", "(I)Z"⟩
abbrev cX7_word : ByteArray := prog_9_method_45_code
def yX7_word : MethodName := ⟨RX7, "word", "(III)I"⟩
abbrev cX7_say : ByteArray := prog_9_method_46_code
def yX7_say : MethodName := ⟨RX7, "say", "(III)I"⟩
abbrev cX7_ask : ByteArray := prog_9_method_47_code
def yX7_ask : MethodName := ⟨RX7, "ask", "(III)I"⟩
abbrev cX7_box : ByteArray := prog_9_method_48_code
def yX7_box : MethodName := ⟨RX7, "box", "(IIIII)I"⟩
abbrev cX7_rub : ByteArray := prog_9_method_49_code
def yX7_rub : MethodName := ⟨RX7, "rub", "(I)I"⟩
abbrev cX7_ofBoxes : ByteArray := prog_9_method_50_code
def yX7_ofBoxes : MethodName := ⟨RX7, "ofBoxes", "(III)I"⟩
abbrev cX7_read : ByteArray := prog_9_method_51_code
def yX7_read : MethodName := ⟨RX7, "read", "(III)I"⟩
abbrev cX7_holds : ByteArray := prog_9_method_52_code
def yX7_holds : MethodName := ⟨RX7, "holds", "(III)I"⟩
abbrev cX7_fits : ByteArray := prog_9_method_53_code
def yX7_fits : MethodName := ⟨RX7, "fits", "()I"⟩
abbrev cX7_moved : ByteArray := prog_9_method_54_code
def yX7_moved : MethodName := ⟨RX7, "moved", "(III)I"⟩
abbrev cX7_count : ByteArray := prog_9_method_55_code
def yX7_count : MethodName := ⟨RX7, "count", "(I)I"⟩
def RJ6 : String := "java/lang/Integer"
def TJ6 : u_T := fun k => match k with
  | _ => ("", "", "", false)
def tyJ6 : Nat → FieldType := fun k => match k with
  | _ => .int
abbrev wsJ60 : List Cond := u_ws RJ6 TJ6 0
theorem nmJ6 : ∀ a, a < 0 → ∀ b, b < 0 → a ≠ b → (TJ6 a).2.1 ≠ (TJ6 b).2.1 := by decide +kernel
theorem tyJ6_ok : ∀ k, k < 0 → parseFieldDescriptor (TJ6 k).2.2.1 = some (tyJ6 k) := by decide +kernel
abbrev cJ6_bitCount_0f7a4 : ByteArray := prog_10_method_49_code
def yJ6_bitCount_0f7a4 : MethodName := ⟨RJ6, "bitCount", "(I)I"⟩
def RJ10 : String := "java/lang/System"
def TJ10 : u_T := fun k => match k with
  | _ => ("", "", "", false)
def tyJ10 : Nat → FieldType := fun k => match k with
  | _ => .int
abbrev wsJ100 : List Cond := u_ws RJ10 TJ10 0
theorem nmJ10 : ∀ a, a < 0 → ∀ b, b < 0 → a ≠ b → (TJ10 a).2.1 ≠ (TJ10 b).2.1 := by decide +kernel
theorem tyJ10_ok : ∀ k, k < 0 → parseFieldDescriptor (TJ10 k).2.2.1 = some (tyJ10 k) := by decide +kernel
def RJ7 : String := "java/util/Arrays"
def TJ7 : u_T := fun k => match k with
  | _ => ("", "", "", false)
def tyJ7 : Nat → FieldType := fun k => match k with
  | _ => .int
abbrev wsJ70 : List Cond := u_ws RJ7 TJ7 0
theorem nmJ7 : ∀ a, a < 0 → ∀ b, b < 0 → a ≠ b → (TJ7 a).2.1 ≠ (TJ7 b).2.1 := by decide +kernel
theorem tyJ7_ok : ∀ k, k < 0 → parseFieldDescriptor (TJ7 k).2.2.1 = some (tyJ7 k) := by decide +kernel
abbrev cJ7_fill_53178 : ByteArray := prog_12_method_103_code
def yJ7_fill_53178 : MethodName := ⟨RJ7, "fill", "([II)V"⟩
def RL : String := "SpaceWordsLaw"
abbrev cL_law : ByteArray := code
def yL_law : MethodName := ⟨RL, "law", "([I)Z"⟩
end
section
/-! THE SMALL MACHINE: values, shapes, memory; a world of cells that lie side by side from one address on -/
abbrev x_V : Type := Int32 ⊕ (Nat ⊕ Nat)
abbrev x_S : Type := (Nat × List (Option Nat)) ⊕ ((Bool × Nat) ⊕ List Nat)
abbrev x_M : Type := Nat → Nat → Int32
abbrev x_G : Type := va_G × (ClassId × ClassId × ClassId) × Nat × (Nat → Nat)
def x_row (M : x_M) (k : Nat) (f : Nat → Int32) : x_M := fun a => if a = k then f else M a
def x_cl : List vw_C := [(RX0, TX0, 2), (RX3, TX3, 1), (RX4, TX4, 6), (RX5, TX5, 13), (RX6, TX6, 6), (RX7, TX7, 18)]
def x_ty (ci : Nat) : Nat → FieldType := match ci with
  | 0 => tyX0
  | 1 => tyX3
  | 2 => tyX4
  | 3 => tyX5
  | 4 => tyX6
  | _ => tyX7
def x_ad (G : x_G) (k : Nat) : Nat := G.2.2.1 + k
def x_v (G : x_G) : x_V → Value
  | .inl x => .int x
  | .inr (.inl k) => if k = 9999 then .null else .ref (x_ad G k)
  | .inr (.inr c) => .ref (G.2.2.2 c)
def x_f1 (G : x_G) (f : Nat → Int32) (j : Nat) (o : Option Nat) : Value := match o with
  | none => .int (f j)
  | some r => x_v G (.inr (.inl r))
def x_fs (G : x_G) (f : Nat → Int32) (fs : List (Option Nat)) : List Value := fs.mapIdx (x_f1 G f)
def x_e (G : x_G) (f : Nat → Int32) : x_S → va_E
  | .inl q => .inr (q.1, x_fs G f q.2)
  | .inr (.inl q) => .inl (if q.1 then G.2.1.2.1 else G.2.1.1, q.2, .inl f)
  | .inr (.inr g) => .inl (G.2.1.2.2, g.length, .inr (.inr (.inr (.inr (fun j => some (x_ad G (g.getD j 0)))))))
def x_ws (G : x_G) (S : List x_S) (M : x_M) : va_W := S.mapIdx (fun k x => (x_ad G k, x_e G (M k) x))
def x_A (G : x_G) : Nat → Prop := fun q => G.2.2.1 ≤ q
def x_H (G : x_G) (S : List x_S) (M : x_M) (H : Heap) : Prop := va_P G.1 x_cl (x_ws G S M) H ∧ S.length ≤ 1000
def x_tys (G : x_G) : List (ClassId × FieldType) := [(G.2.1.1, .int), (G.2.1.2.1, .boolean), (G.2.1.2.2, .array .int)]
def x_AO (U : State) : Prop := (Cond.arrayOver (.array .int)).before #[] U = true
def x_U (G : x_G) (U : State) : Prop := va_K G.1 x_cl (x_tys G) U ∧ x_AO U
theorem x_row_self (M : x_M) (k : Nat) (f : Nat → Int32) : x_row M k f k = f := if_pos rfl
theorem x_row_ne (M : x_M) {k a : Nat} (f : Nat → Int32) (h : a ≠ k) : x_row M k f a = M a := if_neg h
theorem x_ws_get {G : x_G} {S : List x_S} {M : x_M} {k : Nat} {x : x_S} (h : S[k]? = some x) : (x_ws G S M)[k]? = some (x_ad G k, x_e G (M k) x) := by
  simp [x_ws, h]
theorem x_ws_len (G : x_G) (S : List x_S) (M : x_M) : (x_ws G S M).length = S.length := by simp [x_ws]
theorem x_ws_at {G : x_G} {S : List x_S} {M : x_M} {k : Nat} {q : Nat × va_E} (h : (x_ws G S M)[k]? = some q) : ∃ x, S[k]? = some x ∧ q = (x_ad G k, x_e G (M k) x) := by
  simp only [x_ws, List.getElem?_mapIdx] at h
  cases hx : S[k]? with
  | none => rw [hx] at h; cases h
  | some x => rw [hx] at h; exact ⟨x, rfl, (Option.some.inj h).symm⟩
theorem x_ws_D (G : x_G) (S : List x_S) (M : x_M) : va_D (x_A G) (x_ws G S M) := by
  refine ⟨fun i j p q hi hj hpq => ?_, fun k q hk => ?_⟩
  · obtain ⟨x, -, rfl⟩ := x_ws_at hi
    obtain ⟨y, -, rfl⟩ := x_ws_at hj
    simp only [x_ad] at hpq
    omega
  · obtain ⟨x, -, rfl⟩ := x_ws_at hk
    simp [x_A, x_ad]
theorem x_ws_row {G : x_G} {S : List x_S} {M : x_M} {k : Nat} {x : x_S} (h : S[k]? = some x) (f : Nat → Int32) : (x_ws G S M).set k (x_ad G k, x_e G f x) = x_ws G S (x_row M k f) := by
  apply List.ext_getElem?
  intro i
  by_cases hi : i = k
  · subst hi
    rw [x_ws_get h, x_row_self, List.getElem?_set_self (by rw [x_ws_len]; exact (List.getElem?_eq_some_iff.mp h).1)]
  · rw [List.getElem?_set_ne (Ne.symm hi)]
    simp [x_ws, x_row_ne M f hi]
theorem x_ws_set {G : x_G} {S : List x_S} {M : x_M} {k : Nat} {x : x_S} (h : S[k]? = some x) (y : x_S) : (x_ws G S M).set k (x_ad G k, x_e G (M k) y) = x_ws G (S.set k y) M := by
  apply List.ext_getElem?
  intro i
  have hl := (List.getElem?_eq_some_iff.mp h).1
  by_cases hi : i = k
  · subst hi
    rw [List.getElem?_set_self (by rw [x_ws_len]; exact hl), x_ws_get (List.getElem?_set_self hl)]
  · rw [List.getElem?_set_ne (Ne.symm hi)]
    simp [x_ws, List.getElem?_set_ne (Ne.symm hi)]
theorem x_ws_app (G : x_G) (S : List x_S) (M : x_M) (x : x_S) (f : Nat → Int32) : x_ws G (S ++ [x]) (x_row M S.length f) = x_ws G S M ++ [(x_ad G S.length, x_e G f x)] := by
  apply List.ext_getElem?
  intro i
  rcases Nat.lt_trichotomy i S.length with h | h | h
  · rw [List.getElem?_append_left (by rw [x_ws_len]; exact h)]
    simp only [x_ws, List.getElem?_mapIdx, List.getElem?_append_left h, x_row_ne M f (Nat.ne_of_lt h)]
  · subst h
    rw [List.getElem?_append_right (by rw [x_ws_len]; exact Nat.le_refl _), x_ws_len, Nat.sub_self]
    simp [x_ws, x_row_self]
  · rw [List.getElem?_eq_none (by rw [x_ws_len]; simp; omega), List.getElem?_eq_none (by simp [x_ws_len]; omega)]
theorem x_fs_int {G : x_G} {f : Nat → Int32} {fs : List (Option Nat)} {j : Nat} (h : fs[j]? = some none) (v : Int32) : (x_fs G f fs).set j (.int v) = x_fs G (upd f j v) fs := by
  apply List.ext_getElem?
  intro i
  have hl := (List.getElem?_eq_some_iff.mp h).1
  by_cases hi : i = j
  · subst hi
    rw [List.getElem?_set_self (by simp [x_fs]; exact hl)]
    simp [x_fs, h, x_f1, upd]
  · rw [List.getElem?_set_ne (Ne.symm hi)]
    simp only [x_fs, List.getElem?_mapIdx]
    cases fs[i]? with
    | none => rfl
    | some o => cases o <;> simp [x_f1, upd, hi]
theorem x_fs_ref {G : x_G} {f : Nat → Int32} {fs : List (Option Nat)} {j : Nat} (h : j < fs.length) (r : Nat) : (x_fs G f fs).set j (x_v G (.inr (.inl r))) = x_fs G f (fs.set j (some r)) := by
  apply List.ext_getElem?
  intro i
  by_cases hi : i = j
  · subst hi
    rw [List.getElem?_set_self (by simp [x_fs]; exact h)]
    simp [x_fs, x_f1, h]
  · rw [List.getElem?_set_ne (Ne.symm hi)]
    simp only [x_fs, List.getElem?_mapIdx, List.getElem?_set_ne (Ne.symm hi)]
theorem x_fs_get {G : x_G} {f : Nat → Int32} {fs : List (Option Nat)} {j : Nat} {o : Option Nat} (h : fs[j]? = some o) : (x_fs G f fs)[j]? = some (x_f1 G f j o) := by
  simp [x_fs, h]
theorem x_v_pl {G : x_G} {k n : Nat} (h : k < n) (hn : n ≤ 1000) : x_v G (.inr (.inl k)) = .ref (x_ad G k) := by
  simp only [x_v]
  rw [if_neg (by omega)]
/-! locals -/
def x_lv (G : x_G) (ls : List x_V) : List (Nat × Value) := ls.mapIdx (fun k v => (k, x_v G v))
def x_sto : List x_V → Nat → x_V → List x_V
  | [], _, v => [v]
  | _ :: ls, 0, v => v :: ls
  | a :: ls, k + 1, v => a :: x_sto ls k v
theorem x_sto_get : ∀ (ls : List x_V) (k : Nat) (v : x_V), k ≤ ls.length → ∀ j : Nat, (x_sto ls k v)[j]? = if j = k then some v else ls[j]?
  | [], k, v, h, j => by
    have hk : k = 0 := by simpa using h
    subst hk
    cases j <;> simp [x_sto]
  | a :: ls, 0, v, h, j => by cases j <;> simp [x_sto]
  | a :: ls, k + 1, v, h, j => by
    cases j with
    | zero => simp [x_sto]
    | succ j =>
      simp only [x_sto, List.getElem?_cons_succ]
      rw [x_sto_get ls k v (by simpa using h) j]
      by_cases hj : j = k <;> simp [hj]
theorem x_v_cat (G : x_G) (v : x_V) : (x_v G v).category = 1 := by
  rcases v with x | k | c
  · rfl
  · simp only [x_v]; split <;> rfl
  · rfl
theorem x_lv_mem {G : x_G} {ls : List x_V} {q : Nat × Value} : q ∈ x_lv G ls ↔ ∃ v, ls[q.1]? = some v ∧ q.2 = x_v G v := by
  simp only [x_lv, List.mem_mapIdx]
  constructor
  · rintro ⟨i, hi, rfl⟩
    exact ⟨ls[i], by simp [hi], rfl⟩
  · rintro ⟨v, h1, h2⟩
    obtain ⟨hi, he⟩ := List.getElem?_eq_some_iff.mp h1
    refine ⟨q.1, hi, ?_⟩
    rw [he, ← h2]
theorem x_lv_at {G : x_G} {ls : List x_V} {lsA : Array Slot} {nL k : Nat} {v : x_V} (h : lv_has lsA nL (x_lv G ls)) (hk : ls[k]? = some v) : lsA[k]? = some (.val (x_v G v)) :=
  h.2.2 (k, x_v G v) (x_lv_mem.mpr ⟨v, hk, rfl⟩)
theorem x_lv_sub {G : x_G} {ls ls' : List x_V} {lsA : Array Slot} {nL : Nat} (h : lv_has lsA nL (x_lv G ls)) (hs : ∀ (k : Nat) (v : x_V), ls'[k]? = some v → ls[k]? = some v) : lv_has lsA nL (x_lv G ls') :=
  ⟨h.1, h.2.1, fun q hq => by
    obtain ⟨v, h1, h2⟩ := x_lv_mem.mp hq
    exact h.2.2 q (x_lv_mem.mpr ⟨v, hs _ _ h1, h2⟩)⟩
theorem x_lv_take {G : x_G} {ls : List x_V} {lsA : Array Slot} {nL : Nat} (n : Nat) (h : lv_has lsA nL (x_lv G ls)) : lv_has lsA nL (x_lv G (ls.take n)) :=
  x_lv_sub h (fun k v hk => by
    rw [List.getElem?_take] at hk
    split at hk
    · exact hk
    · cases hk)
theorem x_lv_sto {G : x_G} {ls : List x_V} {lsA : Array Slot} {nL k : Nat} {v : x_V} {lv' : List (Nat × Value)} (hk : k ≤ ls.length)
    (hl : (k, x_v G v) :: (x_lv G ls).filter (fun q => !(q.1 == k) && !(q.1 + 1 == k && q.2.category == 2)) = lv') (h : lv_has lsA nL lv') : lv_has lsA nL (x_lv G (x_sto ls k v)) := by
  refine ⟨h.1, h.2.1, fun q hq => ?_⟩
  obtain ⟨w, h1, h2⟩ := x_lv_mem.mp hq
  refine h.2.2 q ?_
  rw [← hl]
  rw [x_sto_get ls k v hk] at h1
  by_cases hqk : q.1 = k
  · rw [if_pos hqk] at h1
    have hw : w = v := (Option.some.inj h1).symm
    have : q = (k, x_v G v) := by
      rw [← hqk, ← hw, ← h2]
    rw [this]
    exact List.mem_cons_self
  · rw [if_neg hqk] at h1
    refine List.mem_cons_of_mem _ (List.mem_filter.mpr ⟨x_lv_mem.mpr ⟨w, h1, h2⟩, ?_⟩)
    have hc : q.2.category = 1 := by rw [h2]; exact x_v_cat G w
    simp [hqk, hc]
end
section
/-! THE SMALL MACHINE'S STEPS, as conditions: what must hold before an instruction, so that K holds behind it and J at a jump's end -/
abbrev x_J : Type := Nat → List x_V → List x_V → List x_S → x_M → Nat → Nat → Prop
/-- a callee: how many arguments, start, end, cells, slots -/
abbrev x_K : Type := Nat × (List x_V → List x_S → x_M → Prop) × (List x_V → List x_S → x_M → Option x_V → List x_S → x_M → Prop) × Nat × Nat
/-- fields, statics, constants, classes that are made, callees, cells and slots at most, tables' lengths and contents, how many tables, whether it is a constructor -/
abbrev x_X : Type := List (Nat × Nat × Nat) × List (Nat × Nat) × List (Nat × Int32) × List (Nat × Nat) × List (Nat × x_K) × (Nat × Nat) × (Nat → Nat) × (Nat → Nat → Int32) × (Nat × Bool)
def x_lk {α : Type} : List (Nat × α) → Nat → Option α
  | [], _ => none
  | q :: r, k => if k = q.1 then some q.2 else x_lk r k
theorem x_lk_mem {α : Type} : ∀ {L : List (Nat × α)} {k : Nat} {v : α}, x_lk L k = some v → (k, v) ∈ L
  | [], _, _, h => by cases h
  | q :: r, k, v, h => by
    unfold x_lk at h
    split at h
    · rename_i hk
      cases h
      rw [hk]
      exact List.mem_cons_self
    · exact List.mem_cons_of_mem _ (x_lk_mem h)
/-- a constant of the code -/
def x_q (v : Int) : Int32 := if 0 ≤ v then nI v.toNat else -(nI (-v).toNat)
def x_tg (pc : Nat) (off : Int) : Nat := ((pc : Int) + off).toNat
def x_fd (S : List x_S) (M : x_M) (k sl : Nat) : x_V := match S[k]? with
  | some (.inl q) => match q.2[sl]? with
    | some (some r) => .inr (.inl r)
    | _ => .inl (M k sl)
  | _ => .inl 0
def x_el (S : List x_S) (k i : Nat) : Nat := match S[k]? with
  | some (.inr (.inr g)) => g.getD i 0
  | _ => 0
def x_ln (S : List x_S) (k : Nat) : Nat := match S[k]? with
  | some (.inr (.inl q)) => q.2
  | _ => 0
def x_sf (S : List x_S) (k sl r : Nat) : List x_S := match S[k]? with
  | some (.inl q) => S.set k (.inl (q.1, q.2.set sl (some r)))
  | _ => S
/-- the fields of an object that is new -/
def x_nf (ci : Nat) : List (Option Nat) := match ci with
  | 0 => [some 9999, some 9999]
  | 1 => [some 9999]
  | 2 => [some 9999, some 9999, some 9999, some 9999, none, none]
  | 3 => [none, some 9999, some 9999, some 9999, some 9999, some 9999, some 9999, some 9999, some 9999, none, none, none, none]
  | 4 => [some 9999, some 9999, some 9999, some 9999, some 9999, some 9999]
  | _ => [some 9999, some 9999, some 9999, some 9999, none, some 9999, some 9999, some 9999, some 9999, some 9999, some 9999, some 9999, some 9999, some 9999, some 9999, some 9999, some 9999, some 9999]
def x_un (f : Int32 → Int32) (K : List x_V → Prop) : List x_V → Prop
  | .inl a :: st => K (.inl (f a) :: st)
  | _ => False
def x_bin (f : Int32 → Int32 → Int32) (K : List x_V → Prop) : List x_V → Prop
  | .inl b :: .inl a :: st => K (.inl (f a b) :: st)
  | _ => False
def x_div (f : Int32 → Int32 → Int32) (K : List x_V → Prop) : List x_V → Prop
  | .inl b :: .inl a :: st => (¬ b = 0) ∧ K (.inl (f a b) :: st)
  | _ => False
def x_c1 (o : Jvm.ClassFile.Cond) (x : Int32) : Prop := match o with
  | .eq => x = 0
  | .ne => ¬ x = 0
  | .lt => x < 0
  | .ge => 0 ≤ x
  | .gt => 0 < x
  | .le => x ≤ 0
def x_n1 (o : Jvm.ClassFile.Cond) (x : Int32) : Prop := match o with
  | .eq => ¬ x = 0
  | .ne => x = 0
  | .lt => ¬ x < 0
  | .ge => ¬ 0 ≤ x
  | .gt => ¬ 0 < x
  | .le => ¬ x ≤ 0
def x_c2 (o : Jvm.ClassFile.Cond) (x y : Int32) : Prop := match o with
  | .eq => x = y
  | .ne => ¬ x = y
  | .lt => x < y
  | .ge => y ≤ x
  | .gt => y < x
  | .le => x ≤ y
def x_n2 (o : Jvm.ClassFile.Cond) (x y : Int32) : Prop := match o with
  | .eq => ¬ x = y
  | .ne => x = y
  | .lt => ¬ x < y
  | .ge => ¬ y ≤ x
  | .gt => ¬ y < x
  | .le => ¬ x ≤ y
def x_if1 (o : Jvm.ClassFile.Cond) (J K : List x_V → Prop) : List x_V → Prop
  | .inl x :: st => (x_c1 o x → J st) ∧ (x_n1 o x → K st)
  | _ => False
def x_if2 (o : Jvm.ClassFile.Cond) (J K : List x_V → Prop) : List x_V → Prop
  | .inl y :: .inl x :: st => (x_c2 o x y → J st) ∧ (x_n2 o x y → K st)
  | _ => False
def x_sw (d lo hi : Int) (offs : Array Int) (J : Int → List x_V → Prop) : List x_V → Prop
  | .inl x :: st => (x.toInt < lo ∨ hi < x.toInt → J d st) ∧ ∀ (j : Nat) (off : Int), offs.toList[j]? = some off → x.toInt = lo + j → J off st
  | _ => False
def x_ldi (ls : List x_V) (k : Nat) (K : x_V → Prop) : Prop := match ls[k]? with
  | some (.inl x) => K (.inl x)
  | _ => False
def x_lda (ls : List x_V) (k : Nat) (K : x_V → Prop) : Prop := match ls[k]? with
  | some (.inr (.inl r)) => r < 1000 ∧ K (.inr (.inl r))
  | some (.inr (.inr c)) => K (.inr (.inr c))
  | _ => False
def x_sti (ls : List x_V) (k : Nat) (K : List x_V → List x_V → Prop) : List x_V → Prop
  | .inl x :: st => k ≤ ls.length ∧ K (x_sto ls k (.inl x)) st
  | _ => False
def x_sta (ls : List x_V) (k : Nat) (K : List x_V → List x_V → Prop) : List x_V → Prop
  | .inr (.inl r) :: st => k ≤ ls.length ∧ r < 1000 ∧ K (x_sto ls k (.inr (.inl r))) st
  | _ => False
def x_inc (ls : List x_V) (k : Nat) (d : Int) (K : List x_V → Prop) : Prop := match ls[k]? with
  | some (.inl x) => K (x_sto ls k (.inl (x + x_q d)))
  | _ => False
def x_du1 (K : List x_V → Prop) : List x_V → Prop
  | a :: st => K (a :: a :: st)
  | _ => False
def x_du2 (K : List x_V → Prop) : List x_V → Prop
  | a :: b :: st => K (a :: b :: a :: b :: st)
  | _ => False
def x_gf (o : Option (Nat × Nat)) (S : List x_S) (M : x_M) (K : List x_V → Prop) : List x_V → Prop
  | .inr (.inl k) :: st => match o with
    | some q => (∃ (fs : List (Option Nat)) (f : Option Nat), S[k]? = some (.inl (q.1, fs)) ∧ fs[q.2]? = some f) ∧ K (x_fd S M k q.2 :: st)
    | none => False
  | _ => False
def x_fi (ci k : Nat) : Bool := match x_cl[ci]? with
  | some r => (r.2.1 k).2.2.2
  | none => true
def x_pf (o : Option (Nat × Nat)) (ini : Bool) (S : List x_S) (M : x_M) (K : List x_V → List x_S → x_M → Prop) : List x_V → Prop
  | .inl x :: .inr (.inl k) :: st => match o with
    | some q => (∃ fs : List (Option Nat), S[k]? = some (.inl (q.1, fs)) ∧ fs[q.2]? = some none) ∧ (x_fi q.1 q.2 = false ∨ ini = true) ∧ (x_ty q.1 q.2 = .int ∨ (x_ty q.1 q.2 = .boolean ∧ (x = 0 ∨ x = 1))) ∧ K st S (x_row M k (upd (M k) q.2 x))
    | none => False
  | .inr (.inl r) :: .inr (.inl k) :: st => match o with
    | some q => (∃ (fs : List (Option Nat)) (r0 : Nat), S[k]? = some (.inl (q.1, fs)) ∧ fs[q.2]? = some (some r0)) ∧ r < 1000 ∧ (x_fi q.1 q.2 = false ∨ ini = true) ∧ defaultValue (x_ty q.1 q.2) = .null ∧ K st (x_sf S k q.2 r) M
    | none => False
  | _ => False
def x_ald (b : Bool) (X : x_X) (S : List x_S) (M : x_M) (K : List x_V → Prop) : List x_V → Prop
  | .inl i :: .inr (.inl k) :: st => (∃ n : Nat, S[k]? = some (.inr (.inl (b, n))) ∧ vp_in i n) ∧ K (.inl (M k i.toNatClampNeg) :: st)
  | .inl i :: .inr (.inr c) :: st => b = false ∧ c < X.2.2.2.2.2.2.2.2.1 ∧ vp_in i (X.2.2.2.2.2.2.1 c) ∧ K (.inl (X.2.2.2.2.2.2.2.1 c i.toNatClampNeg) :: st)
  | _ => False
def x_rld (S : List x_S) (K : List x_V → Prop) : List x_V → Prop
  | .inl i :: .inr (.inl k) :: st => (∃ g : List Nat, S[k]? = some (.inr (.inr g)) ∧ vp_in i g.length ∧ g.getD i.toNatClampNeg 0 < 1000) ∧ K (.inr (.inl (x_el S k i.toNatClampNeg)) :: st)
  | _ => False
def x_ast (b : Bool) (S : List x_S) (M : x_M) (K : List x_V → x_M → Prop) : List x_V → Prop
  | .inl x :: .inl i :: .inr (.inl k) :: st => (∃ n : Nat, S[k]? = some (.inr (.inl (b, n))) ∧ vp_in i n) ∧ (b = true → x = 0 ∨ x = 1) ∧ K st (x_row M k (upd (M k) i.toNatClampNeg x))
  | _ => False
def x_aln (X : x_X) (S : List x_S) (K : List x_V → Prop) : List x_V → Prop
  | .inr (.inl k) :: st => (∃ q : Bool × Nat, S[k]? = some (.inr (.inl q))) ∧ K (.inl (nI (x_ln S k)) :: st)
  | .inr (.inr c) :: st => c < X.2.2.2.2.2.2.2.2.1 ∧ K (.inl (nI (X.2.2.2.2.2.2.1 c)) :: st)
  | _ => False
def x_nwa (t : Jvm.ClassFile.ArrayType) (X : x_X) (S : List x_S) (M : x_M) (cs sl : Nat) (K : List x_V → List x_S → x_M → Nat → Nat → Prop) : List x_V → Prop
  | .inl v :: st => (t = .int ∨ t = .boolean) ∧ ¬ v < 0 ∧ v.toNatClampNeg ≤ 1000 ∧ S.length < 1000 ∧ cs + 1 ≤ X.2.2.2.2.2.1.1 ∧ sl + v.toNatClampNeg ≤ X.2.2.2.2.2.1.2 ∧
      K (.inr (.inl S.length) :: st) (S ++ [.inr (.inl (decide (t = .boolean), v.toNatClampNeg))]) (x_row M S.length (fun _ => 0)) (cs + 1) (sl + v.toNatClampNeg)
  | _ => False
def x_nwo (o : Option Nat) (X : x_X) (S : List x_S) (M : x_M) (cs sl : Nat) (K : List x_S → x_M → Nat → Nat → Prop) : Prop := match o with
  | some ci => ci < 6 ∧ S.length < 1000 ∧ cs + 1 ≤ X.2.2.2.2.2.1.1 ∧ sl + (x_nf ci).length ≤ X.2.2.2.2.2.1.2 ∧ K (S ++ [.inl (ci, x_nf ci)]) (x_row M S.length (fun _ => 0)) (cs + 1) (sl + (x_nf ci).length)
  | none => False
/-- rows from a place on are new and 0 -/
def x_zr (M : x_M) (a n : Nat) : x_M := fun k => if a ≤ k ∧ k < a + n then fun _ => 0 else M k
def x_mna (o : Option Nat) (X : x_X) (S : List x_S) (M : x_M) (cs sl : Nat) (K : List x_V → List x_S → x_M → Nat → Nat → Prop) : List x_V → Prop
  | .inl v :: .inl u :: st => match o with
    | some ci => ci = 99 ∧ ¬ u < 0 ∧ ¬ v < 0 ∧ v.toNatClampNeg ≤ 1000 ∧ S.length + 1 + u.toNatClampNeg ≤ 1000 ∧ cs + (1 + u.toNatClampNeg) ≤ X.2.2.2.2.2.1.1 ∧ sl + (u.toNatClampNeg + u.toNatClampNeg * v.toNatClampNeg) ≤ X.2.2.2.2.2.1.2 ∧
      K (.inr (.inl S.length) :: st) ((S ++ [.inr (.inr ((List.range u.toNatClampNeg).map (fun i => S.length + 1 + i)))]) ++ List.replicate u.toNatClampNeg (.inr (.inl (false, v.toNatClampNeg)))) (x_zr M S.length (1 + u.toNatClampNeg)) (cs + 1 + u.toNatClampNeg) (sl + u.toNatClampNeg + u.toNatClampNeg * v.toNatClampNeg)
    | none => False
  | _ => False
def x_inv (o : Option x_K) (X : x_X) (S : List x_S) (M : x_M) (cs sl : Nat) (st : List x_V) (K : List x_V → List x_S → x_M → Nat → Nat → Prop) : Prop := match o with
  | some q => (q.1 ≤ st.length ∧ st.length - q.1 ≤ 8 ∧ cs + q.2.2.2.1 ≤ X.2.2.2.2.2.1.1 ∧ sl + q.2.2.2.2 ≤ X.2.2.2.2.2.1.2) ∧ q.2.1 (st.take q.1).reverse S M ∧
      ∀ (r : Option x_V) (S' : List x_S) (M' : x_M), q.2.2.1 (st.take q.1).reverse S M r S' M' → K (r.toList ++ st.drop q.1) S' M' (cs + q.2.2.2.1) (sl + q.2.2.2.2)
  | none => False
def x_key : Instr → Option Nat
  | .invokestatic i => some (3 * i)
  | .invokevirtual i => some (3 * i + 1)
  | .invokespecial i => some (3 * i + 2)
  | _ => none
/-- one instruction; Z at a return -/
def x_op (X : x_X) (Z : Instr → List x_V → List x_S → x_M → Nat → Nat → Prop) (K J : x_J) (i : Instr) (n pc : Nat) (ls st : List x_V) (S : List x_S) (M : x_M) (cs sl : Nat) : Prop := match i with
  | .iconst v => K (pc + n) ls (.inl (x_q v) :: st) S M cs sl
  | .bipush v => K (pc + n) ls (.inl (x_q v) :: st) S M cs sl
  | .sipush v => K (pc + n) ls (.inl (x_q v) :: st) S M cs sl
  | .ldc k => match x_lk X.2.2.1 k with
    | some v => K (pc + n) ls (.inl v :: st) S M cs sl
    | none => False
  | .ldc_w k => match x_lk X.2.2.1 k with
    | some v => K (pc + n) ls (.inl v :: st) S M cs sl
    | none => False
  | .iload_n k => x_ldi ls k.val (fun v => K (pc + n) ls (v :: st) S M cs sl)
  | .iload k => x_ldi ls k (fun v => K (pc + n) ls (v :: st) S M cs sl)
  | .aload_n k => x_lda ls k.val (fun v => K (pc + n) ls (v :: st) S M cs sl)
  | .aload k => x_lda ls k (fun v => K (pc + n) ls (v :: st) S M cs sl)
  | .istore_n k => x_sti ls k.val (fun ls st => K (pc + n) ls st S M cs sl) st
  | .istore k => x_sti ls k (fun ls st => K (pc + n) ls st S M cs sl) st
  | .astore_n k => x_sta ls k.val (fun ls st => K (pc + n) ls st S M cs sl) st
  | .astore k => x_sta ls k (fun ls st => K (pc + n) ls st S M cs sl) st
  | .iinc k d => x_inc ls k d (fun ls => K (pc + n) ls st S M cs sl)
  | .iadd => x_bin (fun a b => a + b) (fun st => K (pc + n) ls st S M cs sl) st
  | .isub => x_bin (fun a b => a - b) (fun st => K (pc + n) ls st S M cs sl) st
  | .imul => x_bin (fun a b => a * b) (fun st => K (pc + n) ls st S M cs sl) st
  | .iand => x_bin (fun a b => a &&& b) (fun st => K (pc + n) ls st S M cs sl) st
  | .ior => x_bin (fun a b => a ||| b) (fun st => K (pc + n) ls st S M cs sl) st
  | .ixor => x_bin (fun a b => a ^^^ b) (fun st => K (pc + n) ls st S M cs sl) st
  | .ishl => x_bin (fun a b => a <<< (b &&& 31)) (fun st => K (pc + n) ls st S M cs sl) st
  | .ishr => x_bin (fun a b => a >>> (b &&& 31)) (fun st => K (pc + n) ls st S M cs sl) st
  | .iushr => x_bin (fun a b => (a.toUInt32 >>> (b.toUInt32 &&& Int32.toUInt32 31)).toInt32) (fun st => K (pc + n) ls st S M cs sl) st
  | .idiv => x_div (fun a b => a / b) (fun st => K (pc + n) ls st S M cs sl) st
  | .irem => x_div (fun a b => a - a / b * b) (fun st => K (pc + n) ls st S M cs sl) st
  | .ineg => x_un (fun a => -a) (fun st => K (pc + n) ls st S M cs sl) st
  | .dup => x_du1 (fun st => K (pc + n) ls st S M cs sl) st
  | .dup2 => x_du2 (fun st => K (pc + n) ls st S M cs sl) st
  | .goto off => J (x_tg pc off) ls st S M cs sl
  | .ifCond o off => x_if1 o (fun st => J (x_tg pc off) ls st S M cs sl) (fun st => K (pc + n) ls st S M cs sl) st
  | .if_icmp o off => x_if2 o (fun st => J (x_tg pc off) ls st S M cs sl) (fun st => K (pc + n) ls st S M cs sl) st
  | .tableswitch d lo hi offs => x_sw d lo hi offs (fun off st => J (x_tg pc off) ls st S M cs sl) st
  | .getfield k => x_gf (x_lk X.1 k) S M (fun st => K (pc + n) ls st S M cs sl) st
  | .putfield k => x_pf (x_lk X.1 k) X.2.2.2.2.2.2.2.2.2 S M (fun st S M => K (pc + n) ls st S M cs sl) st
  | .getstatic k => match x_lk X.2.1 k with
    | some c => K (pc + n) ls (.inr (.inr c) :: st) S M cs sl
    | none => False
  | .iaload => x_ald false X S M (fun st => K (pc + n) ls st S M cs sl) st
  | .baload => x_ald true X S M (fun st => K (pc + n) ls st S M cs sl) st
  | .aaload => x_rld S (fun st => K (pc + n) ls st S M cs sl) st
  | .iastore => x_ast false S M (fun st M => K (pc + n) ls st S M cs sl) st
  | .bastore => x_ast true S M (fun st M => K (pc + n) ls st S M cs sl) st
  | .arraylength => x_aln X S (fun st => K (pc + n) ls st S M cs sl) st
  | .newarray t => x_nwa t X S M cs sl (fun st S M cs sl => K (pc + n) ls st S M cs sl) st
  | .new k => x_nwo (x_lk X.2.2.2.1 k) X S M cs sl (fun S' M cs sl => K (pc + n) ls (.inr (.inl S.length) :: st) S' M cs sl)
  | .multianewarray k _ => x_mna (x_lk X.2.2.2.1 k) X S M cs sl (fun st S M cs sl => K (pc + n) ls st S M cs sl) st
  | .invokestatic k => x_inv (x_lk X.2.2.2.2.1 (3 * k)) X S M cs sl st (fun st S M cs sl => K (pc + n) ls st S M cs sl)
  | .invokevirtual k => x_inv (x_lk X.2.2.2.2.1 (3 * k + 1)) X S M cs sl st (fun st S M cs sl => K (pc + n) ls st S M cs sl)
  | .invokespecial k => x_inv (x_lk X.2.2.2.2.1 (3 * k + 2)) X S M cs sl st (fun st S M cs sl => K (pc + n) ls st S M cs sl)
  | .ireturn => Z .ireturn st S M cs sl
  | .areturn => Z .areturn st S M cs sl
  | .return_ => Z .return_ st S M cs sl
  | _ => False
/-- a stretch of instructions; at its end as at a jump -/
def x_wp (X : x_X) (Z : Instr → List x_V → List x_S → x_M → Nat → Nat → Prop) (J : x_J) : List (Instr × Nat) → x_J
  | [] => J
  | q :: c => fun pc ls st S M cs sl => x_op X Z (x_wp X Z J c) J q.1 q.2 pc ls st S M cs sl
/-- a block: its place, how many locals live there, its instructions -/
abbrev x_B : Type := List (Nat × Nat × List (Instr × Nat))
/-- jumps: at a cut the given condition, else the block there -/
def x_go (X : x_X) (Z : Instr → List x_V → List x_S → x_M → Nat → Nat → Prop) (bl : x_B) (cut : List Nat) (I : x_J) : Nat → x_J
  | 0 => fun pc ls st S M cs sl => match x_lk bl pc with
    | some q => if cut.elem pc then I pc (ls.take q.1) st S M cs sl else False
    | none => False
  | f + 1 => fun pc ls st S M cs sl => match x_lk bl pc with
    | some q => if cut.elem pc then I pc (ls.take q.1) st S M cs sl else x_wp X Z (x_go X Z bl cut I f) q.2 pc (ls.take q.1) st S M cs sl
    | none => False
/-- what is looked at once, ahead of any run: lengths, constants, jumps -/
def x_okI (nL pc : Nat) (i : Instr) (n : Nat) : Bool := match i with
  | .iconst v => n == 1 && Int32.ofInt v == x_q v
  | .bipush v => n == 2 && (Int8.ofInt v).toInt32 == x_q v
  | .sipush v => n == 3 && (Int16.ofInt v).toInt32 == x_q v
  | .ldc _ => n == 2
  | .ldc_w _ => n == 3
  | .iload_n _ => n == 1
  | .iload _ => n == 2
  | .aload_n _ => n == 1
  | .aload _ => n == 2
  | .istore_n k => n == 1 && decide (k.val < nL)
  | .istore k => n == 2 && decide (k < nL)
  | .astore_n k => n == 1 && decide (k.val < nL)
  | .astore k => n == 2 && decide (k < nL)
  | .iinc k d => n == 3 && decide (k < nL) && Int32.ofInt d == x_q d
  | .goto off => n == 3 && decide (0 ≤ (pc : Int) + off)
  | .ifCond _ off => n == 3 && decide (0 ≤ (pc : Int) + off)
  | .if_icmp _ off => n == 3 && decide (0 ≤ (pc : Int) + off)
  | .tableswitch d lo hi offs => decide (0 ≤ (pc : Int) + d) && decide (hi < lo + offs.size) && offs.toList.all (fun o => decide (0 ≤ (pc : Int) + o))
  | .getfield _ => n == 3
  | .putfield _ => n == 3
  | .getstatic _ => n == 3
  | .newarray _ => n == 2
  | .new _ => n == 3
  | .multianewarray _ d => n == 4 && d == 2
  | .invokestatic _ => n == 3
  | .invokevirtual _ => n == 3
  | .invokespecial _ => n == 3
  | _ => n == 1
def x_okc (cc : ByteArray) (nL : Nat) : Nat → List (Instr × Nat) → Bool
  | _, [] => true
  | pc, q :: c => decide (decode cc pc = .ok q) && x_okI nL pc q.1 q.2 && x_okc cc nL (pc + q.2) c
def x_okB (cc : ByteArray) (nL : Nat) (bl : x_B) : Bool := bl.all (fun q => x_okc cc nL q.1 q.2.2)
end
section
/-! WHY THE SMALL MACHINE'S STEPS ARE THE MACHINE'S -/
def x_kC (c : Nat) : String := if c < 3 then RX2 else RX1
def x_kN (c : Nat) : String := match c with
  | 0 => "SIGNS"
  | 1 => "COMPOSED"
  | 2 => "NEAR"
  | 3 => "FIRST"
  | _ => "SECOND"
def x_kn (c : Nat) : Nat := match c with
  | 0 => 13
  | 1 => 169
  | 2 => 13
  | _ => 15
def x_k0 : List Nat := [0x1111, 0x1121, 0x1141, 0x2141, 0x4141, 0x4142, 0x2142, 0x1142, 0x1144, 0x2144, 0x4144, 0x4244, 0x4444]
def x_k1 : List Nat := [
            1, 1, 1, 1, 31, 31, 1, 1, 1, 1, 31, 31, 8191,
            1, 1, 1, 2, 28, 28, 2, 1, 1, 2, 28, 224, 7936,
            1, 1, 7, 4, 28, 28, 4, 7, 391, 388, 2044, 1792, 7936,
            1, 1, 7, 8, 16, 16, 8, 7, 391, 584, 1072, 2048, 4096,
            1, 1, 31, 16, 16, 16, 16, 31, 8191, 7216, 7216, 4096, 4096,
            1, 2, 28, 16, 16, 32, 32, 224, 7936, 7168, 7168, 4096, 4096,
            1, 2, 4, 8, 16, 32, 64, 128, 256, 512, 1024, 2048, 4096,
            1, 2, 4, 4, 28, 224, 128, 128, 256, 256, 1792, 1792, 7936,
            391, 388, 388, 388, 2044, 1792, 256, 256, 256, 256, 1792, 1792, 7936,
            391, 388, 388, 584, 1072, 1024, 512, 256, 256, 512, 1024, 2048, 4096,
            391, 388, 2044, 1072, 1072, 1024, 1024, 1792, 7936, 7168, 7168, 4096, 4096,
            391, 584, 1072, 1072, 1072, 2048, 2048, 2048, 4096, 4096, 4096, 4096, 4096,
            8191, 7216, 7216, 7216, 7216, 4096, 4096, 4096, 4096, 4096, 4096, 4096, 4096]
def x_k2 : List Nat := [2, 141, 138, 86, 40, 3152, 680, 326, 640, 3392, 2592, 5664, 2048]
def x_k3 : List Nat := [0, 0, 0, 0, 0, 1, 1, 1, 1, 2, 2, 2, 3, 3, 4]
def x_k4 : List Nat := [1, 2, 3, 4, 5, 2, 3, 4, 5, 3, 4, 5, 4, 5, 5]
def x_kt (c : Nat) : List Nat := match c with
  | 0 => x_k0
  | 1 => x_k1
  | 2 => x_k2
  | 3 => x_k3
  | _ => x_k4
def x_kf (c j : Nat) : Int32 := nI ((x_kt c).getD j 0)
def x_C (G : x_G) (U : State) (H : Heap) : Prop := ∀ c : Nat, c < 5 → va_T .int (G.2.2.2 c) (x_kn c) (fun j => .int (x_kf c j)) (x_A G) U H ∧ va_Z (x_kC c) (x_kN c) "[I" (.ref (G.2.2.2 c)) (x_A G) U H
def x_I (G : x_G) (S : List x_S) (M : x_M) (U : State) : Prop := x_U G U ∧ x_C G U U.heap ∧ x_H G S M U.heap ∧ U.heap.size = G.2.2.1 + S.length
/-- a method's contract -/
def x_rm (h mc ms : Nat) : Room := { frames := h, cells := mc, slots := ms, locals := 40 * h }
def x_Qc (G : x_G) (q : x_K) (as : List x_V) (S : List x_S) (M : x_M) : Array Value → State → Outcome → State → Prop := fun _ st o t => ∃ (r : Option x_V) (S' : List x_S) (M' : x_M), o = .returned (r.map (x_v G)) ∧ q.2.2.1 as S M r S' M' ∧ x_H G S' M' t.heap ∧ S'.length = S.length + q.2.2.2.1 ∧ va_F (x_A G) st t
def x_CT (l : Launch) (y : MethodName) (cc : ByteArray) (maxL : Nat) (ret : Option FieldType) (h : Nat) (q : x_K) : Prop :=
  ∀ (G : x_G) (as : List x_V) (S : List x_S) (M : x_M), as.length = q.1 → q.2.1 as S M →
    Met l y (Cond.code y cc maxL ret :: x_tbl) (x_rm h q.2.2.2.1 q.2.2.2.2) (va_Pc (as.map (x_v G)) (x_I G S M)) (x_Qc G q as S M) q.2.2.2.1 q.2.2.2.2 (x_A G)
def x_Env (p : Program) (l : Launch) (e : Env) (R : Room) (s : State) (m : MethodId) (args : Array Value) (below : List Frame) (meth : Method) (c : Code) (cc : ByteArray) (own : String) (nL : Nat) (G : x_G) (X : x_X) : Prop :=
  p.tables.exec = Jvm.exec ∧ c.code = cc ∧ c.maxLocals = nL ∧ s.vm.findClass own = some m.cls ∧ (∀ w ∈ x_tbl, w.before args s = true) ∧ x_U G s ∧ x_C G s s.heap ∧
  (∀ k : Nat, k < X.2.2.2.2.2.2.2.2.1 → va_T .int (G.2.2.2 k) (X.2.2.2.2.2.2.1 k) (fun j => .int (X.2.2.2.2.2.2.2.1 k j)) (x_A G) s s.heap) ∧ G.2.2.1 ≤ s.heap.size ∧ (X.2.2.2.2.2.2.2.2.2 = true → meth.name = "<init>")
def x_Y (p : Program) (l : Launch) (e : Env) (R : Room) (s : State) (m : MethodId) (args : Array Value) (below : List Frame) (meth : Method) (c : Code) (nL : Nat) (G : x_G) (Q : State → Prop) : x_J := fun pc ls st S M cs sl =>
  ∀ (H : Heap) (locs : List Loc) (lsA : Array Slot), x_H G S M H → s.heap.size + cs = G.2.2.1 + S.length → va_S (x_A G) s.heap H locs → lv_has lsA nL (x_lv G ls) → W p l e R s m args below meth c H locs cs sl Q (F0 m pc lsA (st.map (x_v G)))
/-- a call's row -/
def x_Cal (l : Launch) (R : Room) (cc : ByteArray) (own : String) (nL : Nat) (key : Nat) (q : x_K) : Prop :=
  ∀ (p : Program) (e : Env) (s : State) (m : MethodId) (args : Array Value) (below : List Frame) (meth : Method) (c : Code) (G : x_G) (X : x_X), x_Env p l e R s m args below meth c cc own nL G X →
  ∀ (Q : State → Prop) (i : Instr) (pc : Nat) (as rest : List x_V) (S : List x_S) (M : x_M) (cs sl : Nat) (H : Heap) (locs : List Loc) (lsA : Array Slot), x_key i = some key → decode cc pc = .ok (i, 3) → as.length = q.1 → rest.length ≤ 8 → q.2.1 as S M →
    cs + q.2.2.2.1 ≤ R.cells → sl + q.2.2.2.2 ≤ R.slots → x_H G S M H → s.heap.size + cs = G.2.2.1 + S.length → va_S (x_A G) s.heap H locs → lsA.size = nL →
    (∀ (r : Option x_V) (S' : List x_S) (M' : x_M) (H' : Heap) (locs' : List Loc), q.2.2.1 as S M r S' M' → x_H G S' M' H' → S'.length = S.length + q.2.2.2.1 → va_S (x_A G) s.heap H' locs' → W p l e R s m args below meth c H' locs' (cs + q.2.2.2.1) (sl + q.2.2.2.2) Q (F0 m (pc + 3) lsA ((r.toList ++ rest).map (x_v G)))) →
    W p l e R s m args below meth c H locs cs sl Q (F0 m pc lsA ((as.reverse ++ rest).map (x_v G)))
/-- the tables' words -/
def x_okF (own : String) (q : Nat × Nat × Nat) : Bool := match x_cl[q.2.1]? with
  | some r => decide (q.2.2 < r.2.2) && decide (Cond.fieldLink own q.1 (r.2.1 q.2.2).1 (r.2.1 q.2.2).2.1 (r.2.1 q.2.2).2.2.1 ∈ x_tbl)
  | none => false
def x_okP (own : String) (ini : Bool) (q : Nat × Nat × Nat) : Bool := match x_cl[q.2.1]? with
  | some r => !ini || !(r.2.1 q.2.2).2.2.2 || decide ((r.2.1 q.2.2).1 = own)
  | none => false
def x_okS (own : String) (q : Nat × Nat) : Bool := decide (q.2 < 5) && decide (Cond.fieldLink own q.1 (x_kC q.2) (x_kN q.2) "[I" ∈ x_tbl)
def x_okN (own : String) (q : Nat × Nat) : Bool := if q.2 = 99 then decide (Cond.classLink own q.1 "[[I" ∈ x_tbl) else match x_cl[q.2]? with
  | some r => decide (Cond.classLink own q.1 r.1 ∈ x_tbl) && decide (Cond.instantiable r.1 r.2.2 ∈ x_tbl) && decide (Cond.initialized r.1 ∈ x_tbl)
  | none => false
def x_okT (own : String) (X : x_X) : Bool := X.1.all (x_okF own) && X.1.all (x_okP own X.2.2.2.2.2.2.2.2.2) && X.2.1.all (x_okS own) && X.2.2.1.all (fun q => decide (Cond.constant own q.1 q.2 ∈ x_tbl)) && X.2.2.2.1.all (x_okN own)
theorem x_in_int : Cond.arrayClass .int ∈ x_tbl := by decide +kernel
theorem x_in_boo : Cond.arrayClass .boolean ∈ x_tbl := by decide +kernel
theorem x_i0 : ∀ w ∈ u_ws RX0 TX0 2, w ∈ x_tbl := by decide +kernel
theorem x_i1 : ∀ w ∈ u_ws RX3 TX3 1, w ∈ x_tbl := by decide +kernel
theorem x_i2 : ∀ w ∈ u_ws RX4 TX4 6, w ∈ x_tbl := by decide +kernel
theorem x_i3 : ∀ w ∈ u_ws RX5 TX5 13, w ∈ x_tbl := by decide +kernel
theorem x_i4 : ∀ w ∈ u_ws RX6 TX6 6, w ∈ x_tbl := by decide +kernel
theorem x_i5 : ∀ w ∈ u_ws RX7 TX7 18, w ∈ x_tbl := by decide +kernel
theorem x_clf : ∀ (ci : Nat) (r : vw_C), x_cl[ci]? = some r → (∀ w ∈ u_ws r.1 r.2.1 r.2.2, w ∈ x_tbl) ∧ (∀ k, k < r.2.2 → parseFieldDescriptor (r.2.1 k).2.2.1 = some (x_ty ci k)) ∧ (∀ a, a < r.2.2 → ∀ b, b < r.2.2 → a ≠ b → (r.2.1 a).2.1 ≠ (r.2.1 b).2.1) ∧ (x_nf ci).length = r.2.2 := by
  intro ci r h
  match ci, h with
  | 0, h => cases h; exact ⟨x_i0, tyX0_ok, nmX0, rfl⟩
  | 1, h => cases h; exact ⟨x_i1, tyX3_ok, nmX3, rfl⟩
  | 2, h => cases h; exact ⟨x_i2, tyX4_ok, nmX4, rfl⟩
  | 3, h => cases h; exact ⟨x_i3, tyX5_ok, nmX5, rfl⟩
  | 4, h => cases h; exact ⟨x_i4, tyX6_ok, nmX6, rfl⟩
  | 5, h => cases h; exact ⟨x_i5, tyX7_ok, nmX7, rfl⟩
  | n + 6, h => simp [x_cl] at h
theorem x_tgt {pc : Nat} {off : Int} (h : 0 ≤ (pc : Int) + off) : (pc : Int) + off = (x_tg pc off : Int) := by
  simp only [x_tg]
  omega
theorem x_fd_v {G : x_G} {S : List x_S} {M : x_M} {k sl ci : Nat} {fs : List (Option Nat)} {f : Option Nat} (h : S[k]? = some (.inl (ci, fs))) (hf : fs[sl]? = some f) : x_v G (x_fd S M k sl) = x_f1 G (M k) sl f := by
  unfold x_fd
  rw [h]
  dsimp only
  rw [hf]
  cases f <;> rfl
def x_nfb (ci N : Nat) : Prop := ∀ j, j < N → ((x_nf ci)[j]? = some none ∧ defaultValue (x_ty ci j) = .int 0) ∨ ((x_nf ci)[j]? = some (some 9999) ∧ defaultValue (x_ty ci j) = .null)
theorem x_nf0 : x_nfb 0 2 := by unfold x_nfb; decide +kernel
theorem x_nf1 : x_nfb 1 1 := by unfold x_nfb; decide +kernel
theorem x_nf2 : x_nfb 2 6 := by unfold x_nfb; decide +kernel
theorem x_nf3 : x_nfb 3 13 := by unfold x_nfb; decide +kernel
theorem x_nf4 : x_nfb 4 6 := by unfold x_nfb; decide +kernel
theorem x_nf5 : x_nfb 5 18 := by unfold x_nfb; decide +kernel
theorem x_nf_all (ci : Nat) (r : vw_C) (h : x_cl[ci]? = some r) : x_nfb ci r.2.2 := by
  match ci, h with
  | 0, h => cases h; exact x_nf0
  | 1, h => cases h; exact x_nf1
  | 2, h => cases h; exact x_nf2
  | 3, h => cases h; exact x_nf3
  | 4, h => cases h; exact x_nf4
  | 5, h => cases h; exact x_nf5
  | n + 6, h => simp [x_cl] at h
theorem x_nf_ok (G : x_G) (ci : Nat) (r : vw_C) (h : x_cl[ci]? = some r) : ∀ j, j < r.2.2 → defaultValue (x_ty ci j) = vp_V (x_fs G (fun _ => 0) (x_nf ci)) j := by
  intro j hj
  rcases x_nf_all ci r h j hj with ⟨h1, h2⟩ | ⟨h1, h2⟩
  · rw [h2]
    simp only [vp_V, List.getD_eq_getElem?_getD, x_fs_get h1]
    rfl
  · rw [h2]
    simp only [vp_V, List.getD_eq_getElem?_getD, x_fs_get h1]
    simp [x_f1, x_v]
end
section
section XO
variable {p : Program} {l : Launch} {e : Env} {R : Room} {s : State} {m : MethodId} {args : Array Value} {below : List Frame} {meth : Method} {c : Code} {cc : ByteArray} {own : String} {nL : Nat} {G : x_G} {X : x_X} {Q : State → Prop}
theorem x_pl {S : List x_S} {M : x_M} {H : Heap} {k : Nat} {x : x_S} (hH : x_H G S M H) (h : S[k]? = some x) : x_v G (.inr (.inl k)) = .ref (x_ad G k) := x_v_pl (List.getElem?_eq_some_iff.mp h).1 hH.2
theorem x_pl2 {k : Nat} (h : k < 1000) : x_v G (.inr (.inl k)) = .ref (x_ad G k) := x_v_pl h (Nat.le_refl _)
theorem x_H_row {S : List x_S} {M : x_M} {H H1 : Heap} {k : Nat} {x : x_S} {f : Nat → Int32} (hH : x_H G S M H) (h : S[k]? = some x) (hP : va_P G.1 x_cl ((x_ws G S M).set k (x_ad G k, x_e G f x)) H1) : x_H G S (x_row M k f) H1 := by
  rw [x_ws_row h] at hP
  exact ⟨hP, hH.2⟩
theorem x_H_set {S : List x_S} {M : x_M} {H H1 : Heap} {k : Nat} {x y : x_S} (hH : x_H G S M H) (h : S[k]? = some x) (hP : va_P G.1 x_cl ((x_ws G S M).set k (x_ad G k, x_e G (M k) y)) H1) : x_H G (S.set k y) M H1 := by
  rw [x_ws_set h] at hP
  exact ⟨hP, by rw [List.length_set]; exact hH.2⟩
theorem x_H_size {S : List x_S} {M : x_M} {H : Heap} (hH : x_H G S M H) (h0 : G.2.2.1 ≤ H.size) : G.2.2.1 + S.length ≤ H.size := by
  rcases Nat.eq_zero_or_pos S.length with h | h
  · omega
  · have hk : S.length - 1 < S.length := by omega
    have := (hH.1 _ _ (x_ws_get (List.getElem?_eq_getElem hk))).lt
    simp only [x_ad] at this
    omega
theorem x_sf_eq {S : List x_S} {k sl r ci : Nat} {fs : List (Option Nat)} (h : S[k]? = some (.inl (ci, fs))) : x_sf S k sl r = S.set k (.inl (ci, fs.set sl (some r))) := by
  unfold x_sf
  rw [h]
set_option maxHeartbeats 4000000 in
/-- getfield -/
theorem x_s_gf (E : x_Env p l e R s m args below meth c cc own nL G X) (hT : x_okT own X = true) 
    {k pc : Nat} {ls st : List x_V} {S : List x_S} {M : x_M} {cs sl : Nat} {K : List x_V → List x_V → List x_S → x_M → Nat → Nat → Prop} (hK : ∀ ls st S M cs sl, K ls st S M cs sl → x_Y p l e R s m args below meth c nL G Q (pc + 3) ls st S M cs sl) (hd : decode cc pc = .ok (.getfield k, 3)) (h : x_gf (x_lk X.1 k) S M (fun st => K ls st S M cs sl) st) : x_Y p l e R s m args below meth c nL G Q pc ls st S M cs sl := by
  intro H locs lsA hH hz hS hl
  obtain ⟨hx, hb, hml, hown, hts, hU, hC, hk, ha0, hini⟩ := E
  unfold x_gf at h
  split at h
  · rename_i k0 st0
    split at h
    · rename_i q hq
      obtain ⟨⟨fs, f, h1, h2⟩, h3⟩ := h
      have hok : x_okF own (k, q) = true := by
        simp only [x_okT, Bool.and_eq_true, List.all_eq_true] at hT
        exact hT.1.1.1.1 _ (x_lk_mem hq)
      unfold x_okF at hok
      split at hok
      · rename_i r hr
        simp only [Bool.and_eq_true, decide_eq_true_eq] at hok
        have hcl := x_clf _ _ hr
        have hW := hK _ _ _ _ _ _ h3 H locs lsA hH hz hS hl
        rw [List.map_cons, x_fd_v h1 h2] at hW
        rw [List.map_cons, x_pl hH h1]
        exact va_get (ref := (r.2.1 q.2).1) (C := r.1) (T := r.2.1) (N := r.2.2) hx hb hts hcl.1 hown hU.1 hH.1 k0 (x_ws_get h1) hr q.2 hok.1 (hts _ hok.2) (fun _ h => h) (x_fs_get h2) hd hW
      · cases hok
    · exact h.elim
  · exact h.elim
set_option maxHeartbeats 4000000 in
/-- putfield -/
theorem x_s_pf (E : x_Env p l e R s m args below meth c cc own nL G X) (hT : x_okT own X = true) 
    {k pc : Nat} {ls st : List x_V} {S : List x_S} {M : x_M} {cs sl : Nat} {K : List x_V → List x_V → List x_S → x_M → Nat → Nat → Prop} (hK : ∀ ls st S M cs sl, K ls st S M cs sl → x_Y p l e R s m args below meth c nL G Q (pc + 3) ls st S M cs sl) (hd : decode cc pc = .ok (.putfield k, 3)) (h : x_pf (x_lk X.1 k) X.2.2.2.2.2.2.2.2.2 S M (fun st S M => K ls st S M cs sl) st) : x_Y p l e R s m args below meth c nL G Q pc ls st S M cs sl := by
  intro H locs lsA hH hz hS hl
  obtain ⟨hx, hb, hml, hown, hts, hU, hC, hk, ha0, hini⟩ := E
  unfold x_pf at h
  have words : ∀ q, x_lk X.1 k = some q → ∃ r, x_cl[q.1]? = some r ∧ q.2 < r.2.2 ∧ Cond.fieldLink own k (r.2.1 q.2).1 (r.2.1 q.2).2.1 (r.2.1 q.2).2.2.1 ∈ x_tbl ∧ ((X.2.2.2.2.2.2.2.2.2 = true) → (r.2.1 q.2).2.2.2 = true → (r.2.1 q.2).1 = own) := by
    intro q hq
    simp only [x_okT, Bool.and_eq_true, List.all_eq_true] at hT
    have hok := hT.1.1.1.1 _ (x_lk_mem hq)
    have hop := hT.1.1.1.2 _ (x_lk_mem hq)
    unfold x_okF at hok
    unfold x_okP at hop
    split at hok
    · rename_i r hr
      rw [hr] at hop
      simp only [Bool.and_eq_true, decide_eq_true_eq] at hok
      refine ⟨r, hr, hok.1, hok.2, fun g1 g2 => ?_⟩
      simpa [g1, g2] using hop
    · cases hok
  split at h
  · rename_i x k0 st0
    split at h
    · rename_i q hq
      obtain ⟨⟨fs, h1, h2⟩, h3, h4, h5⟩ := h
      obtain ⟨r, hr, g1, g2, g3⟩ := words q hq
      have hcl := x_clf _ _ hr
      have hfl : q.2 < (x_fs G (M k0) fs).length := by
        simp only [x_fs, List.length_mapIdx]
        exact (List.getElem?_eq_some_iff.mp h2).1
      have hn : narrow (x_ty q.1 q.2) (.int x) = .int x ∧ fits (x_ty q.1 q.2) (.int x) = true := by
        rcases h4 with h4 | ⟨h4, rfl | rfl⟩
        · rw [h4]; exact ⟨rfl, rfl⟩
        · rw [h4]; exact ⟨rfl, rfl⟩
        · rw [h4]; exact ⟨rfl, rfl⟩
      rw [List.map_cons, List.map_cons, x_pl hH h1]
      have fin : x_fi q.1 q.2 = (r.2.1 q.2).2.2.2 := by unfold x_fi; rw [hr]
      have goal2 : ∀ (H1 : Heap) (locs1 : List Loc), va_P G.1 x_cl ((x_ws G S M).set k0 (x_ad G k0, .inr (q.1, (x_fs G (M k0) fs).set q.2 (.int x)))) H1 → va_D (x_A G) ((x_ws G S M).set k0 (x_ad G k0, .inr (q.1, (x_fs G (M k0) fs).set q.2 (.int x)))) → va_S (x_A G) s.heap H1 locs1 → W p l e R s m args below meth c H1 locs1 cs sl Q (F0 m (pc + 3) lsA (List.map (x_v G) st0)) := by
        intro H1 locs1 hP1 _ hS1
        rw [x_fs_int h2] at hP1
        exact hK _ _ _ _ _ _ h5 H1 locs1 lsA (x_H_row hH h1 hP1) hz hS1 hl
      by_cases hf : (r.2.1 q.2).2.2.2 = true
      · have hi : X.2.2.2.2.2.2.2.2.2 = true := by
          rcases h3 with h3 | h3
          · rw [fin, hf] at h3; cases h3
          · exact h3
        exact va_putF (ref := (r.2.1 q.2).1) (C := r.1) (T := r.2.1) (N := r.2.2) (ci := q.1) hx hb hts hcl.1 (x_ty q.1) hcl.2.1 hcl.2.2.1 hown hU.1 hH.1 (x_ws_D G S M) hS k0 (x_ws_get h1) hr q.2 g1 (hts _ g2) (fun _ h => h) hf (hini hi) (g3 hi hf) (hcl.2.1 _ g1) hn.1 hn.2 hfl hd goal2
      · exact va_put (ref := (r.2.1 q.2).1) (C := r.1) (T := r.2.1) (N := r.2.2) (ci := q.1) hx hb hts hcl.1 (x_ty q.1) hcl.2.1 hcl.2.2.1 hown hU.1 hH.1 (x_ws_D G S M) hS k0 (x_ws_get h1) hr q.2 g1 (hts _ g2) (fun _ h => h) (by simpa using hf) (hcl.2.1 _ g1) hn.1 hn.2 hfl hd goal2
    · exact h.elim
  · rename_i r1 k0 st0
    split at h
    · rename_i q hq
      obtain ⟨⟨fs, r0, h1, h2⟩, hr1, h3, h4, h5⟩ := h
      obtain ⟨r, hr, g1, g2, g3⟩ := words q hq
      have hcl := x_clf _ _ hr
      have hfl0 : q.2 < fs.length := (List.getElem?_eq_some_iff.mp h2).1
      have hfl : q.2 < (x_fs G (M k0) fs).length := by
        simp only [x_fs, List.length_mapIdx]
        exact hfl0
      have hn : narrow (x_ty q.1 q.2) (x_v G (.inr (.inl r1))) = x_v G (.inr (.inl r1)) ∧ fits (x_ty q.1 q.2) (x_v G (.inr (.inl r1))) = true := by
        rw [x_pl2 hr1]
        generalize x_ty q.1 q.2 = ty at h4
        cases ty <;> first | exact ⟨rfl, rfl⟩ | (simp [defaultValue] at h4; done)
      rw [List.map_cons, List.map_cons, x_pl hH h1]
      have fin : x_fi q.1 q.2 = (r.2.1 q.2).2.2.2 := by unfold x_fi; rw [hr]
      have goal2 : ∀ (H1 : Heap) (locs1 : List Loc), va_P G.1 x_cl ((x_ws G S M).set k0 (x_ad G k0, .inr (q.1, (x_fs G (M k0) fs).set q.2 (x_v G (.inr (.inl r1)))))) H1 → va_D (x_A G) ((x_ws G S M).set k0 (x_ad G k0, .inr (q.1, (x_fs G (M k0) fs).set q.2 (x_v G (.inr (.inl r1)))))) → va_S (x_A G) s.heap H1 locs1 → W p l e R s m args below meth c H1 locs1 cs sl Q (F0 m (pc + 3) lsA (List.map (x_v G) st0)) := by
        intro H1 locs1 hP1 _ hS1
        rw [x_fs_ref hfl0] at hP1
        rw [x_sf_eq h1] at h5
        exact hK _ _ _ _ _ _ h5 H1 locs1 lsA (x_H_set hH h1 hP1) (by rw [List.length_set]; exact hz) hS1 hl
      by_cases hf : (r.2.1 q.2).2.2.2 = true
      · have hi : X.2.2.2.2.2.2.2.2.2 = true := by
          rcases h3 with h3 | h3
          · rw [fin, hf] at h3; cases h3
          · exact h3
        exact va_putF (ref := (r.2.1 q.2).1) (C := r.1) (T := r.2.1) (N := r.2.2) (ci := q.1) hx hb hts hcl.1 (x_ty q.1) hcl.2.1 hcl.2.2.1 hown hU.1 hH.1 (x_ws_D G S M) hS k0 (x_ws_get h1) hr q.2 g1 (hts _ g2) (fun _ h => h) hf (hini hi) (g3 hi hf) (hcl.2.1 _ g1) hn.1 hn.2 hfl hd goal2
      · exact va_put (ref := (r.2.1 q.2).1) (C := r.1) (T := r.2.1) (N := r.2.2) (ci := q.1) hx hb hts hcl.1 (x_ty q.1) hcl.2.1 hcl.2.2.1 hown hU.1 hH.1 (x_ws_D G S M) hS k0 (x_ws_get h1) hr q.2 g1 (hts _ g2) (fun _ h => h) (by simpa using hf) (hcl.2.1 _ g1) hn.1 hn.2 hfl hd goal2
    · exact h.elim
  · exact h.elim
set_option maxHeartbeats 4000000 in
/-- iaload, baload -/
theorem x_s_ald (E : x_Env p l e R s m args below meth c cc own nL G X)  (b : Bool)
    {pc : Nat} {ls st : List x_V} {S : List x_S} {M : x_M} {cs sl : Nat} {K : List x_V → List x_V → List x_S → x_M → Nat → Nat → Prop} (hK : ∀ ls st S M cs sl, K ls st S M cs sl → x_Y p l e R s m args below meth c nL G Q (pc + 1) ls st S M cs sl) (hd : decode cc pc = .ok (if b then .baload else .iaload, 1)) (h : x_ald b X S M (fun st => K ls st S M cs sl) st) : x_Y p l e R s m args below meth c nL G Q pc ls st S M cs sl := by
  intro H locs lsA hH hz hS hl
  obtain ⟨hx, hb, hml, hown, hts, hU, hC, hk, ha0, hini⟩ := E
  unfold x_ald at h
  split at h
  · obtain ⟨⟨n, h1, h2⟩, h3⟩ := h
    rw [List.map_cons, List.map_cons, x_pl hH h1]
    cases b with
    | false => exact va_iald hx hb hU.1 hH.1 _ 0 (x_ws_get h1) rfl h2 hd (hK _ _ _ _ _ _ h3 H locs lsA hH hz hS hl)
    | true => exact va_zald hx hb hU.1 hH.1 _ 1 (x_ws_get h1) rfl h2 hd (hK _ _ _ _ _ _ h3 H locs lsA hH hz hS hl)
  · obtain ⟨rfl, h1, h2, h3⟩ := h
    exact va_ti hx hb (hk _ h1) hS h2 rfl hd (hK _ _ _ _ _ _ h3 H locs lsA hH hz hS hl)
  · exact h.elim
set_option maxHeartbeats 4000000 in
/-- aaload -/
theorem x_s_rld (E : x_Env p l e R s m args below meth c cc own nL G X) 
    {pc : Nat} {ls st : List x_V} {S : List x_S} {M : x_M} {cs sl : Nat} {K : List x_V → List x_V → List x_S → x_M → Nat → Nat → Prop} (hK : ∀ ls st S M cs sl, K ls st S M cs sl → x_Y p l e R s m args below meth c nL G Q (pc + 1) ls st S M cs sl) (hd : decode cc pc = .ok (.aaload, 1)) (h : x_rld S (fun st => K ls st S M cs sl) st) : x_Y p l e R s m args below meth c nL G Q pc ls st S M cs sl := by
  intro H locs lsA hH hz hS hl
  obtain ⟨hx, hb, hml, hown, hts, hU, hC, hk, ha0, hini⟩ := E
  unfold x_rld at h
  split at h
  · rename_i i k st0
    obtain ⟨⟨g, h1, h2, h4⟩, h3⟩ := h
    have hW := hK _ _ _ _ _ _ h3 H locs lsA hH hz hS hl
    have he : x_el S k i.toNatClampNeg = g.getD i.toNatClampNeg 0 := by unfold x_el; rw [h1]
    rw [List.map_cons, he, x_pl2 h4] at hW
    rw [List.map_cons, List.map_cons, x_pl hH h1]
    have hlt : i.toNatClampNeg < g.length := Nat.not_le.mp fun q => h2 (Or.inr q)
    exact W.aald (v := .ref (x_ad G (g.getD i.toNatClampNeg 0))) (ty := .array .int) hx hb (hH.1 k _ (x_ws_get h1)) ((hU.1.2 2 _ rfl).1 g.length (fun j => va_rf (some (x_ad G (g.getD j 0))))) rfl (fun q => by cases q) (by show ¬ (i < 0 ∨ (arrV _ _ _).slots.size ≤ _); rw [arrV_size]; exact h2) (by show (arrV _ _ _).slots[_]? = _; rw [arrV_read _ _ hlt]; rfl) rfl rfl hd hW
  · exact h.elim
set_option maxHeartbeats 4000000 in
/-- iastore, bastore -/
theorem x_s_ast (E : x_Env p l e R s m args below meth c cc own nL G X)  (b : Bool)
    {pc : Nat} {ls st : List x_V} {S : List x_S} {M : x_M} {cs sl : Nat} {K : List x_V → List x_V → List x_S → x_M → Nat → Nat → Prop} (hK : ∀ ls st S M cs sl, K ls st S M cs sl → x_Y p l e R s m args below meth c nL G Q (pc + 1) ls st S M cs sl) (hd : decode cc pc = .ok (if b then .bastore else .iastore, 1)) (h : x_ast b S M (fun st M => K ls st S M cs sl) st) : x_Y p l e R s m args below meth c nL G Q pc ls st S M cs sl := by
  intro H locs lsA hH hz hS hl
  obtain ⟨hx, hb, hml, hown, hts, hU, hC, hk, ha0, hini⟩ := E
  unfold x_ast at h
  split at h
  · rename_i x i k st0
    obtain ⟨⟨n, h1, h2⟩, h4, h3⟩ := h
    rw [List.map_cons, List.map_cons, List.map_cons, x_pl hH h1]
    cases b with
    | false => exact va_iast hx hb hU.1 hH.1 (x_ws_D G S M) hS _ 0 (x_ws_get h1) rfl h2 hd (fun H1 locs1 hP1 _ hS1 => hK _ _ _ _ _ _ h3 H1 locs1 lsA (x_H_row hH h1 hP1) hz hS1 hl)
    | true =>
      have hv : vp_nar .boolean x = x := by
        rcases h4 rfl with rfl | rfl <;> rfl
      exact va_zast hx hb hU.1 hH.1 (x_ws_D G S M) hS _ 1 (x_ws_get h1) rfl h2 hd (fun H1 locs1 hP1 _ hS1 => by
        rw [hv] at hP1
        exact hK _ _ _ _ _ _ h3 H1 locs1 lsA (x_H_row hH h1 hP1) hz hS1 hl)
  · exact h.elim
set_option maxHeartbeats 4000000 in
/-- arraylength -/
theorem x_s_aln (E : x_Env p l e R s m args below meth c cc own nL G X) 
    {pc : Nat} {ls st : List x_V} {S : List x_S} {M : x_M} {cs sl : Nat} {K : List x_V → List x_V → List x_S → x_M → Nat → Nat → Prop} (hK : ∀ ls st S M cs sl, K ls st S M cs sl → x_Y p l e R s m args below meth c nL G Q (pc + 1) ls st S M cs sl) (hd : decode cc pc = .ok (.arraylength, 1)) (h : x_aln X S (fun st => K ls st S M cs sl) st) : x_Y p l e R s m args below meth c nL G Q pc ls st S M cs sl := by
  intro H locs lsA hH hz hS hl
  obtain ⟨hx, hb, hml, hown, hts, hU, hC, hk, ha0, hini⟩ := E
  unfold x_aln at h
  split at h
  · rename_i k st0
    obtain ⟨⟨q, h1⟩, h3⟩ := h
    have he : x_ln S k = q.2 := by unfold x_ln; rw [h1]
    rw [he] at h3
    rw [List.map_cons, x_pl hH h1]
    obtain ⟨b, n⟩ := q
    cases b with
    | false => exact va_alen hx hb hU.1 hH.1 _ 0 (x_ws_get h1) rfl rfl hd (hK _ _ _ _ _ _ h3 H locs lsA hH hz hS hl)
    | true => exact va_alen hx hb hU.1 hH.1 _ 1 (x_ws_get h1) rfl rfl hd (hK _ _ _ _ _ _ h3 H locs lsA hH hz hS hl)
  · obtain ⟨h1, h3⟩ := h
    exact va_tlen hx hb (hk _ h1) hS rfl hd (hK _ _ _ _ _ _ h3 H locs lsA hH hz hS hl)
  · exact h.elim
end XO
end
section
section XA
variable {p : Program} {l : Launch} {e : Env} {R : Room} {s : State} {m : MethodId} {args : Array Value} {below : List Frame} {meth : Method} {c : Code} {cc : ByteArray} {own : String} {nL : Nat} {G : x_G} {X : x_X} {Q : State → Prop}
theorem x_H_app {S : List x_S} {M : x_M} {H H1 : Heap} {x : x_S} {f : Nat → Int32} (hH : x_H G S M H) (hs : S.length < 1000) (hold : ∀ q, q < H.size → H1[q]? = H[q]?) (hnew : va_at G.1 x_cl (x_ad G S.length, x_e G f x) H1) : x_H G (S ++ [x]) (x_row M S.length f) H1 := by
  refine ⟨?_, by simp; omega⟩
  rw [x_ws_app]
  refine va_P.app (hH.1.kept (fun k q hk => hold q.1 ((hH.1 k q hk).lt))) (fun k q hk => ?_)
  have hz : k < 1 := (List.getElem?_eq_some_iff.mp hk).1
  rw [show k = 0 by omega] at hk
  cases hk
  exact hnew
theorem x_S_new {A : Nat → Prop} {H0 H H1 : Heap} {locs : List Loc} (hS : va_S A H0 H locs) (hz : H.size ≤ H1.size) (hold : ∀ q, q < H.size → H1[q]? = H[q]?) : va_S A H0 H1 locs :=
  ⟨Nat.le_trans hS.1 hz, fun q h1 h2 => (hold q (Nat.lt_of_lt_of_le h1 hS.1)).trans (hS.2.1 q h1 h2), hS.2.2⟩
theorem x_size (E : x_Env p l e R s m args below meth c cc own nL G X) {S : List x_S} {M : x_M} {H : Heap} {locs : List Loc} {cs sl : Nat} {T : State} (hH : x_H G S M H) (hz : s.heap.size + cs = G.2.2.1 + S.length) (hS : va_S (x_A G) s.heap H locs) (hT : T.heap = H) (Xs : Stand p l e R s m args below meth c T locs cs sl) : H.size = x_ad G S.length := by
  have h1 := Xs.heapSize
  have h2 := x_H_size hH (Nat.le_trans E.2.2.2.2.2.2.2.2.1 hS.1)
  rw [hT] at h1
  simp only [x_ad]
  omega
set_option maxHeartbeats 4000000 in
/-- newarray -/
theorem x_s_nwa (E : x_Env p l e R s m args below meth c cc own nL G X) (hR : R.cells = X.2.2.2.2.2.1.1 ∧ R.slots = X.2.2.2.2.2.1.2) 
    {t : Jvm.ClassFile.ArrayType} {pc : Nat} {ls st : List x_V} {S : List x_S} {M : x_M} {cs sl : Nat} {K : List x_V → List x_V → List x_S → x_M → Nat → Nat → Prop} (hK : ∀ ls st S M cs sl, K ls st S M cs sl → x_Y p l e R s m args below meth c nL G Q (pc + 2) ls st S M cs sl) (hd : decode cc pc = .ok (.newarray t, 2)) (h : x_nwa t X S M cs sl (fun st S M cs sl => K ls st S M cs sl) st) : x_Y p l e R s m args below meth c nL G Q pc ls st S M cs sl := by
  intro H locs lsA hH hz hS hl T hT Xs
  have hsz := x_size E hH hz hS hT Xs
  revert T
  show W p l e R s m args below meth c H locs cs sl Q (F0 m pc lsA (st.map (x_v G)))
  obtain ⟨hx, hb, hml, hown, hts, hU, hC, hk, ha0, hini⟩ := E
  unfold x_nwa at h
  split at h
  · rename_i v st0
    obtain ⟨h1, h2, h3, h4, h5, h6, h7⟩ := h
    have hrest : ∀ (b : Bool) (cA : ClassId) (H1 : Heap), (if b then G.2.1.2.1 else G.2.1.1) = cA → decide (t = .boolean) = b → H1[x_ad G S.length]? = some (arrV cA v.toNatClampNeg (fun _ => .int 0)) → H1.size = x_ad G S.length + 1 → (∀ q, q < x_ad G S.length → H1[q]? = H[q]?) →
        W p l e R s m args below meth c H1 locs (cs + 1) (sl + v.toNatClampNeg) Q (F0 m (pc + 2) lsA (.ref (x_ad G S.length) :: st0.map (x_v G))) := by
      intro b cA H1 e1 e2 e3 e4 e5
      have hW := hK _ _ _ _ _ _ h7 H1 locs lsA (x_H_app hH h4 (fun q hq => e5 q (by rw [← hsz]; exact hq)) (by
        rw [e2]
        show H1[x_ad G S.length]? = some (vp_cell _ _)
        rw [e1]
        exact e3)) (by simp; omega) (x_S_new hS (by omega) (fun q hq => e5 q (by rw [← hsz]; exact hq))) hl
      rw [List.map_cons, x_pl2 h4] at hW
      exact hW
    rw [List.map_cons]
    rcases h1 with rfl | rfl
    · refine va_newaK (atype := .int) hx hb (hts _ x_in_int) rfl hd rfl h2 rfl (by show v.toNatClampNeg * 4 ≤ _; omega) (by rw [hR.1]; exact h5) (by rw [hR.2]; exact h6) hsz fun H1 cA e1 z1 o1 hAr hNm => ?_
      have hc : G.2.1.1 = cA := Option.some.inj ((hU.1.2 0 _ rfl).2.symm.trans hNm)
      exact hrest false cA H1 hc (by decide) e1 z1 o1
    · refine va_newaK (atype := .boolean) hx hb (hts _ x_in_boo) rfl hd rfl h2 rfl (by show v.toNatClampNeg * 1 ≤ _; omega) (by rw [hR.1]; exact h5) (by rw [hR.2]; exact h6) hsz fun H1 cA e1 z1 o1 hAr hNm => ?_
      have hc : G.2.1.2.1 = cA := Option.some.inj ((hU.1.2 1 _ rfl).2.symm.trans hNm)
      exact hrest true cA H1 hc (by decide) e1 z1 o1
  · exact h.elim
set_option maxHeartbeats 4000000 in
/-- new -/
theorem x_s_nwo (E : x_Env p l e R s m args below meth c cc own nL G X) (hT : x_okT own X = true) (hR : R.cells = X.2.2.2.2.2.1.1 ∧ R.slots = X.2.2.2.2.2.1.2) 
    {k pc : Nat} {ls st : List x_V} {S : List x_S} {M : x_M} {cs sl : Nat} {K : List x_V → List x_V → List x_S → x_M → Nat → Nat → Prop} (hK : ∀ ls st S M cs sl, K ls st S M cs sl → x_Y p l e R s m args below meth c nL G Q (pc + 3) ls st S M cs sl) (hd : decode cc pc = .ok (.new k, 3)) (h : x_nwo (x_lk X.2.2.2.1 k) X S M cs sl (fun S' M cs sl => K ls (.inr (.inl S.length) :: st) S' M cs sl)) : x_Y p l e R s m args below meth c nL G Q pc ls st S M cs sl := by
  intro H locs lsA hH hz hS hl T hT' Xs
  have hsz := x_size E hH hz hS hT' Xs
  revert T
  show W p l e R s m args below meth c H locs cs sl Q (F0 m pc lsA (st.map (x_v G)))
  obtain ⟨hx, hb, hml, hown, hts, hU, hC, hk, ha0, hini⟩ := E
  unfold x_nwo at h
  split at h
  · rename_i ci hci
    obtain ⟨h1, h4, h5, h6, h7⟩ := h
    have hok : x_okN own (k, ci) = true := by
      simp only [x_okT, Bool.and_eq_true, List.all_eq_true] at hT
      exact hT.2 _ (x_lk_mem hci)
    unfold x_okN at hok
    rw [if_neg (by show ¬ ci = 99; omega)] at hok
    split at hok
    · rename_i r hr
      simp only [Bool.and_eq_true, decide_eq_true_eq] at hok
      have hcl := x_clf _ _ hr
      have hKn := hU.1.1 ci _ hr
      rw [hcl.2.2.2] at h6 h7
      refine W.newcK hx hb hown (hts _ hok.1.1) (hts _ hok.1.2) (hts _ hok.2) rfl hd (by rw [hR.1]; exact h5) (by rw [hR.2]; exact h6) hKn.2.1 hsz fun H1 kC hkC e1 z1 o1 => ?_
      have hW := hK _ _ _ _ _ _ h7 H1 locs lsA (x_H_app hH h4 (fun q hq => o1 q (by rw [← hsz]; exact hq)) ⟨_, hr, (u_born (x_ty ci) hts hcl.1 hKn hkC e1 hcl.2.1).to (x_nf_ok G ci r hr)⟩) (by simp; omega) (x_S_new hS (by omega) (fun q hq => o1 q (by rw [← hsz]; exact hq))) hl
      rw [List.map_cons, x_pl2 h4] at hW
      exact hW
    · cases hok
  · exact h.elim
set_option maxHeartbeats 4000000 in
/-- invoke -/
theorem x_s_inv (E : x_Env p l e R s m args below meth c cc own nL G X) (hR : R.cells = X.2.2.2.2.2.1.1 ∧ R.slots = X.2.2.2.2.2.1.2) (hC : ∀ q ∈ X.2.2.2.2.1, x_Cal l R cc own nL q.1 q.2) 
    {i : Instr} {key pc : Nat} (hi : x_key i = some key) {ls st : List x_V} {S : List x_S} {M : x_M} {cs sl : Nat} {K : List x_V → List x_V → List x_S → x_M → Nat → Nat → Prop} (hK : ∀ ls st S M cs sl, K ls st S M cs sl → x_Y p l e R s m args below meth c nL G Q (pc + 3) ls st S M cs sl) (hd : decode cc pc = .ok (i, 3)) (h : x_inv (x_lk X.2.2.2.2.1 key) X S M cs sl st (fun st S M cs sl => K ls st S M cs sl)) : x_Y p l e R s m args below meth c nL G Q pc ls st S M cs sl := by
  intro H locs lsA hH hz hS hl
  unfold x_inv at h
  split at h
  · rename_i q hq
    obtain ⟨⟨h1, h2, h3, h4⟩, h5, h6⟩ := h
    have hcal := hC _ (x_lk_mem hq) p e s m args below meth c G X E Q i pc (st.take q.1).reverse (st.drop q.1) S M cs sl H locs lsA hi hd (by simp; omega) (by simp; omega) h5 (by rw [hR.1]; exact h3) (by rw [hR.2]; exact h4) hH hz hS hl.1 (fun r S' M' H' locs' g1 g2 g3 g4 => hK _ _ _ _ _ _ (h6 r S' M' g1) H' locs' lsA g2 (by have g5 : S'.length = S.length + q.2.2.2.1 := g3; show s.heap.size + (cs + q.2.2.2.1) = _; omega) g4 hl)
    rw [List.reverse_reverse, List.take_append_drop] at hcal
    exact hcal
  · exact h.elim
theorem x_arrV {c : ClassId} {N : Nat} {f g : Nat → Value} (h : ∀ j, j < N → f j = g j) : arrV c N f = arrV c N g := by
  unfold arrV
  congr 1
  apply congrArg
  funext j
  exact h j.val j.isLt
theorem x_outer (c : ClassId) (N h0 : Nat) : ∀ i : Nat, Jvm.Free.Multi.outerC c N h0 i = arrV c N (fun j => va_rf (if j < i then some (h0 + 1 + j) else none))
  | 0 => by
    show ({ cls := c, slots := Array.replicate N .null, vm := .none } : Cell) = _
    rw [arrV_new]
    exact x_arrV (fun j _ => by simp [va_rf])
  | i + 1 => by
    show (Jvm.Free.Multi.outerC c N h0 i).setSlot i (.ref (h0 + 1 + i)) = _
    rw [x_outer c N h0 i, arrV_store]
    refine x_arrV (fun j _ => ?_)
    by_cases e : j = i
    · subst e
      simp [updV, va_rf]
    · by_cases h : j < i
      · simp [updV, e, h, Nat.lt_succ_of_lt h]
      · simp [updV, e, h, show ¬ j < i + 1 by omega]
set_option maxHeartbeats 4000000 in
/-- multianewarray -/
theorem x_s_mna (E : x_Env p l e R s m args below meth c cc own nL G X) (hT : x_okT own X = true) (hR : R.cells = X.2.2.2.2.2.1.1 ∧ R.slots = X.2.2.2.2.2.1.2) 
    {k pc : Nat} {ls st : List x_V} {S : List x_S} {M : x_M} {cs sl : Nat} {K : List x_V → List x_V → List x_S → x_M → Nat → Nat → Prop} (hK : ∀ ls st S M cs sl, K ls st S M cs sl → x_Y p l e R s m args below meth c nL G Q (pc + 4) ls st S M cs sl) (hd : decode cc pc = .ok (.multianewarray k 2, 4)) (h : x_mna (x_lk X.2.2.2.1 k) X S M cs sl (fun st S M cs sl => K ls st S M cs sl) st) : x_Y p l e R s m args below meth c nL G Q pc ls st S M cs sl := by
  intro H locs lsA hH hz hS hl T hT' Xs
  have hsz := x_size E hH hz hS hT' Xs
  obtain ⟨hx, hb, hml, hown, hts, hU, hC, hk, ha0, hini⟩ := E
  unfold x_mna at h
  split at h
  · rename_i v u st0
    split at h
    · rename_i ci hci
      obtain ⟨rfl, h1, h2, h3, h4, h5, h6, h7⟩ := h
      have hok : x_okN own (k, 99) = true := by
        simp only [x_okT, Bool.and_eq_true, List.all_eq_true] at hT
        exact hT.2 _ (x_lk_mem hci)
      unfold x_okN at hok
      rw [if_pos rfl] at hok
      have hlink := hts _ (of_decide_eq_true hok)
      generalize hN : u.toNatClampNeg = N at h4 h5 h6 h7
      generalize hV : v.toNatClampNeg = V at h3 h6 h7
      obtain ⟨vm₁, cA, comp, -, fA, fC, -, -, X', step⟩ := Xs.multianewarray2F hx (ty := .int) (own := own) (index := k) hown hlink (show (Cond.arrayOver (.array .int)).before args s = true from hU.2) (hts _ x_in_int) (g := F0 m pc lsA (List.map (x_v G) (.inl v :: .inl u :: st0))) rfl (by rw [hb]; exact hd) (n := u) (k := v) rfl h1 h2 (by rw [hN]; omega) (by rw [hV]; show V * 4 ≤ _; omega) (by rw [hV]; omega) rfl rfl (by rw [hR.1, hN]; exact h5) (by rw [hR.2, hN, hV]; exact h6)
      rw [hN, hV] at X' step
      have ecA : G.2.1.2.2 = cA := Option.some.inj ((hU.1.2 2 _ rfl).2.symm.trans fA)
      have ecI : G.2.1.1 = comp := Option.some.inj ((hU.1.2 0 _ rfl).2.symm.trans fC)
      generalize hF : Jvm.Free.Multi.fill (T.setVm vm₁) cA comp N V (defaultValue .int) N = F at X' step
      have hTh : (T.setVm vm₁).heap = H := hT'
      obtain ⟨f1, f2, -, -⟩ := Jvm.Free.Multi.fill_facts (T.setVm vm₁) cA comp N V (defaultValue .int) N
      rw [hF, hTh] at f1 f2
      have hold : ∀ x : Nat, x < H.size → F.heap[x]? = H[x]? := fun x hx => by
        have := Jvm.Free.Multi.fill_old (T.setVm vm₁) cA comp N V (defaultValue .int) (a := x) (by rw [hTh]; exact hx) N
        rw [hF, hTh] at this
        exact this
      have hrow : ∀ j : Nat, j < N → F.heap[H.size + 1 + j]? = some (arrV comp V (fun _ => .int 0)) := fun j hj => by
        have := Jvm.Free.Multi.fill_inner (T.setVm vm₁) cA comp N V (defaultValue .int) N j hj
        rw [hF, hTh] at this
        rw [this, ← arrV_new]
        rfl
      have hlen : ((S ++ [(.inr (.inr ((List.range N).map (fun i => S.length + 1 + i))) : x_S)]) ++ List.replicate N (.inr (.inl (false, V)) : x_S)).length = S.length + 1 + N := by simp; omega
      have hH2 : x_H G ((S ++ [(.inr (.inr ((List.range N).map (fun i => S.length + 1 + i))) : x_S)]) ++ List.replicate N (.inr (.inl (false, V)) : x_S)) (x_zr M S.length (1 + N)) F.heap := by
        refine ⟨fun i q hq => ?_, by rw [hlen]; omega⟩
        obtain ⟨x, hx1, rfl⟩ := x_ws_at hq
        rcases Nat.lt_trichotomy i S.length with hi | hi | hi
        · rw [List.getElem?_append_left (by simp; omega), List.getElem?_append_left hi] at hx1
          have hm : x_zr M S.length (1 + N) i = M i := by unfold x_zr; rw [if_neg (by omega)]
          rw [hm]
          have hq2 := hH.1 i _ (x_ws_get hx1)
          exact hq2.kept (hold _ hq2.lt)
        · subst hi
          rw [List.getElem?_append_left (by simp)] at hx1
          simp at hx1
          subst hx1
          show F.heap[x_ad G S.length]? = some (vp_cell _ _)
          rw [← hsz, f2, x_outer, ecA]
          simp only [vp_cell, List.length_map, List.length_range]
          refine congrArg some (x_arrV (fun j hj => ?_))
          rw [if_pos hj, List.getD_eq_getElem?_getD, List.getElem?_map, List.getElem?_range hj]
          have ej : H.size + 1 + j = x_ad G (S.length + 1 + j) := by
            simp only [x_ad] at hsz ⊢
            omega
          simp [va_rf, ej]
        · have hi2 : i < S.length + 1 + N := by rw [← hlen]; exact (List.getElem?_eq_some_iff.mp hx1).1
          rw [List.getElem?_append_right (by simp; omega)] at hx1
          have hx2 := (List.getElem?_eq_some_iff.mp hx1).2
          rw [List.getElem_replicate] at hx2
          subst hx2
          have hm : x_zr M S.length (1 + N) i = fun _ => 0 := by unfold x_zr; rw [if_pos (by omega)]
          rw [hm]
          show F.heap[x_ad G i]? = some (vp_cell _ _)
          have hr := hrow (i - S.length - 1) (by omega)
          simp only [x_ad] at hsz ⊢
          rw [show H.size + 1 + (i - S.length - 1) = G.2.2.1 + i by omega] at hr
          rw [hr, ← ecI]
          rfl
      have hW := hK _ _ _ _ _ _ h7 F.heap locs lsA hH2 (by rw [hlen]; omega) (x_S_new hS (by rw [f1]; omega) hold) hl F rfl X'
      obtain ⟨t, a1, b1⟩ := hW
      refine ⟨t, step t ?_, b1⟩
      rw [List.map_cons, x_pl2 (show S.length < 1000 by omega), ← hsz, ← hT'] at a1
      exact a1
    · exact h.elim
  · exact h.elim
end XA
end
section
section XM
variable {p : Program} {l : Launch} {e : Env} {R : Room} {s : State} {m : MethodId} {args : Array Value} {below : List Frame} {meth : Method} {c : Code} {cc : ByteArray} {own : String} {nL : Nat} {G : x_G} {X : x_X} {Q : State → Prop}
set_option maxHeartbeats 16000000 in
set_option maxRecDepth 10000 in
/-- one instruction -/
theorem x_op_ok (E : x_Env p l e R s m args below meth c cc own nL G X) (hT : x_okT own X = true) (hR : R.cells = X.2.2.2.2.2.1.1 ∧ R.slots = X.2.2.2.2.2.1.2) (hC : ∀ q ∈ X.2.2.2.2.1, x_Cal l R cc own nL q.1 q.2)
    {Z : Instr → List x_V → List x_S → x_M → Nat → Nat → Prop} (hZ : ∀ i pc ls st S M cs sl, decode cc pc = .ok (i, 1) → Z i st S M cs sl → x_Y p l e R s m args below meth c nL G Q pc ls st S M cs sl) {K J : x_J}
    (hJ : ∀ pc ls st S M cs sl, J pc ls st S M cs sl → x_Y p l e R s m args below meth c nL G Q pc ls st S M cs sl)
    {i : Instr} {n pc : Nat} (hK : ∀ ls st S M cs sl, K (pc + n) ls st S M cs sl → x_Y p l e R s m args below meth c nL G Q (pc + n) ls st S M cs sl) {ls st : List x_V} {S : List x_S} {M : x_M} {cs sl : Nat} (hd : decode cc pc = .ok (i, n)) (ho : x_okI nL pc i n = true) (h : x_op X Z K J i n pc ls st S M cs sl) : x_Y p l e R s m args below meth c nL G Q pc ls st S M cs sl := by
  have E' := E
  obtain ⟨hx, hb, hml, hown, hts, hU, hCc, hk, ha0, hini⟩ := E'
  have ldi : ∀ (k : Nat) (K' : x_V → Prop), x_ldi ls k K' → ∃ x, ls[k]? = some (.inl x) ∧ K' (.inl x) := by
    intro k K' h
    unfold x_ldi at h
    split at h
    · rename_i x hx; exact ⟨x, hx, h⟩
    · exact h.elim
  have lda : ∀ (k : Nat) (K' : x_V → Prop), x_lda ls k K' → ∃ v a, ls[k]? = some v ∧ x_v G v = .ref a ∧ K' v := by
    intro k K' h
    unfold x_lda at h
    split at h
    · rename_i x hx; exact ⟨_, _, hx, x_pl2 h.1, h.2⟩
    · rename_i x hx; exact ⟨_, _, hx, rfl, h⟩
    · exact h.elim
  have sti : ∀ (k : Nat) (K' : List x_V → List x_V → Prop), x_sti ls k K' st → ∃ x st0, st = .inl x :: st0 ∧ k ≤ ls.length ∧ K' (x_sto ls k (.inl x)) st0 := by
    intro k K' h
    unfold x_sti at h
    split at h
    · exact ⟨_, _, rfl, h.1, h.2⟩
    · exact h.elim
  have sta : ∀ (k : Nat) (K' : List x_V → List x_V → Prop), x_sta ls k K' st → ∃ r st0, st = .inr (.inl r) :: st0 ∧ k ≤ ls.length ∧ r < 1000 ∧ K' (x_sto ls k (.inr (.inl r))) st0 := by
    intro k K' h
    unfold x_sta at h
    split at h
    · exact ⟨_, _, rfl, h.1, h.2.1, h.2.2⟩
    · exact h.elim
  have bin : ∀ (f : Int32 → Int32 → Int32) (K' : List x_V → Prop), x_bin f K' st → ∃ a b st0, st = .inl b :: .inl a :: st0 ∧ K' (.inl (f a b) :: st0) := by
    intro f K' h
    unfold x_bin at h
    split at h
    · exact ⟨_, _, _, rfl, h⟩
    · exact h.elim
  have div : ∀ (f : Int32 → Int32 → Int32) (K' : List x_V → Prop), x_div f K' st → ∃ a b st0, st = .inl b :: .inl a :: st0 ∧ (¬ b = 0) ∧ K' (.inl (f a b) :: st0) := by
    intro f K' h
    unfold x_div at h
    split at h
    · exact ⟨_, _, _, rfl, h.1, h.2⟩
    · exact h.elim
  cases i <;> first | exact False.elim h | skip
  all_goals simp only [x_okI, Bool.and_eq_true, beq_iff_eq, decide_eq_true_eq] at ho
  all_goals simp only [x_op] at h
  case iconst v => obtain ⟨rfl, hv⟩ := ho; intro H locs lsA hH hz hS hl; exact lv_iconst hx hb hd hv (hK _ _ _ _ _ _ h H locs lsA hH hz hS hl)
  case bipush v => obtain ⟨rfl, hv⟩ := ho; intro H locs lsA hH hz hS hl; exact lv_bipush hx hb hd hv (hK _ _ _ _ _ _ h H locs lsA hH hz hS hl)
  case sipush v => obtain ⟨rfl, hv⟩ := ho; intro H locs lsA hH hz hS hl; exact lv_sipush hx hb hd hv (hK _ _ _ _ _ _ h H locs lsA hH hz hS hl)
  case ldc k =>
    subst ho
    intro H locs lsA hH hz hS hl
    split at h
    · rename_i v hv
      have hw : Cond.constant own k v ∈ x_tbl := by
        simp only [x_okT, Bool.and_eq_true, List.all_eq_true, decide_eq_true_eq] at hT
        exact hT.1.2 _ (x_lk_mem hv)
      exact lv_ldc hx hb hown (hts _ hw) hd (hK _ _ _ _ _ _ h H locs lsA hH hz hS hl)
    · exact h.elim
  case ldc_w k =>
    subst ho
    intro H locs lsA hH hz hS hl
    split at h
    · rename_i v hv
      have hw : Cond.constant own k v ∈ x_tbl := by
        simp only [x_okT, Bool.and_eq_true, List.all_eq_true, decide_eq_true_eq] at hT
        exact hT.1.2 _ (x_lk_mem hv)
      exact lv_ldcw hx hb hown (hts _ hw) hd (hK _ _ _ _ _ _ h H locs lsA hH hz hS hl)
    · exact h.elim
  case iload_n k => subst ho; obtain ⟨x, h1, h2⟩ := ldi _ _ h; intro H locs lsA hH hz hS hl; exact lv_iload_n hx hb hd rfl (x_lv_at hl h1) (hK _ _ _ _ _ _ h2 H locs lsA hH hz hS hl)
  case iload k => subst ho; obtain ⟨x, h1, h2⟩ := ldi _ _ h; intro H locs lsA hH hz hS hl; exact lv_iload hx hb hd (x_lv_at hl h1) (hK _ _ _ _ _ _ h2 H locs lsA hH hz hS hl)
  case aload_n k =>
    subst ho
    obtain ⟨v, a, h1, e1, h2⟩ := lda _ _ h
    intro H locs lsA hH hz hS hl
    have hW := hK _ _ _ _ _ _ h2 H locs lsA hH hz hS hl
    have h3 := x_lv_at hl h1
    rw [List.map_cons, e1] at hW
    rw [e1] at h3
    exact lv_aload_n hx hb hd rfl h3 hW
  case aload k =>
    subst ho
    obtain ⟨v, a, h1, e1, h2⟩ := lda _ _ h
    intro H locs lsA hH hz hS hl
    have hW := hK _ _ _ _ _ _ h2 H locs lsA hH hz hS hl
    have h3 := x_lv_at hl h1
    rw [List.map_cons, e1] at hW
    rw [e1] at h3
    exact lv_aload hx hb hd h3 hW
  case istore_n k => obtain ⟨rfl, hkn⟩ := ho; obtain ⟨x, st0, rfl, h1, h2⟩ := sti _ _ h; intro H locs lsA hH hz hS hl; exact lv_istore_n hx hb hd rfl hl hkn rfl (fun ls' hl' => hK _ _ _ _ _ _ h2 H locs ls' hH hz hS (x_lv_sto h1 rfl hl'))
  case istore k => obtain ⟨rfl, hkn⟩ := ho; obtain ⟨x, st0, rfl, h1, h2⟩ := sti _ _ h; intro H locs lsA hH hz hS hl; exact lv_istore hx hb hd hl hkn rfl (fun ls' hl' => hK _ _ _ _ _ _ h2 H locs ls' hH hz hS (x_lv_sto h1 rfl hl'))
  case astore_n k =>
    obtain ⟨rfl, hkn⟩ := ho
    obtain ⟨r, st0, rfl, h1, hr, h2⟩ := sta _ _ h
    intro H locs lsA hH hz hS hl
    rw [List.map_cons, x_pl2 hr]
    exact lv_astore_n hx hb hd rfl hl hkn rfl (fun ls' hl' => hK _ _ _ _ _ _ h2 H locs ls' hH hz hS (x_lv_sto h1 (by rw [x_pl2 hr]) hl'))
  case astore k =>
    obtain ⟨rfl, hkn⟩ := ho
    obtain ⟨r, st0, rfl, h1, hr, h2⟩ := sta _ _ h
    intro H locs lsA hH hz hS hl
    rw [List.map_cons, x_pl2 hr]
    exact lv_astore hx hb hd hl hkn rfl (fun ls' hl' => hK _ _ _ _ _ _ h2 H locs ls' hH hz hS (x_lv_sto h1 (by rw [x_pl2 hr]) hl'))
  case iinc k d =>
    obtain ⟨⟨rfl, hkn⟩, hv⟩ := ho
    simp only [x_inc] at h
    split at h
    · rename_i x h1
      intro H locs lsA hH hz hS hl
      have hlen := (List.getElem?_eq_some_iff.mp h1).1
      exact lv_iinc hx hb hd hl (k := k) (x := x) (by simp [x_lv, h1, x_v]) (by rw [hv]) hkn rfl (fun ls' hl' => hK _ _ _ _ _ _ h H locs ls' hH hz hS (x_lv_sto (Nat.le_of_lt hlen) rfl hl'))
    · exact h.elim
  case iadd => subst ho; obtain ⟨a, b, st0, rfl, h2⟩ := bin _ _ h; intro H locs lsA hH hz hS hl; exact lv_iadd hx hb hd (hK _ _ _ _ _ _ h2 H locs lsA hH hz hS hl)
  case isub => subst ho; obtain ⟨a, b, st0, rfl, h2⟩ := bin _ _ h; intro H locs lsA hH hz hS hl; exact lv_isub hx hb hd (hK _ _ _ _ _ _ h2 H locs lsA hH hz hS hl)
  case imul => subst ho; obtain ⟨a, b, st0, rfl, h2⟩ := bin _ _ h; intro H locs lsA hH hz hS hl; exact lv_imul hx hb hd (hK _ _ _ _ _ _ h2 H locs lsA hH hz hS hl)
  case iand => subst ho; obtain ⟨a, b, st0, rfl, h2⟩ := bin _ _ h; intro H locs lsA hH hz hS hl; exact lv_iand hx hb hd (hK _ _ _ _ _ _ h2 H locs lsA hH hz hS hl)
  case ior => subst ho; obtain ⟨a, b, st0, rfl, h2⟩ := bin _ _ h; intro H locs lsA hH hz hS hl; exact lv_ior hx hb hd (hK _ _ _ _ _ _ h2 H locs lsA hH hz hS hl)
  case ixor => subst ho; obtain ⟨a, b, st0, rfl, h2⟩ := bin _ _ h; intro H locs lsA hH hz hS hl; exact lv_ixor hx hb hd (hK _ _ _ _ _ _ h2 H locs lsA hH hz hS hl)
  case ishl => subst ho; obtain ⟨a, b, st0, rfl, h2⟩ := bin _ _ h; intro H locs lsA hH hz hS hl; exact lv_ishl hx hb hd (hK _ _ _ _ _ _ h2 H locs lsA hH hz hS hl)
  case ishr => subst ho; obtain ⟨a, b, st0, rfl, h2⟩ := bin _ _ h; intro H locs lsA hH hz hS hl; exact lv_ishr hx hb hd (hK _ _ _ _ _ _ h2 H locs lsA hH hz hS hl)
  case iushr => subst ho; obtain ⟨a, b, st0, rfl, h2⟩ := bin _ _ h; intro H locs lsA hH hz hS hl; exact lv_iushr hx hb hd rfl (hK _ _ _ _ _ _ h2 H locs lsA hH hz hS hl)
  case idiv => subst ho; obtain ⟨a, b, st0, rfl, h1, h2⟩ := div _ _ h; intro H locs lsA hH hz hS hl; exact lv_idiv hx hb hd h1 (hK _ _ _ _ _ _ h2 H locs lsA hH hz hS hl)
  case irem => subst ho; obtain ⟨a, b, st0, rfl, h1, h2⟩ := div _ _ h; intro H locs lsA hH hz hS hl; exact lv_irem hx hb hd h1 (hK _ _ _ _ _ _ h2 H locs lsA hH hz hS hl)
  case ineg =>
    subst ho
    simp only [x_un] at h
    split at h
    · intro H locs lsA hH hz hS hl; exact lv_ineg hx hb hd (hK _ _ _ _ _ _ h H locs lsA hH hz hS hl)
    · exact h.elim
  case dup =>
    subst ho
    simp only [x_du1] at h
    split at h
    · intro H locs lsA hH hz hS hl; exact lv_dup hx hb hd (x_v_cat G _) (hK _ _ _ _ _ _ h H locs lsA hH hz hS hl)
    · exact h.elim
  case dup2 =>
    subst ho
    simp only [x_du2] at h
    split at h
    · intro H locs lsA hH hz hS hl; exact lv_dup2_11 hx hb hd (x_v_cat G _) (x_v_cat G _) (hK _ _ _ _ _ _ h H locs lsA hH hz hS hl)
    · exact h.elim
  case goto off => obtain ⟨rfl, ht⟩ := ho; intro H locs lsA hH hz hS hl; exact lv_goto hx hb hd (x_tgt ht) (hJ _ _ _ _ _ _ _ h H locs lsA hH hz hS hl)
  case ifCond o off =>
    obtain ⟨rfl, ht⟩ := ho
    simp only [x_if1] at h
    split at h
    · intro H locs lsA hH hz hS hl
      have kt := fun g => hJ _ _ _ _ _ _ _ (h.1 g) H locs lsA hH hz hS hl
      have kf := fun g => hK _ _ _ _ _ _ (h.2 g) H locs lsA hH hz hS hl
      cases o
      · exact lv_if_eq hx hb hd (x_tgt ht) kt kf
      · exact lv_if_ne hx hb hd (x_tgt ht) kt kf
      · exact lv_if_lt hx hb hd (x_tgt ht) kt kf
      · exact lv_if_ge hx hb hd (x_tgt ht) kt kf
      · exact lv_if_gt hx hb hd (x_tgt ht) kt kf
      · exact lv_if_le hx hb hd (x_tgt ht) kt kf
    · exact h.elim
  case if_icmp o off =>
    obtain ⟨rfl, ht⟩ := ho
    simp only [x_if2] at h
    split at h
    · intro H locs lsA hH hz hS hl
      have kt := fun g => hJ _ _ _ _ _ _ _ (h.1 g) H locs lsA hH hz hS hl
      have kf := fun g => hK _ _ _ _ _ _ (h.2 g) H locs lsA hH hz hS hl
      cases o
      · exact lv_icmp_eq hx hb hd (x_tgt ht) kt kf
      · exact lv_icmp_ne hx hb hd (x_tgt ht) kt kf
      · exact lv_icmp_lt hx hb hd (x_tgt ht) kt kf
      · exact lv_icmp_ge hx hb hd (x_tgt ht) kt kf
      · exact lv_icmp_gt hx hb hd (x_tgt ht) kt kf
      · exact lv_icmp_le hx hb hd (x_tgt ht) kt kf
    · exact h.elim
  case tableswitch d lo hi offs =>
    obtain ⟨⟨ht, hlo⟩, hall⟩ := ho
    simp only [x_sw] at h
    split at h
    · rename_i x st0
      intro H locs lsA hH hz hS hl
      by_cases hout : x.toInt < lo ∨ hi < x.toInt
      · exact lv_tableOut hx hb hd hout (x_tgt ht) (hJ _ _ _ _ _ _ _ (h.1 hout) H locs lsA hH hz hS hl)
      · have h1 : ¬ x.toInt < lo := fun g => hout (Or.inl g)
        have h2 : ¬ hi < x.toInt := fun g => hout (Or.inr g)
        have hj : (x.toInt - lo).toNat < offs.size := by omega
        have hof : offs[(x.toInt - lo).toNat]? = some offs[(x.toInt - lo).toNat] := Array.getElem?_eq_getElem hj
        have hof2 : offs.toList[(x.toInt - lo).toNat]? = some offs[(x.toInt - lo).toNat] := by rw [Array.getElem?_toList]; exact hof
        have ht2 : 0 ≤ (pc : Int) + offs[(x.toInt - lo).toNat] := by
          have := List.all_eq_true.mp hall _ (List.mem_of_getElem? hof2)
          simpa using this
        exact lv_tableIn hx hb hd h1 h2 hof (x_tgt ht2) (hJ _ _ _ _ _ _ _ (h.2 _ _ hof2 (by omega)) H locs lsA hH hz hS hl)
    · exact h.elim
  case getfield k => subst ho; exact x_s_gf E hT hK hd h
  case putfield k => subst ho; exact x_s_pf E hT hK hd h
  case getstatic k =>
    subst ho
    split at h
    · rename_i k0 hk0
      have hw : k0 < 5 ∧ Cond.fieldLink own k (x_kC k0) (x_kN k0) "[I" ∈ x_tbl := by
        simp only [x_okT, Bool.and_eq_true, List.all_eq_true] at hT
        have := hT.1.1.2 _ (x_lk_mem hk0)
        simpa only [x_okS, Bool.and_eq_true, decide_eq_true_eq] using this
      intro H locs lsA hH hz hS hl
      exact va_gets hx hb (hCc k0 hw.1).2 hS hown (hts _ hw.2) (fun _ h => h) hd (hK _ _ _ _ _ _ h H locs lsA hH hz hS hl)
    · exact h.elim
  case iaload => subst ho; exact x_s_ald E false hK hd h
  case baload => subst ho; exact x_s_ald E true hK hd h
  case aaload => subst ho; exact x_s_rld E hK hd h
  case iastore => subst ho; exact x_s_ast E false hK hd h
  case bastore => subst ho; exact x_s_ast E true hK hd h
  case arraylength => subst ho; exact x_s_aln E hK hd h
  case newarray t => subst ho; exact x_s_nwa E hR hK hd h
  case new k => subst ho; exact x_s_nwo E hT hR hK hd h
  case multianewarray k d => obtain ⟨rfl, rfl⟩ := ho; exact x_s_mna E hT hR hK hd h
  case invokestatic k => subst ho; exact x_s_inv E hR hC rfl hK hd h
  case invokevirtual k => subst ho; exact x_s_inv E hR hC rfl hK hd h
  case invokespecial k => subst ho; exact x_s_inv E hR hC rfl hK hd h
  case ireturn => subst ho; exact hZ _ _ _ _ _ _ _ _ hd h
  case areturn => subst ho; exact hZ _ _ _ _ _ _ _ _ hd h
  case return_ => subst ho; exact hZ _ _ _ _ _ _ _ _ hd h
/-- a stretch -/
theorem x_wp_ok (E : x_Env p l e R s m args below meth c cc own nL G X) (hT : x_okT own X = true) (hR : R.cells = X.2.2.2.2.2.1.1 ∧ R.slots = X.2.2.2.2.2.1.2) (hC : ∀ q ∈ X.2.2.2.2.1, x_Cal l R cc own nL q.1 q.2)
    {Z : Instr → List x_V → List x_S → x_M → Nat → Nat → Prop} (hZ : ∀ i pc ls st S M cs sl, decode cc pc = .ok (i, 1) → Z i st S M cs sl → x_Y p l e R s m args below meth c nL G Q pc ls st S M cs sl) {J : x_J}
    (hJ : ∀ pc ls st S M cs sl, J pc ls st S M cs sl → x_Y p l e R s m args below meth c nL G Q pc ls st S M cs sl) :
    ∀ (co : List (Instr × Nat)) (pc0 : Nat), x_okc cc nL pc0 co = true → ∀ ls st S M cs sl, x_wp X Z J co pc0 ls st S M cs sl → x_Y p l e R s m args below meth c nL G Q pc0 ls st S M cs sl
  | [], pc0, _, ls, st, S, M, cs, sl, h => hJ _ _ _ _ _ _ _ h
  | (i, n) :: co, pc0, ho, ls, st, S, M, cs, sl, h => by
    simp only [x_okc, Bool.and_eq_true, decide_eq_true_eq] at ho
    have ih := x_wp_ok E hT hR hC hZ hJ co (pc0 + n) ho.2
    exact x_op_ok E hT hR hC hZ (K := x_wp X Z J co) (J := J) hJ (fun ls st S M cs sl h => ih ls st S M cs sl h) ho.1.1 ho.1.2 h
end XM
end
section
theorem x_AO_moved {u U : State} (hvm : u.vm.Alike U.vm) (h : x_AO u) : x_AO U := by
  unfold x_AO Cond.before Cond.holds at h ⊢
  simp only [Cond.value, beq_iff_eq] at h ⊢
  rw [hvm.findClass] 
  cases hc : u.vm.findClass (FieldType.array .int).toString with
  | none => rw [hc] at h; simp at h
  | some comp =>
    rw [hc] at h
    simp only [Option.bind_some, Option.bind_eq_some_iff, Option.map_eq_some_iff] at h ⊢
    obtain ⟨c, hi, k, hk, hb⟩ := h
    obtain ⟨k', hk', he⟩ := hvm.2.2 _ _ hk
    refine ⟨c, ?_, k', hk', ?_⟩
    · have e1 := va_idx_bare U.vm comp
      have e2 := va_idx_bare u.vm comp
      first | rw [hvm.bare_eq] at e2 | rw [← hvm.bare_eq] at e2
      exact (e1.symm.trans e2).trans hi
    · have hkind : k'.kind = k.kind := by rw [he]
      rw [hkind, hvm.findClass]
      exact hb
theorem x_U_moved {G : x_G} {u U : State} (hvm : u.vm.Alike U.vm) (h : x_U G u) : x_U G U := ⟨h.1.moved hvm, x_AO_moved hvm h.2⟩
theorem x_C_moved {G : x_G} {u U : State} {H : Heap} (hvm : u.vm.Alike U.vm) (h : x_C G u H) : x_C G U H := fun c hc => ⟨(h c hc).1.moved hvm, (h c hc).2.moved hvm⟩
theorem x_C_kept {G : x_G} {U : State} {H H1 : Heap} (h : x_C G U H) (hq : ∀ a : Nat, a < H.size → ¬ x_A G a → H1[a]? = H[a]?) : x_C G U H1 := fun c hc => ⟨(h c hc).1.kept hq, (h c hc).2.kept hq⟩
theorem x_I_moved {G : x_G} {S : List x_S} {M : x_M} {u U : State} (hvm : u.vm.Alike U.vm) (hh : U.heap = u.heap) (h : x_I G S M u) : x_I G S M U :=
  ⟨x_U_moved hvm h.1, by rw [hh]; exact x_C_moved hvm h.2.1, by rw [hh]; exact h.2.2.1, by rw [hh]; exact h.2.2.2⟩
theorem x_blind (G : x_G) (S : List x_S) (M : x_M) (av : List Value) : FrameBlind (va_Pc av (x_I G S M)) := fun a U g mk h => ⟨h.1, x_I_moved (u := U) (U := U.calling g mk a) (Vm.Alike.refl U.vm) rfl h.2⟩
section XG
variable {p : Program} {l : Launch} {e : Env} {R : Room} {s : State} {m : MethodId} {args : Array Value} {below : List Frame} {meth : Method} {c : Code} {cc : ByteArray} {own : String} {nL : Nat} {G : x_G} {X : x_X} {Q : State → Prop}
theorem x_Y_take {pc : Nat} {ls st : List x_V} {S : List x_S} {M : x_M} {cs sl : Nat} (n : Nat) (h : x_Y p l e R s m args below meth c nL G Q pc (ls.take n) st S M cs sl) : x_Y p l e R s m args below meth c nL G Q pc ls st S M cs sl := fun H locs lsA hH hz hS hl => h H locs lsA hH hz hS (x_lv_take n hl)
theorem x_go_ok (E : x_Env p l e R s m args below meth c cc own nL G X) (hT : x_okT own X = true) (hR : R.cells = X.2.2.2.2.2.1.1 ∧ R.slots = X.2.2.2.2.2.1.2) (hC : ∀ q ∈ X.2.2.2.2.1, x_Cal l R cc own nL q.1 q.2)
    {Z : Instr → List x_V → List x_S → x_M → Nat → Nat → Prop} (hZ : ∀ i pc ls st S M cs sl, decode cc pc = .ok (i, 1) → Z i st S M cs sl → x_Y p l e R s m args below meth c nL G Q pc ls st S M cs sl)
    {bl : x_B} (hB : x_okB cc nL bl = true) {cut : List Nat} {I : x_J} (hI : ∀ pc ls st S M cs sl, I pc ls st S M cs sl → x_Y p l e R s m args below meth c nL G Q pc ls st S M cs sl) :
    ∀ (f : Nat) pc ls st S M cs sl, x_go X Z bl cut I f pc ls st S M cs sl → x_Y p l e R s m args below meth c nL G Q pc ls st S M cs sl
  | 0, pc, ls, st, S, M, cs, sl, h => by
    unfold x_go at h
    split at h
    · rename_i q hq
      split at h
      · exact x_Y_take _ (hI _ _ _ _ _ _ _ h)
      · exact h.elim
    · exact h.elim
  | f + 1, pc, ls, st, S, M, cs, sl, h => by
    unfold x_go at h
    split at h
    · rename_i q hq
      split at h
      · exact x_Y_take _ (hI _ _ _ _ _ _ _ h)
      · have hok : x_okc cc nL pc q.2 = true := List.all_eq_true.mp hB _ (x_lk_mem hq)
        exact x_Y_take _ (x_wp_ok E hT hR hC hZ (x_go_ok E hT hR hC hZ hB hI f) q.2 pc hok _ _ _ _ _ _ h)
    · exact h.elim
end XG
/-- a method's end -/
def x_Z (ret : Option FieldType) (q : x_K) (as : List x_V) (S : List x_S) (M : x_M) (i : Instr) (st : List x_V) (S' : List x_S) (M' : x_M) (cs sl : Nat) : Prop := match i, st with
  | .ireturn, [.inl v] => (ret = some .int ∨ (ret = some .boolean ∧ (v = 0 ∨ v = 1))) ∧ cs = q.2.2.2.1 ∧ sl ≤ q.2.2.2.2 ∧ q.2.2.1 as S M (some (.inl v)) S' M'
  | .areturn, [.inr (.inl r)] => (∃ n, ret = some (.object n)) ∧ r < 1000 ∧ cs = q.2.2.2.1 ∧ sl ≤ q.2.2.2.2 ∧ q.2.2.1 as S M (some (.inr (.inl r))) S' M'
  | .return_, [] => ret = none ∧ cs = q.2.2.2.1 ∧ sl ≤ q.2.2.2.2 ∧ q.2.2.1 as S M none S' M'
  | _, _ => False
theorem x_args_mem (G : x_G) : ∀ (as : List x_V) (i : Nat) (k : Nat) (v : x_V), as[k]? = some v → (i + k, x_v G v) ∈ lv_args i (as.map (x_v G))
  | [], i, k, v, h => by simp at h
  | a :: as, i, k, v, h => by
    rw [List.map_cons]
    unfold lv_args
    rw [if_neg (by rw [x_v_cat]; decide)]
    cases k with
    | zero =>
      simp at h
      subst h
      exact List.mem_cons_self
    | succ k =>
      rw [List.getElem?_cons_succ] at h
      have := x_args_mem G as (i + 1) k v h
      rw [show i + (k + 1) = i + 1 + k by omega]
      exact List.mem_cons_of_mem _ this
theorem x_sl_len (G : x_G) : ∀ as : List x_V, (lg_sl (as.map (x_v G))).length = as.length
  | [] => rfl
  | a :: as => by
    have := x_sl_len G as
    simp only [lg_sl, List.map_cons, List.flatMap_cons, x_v_cat] at this ⊢
    simp [this]
/-- THE METHOD THEOREM: the entry, and every cut, with a number that falls -/
theorem x_meth {l : Launch} {y : MethodName} {cc : ByteArray} {maxL : Nat} {ret : Option FieldType} {h : Nat} {q : x_K} {own : String} {X : x_X} {bl : x_B} {cut : List Nat} (F : Nat)
    (hy : plainName y.cls = true) (ho : y.cls = own) (hT : x_okT own X = true) (hB : x_okB cc maxL bl = true) (hX : X.2.2.2.2.2 = ((q.2.2.2.1, q.2.2.2.2), x_kn, x_kf, 5, decide (y.name = "<init>"))) (hn : q.1 ≤ maxL)
    (hC : ∀ z ∈ X.2.2.2.2.1, x_Cal l (x_rm h q.2.2.2.1 q.2.2.2.2) cc own maxL z.1 z.2)
    (hm : ∀ as S M, as.length = q.1 → q.2.1 as S M → ∃ I : Nat → x_J, x_go X (x_Z ret q as S M) bl cut (fun pc ls st S' M' cs sl => ∃ μ, I μ pc ls st S' M' cs sl) F 0 as [] S M 0 0 ∧
      ∀ μ pc ls st S' M' cs sl, I μ pc ls st S' M' cs sl → ∃ b, x_lk bl pc = some b ∧ x_wp X (x_Z ret q as S M) (x_go X (x_Z ret q as S M) bl cut (fun pc ls st S' M' cs sl => ∃ μ', μ' < μ ∧ I μ' pc ls st S' M' cs sl) F) b.2 pc ls st S' M' cs sl) :
    x_CT l y cc maxL ret h q := by
  intro G as S M hlen hpre
  obtain ⟨I, h0, h1⟩ := hm as S M hlen hpre
  refine Met.ofW (cc := cc) (maxL := maxL) (ret := ret) hy rfl ?_
  intro p e s m args below meth c s₁ B hml hv
  obtain ⟨rfl, hU, hCc, hH, hsz⟩ := hv
  have hts := atoms_spec (ws := Cond.code y cc maxL ret :: x_tbl) B.pre
  have hown : s.vm.findClass own = some m.cls := by rw [← ho]; exact findClass_of_methodNamed B.named
  have hr := B.returns
  have hlocks := B.notSynchronized
  have E : x_Env p l e (x_rm h q.2.2.2.1 q.2.2.2.2) s m (as.map (x_v G)).toArray below meth c cc own maxL G X := by
    refine ⟨B.exec, B.bytes, hml, hown, fun w hw => hts w (List.mem_cons_of_mem _ hw), hU, hCc, ?_, by omega, ?_⟩
    · rw [hX]
      exact fun k hk => (hCc k hk).1
    · rw [hX]
      intro hi
      rw [(name_of_methodNamed B.named B.method).1]
      exact of_decide_eq_true hi
  have hR : (x_rm h q.2.2.2.1 q.2.2.2.2).cells = X.2.2.2.2.2.1.1 ∧ (x_rm h q.2.2.2.1 q.2.2.2.2).slots = X.2.2.2.2.2.1.2 := by
    rw [hX]
    exact ⟨rfl, rfl⟩
  have hZ : ∀ i pc ls st S' M' cs sl, decode cc pc = .ok (i, 1) → x_Z ret q as S M i st S' M' cs sl → x_Y p l e (x_rm h q.2.2.2.1 q.2.2.2.2) s m (as.map (x_v G)).toArray below meth c maxL G (MQ below (x_Qc G q as S M) (as.map (x_v G)).toArray s q.2.2.2.1 q.2.2.2.2 (x_A G)) pc ls st S' M' cs sl := by
    intro i pc ls st S' M' cs sl hd hz H locs lsA hH' hzz hS hl
    have hend : ∀ r : Option x_V, cs = q.2.2.2.1 → q.2.2.1 as S M r S' M' → ∀ t : State, t.heap = H → s.WarmedH t.vm → x_Qc G q as S M (as.map (x_v G)).toArray s (.returned (r.map (x_v G))) t :=
      fun r hcs hp t ht _ => ⟨r, S', M', rfl, hp, by rw [ht]; exact hH', by omega, hS.F ht⟩
    unfold x_Z at hz
    split at hz
    · rename_i v
      obtain ⟨hret, hcs, hsl, hp⟩ := hz
      refine W.widen (k := q.2.2.2.1) (n := q.2.2.2.2) (by omega) hsl ?_
      rcases hret with hret | ⟨hret, hv⟩
      · rw [hret] at hr
        exact W.iret (v := v) B.exec B.bytes hr (hend (some (.inl v)) hcs hp) hS.2.2 hd
      · rw [hret] at hr
        exact W.zret (v := v) (ty := .boolean) B.exec B.bytes hr (by rcases hv with rfl | rfl <;> rfl) (hend (some (.inl v)) hcs hp) hS.2.2 hd
    · rename_i r
      obtain ⟨⟨n, hret⟩, hr1, hcs, hsl, hp⟩ := hz
      refine W.widen (k := q.2.2.2.1) (n := q.2.2.2.2) (by omega) hsl ?_
      rw [hret] at hr
      exact W.aret (v := x_v G (.inr (.inl r))) B.exec B.bytes hr (Or.inl ⟨n, rfl⟩) (Or.inr ⟨_, x_pl2 hr1⟩) (hend (some (.inr (.inl r))) hcs hp) hS.2.2 hd
    · obtain ⟨hret, hcs, hsl, hp⟩ := hz
      refine W.widen (k := q.2.2.2.1) (n := q.2.2.2.2) (by omega) hsl ?_
      rw [hret] at hr
      exact W.vret B.exec B.bytes hr (hend none hcs hp) hS.2.2 hd
    · exact hz.elim
  have hI : ∀ μ pc ls st S' M' cs sl, I μ pc ls st S' M' cs sl → x_Y p l e (x_rm h q.2.2.2.1 q.2.2.2.2) s m (as.map (x_v G)).toArray below meth c maxL G (MQ below (x_Qc G q as S M) (as.map (x_v G)).toArray s q.2.2.2.1 q.2.2.2.2 (x_A G)) pc ls st S' M' cs sl := by
    intro μ
    induction μ using Nat.strongRecOn with
    | _ μ ih =>
      intro pc ls st S' M' cs sl hi
      obtain ⟨b, hb1, hb2⟩ := h1 μ pc ls st S' M' cs sl hi
      have hok : x_okc cc maxL pc b.2 = true := List.all_eq_true.mp hB _ (x_lk_mem hb1)
      exact x_wp_ok E hT hR hC hZ (x_go_ok E hT hR hC hZ hB (fun pc ls st S M cs sl hh => by obtain ⟨μ', hlt, hi'⟩ := hh; exact ih μ' hlt _ _ _ _ _ _ _ hi') F) b.2 pc hok _ _ _ _ _ _ hb2
  have hgo := x_go_ok E hT hR hC hZ hB (fun pc ls st S M cs sl hh => by obtain ⟨μ', hi'⟩ := hh; exact hI μ' _ _ _ _ _ _ _ hi') F 0 as [] S M 0 0 h0
  rw [lg_entry_eq]
  refine hgo s.heap [] _ hH (by omega) va_S.rf ?_
  have hl := lv_entry (as.map (x_v G)) (n := maxL) (by rw [x_sl_len]; omega)
  refine ⟨hl.1, hl.2.1, fun z hz => hl.2.2 z ?_⟩
  obtain ⟨v, hv1, hv2⟩ := x_lv_mem.mp hz
  have := x_args_mem G as 0 z.1 v hv1
  rw [Nat.zero_add, ← hv2] at this
  exact this
end
section
section XC
variable {l : Launch} {R : Room} {cc : ByteArray} {own : String} {nL : Nat}
theorem x_key_S {i : Instr} {idx : Nat} (h : x_key i = some (3 * idx)) : i = .invokestatic idx := by
  unfold x_key at h
  split at h
  · rename_i k
    have := Option.some.inj h
    rw [show k = idx by omega]
  · have := Option.some.inj h; omega
  · have := Option.some.inj h; omega
  · cases h
theorem x_key_V {i : Instr} {idx : Nat} (h : x_key i = some (3 * idx + 1)) : i = .invokevirtual idx := by
  unfold x_key at h
  split at h
  · have := Option.some.inj h; omega
  · rename_i k
    have := Option.some.inj h
    rw [show k = idx by omega]
  · have := Option.some.inj h; omega
  · cases h
theorem x_key_I {i : Instr} {idx : Nat} (h : x_key i = some (3 * idx + 2)) : i = .invokespecial idx := by
  unfold x_key at h
  split at h
  · have := Option.some.inj h; omega
  · have := Option.some.inj h; omega
  · rename_i k
    have := Option.some.inj h
    rw [show k = idx by omega]
  · cases h
theorem x_rest8 (G : x_G) : ∀ rest : List x_V, ((rest.map (x_v G)).map fun v => v.category).sum = rest.length
  | [] => rfl
  | a :: r => by
    simp only [List.map_cons, List.sum_cons, List.length_cons, x_v_cat, x_rest8 G r]
    omega
theorem x_goodIn {ws : List Cond} (h : ∀ w ∈ ws, w ∈ x_tbl) : GoodIn x_tbl ws := fun w hw => ⟨h w hw, good_of_word (List.mem_filter.mp (h w hw)).2⟩
/-- what a run of a callee gives -/
theorem x_after {p : Program} {e : Env} {s : State} {m : MethodId} {args : Array Value} {below : List Frame} {meth : Method} {c : Code} {G : x_G} {q : x_K} {as rest : List x_V} {S : List x_S} {M : x_M} {cs sl : Nat} {H : Heap} {locs : List Loc} {lsA : Array Slot} {Q : State → Prop} {pc : Nat} {st0 : List Value} {av : Array Value}
    (run : va_Run p l e R s m args below meth c H locs cs sl q.2.2.2.1 q.2.2.2.2 (F0 m pc lsA st0) (rest.map (x_v G)) (x_Qc G q as S M av) (x_A G)) (hS : va_S (x_A G) s.heap H locs)
    (kk : ∀ (r : Option x_V) (S' : List x_S) (M' : x_M) (H' : Heap) (locs' : List Loc), q.2.2.1 as S M r S' M' → x_H G S' M' H' → S'.length = S.length + q.2.2.2.1 → va_S (x_A G) s.heap H' locs' → W p l e R s m args below meth c H' locs' (cs + q.2.2.2.1) (sl + q.2.2.2.2) Q (F0 m (pc + 3) lsA ((r.toList ++ rest).map (x_v G)))) :
    W p l e R s m args below meth c H locs cs sl Q (F0 m pc lsA st0) := by
  intro T hT X
  obtain ⟨v, st₀, t, T', L, h0, X', hL, e1, e2, ⟨r, S', M', ho, hp, hH', hlen, hz, hk⟩, st⟩ := run T hT X
  cases ho
  rw [h0] at hz hk
  have hS' : va_S (x_A G) s.heap T'.heap (locs ++ L) := ⟨Nat.le_trans hS.1 (by rw [e1]; exact hz), fun q h1 h2 => by rw [e1, hk q (Nat.lt_of_lt_of_le h1 hS.1) h2]; exact hS.2.1 q h1 h2, fun q hq => by
    rcases List.mem_append.mp hq with h | h
    · exact hS.2.2 q h
    · exact hL q h⟩
  obtain ⟨t2, a1, b1⟩ := kk r S' M' T'.heap (locs ++ L) hp (by rw [e1]; exact hH') hlen hS' T' rfl X'
  refine ⟨t2, st t2 ?_, b1⟩
  have es : (r.toList ++ rest).map (x_v G) = (r.map (x_v G)).toList ++ rest.map (x_v G) := by cases r <;> simp
  rw [es] at a1
  exact a1
theorem x_start {p : Program} {e : Env} {s : State} {m : MethodId} {args : Array Value} {below : List Frame} {meth : Method} {c : Code} {G : x_G} {X : x_X} (E : x_Env p l e R s m args below meth c cc own nL G X) {S : List x_S} {M : x_M} {H : Heap} {locs : List Loc} (hH : x_H G S M H) (hsz : H.size = x_ad G S.length) (hS : va_S (x_A G) s.heap H locs) :
    ∀ U : State, U.heap = H → s.WarmedH U.vm → x_I G S M U := by
  intro U hU hW
  obtain ⟨hx, hb, hml, hown, hts, hUU, hC, hk, ha0, hini⟩ := E
  exact ⟨x_U_moved hW.alike hUU, by rw [hU]; exact x_C_moved hW.alike (x_C_kept hC (fun a h1 h2 => hS.2.1 a h1 h2)), by rw [hU]; exact hH, by rw [hU]; exact hsz⟩
/-- a static method -/
theorem x_cal_S {y : MethodName} {cy : ByteArray} {maxL h idx : Nat} {ret : Option FieldType} {q : x_K} (hM : x_CT l y cy maxL ret h q) (hR : h + 1 ≤ R.frames ∧ 8 + (maxL + 11) + 40 * h ≤ R.locals)
    (w1 : Cond.methodLink own idx y ∈ x_tbl) (w2 : Cond.static y ∈ x_tbl) (w3 : Cond.initialized y.cls ∈ x_tbl) (w4 : Cond.code y cy maxL ret ∈ x_tbl)
    (hd : y.cls ≠ "java/lang/invoke/MethodHandle" ∧ y.cls ≠ "java/lang/invoke/VarHandle" ∧ (parseMethodDescriptor y.desc).map (fun d => d.parameters.length) = some q.1) : x_Cal l R cc own nL (3 * idx) q := by
  intro p e s m args below meth c G X E Q i pc as rest S M cs sl H locs lsA hi hdg hlen hrest hpre hcs hsl hH hz hS hls kk T hT Xs
  have hsz := x_size E hH hz hS hT Xs
  have E' := E
  obtain ⟨hx, hb, hml, hown, hts, hUU, hC, hk, ha0, hini⟩ := E'
  have hi' : i = .invokestatic idx := x_key_S hi
  subst hi'
  have hG : GoodIn x_tbl (va_wsS own idx y (Cond.code y cy maxL ret :: x_tbl)) := x_goodIn (fun w hw => by
    simp only [va_wsS, List.mem_append, List.mem_cons, List.not_mem_nil, or_false] at hw
    rcases hw with (rfl | rfl | rfl) | rfl | hw <;> assumption)
  have run := va_runS (rest := rest.map (x_v G)) (g := F0 m pc lsA ((as.reverse ++ rest).map (x_v G))) (cells := cs) (slots := sl) (locs := locs) (H := H) (e := e) (below := below) (meth := meth) ⟨hx, hb, hml, hown, hts⟩ (hM G as S M hlen hpre) (va_cwS (R := R) q.1 hts hG rfl rfl rfl hd hR) ⟨x_blind G S M _, fun U hU hW => ⟨rfl, x_start E hH hsz hS U hU hW⟩⟩ rfl (by rw [List.length_map]; exact hlen) hls (by simp) (lv_room (by rw [x_rest8]; exact hrest)) hdg ⟨hcs, hsl⟩
  exact x_after run hS kk T hT Xs
/-- a method of an object -/
theorem x_cal_V {y : MethodName} {cy : ByteArray} {maxL h idx : Nat} {ret : Option FieldType} {q : x_K} {ci n : Nat} {r0 : vw_C} (hM : x_CT l y cy maxL ret h q) (hR : h + 1 ≤ R.frames ∧ 8 + (maxL + 11) + 40 * h ≤ R.locals)
    (w1 : Cond.methodLink own idx y ∈ x_tbl) (w2 : Cond.instanceMethod y ∈ x_tbl) (w5 : Cond.selects y.cls y y ∈ x_tbl) (w3 : Cond.initialized y.cls ∈ x_tbl) (w4 : Cond.code y cy maxL ret ∈ x_tbl) (hcl : x_cl[ci]? = some r0) (hrc : r0.1 = y.cls) (hn : q.1 = n + 1)
    (hd : y.cls ≠ "java/lang/invoke/MethodHandle" ∧ y.cls ≠ "java/lang/invoke/VarHandle" ∧ (parseMethodDescriptor y.desc).map (fun d => d.parameters.length) = some n)
    (hrecv : ∀ as S M, q.2.1 as S M → ∃ (k : Nat) (as' : List x_V) (fs : List (Option Nat)), as = .inr (.inl k) :: as' ∧ S[k]? = some (.inl (ci, fs))) : x_Cal l R cc own nL (3 * idx + 1) q := by
  intro p e s m args below meth c G X E Q i pc as rest S M cs sl H locs lsA hi hdg hlen hrest hpre hcs hsl hH hz hS hls kk T hT Xs
  have hsz := x_size E hH hz hS hT Xs
  have E' := E
  obtain ⟨hx, hb, hml, hown, hts, hUU, hC, hk, ha0, hini⟩ := E'
  have hi' : i = .invokevirtual idx := x_key_V hi
  subst hi'
  obtain ⟨k, as', fs, rfl, hk1⟩ := hrecv as S M hpre
  have hMM := hM G _ S M hlen hpre
  have hG : GoodIn x_tbl (wsV own idx y.cls y (Cond.code y cy maxL ret :: x_tbl)) := x_goodIn (fun w hw => by
    simp only [wsV, List.mem_append, List.mem_cons, List.not_mem_nil, or_false] at hw
    rcases hw with (rfl | rfl | rfl | rfl) | rfl | hw <;> assumption)
  have hst : ((Sum.inr (Sum.inl k) :: as').reverse ++ rest).map (x_v G) = (as'.map (x_v G)).reverse ++ .ref (x_ad G k) :: rest.map (x_v G) := by
    simp [x_pl hH hk1]
  have hrec : ∃ cellB : Cell, H[x_ad G k]? = some cellB ∧ cellB.vm.isStatics = false ∧ s.vm.findClass y.cls = some cellB.cls := by
    rw [← hrc]
    exact va_recv hUU.1 hH.1 hcl (x_ws_get hk1)
  have ea : (List.map (x_v G) (Sum.inr (Sum.inl k) :: as')) = .ref (x_ad G k) :: as'.map (x_v G) := by rw [List.map_cons, x_pl hH hk1]
  rw [ea] at hMM
  have run := va_runV (b := x_ad G k) (As := as'.map (x_v G)) (rest := rest.map (x_v G)) (g := F0 m pc lsA (((Sum.inr (Sum.inl k) :: as').reverse ++ rest).map (x_v G))) (cells := cs) (slots := sl) (locs := locs) (H := H) (e := e) (below := below) (meth := meth) ⟨hx, hb, hml, hown, hts⟩ hMM (cwV (R := R) n hts hG rfl rfl rfl ⟨rfl, hd⟩ hR) ⟨x_blind G S M _, hrec, fun U hU hW => ⟨rfl, x_start E hH hsz hS U hU hW⟩⟩ rfl (by rw [List.length_map]; simp at hlen; omega) hls hst (lv_room (by rw [x_rest8]; exact hrest)) hdg ⟨hcs, hsl⟩
  exact x_after run hS kk T hT Xs
/-- a constructor -/
theorem x_cal_I {y : MethodName} {cy : ByteArray} {maxL h idx : Nat} {q : x_K} {n : Nat} (hM : x_CT l y cy maxL none h q) (hR : h + 1 ≤ R.frames ∧ 8 + (maxL + 11) + 40 * h ≤ R.locals)
    (w1 : Cond.methodLink own idx y ∈ x_tbl) (w2 : Cond.instanceMethod y ∈ x_tbl) (w3 : Cond.initialized y.cls ∈ x_tbl) (w4 : Cond.code y cy maxL none ∈ x_tbl) (hy1 : y.name = "<init>") (hn : q.1 = n + 1)
    (hd : y.cls ≠ "java/lang/invoke/MethodHandle" ∧ y.cls ≠ "java/lang/invoke/VarHandle" ∧ (parseMethodDescriptor y.desc).map (fun d => d.parameters.length) = some n)
    (hrecv : ∀ as S M, q.2.1 as S M → ∃ (k : Nat) (as' : List x_V), as = .inr (.inl k) :: as' ∧ k < 1000) : x_Cal l R cc own nL (3 * idx + 2) q := by
  intro p e s m args below meth c G X E Q i pc as rest S M cs sl H locs lsA hi hdg hlen hrest hpre hcs hsl hH hz hS hls kk T hT Xs
  have hsz := x_size E hH hz hS hT Xs
  have E' := E
  obtain ⟨hx, hb, hml, hown, hts, hUU, hC, hk, ha0, hini⟩ := E'
  have hi' : i = .invokespecial idx := x_key_I hi
  subst hi'
  obtain ⟨k, as', rfl, hk1⟩ := hrecv as S M hpre
  have hMM := hM G _ S M hlen hpre
  have hG : GoodIn x_tbl (Cond.code y cy maxL none :: x_tbl) := x_goodIn (fun w hw => by
    simp only [List.mem_cons] at hw
    rcases hw with rfl | hw <;> assumption)
  have hst : ((Sum.inr (Sum.inl k) :: as').reverse ++ rest).map (x_v G) = (as'.map (x_v G)).reverse ++ .ref (x_ad G k) :: rest.map (x_v G) := by
    simp [x_pl2 hk1]
  have ea : (List.map (x_v G) (Sum.inr (Sum.inl k) :: as')) = .ref (x_ad G k) :: as'.map (x_v G) := by rw [List.map_cons, x_pl2 hk1]
  rw [ea] at hMM
  have run := va_runI (b := x_ad G k) (As := as'.map (x_v G)) (rest := rest.map (x_v G)) (g := F0 m pc lsA (((Sum.inr (Sum.inl k) :: as').reverse ++ rest).map (x_v G))) (cells := cs) (slots := sl) (locs := locs) (H := H) (e := e) (below := below) (meth := meth) ⟨hx, hb, hml, hown, hts⟩ hMM (cwI (R := R) n hts hG rfl rfl rfl (hts _ w3) (hts _ w1) (hts _ w2) hy1 hd hR) ⟨x_blind G S M _, fun U hU hW => ⟨rfl, x_start E hH hsz hS U hU hW⟩⟩ rfl (by rw [List.length_map]; simp at hlen; omega) hls hst (lv_room (by rw [x_rest8]; exact hrest)) hdg ⟨hcs, hsl⟩
  exact x_after run hS kk T hT Xs
/-- Object() -/
def x_qO : x_K := (1, fun as _ _ => ∃ k, k < 1000 ∧ as = [.inr (.inl k)], fun _ S M r S' M' => r = none ∧ S' = S ∧ M' = M, 0, 0)
theorem x_cal_O {idx : Nat} (hR : 1 ≤ R.frames ∧ 40 ≤ R.locals) (w1 : Cond.methodLink own idx Lib.objectInit ∈ x_tbl) (w2 : Cond.instanceMethod Lib.objectInit ∈ x_tbl) (w3 : Cond.code Lib.objectInit ⟨#[0xb1]⟩ 1 none ∈ x_tbl) : x_Cal l R cc own nL (3 * idx + 2) x_qO := by
  intro p e s m args below meth c G X E Q i pc as rest S M cs sl H locs lsA hi hdg hlen hrest hpre hcs hsl hH hz hS hls kk
  have E' := E
  obtain ⟨hx, hb, hml, hown, hts, hUU, hC, hk, ha0, hini⟩ := E'
  have hi' : i = .invokespecial idx := x_key_I hi
  subst hi'
  obtain ⟨k, hk1, rfl⟩ := hpre
  have hst : (([Sum.inr (Sum.inl k)] : List x_V).reverse ++ rest).map (x_v G) = .ref (x_ad G k) :: rest.map (x_v G) := by
    simp [x_pl2 hk1]
  rw [hst]
  exact W.objInit hx hb hown (hts _ w1) (hts _ w2) (hts _ w3) rfl (hls.trans hml.symm) rfl hdg hR.1 (by rw [x_rest8]; show 2 * 0 + _ + 12 ≤ _; omega) (kk none S M H locs ⟨rfl, rfl, rfl⟩ hH rfl hS)
/-- System.arraycopy of two nets -/
def x_cp (f g : Nat → Int32) (n : Nat) : Nat → Int32 := fun k => if k < n then f k else g k
def x_qC : x_K := (5, fun as S _ => ∃ a b, as = [.inr (.inl a), .inl (nI 0), .inr (.inl b), .inl (nI 0), .inl (nI 36)] ∧ S[a]? = some (.inr (.inl (false, 36))) ∧ S[b]? = some (.inr (.inl (false, 36))),
  fun as S M r S' M' => r = none ∧ S' = S ∧ ∀ a b, as = [.inr (.inl a), .inl (nI 0), .inr (.inl b), .inl (nI 0), .inl (nI 36)] → M' = x_row M b (x_cp (M a) (M b) 36), 0, 0)
theorem x_cal_C {idx : Nat} (hR : 1 ≤ R.frames ∧ 40 ≤ R.locals) (w1 : Cond.methodLink own idx arraycopyName ∈ x_tbl) (w2 : Cond.native arraycopyName ∈ x_tbl) (w3 : Cond.static arraycopyName ∈ x_tbl) (w4 : Cond.initialized "java/lang/System" ∈ x_tbl) : x_Cal l R cc own nL (3 * idx) x_qC := by
  intro p e s m args below meth c G X E Q i pc as rest S M cs sl H locs lsA hi hdg hlen hrest hpre hcs hsl hH hz hS hls kk
  have E' := E
  obtain ⟨hx, hb, hml, hown, hts, hUU, hC, hk, ha0, hini⟩ := E'
  have hi' : i = .invokestatic idx := x_key_S hi
  subst hi'
  obtain ⟨a, b, rfl, h1, h2⟩ := hpre
  have hst : (([.inr (.inl a), .inl (nI 0), .inr (.inl b), .inl (nI 0), .inl (nI 36)] : List x_V).reverse ++ rest).map (x_v G) = .int (nI 36) :: .int (nI 0) :: .ref (x_ad G b) :: .int (nI 0) :: .ref (x_ad G a) :: rest.map (x_v G) := by
    have ha := x_pl hH h1
    have hb2 := x_pl hH h2
    simp only [List.reverse_cons, List.reverse_nil, List.nil_append, List.cons_append, List.map_cons, ha, hb2]
    rfl
  rw [hst]
  have e36 : (nI 36).toNatClampNeg = 36 := by decide
  have e0 : (nI 0).toNatClampNeg = 0 := by decide
  have hsum := x_rest8 G rest
  have hnat : nativeFrameWords "java/lang/System" "arraycopy" 5 ≤ 20 := by decide +kernel
  refine va_copyi (rest := rest.map (x_v G)) hx hb (hml.trans hls.symm) hown (hts _ w1) (hts _ w2) (hts _ w3) (hts _ w4) hUU.1 hH.1 (x_ws_D G S M) hS a b 0 0 (x_ws_get h1) (x_ws_get h2) rfl rfl rfl (sp := nI 0) (dp := nI 0) (n := nI 36) (by decide) (by decide) (by decide) (by rw [e36, e0]; decide) (by rw [e36, e0]; decide) (fun i _ => rfl) hR.1 (by rw [hsum]; omega) hdg (fun H1 locs1 hP1 _ hS1 => ?_)
  refine kk none S (x_row M b (x_cp (M a) (M b) 36)) H1 locs1 ⟨rfl, rfl, fun a' b' e1 => ?_⟩ (x_H_row hH h2 ?_) rfl hS1
  · simp at e1
    rw [e1.1, e1.2]
  · have ec : va_cpy (M a) (M b) (nI 0).toNatClampNeg (nI 0).toNatClampNeg (nI 36).toNatClampNeg = x_cp (M a) (M b) 36 := by
      rw [e36, e0]
      funext k
      simp [va_cpy, x_cp]
    rw [ec] at hP1
    exact hP1
end XC
end
section
/-! THE STEPS, BY ROWS: a goal 'x_wp .. (i :: c) ..' out of the goal behind i -/
section XT
variable {X : x_X} {Z : Instr → List x_V → List x_S → x_M → Nat → Nat → Prop} {J : x_J} {c : List (Instr × Nat)} {pc n : Nat} {ls st : List x_V} {S : List x_S} {M : x_M} {cs sl : Nat}
theorem xt_ic {k : Nat} (h : x_wp X Z J c (pc + n) ls (.inl (nI (OfNat.ofNat k)) :: st) S M cs sl) : x_wp X Z J ((.iconst (@OfNat.ofNat Int k instOfNat), n) :: c) pc ls st S M cs sl := by
  have e : x_q (@OfNat.ofNat Int k instOfNat) = nI (OfNat.ofNat k) := by
    show x_q (Int.ofNat k) = nI k
    simp [x_q]
  show x_wp X Z J c (pc + n) ls (.inl (x_q (@OfNat.ofNat Int k instOfNat)) :: st) S M cs sl
  rw [e]; exact h
theorem xt_bi {k : Nat} (h : x_wp X Z J c (pc + n) ls (.inl (nI (OfNat.ofNat k)) :: st) S M cs sl) : x_wp X Z J ((.bipush (@OfNat.ofNat Int k instOfNat), n) :: c) pc ls st S M cs sl := xt_ic h
theorem xt_si {k : Nat} (h : x_wp X Z J c (pc + n) ls (.inl (nI (OfNat.ofNat k)) :: st) S M cs sl) : x_wp X Z J ((.sipush (@OfNat.ofNat Int k instOfNat), n) :: c) pc ls st S M cs sl := xt_ic h
theorem x_q_neg {k : Nat} (hk : 0 < k) : x_q (-(@OfNat.ofNat Int k instOfNat)) = -(nI (OfNat.ofNat k)) := by
  have h0 : ¬ (0 : Int) ≤ -(Int.ofNat k) := by
    simp; omega
  show (if (0 : Int) ≤ -(Int.ofNat k) then nI (-(Int.ofNat k)).toNat else -(nI (- -(Int.ofNat k)).toNat)) = -(nI k)
  rw [if_neg h0]
  simp
theorem xt_icm {k : Nat} (hk : Nat.blt 0 k = true) (h : x_wp X Z J c (pc + n) ls (.inl (-(nI (OfNat.ofNat k))) :: st) S M cs sl) : x_wp X Z J ((.iconst (-(@OfNat.ofNat Int k instOfNat)), n) :: c) pc ls st S M cs sl := by
  show x_wp X Z J c (pc + n) ls (.inl (x_q (-(@OfNat.ofNat Int k instOfNat))) :: st) S M cs sl
  rw [x_q_neg (Nat.blt_eq.mp hk)]; exact h
theorem xt_bim {k : Nat} (hk : Nat.blt 0 k = true) (h : x_wp X Z J c (pc + n) ls (.inl (-(nI (OfNat.ofNat k))) :: st) S M cs sl) : x_wp X Z J ((.bipush (-(@OfNat.ofNat Int k instOfNat)), n) :: c) pc ls st S M cs sl := xt_icm hk h
theorem xt_ldc {k : Nat} {v : Int32} (e : x_lk X.2.2.1 k = some v) (h : x_wp X Z J c (pc + n) ls (.inl v :: st) S M cs sl) : x_wp X Z J ((.ldc k, n) :: c) pc ls st S M cs sl := by
  show (match x_lk X.2.2.1 k with | some v => x_wp X Z J c (pc + n) ls (.inl v :: st) S M cs sl | none => False)
  rw [e]; exact h
theorem xt_ldw {k : Nat} {v : Int32} (e : x_lk X.2.2.1 k = some v) (h : x_wp X Z J c (pc + n) ls (.inl v :: st) S M cs sl) : x_wp X Z J ((.ldc_w k, n) :: c) pc ls st S M cs sl := xt_ldc e h
theorem xt_ild {k : Nat} {x : Int32} (e : ls[k]? = some (.inl x)) (h : x_wp X Z J c (pc + n) ls (.inl x :: st) S M cs sl) : x_wp X Z J ((.iload k, n) :: c) pc ls st S M cs sl := by
  show x_ldi ls k (fun v => x_wp X Z J c (pc + n) ls (v :: st) S M cs sl)
  unfold x_ldi
  rw [e]; exact h
theorem xt_ald {k : Nat} {r : Nat} (e : ls[k]? = some (.inr (.inl r))) (hr : r < 1000) (h : x_wp X Z J c (pc + n) ls (.inr (.inl r) :: st) S M cs sl) : x_wp X Z J ((.aload k, n) :: c) pc ls st S M cs sl := by
  show x_lda ls k (fun v => x_wp X Z J c (pc + n) ls (v :: st) S M cs sl)
  unfold x_lda
  rw [e]; exact ⟨hr, h⟩
theorem xt_ist {k : Nat} {x : Int32} {ls' : List x_V} (e : Nat.ble k ls.length = true) (e2 : x_sto ls k (.inl x) = ls') (h : x_wp X Z J c (pc + n) ls' st S M cs sl) : x_wp X Z J ((.istore k, n) :: c) pc ls (.inl x :: st) S M cs sl := by subst e2; exact ⟨Nat.le_of_ble_eq_true e, h⟩
theorem xt_ast {k : Nat} {r : Nat} {ls' : List x_V} (e : Nat.ble k ls.length = true) (hr : r < 1000) (e2 : x_sto ls k (.inr (.inl r)) = ls') (h : x_wp X Z J c (pc + n) ls' st S M cs sl) : x_wp X Z J ((.astore k, n) :: c) pc ls (.inr (.inl r) :: st) S M cs sl := by subst e2; exact ⟨Nat.le_of_ble_eq_true e, hr, h⟩
theorem xt_iln0 {x : Int32} (e : ls[0]? = some (.inl x)) (h : x_wp X Z J c (pc + n) ls (.inl x :: st) S M cs sl) : x_wp X Z J ((.iload_n 0, n) :: c) pc ls st S M cs sl := xt_ild (k := 0) e h
theorem xt_aln0 {r : Nat} (e : ls[0]? = some (.inr (.inl r))) (hr : r < 1000) (h : x_wp X Z J c (pc + n) ls (.inr (.inl r) :: st) S M cs sl) : x_wp X Z J ((.aload_n 0, n) :: c) pc ls st S M cs sl := xt_ald (k := 0) e hr h
theorem xt_isn0 {x : Int32} {ls' : List x_V} (e : Nat.ble 0 ls.length = true) (e2 : x_sto ls 0 (.inl x) = ls') (h : x_wp X Z J c (pc + n) ls' st S M cs sl) : x_wp X Z J ((.istore_n 0, n) :: c) pc ls (.inl x :: st) S M cs sl := xt_ist (k := 0) e e2 h
theorem xt_asn0 {r : Nat} {ls' : List x_V} (e : Nat.ble 0 ls.length = true) (hr : r < 1000) (e2 : x_sto ls 0 (.inr (.inl r)) = ls') (h : x_wp X Z J c (pc + n) ls' st S M cs sl) : x_wp X Z J ((.astore_n 0, n) :: c) pc ls (.inr (.inl r) :: st) S M cs sl := xt_ast (k := 0) e hr e2 h
theorem xt_iln1 {x : Int32} (e : ls[1]? = some (.inl x)) (h : x_wp X Z J c (pc + n) ls (.inl x :: st) S M cs sl) : x_wp X Z J ((.iload_n 1, n) :: c) pc ls st S M cs sl := xt_ild (k := 1) e h
theorem xt_aln1 {r : Nat} (e : ls[1]? = some (.inr (.inl r))) (hr : r < 1000) (h : x_wp X Z J c (pc + n) ls (.inr (.inl r) :: st) S M cs sl) : x_wp X Z J ((.aload_n 1, n) :: c) pc ls st S M cs sl := xt_ald (k := 1) e hr h
theorem xt_isn1 {x : Int32} {ls' : List x_V} (e : Nat.ble 1 ls.length = true) (e2 : x_sto ls 1 (.inl x) = ls') (h : x_wp X Z J c (pc + n) ls' st S M cs sl) : x_wp X Z J ((.istore_n 1, n) :: c) pc ls (.inl x :: st) S M cs sl := xt_ist (k := 1) e e2 h
theorem xt_asn1 {r : Nat} {ls' : List x_V} (e : Nat.ble 1 ls.length = true) (hr : r < 1000) (e2 : x_sto ls 1 (.inr (.inl r)) = ls') (h : x_wp X Z J c (pc + n) ls' st S M cs sl) : x_wp X Z J ((.astore_n 1, n) :: c) pc ls (.inr (.inl r) :: st) S M cs sl := xt_ast (k := 1) e hr e2 h
theorem xt_iln2 {x : Int32} (e : ls[2]? = some (.inl x)) (h : x_wp X Z J c (pc + n) ls (.inl x :: st) S M cs sl) : x_wp X Z J ((.iload_n 2, n) :: c) pc ls st S M cs sl := xt_ild (k := 2) e h
theorem xt_aln2 {r : Nat} (e : ls[2]? = some (.inr (.inl r))) (hr : r < 1000) (h : x_wp X Z J c (pc + n) ls (.inr (.inl r) :: st) S M cs sl) : x_wp X Z J ((.aload_n 2, n) :: c) pc ls st S M cs sl := xt_ald (k := 2) e hr h
theorem xt_isn2 {x : Int32} {ls' : List x_V} (e : Nat.ble 2 ls.length = true) (e2 : x_sto ls 2 (.inl x) = ls') (h : x_wp X Z J c (pc + n) ls' st S M cs sl) : x_wp X Z J ((.istore_n 2, n) :: c) pc ls (.inl x :: st) S M cs sl := xt_ist (k := 2) e e2 h
theorem xt_asn2 {r : Nat} {ls' : List x_V} (e : Nat.ble 2 ls.length = true) (hr : r < 1000) (e2 : x_sto ls 2 (.inr (.inl r)) = ls') (h : x_wp X Z J c (pc + n) ls' st S M cs sl) : x_wp X Z J ((.astore_n 2, n) :: c) pc ls (.inr (.inl r) :: st) S M cs sl := xt_ast (k := 2) e hr e2 h
theorem xt_iln3 {x : Int32} (e : ls[3]? = some (.inl x)) (h : x_wp X Z J c (pc + n) ls (.inl x :: st) S M cs sl) : x_wp X Z J ((.iload_n 3, n) :: c) pc ls st S M cs sl := xt_ild (k := 3) e h
theorem xt_aln3 {r : Nat} (e : ls[3]? = some (.inr (.inl r))) (hr : r < 1000) (h : x_wp X Z J c (pc + n) ls (.inr (.inl r) :: st) S M cs sl) : x_wp X Z J ((.aload_n 3, n) :: c) pc ls st S M cs sl := xt_ald (k := 3) e hr h
theorem xt_isn3 {x : Int32} {ls' : List x_V} (e : Nat.ble 3 ls.length = true) (e2 : x_sto ls 3 (.inl x) = ls') (h : x_wp X Z J c (pc + n) ls' st S M cs sl) : x_wp X Z J ((.istore_n 3, n) :: c) pc ls (.inl x :: st) S M cs sl := xt_ist (k := 3) e e2 h
theorem xt_asn3 {r : Nat} {ls' : List x_V} (e : Nat.ble 3 ls.length = true) (hr : r < 1000) (e2 : x_sto ls 3 (.inr (.inl r)) = ls') (h : x_wp X Z J c (pc + n) ls' st S M cs sl) : x_wp X Z J ((.astore_n 3, n) :: c) pc ls (.inr (.inl r) :: st) S M cs sl := xt_ast (k := 3) e hr e2 h
theorem xt_acn0 {r : Nat} (e : ls[0]? = some (.inr (.inr r))) (h : x_wp X Z J c (pc + n) ls (.inr (.inr r) :: st) S M cs sl) : x_wp X Z J ((.aload_n 0, n) :: c) pc ls st S M cs sl := by
  show x_lda ls 0 (fun v => x_wp X Z J c (pc + n) ls (v :: st) S M cs sl)
  unfold x_lda
  rw [e]; exact h
theorem xt_inc {k d : Nat} {x : Int32} {ls' : List x_V} (e : ls[k]? = some (.inl x)) (e3 : x_sto ls k (.inl (x + nI (OfNat.ofNat d))) = ls') (h : x_wp X Z J c (pc + n) ls' st S M cs sl) : x_wp X Z J ((.iinc k (@OfNat.ofNat Int d instOfNat), n) :: c) pc ls st S M cs sl := by
  subst e3
  show x_inc ls k (@OfNat.ofNat Int d instOfNat) (fun ls => x_wp X Z J c (pc + n) ls st S M cs sl)
  unfold x_inc
  rw [e]
  have e2 : x_q (@OfNat.ofNat Int d instOfNat) = nI (OfNat.ofNat d) := by
    show x_q (Int.ofNat d) = nI d
    simp [x_q]
  rw [e2]; exact h
theorem xt_dec {k d : Nat} {x : Int32} {ls' : List x_V} (hk : Nat.blt 0 d = true) (e : ls[k]? = some (.inl x)) (e3 : x_sto ls k (.inl (x + -(nI (OfNat.ofNat d)))) = ls') (h : x_wp X Z J c (pc + n) ls' st S M cs sl) : x_wp X Z J ((.iinc k (-(@OfNat.ofNat Int d instOfNat)), n) :: c) pc ls st S M cs sl := by
  subst e3
  show x_inc ls k (-(@OfNat.ofNat Int d instOfNat)) (fun ls => x_wp X Z J c (pc + n) ls st S M cs sl)
  unfold x_inc
  rw [e, x_q_neg (Nat.blt_eq.mp hk)]; exact h
theorem xt_add {a b : Int32} (h : x_wp X Z J c (pc + n) ls (.inl (a + b) :: st) S M cs sl) : x_wp X Z J ((.iadd, n) :: c) pc ls (.inl b :: .inl a :: st) S M cs sl := h
theorem xt_sub {a b : Int32} (h : x_wp X Z J c (pc + n) ls (.inl (a - b) :: st) S M cs sl) : x_wp X Z J ((.isub, n) :: c) pc ls (.inl b :: .inl a :: st) S M cs sl := h
theorem xt_mul {a b : Int32} (h : x_wp X Z J c (pc + n) ls (.inl (a * b) :: st) S M cs sl) : x_wp X Z J ((.imul, n) :: c) pc ls (.inl b :: .inl a :: st) S M cs sl := h
theorem xt_and {a b : Int32} (h : x_wp X Z J c (pc + n) ls (.inl (a &&& b) :: st) S M cs sl) : x_wp X Z J ((.iand, n) :: c) pc ls (.inl b :: .inl a :: st) S M cs sl := h
theorem xt_or {a b : Int32} (h : x_wp X Z J c (pc + n) ls (.inl (a ||| b) :: st) S M cs sl) : x_wp X Z J ((.ior, n) :: c) pc ls (.inl b :: .inl a :: st) S M cs sl := h
theorem xt_xor {a b : Int32} (h : x_wp X Z J c (pc + n) ls (.inl (a ^^^ b) :: st) S M cs sl) : x_wp X Z J ((.ixor, n) :: c) pc ls (.inl b :: .inl a :: st) S M cs sl := h
theorem xt_shl {a b : Int32} (h : x_wp X Z J c (pc + n) ls (.inl (a <<< (b &&& 31)) :: st) S M cs sl) : x_wp X Z J ((.ishl, n) :: c) pc ls (.inl b :: .inl a :: st) S M cs sl := h
theorem xt_shr {a b : Int32} (h : x_wp X Z J c (pc + n) ls (.inl (a >>> (b &&& 31)) :: st) S M cs sl) : x_wp X Z J ((.ishr, n) :: c) pc ls (.inl b :: .inl a :: st) S M cs sl := h
theorem xt_usr {a b : Int32} (h : x_wp X Z J c (pc + n) ls (.inl ((a.toUInt32 >>> (b.toUInt32 &&& Int32.toUInt32 31)).toInt32) :: st) S M cs sl) : x_wp X Z J ((.iushr, n) :: c) pc ls (.inl b :: .inl a :: st) S M cs sl := h
theorem xt_div {a b : Int32} (hb : ¬ b = 0) (h : x_wp X Z J c (pc + n) ls (.inl (a / b) :: st) S M cs sl) : x_wp X Z J ((.idiv, n) :: c) pc ls (.inl b :: .inl a :: st) S M cs sl := ⟨hb, h⟩
theorem xt_rem {a b : Int32} (hb : ¬ b = 0) (h : x_wp X Z J c (pc + n) ls (.inl (a - a / b * b) :: st) S M cs sl) : x_wp X Z J ((.irem, n) :: c) pc ls (.inl b :: .inl a :: st) S M cs sl := ⟨hb, h⟩
theorem xt_neg {a : Int32} (h : x_wp X Z J c (pc + n) ls (.inl (-a) :: st) S M cs sl) : x_wp X Z J ((.ineg, n) :: c) pc ls (.inl a :: st) S M cs sl := h
theorem xt_dup {a : x_V} (h : x_wp X Z J c (pc + n) ls (a :: a :: st) S M cs sl) : x_wp X Z J ((.dup, n) :: c) pc ls (a :: st) S M cs sl := h
theorem xt_dup2 {a b : x_V} (h : x_wp X Z J c (pc + n) ls (a :: b :: a :: b :: st) S M cs sl) : x_wp X Z J ((.dup2, n) :: c) pc ls (a :: b :: st) S M cs sl := h
theorem xt_goto {off : Int} {t : Nat} (e : x_tg pc off = t) (h : J t ls st S M cs sl) : x_wp X Z J ((.goto off, n) :: c) pc ls st S M cs sl := by subst e; exact h
theorem xt_nil {t : Nat} (e : pc = t) (h : J t ls st S M cs sl) : x_wp X Z J [] pc ls st S M cs sl := by subst e; exact h
theorem xt_eq {off : Int} {t : Nat} {x : Int32} (e : x_tg pc off = t) (h1 : x = 0 → J t ls st S M cs sl) (h2 : ¬ x = 0 → x_wp X Z J c (pc + n) ls st S M cs sl) : x_wp X Z J ((.ifCond .eq off, n) :: c) pc ls (.inl x :: st) S M cs sl := by subst e; exact ⟨h1, h2⟩
theorem xt_ne {off : Int} {t : Nat} {x : Int32} (e : x_tg pc off = t) (h1 : ¬ x = 0 → J t ls st S M cs sl) (h2 : x = 0 → x_wp X Z J c (pc + n) ls st S M cs sl) : x_wp X Z J ((.ifCond .ne off, n) :: c) pc ls (.inl x :: st) S M cs sl := by subst e; exact ⟨h1, h2⟩
theorem xt_lt {off : Int} {t : Nat} {x : Int32} (e : x_tg pc off = t) (h1 : x < 0 → J t ls st S M cs sl) (h2 : ¬ x < 0 → x_wp X Z J c (pc + n) ls st S M cs sl) : x_wp X Z J ((.ifCond .lt off, n) :: c) pc ls (.inl x :: st) S M cs sl := by subst e; exact ⟨h1, h2⟩
theorem xt_ge {off : Int} {t : Nat} {x : Int32} (e : x_tg pc off = t) (h1 : 0 ≤ x → J t ls st S M cs sl) (h2 : ¬ 0 ≤ x → x_wp X Z J c (pc + n) ls st S M cs sl) : x_wp X Z J ((.ifCond .ge off, n) :: c) pc ls (.inl x :: st) S M cs sl := by subst e; exact ⟨h1, h2⟩
theorem xt_gt {off : Int} {t : Nat} {x : Int32} (e : x_tg pc off = t) (h1 : 0 < x → J t ls st S M cs sl) (h2 : ¬ 0 < x → x_wp X Z J c (pc + n) ls st S M cs sl) : x_wp X Z J ((.ifCond .gt off, n) :: c) pc ls (.inl x :: st) S M cs sl := by subst e; exact ⟨h1, h2⟩
theorem xt_le {off : Int} {t : Nat} {x : Int32} (e : x_tg pc off = t) (h1 : x ≤ 0 → J t ls st S M cs sl) (h2 : ¬ x ≤ 0 → x_wp X Z J c (pc + n) ls st S M cs sl) : x_wp X Z J ((.ifCond .le off, n) :: c) pc ls (.inl x :: st) S M cs sl := by subst e; exact ⟨h1, h2⟩
theorem xt_ceq {off : Int} {t : Nat} {x y : Int32} (e : x_tg pc off = t) (h1 : x = y → J t ls st S M cs sl) (h2 : ¬ x = y → x_wp X Z J c (pc + n) ls st S M cs sl) : x_wp X Z J ((.if_icmp .eq off, n) :: c) pc ls (.inl y :: .inl x :: st) S M cs sl := by subst e; exact ⟨h1, h2⟩
theorem xt_cne {off : Int} {t : Nat} {x y : Int32} (e : x_tg pc off = t) (h1 : ¬ x = y → J t ls st S M cs sl) (h2 : x = y → x_wp X Z J c (pc + n) ls st S M cs sl) : x_wp X Z J ((.if_icmp .ne off, n) :: c) pc ls (.inl y :: .inl x :: st) S M cs sl := by subst e; exact ⟨h1, h2⟩
theorem xt_clt {off : Int} {t : Nat} {x y : Int32} (e : x_tg pc off = t) (h1 : x < y → J t ls st S M cs sl) (h2 : ¬ x < y → x_wp X Z J c (pc + n) ls st S M cs sl) : x_wp X Z J ((.if_icmp .lt off, n) :: c) pc ls (.inl y :: .inl x :: st) S M cs sl := by subst e; exact ⟨h1, h2⟩
theorem xt_cge {off : Int} {t : Nat} {x y : Int32} (e : x_tg pc off = t) (h1 : y ≤ x → J t ls st S M cs sl) (h2 : ¬ y ≤ x → x_wp X Z J c (pc + n) ls st S M cs sl) : x_wp X Z J ((.if_icmp .ge off, n) :: c) pc ls (.inl y :: .inl x :: st) S M cs sl := by subst e; exact ⟨h1, h2⟩
theorem xt_cgt {off : Int} {t : Nat} {x y : Int32} (e : x_tg pc off = t) (h1 : y < x → J t ls st S M cs sl) (h2 : ¬ y < x → x_wp X Z J c (pc + n) ls st S M cs sl) : x_wp X Z J ((.if_icmp .gt off, n) :: c) pc ls (.inl y :: .inl x :: st) S M cs sl := by subst e; exact ⟨h1, h2⟩
theorem xt_cle {off : Int} {t : Nat} {x y : Int32} (e : x_tg pc off = t) (h1 : x ≤ y → J t ls st S M cs sl) (h2 : ¬ x ≤ y → x_wp X Z J c (pc + n) ls st S M cs sl) : x_wp X Z J ((.if_icmp .le off, n) :: c) pc ls (.inl y :: .inl x :: st) S M cs sl := by subst e; exact ⟨h1, h2⟩
theorem xt_gf {k : Nat} {q : Nat × Nat} {fs : List (Option Nat)} {f : Option Nat} {p : Nat} {v : x_V} (e : x_lk X.1 k = some q) (h1 : S[p]? = some (.inl (q.1, fs))) (h2 : fs[q.2]? = some f) (h3 : x_fd S M p q.2 = v) (h : x_wp X Z J c (pc + n) ls (v :: st) S M cs sl) : x_wp X Z J ((.getfield k, n) :: c) pc ls (.inr (.inl p) :: st) S M cs sl := by
  subst h3
  show x_gf (x_lk X.1 k) S M (fun st => x_wp X Z J c (pc + n) ls st S M cs sl) (.inr (.inl p) :: st)
  rw [e]; exact ⟨⟨fs, f, h1, h2⟩, h⟩
theorem xt_pfi {k : Nat} {q : Nat × Nat} {fs : List (Option Nat)} {p : Nat} {x : Int32} (e : x_lk X.1 k = some q) (h1 : S[p]? = some (.inl (q.1, fs))) (h2 : fs[q.2]? = some none) (h3 : x_fi q.1 q.2 = false ∨ X.2.2.2.2.2.2.2.2.2 = true) (h4 : x_ty q.1 q.2 = .int ∨ (x_ty q.1 q.2 = .boolean ∧ (x = 0 ∨ x = 1))) (h : x_wp X Z J c (pc + n) ls st S (x_row M p (upd (M p) q.2 x)) cs sl) : x_wp X Z J ((.putfield k, n) :: c) pc ls (.inl x :: .inr (.inl p) :: st) S M cs sl := by
  show x_pf (x_lk X.1 k) X.2.2.2.2.2.2.2.2.2 S M (fun st S M => x_wp X Z J c (pc + n) ls st S M cs sl) (.inl x :: .inr (.inl p) :: st)
  rw [e]; exact ⟨⟨fs, h1, h2⟩, h3, h4, h⟩
theorem xt_pfr {k : Nat} {q : Nat × Nat} {fs : List (Option Nat)} {p r r0 : Nat} {S' : List x_S} (e : x_lk X.1 k = some q) (h1 : S[p]? = some (.inl (q.1, fs))) (h2 : fs[q.2]? = some (some r0)) (hr : r < 1000) (h3 : x_fi q.1 q.2 = false ∨ X.2.2.2.2.2.2.2.2.2 = true) (h4 : defaultValue (x_ty q.1 q.2) = .null) (h5 : x_sf S p q.2 r = S') (h : x_wp X Z J c (pc + n) ls st S' M cs sl) : x_wp X Z J ((.putfield k, n) :: c) pc ls (.inr (.inl r) :: .inr (.inl p) :: st) S M cs sl := by
  subst h5
  show x_pf (x_lk X.1 k) X.2.2.2.2.2.2.2.2.2 S M (fun st S M => x_wp X Z J c (pc + n) ls st S M cs sl) (.inr (.inl r) :: .inr (.inl p) :: st)
  rw [e]; exact ⟨⟨fs, r0, h1, h2⟩, hr, h3, h4, h⟩
theorem xt_gs {k q : Nat} (e : x_lk X.2.1 k = some q) (h : x_wp X Z J c (pc + n) ls (.inr (.inr q) :: st) S M cs sl) : x_wp X Z J ((.getstatic k, n) :: c) pc ls st S M cs sl := by
  show (match x_lk X.2.1 k with | some q => x_wp X Z J c (pc + n) ls (.inr (.inr q) :: st) S M cs sl | none => False)
  rw [e]; exact h
theorem xt_ial {i : Int32} {p m : Nat} (h1 : S[p]? = some (.inr (.inl (false, m)))) (h2 : vp_in i m) (h : x_wp X Z J c (pc + n) ls (.inl (M p i.toNatClampNeg) :: st) S M cs sl) : x_wp X Z J ((.iaload, n) :: c) pc ls (.inl i :: .inr (.inl p) :: st) S M cs sl := ⟨⟨m, h1, h2⟩, h⟩
theorem xt_bal {i : Int32} {p m : Nat} (h1 : S[p]? = some (.inr (.inl (true, m)))) (h2 : vp_in i m) (h : x_wp X Z J c (pc + n) ls (.inl (M p i.toNatClampNeg) :: st) S M cs sl) : x_wp X Z J ((.baload, n) :: c) pc ls (.inl i :: .inr (.inl p) :: st) S M cs sl := ⟨⟨m, h1, h2⟩, h⟩
theorem xt_kal {i : Int32} {p : Nat} (h1 : Nat.blt p X.2.2.2.2.2.2.2.2.1 = true) (h2 : vp_in i (X.2.2.2.2.2.2.1 p)) (h : x_wp X Z J c (pc + n) ls (.inl (X.2.2.2.2.2.2.2.1 p i.toNatClampNeg) :: st) S M cs sl) : x_wp X Z J ((.iaload, n) :: c) pc ls (.inl i :: .inr (.inr p) :: st) S M cs sl := ⟨rfl, Nat.blt_eq.mp h1, h2, h⟩
theorem xt_ral {i : Int32} {p r : Nat} {g : List Nat} (h1 : S[p]? = some (.inr (.inr g))) (h2 : vp_in i g.length) (h3 : g.getD i.toNatClampNeg 0 = r) (h4 : r < 1000) (h : x_wp X Z J c (pc + n) ls (.inr (.inl r) :: st) S M cs sl) : x_wp X Z J ((.aaload, n) :: c) pc ls (.inl i :: .inr (.inl p) :: st) S M cs sl := by
  subst h3
  refine ⟨⟨g, h1, h2, h4⟩, ?_⟩
  have e : x_el S p i.toNatClampNeg = g.getD i.toNatClampNeg 0 := by unfold x_el; rw [h1]
  rw [e]; exact h
theorem xt_ias {i x : Int32} {p m : Nat} (h1 : S[p]? = some (.inr (.inl (false, m)))) (h2 : vp_in i m) (h : x_wp X Z J c (pc + n) ls st S (x_row M p (upd (M p) i.toNatClampNeg x)) cs sl) : x_wp X Z J ((.iastore, n) :: c) pc ls (.inl x :: .inl i :: .inr (.inl p) :: st) S M cs sl := ⟨⟨m, h1, h2⟩, fun e => (by cases e), h⟩
theorem xt_bas {i x : Int32} {p m : Nat} (h1 : S[p]? = some (.inr (.inl (true, m)))) (h2 : vp_in i m) (h3 : x = 0 ∨ x = 1) (h : x_wp X Z J c (pc + n) ls st S (x_row M p (upd (M p) i.toNatClampNeg x)) cs sl) : x_wp X Z J ((.bastore, n) :: c) pc ls (.inl x :: .inl i :: .inr (.inl p) :: st) S M cs sl := ⟨⟨m, h1, h2⟩, fun _ => h3, h⟩
theorem xt_len {p m : Nat} {b : Bool} (h1 : S[p]? = some (.inr (.inl (b, m)))) (h : x_wp X Z J c (pc + n) ls (.inl (nI m) :: st) S M cs sl) : x_wp X Z J ((.arraylength, n) :: c) pc ls (.inr (.inl p) :: st) S M cs sl := by
  refine ⟨⟨_, h1⟩, ?_⟩
  have e : x_ln S p = m := by unfold x_ln; rw [h1]
  rw [e]; exact h
theorem xt_lek {p : Nat} (h1 : Nat.blt p X.2.2.2.2.2.2.2.2.1 = true) (h : x_wp X Z J c (pc + n) ls (.inl (nI (X.2.2.2.2.2.2.1 p)) :: st) S M cs sl) : x_wp X Z J ((.arraylength, n) :: c) pc ls (.inr (.inr p) :: st) S M cs sl := ⟨Nat.blt_eq.mp h1, h⟩
theorem xt_inv {i : Instr} {key : Nat} {q : x_K} (hi : x_key i = some key) (e : x_lk X.2.2.2.2.1 key = some q) (h1 : Nat.ble q.1 st.length = true) (h2 : Nat.ble (st.length - q.1) 8 = true) (h3 : cs + q.2.2.2.1 ≤ X.2.2.2.2.2.1.1) (h4 : sl + q.2.2.2.2 ≤ X.2.2.2.2.2.1.2) (h5 : q.2.1 (st.take q.1).reverse S M)
    (h : ∀ (r : Option x_V) (S' : List x_S) (M' : x_M), q.2.2.1 (st.take q.1).reverse S M r S' M' → x_wp X Z J c (pc + n) ls (r.toList ++ st.drop q.1) S' M' (cs + q.2.2.2.1) (sl + q.2.2.2.2)) : x_wp X Z J ((i, n) :: c) pc ls st S M cs sl := by
  have key2 : x_inv (x_lk X.2.2.2.2.1 key) X S M cs sl st (fun st S M cs sl => x_wp X Z J c (pc + n) ls st S M cs sl) := by
    rw [e]
    exact ⟨⟨Nat.le_of_ble_eq_true h1, Nat.le_of_ble_eq_true h2, h3, h4⟩, h5, h⟩
  unfold x_key at hi
  split at hi <;> first | (cases hi; exact key2) | (cases hi; done)
theorem xt_ret {i : Instr} (hi : i = .ireturn ∨ i = .areturn ∨ i = .return_) (h : Z i st S M cs sl) : x_wp X Z J ((i, n) :: c) pc ls st S M cs sl := by
  rcases hi with rfl | rfl | rfl <;> exact h
theorem xt_gfi {k : Nat} {q : Nat × Nat} {fs : List (Option Nat)} {p : Nat} (e : x_lk X.1 k = some q) (h1 : S[p]? = some (.inl (q.1, fs))) (h2 : fs[q.2]? = some none) (h : x_wp X Z J c (pc + n) ls (.inl (M p q.2) :: st) S M cs sl) : x_wp X Z J ((.getfield k, n) :: c) pc ls (.inr (.inl p) :: st) S M cs sl :=
  xt_gf e h1 h2 (by unfold x_fd; rw [h1]; dsimp only; rw [h2]) h
theorem xt_gfr {k : Nat} {q : Nat × Nat} {fs : List (Option Nat)} {p r : Nat} (e : x_lk X.1 k = some q) (h1 : S[p]? = some (.inl (q.1, fs))) (h2 : fs[q.2]? = some (some r)) (h : x_wp X Z J c (pc + n) ls (.inr (.inl r) :: st) S M cs sl) : x_wp X Z J ((.getfield k, n) :: c) pc ls (.inr (.inl p) :: st) S M cs sl :=
  xt_gf e h1 h2 (by unfold x_fd; rw [h1]; dsimp only; rw [h2]) h
theorem xt_v0 {i : Instr} {key : Nat} {q : x_K} (hi : x_key i = some key) (e : x_lk X.2.2.2.2.1 key = some q) (h1 : q.1 = 0) (h2 : Nat.ble st.length 8 = true) (h3 : q.2.2.2 = (0, 0)) (h4 : cs ≤ X.2.2.2.2.2.1.1 ∧ sl ≤ X.2.2.2.2.2.1.2) (h5 : q.2.1 [] S M)
    (h : ∀ (r : Option x_V) (S' : List x_S) (M' : x_M), q.2.2.1 [] S M r S' M' → x_wp X Z J c (pc + n) ls (r.toList ++ st) S' M' cs sl) : x_wp X Z J ((i, n) :: c) pc ls (st) S M cs sl := by
  obtain ⟨q1, q2, q3, q4⟩ := q
  cases h3
  cases h1
  have hle := Nat.le_of_ble_eq_true h2
  exact xt_inv hi e (Nat.ble_eq.mpr (by simp)) (Nat.ble_eq.mpr (by simp; omega)) h4.1 h4.2 (by simpa using h5) (by simpa using h)
theorem xt_v1 {i : Instr} {key : Nat} {q : x_K} {a1 : x_V} (hi : x_key i = some key) (e : x_lk X.2.2.2.2.1 key = some q) (h1 : q.1 = 1) (h2 : Nat.ble st.length 8 = true) (h3 : q.2.2.2 = (0, 0)) (h4 : cs ≤ X.2.2.2.2.2.1.1 ∧ sl ≤ X.2.2.2.2.2.1.2) (h5 : q.2.1 [a1] S M)
    (h : ∀ (r : Option x_V) (S' : List x_S) (M' : x_M), q.2.2.1 [a1] S M r S' M' → x_wp X Z J c (pc + n) ls (r.toList ++ st) S' M' cs sl) : x_wp X Z J ((i, n) :: c) pc ls (a1 :: st) S M cs sl := by
  obtain ⟨q1, q2, q3, q4⟩ := q
  cases h3
  cases h1
  have hle := Nat.le_of_ble_eq_true h2
  exact xt_inv hi e (Nat.ble_eq.mpr (by simp)) (Nat.ble_eq.mpr (by simp; omega)) h4.1 h4.2 (by simpa using h5) (by simpa using h)
theorem xt_v2 {i : Instr} {key : Nat} {q : x_K} {a1 a2 : x_V} (hi : x_key i = some key) (e : x_lk X.2.2.2.2.1 key = some q) (h1 : q.1 = 2) (h2 : Nat.ble st.length 8 = true) (h3 : q.2.2.2 = (0, 0)) (h4 : cs ≤ X.2.2.2.2.2.1.1 ∧ sl ≤ X.2.2.2.2.2.1.2) (h5 : q.2.1 [a1, a2] S M)
    (h : ∀ (r : Option x_V) (S' : List x_S) (M' : x_M), q.2.2.1 [a1, a2] S M r S' M' → x_wp X Z J c (pc + n) ls (r.toList ++ st) S' M' cs sl) : x_wp X Z J ((i, n) :: c) pc ls (a2 :: a1 :: st) S M cs sl := by
  obtain ⟨q1, q2, q3, q4⟩ := q
  cases h3
  cases h1
  have hle := Nat.le_of_ble_eq_true h2
  exact xt_inv hi e (Nat.ble_eq.mpr (by simp)) (Nat.ble_eq.mpr (by simp; omega)) h4.1 h4.2 (by simpa using h5) (by simpa using h)
theorem xt_v3 {i : Instr} {key : Nat} {q : x_K} {a1 a2 a3 : x_V} (hi : x_key i = some key) (e : x_lk X.2.2.2.2.1 key = some q) (h1 : q.1 = 3) (h2 : Nat.ble st.length 8 = true) (h3 : q.2.2.2 = (0, 0)) (h4 : cs ≤ X.2.2.2.2.2.1.1 ∧ sl ≤ X.2.2.2.2.2.1.2) (h5 : q.2.1 [a1, a2, a3] S M)
    (h : ∀ (r : Option x_V) (S' : List x_S) (M' : x_M), q.2.2.1 [a1, a2, a3] S M r S' M' → x_wp X Z J c (pc + n) ls (r.toList ++ st) S' M' cs sl) : x_wp X Z J ((i, n) :: c) pc ls (a3 :: a2 :: a1 :: st) S M cs sl := by
  obtain ⟨q1, q2, q3, q4⟩ := q
  cases h3
  cases h1
  have hle := Nat.le_of_ble_eq_true h2
  exact xt_inv hi e (Nat.ble_eq.mpr (by simp)) (Nat.ble_eq.mpr (by simp; omega)) h4.1 h4.2 (by simpa using h5) (by simpa using h)
theorem xt_v4 {i : Instr} {key : Nat} {q : x_K} {a1 a2 a3 a4 : x_V} (hi : x_key i = some key) (e : x_lk X.2.2.2.2.1 key = some q) (h1 : q.1 = 4) (h2 : Nat.ble st.length 8 = true) (h3 : q.2.2.2 = (0, 0)) (h4 : cs ≤ X.2.2.2.2.2.1.1 ∧ sl ≤ X.2.2.2.2.2.1.2) (h5 : q.2.1 [a1, a2, a3, a4] S M)
    (h : ∀ (r : Option x_V) (S' : List x_S) (M' : x_M), q.2.2.1 [a1, a2, a3, a4] S M r S' M' → x_wp X Z J c (pc + n) ls (r.toList ++ st) S' M' cs sl) : x_wp X Z J ((i, n) :: c) pc ls (a4 :: a3 :: a2 :: a1 :: st) S M cs sl := by
  obtain ⟨q1, q2, q3, q4⟩ := q
  cases h3
  cases h1
  have hle := Nat.le_of_ble_eq_true h2
  exact xt_inv hi e (Nat.ble_eq.mpr (by simp)) (Nat.ble_eq.mpr (by simp; omega)) h4.1 h4.2 (by simpa using h5) (by simpa using h)
theorem xt_v5 {i : Instr} {key : Nat} {q : x_K} {a1 a2 a3 a4 a5 : x_V} (hi : x_key i = some key) (e : x_lk X.2.2.2.2.1 key = some q) (h1 : q.1 = 5) (h2 : Nat.ble st.length 8 = true) (h3 : q.2.2.2 = (0, 0)) (h4 : cs ≤ X.2.2.2.2.2.1.1 ∧ sl ≤ X.2.2.2.2.2.1.2) (h5 : q.2.1 [a1, a2, a3, a4, a5] S M)
    (h : ∀ (r : Option x_V) (S' : List x_S) (M' : x_M), q.2.2.1 [a1, a2, a3, a4, a5] S M r S' M' → x_wp X Z J c (pc + n) ls (r.toList ++ st) S' M' cs sl) : x_wp X Z J ((i, n) :: c) pc ls (a5 :: a4 :: a3 :: a2 :: a1 :: st) S M cs sl := by
  obtain ⟨q1, q2, q3, q4⟩ := q
  cases h3
  cases h1
  have hle := Nat.le_of_ble_eq_true h2
  exact xt_inv hi e (Nat.ble_eq.mpr (by simp)) (Nat.ble_eq.mpr (by simp; omega)) h4.1 h4.2 (by simpa using h5) (by simpa using h)
theorem xt_v6 {i : Instr} {key : Nat} {q : x_K} {a1 a2 a3 a4 a5 a6 : x_V} (hi : x_key i = some key) (e : x_lk X.2.2.2.2.1 key = some q) (h1 : q.1 = 6) (h2 : Nat.ble st.length 8 = true) (h3 : q.2.2.2 = (0, 0)) (h4 : cs ≤ X.2.2.2.2.2.1.1 ∧ sl ≤ X.2.2.2.2.2.1.2) (h5 : q.2.1 [a1, a2, a3, a4, a5, a6] S M)
    (h : ∀ (r : Option x_V) (S' : List x_S) (M' : x_M), q.2.2.1 [a1, a2, a3, a4, a5, a6] S M r S' M' → x_wp X Z J c (pc + n) ls (r.toList ++ st) S' M' cs sl) : x_wp X Z J ((i, n) :: c) pc ls (a6 :: a5 :: a4 :: a3 :: a2 :: a1 :: st) S M cs sl := by
  obtain ⟨q1, q2, q3, q4⟩ := q
  cases h3
  cases h1
  have hle := Nat.le_of_ble_eq_true h2
  exact xt_inv hi e (Nat.ble_eq.mpr (by simp)) (Nat.ble_eq.mpr (by simp; omega)) h4.1 h4.2 (by simpa using h5) (by simpa using h)
variable {q : x_K} {as : List x_V} {S0 : List x_S} {M0 : x_M}
theorem xt_ri {v : Int32} (hc : cs = q.2.2.2.1) (hs : sl ≤ q.2.2.2.2) (h : q.2.2.1 as S0 M0 (some (.inl v)) S M) : x_wp X (x_Z (some .int) q as S0 M0) J ((.ireturn, n) :: c) pc ls [.inl v] S M cs sl := ⟨Or.inl rfl, hc, hs, h⟩
theorem xt_rz {v : Int32} (hv : v = 0 ∨ v = 1) (hc : cs = q.2.2.2.1) (hs : sl ≤ q.2.2.2.2) (h : q.2.2.1 as S0 M0 (some (.inl v)) S M) : x_wp X (x_Z (some .boolean) q as S0 M0) J ((.ireturn, n) :: c) pc ls [.inl v] S M cs sl := ⟨Or.inr ⟨rfl, hv⟩, hc, hs, h⟩
theorem xt_rv (hc : cs = q.2.2.2.1) (hs : sl ≤ q.2.2.2.2) (h : q.2.2.1 as S0 M0 none S M) : x_wp X (x_Z none q as S0 M0) J ((.return_, n) :: c) pc ls [] S M cs sl := ⟨rfl, hc, hs, h⟩
theorem xt_ra {r : Nat} {nm : String} (hr : r < 1000) (hc : cs = q.2.2.2.1) (hs : sl ≤ q.2.2.2.2) (h : q.2.2.1 as S0 M0 (some (.inr (.inl r))) S M) : x_wp X (x_Z (some (.object nm)) q as S0 M0) J ((.areturn, n) :: c) pc ls [.inr (.inl r)] S M cs sl := ⟨⟨nm, rfl⟩, hr, hc, hs, h⟩
variable {bl : x_B} {cut : List Nat} {I : x_J} {f : Nat}
theorem xt_cut {q : Nat × List (Instr × Nat)} {ls' : List x_V} (e : x_lk bl pc = some q) (hc : cut.elem pc = true) (e2 : ls.take q.1 = ls') (h : I pc ls' st S M cs sl) : x_go X Z bl cut I f pc ls st S M cs sl := by
  subst e2
  cases f <;> (unfold x_go; rw [e]; dsimp only; rw [if_pos hc]; exact h)
theorem xt_blk {q : Nat × List (Instr × Nat)} {ls' : List x_V} (e : x_lk bl pc = some q) (hc : cut.elem pc = false) (e2 : ls.take q.1 = ls') (h : x_wp X Z (x_go X Z bl cut I f) q.2 pc ls' st S M cs sl) : x_go X Z bl cut I (f + 1) pc ls st S M cs sl := by
  subst e2
  unfold x_go
  rw [e]
  dsimp only
  rw [if_neg (by rw [hc]; decide)]
  exact h
end XT
end
section
/-! numbers -/
theorem n_and (a b : Nat) : nI a &&& nI b = nI (a &&& b) := by
  apply Int32.toBitVec_inj.mp
  simp only [nI, Int32.toBitVec_and, Int32.toBitVec_ofNat']
  exact BitVec.ofNat_and.symm
theorem n_or (a b : Nat) : nI a ||| nI b = nI (a ||| b) := by
  apply Int32.toBitVec_inj.mp
  simp only [nI, Int32.toBitVec_or, Int32.toBitVec_ofNat']
  exact BitVec.ofNat_or.symm
theorem n_xor (a b : Nat) : nI a ^^^ nI b = nI (a ^^^ b) := by
  apply Int32.toBitVec_inj.mp
  simp only [nI, Int32.toBitVec_xor, Int32.toBitVec_ofNat']
  exact BitVec.ofNat_xor.symm
theorem n_sm : ∀ n, n < 32 → ((nI n &&& 31).toBitVec.smod 32).toNat = n := by decide
theorem n_shr {a k : Nat} (ha : a < 2 ^ 31) (hk : k < 32) : nI a >>> (nI k &&& 31) = nI (a / 2 ^ k) := pk_shrN ha _ k (n_sm k hk)
theorem n_shl {a k : Nat} (hk : k < 32) (ha : a * 2 ^ k < 2 ^ 32) : nI a <<< (nI k &&& 31) = nI (a * 2 ^ k) := pk_shlN _ k (n_sm k hk) ha
theorem n_and1 {a : Nat} (ha : a < 2 ^ 32) : nI a &&& nI 1 = nI (a % 2) := by
  rw [pk_andN ha 1 (by decide)]
theorem n_bit {a k : Nat} (ha : a < 2 ^ 31) (hk : k < 32) : nI a >>> (nI k &&& 31) &&& nI 1 = nI (a / 2 ^ k % 2) := by
  rw [n_shr ha hk, n_and1 (by have := Nat.div_le_self a (2 ^ k); omega)]
theorem n_eq0 {a : Nat} (ha : a < 2 ^ 31) : nI a = 0 ↔ a = 0 := by
  rw [← nI_0]
  exact nI_eq ha (by omega)
theorem n_z0 : (0 : Int32) = nI 0 := nI_0.symm
theorem n_z1 : (1 : Int32) = nI 1 := rfl
theorem n_not (a : Nat) (h : a < 2 ^ 31) : nI a ^^^ -(nI 1) = ~~~ (nI a) := by
  apply Int32.toBitVec_inj.mp
  have e : (-(nI 1)).toBitVec = BitVec.allOnes 32 := by decide
  simp only [Int32.toBitVec_xor, e, Int32.toBitVec_not, BitVec.xor_allOnes]
theorem n_andn (a b : Nat) (ha : a < 2 ^ 31) (hb : b < 2 ^ 31) : nI a &&& (nI b ^^^ -(nI 1)) = nI (a &&& (b ^^^ (2 ^ 32 - 1))) := by
  have e : (-(nI 1)) = nI (2 ^ 32 - 1) := by decide
  rw [e, n_xor, n_and]
theorem n_lt_or {a b k : Nat} (ha : a < 2 ^ k) (hb : b < 2 ^ k) : a ||| b < 2 ^ k := Nat.or_lt_two_pow ha hb
theorem n_and_le (a b : Nat) : a &&& b ≤ a := Nat.and_le_left
end
section
/-! RELATIONS: the leaves -/
/-- bit i of n -/
def bi (n i : Nat) : Nat := n / 2 ^ i % 2
theorem bi_lt (n i : Nat) : bi n i < 2 := Nat.mod_lt _ (by decide)
def tq (n : Nat) : Nat → Nat
  | 0 => 0
  | i + 1 => 2 * tq n i + bi n i
def tn (n : Nat) : Nat := tq n 13
theorem tq_lt (n : Nat) : ∀ i, tq n i < 2 ^ i
  | 0 => by simp [tq]
  | i + 1 => by
    have h1 := tq_lt n i
    have h2 := bi_lt n i
    rw [Nat.pow_succ]
    unfold tq
    omega
theorem tn_lt (n : Nat) : tn n < 8192 := tq_lt n 13
theorem n_pw {i : Nat} (h : i ≤ 13) : 2 ^ i ≤ 8192 := Nat.pow_le_pow_right (by decide) h
theorem n_or2 {a b : Nat} (hb : b < 2) : 2 * a ||| b = 2 * a + b := by
  have := Nat.two_pow_add_eq_or_of_lt (i := 1) (b := b) (by omega) a
  rw [Nat.pow_one] at this
  exact this.symm
/-- T over the bits of n below i, together -/
def fo (T : Nat → Nat) (n : Nat) : Nat → Nat
  | 0 => 0
  | i + 1 => if bi n i = 1 then fo T n i ||| T i else fo T n i
theorem fo_lt {T : Nat → Nat} {n k : Nat} (hT : ∀ j, T j < 2 ^ k) : ∀ i, fo T n i < 2 ^ k
  | 0 => Nat.two_pow_pos k
  | i + 1 => by
    unfold fo
    split
    · exact Nat.or_lt_two_pow (fo_lt hT i) (hT i)
    · exact fo_lt hT i
theorem x_kf_eq (c j : Nat) : x_kf c j = nI ((x_kt c).getD j 0) := rfl
def sgT (j : Nat) : Nat := x_k0.getD j 0
def cmT (j : Nat) : Nat := x_k1.getD j 0
def neT (j : Nat) : Nat := x_k2.getD j 0
theorem getD_lt {L : List Nat} {b : Nat} (h : L.all (fun x => decide (x < b)) = true) (hb : 0 < b) (j : Nat) : L.getD j 0 < b := by
  rw [List.getD_eq_getElem?_getD]
  cases hj : L[j]? with
  | none => exact hb
  | some x => exact of_decide_eq_true (List.all_eq_true.mp h x (List.mem_of_getElem? hj))
theorem sgT_lt (j : Nat) : sgT j < 2 ^ 15 := getD_lt (by decide) (by decide) j
theorem cmT_lt (j : Nat) : cmT j < 2 ^ 13 := getD_lt (by decide) (by decide) j
theorem neT_lt (j : Nat) : neT j < 2 ^ 13 := getD_lt (by decide) (by decide) j
def q_X2_turn : x_K := (1, fun as _ _ => ∃ n, n < 8192 ∧ as = [.inl (nI n)], fun as S M r S' M' => ∀ n, n < 8192 → as = [.inl (nI n)] → S' = S ∧ M' = M ∧ r = some (.inl (nI (tn n))), 0, 0)
def b_X2_turn : x_B := [(0, 1, [(.iconst 0, 1), (.istore_n 1, 1), (.iconst 0, 1), (.istore_n 2, 1)]),
  (4, 3, [(.iload_n 2, 1), (.bipush 13, 2), (.if_icmp .ge 19, 3), (.iload_n 1, 1), (.iconst 1, 1), (.ishl, 1), (.iload_n 0, 1), (.iload_n 2, 1), (.ishr, 1), (.iconst 1, 1), (.iand, 1), (.ior, 1), (.istore_n 1, 1), (.iinc 2 1, 3), (.goto (-19), 3)]),
  (26, 3, [(.iload_n 1, 1), (.ireturn, 1)])]
theorem b_X2_turn_ok : x_okB cX2_turn 3 b_X2_turn = true := by decide +kernel
def X_X2_turn : x_X := ([], [], [], [], [], (0, 0), x_kn, x_kf, 5, false)
theorem X_X2_turn_ok : x_okT RX2 X_X2_turn = true := by decide +kernel
theorem k_X2_turn (l : Launch) : ∀ z ∈ X_X2_turn.2.2.2.2.1, x_Cal l (x_rm 1 0 0) cX2_turn RX2 3 z.1 z.2 := fun _ h => absurd h List.not_mem_nil
set_option maxHeartbeats 4000000 in
set_option maxRecDepth 100000 in
theorem c_X2_turn (l : Launch) : x_CT l yX2_turn cX2_turn 3 (some .int) 1 q_X2_turn := by
  refine x_meth (X := X_X2_turn) (bl := b_X2_turn) (cut := [4]) (own := RX2) 30 (by decide) rfl X_X2_turn_ok b_X2_turn_ok rfl (by decide) (k_X2_turn l) ?_
  rintro as S M - ⟨n, hn, rfl⟩
  refine ⟨fun μ pc ls st S' M' cs sl => ∃ i, i ≤ 13 ∧ pc = 4 ∧ st = [] ∧ S' = S ∧ M' = M ∧ cs = 0 ∧ sl = 0 ∧ ls = [.inl (nI n), .inl (nI (tq n i)), .inl (nI i)] ∧ μ = 13 - i, ?_, ?_⟩
  · skip
    refine xt_blk rfl rfl (by dsimp only [List.take]) ?_
    refine xt_ic ?_
    refine xt_isn1 rfl (by dsimp only [x_sto]) ?_
    refine xt_ic ?_
    refine xt_isn2 rfl (by dsimp only [x_sto]) ?_
    refine xt_nil (t := 4) rfl ?_
    refine xt_cut rfl rfl (by dsimp only [List.take]) ?_
    exact ⟨13, 0, by omega, rfl, rfl, rfl, rfl, rfl, rfl, rfl, rfl⟩
  · rintro μ pc ls st S2 M2 cs sl (⟨i, hi, rfl, rfl, rfl, rfl, rfl, rfl, rfl, rfl⟩)
    · refine ⟨_, rfl, ?_⟩
      refine xt_iln2 rfl ?_
      refine xt_bi ?_
      refine xt_cge (t := 26) rfl (fun hc_7 => ?_) (fun hc_7 => ?_)
      · skip
        refine xt_blk rfl rfl (by dsimp only [List.take]) ?_
        refine xt_iln1 rfl ?_
        refine xt_ri rfl (Nat.le_refl _) ?_
        have h13 : i = 13 := by rw [nI_leI (by omega) (by omega)] at hc_7; omega
        subst h13
        intro n2 hn2 e2
        have e3 : n = n2 := by simpa [nI_eq (show n < 2 ^ 31 by omega) (show n2 < 2 ^ 31 by omega)] using e2
        subst e3
        exact ⟨rfl, rfl, rfl⟩
      · skip
        refine xt_iln1 rfl ?_
        refine xt_ic ?_
        refine xt_shl ?_
        refine xt_iln0 rfl ?_
        refine xt_iln2 rfl ?_
        refine xt_shr ?_
        refine xt_ic ?_
        refine xt_and ?_
        refine xt_or ?_
        refine xt_isn1 rfl (by dsimp only [x_sto]) ?_
        refine xt_inc rfl (by dsimp only [x_sto]) ?_
        refine xt_goto (t := 4) rfl ?_
        refine xt_cut rfl rfl (by dsimp only [List.take]) ?_
        have hlt : i < 13 := by rw [nI_leI (by omega) (by omega)] at hc_7; omega
        have hp := n_pw hi
        have ht := tq_lt n i
        have hb := bi_lt n i
        have e : nI (tq n i) <<< (nI 1 &&& 31) ||| nI n >>> (nI i &&& 31) &&& nI 1 = nI (tq n (i + 1)) := by
          rw [n_bit (by omega) (by omega), n_shl (by omega) (by omega), n_or]
          show nI (tq n i * 2 ||| bi n i) = _
          rw [Nat.mul_comm, n_or2 hb]
          rfl
        exact ⟨13 - (i + 1), by omega, i + 1, by omega, rfl, rfl, rfl, rfl, rfl, rfl, by rw [e, nI_add], rfl⟩
end
section
/-! RELATIONS: more leaves -/
def q_X2_allNear : x_K := (1, fun as S M => ∃ (n : Nat), n < 8192 ∧ as = [.inl (nI n)], fun as S M rv_ S' M' => ∀ (n : Nat), n < 8192 → as = [.inl (nI n)] → S' = S ∧ M' = M ∧ rv_ = some (.inl (nI (fo neT n 13))), 0, 0)
def b_X2_allNear : x_B := [(0, 1, [(.iconst 0, 1), (.istore_n 1, 1), (.iconst 0, 1), (.istore_n 2, 1)]),
  (4, 3, [(.iload_n 2, 1), (.bipush 13, 2), (.if_icmp .ge 25, 3), (.iload_n 0, 1), (.iload_n 2, 1), (.ishr, 1), (.iconst 1, 1), (.iand, 1), (.ifCond .eq 11, 3), (.iload_n 1, 1), (.getstatic 15, 3), (.iload_n 2, 1), (.iaload, 1), (.ior, 1), (.istore_n 1, 1)]),
  (26, 3, [(.iinc 2 1, 3), (.goto (-25), 3)]),
  (32, 3, [(.iload_n 1, 1), (.ireturn, 1)])]
theorem b_X2_allNear_ok : x_okB cX2_allNear 3 b_X2_allNear = true := by decide +kernel
def X_X2_allNear : x_X := ([], [(15, 2)], [], [], [], (0, 0), x_kn, x_kf, 5, false)
theorem X_X2_allNear_ok : x_okT RX2 X_X2_allNear = true := by decide +kernel
theorem k_X2_allNear (l : Launch) : ∀ z ∈ X_X2_allNear.2.2.2.2.1, x_Cal l (x_rm 1 0 0) cX2_allNear RX2 3 z.1 z.2 := fun _ h => absurd h List.not_mem_nil
set_option maxHeartbeats 4000000 in
set_option maxRecDepth 100000 in
theorem c_X2_allNear (l : Launch) : x_CT l yX2_allNear cX2_allNear 3 (some .int) 1 q_X2_allNear := by
  refine x_meth (X := X_X2_allNear) (bl := b_X2_allNear) (cut := [4]) (own := RX2) 30 (by decide) rfl X_X2_allNear_ok b_X2_allNear_ok rfl (by decide) (k_X2_allNear l) ?_
  rintro as S M - ⟨n, hn, rfl⟩
  refine ⟨fun μ pc ls st S' M' cs sl => ∃ i, i ≤ 13 ∧ pc = 4 ∧ st = [] ∧ S' = S ∧ M' = M ∧ cs = 0 ∧ sl = 0 ∧ ls = [.inl (nI n), .inl (nI (fo neT n i)), .inl (nI i)] ∧ μ = 13 - i, ?_, ?_⟩
  · skip
    refine xt_blk rfl rfl (by dsimp only [List.take]) ?_
    refine xt_ic ?_
    refine xt_isn1 rfl (by dsimp only [x_sto]) ?_
    refine xt_ic ?_
    refine xt_isn2 rfl (by dsimp only [x_sto]) ?_
    refine xt_nil (t := 4) rfl ?_
    refine xt_cut rfl rfl (by dsimp only [List.take]) ?_
    exact ⟨13, 0, by omega, rfl, rfl, rfl, rfl, rfl, rfl, rfl, rfl⟩
  · rintro μ pc ls st S2 M2 cs sl (⟨i, hi, rfl, rfl, rfl, rfl, rfl, rfl, rfl, rfl⟩)
    · refine ⟨_, rfl, ?_⟩
      refine xt_iln2 rfl ?_
      refine xt_bi ?_
      refine xt_cge (t := 32) rfl (fun hc_7 => ?_) (fun hc_7 => ?_)
      · skip
        refine xt_blk rfl rfl (by dsimp only [List.take]) ?_
        refine xt_iln1 rfl ?_
        refine xt_ri rfl (Nat.le_refl _) ?_
        have h13 : i = 13 := by rw [nI_leI (by omega) (by omega)] at hc_7; omega
        subst h13
        intro n2 h2n e2
        simp only [List.cons.injEq, Sum.inl.injEq, and_true] at e2
        have e2n := e2
        rw [nI_eq (by omega) (by omega)] at e2n
        subst e2n
        exact ⟨rfl, rfl, rfl⟩
      · skip
        refine xt_iln0 rfl ?_
        refine xt_iln2 rfl ?_
        refine xt_shr ?_
        refine xt_ic ?_
        refine xt_and ?_
        refine xt_eq (t := 26) rfl (fun hc_15 => ?_) (fun hc_15 => ?_)
        · skip
          refine xt_blk rfl rfl (by dsimp only [List.take]) ?_
          refine xt_inc rfl (by dsimp only [x_sto]) ?_
          refine xt_goto (t := 4) rfl ?_
          refine xt_cut rfl rfl (by dsimp only [List.take]) ?_
          have hlt : i < 13 := by rw [nI_leI (by omega) (by omega)] at hc_7; omega
          rw [n_bit (by omega) (by omega), n_eq0 (by have := bi_lt n i; unfold bi at this; omega)] at hc_15
          have e : fo neT n (i + 1) = fo neT n i := by
            show (if bi n i = 1 then fo neT n i ||| neT i else fo neT n i) = _
            rw [if_neg (by unfold bi; omega)]
          exact ⟨13 - (i + 1), by omega, i + 1, by omega, rfl, rfl, rfl, rfl, rfl, rfl, by rw [nI_add, e], rfl⟩
        · skip
          refine xt_iln1 rfl ?_
          refine xt_gs (q := 2) rfl ?_
          refine xt_iln2 rfl ?_
          refine xt_kal rfl (show vp_in _ 13 from vp_in_nI (by rw [nI_leI (by omega) (by omega)] at hc_7; omega) (by decide)) ?_
          refine xt_or ?_
          refine xt_isn1 rfl (by dsimp only [x_sto]) ?_
          refine xt_nil (t := 26) rfl ?_
          refine xt_blk rfl rfl (by dsimp only [List.take]) ?_
          refine xt_inc rfl (by dsimp only [x_sto]) ?_
          refine xt_goto (t := 4) rfl ?_
          refine xt_cut rfl rfl (by dsimp only [List.take]) ?_
          have hlt : i < 13 := by rw [nI_leI (by omega) (by omega)] at hc_7; omega
          rw [n_bit (by omega) (by omega), n_eq0 (by have := bi_lt n i; unfold bi at this; omega)] at hc_15
          have hb := bi_lt n i
          have e : fo neT n (i + 1) = fo neT n i ||| neT i := by
            show (if bi n i = 1 then fo neT n i ||| neT i else fo neT n i) = _
            rw [if_pos (by unfold bi at hb ⊢; omega)]
          have e4 : x_kf 2 (nI i).toNatClampNeg = nI (neT i) := by rw [nI_clamp (by omega)]; rfl
          exact ⟨13 - (i + 1), by omega, i + 1, by omega, rfl, rfl, rfl, rfl, rfl, rfl, by
            show [_, Sum.inl (nI (fo neT n i) ||| x_kf 2 (nI i).toNatClampNeg), _] = _
            rw [e4, n_or, nI_add, e], rfl⟩
def q_X2_allSigns : x_K := (1, fun as S M => ∃ (n : Nat), n < 8192 ∧ as = [.inl (nI n)], fun as S M rv_ S' M' => ∀ (n : Nat), n < 8192 → as = [.inl (nI n)] → S' = S ∧ M' = M ∧ rv_ = some (.inl (nI (fo sgT n 13))), 0, 0)
def b_X2_allSigns : x_B := [(0, 1, [(.iconst 0, 1), (.istore_n 1, 1), (.iconst 0, 1), (.istore_n 2, 1)]),
  (4, 3, [(.iload_n 2, 1), (.bipush 13, 2), (.if_icmp .ge 25, 3), (.iload_n 0, 1), (.iload_n 2, 1), (.ishr, 1), (.iconst 1, 1), (.iand, 1), (.ifCond .eq 11, 3), (.iload_n 1, 1), (.getstatic 26, 3), (.iload_n 2, 1), (.iaload, 1), (.ior, 1), (.istore_n 1, 1)]),
  (26, 3, [(.iinc 2 1, 3), (.goto (-25), 3)]),
  (32, 3, [(.iload_n 1, 1), (.ireturn, 1)])]
theorem b_X2_allSigns_ok : x_okB cX2_allSigns 3 b_X2_allSigns = true := by decide +kernel
def X_X2_allSigns : x_X := ([], [(26, 0)], [], [], [], (0, 0), x_kn, x_kf, 5, false)
theorem X_X2_allSigns_ok : x_okT RX2 X_X2_allSigns = true := by decide +kernel
theorem k_X2_allSigns (l : Launch) : ∀ z ∈ X_X2_allSigns.2.2.2.2.1, x_Cal l (x_rm 1 0 0) cX2_allSigns RX2 3 z.1 z.2 := fun _ h => absurd h List.not_mem_nil
set_option maxHeartbeats 4000000 in
set_option maxRecDepth 100000 in
theorem c_X2_allSigns (l : Launch) : x_CT l yX2_allSigns cX2_allSigns 3 (some .int) 1 q_X2_allSigns := by
  refine x_meth (X := X_X2_allSigns) (bl := b_X2_allSigns) (cut := [4]) (own := RX2) 30 (by decide) rfl X_X2_allSigns_ok b_X2_allSigns_ok rfl (by decide) (k_X2_allSigns l) ?_
  rintro as S M - ⟨n, hn, rfl⟩
  refine ⟨fun μ pc ls st S' M' cs sl => ∃ i, i ≤ 13 ∧ pc = 4 ∧ st = [] ∧ S' = S ∧ M' = M ∧ cs = 0 ∧ sl = 0 ∧ ls = [.inl (nI n), .inl (nI (fo sgT n i)), .inl (nI i)] ∧ μ = 13 - i, ?_, ?_⟩
  · skip
    refine xt_blk rfl rfl (by dsimp only [List.take]) ?_
    refine xt_ic ?_
    refine xt_isn1 rfl (by dsimp only [x_sto]) ?_
    refine xt_ic ?_
    refine xt_isn2 rfl (by dsimp only [x_sto]) ?_
    refine xt_nil (t := 4) rfl ?_
    refine xt_cut rfl rfl (by dsimp only [List.take]) ?_
    exact ⟨13, 0, by omega, rfl, rfl, rfl, rfl, rfl, rfl, rfl, rfl⟩
  · rintro μ pc ls st S2 M2 cs sl (⟨i, hi, rfl, rfl, rfl, rfl, rfl, rfl, rfl, rfl⟩)
    · refine ⟨_, rfl, ?_⟩
      refine xt_iln2 rfl ?_
      refine xt_bi ?_
      refine xt_cge (t := 32) rfl (fun hc_7 => ?_) (fun hc_7 => ?_)
      · skip
        refine xt_blk rfl rfl (by dsimp only [List.take]) ?_
        refine xt_iln1 rfl ?_
        refine xt_ri rfl (Nat.le_refl _) ?_
        have h13 : i = 13 := by rw [nI_leI (by omega) (by omega)] at hc_7; omega
        subst h13
        intro n2 h2n e2
        simp only [List.cons.injEq, Sum.inl.injEq, and_true] at e2
        have e2n := e2
        rw [nI_eq (by omega) (by omega)] at e2n
        subst e2n
        exact ⟨rfl, rfl, rfl⟩
      · skip
        refine xt_iln0 rfl ?_
        refine xt_iln2 rfl ?_
        refine xt_shr ?_
        refine xt_ic ?_
        refine xt_and ?_
        refine xt_eq (t := 26) rfl (fun hc_15 => ?_) (fun hc_15 => ?_)
        · skip
          refine xt_blk rfl rfl (by dsimp only [List.take]) ?_
          refine xt_inc rfl (by dsimp only [x_sto]) ?_
          refine xt_goto (t := 4) rfl ?_
          refine xt_cut rfl rfl (by dsimp only [List.take]) ?_
          have hlt : i < 13 := by rw [nI_leI (by omega) (by omega)] at hc_7; omega
          rw [n_bit (by omega) (by omega), n_eq0 (by have := bi_lt n i; unfold bi at this; omega)] at hc_15
          have e : fo sgT n (i + 1) = fo sgT n i := by
            show (if bi n i = 1 then fo sgT n i ||| sgT i else fo sgT n i) = _
            rw [if_neg (by unfold bi; omega)]
          exact ⟨13 - (i + 1), by omega, i + 1, by omega, rfl, rfl, rfl, rfl, rfl, rfl, by rw [nI_add, e], rfl⟩
        · skip
          refine xt_iln1 rfl ?_
          refine xt_gs (q := 0) rfl ?_
          refine xt_iln2 rfl ?_
          refine xt_kal rfl (show vp_in _ 13 from vp_in_nI (by rw [nI_leI (by omega) (by omega)] at hc_7; omega) (by decide)) ?_
          refine xt_or ?_
          refine xt_isn1 rfl (by dsimp only [x_sto]) ?_
          refine xt_nil (t := 26) rfl ?_
          refine xt_blk rfl rfl (by dsimp only [List.take]) ?_
          refine xt_inc rfl (by dsimp only [x_sto]) ?_
          refine xt_goto (t := 4) rfl ?_
          refine xt_cut rfl rfl (by dsimp only [List.take]) ?_
          have hlt : i < 13 := by rw [nI_leI (by omega) (by omega)] at hc_7; omega
          rw [n_bit (by omega) (by omega), n_eq0 (by have := bi_lt n i; unfold bi at this; omega)] at hc_15
          have hb := bi_lt n i
          have e : fo sgT n (i + 1) = fo sgT n i ||| sgT i := by
            show (if bi n i = 1 then fo sgT n i ||| sgT i else fo sgT n i) = _
            rw [if_pos (by unfold bi at hb ⊢; omega)]
          have e4 : x_kf 0 (nI i).toNatClampNeg = nI (sgT i) := by rw [nI_clamp (by omega)]; rfl
          exact ⟨13 - (i + 1), by omega, i + 1, by omega, rfl, rfl, rfl, rfl, rfl, rfl, by
            show [_, Sum.inl (nI (fo sgT n i) ||| x_kf 0 (nI i).toNatClampNeg), _] = _
            rw [e4, n_or, nI_add, e], rfl⟩
/-- the least bit of n from i on, below 13 -/
def lsf (n : Nat) : Nat → Nat → Nat
  | 0, _ => 0
  | f + 1, i => if bi n i = 1 then i else lsf n f (i + 1)
def ls13 (n : Nat) : Nat := lsf n 13 0
def q_X2_least : x_K := (1, fun as S M => ∃ (n : Nat), n < 8192 ∧ as = [.inl (nI n)], fun as S M rv_ S' M' => ∀ (n : Nat), n < 8192 → as = [.inl (nI n)] → S' = S ∧ M' = M ∧ rv_ = some (.inl (nI (ls13 n))), 0, 0)
def b_X2_least : x_B := [(0, 1, [(.iconst 0, 1), (.istore_n 1, 1)]),
  (2, 2, [(.iload_n 1, 1), (.bipush 13, 2), (.if_icmp .ge 19, 3), (.iload_n 0, 1), (.iload_n 1, 1), (.ishr, 1), (.iconst 1, 1), (.iand, 1), (.ifCond .eq 5, 3), (.iload_n 1, 1), (.ireturn, 1)]),
  (18, 2, [(.iinc 1 1, 3), (.goto (-19), 3)]),
  (24, 2, [(.iconst 0, 1), (.ireturn, 1)])]
theorem b_X2_least_ok : x_okB cX2_least 2 b_X2_least = true := by decide +kernel
def X_X2_least : x_X := ([], [], [], [], [], (0, 0), x_kn, x_kf, 5, false)
theorem X_X2_least_ok : x_okT RX2 X_X2_least = true := by decide +kernel
theorem k_X2_least (l : Launch) : ∀ z ∈ X_X2_least.2.2.2.2.1, x_Cal l (x_rm 1 0 0) cX2_least RX2 2 z.1 z.2 := fun _ h => absurd h List.not_mem_nil
set_option maxHeartbeats 4000000 in
set_option maxRecDepth 100000 in
theorem c_X2_least (l : Launch) : x_CT l yX2_least cX2_least 2 (some .int) 1 q_X2_least := by
  refine x_meth (X := X_X2_least) (bl := b_X2_least) (cut := [2]) (own := RX2) 30 (by decide) rfl X_X2_least_ok b_X2_least_ok rfl (by decide) (k_X2_least l) ?_
  rintro as S M - ⟨n, hn, rfl⟩
  refine ⟨fun μ pc ls st S' M' cs sl => ∃ i, i ≤ 13 ∧ pc = 2 ∧ st = [] ∧ S' = S ∧ M' = M ∧ cs = 0 ∧ sl = 0 ∧ ls = [.inl (nI n), .inl (nI i)] ∧ μ = 13 - i ∧ ls13 n = lsf n (13 - i) i, ?_, ?_⟩
  · skip
    refine xt_blk rfl rfl (by dsimp only [List.take]) ?_
    refine xt_ic ?_
    refine xt_isn1 rfl (by dsimp only [x_sto]) ?_
    refine xt_nil (t := 2) rfl ?_
    refine xt_cut rfl rfl (by dsimp only [List.take]) ?_
    exact ⟨13, 0, by omega, rfl, rfl, rfl, rfl, rfl, rfl, rfl, rfl, rfl⟩
  · rintro μ pc ls st S2 M2 cs sl (⟨i, hi, rfl, rfl, rfl, rfl, rfl, rfl, rfl, rfl, hl⟩)
    · refine ⟨_, rfl, ?_⟩
      refine xt_iln1 rfl ?_
      refine xt_bi ?_
      refine xt_cge (t := 24) rfl (fun hc_5 => ?_) (fun hc_5 => ?_)
      · skip
        refine xt_blk rfl rfl (by dsimp only [List.take]) ?_
        refine xt_ic ?_
        refine xt_ri rfl (Nat.le_refl _) ?_
        have h13 : i = 13 := by rw [nI_leI (by omega) (by omega)] at hc_5; omega
        subst h13
        intro n2 h2n e2
        simp only [List.cons.injEq, Sum.inl.injEq, and_true] at e2
        have e2n := e2
        rw [nI_eq (by omega) (by omega)] at e2n
        subst e2n
        exact ⟨rfl, rfl, by rw [hl]; rfl⟩
      · skip
        refine xt_iln0 rfl ?_
        refine xt_iln1 rfl ?_
        refine xt_shr ?_
        refine xt_ic ?_
        refine xt_and ?_
        refine xt_eq (t := 18) rfl (fun hc_13 => ?_) (fun hc_13 => ?_)
        · skip
          refine xt_blk rfl rfl (by dsimp only [List.take]) ?_
          refine xt_inc rfl (by dsimp only [x_sto]) ?_
          refine xt_goto (t := 2) rfl ?_
          refine xt_cut rfl rfl (by dsimp only [List.take]) ?_
          have hlt : i < 13 := by rw [nI_leI (by omega) (by omega)] at hc_5; omega
          rw [n_bit (by omega) (by omega), n_eq0 (by have := bi_lt n i; unfold bi at this; omega)] at hc_13
          have e : lsf n (13 - i) i = lsf n (13 - (i + 1)) (i + 1) := by
            rw [show 13 - i = (13 - (i + 1)) + 1 by omega]
            show (if bi n i = 1 then i else _) = _
            rw [if_neg (by unfold bi; omega)]
          exact ⟨13 - (i + 1), by omega, i + 1, by omega, rfl, rfl, rfl, rfl, rfl, rfl, by rw [nI_add], rfl, by rw [hl, e]⟩
        · skip
          refine xt_iln1 rfl ?_
          refine xt_ri rfl (Nat.le_refl _) ?_
          have hlt : i < 13 := by rw [nI_leI (by omega) (by omega)] at hc_5; omega
          have hb := bi_lt n i
          rw [n_bit (by omega) (by omega), n_eq0 (by unfold bi at hb; omega)] at hc_13
          have e : lsf n (13 - i) i = i := by
            rw [show 13 - i = (13 - (i + 1)) + 1 by omega]
            show (if bi n i = 1 then i else _) = _
            rw [if_pos (by unfold bi at hb ⊢; omega)]
          intro n2 h2n e2
          simp only [List.cons.injEq, Sum.inl.injEq, and_true] at e2
          have e2n := e2
          rw [nI_eq (by omega) (by omega)] at e2n
          subst e2n
          exact ⟨rfl, rfl, by rw [hl, e]⟩
theorem n_sub0 {a b : Nat} (ha : a < 2 ^ 31) (hb : b < 2 ^ 31) : nI a &&& (nI b ^^^ -(nI 1)) = 0 ↔ a &&& b = a := by
  have e : (-(nI 1)) = nI (2 ^ 32 - 1) := by decide
  have hx : b ^^^ (2 ^ 32 - 1) < 2 ^ 32 := Nat.xor_lt_two_pow (by omega) (by omega)
  have hle : a &&& (b ^^^ (2 ^ 32 - 1)) ≤ a := Nat.and_le_left
  rw [e, n_xor, n_and, n_eq0 (by omega)]
  constructor
  · intro h
    apply Nat.eq_of_testBit_eq
    intro i
    have hi := congrArg (fun z => z.testBit i) h
    simp only [Nat.testBit_and, Nat.testBit_xor, Nat.testBit_two_pow_sub_one, Nat.zero_testBit] at hi ⊢
    by_cases h32 : i < 32
    · simp [h32] at hi
      cases hA : a.testBit i <;> cases hB : b.testBit i <;> simp_all
    · have hA : a.testBit i = false := Nat.testBit_lt_two_pow (Nat.lt_of_lt_of_le ha (Nat.pow_le_pow_right (by decide) (by omega)))
      simp [hA]
  · intro h
    apply Nat.eq_of_testBit_eq
    intro i
    have hi := congrArg (fun z => z.testBit i) h
    simp only [Nat.testBit_and, Nat.testBit_xor, Nat.testBit_two_pow_sub_one, Nat.zero_testBit] at hi ⊢
    by_cases h32 : i < 32
    · simp [h32]
      cases hA : a.testBit i <;> cases hB : b.testBit i <;> simp_all
    · have hA : a.testBit i = false := Nat.testBit_lt_two_pow (Nat.lt_of_lt_of_le ha (Nat.pow_le_pow_right (by decide) (by omega)))
      simp [hA]
def q_X2_isWithin : x_K := (2, fun as S M => ∃ (a : Nat) (b : Nat), a < 8192 ∧ b < 8192 ∧ as = [.inl (nI a), .inl (nI b)], fun as S M rv_ S' M' => ∀ (a : Nat) (b : Nat), a < 8192 → b < 8192 → as = [.inl (nI a), .inl (nI b)] → S' = S ∧ M' = M ∧ rv_ = some (.inl (if a &&& b = a then nI 1 else nI 0)), 0, 0)
def b_X2_isWithin : x_B := [(0, 2, [(.iload_n 0, 1), (.iload_n 1, 1), (.iconst (-1), 1), (.ixor, 1), (.iand, 1), (.ifCond .ne 7, 3), (.iconst 1, 1), (.goto 4, 3)]),
  (12, 2, [(.iconst 0, 1)]),
  (13, 2, [(.ireturn, 1)])]
theorem b_X2_isWithin_ok : x_okB cX2_isWithin 2 b_X2_isWithin = true := by decide +kernel
def X_X2_isWithin : x_X := ([], [], [], [], [], (0, 0), x_kn, x_kf, 5, false)
theorem X_X2_isWithin_ok : x_okT RX2 X_X2_isWithin = true := by decide +kernel
theorem k_X2_isWithin (l : Launch) : ∀ z ∈ X_X2_isWithin.2.2.2.2.1, x_Cal l (x_rm 1 0 0) cX2_isWithin RX2 2 z.1 z.2 := fun _ h => absurd h List.not_mem_nil
set_option maxHeartbeats 4000000 in
set_option maxRecDepth 100000 in
theorem c_X2_isWithin (l : Launch) : x_CT l yX2_isWithin cX2_isWithin 2 (some .boolean) 1 q_X2_isWithin := by
  refine x_meth (X := X_X2_isWithin) (bl := b_X2_isWithin) (cut := []) (own := RX2) 30 (by decide) rfl X_X2_isWithin_ok b_X2_isWithin_ok rfl (by decide) (k_X2_isWithin l) ?_
  rintro as S M - ⟨a, b, ha, hb, rfl⟩
  refine ⟨fun _ _ _ _ _ _ _ _ => False, ?_, ?_⟩
  · skip
    refine xt_blk rfl rfl (by dsimp only [List.take]) ?_
    refine xt_iln0 rfl ?_
    refine xt_iln1 rfl ?_
    refine xt_icm rfl ?_
    refine xt_xor ?_
    refine xt_and ?_
    refine xt_ne (t := 12) rfl (fun hc_5 => ?_) (fun hc_5 => ?_)
    · skip
      refine xt_blk rfl rfl (by dsimp only [List.take]) ?_
      refine xt_ic ?_
      refine xt_nil (t := 13) rfl ?_
      refine xt_blk rfl rfl (by dsimp only [List.take]) ?_
      refine xt_rz (by decide) rfl (Nat.le_refl _) ?_
      rw [n_sub0 (by omega) (by omega)] at hc_5
      intro a2 b2 h2a h2b e2
      simp only [List.cons.injEq, Sum.inl.injEq, and_true] at e2
      obtain ⟨e2a, e2b⟩ := e2
      rw [nI_eq (by omega) (by omega)] at e2a
      subst e2a
      rw [nI_eq (by omega) (by omega)] at e2b
      subst e2b
      exact ⟨rfl, rfl, by rw [if_neg hc_5]⟩
    · skip
      refine xt_ic ?_
      refine xt_goto (t := 13) rfl ?_
      refine xt_blk rfl rfl (by dsimp only [List.take]) ?_
      refine xt_rz (by decide) rfl (Nat.le_refl _) ?_
      rw [n_sub0 (by omega) (by omega)] at hc_5
      intro a2 b2 h2a h2b e2
      simp only [List.cons.injEq, Sum.inl.injEq, and_true] at e2
      obtain ⟨e2a, e2b⟩ := e2
      rw [nI_eq (by omega) (by omega)] at e2a
      subst e2a
      rw [nI_eq (by omega) (by omega)] at e2b
      subst e2b
      exact ⟨rfl, rfl, by rw [if_pos hc_5]⟩
  · intro μ pc ls st S2 M2 cs sl h; exact h.elim
def q_X2_areNear : x_K := (2, fun as S M => ∃ (r : Nat) (s : Nat), r < 13 ∧ s < 13 ∧ as = [.inl (nI r), .inl (nI s)], fun as S M rv_ S' M' => ∀ (r : Nat) (s : Nat), r < 13 → s < 13 → as = [.inl (nI r), .inl (nI s)] → S' = S ∧ M' = M ∧ rv_ = some (.inl (nI (bi (neT r) s))), 0, 0)
def b_X2_areNear : x_B := [(0, 2, [(.getstatic 15, 3), (.iload_n 0, 1), (.iaload, 1), (.iload_n 1, 1), (.ishr, 1), (.iconst 1, 1), (.iand, 1), (.ifCond .eq 7, 3), (.iconst 1, 1), (.goto 4, 3)]),
  (16, 2, [(.iconst 0, 1)]),
  (17, 2, [(.ireturn, 1)])]
theorem b_X2_areNear_ok : x_okB cX2_areNear 2 b_X2_areNear = true := by decide +kernel
def X_X2_areNear : x_X := ([], [(15, 2)], [], [], [], (0, 0), x_kn, x_kf, 5, false)
theorem X_X2_areNear_ok : x_okT RX2 X_X2_areNear = true := by decide +kernel
theorem k_X2_areNear (l : Launch) : ∀ z ∈ X_X2_areNear.2.2.2.2.1, x_Cal l (x_rm 1 0 0) cX2_areNear RX2 2 z.1 z.2 := fun _ h => absurd h List.not_mem_nil
set_option maxHeartbeats 4000000 in
set_option maxRecDepth 100000 in
theorem c_X2_areNear (l : Launch) : x_CT l yX2_areNear cX2_areNear 2 (some .boolean) 1 q_X2_areNear := by
  refine x_meth (X := X_X2_areNear) (bl := b_X2_areNear) (cut := []) (own := RX2) 30 (by decide) rfl X_X2_areNear_ok b_X2_areNear_ok rfl (by decide) (k_X2_areNear l) ?_
  rintro as S M - ⟨r, s, hr, hs, rfl⟩
  refine ⟨fun _ _ _ _ _ _ _ _ => False, ?_, ?_⟩
  · skip
    refine xt_blk rfl rfl (by dsimp only [List.take]) ?_
    refine xt_gs (q := 2) rfl ?_
    refine xt_iln0 rfl ?_
    refine xt_kal rfl (show vp_in _ 13 from vp_in_nI (by omega) (by decide)) ?_
    refine xt_iln1 rfl ?_
    refine xt_shr ?_
    refine xt_ic ?_
    refine xt_and ?_
    refine xt_eq (t := 16) rfl (fun hc_9 => ?_) (fun hc_9 => ?_)
    · skip
      refine xt_blk rfl rfl (by dsimp only [List.take]) ?_
      refine xt_ic ?_
      refine xt_nil (t := 17) rfl ?_
      refine xt_blk rfl rfl (by dsimp only [List.take]) ?_
      refine xt_rz (by decide) rfl (Nat.le_refl _) ?_
      have e4 : x_kf 2 (nI r).toNatClampNeg = nI (neT r) := by rw [nI_clamp (by omega)]; rfl
      have hn := neT_lt r
      have hb := bi_lt (neT r) s
      have e5 : x_kf 2 (nI r).toNatClampNeg >>> (nI s &&& 31) &&& nI 1 = nI (bi (neT r) s) := by rw [e4, n_bit (by omega) (by omega)]; rfl
      have hc :  nI (bi (neT r) s) = 0 := by rw [← e5]; exact hc_9
      rw [n_eq0 (by omega)] at hc
      intro r2 s2 h2r h2s e2
      simp only [List.cons.injEq, Sum.inl.injEq, and_true] at e2
      obtain ⟨e2r, e2s⟩ := e2
      rw [nI_eq (by omega) (by omega)] at e2r
      subst e2r
      rw [nI_eq (by omega) (by omega)] at e2s
      subst e2s
      exact ⟨rfl, rfl, by rw [show bi (neT r) s = 0 by omega]⟩
    · skip
      refine xt_ic ?_
      refine xt_goto (t := 17) rfl ?_
      refine xt_blk rfl rfl (by dsimp only [List.take]) ?_
      refine xt_rz (by decide) rfl (Nat.le_refl _) ?_
      have e4 : x_kf 2 (nI r).toNatClampNeg = nI (neT r) := by rw [nI_clamp (by omega)]; rfl
      have hn := neT_lt r
      have hb := bi_lt (neT r) s
      have e5 : x_kf 2 (nI r).toNatClampNeg >>> (nI s &&& 31) &&& nI 1 = nI (bi (neT r) s) := by rw [e4, n_bit (by omega) (by omega)]; rfl
      have hc : ¬ nI (bi (neT r) s) = 0 := by rw [← e5]; exact hc_9
      rw [n_eq0 (by omega)] at hc
      intro r2 s2 h2r h2s e2
      simp only [List.cons.injEq, Sum.inl.injEq, and_true] at e2
      obtain ⟨e2r, e2s⟩ := e2
      rw [nI_eq (by omega) (by omega)] at e2r
      subst e2r
      rw [nI_eq (by omega) (by omega)] at e2s
      subst e2s
      exact ⟨rfl, rfl, by rw [show bi (neT r) s = 1 by omega]⟩
  · intro μ pc ls st S2 M2 cs sl h; exact h.elim
def q_X2_sign : x_K := (2, fun as S M => ∃ (x : Int32) (y : Int32), as = [.inl x, .inl y], fun as S M rv_ S' M' => ∀ (x : Int32) (y : Int32), as = [.inl x, .inl y] → S' = S ∧ M' = M ∧ rv_ = some (.inl (if x < y then nI 1 else if x = y then nI 2 else nI 4)), 0, 0)
def b_X2_sign : x_B := [(0, 2, [(.iload_n 0, 1), (.iload_n 1, 1), (.if_icmp .ge 7, 3), (.iconst 1, 1), (.goto 13, 3)]),
  (9, 2, [(.iload_n 0, 1), (.iload_n 1, 1), (.if_icmp .ne 7, 3), (.iconst 2, 1), (.goto 4, 3)]),
  (18, 2, [(.iconst 4, 1)]),
  (19, 2, [(.ireturn, 1)])]
theorem b_X2_sign_ok : x_okB cX2_sign 2 b_X2_sign = true := by decide +kernel
def X_X2_sign : x_X := ([], [], [], [], [], (0, 0), x_kn, x_kf, 5, false)
theorem X_X2_sign_ok : x_okT RX2 X_X2_sign = true := by decide +kernel
theorem k_X2_sign (l : Launch) : ∀ z ∈ X_X2_sign.2.2.2.2.1, x_Cal l (x_rm 1 0 0) cX2_sign RX2 2 z.1 z.2 := fun _ h => absurd h List.not_mem_nil
set_option maxHeartbeats 4000000 in
set_option maxRecDepth 100000 in
theorem c_X2_sign (l : Launch) : x_CT l yX2_sign cX2_sign 2 (some .int) 1 q_X2_sign := by
  refine x_meth (X := X_X2_sign) (bl := b_X2_sign) (cut := []) (own := RX2) 30 (by decide) rfl X_X2_sign_ok b_X2_sign_ok rfl (by decide) (k_X2_sign l) ?_
  rintro as S M - ⟨x, y, rfl⟩
  refine ⟨fun _ _ _ _ _ _ _ _ => False, ?_, ?_⟩
  · skip
    refine xt_blk rfl rfl (by dsimp only [List.take]) ?_
    refine xt_iln0 rfl ?_
    refine xt_iln1 rfl ?_
    refine xt_cge (t := 9) rfl (fun hc_2 => ?_) (fun hc_2 => ?_)
    · skip
      refine xt_blk rfl rfl (by dsimp only [List.take]) ?_
      refine xt_iln0 rfl ?_
      refine xt_iln1 rfl ?_
      refine xt_cne (t := 18) rfl (fun hc_11 => ?_) (fun hc_11 => ?_)
      · skip
        refine xt_blk rfl rfl (by dsimp only [List.take]) ?_
        refine xt_ic ?_
        refine xt_nil (t := 19) rfl ?_
        refine xt_blk rfl rfl (by dsimp only [List.take]) ?_
        refine xt_ri rfl (Nat.le_refl _) ?_
        intro x2 y2 e2
        simp only [List.cons.injEq, Sum.inl.injEq, and_true] at e2
        obtain ⟨e2x, e2y⟩ := e2
        subst e2x
        subst e2y
        exact ⟨rfl, rfl, by rw [if_neg (Int32.not_lt.mpr hc_2), if_neg hc_11]⟩
      · skip
        refine xt_ic ?_
        refine xt_goto (t := 19) rfl ?_
        refine xt_blk rfl rfl (by dsimp only [List.take]) ?_
        refine xt_ri rfl (Nat.le_refl _) ?_
        intro x2 y2 e2
        simp only [List.cons.injEq, Sum.inl.injEq, and_true] at e2
        obtain ⟨e2x, e2y⟩ := e2
        subst e2x
        subst e2y
        exact ⟨rfl, rfl, by rw [if_neg (Int32.not_lt.mpr hc_2), if_pos hc_11]⟩
    · skip
      refine xt_ic ?_
      refine xt_goto (t := 19) rfl ?_
      refine xt_blk rfl rfl (by dsimp only [List.take]) ?_
      refine xt_ri rfl (Nat.le_refl _) ?_
      intro x2 y2 e2
      simp only [List.cons.injEq, Sum.inl.injEq, and_true] at e2
      obtain ⟨e2x, e2y⟩ := e2
      subst e2x
      subst e2y
      exact ⟨rfl, rfl, by rw [if_pos (Int32.not_le.mp hc_2)]⟩
  · intro μ pc ls st S2 M2 cs sl h; exact h.elim
def q_X2_signOfEnds : x_K := (3, fun as S M => ∃ (r : Nat) (e : Nat) (o : Nat), r < 13 ∧ e < 2 ∧ o < 2 ∧ as = [.inl (nI r), .inl (nI e), .inl (nI o)], fun as S M rv_ S' M' => ∀ (r : Nat) (e : Nat) (o : Nat), r < 13 → e < 2 → o < 2 → as = [.inl (nI r), .inl (nI e), .inl (nI o)] → S' = S ∧ M' = M ∧ rv_ = some (.inl (nI (sgT r / 2 ^ ((3 - (2 * e + o)) * 4) % 8))), 0, 0)
def b_X2_signOfEnds : x_B := [(0, 3, [(.iconst 3, 1), (.iload_n 1, 1), (.iconst 2, 1), (.imul, 1), (.iload_n 2, 1), (.iadd, 1), (.isub, 1), (.istore_n 3, 1), (.getstatic 26, 3), (.iload_n 0, 1), (.iaload, 1), (.iload_n 3, 1), (.iconst 4, 1), (.imul, 1), (.ishr, 1), (.bipush 7, 2), (.iand, 1), (.ireturn, 1)])]
theorem b_X2_signOfEnds_ok : x_okB cX2_signOfEnds 4 b_X2_signOfEnds = true := by decide +kernel
def X_X2_signOfEnds : x_X := ([], [(26, 0)], [], [], [], (0, 0), x_kn, x_kf, 5, false)
theorem X_X2_signOfEnds_ok : x_okT RX2 X_X2_signOfEnds = true := by decide +kernel
theorem k_X2_signOfEnds (l : Launch) : ∀ z ∈ X_X2_signOfEnds.2.2.2.2.1, x_Cal l (x_rm 1 0 0) cX2_signOfEnds RX2 4 z.1 z.2 := fun _ h => absurd h List.not_mem_nil
set_option maxHeartbeats 4000000 in
set_option maxRecDepth 100000 in
theorem c_X2_signOfEnds (l : Launch) : x_CT l yX2_signOfEnds cX2_signOfEnds 4 (some .int) 1 q_X2_signOfEnds := by
  refine x_meth (X := X_X2_signOfEnds) (bl := b_X2_signOfEnds) (cut := []) (own := RX2) 30 (by decide) rfl X_X2_signOfEnds_ok b_X2_signOfEnds_ok rfl (by decide) (k_X2_signOfEnds l) ?_
  rintro as S M - ⟨r, e, o, hr, he, ho, rfl⟩
  refine ⟨fun _ _ _ _ _ _ _ _ => False, ?_, ?_⟩
  · skip
    refine xt_blk rfl rfl (by dsimp only [List.take]) ?_
    refine xt_ic ?_
    refine xt_iln1 rfl ?_
    refine xt_ic ?_
    refine xt_mul ?_
    refine xt_iln2 rfl ?_
    refine xt_add ?_
    refine xt_sub ?_
    refine xt_isn3 rfl (by dsimp only [x_sto]) ?_
    refine xt_gs (q := 0) rfl ?_
    refine xt_iln0 rfl ?_
    refine xt_kal rfl (show vp_in _ 13 from vp_in_nI (by omega) (by decide)) ?_
    refine xt_iln3 rfl ?_
    refine xt_ic ?_
    refine xt_mul ?_
    refine xt_shr ?_
    refine xt_bi ?_
    refine xt_and ?_
    refine xt_ri rfl (Nat.le_refl _) ?_
    have e4 : x_kf 0 (nI r).toNatClampNeg = nI (sgT r) := by rw [nI_clamp (by omega)]; rfl
    have hs := sgT_lt r
    have e5 : x_kf 0 (nI r).toNatClampNeg >>> ((nI 3 - (nI e * nI 2 + nI o)) * nI 4 &&& 31) &&& nI 7 = nI (sgT r / 2 ^ ((3 - (2 * e + o)) * 4) % 8) := by
      rw [e4, pk_mul, nI_add, pk_sub (by omega), pk_mul, n_shr (by omega) (by omega), pk_andN (by have := Nat.div_le_self (sgT r) (2 ^ ((3 - (e * 2 + o)) * 4)); omega) 3 (by decide), Nat.mul_comm e 2]
    intro r2 e2 o2 h2r h2e h2o e2
    simp only [List.cons.injEq, Sum.inl.injEq, and_true] at e2
    obtain ⟨e2r, e2e, e2o⟩ := e2
    rw [nI_eq (by omega) (by omega)] at e2r
    subst e2r
    rw [nI_eq (by omega) (by omega)] at e2e
    subst e2e
    rw [nI_eq (by omega) (by omega)] at e2o
    subst e2o
    exact ⟨rfl, rfl, congrArg some (congrArg Sum.inl e5)⟩
  · intro μ pc ls st S2 M2 cs sl h; exact h.elim
end
section
/-! composing -/
theorem bi_tb (n i : Nat) : bi n i = 1 ↔ n.testBit i = true := by
  unfold bi
  rw [Nat.testBit_eq_decide_div_mod_eq]
  simp
theorem fo_tb {T : Nat → Nat} {n b : Nat} : ∀ k, (fo T n k).testBit b = true ↔ ∃ i, i < k ∧ n.testBit i = true ∧ (T i).testBit b = true
  | 0 => by simp [fo]
  | k + 1 => by
    show (if bi n k = 1 then fo T n k ||| T k else fo T n k).testBit b = true ↔ _
    split
    · rename_i h
      rw [bi_tb] at h
      rw [Nat.testBit_or, Bool.or_eq_true, fo_tb k]
      constructor
      · rintro (⟨i, h1, h2⟩ | h1)
        · exact ⟨i, by omega, h2⟩
        · exact ⟨k, by omega, h, h1⟩
      · rintro ⟨i, h1, h2, h3⟩
        by_cases e : i = k
        · subst e; exact Or.inr h3
        · exact Or.inl ⟨i, by omega, h2, h3⟩
    · rename_i h
      rw [bi_tb] at h
      rw [fo_tb k]
      constructor
      · rintro ⟨i, h1, h2⟩; exact ⟨i, by omega, h2⟩
      · rintro ⟨i, h1, h2, h3⟩
        by_cases e : i = k
        · subst e; exact absurd h2 h
        · exact ⟨i, by omega, h2, h3⟩
def cmR (s i : Nat) : Nat := fo (fun j => cmT (i * 13 + j)) s 13
def cm (r s : Nat) : Nat := fo (cmR s) r 13
theorem cmR_lt (s i : Nat) : cmR s i < 2 ^ 13 := fo_lt (fun j => cmT_lt _) 13
theorem cm_lt (r s : Nat) : cm r s < 2 ^ 13 := fo_lt (cmR_lt s) 13
theorem cm_tb {r s b : Nat} : (cm r s).testBit b = true ↔ ∃ i j, i < 13 ∧ j < 13 ∧ r.testBit i = true ∧ s.testBit j = true ∧ (cmT (i * 13 + j)).testBit b = true := by
  unfold cm
  rw [fo_tb]
  constructor
  · rintro ⟨i, h1, h2, h3⟩
    unfold cmR at h3
    rw [fo_tb] at h3
    obtain ⟨j, g1, g2, g3⟩ := h3
    exact ⟨i, j, h1, g1, h2, g2, g3⟩
  · rintro ⟨i, j, h1, g1, h2, g2, g3⟩
    exact ⟨i, h1, h2, by unfold cmR; rw [fo_tb]; exact ⟨j, g1, g2, g3⟩⟩
theorem tb_lt {n b : Nat} (hn : n < 2 ^ 13) (h : n.testBit b = true) : b < 13 := by
  rcases Nat.lt_or_ge b 13 with q | q
  · exact q
  · rw [Nat.testBit_lt_two_pow (Nat.lt_of_lt_of_le hn (Nat.pow_le_pow_right (by decide) q))] at h
    cases h
theorem tb_ex {n : Nat} (hn : n < 2 ^ 13) (h0 : n ≠ 0) : ∃ b, b < 13 ∧ n.testBit b = true := by
  obtain ⟨b, hb⟩ := Nat.exists_testBit_of_ne_zero h0
  exact ⟨b, tb_lt hn hb, hb⟩
theorem tb_ext {a b : Nat} (ha : a < 2 ^ 13) (hb : b < 2 ^ 13) (h : ∀ i, i < 13 → (a.testBit i = true ↔ b.testBit i = true)) : a = b := by
  apply Nat.eq_of_testBit_eq
  intro i
  rcases Nat.lt_or_ge i 13 with q | q
  · have := h i q
    cases hA : a.testBit i <;> cases hB : b.testBit i <;> simp_all
  · rw [Nat.testBit_lt_two_pow (Nat.lt_of_lt_of_le ha (Nat.pow_le_pow_right (by decide) q)), Nat.testBit_lt_two_pow (Nat.lt_of_lt_of_le hb (Nat.pow_le_pow_right (by decide) q))]
theorem tb_all : ∀ b, b < 13 → (8191 : Nat).testBit b = true := by decide
theorem cm_allL : ∀ j, j < 13 → ∀ b, b < 13 → ∃ i, i < 13 ∧ (cmT (i * 13 + j)).testBit b = true := by decide +kernel
theorem cm_allR : ∀ i, i < 13 → ∀ b, b < 13 → ∃ j, j < 13 ∧ (cmT (i * 13 + j)).testBit b = true := by decide +kernel
theorem cm_L {s : Nat} (hs : s < 2 ^ 13) (h0 : s ≠ 0) : cm 8191 s = 8191 := by
  refine tb_ext (cm_lt _ _) (by decide) (fun b hb => ⟨fun _ => tb_all b hb, fun _ => ?_⟩)
  obtain ⟨j, hj, hsj⟩ := tb_ex hs h0
  obtain ⟨i, hi, hc⟩ := cm_allL j hj b hb
  exact cm_tb.mpr ⟨i, j, hi, hj, tb_all i hi, hsj, hc⟩
theorem cm_R {r : Nat} (hr : r < 2 ^ 13) (h0 : r ≠ 0) : cm r 8191 = 8191 := by
  refine tb_ext (cm_lt _ _) (by decide) (fun b hb => ⟨fun _ => tb_all b hb, fun _ => ?_⟩)
  obtain ⟨i, hi, hri⟩ := tb_ex hr h0
  obtain ⟨j, hj, hc⟩ := cm_allR i hi b hb
  exact cm_tb.mpr ⟨i, j, hi, hj, hri, tb_all j hj, hc⟩
theorem and_all {w : Nat} (hw : w < 2 ^ 13) : 8191 &&& w = w := by
  refine tb_ext (Nat.lt_of_le_of_lt Nat.and_le_right hw) hw (fun b hb => ?_)
  rw [Nat.testBit_and, tb_all b hb]
  simp
theorem cm_0L (s : Nat) : cm 0 s = 0 := by
  refine tb_ext (cm_lt _ _) (by decide) (fun b hb => ⟨fun h => ?_, fun h => ?_⟩)
  · obtain ⟨i, j, -, -, h1, -⟩ := cm_tb.mp h
    simp at h1
  · simp at h
theorem cm_0R (r : Nat) : cm r 0 = 0 := by
  refine tb_ext (cm_lt _ _) (by decide) (fun b hb => ⟨fun h => ?_, fun h => ?_⟩)
  · obtain ⟨i, j, -, -, -, h1, -⟩ := cm_tb.mp h
    simp at h1
  · simp at h
theorem and_sub {w a c : Nat} (h1 : w &&& a = w) (h2 : ∀ b, a.testBit b = true → c.testBit b = true) : c &&& w = w := by
  apply Nat.eq_of_testBit_eq
  intro b
  have := congrArg (fun z => z.testBit b) h1
  simp only [Nat.testBit_and] at this ⊢
  have h3 := h2 b
  cases hA : a.testBit b <;> cases hW : w.testBit b <;> cases hC : c.testBit b <;> simp_all
def q_X2_compose : x_K := (3, fun as S M => ∃ (r : Nat) (s : Nat) (w : Nat), r < 8192 ∧ s < 8192 ∧ w < 8192 ∧ as = [.inl (nI r), .inl (nI s), .inl (nI w)], fun as S M rv_ S' M' => ∀ (r : Nat) (s : Nat) (w : Nat), r < 8192 → s < 8192 → w < 8192 → as = [.inl (nI r), .inl (nI s), .inl (nI w)] → S' = S ∧ M' = M ∧ rv_ = some (.inl (nI (cm r s &&& w))), 0, 0)
def b_X2_compose : x_B := [(0, 3, [(.iload_n 0, 1), (.ifCond .eq 7, 3), (.iload_n 1, 1), (.ifCond .ne 5, 3)]),
  (8, 3, [(.iconst 0, 1), (.ireturn, 1)]),
  (10, 3, [(.iload_n 0, 1), (.sipush 8191, 3), (.if_icmp .eq 10, 3), (.iload_n 1, 1), (.sipush 8191, 3), (.if_icmp .ne 5, 3)]),
  (24, 3, [(.iload_n 2, 1), (.ireturn, 1)]),
  (26, 3, [(.iconst 0, 1), (.istore_n 3, 1), (.iconst 0, 1), (.istore 4, 2)]),
  (31, 5, [(.iload 4, 2), (.bipush 13, 2), (.if_icmp .ge 72, 3), (.iload_n 0, 1), (.iload 4, 2), (.ishr, 1), (.iconst 1, 1), (.iand, 1), (.ifCond .eq 57, 3), (.iload 4, 2), (.bipush 13, 2), (.imul, 1), (.istore 5, 2), (.iconst 0, 1), (.istore 6, 2)]),
  (57, 7, [(.iload 6, 2), (.bipush 13, 2), (.if_icmp .ge 30, 3), (.iload_n 1, 1), (.iload 6, 2), (.ishr, 1), (.iconst 1, 1), (.iand, 1), (.ifCond .eq 15, 3), (.iload_n 3, 1), (.getstatic 9, 3), (.iload 5, 2), (.iload 6, 2), (.iadd, 1), (.iaload, 1), (.ior, 1), (.istore_n 3, 1)]),
  (85, 7, [(.iinc 6 1, 3), (.goto (-31), 3)]),
  (91, 7, [(.iload_n 2, 1), (.iload_n 3, 1), (.iconst (-1), 1), (.ixor, 1), (.iand, 1), (.ifCond .ne 5, 3), (.iload_n 2, 1), (.ireturn, 1)]),
  (101, 5, [(.iinc 4 1, 3), (.goto (-73), 3)]),
  (107, 5, [(.iload_n 3, 1), (.iload_n 2, 1), (.iand, 1), (.ireturn, 1)])]
theorem b_X2_compose_ok : x_okB cX2_compose 7 b_X2_compose = true := by decide +kernel
def X_X2_compose : x_X := ([], [(9, 1)], [], [], [], (0, 0), x_kn, x_kf, 5, false)
theorem X_X2_compose_ok : x_okT RX2 X_X2_compose = true := by decide +kernel
theorem k_X2_compose (l : Launch) : ∀ z ∈ X_X2_compose.2.2.2.2.1, x_Cal l (x_rm 1 0 0) cX2_compose RX2 7 z.1 z.2 := fun _ h => absurd h List.not_mem_nil
set_option maxHeartbeats 4000000 in
set_option maxRecDepth 100000 in
theorem c_X2_compose (l : Launch) : x_CT l yX2_compose cX2_compose 7 (some .int) 1 q_X2_compose := by
  refine x_meth (X := X_X2_compose) (bl := b_X2_compose) (cut := [31, 57]) (own := RX2) 30 (by decide) rfl X_X2_compose_ok b_X2_compose_ok rfl (by decide) (k_X2_compose l) ?_
  rintro as S M - ⟨r, s, w, hr, hs, hw, rfl⟩
  refine ⟨fun μ pc ls st S' M' cs sl => (∃ i, i ≤ 13 ∧ pc = 31 ∧ st = [] ∧ S' = S ∧ M' = M ∧ cs = 0 ∧ sl = 0 ∧ ls = [.inl (nI r), .inl (nI s), .inl (nI w), .inl (nI (fo (cmR s) r i)), .inl (nI i)] ∧ μ = (13 - i) * 20) ∨ (∃ i j, i < 13 ∧ j ≤ 13 ∧ bi r i = 1 ∧ pc = 57 ∧ st = [] ∧ S' = S ∧ M' = M ∧ cs = 0 ∧ sl = 0 ∧ ls = [.inl (nI r), .inl (nI s), .inl (nI w), .inl (nI (fo (cmR s) r i ||| fo (fun j => cmT (i * 13 + j)) s j)), .inl (nI i), .inl (nI (i * 13)), .inl (nI j)] ∧ μ = (13 - i) * 20 - 1 - j), ?_, ?_⟩
  · skip
    refine xt_blk rfl rfl (by dsimp only [List.take]) ?_
    refine xt_iln0 rfl ?_
    refine xt_eq (t := 8) rfl (fun hc_1 => ?_) (fun hc_1 => ?_)
    · skip
      refine xt_blk rfl rfl (by dsimp only [List.take]) ?_
      refine xt_ic ?_
      refine xt_ri rfl (Nat.le_refl _) ?_
      intro r2 s2 w2 h2r h2s h2w e2
      simp only [List.cons.injEq, Sum.inl.injEq, and_true] at e2
      obtain ⟨e2r, e2s, e2w⟩ := e2
      rw [nI_eq (by omega) (by omega)] at e2r
      subst e2r
      rw [nI_eq (by omega) (by omega)] at e2s
      subst e2s
      rw [nI_eq (by omega) (by omega)] at e2w
      subst e2w
      have e0 : r = 0 := (n_eq0 (by omega)).mp hc_1
      subst e0
      exact ⟨rfl, rfl, by rw [cm_0L]; rw [Nat.zero_and]⟩
    · skip
      refine xt_iln1 rfl ?_
      refine xt_ne (t := 10) rfl (fun hc_5 => ?_) (fun hc_5 => ?_)
      · skip
        refine xt_blk rfl rfl (by dsimp only [List.take]) ?_
        refine xt_iln0 rfl ?_
        refine xt_si ?_
        refine xt_ceq (t := 24) rfl (fun hc_14 => ?_) (fun hc_14 => ?_)
        · skip
          refine xt_blk rfl rfl (by dsimp only [List.take]) ?_
          refine xt_iln2 rfl ?_
          refine xt_ri rfl (Nat.le_refl _) ?_
          intro r2 s2 w2 h2r h2s h2w e2
          simp only [List.cons.injEq, Sum.inl.injEq, and_true] at e2
          obtain ⟨e2r, e2s, e2w⟩ := e2
          rw [nI_eq (by omega) (by omega)] at e2r
          subst e2r
          rw [nI_eq (by omega) (by omega)] at e2s
          subst e2s
          rw [nI_eq (by omega) (by omega)] at e2w
          subst e2w
          have e0 : r = 8191 := (nI_eq (by omega) (by omega)).mp hc_14
          subst e0
          exact ⟨rfl, rfl, by rw [cm_L h2s (fun q => hc_5 (by rw [q]; rfl)), and_all h2w]⟩
        · skip
          refine xt_iln1 rfl ?_
          refine xt_si ?_
          refine xt_cne (t := 26) rfl (fun hc_21 => ?_) (fun hc_21 => ?_)
          · skip
            refine xt_blk rfl rfl (by dsimp only [List.take]) ?_
            refine xt_ic ?_
            refine xt_isn3 rfl (by dsimp only [x_sto]) ?_
            refine xt_ic ?_
            refine xt_ist rfl (by dsimp only [x_sto]) ?_
            refine xt_nil (t := 31) rfl ?_
            refine xt_cut rfl rfl (by dsimp only [List.take]) ?_
            exact ⟨13 * 20, Or.inl ⟨0, by omega, rfl, rfl, rfl, rfl, rfl, rfl, rfl, rfl⟩⟩
          · skip
            refine xt_nil (t := 24) rfl ?_
            refine xt_blk rfl rfl (by dsimp only [List.take]) ?_
            refine xt_iln2 rfl ?_
            refine xt_ri rfl (Nat.le_refl _) ?_
            intro r2 s2 w2 h2r h2s h2w e2
            simp only [List.cons.injEq, Sum.inl.injEq, and_true] at e2
            obtain ⟨e2r, e2s, e2w⟩ := e2
            rw [nI_eq (by omega) (by omega)] at e2r
            subst e2r
            rw [nI_eq (by omega) (by omega)] at e2s
            subst e2s
            rw [nI_eq (by omega) (by omega)] at e2w
            subst e2w
            have e0 : s = 8191 := (nI_eq (by omega) (by omega)).mp hc_21
            subst e0
            exact ⟨rfl, rfl, by rw [cm_R h2r (fun q => hc_1 (by rw [q]; rfl)), and_all h2w]⟩
      · skip
        refine xt_nil (t := 8) rfl ?_
        refine xt_blk rfl rfl (by dsimp only [List.take]) ?_
        refine xt_ic ?_
        refine xt_ri rfl (Nat.le_refl _) ?_
        intro r2 s2 w2 h2r h2s h2w e2
        simp only [List.cons.injEq, Sum.inl.injEq, and_true] at e2
        obtain ⟨e2r, e2s, e2w⟩ := e2
        rw [nI_eq (by omega) (by omega)] at e2r
        subst e2r
        rw [nI_eq (by omega) (by omega)] at e2s
        subst e2s
        rw [nI_eq (by omega) (by omega)] at e2w
        subst e2w
        have e0 : s = 0 := (n_eq0 (by omega)).mp hc_5
        subst e0
        exact ⟨rfl, rfl, by rw [cm_0R]; rw [Nat.zero_and]⟩
  · rintro μ pc ls st S2 M2 cs sl (⟨i, hi, rfl, rfl, rfl, rfl, rfl, rfl, rfl, rfl⟩ | ⟨i, j, hi, hj, hbit, rfl, rfl, rfl, rfl, rfl, rfl, rfl, rfl⟩)
    · refine ⟨_, rfl, ?_⟩
      refine xt_ild rfl ?_
      refine xt_bi ?_
      refine xt_cge (t := 107) rfl (fun hc_35 => ?_) (fun hc_35 => ?_)
      · skip
        refine xt_blk rfl rfl (by dsimp only [List.take]) ?_
        refine xt_iln3 rfl ?_
        refine xt_iln2 rfl ?_
        refine xt_and ?_
        refine xt_ri rfl (Nat.le_refl _) ?_
        have h13 : i = 13 := by rw [nI_leI (by omega) (by omega)] at hc_35; omega
        subst h13
        intro r2 s2 w2 h2r h2s h2w e2
        simp only [List.cons.injEq, Sum.inl.injEq, and_true] at e2
        obtain ⟨e2r, e2s, e2w⟩ := e2
        rw [nI_eq (by omega) (by omega)] at e2r
        subst e2r
        rw [nI_eq (by omega) (by omega)] at e2s
        subst e2s
        rw [nI_eq (by omega) (by omega)] at e2w
        subst e2w
        exact ⟨rfl, rfl, by rw [n_and]; rfl⟩
      · skip
        refine xt_iln0 rfl ?_
        refine xt_ild rfl ?_
        refine xt_shr ?_
        refine xt_ic ?_
        refine xt_and ?_
        refine xt_eq (t := 101) rfl (fun hc_44 => ?_) (fun hc_44 => ?_)
        · skip
          refine xt_blk rfl rfl (by dsimp only [List.take]) ?_
          refine xt_inc rfl (by dsimp only [x_sto]) ?_
          refine xt_goto (t := 31) rfl ?_
          refine xt_cut rfl rfl (by dsimp only [List.take]) ?_
          have hi13 : i < 13 := by rw [nI_leI (by omega) (by omega)] at hc_35; omega
          have hb := bi_lt r i
          rw [n_bit (by omega) (by omega), n_eq0 (by unfold bi at hb; omega)] at hc_44
          have e : fo (cmR s) r (i + 1) = fo (cmR s) r i := by
            show (if bi r i = 1 then _ else _) = _
            rw [if_neg (by unfold bi; omega)]
          exact ⟨(13 - (i + 1)) * 20, by omega, Or.inl ⟨i + 1, by omega, rfl, rfl, rfl, rfl, rfl, rfl, by rw [nI_add, e], rfl⟩⟩
        · skip
          refine xt_ild rfl ?_
          refine xt_bi ?_
          refine xt_mul ?_
          refine xt_ist rfl (by dsimp only [x_sto]) ?_
          refine xt_ic ?_
          refine xt_ist rfl (by dsimp only [x_sto]) ?_
          refine xt_nil (t := 57) rfl ?_
          refine xt_cut rfl rfl (by dsimp only [List.take]) ?_
          have hi13 : i < 13 := by rw [nI_leI (by omega) (by omega)] at hc_35; omega
          have hb := bi_lt r i
          rw [n_bit (by omega) (by omega), n_eq0 (by unfold bi at hb; omega)] at hc_44
          exact ⟨(13 - i) * 20 - 1, by omega, Or.inr ⟨i, 0, hi13, by omega, by unfold bi at hb ⊢; omega, rfl, rfl, rfl, rfl, rfl, rfl, by rw [pk_mul]; simp [fo], rfl⟩⟩
    · refine ⟨_, rfl, ?_⟩
      refine xt_ild rfl ?_
      refine xt_bi ?_
      refine xt_cge (t := 91) rfl (fun hc_61 => ?_) (fun hc_61 => ?_)
      · skip
        refine xt_blk rfl rfl (by dsimp only [List.take]) ?_
        refine xt_iln2 rfl ?_
        refine xt_iln3 rfl ?_
        refine xt_icm rfl ?_
        refine xt_xor ?_
        refine xt_and ?_
        refine xt_ne (t := 101) rfl (fun hc_96 => ?_) (fun hc_96 => ?_)
        · skip
          refine xt_blk rfl rfl (by dsimp only [List.take]) ?_
          refine xt_inc rfl (by dsimp only [x_sto]) ?_
          refine xt_goto (t := 31) rfl ?_
          refine xt_cut rfl rfl (by dsimp only [List.take]) ?_
          have hj13 : j = 13 := by rw [nI_leI (by omega) (by omega)] at hc_61; omega
          subst hj13
          have e : fo (cmR s) r (i + 1) = fo (cmR s) r i ||| fo (fun j => cmT (i * 13 + j)) s 13 := by
            show (if bi r i = 1 then _ else _) = _
            rw [if_pos hbit]
            rfl
          exact ⟨(13 - (i + 1)) * 20, by omega, Or.inl ⟨i + 1, by omega, rfl, rfl, rfl, rfl, rfl, rfl, by rw [nI_add, e], rfl⟩⟩
        · skip
          refine xt_iln2 rfl ?_
          refine xt_ri rfl (Nat.le_refl _) ?_
          have hj13 : j = 13 := by rw [nI_leI (by omega) (by omega)] at hc_61; omega
          subst hj13
          have hf1 := fo_lt (n := r) (cmR_lt s) i
          have hf2 := cmR_lt s i
          have hf : fo (cmR s) r i ||| cmR s i < 2 ^ 13 := Nat.or_lt_two_pow hf1 hf2
          have hc : w &&& (fo (cmR s) r i ||| cmR s i) = w := (n_sub0 (by omega) (by omega)).mp hc_96
          have hsub : ∀ b, (fo (cmR s) r i ||| cmR s i).testBit b = true → (cm r s).testBit b = true := by
            intro b hb
            rw [Nat.testBit_or, Bool.or_eq_true] at hb
            unfold cm
            rw [fo_tb]
            rcases hb with hb | hb
            · obtain ⟨i2, g1, g2⟩ := (fo_tb _).mp hb
              exact ⟨i2, by omega, g2⟩
            · exact ⟨i, hi, (bi_tb _ _).mp hbit, hb⟩
          intro r2 s2 w2 h2r h2s h2w e2
          simp only [List.cons.injEq, Sum.inl.injEq, and_true] at e2
          obtain ⟨e2r, e2s, e2w⟩ := e2
          rw [nI_eq (by omega) (by omega)] at e2r
          subst e2r
          rw [nI_eq (by omega) (by omega)] at e2s
          subst e2s
          rw [nI_eq (by omega) (by omega)] at e2w
          subst e2w
          exact ⟨rfl, rfl, by rw [and_sub hc hsub]⟩
      · skip
        refine xt_iln1 rfl ?_
        refine xt_ild rfl ?_
        refine xt_shr ?_
        refine xt_ic ?_
        refine xt_and ?_
        refine xt_eq (t := 85) rfl (fun hc_70 => ?_) (fun hc_70 => ?_)
        · skip
          refine xt_blk rfl rfl (by dsimp only [List.take]) ?_
          refine xt_inc rfl (by dsimp only [x_sto]) ?_
          refine xt_goto (t := 57) rfl ?_
          refine xt_cut rfl rfl (by dsimp only [List.take]) ?_
          have hj13 : j < 13 := by rw [nI_leI (by omega) (by omega)] at hc_61; omega
          have hb := bi_lt s j
          rw [n_bit (by omega) (by omega), n_eq0 (by unfold bi at hb; omega)] at hc_70
          have e : fo (fun j => cmT (i * 13 + j)) s (j + 1) = fo (fun j => cmT (i * 13 + j)) s j := by
            show (if bi s j = 1 then _ else _) = _
            rw [if_neg (by unfold bi; omega)]
          exact ⟨(13 - i) * 20 - 1 - (j + 1), by omega, Or.inr ⟨i, j + 1, hi, by omega, hbit, rfl, rfl, rfl, rfl, rfl, rfl, by rw [nI_add, e], rfl⟩⟩
        · skip
          refine xt_iln3 rfl ?_
          refine xt_gs (q := 1) rfl ?_
          refine xt_ild rfl ?_
          refine xt_ild rfl ?_
          refine xt_add ?_
          refine xt_kal rfl (show vp_in _ 169 from by rw [nI_add]; exact vp_in_nI (by rw [nI_leI (by omega) (by omega)] at hc_61; omega) (by decide)) ?_
          refine xt_or ?_
          refine xt_isn3 rfl (by dsimp only [x_sto]) ?_
          refine xt_nil (t := 85) rfl ?_
          refine xt_blk rfl rfl (by dsimp only [List.take]) ?_
          refine xt_inc rfl (by dsimp only [x_sto]) ?_
          refine xt_goto (t := 57) rfl ?_
          refine xt_cut rfl rfl (by dsimp only [List.take]) ?_
          have hj13 : j < 13 := by rw [nI_leI (by omega) (by omega)] at hc_61; omega
          have hb := bi_lt s j
          rw [n_bit (by omega) (by omega), n_eq0 (by unfold bi at hb; omega)] at hc_70
          have e : fo (fun j => cmT (i * 13 + j)) s (j + 1) = fo (fun j => cmT (i * 13 + j)) s j ||| cmT (i * 13 + j) := by
            show (if bi s j = 1 then _ else _) = _
            rw [if_pos (by unfold bi at hb ⊢; omega)]
          have e4 : x_kf 1 (nI (i * 13) + nI j).toNatClampNeg = nI (cmT (i * 13 + j)) := by rw [nI_add, nI_clamp (by omega)]; rfl
          exact ⟨(13 - i) * 20 - 1 - (j + 1), by omega, Or.inr ⟨i, j + 1, hi, by omega, hbit, rfl, rfl, rfl, rfl, rfl, rfl, by
            show [_, _, _, Sum.inl (nI (fo (cmR s) r i ||| fo (fun j => cmT (i * 13 + j)) s j) ||| x_kf 1 (nI (i * 13) + nI j).toNatClampNeg), _, _, _] = _
            rw [e4, n_or, Nat.or_assoc, nI_add, e], rfl⟩⟩
end
section
/-! RELATIONS: steps, between, isPlain; NETS: pairs, put, open; Arrays.fill -/
def rch (r : Nat) : Nat → Nat
  | 0 => 2 ^ r
  | k + 1 => rch r k ||| fo neT (rch r k) 13
theorem rch_lt {r : Nat} (hr : r < 13) : ∀ k, rch r k < 2 ^ 13
  | 0 => Nat.pow_lt_pow_right (by decide) hr
  | k + 1 => Nat.or_lt_two_pow (rch_lt hr k) (fo_lt neT_lt 13)
def stf (r s : Nat) : Nat → Nat → Nat
  | 0, _ => 13
  | f + 1, k => if bi (rch r k) s = 1 then k else stf r s f (k + 1)
def stp (r s : Nat) : Nat := stf r s 13 0
def q_X2_stepsBetween : x_K := (2, fun as S M => ∃ (r : Nat) (s : Nat), r < 13 ∧ s < 13 ∧ as = [.inl (nI r), .inl (nI s)], fun as S M rv_ S' M' => ∀ (r : Nat) (s : Nat), r < 13 → s < 13 → as = [.inl (nI r), .inl (nI s)] → S' = S ∧ M' = M ∧ rv_ = some (.inl (nI (stp r s))), 0, 0)
def b_X2_stepsBetween : x_B := [(0, 2, [(.iconst 1, 1), (.iload_n 0, 1), (.ishl, 1), (.istore_n 2, 1), (.iconst 0, 1), (.istore_n 3, 1)]),
  (6, 4, [(.iload_n 3, 1), (.bipush 13, 2), (.if_icmp .ge 26, 3), (.iload_n 2, 1), (.iload_n 1, 1), (.ishr, 1), (.iconst 1, 1), (.iand, 1), (.ifCond .eq 5, 3), (.iload_n 3, 1), (.ireturn, 1)]),
  (22, 4, [(.iload_n 2, 1), (.iload_n 2, 1), (.invokestatic 18, 3), (.ior, 1), (.istore_n 2, 1), (.iinc 3 1, 3), (.goto (-26), 3)]),
  (35, 4, [(.bipush 13, 2), (.ireturn, 1)])]
theorem b_X2_stepsBetween_ok : x_okB cX2_stepsBetween 4 b_X2_stepsBetween = true := by decide +kernel
def X_X2_stepsBetween : x_X := ([], [], [], [], [(54, q_X2_allNear)], (0, 0), x_kn, x_kf, 5, false)
theorem X_X2_stepsBetween_ok : x_okT RX2 X_X2_stepsBetween = true := by decide +kernel
theorem k_X2_stepsBetween (l : Launch) : ∀ z ∈ X_X2_stepsBetween.2.2.2.2.1, x_Cal l (x_rm 2 0 0) cX2_stepsBetween RX2 4 z.1 z.2 := List.forall_mem_cons.mpr ⟨x_cal_S (idx := 18) (c_X2_allNear l) ⟨by decide, by decide⟩ (by decide +kernel) (by decide +kernel) (by decide +kernel) (by decide +kernel) (by decide +kernel), fun _ h => absurd h List.not_mem_nil⟩
set_option maxHeartbeats 4000000 in
set_option maxRecDepth 100000 in
theorem c_X2_stepsBetween (l : Launch) : x_CT l yX2_stepsBetween cX2_stepsBetween 4 (some .int) 2 q_X2_stepsBetween := by
  refine x_meth (X := X_X2_stepsBetween) (bl := b_X2_stepsBetween) (cut := [6]) (own := RX2) 30 (by decide) rfl X_X2_stepsBetween_ok b_X2_stepsBetween_ok rfl (by decide) (k_X2_stepsBetween l) ?_
  rintro as S M - ⟨r, s, hr, hs, rfl⟩
  refine ⟨fun μ pc ls st S' M' cs sl => ∃ k, k ≤ 13 ∧ pc = 6 ∧ st = [] ∧ S' = S ∧ M' = M ∧ cs = 0 ∧ sl = 0 ∧ ls = [.inl (nI r), .inl (nI s), .inl (nI (rch r k)), .inl (nI k)] ∧ μ = 13 - k ∧ stp r s = stf r s (13 - k) k, ?_, ?_⟩
  · skip
    refine xt_blk rfl rfl (by dsimp only [List.take]) ?_
    refine xt_ic ?_
    refine xt_iln0 rfl ?_
    refine xt_shl ?_
    refine xt_isn2 rfl (by dsimp only [x_sto]) ?_
    refine xt_ic ?_
    refine xt_isn3 rfl (by dsimp only [x_sto]) ?_
    refine xt_nil (t := 6) rfl ?_
    refine xt_cut rfl rfl (by dsimp only [List.take]) ?_
    exact ⟨13, 0, by omega, rfl, rfl, rfl, rfl, rfl, rfl, by rw [n_shl (by omega) (by have := rch_lt hr 0; simp only [rch] at this; omega), Nat.one_mul]; rfl, rfl, rfl⟩
  · rintro μ pc ls st S2 M2 cs sl (⟨k, hk, rfl, rfl, rfl, rfl, rfl, rfl, rfl, rfl, hl⟩)
    · refine ⟨_, rfl, ?_⟩
      refine xt_iln3 rfl ?_
      refine xt_bi ?_
      refine xt_cge (t := 35) rfl (fun hc_9 => ?_) (fun hc_9 => ?_)
      · skip
        refine xt_blk rfl rfl (by dsimp only [List.take]) ?_
        refine xt_bi ?_
        refine xt_ri rfl (Nat.le_refl _) ?_
        have h13 : k = 13 := by rw [nI_leI (by omega) (by omega)] at hc_9; omega
        subst h13
        intro r2 s2 h2r h2s e2
        simp only [List.cons.injEq, Sum.inl.injEq, and_true] at e2
        obtain ⟨e2r, e2s⟩ := e2
        rw [nI_eq (by omega) (by omega)] at e2r
        subst e2r
        rw [nI_eq (by omega) (by omega)] at e2s
        subst e2s
        exact ⟨rfl, rfl, by rw [hl]; rfl⟩
      · skip
        refine xt_iln2 rfl ?_
        refine xt_iln1 rfl ?_
        refine xt_shr ?_
        refine xt_ic ?_
        refine xt_and ?_
        refine xt_eq (t := 22) rfl (fun hc_17 => ?_) (fun hc_17 => ?_)
        · skip
          refine xt_blk rfl rfl (by dsimp only [List.take]) ?_
          refine xt_iln2 rfl ?_
          refine xt_iln2 rfl ?_
          refine xt_v1 (key := 54) (q := q_X2_allNear) rfl rfl rfl rfl rfl (by decide) ⟨rch r k, rch_lt hr k, rfl⟩ (fun rv_ S1 M1 hq_24 => ?_)
          obtain ⟨rfl, rfl, rfl⟩ := hq_24 (rch r k) (rch_lt hr k) rfl
          dsimp only [Option.toList, List.cons_append, List.nil_append]
          refine xt_or ?_
          refine xt_isn2 rfl (by dsimp only [x_sto]) ?_
          refine xt_inc rfl (by dsimp only [x_sto]) ?_
          refine xt_goto (t := 6) rfl ?_
          refine xt_cut rfl rfl (by dsimp only [List.take]) ?_
          have hlt : k < 13 := by rw [nI_leI (by omega) (by omega)] at hc_9; omega
          have hk2 := rch_lt hr k
          have hb := bi_lt (rch r k) s
          rw [n_bit (by omega) (by omega), n_eq0 (by unfold bi at hb; omega)] at hc_17
          have e : stf r s (13 - k) k = stf r s (13 - (k + 1)) (k + 1) := by
            rw [show 13 - k = (13 - (k + 1)) + 1 by omega]
            show (if bi (rch r k) s = 1 then k else _) = _
            rw [if_neg (by unfold bi; omega)]
          exact ⟨13 - (k + 1), by omega, k + 1, by omega, rfl, rfl, rfl, rfl, rfl, rfl, by rw [nI_add, n_or]; rfl, rfl, by rw [hl, e]⟩
        · skip
          refine xt_iln3 rfl ?_
          refine xt_ri rfl (Nat.le_refl _) ?_
          have hlt : k < 13 := by rw [nI_leI (by omega) (by omega)] at hc_9; omega
          have hk2 := rch_lt hr k
          have hb := bi_lt (rch r k) s
          rw [n_bit (by omega) (by omega), n_eq0 (by unfold bi at hb; omega)] at hc_17
          have e : stf r s (13 - k) k = k := by
            rw [show 13 - k = (13 - (k + 1)) + 1 by omega]
            show (if bi (rch r k) s = 1 then k else _) = _
            rw [if_pos (by unfold bi at hb ⊢; omega)]
          intro r2 s2 h2r h2s e2
          simp only [List.cons.injEq, Sum.inl.injEq, and_true] at e2
          obtain ⟨e2r, e2s⟩ := e2
          rw [nI_eq (by omega) (by omega)] at e2r
          subst e2r
          rw [nI_eq (by omega) (by omega)] at e2s
          subst e2s
          exact ⟨rfl, rfl, by rw [hl, e]⟩
def sgI (x y : Int32) : Nat := if x < y then 1 else if x = y then 2 else 4
theorem sgI_lt (x y : Int32) : sgI x y < 8 := by unfold sgI; split <;> (try split) <;> omega
theorem sgI_eq (x y : Int32) : (if x < y then nI 1 else if x = y then nI 2 else nI 4) = nI (sgI x y) := by unfold sgI; split <;> (try split) <;> rfl
def sgs (a z b y : Int32) : Nat := (sgI a b * 4096 ||| sgI a y * 256) ||| sgI z b * 16 ||| sgI z y
def bwf (q : Nat) : Nat → Nat
  | 0 => 0
  | i + 1 => if sgT i = q then i else bwf q i
def bw (a z b y : Int32) : Nat := bwf (sgs a z b y) 13
theorem bwf_lt (q : Nat) : ∀ i, i ≤ 13 → bwf q i < 13
  | 0, _ => by simp [bwf]
  | i + 1, h => by
    have := bwf_lt q i (by omega)
    unfold bwf
    split <;> omega
theorem bw_lt (a z b y : Int32) : bw a z b y < 13 := bwf_lt _ 13 (by omega)
theorem sgs_lt (a z b y : Int32) : sgs a z b y < 2 ^ 15 := by
  have h1 := sgI_lt a b
  have h2 := sgI_lt a y
  have h3 := sgI_lt z b
  have h4 := sgI_lt z y
  exact Nat.or_lt_two_pow (Nat.or_lt_two_pow (Nat.or_lt_two_pow (by omega) (by omega)) (by omega)) (by omega)
def q_X2_between : x_K := (4, fun as S M => ∃ (a : Int32) (z : Int32) (b : Int32) (y : Int32), as = [.inl a, .inl z, .inl b, .inl y], fun as S M rv_ S' M' => ∀ (a : Int32) (z : Int32) (b : Int32) (y : Int32), as = [.inl a, .inl z, .inl b, .inl y] → S' = S ∧ M' = M ∧ rv_ = some (.inl (nI (bw a z b y))), 0, 0)
def b_X2_between : x_B := [(0, 4, [(.iload_n 0, 1), (.iload_n 2, 1), (.invokestatic 22, 3), (.bipush 12, 2), (.ishl, 1), (.iload_n 0, 1), (.iload_n 3, 1), (.invokestatic 22, 3), (.bipush 8, 2), (.ishl, 1), (.ior, 1), (.iload_n 1, 1), (.iload_n 2, 1), (.invokestatic 22, 3), (.iconst 4, 1), (.ishl, 1), (.ior, 1), (.iload_n 1, 1), (.iload_n 3, 1), (.invokestatic 22, 3), (.ior, 1), (.istore 4, 2), (.iconst 0, 1), (.istore 5, 2), (.iconst 0, 1), (.istore 6, 2)]),
  (39, 7, [(.iload 6, 2), (.bipush 13, 2), (.if_icmp .ge 24, 3), (.getstatic 26, 3), (.iload 6, 2), (.iaload, 1), (.iload 4, 2), (.if_icmp .ne 7, 3), (.iload 6, 2), (.istore 5, 2)]),
  (61, 7, [(.iinc 6 1, 3), (.goto (-25), 3)]),
  (67, 7, [(.iload 5, 2), (.ireturn, 1)])]
theorem b_X2_between_ok : x_okB cX2_between 7 b_X2_between = true := by decide +kernel
def X_X2_between : x_X := ([], [(26, 0)], [], [], [(66, q_X2_sign)], (0, 0), x_kn, x_kf, 5, false)
theorem X_X2_between_ok : x_okT RX2 X_X2_between = true := by decide +kernel
theorem k_X2_between (l : Launch) : ∀ z ∈ X_X2_between.2.2.2.2.1, x_Cal l (x_rm 2 0 0) cX2_between RX2 7 z.1 z.2 := List.forall_mem_cons.mpr ⟨x_cal_S (idx := 22) (c_X2_sign l) ⟨by decide, by decide⟩ (by decide +kernel) (by decide +kernel) (by decide +kernel) (by decide +kernel) (by decide +kernel), fun _ h => absurd h List.not_mem_nil⟩
set_option maxHeartbeats 4000000 in
set_option maxRecDepth 100000 in
theorem c_X2_between (l : Launch) : x_CT l yX2_between cX2_between 7 (some .int) 2 q_X2_between := by
  refine x_meth (X := X_X2_between) (bl := b_X2_between) (cut := [39]) (own := RX2) 30 (by decide) rfl X_X2_between_ok b_X2_between_ok rfl (by decide) (k_X2_between l) ?_
  rintro as S M - ⟨a, z, b, y, rfl⟩
  refine ⟨fun μ pc ls st S' M' cs sl => ∃ i, i ≤ 13 ∧ pc = 39 ∧ st = [] ∧ S' = S ∧ M' = M ∧ cs = 0 ∧ sl = 0 ∧ ls = [.inl a, .inl z, .inl b, .inl y, .inl (nI (sgs a z b y)), .inl (nI (bwf (sgs a z b y) i)), .inl (nI i)] ∧ μ = 13 - i, ?_, ?_⟩
  · skip
    refine xt_blk rfl rfl (by dsimp only [List.take]) ?_
    refine xt_iln0 rfl ?_
    refine xt_iln2 rfl ?_
    refine xt_v2 (key := 66) (q := q_X2_sign) rfl rfl rfl rfl rfl (by decide) ⟨_, _, rfl⟩ (fun rv_ S1 M1 hq_2 => ?_)
    obtain ⟨rfl, rfl, rfl⟩ := hq_2 a b rfl
    dsimp only [Option.toList, List.cons_append, List.nil_append]
    refine xt_bi ?_
    refine xt_shl ?_
    refine xt_iln0 rfl ?_
    refine xt_iln3 rfl ?_
    refine xt_v2 (key := 66) (q := q_X2_sign) rfl rfl rfl rfl rfl (by decide) ⟨_, _, rfl⟩ (fun rv_ S1 M1 hq_10 => ?_)
    obtain ⟨rfl, rfl, rfl⟩ := hq_10 a y rfl
    dsimp only [Option.toList, List.cons_append, List.nil_append]
    refine xt_bi ?_
    refine xt_shl ?_
    refine xt_or ?_
    refine xt_iln1 rfl ?_
    refine xt_iln2 rfl ?_
    refine xt_v2 (key := 66) (q := q_X2_sign) rfl rfl rfl rfl rfl (by decide) ⟨_, _, rfl⟩ (fun rv_ S1 M1 hq_19 => ?_)
    obtain ⟨rfl, rfl, rfl⟩ := hq_19 z b rfl
    dsimp only [Option.toList, List.cons_append, List.nil_append]
    refine xt_ic ?_
    refine xt_shl ?_
    refine xt_or ?_
    refine xt_iln1 rfl ?_
    refine xt_iln3 rfl ?_
    refine xt_v2 (key := 66) (q := q_X2_sign) rfl rfl rfl rfl rfl (by decide) ⟨_, _, rfl⟩ (fun rv_ S1 M1 hq_27 => ?_)
    obtain ⟨rfl, rfl, rfl⟩ := hq_27 z y rfl
    dsimp only [Option.toList, List.cons_append, List.nil_append]
    refine xt_or ?_
    refine xt_ist rfl (by dsimp only [x_sto]) ?_
    refine xt_ic ?_
    refine xt_ist rfl (by dsimp only [x_sto]) ?_
    refine xt_ic ?_
    refine xt_ist rfl (by dsimp only [x_sto]) ?_
    refine xt_nil (t := 39) rfl ?_
    refine xt_cut rfl rfl (by dsimp only [List.take]) ?_
    have h1 := sgI_lt a b
    have h2 := sgI_lt a y
    have h3 := sgI_lt z b
    have h4 := sgI_lt z y
    exact ⟨13, 0, by omega, rfl, rfl, rfl, rfl, rfl, rfl, by
      simp only [sgI_eq]
      rw [n_shl (by omega) (by omega), n_shl (by omega) (by omega), n_shl (by omega) (by omega), n_or, n_or, n_or]
      rfl, rfl⟩
  · rintro μ pc ls st S2 M2 cs sl (⟨i, hi, rfl, rfl, rfl, rfl, rfl, rfl, rfl, rfl⟩)
    · refine ⟨_, rfl, ?_⟩
      refine xt_ild rfl ?_
      refine xt_bi ?_
      refine xt_cge (t := 67) rfl (fun hc_43 => ?_) (fun hc_43 => ?_)
      · skip
        refine xt_blk rfl rfl (by dsimp only [List.take]) ?_
        refine xt_ild rfl ?_
        refine xt_ri rfl (Nat.le_refl _) ?_
        have h13 : i = 13 := by rw [nI_leI (by omega) (by omega)] at hc_43; omega
        subst h13
        intro a2 z2 b2 y2 e2
        simp only [List.cons.injEq, Sum.inl.injEq, and_true] at e2
        obtain ⟨e2a, e2z, e2b, e2y⟩ := e2
        subst e2a
        subst e2z
        subst e2b
        subst e2y
        exact ⟨rfl, rfl, rfl⟩
      · skip
        refine xt_gs (q := 0) rfl ?_
        refine xt_ild rfl ?_
        refine xt_kal rfl (show vp_in _ 13 from vp_in_nI (by rw [nI_leI (by omega) (by omega)] at hc_43; omega) (by decide)) ?_
        refine xt_ild rfl ?_
        refine xt_cne (t := 61) rfl (fun hc_54 => ?_) (fun hc_54 => ?_)
        · skip
          refine xt_blk rfl rfl (by dsimp only [List.take]) ?_
          refine xt_inc rfl (by dsimp only [x_sto]) ?_
          refine xt_goto (t := 39) rfl ?_
          refine xt_cut rfl rfl (by dsimp only [List.take]) ?_
          have hlt : i < 13 := by rw [nI_leI (by omega) (by omega)] at hc_43; omega
          have hs := sgs_lt a z b y
          have hg := sgT_lt i
          have e4 : x_kf 0 (nI i).toNatClampNeg = nI (sgT i) := by rw [nI_clamp (by omega)]; rfl
          have hc : ¬nI (sgT i) = nI (sgs a z b y) := by rw [← e4]; exact hc_54
          rw [nI_eq (by omega) (by omega)] at hc
          have e : bwf (sgs a z b y) (i + 1) = bwf (sgs a z b y) i := by
            show (if sgT i = _ then i else _) = _
            rw [if_neg hc]
          exact ⟨13 - (i + 1), by omega, i + 1, by omega, rfl, rfl, rfl, rfl, rfl, rfl, by rw [nI_add, e], rfl⟩
        · skip
          refine xt_ild rfl ?_
          refine xt_ist rfl (by dsimp only [x_sto]) ?_
          refine xt_nil (t := 61) rfl ?_
          refine xt_blk rfl rfl (by dsimp only [List.take]) ?_
          refine xt_inc rfl (by dsimp only [x_sto]) ?_
          refine xt_goto (t := 39) rfl ?_
          refine xt_cut rfl rfl (by dsimp only [List.take]) ?_
          have hlt : i < 13 := by rw [nI_leI (by omega) (by omega)] at hc_43; omega
          have hs := sgs_lt a z b y
          have hg := sgT_lt i
          have e4 : x_kf 0 (nI i).toNatClampNeg = nI (sgT i) := by rw [nI_clamp (by omega)]; rfl
          have hc : nI (sgT i) = nI (sgs a z b y) := by rw [← e4]; exact hc_54
          rw [nI_eq (by omega) (by omega)] at hc
          have e : bwf (sgs a z b y) (i + 1) = i := by
            show (if sgT i = _ then i else _) = _
            rw [if_pos hc]
          exact ⟨13 - (i + 1), by omega, i + 1, by omega, rfl, rfl, rfl, rfl, rfl, rfl, by rw [nI_add, e], rfl⟩
def msT (n : Nat) : Nat := 5397 &&& (n ^^^ (2 ^ 32 - 1))
theorem msT_lt (n : Nat) : msT n < 2 ^ 13 := Nat.lt_of_le_of_lt Nat.and_le_left (by decide)
def pln (n : Nat) : Prop := ∀ i, i < 13 → bi (msT n) i = 1 → ¬ (sgT i &&& fo sgT n 13 = sgT i)
def q_X2_isPlain : x_K := (1, fun as S M => ∃ (n : Nat), n < 8192 ∧ as = [.inl (nI n)], fun as S M rv_ S' M' => ∀ (n : Nat), n < 8192 → as = [.inl (nI n)] → S' = S ∧ M' = M ∧ ((pln n ∧ rv_ = some (.inl (nI 1))) ∨ (¬ pln n ∧ rv_ = some (.inl (nI 0)))), 0, 0)
def b_X2_isPlain : x_B := [(0, 1, [(.iload_n 0, 1), (.invokestatic 29, 3), (.istore_n 1, 1), (.sipush 5397, 3), (.iload_n 0, 1), (.iconst (-1), 1), (.ixor, 1), (.iand, 1), (.istore_n 2, 1), (.iconst 0, 1), (.istore_n 3, 1)]),
  (15, 4, [(.iload_n 3, 1), (.bipush 13, 2), (.if_icmp .ge 31, 3), (.iload_n 2, 1), (.iload_n 3, 1), (.ishr, 1), (.iconst 1, 1), (.iand, 1), (.ifCond .eq 17, 3), (.getstatic 26, 3), (.iload_n 3, 1), (.iaload, 1), (.iload_n 1, 1), (.iconst (-1), 1), (.ixor, 1), (.iand, 1), (.ifCond .ne 5, 3), (.iconst 0, 1), (.ireturn, 1)]),
  (43, 4, [(.iinc 3 1, 3), (.goto (-31), 3)]),
  (49, 4, [(.iconst 1, 1), (.ireturn, 1)])]
theorem b_X2_isPlain_ok : x_okB cX2_isPlain 4 b_X2_isPlain = true := by decide +kernel
def X_X2_isPlain : x_X := ([], [(26, 0)], [], [], [(87, q_X2_allSigns)], (0, 0), x_kn, x_kf, 5, false)
theorem X_X2_isPlain_ok : x_okT RX2 X_X2_isPlain = true := by decide +kernel
theorem k_X2_isPlain (l : Launch) : ∀ z ∈ X_X2_isPlain.2.2.2.2.1, x_Cal l (x_rm 2 0 0) cX2_isPlain RX2 4 z.1 z.2 := List.forall_mem_cons.mpr ⟨x_cal_S (idx := 29) (c_X2_allSigns l) ⟨by decide, by decide⟩ (by decide +kernel) (by decide +kernel) (by decide +kernel) (by decide +kernel) (by decide +kernel), fun _ h => absurd h List.not_mem_nil⟩
set_option maxHeartbeats 4000000 in
set_option maxRecDepth 100000 in
theorem c_X2_isPlain (l : Launch) : x_CT l yX2_isPlain cX2_isPlain 4 (some .boolean) 2 q_X2_isPlain := by
  refine x_meth (X := X_X2_isPlain) (bl := b_X2_isPlain) (cut := [15]) (own := RX2) 30 (by decide) rfl X_X2_isPlain_ok b_X2_isPlain_ok rfl (by decide) (k_X2_isPlain l) ?_
  rintro as S M - ⟨n, hn, rfl⟩
  refine ⟨fun μ pc ls st S' M' cs sl => ∃ i, i ≤ 13 ∧ (∀ j, j < i → bi (msT n) j = 1 → ¬ (sgT j &&& fo sgT n 13 = sgT j)) ∧ pc = 15 ∧ st = [] ∧ S' = S ∧ M' = M ∧ cs = 0 ∧ sl = 0 ∧ ls = [.inl (nI n), .inl (nI (fo sgT n 13)), .inl (nI (msT n)), .inl (nI i)] ∧ μ = 13 - i, ?_, ?_⟩
  · skip
    refine xt_blk rfl rfl (by dsimp only [List.take]) ?_
    refine xt_iln0 rfl ?_
    refine xt_v1 (key := 87) (q := q_X2_allSigns) rfl rfl rfl rfl rfl (by decide) ⟨n, hn, rfl⟩ (fun rv_ S1 M1 hq_1 => ?_)
    obtain ⟨rfl, rfl, rfl⟩ := hq_1 n hn rfl
    dsimp only [Option.toList, List.cons_append, List.nil_append]
    refine xt_isn1 rfl (by dsimp only [x_sto]) ?_
    refine xt_si ?_
    refine xt_iln0 rfl ?_
    refine xt_icm rfl ?_
    refine xt_xor ?_
    refine xt_and ?_
    refine xt_isn2 rfl (by dsimp only [x_sto]) ?_
    refine xt_ic ?_
    refine xt_isn3 rfl (by dsimp only [x_sto]) ?_
    refine xt_nil (t := 15) rfl ?_
    refine xt_cut rfl rfl (by dsimp only [List.take]) ?_
    exact ⟨13, 0, by omega, by omega, rfl, rfl, rfl, rfl, rfl, rfl, by rw [n_andn 5397 n (by decide) (by omega)]; rfl, rfl⟩
  · rintro μ pc ls st S2 M2 cs sl (⟨i, hi, hpl, rfl, rfl, rfl, rfl, rfl, rfl, rfl, rfl⟩)
    · refine ⟨_, rfl, ?_⟩
      refine xt_iln3 rfl ?_
      refine xt_bi ?_
      refine xt_cge (t := 49) rfl (fun hc_18 => ?_) (fun hc_18 => ?_)
      · skip
        refine xt_blk rfl rfl (by dsimp only [List.take]) ?_
        refine xt_ic ?_
        refine xt_rz (by decide) rfl (Nat.le_refl _) ?_
        have h13 : i = 13 := by rw [nI_leI (by omega) (by omega)] at hc_18; omega
        subst h13
        intro n2 h2n e2
        simp only [List.cons.injEq, Sum.inl.injEq, and_true] at e2
        have e2n := e2
        rw [nI_eq (by omega) (by omega)] at e2n
        subst e2n
        exact ⟨rfl, rfl, Or.inl ⟨hpl, rfl⟩⟩
      · skip
        refine xt_iln2 rfl ?_
        refine xt_iln3 rfl ?_
        refine xt_shr ?_
        refine xt_ic ?_
        refine xt_and ?_
        refine xt_eq (t := 43) rfl (fun hc_26 => ?_) (fun hc_26 => ?_)
        · skip
          refine xt_blk rfl rfl (by dsimp only [List.take]) ?_
          refine xt_inc rfl (by dsimp only [x_sto]) ?_
          refine xt_goto (t := 15) rfl ?_
          refine xt_cut rfl rfl (by dsimp only [List.take]) ?_
          have hm := msT_lt n
          have hf := fo_lt (n := n) sgT_lt 13
          have hlt : i < 13 := by rw [nI_leI (by omega) (by omega)] at hc_18; omega
          have hb := bi_lt (msT n) i
          rw [n_bit (by omega) (by omega), n_eq0 (by unfold bi at hb; omega)] at hc_26
          have hq2 : ∀ j, j < i + 1 → bi (msT n) j = 1 → ¬ (sgT j &&& fo sgT n 13 = sgT j) := by
            intro j hj hq1
            rcases Nat.lt_or_ge j i with q | q
            · exact hpl j q hq1
            · have ej : i = j := by omega
              subst ej
              exfalso
              unfold bi at hq1
              omega
          exact ⟨13 - (i + 1), by omega, i + 1, by omega, hq2, rfl, rfl, rfl, rfl, rfl, rfl, by rw [nI_add], rfl⟩
        · skip
          refine xt_gs (q := 0) rfl ?_
          refine xt_iln3 rfl ?_
          refine xt_kal rfl (show vp_in _ 13 from vp_in_nI (by rw [nI_leI (by omega) (by omega)] at hc_18; omega) (by decide)) ?_
          refine xt_iln1 rfl ?_
          refine xt_icm rfl ?_
          refine xt_xor ?_
          refine xt_and ?_
          refine xt_ne (t := 43) rfl (fun hc_38 => ?_) (fun hc_38 => ?_)
          · skip
            refine xt_blk rfl rfl (by dsimp only [List.take]) ?_
            refine xt_inc rfl (by dsimp only [x_sto]) ?_
            refine xt_goto (t := 15) rfl ?_
            refine xt_cut rfl rfl (by dsimp only [List.take]) ?_
            have hm := msT_lt n
            have hf := fo_lt (n := n) sgT_lt 13
            have hlt : i < 13 := by rw [nI_leI (by omega) (by omega)] at hc_18; omega
            have hb := bi_lt (msT n) i
            rw [n_bit (by omega) (by omega), n_eq0 (by unfold bi at hb; omega)] at hc_26
            have hq2 : ∀ j, j < i + 1 → bi (msT n) j = 1 → ¬ (sgT j &&& fo sgT n 13 = sgT j) := by
              intro j hj hq1
              rcases Nat.lt_or_ge j i with q | q
              · exact hpl j q hq1
              · have ej : i = j := by omega
                subst ej
                have e4 : x_kf 0 (nI i).toNatClampNeg = nI (sgT i) := by rw [nI_clamp (by omega)]; rfl
                have hg := sgT_lt i
                have hc : ¬ nI (sgT i) &&& (nI (fo sgT n 13) ^^^ -(nI 1)) = 0 := by rw [← e4]; exact hc_38
                rw [n_sub0 (by omega) (by omega)] at hc
                exact hc
            exact ⟨13 - (i + 1), by omega, i + 1, by omega, hq2, rfl, rfl, rfl, rfl, rfl, rfl, by rw [nI_add], rfl⟩
          · skip
            refine xt_ic ?_
            refine xt_rz (by decide) rfl (Nat.le_refl _) ?_
            have hm := msT_lt n
            have hf := fo_lt (n := n) sgT_lt 13
            have hlt : i < 13 := by rw [nI_leI (by omega) (by omega)] at hc_18; omega
            have hb := bi_lt (msT n) i
            rw [n_bit (by omega) (by omega), n_eq0 (by unfold bi at hb; omega)] at hc_26
            have e4 : x_kf 0 (nI i).toNatClampNeg = nI (sgT i) := by rw [nI_clamp (by omega)]; rfl
            have hg := sgT_lt i
            have hc : nI (sgT i) &&& (nI (fo sgT n 13) ^^^ -(nI 1)) = 0 := by rw [← e4]; exact hc_38
            rw [n_sub0 (by omega) (by omega)] at hc
            intro n2 h2n e2
            simp only [List.cons.injEq, Sum.inl.injEq, and_true] at e2
            have e2n := e2
            rw [nI_eq (by omega) (by omega)] at e2n
            subst e2n
            exact ⟨rfl, rfl, Or.inr ⟨fun hp => hp i hlt (by unfold bi at hb ⊢; omega) hc, rfl⟩⟩
end
section
/-! NETS: leaves; Arrays.fill -/
theorem x_row_row (M : x_M) (k : Nat) (f g : Nat → Int32) : x_row (x_row M k f) k g = x_row M k g := by
  funext a
  unfold x_row
  split <;> rfl
theorem x_row_id (M : x_M) (k : Nat) : x_row M k (M k) = M := by
  funext a
  unfold x_row
  split
  · rename_i h; rw [h]
  · rfl
theorem x_cp_0 (f g : Nat → Int32) : x_cp f g 0 = g := by
  funext j
  simp [x_cp]
theorem x_cp_s (f g : Nat → Int32) (i : Nat) : upd (x_cp f g i) i (f i) = x_cp f g (i + 1) := by
  funext j
  unfold upd x_cp
  by_cases h : j = i
  · subst h
    simp
  · rw [if_neg h]
    by_cases h2 : j < i
    · rw [if_pos h2, if_pos (by omega)]
    · rw [if_neg h2, if_neg (by omega)]
def q_J7_fill : x_K := (2, fun as S M => ∃ (k n : Nat) (v : Int32), k < 1000 ∧ n < 2 ^ 30 ∧ S[k]? = some (.inr (.inl (false, n))) ∧ as = [.inr (.inl k), .inl v], fun as S M rv_ S' M' => ∀ (k n : Nat) (v : Int32), S[k]? = some (.inr (.inl (false, n))) → as = [.inr (.inl k), .inl v] → S' = S ∧ M' = x_row M k (x_cp (fun _ => v) (M k) n) ∧ rv_ = none, 0, 0)
def b_J7_fill : x_B := [(0, 2, [(.iconst 0, 1), (.istore_n 2, 1), (.aload_n 0, 1), (.arraylength, 1), (.istore_n 3, 1)]),
  (5, 4, [(.iload_n 2, 1), (.iload_n 3, 1), (.if_icmp .ge 13, 3), (.aload_n 0, 1), (.iload_n 2, 1), (.iload_n 1, 1), (.iastore, 1), (.iinc 2 1, 3), (.goto (-12), 3)]),
  (20, 4, [(.return_, 1)])]
theorem b_J7_fill_ok : x_okB cJ7_fill_53178 4 b_J7_fill = true := by decide +kernel
def X_J7_fill : x_X := ([], [], [], [], [], (0, 0), x_kn, x_kf, 5, false)
theorem X_J7_fill_ok : x_okT RJ7 X_J7_fill = true := by decide +kernel
theorem k_J7_fill (l : Launch) : ∀ z ∈ X_J7_fill.2.2.2.2.1, x_Cal l (x_rm 1 0 0) cJ7_fill_53178 RJ7 4 z.1 z.2 := fun _ h => absurd h List.not_mem_nil
set_option maxHeartbeats 4000000 in
set_option maxRecDepth 100000 in
theorem c_J7_fill (l : Launch) : x_CT l yJ7_fill_53178 cJ7_fill_53178 4 none 1 q_J7_fill := by
  refine x_meth (X := X_J7_fill) (bl := b_J7_fill) (cut := [5]) (own := RJ7) 30 (by decide) rfl X_J7_fill_ok b_J7_fill_ok rfl (by decide) (k_J7_fill l) ?_
  rintro as S M - ⟨k, n, v, hk, hn, hsh, rfl⟩
  refine ⟨fun μ pc ls st S' M' cs sl => ∃ i, i ≤ n ∧ pc = 5 ∧ st = [] ∧ S' = S ∧ M' = x_row M k (x_cp (fun _ => v) (M k) i) ∧ cs = 0 ∧ sl = 0 ∧ ls = [.inr (.inl k), .inl v, .inl (nI i), .inl (nI n)] ∧ μ = n - i, ?_, ?_⟩
  · skip
    refine xt_blk rfl rfl (by dsimp only [List.take]) ?_
    refine xt_ic ?_
    refine xt_isn2 rfl (by dsimp only [x_sto]) ?_
    refine xt_aln0 rfl (by first | decide | omega | assumption) ?_
    refine xt_len (by first | rfl | assumption) ?_
    refine xt_isn3 rfl (by dsimp only [x_sto]) ?_
    refine xt_nil (t := 5) rfl ?_
    refine xt_cut rfl rfl (by dsimp only [List.take]) ?_
    exact ⟨n, 0, by omega, rfl, rfl, rfl, by rw [x_cp_0, x_row_id], rfl, rfl, rfl, rfl⟩
  · rintro μ pc ls st S2 M2 cs sl (⟨i, hi, rfl, rfl, rfl, rfl, rfl, rfl, rfl, rfl⟩)
    · refine ⟨_, rfl, ?_⟩
      refine xt_iln2 rfl ?_
      refine xt_iln3 rfl ?_
      refine xt_cge (t := 20) rfl (fun hc_7 => ?_) (fun hc_7 => ?_)
      · skip
        refine xt_blk rfl rfl (by dsimp only [List.take]) ?_
        refine xt_rv rfl (Nat.le_refl _) ?_
        have h13 : i = n := by rw [nI_leI (by omega) (by omega)] at hc_7; omega
        intro k2 n2 v2 hs2 e2
        simp only [List.cons.injEq, Sum.inl.injEq, Sum.inr.injEq, and_true] at e2
        obtain ⟨rfl, rfl⟩ := e2
        rw [hsh] at hs2
        simp only [Option.some.injEq, Sum.inr.injEq, Sum.inl.injEq, Prod.mk.injEq, true_and] at hs2
        subst hs2
        subst h13
        exact ⟨rfl, rfl, rfl⟩
      · skip
        refine xt_aln0 rfl (by first | decide | omega | assumption) ?_
        refine xt_iln2 rfl ?_
        refine xt_iln1 rfl ?_
        refine xt_ias (by first | rfl | assumption) (vp_in_nI (by rw [nI_leI (by omega) (by omega)] at hc_7; omega) (by omega)) ?_
        refine xt_inc rfl (by dsimp only [x_sto]) ?_
        refine xt_goto (t := 5) rfl ?_
        refine xt_cut rfl rfl (by dsimp only [List.take]) ?_
        have hlt : i < n := by rw [nI_leI (by omega) (by omega)] at hc_7; omega
        exact ⟨n - (i + 1), by omega, i + 1, by omega, rfl, rfl, rfl, by rw [x_row_self, x_row_row, nI_clamp (by omega), ← x_cp_s], rfl, rfl, by rw [nI_add], rfl⟩
def pr (a b : Nat) : Nat := if a < b then a * (11 - a) / 2 + b - a - 1 else b * (11 - b) / 2 + a - b - 1
theorem pr_lt0 : ∀ a, a < 6 → ∀ b, b < 6 → a ≠ b → pr a b < 15 := by decide
theorem pr_c0 : ∀ a, a < 6 → ∀ b, b < 6 → a ≠ b → pr a b = pr b a := by decide
theorem pr_lt {a b : Nat} (ha : a < 6) (hb : b < 6) (h : a ≠ b) : pr a b < 15 := pr_lt0 a ha b hb h
theorem pr_c {a b : Nat} (ha : a < 6) (hb : b < 6) (h : a ≠ b) : pr a b = pr b a := pr_c0 a ha b hb h
def q_X1_pairOf : x_K := (2, fun as S M => ∃ (a : Nat) (b : Nat), a < 6 ∧ b < 6 ∧ a ≠ b ∧ as = [.inl (nI a), .inl (nI b)], fun as S M rv_ S' M' => ∀ (a : Nat) (b : Nat), a < 6 → b < 6 → a ≠ b → as = [.inl (nI a), .inl (nI b)] → S' = S ∧ M' = M ∧ rv_ = some (.inl (nI (pr a b))), 0, 0)
def b_X1_pairOf : x_B := [(0, 2, [(.iload_n 0, 1), (.iload_n 1, 1), (.if_icmp .ge 7, 3), (.iload_n 0, 1), (.goto 4, 3)]),
  (9, 2, [(.iload_n 1, 1)]),
  (10, 2, [(.istore_n 2, 1), (.iload_n 0, 1), (.iload_n 1, 1), (.if_icmp .ge 7, 3), (.iload_n 1, 1), (.goto 4, 3)]),
  (20, 3, [(.iload_n 0, 1)]),
  (21, 3, [(.istore_n 3, 1), (.iload_n 2, 1), (.bipush 11, 2), (.iload_n 2, 1), (.isub, 1), (.imul, 1), (.iconst 2, 1), (.idiv, 1), (.istore 4, 2), (.iload 4, 2), (.iload_n 3, 1), (.iadd, 1), (.iload_n 2, 1), (.isub, 1), (.iconst 1, 1), (.isub, 1), (.ireturn, 1)])]
theorem b_X1_pairOf_ok : x_okB cX1_pairOf 5 b_X1_pairOf = true := by decide +kernel
def X_X1_pairOf : x_X := ([], [], [], [], [], (0, 0), x_kn, x_kf, 5, false)
theorem X_X1_pairOf_ok : x_okT RX1 X_X1_pairOf = true := by decide +kernel
theorem k_X1_pairOf (l : Launch) : ∀ z ∈ X_X1_pairOf.2.2.2.2.1, x_Cal l (x_rm 1 0 0) cX1_pairOf RX1 5 z.1 z.2 := fun _ h => absurd h List.not_mem_nil
set_option maxHeartbeats 4000000 in
set_option maxRecDepth 100000 in
theorem c_X1_pairOf (l : Launch) : x_CT l yX1_pairOf cX1_pairOf 5 (some .int) 1 q_X1_pairOf := by
  refine x_meth (X := X_X1_pairOf) (bl := b_X1_pairOf) (cut := []) (own := RX1) 30 (by decide) rfl X_X1_pairOf_ok b_X1_pairOf_ok rfl (by decide) (k_X1_pairOf l) ?_
  rintro as S M - ⟨a, b, ha, hb, hne, rfl⟩
  refine ⟨fun _ _ _ _ _ _ _ _ => False, ?_, ?_⟩
  · skip
    refine xt_blk rfl rfl (by dsimp only [List.take]) ?_
    refine xt_iln0 rfl ?_
    refine xt_iln1 rfl ?_
    refine xt_cge (t := 9) rfl (fun hc_2 => ?_) (fun hc_2 => ?_)
    · skip
      refine xt_blk rfl rfl (by dsimp only [List.take]) ?_
      refine xt_iln1 rfl ?_
      refine xt_nil (t := 10) rfl ?_
      refine xt_blk rfl rfl (by dsimp only [List.take]) ?_
      refine xt_isn2 rfl (by dsimp only [x_sto]) ?_
      refine xt_iln0 rfl ?_
      refine xt_iln1 rfl ?_
      refine xt_cge (t := 20) rfl (fun hc_13 => ?_) (fun hc_13 => ?_)
      · skip
        refine xt_blk rfl rfl (by dsimp only [List.take]) ?_
        refine xt_iln0 rfl ?_
        refine xt_nil (t := 21) rfl ?_
        refine xt_blk rfl rfl (by dsimp only [List.take]) ?_
        refine xt_isn3 rfl (by dsimp only [x_sto]) ?_
        refine xt_iln2 rfl ?_
        refine xt_bi ?_
        refine xt_iln2 rfl ?_
        refine xt_sub ?_
        refine xt_mul ?_
        refine xt_ic ?_
        refine xt_div (by decide) ?_
        refine xt_ist rfl (by dsimp only [x_sto]) ?_
        refine xt_ild rfl ?_
        refine xt_iln3 rfl ?_
        refine xt_add ?_
        refine xt_iln2 rfl ?_
        refine xt_sub ?_
        refine xt_ic ?_
        refine xt_sub ?_
        refine xt_ri rfl (Nat.le_refl _) ?_
        have hle : b ≤ a := (nI_leI (by omega) (by omega)).mp hc_2
        have e : nI b * (nI 11 - nI b) / nI 2 + nI a - nI b - nI 1 = nI (pr a b) := by
          rw [pk_sub (by omega), pk_mul, pk_div (by have := Nat.mul_le_mul (show b ≤ 6 by omega) (show 11 - b ≤ 11 by omega); omega) (by decide) (by decide), nI_add, pk_sub (by omega), pk_sub (by omega)]
          unfold pr
          rw [if_neg (by omega)]
        intro a2 b2 h2a h2b hx2_0 e2
        simp only [List.cons.injEq, Sum.inl.injEq, and_true] at e2
        obtain ⟨e2a, e2b⟩ := e2
        rw [nI_eq (by omega) (by omega)] at e2a
        subst e2a
        rw [nI_eq (by omega) (by omega)] at e2b
        subst e2b
        exact ⟨rfl, rfl, congrArg some (congrArg Sum.inl e)⟩
      · skip
        refine xt_iln1 rfl ?_
        refine xt_goto (t := 21) rfl ?_
        refine xt_blk rfl rfl (by dsimp only [List.take]) ?_
        refine xt_isn3 rfl (by dsimp only [x_sto]) ?_
        refine xt_iln2 rfl ?_
        refine xt_bi ?_
        refine xt_iln2 rfl ?_
        refine xt_sub ?_
        refine xt_mul ?_
        refine xt_ic ?_
        refine xt_div (by decide) ?_
        refine xt_ist rfl (by dsimp only [x_sto]) ?_
        refine xt_ild rfl ?_
        refine xt_iln3 rfl ?_
        refine xt_add ?_
        refine xt_iln2 rfl ?_
        refine xt_sub ?_
        refine xt_ic ?_
        refine xt_sub ?_
        refine xt_ri rfl (Nat.le_refl _) ?_
        exact absurd hc_2 hc_13
    · skip
      refine xt_iln0 rfl ?_
      refine xt_goto (t := 10) rfl ?_
      refine xt_blk rfl rfl (by dsimp only [List.take]) ?_
      refine xt_isn2 rfl (by dsimp only [x_sto]) ?_
      refine xt_iln0 rfl ?_
      refine xt_iln1 rfl ?_
      refine xt_cge (t := 20) rfl (fun hc_13 => ?_) (fun hc_13 => ?_)
      · skip
        refine xt_blk rfl rfl (by dsimp only [List.take]) ?_
        refine xt_iln0 rfl ?_
        refine xt_nil (t := 21) rfl ?_
        refine xt_blk rfl rfl (by dsimp only [List.take]) ?_
        refine xt_isn3 rfl (by dsimp only [x_sto]) ?_
        refine xt_iln2 rfl ?_
        refine xt_bi ?_
        refine xt_iln2 rfl ?_
        refine xt_sub ?_
        refine xt_mul ?_
        refine xt_ic ?_
        refine xt_div (by decide) ?_
        refine xt_ist rfl (by dsimp only [x_sto]) ?_
        refine xt_ild rfl ?_
        refine xt_iln3 rfl ?_
        refine xt_add ?_
        refine xt_iln2 rfl ?_
        refine xt_sub ?_
        refine xt_ic ?_
        refine xt_sub ?_
        refine xt_ri rfl (Nat.le_refl _) ?_
        exact absurd hc_13 hc_2
      · skip
        refine xt_iln1 rfl ?_
        refine xt_goto (t := 21) rfl ?_
        refine xt_blk rfl rfl (by dsimp only [List.take]) ?_
        refine xt_isn3 rfl (by dsimp only [x_sto]) ?_
        refine xt_iln2 rfl ?_
        refine xt_bi ?_
        refine xt_iln2 rfl ?_
        refine xt_sub ?_
        refine xt_mul ?_
        refine xt_ic ?_
        refine xt_div (by decide) ?_
        refine xt_ist rfl (by dsimp only [x_sto]) ?_
        refine xt_ild rfl ?_
        refine xt_iln3 rfl ?_
        refine xt_add ?_
        refine xt_iln2 rfl ?_
        refine xt_sub ?_
        refine xt_ic ?_
        refine xt_sub ?_
        refine xt_ri rfl (Nat.le_refl _) ?_
        have hlt : a < b := by have := (not_congr (nI_leI (a := b) (b := a) (by omega) (by omega))).mp hc_2; omega
        have e : nI a * (nI 11 - nI a) / nI 2 + nI b - nI a - nI 1 = nI (pr a b) := by
          rw [pk_sub (by omega), pk_mul, pk_div (by have := Nat.mul_le_mul (show a ≤ 6 by omega) (show 11 - a ≤ 11 by omega); omega) (by decide) (by decide), nI_add, pk_sub (by omega), pk_sub (by omega)]
          unfold pr
          rw [if_pos hlt]
        intro a2 b2 h2a h2b hx2_0 e2
        simp only [List.cons.injEq, Sum.inl.injEq, and_true] at e2
        obtain ⟨e2a, e2b⟩ := e2
        rw [nI_eq (by omega) (by omega)] at e2a
        subst e2a
        rw [nI_eq (by omega) (by omega)] at e2b
        subst e2b
        exact ⟨rfl, rfl, congrArg some (congrArg Sum.inl e)⟩
  · intro μ pc ls st S2 M2 cs sl h; exact h.elim
def q_X1_firstOf : x_K := (1, fun as S M => ∃ (p : Nat), p < 15 ∧ as = [.inl (nI p)], fun as S M rv_ S' M' => ∀ (p : Nat), p < 15 → as = [.inl (nI p)] → S' = S ∧ M' = M ∧ rv_ = some (.inl (nI (x_k3.getD p 0))), 0, 0)
def b_X1_firstOf : x_B := [(0, 1, [(.getstatic 11, 3), (.iload_n 0, 1), (.iaload, 1), (.ireturn, 1)])]
theorem b_X1_firstOf_ok : x_okB cX1_firstOf 1 b_X1_firstOf = true := by decide +kernel
def X_X1_firstOf : x_X := ([], [(11, 3)], [], [], [], (0, 0), x_kn, x_kf, 5, false)
theorem X_X1_firstOf_ok : x_okT RX1 X_X1_firstOf = true := by decide +kernel
theorem k_X1_firstOf (l : Launch) : ∀ z ∈ X_X1_firstOf.2.2.2.2.1, x_Cal l (x_rm 1 0 0) cX1_firstOf RX1 1 z.1 z.2 := fun _ h => absurd h List.not_mem_nil
set_option maxHeartbeats 4000000 in
set_option maxRecDepth 100000 in
theorem c_X1_firstOf (l : Launch) : x_CT l yX1_firstOf cX1_firstOf 1 (some .int) 1 q_X1_firstOf := by
  refine x_meth (X := X_X1_firstOf) (bl := b_X1_firstOf) (cut := []) (own := RX1) 30 (by decide) rfl X_X1_firstOf_ok b_X1_firstOf_ok rfl (by decide) (k_X1_firstOf l) ?_
  rintro as S M - ⟨p, hp, rfl⟩
  refine ⟨fun _ _ _ _ _ _ _ _ => False, ?_, ?_⟩
  · skip
    refine xt_blk rfl rfl (by dsimp only [List.take]) ?_
    refine xt_gs (q := 3) rfl ?_
    refine xt_iln0 rfl ?_
    refine xt_kal rfl (show vp_in _ 15 from vp_in_nI (by omega) (by decide)) ?_
    refine xt_ri rfl (Nat.le_refl _) ?_
    have e4 : x_kf 3 (nI p).toNatClampNeg = nI (x_k3.getD p 0) := by rw [nI_clamp (by omega)]; rfl
    intro p2 h2p e2
    simp only [List.cons.injEq, Sum.inl.injEq, and_true] at e2
    have e2p := e2
    rw [nI_eq (by omega) (by omega)] at e2p
    subst e2p
    exact ⟨rfl, rfl, congrArg some (congrArg Sum.inl e4)⟩
  · intro μ pc ls st S2 M2 cs sl h; exact h.elim
def q_X1_secondOf : x_K := (1, fun as S M => ∃ (p : Nat), p < 15 ∧ as = [.inl (nI p)], fun as S M rv_ S' M' => ∀ (p : Nat), p < 15 → as = [.inl (nI p)] → S' = S ∧ M' = M ∧ rv_ = some (.inl (nI (x_k4.getD p 0))), 0, 0)
def b_X1_secondOf : x_B := [(0, 1, [(.getstatic 15, 3), (.iload_n 0, 1), (.iaload, 1), (.ireturn, 1)])]
theorem b_X1_secondOf_ok : x_okB cX1_secondOf 1 b_X1_secondOf = true := by decide +kernel
def X_X1_secondOf : x_X := ([], [(15, 4)], [], [], [], (0, 0), x_kn, x_kf, 5, false)
theorem X_X1_secondOf_ok : x_okT RX1 X_X1_secondOf = true := by decide +kernel
theorem k_X1_secondOf (l : Launch) : ∀ z ∈ X_X1_secondOf.2.2.2.2.1, x_Cal l (x_rm 1 0 0) cX1_secondOf RX1 1 z.1 z.2 := fun _ h => absurd h List.not_mem_nil
set_option maxHeartbeats 4000000 in
set_option maxRecDepth 100000 in
theorem c_X1_secondOf (l : Launch) : x_CT l yX1_secondOf cX1_secondOf 1 (some .int) 1 q_X1_secondOf := by
  refine x_meth (X := X_X1_secondOf) (bl := b_X1_secondOf) (cut := []) (own := RX1) 30 (by decide) rfl X_X1_secondOf_ok b_X1_secondOf_ok rfl (by decide) (k_X1_secondOf l) ?_
  rintro as S M - ⟨p, hp, rfl⟩
  refine ⟨fun _ _ _ _ _ _ _ _ => False, ?_, ?_⟩
  · skip
    refine xt_blk rfl rfl (by dsimp only [List.take]) ?_
    refine xt_gs (q := 4) rfl ?_
    refine xt_iln0 rfl ?_
    refine xt_kal rfl (show vp_in _ 15 from vp_in_nI (by omega) (by decide)) ?_
    refine xt_ri rfl (Nat.le_refl _) ?_
    have e4 : x_kf 4 (nI p).toNatClampNeg = nI (x_k4.getD p 0) := by rw [nI_clamp (by omega)]; rfl
    intro p2 h2p e2
    simp only [List.cons.injEq, Sum.inl.injEq, and_true] at e2
    have e2p := e2
    rw [nI_eq (by omega) (by omega)] at e2p
    subst e2p
    exact ⟨rfl, rfl, congrArg some (congrArg Sum.inl e4)⟩
  · intro μ pc ls st S2 M2 cs sl h; exact h.elim
theorem n_ix {a b : Nat} (ha : a < 6) (hb : b < 6) : nI a * nI 6 + nI b = nI (a * 6 + b) := by rw [pk_mul, nI_add]
theorem n_ixc {a b : Nat} (ha : a < 6) (hb : b < 6) : (nI a * nI 6 + nI b).toNatClampNeg = a * 6 + b := by rw [n_ix ha hb, nI_clamp (by omega)]
theorem n_ixi {a b : Nat} (ha : a < 6) (hb : b < 6) : vp_in (nI a * nI 6 + nI b) 36 := by rw [n_ix ha hb]; exact vp_in_nI (by omega) (by decide)
def q_X1_put : x_K := (4, fun as S M => ∃ (k a b n : Nat), k < 1000 ∧ a < 6 ∧ b < 6 ∧ n < 8192 ∧ S[k]? = some (.inr (.inl (false, 36))) ∧ as = [.inr (.inl k), .inl (nI a), .inl (nI b), .inl (nI n)], fun as S M rv_ S' M' => ∀ (k a b n : Nat), a < 6 → b < 6 → n < 8192 → as = [.inr (.inl k), .inl (nI a), .inl (nI b), .inl (nI n)] → S' = S ∧ M' = x_row M k (upd (upd (M k) (a * 6 + b) (nI n)) (b * 6 + a) (nI (tn n))) ∧ rv_ = none, 0, 0)
def b_X1_put : x_B := [(0, 4, [(.aload_n 0, 1), (.iload_n 1, 1), (.bipush 6, 2), (.imul, 1), (.iload_n 2, 1), (.iadd, 1), (.iload_n 3, 1), (.iastore, 1), (.aload_n 0, 1), (.iload_n 2, 1), (.bipush 6, 2), (.imul, 1), (.iload_n 1, 1), (.iadd, 1), (.iload_n 3, 1), (.invokestatic 26, 3), (.iastore, 1), (.return_, 1)])]
theorem b_X1_put_ok : x_okB cX1_put 4 b_X1_put = true := by decide +kernel
def X_X1_put : x_X := ([], [], [], [], [(78, q_X2_turn)], (0, 0), x_kn, x_kf, 5, false)
theorem X_X1_put_ok : x_okT RX1 X_X1_put = true := by decide +kernel
theorem k_X1_put (l : Launch) : ∀ z ∈ X_X1_put.2.2.2.2.1, x_Cal l (x_rm 2 0 0) cX1_put RX1 4 z.1 z.2 := List.forall_mem_cons.mpr ⟨x_cal_S (idx := 26) (c_X2_turn l) ⟨by decide, by decide⟩ (by decide +kernel) (by decide +kernel) (by decide +kernel) (by decide +kernel) (by decide +kernel), fun _ h => absurd h List.not_mem_nil⟩
set_option maxHeartbeats 4000000 in
set_option maxRecDepth 100000 in
theorem c_X1_put (l : Launch) : x_CT l yX1_put cX1_put 4 none 2 q_X1_put := by
  refine x_meth (X := X_X1_put) (bl := b_X1_put) (cut := []) (own := RX1) 30 (by decide) rfl X_X1_put_ok b_X1_put_ok rfl (by decide) (k_X1_put l) ?_
  rintro as S M - ⟨k, a, b, n, hk, ha, hb, hn, hsh, rfl⟩
  refine ⟨fun _ _ _ _ _ _ _ _ => False, ?_, ?_⟩
  · skip
    refine xt_blk rfl rfl (by dsimp only [List.take]) ?_
    refine xt_aln0 rfl (by first | decide | omega | assumption) ?_
    refine xt_iln1 rfl ?_
    refine xt_bi ?_
    refine xt_mul ?_
    refine xt_iln2 rfl ?_
    refine xt_add ?_
    refine xt_iln3 rfl ?_
    refine xt_ias (by first | rfl | assumption) (n_ixi (by omega) (by omega)) ?_
    refine xt_aln0 rfl (by first | decide | omega | assumption) ?_
    refine xt_iln2 rfl ?_
    refine xt_bi ?_
    refine xt_mul ?_
    refine xt_iln1 rfl ?_
    refine xt_add ?_
    refine xt_iln3 rfl ?_
    refine xt_v1 (key := 78) (q := q_X2_turn) rfl rfl rfl rfl rfl (by decide) ⟨n, hn, rfl⟩ (fun rv_ S1 M1 hq_17 => ?_)
    obtain ⟨rfl, rfl, rfl⟩ := hq_17 n hn rfl
    dsimp only [Option.toList, List.cons_append, List.nil_append]
    refine xt_ias (by first | rfl | assumption) (n_ixi (by omega) (by omega)) ?_
    refine xt_rv rfl (Nat.le_refl _) ?_
    intro k2 a2 b2 n2 h2a h2b h2n e2
    simp only [List.cons.injEq, Sum.inl.injEq, Sum.inr.injEq, and_true] at e2
    obtain ⟨rfl, ea, eb, en⟩ := e2
    rw [nI_eq (by omega) (by omega)] at ea eb en
    subst ea eb en
    refine ⟨rfl, ?_, rfl⟩
    rw [x_row_self, x_row_row, n_ixc ha hb, n_ixc hb ha]
  · intro μ pc ls st S2 M2 cs sl h; exact h.elim
def opn (j : Nat) : Nat := if j / 6 = j % 6 then 64 else 8191
def q_X1_open : x_K := (1, fun as S M => ∃ k : Nat, k < 1000 ∧ S[k]? = some (.inr (.inl (false, 36))) ∧ as = [.inr (.inl k)], fun as S M rv_ S' M' => ∀ k : Nat, as = [.inr (.inl k)] → S' = S ∧ (∃ f, M' = x_row M k f ∧ ∀ j, j < 36 → f j = nI (opn j)) ∧ rv_ = none, 0, 0)
def b_X1_open : x_B := [(0, 1, [(.aload_n 0, 1), (.sipush 8191, 3), (.invokestatic 18, 3), (.iconst 0, 1), (.istore_n 1, 1)]),
  (9, 2, [(.iload_n 1, 1), (.bipush 6, 2), (.if_icmp .ge 19, 3), (.aload_n 0, 1), (.iload_n 1, 1), (.bipush 6, 2), (.imul, 1), (.iload_n 1, 1), (.iadd, 1), (.bipush 64, 2), (.iastore, 1), (.iinc 1 1, 3), (.goto (-19), 3)]),
  (31, 2, [(.return_, 1)])]
theorem b_X1_open_ok : x_okB cX1_open 2 b_X1_open = true := by decide +kernel
def X_X1_open : x_X := ([], [], [], [], [(54, q_J7_fill)], (0, 0), x_kn, x_kf, 5, false)
theorem X_X1_open_ok : x_okT RX1 X_X1_open = true := by decide +kernel
theorem k_X1_open (l : Launch) : ∀ z ∈ X_X1_open.2.2.2.2.1, x_Cal l (x_rm 2 0 0) cX1_open RX1 2 z.1 z.2 := List.forall_mem_cons.mpr ⟨x_cal_S (idx := 18) (c_J7_fill l) ⟨by decide, by decide⟩ (by decide +kernel) (by decide +kernel) (by decide +kernel) (by decide +kernel) (by decide +kernel), fun _ h => absurd h List.not_mem_nil⟩
set_option maxHeartbeats 4000000 in
set_option maxRecDepth 100000 in
theorem c_X1_open (l : Launch) : x_CT l yX1_open cX1_open 2 none 2 q_X1_open := by
  refine x_meth (X := X_X1_open) (bl := b_X1_open) (cut := [9]) (own := RX1) 30 (by decide) rfl X_X1_open_ok b_X1_open_ok rfl (by decide) (k_X1_open l) ?_
  rintro as S M - ⟨k, hk, hsh, rfl⟩
  refine ⟨fun μ pc ls st S' M' cs sl => ∃ i, i ≤ 6 ∧ ∃ f, M' = x_row M k f ∧ (∀ j, j < 36 → f j = if j / 6 = j % 6 ∧ j / 6 < i then nI 64 else nI 8191) ∧ pc = 9 ∧ st = [] ∧ S' = S ∧ cs = 0 ∧ sl = 0 ∧ ls = [.inr (.inl k), .inl (nI i)] ∧ μ = 6 - i, ?_, ?_⟩
  · skip
    refine xt_blk rfl rfl (by dsimp only [List.take]) ?_
    refine xt_aln0 rfl (by first | decide | omega | assumption) ?_
    refine xt_si ?_
    refine xt_v2 (key := 54) (q := q_J7_fill) rfl rfl rfl rfl rfl (by decide) ⟨k, 36, _, hk, by decide, hsh, rfl⟩ (fun rv_ S1 M1 hq_4 => ?_)
    obtain ⟨rfl, rfl, rfl⟩ := hq_4 k 36 _ hsh rfl
    dsimp only [Option.toList, List.cons_append, List.nil_append]
    refine xt_ic ?_
    refine xt_isn1 rfl (by dsimp only [x_sto]) ?_
    refine xt_nil (t := 9) rfl ?_
    refine xt_cut rfl rfl (by dsimp only [List.take]) ?_
    exact ⟨6, 0, by omega, _, rfl, fun j hj => by simp only [x_cp]; rw [if_pos hj, if_neg (by omega)], rfl, rfl, rfl, rfl, rfl, rfl, rfl⟩
  · rintro μ pc ls st S2 M2 cs sl (⟨i, hi, f, rfl, hf, rfl, rfl, rfl, rfl, rfl, rfl, rfl⟩)
    · refine ⟨_, rfl, ?_⟩
      refine xt_iln1 rfl ?_
      refine xt_bi ?_
      refine xt_cge (t := 31) rfl (fun hc_12 => ?_) (fun hc_12 => ?_)
      · skip
        refine xt_blk rfl rfl (by dsimp only [List.take]) ?_
        refine xt_rv rfl (Nat.le_refl _) ?_
        have h13 : i = 6 := by rw [nI_leI (by omega) (by omega)] at hc_12; omega
        subst h13
        intro k2 e2
        simp only [List.cons.injEq, Sum.inr.injEq, Sum.inl.injEq, and_true] at e2
        subst e2
        refine ⟨rfl, ⟨f, rfl, fun j hj => ?_⟩, rfl⟩
        rw [hf j hj]
        unfold opn
        by_cases e : j / 6 = j % 6
        · rw [if_pos ⟨e, by omega⟩, if_pos e]
        · rw [if_neg (fun q => e q.1), if_neg e]
      · skip
        refine xt_aln0 rfl (by first | decide | omega | assumption) ?_
        refine xt_iln1 rfl ?_
        refine xt_bi ?_
        refine xt_mul ?_
        refine xt_iln1 rfl ?_
        refine xt_add ?_
        refine xt_bi ?_
        refine xt_ias (by first | rfl | assumption) (n_ixi (by rw [nI_leI (by omega) (by omega)] at hc_12; omega) (by rw [nI_leI (by omega) (by omega)] at hc_12; omega)) ?_
        refine xt_inc rfl (by dsimp only [x_sto]) ?_
        refine xt_goto (t := 9) rfl ?_
        refine xt_cut rfl rfl (by dsimp only [List.take]) ?_
        have hlt : i < 6 := by rw [nI_leI (by omega) (by omega)] at hc_12; omega
        exact ⟨6 - (i + 1), by omega, i + 1, by omega, upd f (i * 6 + i) (nI 64), by rw [x_row_self, x_row_row, n_ixc hlt hlt], fun j hj => by
          unfold upd
          by_cases e : j = i * 6 + i
          · rw [if_pos e, if_pos (by omega)]
          · rw [if_neg e, hf j hj]
            by_cases e2 : j / 6 = j % 6 ∧ j / 6 < i
            · rw [if_pos e2, if_pos (by omega)]
            · rw [if_neg e2, if_neg (by omega)], rfl, rfl, rfl, rfl, rfl, by rw [nI_add], rfl⟩
end
section
/-! NETS: narrow; Integer.bitCount of a set -/
/-- what is left of the set of a and b by the path over m -/
def lft (f : Nat → Nat) (a m b : Nat) : Nat := cm (f (a * 6 + m)) (f (m * 6 + b)) &&& f (a * 6 + b)
theorem lft_lt {f : Nat → Nat} (hf : ∀ j, j < 36 → f j < 8192) {a m b : Nat} (ha : a < 6) (hm : m < 6) (hb : b < 6) : lft f a m b < 8192 := Nat.lt_of_le_of_lt Nat.and_le_right (hf _ (by omega))
def q_X1_narrow : x_K := (4, fun as S M => ∃ (k a m b : Nat) (f : Nat → Nat), k < 1000 ∧ a < 6 ∧ m < 6 ∧ b < 6 ∧ a ≠ b ∧ S[k]? = some (.inr (.inl (false, 36))) ∧ (∀ j, j < 36 → f j < 8192 ∧ M k j = nI (f j)) ∧ as = [.inr (.inl k), .inl (nI a), .inl (nI m), .inl (nI b)],
  fun as S M rv_ S' M' => ∀ (k a m b : Nat) (f : Nat → Nat), a < 6 → m < 6 → b < 6 → (∀ j, j < 36 → f j < 8192 ∧ M k j = nI (f j)) → as = [.inr (.inl k), .inl (nI a), .inl (nI m), .inl (nI b)] →
    S' = S ∧ ((lft f a m b = 0 ∧ M' = M ∧ rv_ = some (.inl (nI 32768))) ∨ (lft f a m b ≠ 0 ∧ lft f a m b = f (a * 6 + b) ∧ M' = M ∧ rv_ = some (.inl (nI 0))) ∨ (lft f a m b ≠ 0 ∧ lft f a m b ≠ f (a * 6 + b) ∧ M' = x_row M k (upd (upd (M k) (a * 6 + b) (nI (lft f a m b))) (b * 6 + a) (nI (tn (lft f a m b)))) ∧ rv_ = some (.inl (nI (2 ^ pr a b))))), 0, 0)
def b_X1_narrow : x_B := [(0, 4, [(.aload_n 0, 1), (.iload_n 1, 1), (.bipush 6, 2), (.imul, 1), (.iload_n 3, 1), (.iadd, 1), (.iaload, 1), (.istore 4, 2), (.aload_n 0, 1), (.iload_n 1, 1), (.bipush 6, 2), (.imul, 1), (.iload_n 2, 1), (.iadd, 1), (.iaload, 1), (.aload_n 0, 1), (.iload_n 2, 1), (.bipush 6, 2), (.imul, 1), (.iload_n 3, 1), (.iadd, 1), (.iaload, 1), (.iload 4, 2), (.invokestatic 35, 3), (.istore 5, 2), (.iload 5, 2), (.ifCond .ne 6, 3), (.ldc 34, 2), (.ireturn, 1)]),
  (41, 6, [(.iload 5, 2), (.iload 4, 2), (.if_icmp .ne 5, 3), (.iconst 0, 1), (.ireturn, 1)]),
  (50, 6, [(.aload_n 0, 1), (.iload_n 1, 1), (.bipush 6, 2), (.imul, 1), (.iload_n 3, 1), (.iadd, 1), (.iload 5, 2), (.iastore, 1), (.aload_n 0, 1), (.iload_n 3, 1), (.bipush 6, 2), (.imul, 1), (.iload_n 1, 1), (.iadd, 1), (.iload 5, 2), (.invokestatic 26, 3), (.iastore, 1), (.iconst 1, 1), (.iload_n 1, 1), (.iload_n 3, 1), (.invokestatic 39, 3), (.ishl, 1), (.ireturn, 1)])]
theorem b_X1_narrow_ok : x_okB cX1_narrow 6 b_X1_narrow = true := by decide +kernel
def X_X1_narrow : x_X := ([], [], [(34, 32768)], [], [(105, q_X2_compose), (78, q_X2_turn), (117, q_X1_pairOf)], (0, 0), x_kn, x_kf, 5, false)
theorem X_X1_narrow_ok : x_okT RX1 X_X1_narrow = true := by decide +kernel
theorem k_X1_narrow (l : Launch) : ∀ z ∈ X_X1_narrow.2.2.2.2.1, x_Cal l (x_rm 2 0 0) cX1_narrow RX1 6 z.1 z.2 := List.forall_mem_cons.mpr ⟨x_cal_S (idx := 35) (c_X2_compose l) ⟨by decide, by decide⟩ (by decide +kernel) (by decide +kernel) (by decide +kernel) (by decide +kernel) (by decide +kernel), List.forall_mem_cons.mpr ⟨x_cal_S (idx := 26) (c_X2_turn l) ⟨by decide, by decide⟩ (by decide +kernel) (by decide +kernel) (by decide +kernel) (by decide +kernel) (by decide +kernel), List.forall_mem_cons.mpr ⟨x_cal_S (idx := 39) (c_X1_pairOf l) ⟨by decide, by decide⟩ (by decide +kernel) (by decide +kernel) (by decide +kernel) (by decide +kernel) (by decide +kernel), fun _ h => absurd h List.not_mem_nil⟩⟩⟩
set_option maxHeartbeats 4000000 in
set_option maxRecDepth 100000 in
theorem c_X1_narrow (l : Launch) : x_CT l yX1_narrow cX1_narrow 6 (some .int) 2 q_X1_narrow := by
  refine x_meth (X := X_X1_narrow) (bl := b_X1_narrow) (cut := []) (own := RX1) 30 (by decide) rfl X_X1_narrow_ok b_X1_narrow_ok rfl (by decide) (k_X1_narrow l) ?_
  rintro as S M - ⟨k, a, m, b, f, hk, ha, hm, hb, hne, hsh, hf, rfl⟩
  refine ⟨fun _ _ _ _ _ _ _ _ => False, ?_, ?_⟩
  · skip
    refine xt_blk rfl rfl (by dsimp only [List.take]) ?_
    refine xt_aln0 rfl (by first | decide | omega | assumption) ?_
    refine xt_iln1 rfl ?_
    refine xt_bi ?_
    refine xt_mul ?_
    refine xt_iln3 rfl ?_
    refine xt_add ?_
    refine xt_ial (by first | rfl | assumption) (by first | exact n_ixi ha hb | exact n_ixi ha hm | exact n_ixi hm hb | exact n_ixi hb ha) ?_
    refine xt_ist rfl (by dsimp only [x_sto]) ?_
    refine xt_aln0 rfl (by first | decide | omega | assumption) ?_
    refine xt_iln1 rfl ?_
    refine xt_bi ?_
    refine xt_mul ?_
    refine xt_iln2 rfl ?_
    refine xt_add ?_
    refine xt_ial (by first | rfl | assumption) (by first | exact n_ixi ha hb | exact n_ixi ha hm | exact n_ixi hm hb | exact n_ixi hb ha) ?_
    refine xt_aln0 rfl (by first | decide | omega | assumption) ?_
    refine xt_iln2 rfl ?_
    refine xt_bi ?_
    refine xt_mul ?_
    refine xt_iln3 rfl ?_
    refine xt_add ?_
    refine xt_ial (by first | rfl | assumption) (by first | exact n_ixi ha hb | exact n_ixi ha hm | exact n_ixi hm hb | exact n_ixi hb ha) ?_
    refine xt_ild rfl ?_
    refine xt_v3 (key := 105) (q := q_X2_compose) rfl rfl rfl rfl rfl (by decide) ⟨f (a * 6 + m), f (m * 6 + b), f (a * 6 + b), (hf _ (by omega)).1, (hf _ (by omega)).1, (hf _ (by omega)).1, by rw [n_ixc ha hm, n_ixc hm hb, n_ixc ha hb, (hf _ (by omega)).2, (hf _ (by omega)).2, (hf _ (by omega)).2]⟩ (fun rv_ S1 M1 hq_28 => ?_)
    obtain ⟨eS_, eM_, rfl⟩ := hq_28 (f (a * 6 + m)) (f (m * 6 + b)) (f (a * 6 + b)) (hf _ (by omega)).1 (hf _ (by omega)).1 (hf _ (by omega)).1 (by rw [n_ixc ha hm, n_ixc hm hb, n_ixc ha hb, (hf _ (by omega)).2, (hf _ (by omega)).2, (hf _ (by omega)).2])
    replace eS_ := eS_.symm
    replace eM_ := eM_.symm
    subst eS_ eM_
    change x_wp _ _ _ _ _ _ (.inl (nI (lft f a m b)) :: _) _ _ _ _
    have e1 : M k (nI a * nI 6 + nI b).toNatClampNeg = nI (f (a * 6 + b)) := by rw [n_ixc ha hb]; exact (hf _ (by omega)).2
    have hle := lft_lt (fun j hj => (hf j hj).1) ha hm hb
    have hfe := (hf _ (show a * 6 + b < 36 by omega)).1
    dsimp only [Option.toList, List.cons_append, List.nil_append]
    refine xt_ist rfl (by dsimp only [x_sto]) ?_
    refine xt_ild rfl ?_
    refine xt_ne (t := 41) rfl (fun hc_35 => ?_) (fun hc_35 => ?_)
    · skip
      refine xt_blk rfl rfl (by dsimp only [List.take]) ?_
      refine xt_ild rfl ?_
      refine xt_ild rfl ?_
      refine xt_cne (t := 50) rfl (fun hc_45 => ?_) (fun hc_45 => ?_)
      · skip
        refine xt_blk rfl rfl (by dsimp only [List.take]) ?_
        refine xt_aln0 rfl (by first | decide | omega | assumption) ?_
        refine xt_iln1 rfl ?_
        refine xt_bi ?_
        refine xt_mul ?_
        refine xt_iln3 rfl ?_
        refine xt_add ?_
        refine xt_ild rfl ?_
        refine xt_ias (by first | rfl | assumption) (by first | exact n_ixi ha hb | exact n_ixi ha hm | exact n_ixi hm hb | exact n_ixi hb ha) ?_
        refine xt_aln0 rfl (by first | decide | omega | assumption) ?_
        refine xt_iln3 rfl ?_
        refine xt_bi ?_
        refine xt_mul ?_
        refine xt_iln1 rfl ?_
        refine xt_add ?_
        refine xt_ild rfl ?_
        refine xt_v1 (key := 78) (q := q_X2_turn) rfl rfl rfl rfl rfl (by decide) ⟨lft f a m b, hle, rfl⟩ (fun rv_ S1 M1 hq_69 => ?_)
        obtain ⟨rfl, rfl, rfl⟩ := hq_69 (lft f a m b) hle rfl
        dsimp only [Option.toList, List.cons_append, List.nil_append]
        refine xt_ias (by first | rfl | assumption) (by first | exact n_ixi ha hb | exact n_ixi ha hm | exact n_ixi hm hb | exact n_ixi hb ha) ?_
        refine xt_ic ?_
        refine xt_iln1 rfl ?_
        refine xt_iln3 rfl ?_
        refine xt_v2 (key := 117) (q := q_X1_pairOf) rfl rfl rfl rfl rfl (by decide) ⟨a, b, ha, hb, hne, rfl⟩ (fun rv_ S1 M1 hq_76 => ?_)
        obtain ⟨rfl, rfl, rfl⟩ := hq_76 a b ha hb hne rfl
        dsimp only [Option.toList, List.cons_append, List.nil_append]
        refine xt_shl ?_
        refine xt_ri rfl (Nat.le_refl _) ?_
        intro k2 a2 m2 b2 f2 h2a h2m h2b hf2 e2
        simp only [List.cons.injEq, Sum.inl.injEq, Sum.inr.injEq, and_true] at e2
        obtain ⟨rfl, ea, em, eb⟩ := e2
        rw [nI_eq (by omega) (by omega)] at ea em eb
        subst ea em eb
        have ef : ∀ j, j < 36 → f j = f2 j := fun j hj => by
          have h1 := (hf j hj).2
          rw [(hf2 j hj).2] at h1
          exact ((nI_eq (by have := (hf2 j hj).1; omega) (by have := (hf j hj).1; omega)).mp h1).symm
        have el : lft f a m b = lft f2 a m b := by unfold lft; rw [ef _ (by omega), ef _ (by omega), ef _ (by omega)]
        rw [← el, ← ef _ (show a * 6 + b < 36 by omega)]
        refine ⟨rfl, Or.inr (Or.inr ⟨fun q => hc_35 (by rw [q]; rfl), fun q => hc_45 (by rw [e1, q]), ?_, ?_⟩)⟩
        · rw [x_row_self, x_row_row, n_ixc ha hb, n_ixc hb ha]
        · have hp := pr_lt ha hb hne
          have hpw : 2 ^ pr a b ≤ 2 ^ 15 := Nat.pow_le_pow_right (by decide) (by omega)
          rw [n_shl (by omega) (by omega), Nat.one_mul]
      · skip
        refine xt_ic ?_
        refine xt_ri rfl (Nat.le_refl _) ?_
        intro k2 a2 m2 b2 f2 h2a h2m h2b hf2 e2
        simp only [List.cons.injEq, Sum.inl.injEq, Sum.inr.injEq, and_true] at e2
        obtain ⟨rfl, ea, em, eb⟩ := e2
        rw [nI_eq (by omega) (by omega)] at ea em eb
        subst ea em eb
        have ef : ∀ j, j < 36 → f j = f2 j := fun j hj => by
          have h1 := (hf j hj).2
          rw [(hf2 j hj).2] at h1
          exact ((nI_eq (by have := (hf2 j hj).1; omega) (by have := (hf j hj).1; omega)).mp h1).symm
        have el : lft f a m b = lft f2 a m b := by unfold lft; rw [ef _ (by omega), ef _ (by omega), ef _ (by omega)]
        rw [← el, ← ef _ (show a * 6 + b < 36 by omega)]
        exact ⟨rfl, Or.inr (Or.inl ⟨fun q => hc_35 (by rw [q]; rfl), by rw [e1, nI_eq (by omega) (by omega)] at hc_45; exact hc_45, rfl, rfl⟩)⟩
    · skip
      refine xt_ldc (v := 32768) rfl ?_
      refine xt_ri rfl (Nat.le_refl _) ?_
      intro k2 a2 m2 b2 f2 h2a h2m h2b hf2 e2
      simp only [List.cons.injEq, Sum.inl.injEq, Sum.inr.injEq, and_true] at e2
      obtain ⟨rfl, ea, em, eb⟩ := e2
      rw [nI_eq (by omega) (by omega)] at ea em eb
      subst ea em eb
      have ef : ∀ j, j < 36 → f j = f2 j := fun j hj => by
        have h1 := (hf j hj).2
        rw [(hf2 j hj).2] at h1
        exact ((nI_eq (by have := (hf2 j hj).1; omega) (by have := (hf j hj).1; omega)).mp h1).symm
      have el : lft f a m b = lft f2 a m b := by unfold lft; rw [ef _ (by omega), ef _ (by omega), ef _ (by omega)]
      rw [← el, ← ef _ (show a * 6 + b < 36 by omega)]
      exact ⟨rfl, Or.inl ⟨(n_eq0 (by omega)).mp hc_35, rfl, rfl⟩⟩
  · intro μ pc ls st S2 M2 cs sl h; exact h.elim
end
section
/-! CLOSING: the mathematics of one narrowing -/
theorem bi_tb' (n i : Nat) : bi n i = (n.testBit i).toNat := by
  have h := bi_lt n i
  have h2 := bi_tb n i
  cases hb : n.testBit i
  · have : bi n i ≠ 1 := fun q => by rw [h2.mp q] at hb; cases hb
    simp; omega
  · rw [h2.mpr hb]; rfl
theorem tq_tb (n : Nat) : ∀ i j, (tq n i).testBit j = (decide (j < i) && n.testBit (i - 1 - j))
  | 0, j => by simp [tq]
  | i + 1, j => by
    have hb := bi_lt n i
    show (2 * tq n i + bi n i).testBit j = _
    cases j with
    | zero =>
      rw [Nat.testBit_zero]
      have : (2 * tq n i + bi n i) % 2 = bi n i := by omega
      rw [this, bi_tb']
      cases hq : n.testBit i <;> simp [hq]
    | succ j =>
      rw [Nat.testBit_succ]
      have : (2 * tq n i + bi n i) / 2 = tq n i := by omega
      rw [this, tq_tb n i j]
      simp only [Nat.add_lt_add_iff_right, Nat.add_sub_cancel]
      congr 2
      omega
theorem tn_tb (n : Nat) {j : Nat} (hj : j < 13) : (tn n).testBit j = n.testBit (12 - j) := by
  unfold tn
  rw [tq_tb]
  simp [hj]
theorem tn_tn {n : Nat} (hn : n < 8192) : tn (tn n) = n := by
  refine tb_ext (tn_lt _) hn (fun i hi => ?_)
  rw [tn_tb _ hi, tn_tb _ (by omega), show 12 - (12 - i) = i by omega]
/-- within -/
def sb (a b : Nat) : Prop := a &&& b = a
theorem sb_tb {a b : Nat} : sb a b ↔ ∀ i, a.testBit i = true → b.testBit i = true := by
  unfold sb
  constructor
  · intro h i hi
    rw [← h, Nat.testBit_and, Bool.and_eq_true] at hi
    exact hi.2
  · intro h
    apply Nat.eq_of_testBit_eq
    intro i
    rw [Nat.testBit_and]
    have := h i
    cases hA : a.testBit i <;> simp_all
theorem sb_rf (a : Nat) : sb a a := Nat.and_self a
theorem sb_tr {a b c : Nat} (h1 : sb a b) (h2 : sb b c) : sb a c := sb_tb.mpr (fun i hi => sb_tb.mp h2 i (sb_tb.mp h1 i hi))
theorem sb_and {a b c : Nat} (h1 : sb a b) (h2 : sb a c) : sb a (b &&& c) := sb_tb.mpr (fun i hi => by rw [Nat.testBit_and, sb_tb.mp h1 i hi, sb_tb.mp h2 i hi]; rfl)
theorem sb_andL (a b : Nat) : sb (a &&& b) a := sb_tb.mpr (fun i hi => by rw [Nat.testBit_and, Bool.and_eq_true] at hi; exact hi.1)
theorem sb_andR (a b : Nat) : sb (a &&& b) b := sb_tb.mpr (fun i hi => by rw [Nat.testBit_and, Bool.and_eq_true] at hi; exact hi.2)
theorem sb_0 {a : Nat} (h : sb a 0) : a = 0 := by unfold sb at h; rw [Nat.and_zero] at h; exact h.symm
theorem sb_as {a b : Nat} (h1 : sb a b) (h2 : sb b a) : a = b := by unfold sb at h1 h2; rw [← h1, Nat.and_comm]; exact h2
theorem sb_tn {a b : Nat} (h : sb a b) : sb (tn a) (tn b) := by
  refine sb_tb.mpr (fun i hi => ?_)
  have h13 := tb_lt (tn_lt a) hi
  rw [tn_tb _ h13] at hi ⊢
  exact sb_tb.mp h _ hi
theorem sb_cm {r r' s s' : Nat} (h1 : sb r r') (h2 : sb s s') : sb (cm r s) (cm r' s') := by
  refine sb_tb.mpr (fun b hb => ?_)
  obtain ⟨i, j, hi, hj, g1, g2, g3⟩ := cm_tb.mp hb
  exact cm_tb.mpr ⟨i, j, hi, hj, sb_tb.mp h1 _ g1, sb_tb.mp h2 _ g2, g3⟩
theorem cmT_tn : ∀ i, i < 13 → ∀ j, j < 13 → ∀ b, b < 13 → (cmT (i * 13 + j)).testBit b = (cmT ((12 - j) * 13 + (12 - i))).testBit (12 - b) := by decide +kernel
theorem cm_tn (r s : Nat) : tn (cm r s) = cm (tn s) (tn r) := by
  refine tb_ext (tn_lt _) (cm_lt _ _) (fun b hb => ?_)
  rw [tn_tb _ hb, cm_tb, cm_tb]
  constructor
  · rintro ⟨i, j, hi, hj, g1, g2, g3⟩
    refine ⟨12 - j, 12 - i, by omega, by omega, ?_, ?_, ?_⟩
    · rw [tn_tb _ (by omega), show 12 - (12 - j) = j by omega]; exact g2
    · rw [tn_tb _ (by omega), show 12 - (12 - i) = i by omega]; exact g1
    · rw [cmT_tn i hi j hj _ (by omega)] at g3
      rw [show 12 - (12 - b) = b by omega] at g3
      exact g3
  · rintro ⟨i, j, hi, hj, g1, g2, g3⟩
    rw [tn_tb _ hi] at g1
    rw [tn_tb _ hj] at g2
    refine ⟨12 - j, 12 - i, by omega, by omega, g2, g1, ?_⟩
    rw [cmT_tn i hi j hj b hb] at g3
    exact g3
def Bd (g : Nat → Nat) : Prop := ∀ j, j < 36 → g j < 8192
def Sy (g : Nat → Nat) : Prop := ∀ a b, a < 6 → b < 6 → a ≠ b → g (b * 6 + a) = tn (g (a * 6 + b))
def Tri (g : Nat → Nat) (x y z : Nat) : Prop := sb (g (x * 6 + z)) (cm (g (x * 6 + y)) (g (y * 6 + z)))
def Le (h g : Nat → Nat) : Prop := ∀ a b, a < 6 → b < 6 → a ≠ b → sb (h (a * 6 + b)) (g (a * 6 + b))
def Ds (x y z : Nat) : Prop := x < 6 ∧ y < 6 ∧ z < 6 ∧ x ≠ y ∧ y ≠ z ∧ x ≠ z
def Clo (g : Nat → Nat) : Prop := ∀ x y z, Ds x y z → Tri g x y z
theorem Tri_sy {g : Nat → Nat} (hS : Sy g) {x y z : Nat} (hd : Ds x y z) (h : Tri g x y z) : Tri g z y x := by
  obtain ⟨h1, h2, h3, h4, h5, h6⟩ := hd
  unfold Tri at h ⊢
  rw [hS x z h1 h3 h6, hS y z h2 h3 h5, hS x y h1 h2 h4, ← cm_tn]
  exact sb_tn h
/-- a pair gets a set, and its turned one -/
def nw (g : Nat → Nat) (a b v : Nat) : Nat → Nat := fun j => if j = b * 6 + a then tn v else if j = a * 6 + b then v else g j
theorem nw_ab (g : Nat → Nat) {a b : Nat} (v : Nat) (ha : a < 6) (hb : b < 6) (h : a ≠ b) : nw g a b v (a * 6 + b) = v := by
  unfold nw; rw [if_neg (by omega), if_pos rfl]
theorem nw_ba (g : Nat → Nat) {a b : Nat} (v : Nat) : nw g a b v (b * 6 + a) = tn v := by
  unfold nw; rw [if_pos rfl]
theorem nw_ne (g : Nat → Nat) {a b x y : Nat} (v : Nat) (ha : a < 6) (hb : b < 6) (hx : x < 6) (hy : y < 6) (h1 : ¬ (x = a ∧ y = b)) (h2 : ¬ (x = b ∧ y = a)) : nw g a b v (x * 6 + y) = g (x * 6 + y) := by
  unfold nw; rw [if_neg (by omega), if_neg (by omega)]
theorem nw_Bd {g : Nat → Nat} (hB : Bd g) {a b v : Nat} (hv : v < 8192) : Bd (nw g a b v) := by
  intro j hj
  unfold nw
  split
  · exact tn_lt v
  · split
    · exact hv
    · exact hB j hj
theorem nw_Sy {g : Nat → Nat} (hS : Sy g) {a b v : Nat} (ha : a < 6) (hb : b < 6) (hne : a ≠ b) (hv : v < 8192) : Sy (nw g a b v) := by
  intro x y hx hy hxy
  by_cases h1 : x = a ∧ y = b
  · obtain ⟨rfl, rfl⟩ := h1
    rw [nw_ba, nw_ab g v ha hb hne]
  · by_cases h2 : x = b ∧ y = a
    · obtain ⟨rfl, rfl⟩ := h2
      rw [nw_ba, nw_ab g v ha hb hne, tn_tn hv]
    · rw [nw_ne g v ha hb hx hy h1 h2, nw_ne g v ha hb hy hx (fun q => h2 ⟨q.2, q.1⟩) (fun q => h1 ⟨q.2, q.1⟩)]
      exact hS x y hx hy hxy
theorem nw_Le {g : Nat → Nat} (hS : Sy g) {a b v : Nat} (ha : a < 6) (hb : b < 6) (hne : a ≠ b) (hv : sb v (g (a * 6 + b))) : Le (nw g a b v) g := by
  intro x y hx hy hxy
  by_cases h1 : x = a ∧ y = b
  · obtain ⟨rfl, rfl⟩ := h1
    rw [nw_ab g v ha hb hne]; exact hv
  · by_cases h2 : x = b ∧ y = a
    · obtain ⟨rfl, rfl⟩ := h2
      rw [nw_ba, hS y x ha hb hne]; exact sb_tn hv
    · rw [nw_ne g v ha hb hx hy h1 h2]; exact sb_rf _
theorem nw_max {g h : Nat → Nat} (hSg : Sy g) (hSh : Sy h) (hC : Clo h) (hle : Le h g) {a m b : Nat} (hd : Ds a m b) : Le h (nw g a b (lft g a m b)) := by
  obtain ⟨ha, hm, hb, ham, hmb, hab⟩ := hd
  have key : sb (h (a * 6 + b)) (lft g a m b) := sb_and (sb_tr (hC a m b ⟨ha, hm, hb, ham, hmb, hab⟩) (sb_cm (hle a m ha hm ham) (hle m b hm hb hmb))) (hle a b ha hb hab)
  intro x y hx hy hxy
  by_cases h1 : x = a ∧ y = b
  · obtain ⟨rfl, rfl⟩ := h1
    rw [nw_ab g _ ha hb hab]; exact key
  · by_cases h2 : x = b ∧ y = a
    · obtain ⟨rfl, rfl⟩ := h2
      rw [nw_ba, hSh y x ha hb hab]; exact sb_tn key
    · rw [nw_ne g _ ha hb hx hy h1 h2]; exact hle x y hx hy hxy
theorem lft_0 {g h : Nat → Nat} (hC : Clo h) (hle : Le h g) {a m b : Nat} (hd : Ds a m b) (h0 : lft g a m b = 0) : h (a * 6 + b) = 0 := by
  obtain ⟨ha, hm, hb, ham, hmb, hab⟩ := hd
  have key : sb (h (a * 6 + b)) (lft g a m b) := sb_and (sb_tr (hC a m b ⟨ha, hm, hb, ham, hmb, hab⟩) (sb_cm (hle a m ha hm ham) (hle m b hm hb hmb))) (hle a b ha hb hab)
  rw [h0] at key
  exact sb_0 key
theorem pr_inj0 : ∀ (a b x y : Fin 6), (a ≠ b ∧ x ≠ y ∧ pr a.val b.val = pr x.val y.val) → ((x = a ∧ y = b) ∨ (x = b ∧ y = a)) := by decide +kernel
theorem pr_inj (a : Nat) (ha : a < 6) (b : Nat) (hb : b < 6) (x : Nat) (hx : x < 6) (y : Nat) (hy : y < 6) (h1 : a ≠ b) (h2 : x ≠ y) (h : pr a b = pr x y) : (x = a ∧ y = b) ∨ (x = b ∧ y = a) := by
  have := pr_inj0 ⟨a, ha⟩ ⟨b, hb⟩ ⟨x, hx⟩ ⟨y, hy⟩ ⟨by simpa using h1, by simpa using h2, h⟩
  simpa using this
/-- a path whose legs keep, and whose end shrinks -/
theorem nw_Tri {g : Nat → Nat} (hS : Sy g) {a b v x y z : Nat} (ha : a < 6) (hb : b < 6) (hne : a ≠ b) (hv : sb v (g (a * 6 + b))) (hd : Ds x y z) (h1 : pr x y ≠ pr a b) (h2 : pr y z ≠ pr a b) (h : Tri g x y z) : Tri (nw g a b v) x y z := by
  obtain ⟨hx, hy, hz, hxy, hyz, hxz⟩ := hd
  have n1 : ¬ (x = a ∧ y = b) := fun q => h1 (by rw [q.1, q.2])
  have n2 : ¬ (x = b ∧ y = a) := fun q => h1 (by rw [q.1, q.2, pr_c hb ha (Ne.symm hne)])
  have n3 : ¬ (y = a ∧ z = b) := fun q => h2 (by rw [q.1, q.2])
  have n4 : ¬ (y = b ∧ z = a) := fun q => h2 (by rw [q.1, q.2, pr_c hb ha (Ne.symm hne)])
  unfold Tri at h ⊢
  rw [nw_ne g v ha hb hx hy n1 n2, nw_ne g v ha hb hy hz n3 n4]
  exact sb_tr (nw_Le hS ha hb hne hv x z hx hz hxz) h
theorem nw_Tri2 {g : Nat → Nat} {a m b : Nat} (hd : Ds a m b) : Tri (nw g a b (lft g a m b)) a m b := by
  obtain ⟨ha, hm, hb, ham, hmb, hab⟩ := hd
  unfold Tri
  rw [nw_ab g _ ha hb hab, nw_ne g _ ha hb ha hm (by omega) (by omega), nw_ne g _ ha hb hm hb (by omega) (by omega)]
  exact sb_andL _ _
/-- how many -/
def pcn (n : Nat) : Nat → Nat
  | 0 => 0
  | i + 1 => pcn n i + bi n i
def sm (F : Nat → Nat) : Nat → Nat
  | 0 => 0
  | i + 1 => sm F i + F i
theorem pcn_le {a b : Nat} (h : sb a b) : ∀ i, pcn a i ≤ pcn b i
  | 0 => Nat.le_refl _
  | i + 1 => by
    have h1 := pcn_le h i
    have h2 : bi a i ≤ bi b i := by
      have := sb_tb.mp h i
      rw [bi_tb', bi_tb']
      cases hA : a.testBit i <;> simp_all
    unfold pcn
    omega
theorem pcn_lt {a b : Nat} (h : sb a b) (j : Nat) (hj1 : a.testBit j = false) (hj2 : b.testBit j = true) : ∀ i, j < i → pcn a i < pcn b i
  | 0, q => by omega
  | i + 1, q => by
    have h2 : bi a i ≤ bi b i := by
      have := sb_tb.mp h i
      rw [bi_tb', bi_tb']
      cases hA : a.testBit i <;> simp_all
    have h3 := pcn_le h i
    unfold pcn
    by_cases e : j = i
    · subst e
      have e1 : bi a j = 0 := by rw [bi_tb', hj1]; rfl
      have e2 : bi b j = 1 := by rw [bi_tb', hj2]; rfl
      omega
    · have := pcn_lt h j hj1 hj2 i (by omega)
      omega
theorem pcn_13 (n : Nat) : ∀ i, pcn n i ≤ i
  | 0 => Nat.le_refl _
  | i + 1 => by
    have := pcn_13 n i
    have := bi_lt n i
    unfold pcn
    omega
theorem pcn_ss {a b : Nat} (hb : b < 8192) (h : sb a b) (hne : a ≠ b) : pcn a 13 < pcn b 13 := by
  have ha : a < 8192 := by
    have : a &&& b ≤ b := Nat.and_le_right
    unfold sb at h
    omega
  have hex : ∃ j, j < 13 ∧ a.testBit j = false ∧ b.testBit j = true := by
    apply Classical.byContradiction
    intro hn
    apply hne
    refine tb_ext ha hb (fun i hi => ⟨sb_tb.mp h i, fun hbi => ?_⟩)
    cases hA : a.testBit i
    · exact absurd ⟨i, hi, hA, hbi⟩ hn
    · rfl
  obtain ⟨j, hj, h1, h2⟩ := hex
  exact pcn_lt h j h1 h2 13 hj
theorem sm_le {F F' : Nat → Nat} : ∀ n, (∀ j, j < n → F' j ≤ F j) → sm F' n ≤ sm F n
  | 0, _ => Nat.le_refl _
  | n + 1, h => by
    have := sm_le n (fun j hj => h j (by omega))
    have := h n (by omega)
    unfold sm
    omega
theorem sm_lt {F F' : Nat → Nat} (j1 : Nat) : ∀ n, (∀ j, j < n → F' j ≤ F j) → j1 < n → F' j1 < F j1 → sm F' n + 1 ≤ sm F n
  | 0, _, q, _ => by omega
  | n + 1, h, q, h1 => by
    unfold sm
    have hn := h n (by omega)
    by_cases e : j1 = n
    · subst e
      have := sm_le j1 (fun j hj => h j (by omega))
      omega
    · have := sm_lt j1 n (fun j hj => h j (by omega)) (by omega) h1
      omega
theorem sm_lt2 {F F' : Nat → Nat} (j1 j2 : Nat) (hne : j1 < j2) : ∀ n, (∀ j, j < n → F' j ≤ F j) → j2 < n → F' j1 < F j1 → F' j2 < F j2 → sm F' n + 2 ≤ sm F n
  | 0, _, q, _, _ => by omega
  | n + 1, h, q, h1, h2 => by
    unfold sm
    have hn := h n (by omega)
    by_cases e : j2 = n
    · subst e
      have := sm_lt j1 j2 (fun j hj => h j (by omega)) hne h1
      omega
    · have := sm_lt2 j1 j2 hne n (fun j hj => h j (by omega)) (by omega) h1 h2
      omega
def tot (g : Nat → Nat) : Nat := sm (fun j => if j / 6 = j % 6 then 0 else pcn (g j) 13) 36
theorem tot_le (g : Nat → Nat) : tot g ≤ 390 := by
  have h : tot g ≤ sm (fun j => if j / 6 = j % 6 then 0 else 13) 36 := sm_le 36 (fun j _ => by
    split
    · exact Nat.le_refl _
    · exact pcn_13 _ _)
  exact Nat.le_trans h (by decide)
theorem tot_nw {g : Nat → Nat} (hB : Bd g) (hS : Sy g) {a b v : Nat} (ha : a < 6) (hb : b < 6) (hne : a ≠ b) (hv : sb v (g (a * 6 + b))) (hv2 : v ≠ g (a * 6 + b)) : tot (nw g a b v) + 2 ≤ tot g := by
  have hva : g (a * 6 + b) < 8192 := hB _ (by omega)
  have hvl : v < 8192 := by
    have : v &&& g (a * 6 + b) ≤ g (a * 6 + b) := Nat.and_le_right
    unfold sb at hv
    omega
  have l1 : pcn (nw g a b v (a * 6 + b)) 13 < pcn (g (a * 6 + b)) 13 := by rw [nw_ab g v ha hb hne]; exact pcn_ss hva hv hv2
  have l2 : pcn (nw g a b v (b * 6 + a)) 13 < pcn (g (b * 6 + a)) 13 := by
    rw [nw_ba, hS a b ha hb hne]
    exact pcn_ss (tn_lt _) (sb_tn hv) (fun q => hv2 (by rw [← tn_tn hvl, q, tn_tn hva]))
  have hmono : ∀ j, j < 36 → (if j / 6 = j % 6 then 0 else pcn (nw g a b v j) 13) ≤ (if j / 6 = j % 6 then 0 else pcn (g j) 13) := by
    intro j hj
    split
    · exact Nat.le_refl _
    · rename_i hd
      have := nw_Le hS ha hb hne hv (j / 6) (j % 6) (by omega) (by omega) hd
      rw [show j / 6 * 6 + j % 6 = j by omega] at this
      exact pcn_le this 13
  unfold tot
  have d1 : ¬ (a * 6 + b) / 6 = (a * 6 + b) % 6 := by omega
  have d2 : ¬ (b * 6 + a) / 6 = (b * 6 + a) % 6 := by omega
  rcases Nat.lt_or_ge (a * 6 + b) (b * 6 + a) with q | q
  · exact sm_lt2 (a * 6 + b) (b * 6 + a) q 36 hmono (by omega) (by rw [if_neg d1, if_neg d1]; exact l1) (by rw [if_neg d2, if_neg d2]; exact l2)
  · exact sm_lt2 (b * 6 + a) (a * 6 + b) (by omega) 36 hmono (by omega) (by rw [if_neg d2, if_neg d2]; exact l2) (by rw [if_neg d1, if_neg d1]; exact l1)
end
section
/-! CLOSING: one narrowing, one pair -/
def Dg (f g : Nat → Nat) : Prop := ∀ a, a < 6 → g (a * 6 + a) = f (a * 6 + a)
theorem nw_Dg {g : Nat → Nat} {a b v : Nat} (ha : a < 6) (hb : b < 6) (hab : a ≠ b) : Dg g (nw g a b v) := fun x hx => nw_ne g v ha hb hx hx (by omega) (by omega)
def Mx (f g : Nat → Nat) : Prop := Le g f ∧ (∀ h, Sy h → Clo h → Le h f → Le h g) ∧ Dg f g
def Fail (f : Nat → Nat) : Prop := ∀ h, Sy h → Clo h → Le h f → ∃ a b, a < 6 ∧ b < 6 ∧ a ≠ b ∧ h (a * 6 + b) = 0
/-- a narrowing's outcome -/
def NR (g : Nat → Nat) (a m b r : Nat) (g' : Nat → Nat) : Prop := (lft g a m b = 0 ∧ g' = g ∧ r = 2 ^ 15) ∨ (lft g a m b ≠ 0 ∧ lft g a m b = g (a * 6 + b) ∧ g' = g ∧ r = 0) ∨ (lft g a m b ≠ 0 ∧ lft g a m b ≠ g (a * 6 + b) ∧ g' = nw g a b (lft g a m b) ∧ r = 2 ^ pr a b)
theorem Le_tr {f g h : Nat → Nat} (h1 : Le f g) (h2 : Le g h) : Le f h := fun a b ha hb hab => sb_tr (h1 a b ha hb hab) (h2 a b ha hb hab)
theorem lft_sb (g : Nat → Nat) (a m b : Nat) : sb (lft g a m b) (g (a * 6 + b)) := sb_andR _ _
theorem NR_B {f g g' : Nat → Nat} {a m b r : Nat} (hd : Ds a m b) (h : NR g a m b r g') (hB : Bd g) (hS : Sy g) (hM : Mx f g) : Bd g' ∧ Sy g' ∧ Mx f g' := by
  have hd' := hd
  obtain ⟨ha, hm, hb, ham, hmb, hab⟩ := hd'
  rcases h with ⟨-, rfl, -⟩ | ⟨-, -, rfl, -⟩ | ⟨h0, h1, rfl, -⟩
  · exact ⟨hB, hS, hM⟩
  · exact ⟨hB, hS, hM⟩
  · have hl := lft_lt hB ha hm hb
    exact ⟨nw_Bd hB hl, nw_Sy hS ha hb hab hl, Le_tr (nw_Le hS ha hb hab (lft_sb g a m b)) hM.1, fun h g1 g2 g3 => nw_max hS g1 g2 (hM.2.1 h g1 g2 g3) hd, fun x hx => (nw_Dg ha hb hab x hx).trans (hM.2.2 x hx)⟩
theorem NR_F {f g g' : Nat → Nat} {a m b r : Nat} (hd : Ds a m b) (h : NR g a m b r g') (hM : Mx f g) (hr : r.testBit 15 = true) : Fail f := by
  have hd' := hd
  obtain ⟨ha, hm, hb, ham, hmb, hab⟩ := hd'
  have hp := pr_lt ha hb hab
  rcases h with ⟨h0, rfl, rfl⟩ | ⟨-, -, rfl, rfl⟩ | ⟨h0, h1, rfl, rfl⟩
  · exact fun h g1 g2 g3 => ⟨a, b, ha, hb, hab, lft_0 g2 (hM.2.1 h g1 g2 g3) hd h0⟩
  · simp at hr
  · rw [Nat.testBit_two_pow] at hr
    simp at hr
    omega
theorem NR_r {g g' : Nat → Nat} {a m b r : Nat} (hd : Ds a m b) (h : NR g a m b r g') : r < 2 ^ 16 ∧ (r.testBit 15 = false → lft g a m b ≠ 0) := by
  obtain ⟨ha, hm, hb, ham, hmb, hab⟩ := hd
  have hp := pr_lt ha hb hab
  rcases h with ⟨h0, rfl, rfl⟩ | ⟨h0, -, rfl, rfl⟩ | ⟨h0, h1, rfl, rfl⟩
  · exact ⟨by decide, fun q => by rw [Nat.testBit_two_pow_self] at q; cases q⟩
  · exact ⟨by decide, fun _ => h0⟩
  · exact ⟨Nat.pow_lt_pow_right (by decide) (by omega), fun _ => h0⟩
theorem NR_T {g g' : Nat → Nat} {a m b r x y z : Nat} (hd : Ds a m b) (h : NR g a m b r g') (hS : Sy g) (hx : Ds x y z) (h1 : r.testBit (pr x y) = false) (h2 : r.testBit (pr y z) = false) (ht : Tri g x y z) : Tri g' x y z := by
  obtain ⟨ha, hm, hb, ham, hmb, hab⟩ := hd
  rcases h with ⟨h0, rfl, rfl⟩ | ⟨h0, -, rfl, rfl⟩ | ⟨h0, -, rfl, rfl⟩
  · exact ht
  · exact ht
  · rw [Nat.testBit_two_pow] at h1 h2
    simp only [decide_eq_false_iff_not] at h1 h2
    exact nw_Tri hS ha hb hab (lft_sb g a m b) hx (fun q => h1 q.symm) (fun q => h2 q.symm) ht
theorem NR_T2 {g g' : Nat → Nat} {a m b r : Nat} (hd : Ds a m b) (h : NR g a m b r g') (hr : r.testBit 15 = false) : Tri g' a m b := by
  rcases h with ⟨h0, rfl, rfl⟩ | ⟨h0, h1, rfl, rfl⟩ | ⟨h0, -, rfl, rfl⟩
  · rw [Nat.testBit_two_pow_self] at hr; cases hr
  · unfold Tri
    rw [← h1]
    exact sb_andL _ _
  · exact nw_Tri2 hd
theorem NR_e {g g' : Nat → Nat} {a m b r x y : Nat} (hd : Ds a m b) (h : NR g a m b r g') (hx : x < 6) (hy : y < 6) (hxy : x ≠ y) (hp : pr x y ≠ pr a b) : g' (x * 6 + y) = g (x * 6 + y) := by
  obtain ⟨ha, hm, hb, ham, hmb, hab⟩ := hd
  rcases h with ⟨h0, rfl, rfl⟩ | ⟨h0, h1, rfl, rfl⟩ | ⟨h0, -, rfl, rfl⟩
  · rfl
  · rfl
  · exact nw_ne g _ ha hb hx hy (fun q => hp (by rw [q.1, q.2])) (fun q => hp (by rw [q.1, q.2, pr_c hb ha (Ne.symm hab)]))
theorem tn_ne0 {v : Nat} (hv : v < 8192) (h : v ≠ 0) : tn v ≠ 0 := fun q => h (by rw [← tn_tn hv, q]; decide)
theorem NR_n {g g' : Nat → Nat} {a m b r x y : Nat} (hd : Ds a m b) (h : NR g a m b r g') (hB : Bd g) (hx : x < 6) (hy : y < 6) (hxy : x ≠ y) (h0 : g (x * 6 + y) ≠ 0) : g' (x * 6 + y) ≠ 0 := by
  have hd' := hd
  obtain ⟨ha, hm, hb, ham, hmb, hab⟩ := hd'
  rcases h with ⟨h0', rfl, rfl⟩ | ⟨-, h1, rfl, rfl⟩ | ⟨hl, -, rfl, rfl⟩
  · exact h0
  · exact h0
  · by_cases q1 : x = a ∧ y = b
    · obtain ⟨rfl, rfl⟩ := q1
      rw [nw_ab g _ ha hb hab]; exact hl
    · by_cases q2 : x = b ∧ y = a
      · obtain ⟨rfl, rfl⟩ := q2
        rw [nw_ba]; exact tn_ne0 (lft_lt hB ha hm hb) hl
      · rw [nw_ne g _ ha hb hx hy q1 q2]; exact h0
theorem NR_t {g g' : Nat → Nat} {a m b r : Nat} (hd : Ds a m b) (h : NR g a m b r g') (hB : Bd g) (hS : Sy g) : (g' = g ∧ (r = 0 ∨ r = 2 ^ 15)) ∨ tot g' + 2 ≤ tot g := by
  obtain ⟨ha, hm, hb, ham, hmb, hab⟩ := hd
  rcases h with ⟨h0, rfl, rfl⟩ | ⟨h0, h1, rfl, rfl⟩ | ⟨h0, h1, rfl, rfl⟩
  · exact Or.inl ⟨rfl, Or.inr rfl⟩
  · exact Or.inl ⟨rfl, Or.inl rfl⟩
  · exact Or.inr (tot_nw hB hS ha hb hab (lft_sb g a m b) h1)
/-- the paths that hold, while the pair a, b is looked at, behind the things below i -/
def IVp (g : Nat → Nat) (w a b i : Nat) : Prop := ∀ x y z, Ds x y z → w.testBit (pr x y) = false → w.testBit (pr y z) = false → (pr x y = pr a b → z < i) → (pr y z = pr a b → x < i) → Tri g x y z
def IV (g : Nat → Nat) (w : Nat) : Prop := ∀ x y z, Ds x y z → w.testBit (pr x y) = false → w.testBit (pr y z) = false → Tri g x y z
def NEp (g : Nat → Nat) (w a b i : Nat) : Prop := (∀ x y, x < 6 → y < 6 → x ≠ y → w.testBit (pr x y) = false → pr x y ≠ pr a b → g (x * 6 + y) ≠ 0) ∧ ∀ t, t < i → t ≠ a → t ≠ b → g (a * 6 + b) ≠ 0
def NE (g : Nat → Nat) (w : Nat) : Prop := ∀ x y, x < 6 → y < 6 → x ≠ y → w.testBit (pr x y) = false → g (x * 6 + y) ≠ 0
theorem or_f {w r i : Nat} (h : (w ||| r).testBit i = false) : w.testBit i = false ∧ r.testBit i = false := by
  rw [Nat.testBit_or, Bool.or_eq_false_iff] at h
  exact h
set_option maxHeartbeats 1000000 in
/-- one thing m beside the pair a, b -/
theorem cl_step {f g g1 g2 : Nat → Nat} {a b m w r1 r2 : Nat} (hd : Ds a b m) (hB : Bd g) (hS : Sy g) (hM : Mx f g) (h1 : NR g a b m r1 g1) (h2 : NR g1 b a m r2 g2) :
    (Bd g2 ∧ Sy g2 ∧ Mx f g2) ∧ r1 ||| r2 < 2 ^ 16 ∧ ((r1 ||| r2).testBit 15 = true → Fail f) ∧ ((g2 = g ∧ ((r1 ||| r2).testBit 15 = false → r1 ||| r2 = 0)) ∨ tot g2 + 2 ≤ tot g) ∧
    ((w ||| (r1 ||| r2)).testBit 15 = false → IVp g w a b m → NEp g w a b m → IVp g2 (w ||| (r1 ||| r2)) a b (m + 1) ∧ NEp g2 (w ||| (r1 ||| r2)) a b (m + 1)) := by
  have hd2 : Ds b a m := by unfold Ds at hd ⊢; omega
  obtain ⟨hB1, hS1, hM1⟩ := NR_B hd h1 hB hS hM
  obtain ⟨hB2, hS2, hM2⟩ := NR_B hd2 h2 hB1 hS1 hM1
  have hr1 := NR_r hd h1
  have hr2 := NR_r hd2 h2
  have hd' := hd
  obtain ⟨ha, hb, hm, hab, hbm, ham⟩ := hd'
  refine ⟨⟨hB2, hS2, hM2⟩, Nat.or_lt_two_pow hr1.1 hr2.1, fun h => ?_, ?_, fun hw hi hn => ⟨?_, ?_⟩⟩
  · rw [Nat.testBit_or, Bool.or_eq_true] at h
    rcases h with h | h
    · exact NR_F hd h1 hM h
    · exact NR_F hd2 h2 hM1 h
  · rcases NR_t hd h1 hB hS with ⟨e1, q1⟩ | q1 <;> rcases NR_t hd2 h2 hB1 hS1 with ⟨e2, q2⟩ | q2
    · refine Or.inl ⟨by rw [e2, e1], fun q => ?_⟩
      obtain ⟨z1, z2⟩ := or_f q
      rcases q1 with rfl | rfl
      · rcases q2 with rfl | rfl
        · rfl
        · rw [Nat.testBit_two_pow_self] at z2; cases z2
      · rw [Nat.testBit_two_pow_self] at z1; cases z1
    · rw [e1] at q2; exact Or.inr q2
    · rw [e2]; exact Or.inr q1
    · exact Or.inr (by omega)
  · obtain ⟨w0, w12⟩ := or_f hw
    obtain ⟨w1, w2⟩ := or_f w12
    have t1 : Tri g1 a b m := NR_T2 hd h1 w1
    have t2 : Tri g2 b a m := NR_T2 hd2 h2 w2
    intro x y z hx hp1 hp2 hz1 hz2
    obtain ⟨p1, p12⟩ := or_f hp1
    obtain ⟨p11, p13⟩ := or_f p12
    obtain ⟨p2, p22⟩ := or_f hp2
    obtain ⟨p21, p23⟩ := or_f p22
    have hx' := hx
    obtain ⟨gx, gy, gz, gxy, gyz, gxz⟩ := hx'
    by_cases c1 : pr x y = pr a b ∧ z = m
    · obtain ⟨c1, rfl⟩ := c1
      rcases pr_inj x gx y gy a ha b hb gxy hab c1 with ⟨rfl, rfl⟩ | ⟨rfl, rfl⟩
      · exact NR_T hd2 h2 hS1 hx p13 p23 t1
      · exact t2
    · by_cases c2 : pr y z = pr a b ∧ x = m
      · obtain ⟨c2, rfl⟩ := c2
        rcases pr_inj y gy z gz a ha b hb gyz hab c2 with ⟨rfl, rfl⟩ | ⟨rfl, rfl⟩
        · exact Tri_sy hS2 hd2 t2
        · exact NR_T hd2 h2 hS1 hx p13 p23 (Tri_sy hS1 hd t1)
      · exact NR_T hd2 h2 hS1 hx p13 p23 (NR_T hd h1 hS hx p11 p21 (hi x y z hx p1 p2 (fun q => by have := hz1 q; have : z ≠ m := fun e => c1 ⟨q, e⟩; omega) (fun q => by have := hz2 q; have : x ≠ m := fun e => c2 ⟨q, e⟩; omega)))
  · obtain ⟨w0, w12⟩ := or_f hw
    obtain ⟨w1, w2⟩ := or_f w12
    have hab0 : g (a * 6 + b) ≠ 0 := by
      intro q
      apply hr1.2 w1
      unfold lft
      rw [q, cm_0L, Nat.zero_and]
    refine ⟨fun x y gx gy gxy hp hne => ?_, fun t _ _ _ => NR_n hd2 h2 hB1 ha hb hab (NR_n hd h1 hB ha hb hab hab0)⟩
    exact NR_n hd2 h2 hB1 gx gy gxy (NR_n hd h1 hB gx gy gxy (hn.1 x y gx gy gxy (or_f hp).1 hne))
theorem cl_skip {g : Nat → Nat} {w a b i : Nat} (ha : a < 6) (hb : b < 6) (hab : a ≠ b) (h : i = a ∨ i = b) (h1 : IVp g w a b i) (h2 : NEp g w a b i) : IVp g w a b (i + 1) ∧ NEp g w a b (i + 1) := by
  refine ⟨fun x y z hx p1 p2 z1 z2 => h1 x y z hx p1 p2 (fun q => ?_) (fun q => ?_), h2.1, fun t ht hta htb => h2.2 t (by omega) hta htb⟩
  · have := z1 q
    obtain ⟨gx, gy, gz, gxy, gyz, gxz⟩ := hx
    rcases pr_inj x gx y gy a ha b hb gxy hab q with ⟨e1, e2⟩ | ⟨e1, e2⟩ <;> omega
  · have := z2 q
    obtain ⟨gx, gy, gz, gxy, gyz, gxz⟩ := hx
    rcases pr_inj y gy z gz a ha b hb gyz hab q with ⟨e1, e2⟩ | ⟨e1, e2⟩ <;> omega
theorem cl_begin {g : Nat → Nat} {w w' a b : Nat} (hab : a ≠ b) (hw : ∀ i, i < 15 → i ≠ pr a b → w'.testBit i = w.testBit i) (h1 : IV g w) (h2 : NE g w) : IVp g w' a b 0 ∧ NEp g w' a b 0 := by
  refine ⟨fun x y z hx p1 p2 z1 z2 => ?_, fun x y gx gy gxy p hne => h2 x y gx gy gxy ?_, fun t ht => by omega⟩
  · have hx' := hx
    obtain ⟨gx, gy, gz, gxy, gyz, gxz⟩ := hx'
    have n1 : pr x y ≠ pr a b := fun q => by have := z1 q; omega
    have n2 : pr y z ≠ pr a b := fun q => by have := z2 q; omega
    exact h1 x y z hx (by rw [← hw _ (pr_lt gx gy gxy) n1]; exact p1) (by rw [← hw _ (pr_lt gy gz gyz) n2]; exact p2)
  · rw [← hw _ (pr_lt gx gy gxy) hne]; exact p
theorem cl_end {g : Nat → Nat} {w a b : Nat} (ha : a < 6) (hb : b < 6) (hab : a ≠ b) (hS : Sy g) (hB : Bd g) (h1 : IVp g w a b 6) (h2 : NEp g w a b 6) : IV g w ∧ NE g w := by
  refine ⟨fun x y z hx p1 p2 => h1 x y z hx p1 p2 (fun _ => hx.2.2.1) (fun _ => hx.1), fun x y gx gy gxy p => ?_⟩
  have h0 : g (a * 6 + b) ≠ 0 := by
    have hex : ∃ t, t < 6 ∧ t ≠ a ∧ t ≠ b := by
      by_cases q0 : 0 ≠ a ∧ 0 ≠ b
      · exact ⟨0, by omega, q0.1, q0.2⟩
      · by_cases q1 : 1 ≠ a ∧ 1 ≠ b
        · exact ⟨1, by omega, q1.1, q1.2⟩
        · exact ⟨2, by omega, by omega, by omega⟩
    obtain ⟨t, t1, t2, t3⟩ := hex
    exact h2.2 t t1 t2 t3
  by_cases q : pr x y = pr a b
  · rcases pr_inj x gx y gy a ha b hb gxy hab q with ⟨rfl, rfl⟩ | ⟨rfl, rfl⟩
    · exact h0
    · rw [hS a b ha hb hab]; exact tn_ne0 (hB _ (by omega)) h0
  · exact h2.1 x y gx gy gxy p q
end
section
/-! NETS: close -/
def cSt (k : Nat) (f : Nat → Nat) (M : x_M) (g : Nat → Nat) (gI : Nat → Int32) (M' : x_M) : Prop := M' = x_row M k gI ∧ (∀ j, j < 36 → gI j = nI (g j)) ∧ Bd g ∧ Sy g ∧ Mx f g
def fsT (p : Nat) : Nat := x_k3.getD p 0
def scT (p : Nat) : Nat := x_k4.getD p 0
theorem fs_ok : ∀ p, p < 15 → fsT p < 6 ∧ scT p < 6 ∧ fsT p ≠ scT p ∧ pr (fsT p) (scT p) = p := by decide
def clr (w p : Nat) : Nat := w &&& (2 ^ p ^^^ (2 ^ 32 - 1))
theorem clr_tb {w p i : Nat} (hi : i < 32) : (clr w p).testBit i = (w.testBit i && !decide (p = i)) := by
  unfold clr
  rw [Nat.testBit_and, Nat.testBit_xor, Nat.testBit_two_pow_sub_one, Nat.testBit_two_pow]
  simp [hi]
theorem clr_le (w p : Nat) : clr w p ≤ w := Nat.and_le_left
theorem tb15 {w : Nat} (hw : w < 2 ^ 15) : w.testBit 15 = false := Nat.testBit_lt_two_pow hw
theorem lt15 {w : Nat} (hw : w < 2 ^ 16) (h : w.testBit 15 = false) : w < 2 ^ 15 := by
  apply Nat.lt_pow_two_of_testBit
  intro i hi
  rcases Nat.lt_or_ge i 16 with q | q
  · rw [show i = 15 by omega]; exact h
  · exact Nat.testBit_lt_two_pow (Nat.lt_of_lt_of_le hw (Nat.pow_le_pow_right (by decide) q))
theorem eq0_15 {w : Nat} (hw : w < 2 ^ 15) (h : ∀ i, i < 15 → w.testBit i = false) : w = 0 := by
  apply Nat.eq_of_testBit_eq
  intro i
  rw [Nat.zero_testBit]
  rcases Nat.lt_or_ge i 15 with q | q
  · exact h i q
  · exact Nat.testBit_lt_two_pow (Nat.lt_of_lt_of_le hw (Nat.pow_le_pow_right (by decide) q))
theorem upd_nw {gI : Nat → Int32} {g : Nat → Nat} (h : ∀ j, j < 36 → gI j = nI (g j)) (a b v : Nat) : ∀ j, j < 36 → upd (upd gI (a * 6 + b) (nI v)) (b * 6 + a) (nI (tn v)) j = nI (nw g a b v j) := by
  intro j hj
  unfold upd nw
  split
  · rfl
  · split
    · rfl
    · exact h j hj
theorem nr_of {k a m b : Nat} {M M1 : x_M} {g : Nat → Nat} {gI : Nat → Int32} {rv : Option x_V} (hg : ∀ j, j < 36 → gI j = nI (g j))
    (h : (lft g a m b = 0 ∧ M1 = x_row M k gI ∧ rv = some (.inl (nI 32768))) ∨ (lft g a m b ≠ 0 ∧ lft g a m b = g (a * 6 + b) ∧ M1 = x_row M k gI ∧ rv = some (.inl (nI 0))) ∨ (lft g a m b ≠ 0 ∧ lft g a m b ≠ g (a * 6 + b) ∧ M1 = x_row (x_row M k gI) k (upd (upd ((x_row M k gI) k) (a * 6 + b) (nI (lft g a m b))) (b * 6 + a) (nI (tn (lft g a m b)))) ∧ rv = some (.inl (nI (2 ^ pr a b))))) :
    ∃ r1 g1 gI1, M1 = x_row M k gI1 ∧ (∀ j, j < 36 → gI1 j = nI (g1 j)) ∧ rv = some (.inl (nI r1)) ∧ NR g a m b r1 g1 := by
  rcases h with ⟨h0, h1, h2⟩ | ⟨h0, h1, h2, h3⟩ | ⟨h0, h1, h2, h3⟩
  · exact ⟨2 ^ 15, g, gI, h1, hg, h2, Or.inl ⟨h0, rfl, rfl⟩⟩
  · exact ⟨0, g, gI, h2, hg, h3, Or.inr (Or.inl ⟨h0, h1, rfl, rfl⟩)⟩
  · rw [x_row_self, x_row_row] at h2
    exact ⟨2 ^ pr a b, nw g a b (lft g a m b), _, h2, upd_nw hg a b _, h3, Or.inr (Or.inr ⟨h0, h1, rfl, rfl⟩)⟩
theorem Le_cg {f f2 h : Nat → Nat} (e : ∀ j, j < 36 → f j = f2 j) (hl : Le h f) : Le h f2 := fun a b ha hb hab => by rw [← e _ (by omega)]; exact hl a b ha hb hab
theorem Mx_cg {f f2 g : Nat → Nat} (e : ∀ j, j < 36 → f j = f2 j) (h : Mx f g) : Mx f2 g := ⟨Le_cg e h.1, fun h1 a1 a2 a3 => h.2.1 h1 a1 a2 (Le_cg (fun j hj => (e j hj).symm) a3), fun x hx => (h.2.2 x hx).trans (e _ (by omega))⟩
theorem Fail_cg {f f2 : Nat → Nat} (e : ∀ j, j < 36 → f j = f2 j) (h : Fail f) : Fail f2 := fun h1 a1 a2 a3 => h h1 a1 a2 (Le_cg (fun j hj => (e j hj).symm) a3)
theorem Mx_rf (f : Nat → Nat) : Mx f f := ⟨fun _ _ _ _ _ => sb_rf _, fun _ _ _ h => h, fun _ _ => rfl⟩
theorem cl_tot {t2 t rd p w r : Nat} (h : t + 2 * (rd + 1) ≤ 390 ∨ (t + 2 * rd ≤ 390 ∧ (w.testBit 15 = false → ∀ i, i < p + 1 → w.testBit i = false))) (h2 : (t2 = t ∧ (r.testBit 15 = false → r = 0)) ∨ t2 + 2 ≤ t) :
    t2 + 2 * (rd + 1) ≤ 390 ∨ (t2 + 2 * rd ≤ 390 ∧ ((w ||| r).testBit 15 = false → ∀ i, i < p + 1 → (w ||| r).testBit i = false)) := by
  rcases h with h | ⟨h, h3⟩ <;> rcases h2 with ⟨rfl, h4⟩ | h2
  · exact Or.inl h
  · exact Or.inl (by omega)
  · refine Or.inr ⟨h, fun q i hi => ?_⟩
    obtain ⟨q1, q2⟩ := or_f q
    rw [h4 q2, Nat.or_zero]
    exact h3 q1 i hi
  · exact Or.inl (by omega)
def q_X1_close : x_K := (2, fun as S M => ∃ (k w : Nat) (f : Nat → Nat), k < 1000 ∧ w < 2 ^ 15 ∧ S[k]? = some (.inr (.inl (false, 36))) ∧ (∀ j, j < 36 → f j < 8192 ∧ M k j = nI (f j)) ∧ Sy f ∧ IV f w ∧ NE f w ∧ as = [.inr (.inl k), .inl (nI w)],
  fun as S M rv_ S' M' => ∀ (k w : Nat) (f : Nat → Nat), (∀ j, j < 36 → f j < 8192 ∧ M k j = nI (f j)) → as = [.inr (.inl k), .inl (nI w)] →
    S' = S ∧ ∃ gI, M' = x_row M k gI ∧ ((rv_ = some (.inl (nI 1)) ∧ ∃ g, Bd g ∧ (∀ j, j < 36 → gI j = nI (g j)) ∧ Sy g ∧ Clo g ∧ NE g 0 ∧ Mx f g) ∨ (rv_ = some (.inl (nI 0)) ∧ (∀ j, j < 36 → gI j = nI 0) ∧ Fail f)), 0, 0)
def b_X1_close : x_B := [(0, 2, [(.iload_n 1, 1), (.istore_n 2, 1), (.iconst 0, 1), (.istore_n 3, 1)]),
  (4, 4, [(.iload_n 3, 1), (.sipush 210, 3), (.if_icmp .ge 131, 3), (.iload_n 2, 1), (.ifCond .eq 127, 3), (.iconst 0, 1), (.istore 4, 2)]),
  (18, 5, [(.iload 4, 2), (.bipush 15, 2), (.if_icmp .ge 111, 3), (.iload_n 2, 1), (.iload 4, 2), (.ishr, 1), (.iconst 1, 1), (.iand, 1), (.ifCond .eq 96, 3), (.getstatic 11, 3), (.iload 4, 2), (.iaload, 1), (.istore 5, 2), (.getstatic 15, 3), (.iload 4, 2), (.iaload, 1), (.istore 6, 2), (.iload_n 2, 1), (.iconst 1, 1), (.iload 4, 2), (.ishl, 1), (.iconst (-1), 1), (.ixor, 1), (.iand, 1), (.istore_n 2, 1), (.iconst 0, 1), (.istore 7, 2)]),
  (62, 8, [(.iload 7, 2), (.bipush 6, 2), (.if_icmp .ge 47, 3), (.iload 7, 2), (.iload 5, 2), (.if_icmp .eq 34, 3), (.iload 7, 2), (.iload 6, 2), (.if_icmp .eq 27, 3), (.iload_n 2, 1), (.aload_n 0, 1), (.iload 5, 2), (.iload 6, 2), (.iload 7, 2), (.invokestatic 30, 3), (.aload_n 0, 1), (.iload 6, 2), (.iload 5, 2), (.iload 7, 2), (.invokestatic 30, 3), (.ior, 1), (.ior, 1), (.istore_n 2, 1)]),
  (107, 8, [(.iinc 7 1, 3), (.goto (-48), 3)]),
  (113, 8, [(.iload_n 2, 1), (.ldc 34, 2), (.iand, 1), (.ifCond .eq 10, 3), (.aload_n 0, 1), (.iconst 0, 1), (.invokestatic 18, 3), (.iconst 0, 1), (.ireturn, 1)]),
  (127, 5, [(.iinc 4 1, 3), (.goto (-112), 3)]),
  (133, 5, [(.iinc 3 1, 3), (.goto (-132), 3)]),
  (139, 4, [(.iconst 1, 1), (.ireturn, 1)])]
theorem b_X1_close_ok : x_okB cX1_close 8 b_X1_close = true := by decide +kernel
def X_X1_close : x_X := ([], [(11, 3), (15, 4)], [(34, 32768)], [], [(90, q_X1_narrow), (54, q_J7_fill)], (0, 0), x_kn, x_kf, 5, false)
theorem X_X1_close_ok : x_okT RX1 X_X1_close = true := by decide +kernel
theorem k_X1_close (l : Launch) : ∀ z ∈ X_X1_close.2.2.2.2.1, x_Cal l (x_rm 3 0 0) cX1_close RX1 8 z.1 z.2 := List.forall_mem_cons.mpr ⟨x_cal_S (idx := 30) (c_X1_narrow l) ⟨by decide, by decide⟩ (by decide +kernel) (by decide +kernel) (by decide +kernel) (by decide +kernel) (by decide +kernel), List.forall_mem_cons.mpr ⟨x_cal_S (idx := 18) (c_J7_fill l) ⟨by decide, by decide⟩ (by decide +kernel) (by decide +kernel) (by decide +kernel) (by decide +kernel) (by decide +kernel), fun _ h => absurd h List.not_mem_nil⟩⟩
set_option maxHeartbeats 4000000 in
set_option maxRecDepth 100000 in
theorem c_X1_close (l : Launch) : x_CT l yX1_close cX1_close 8 (some .boolean) 3 q_X1_close := by
  refine x_meth (X := X_X1_close) (bl := b_X1_close) (cut := [4, 18, 62]) (own := RX1) 30 (by decide) rfl X_X1_close_ok b_X1_close_ok rfl (Nat.le_of_ble_eq_true rfl) (k_X1_close l) ?_
  rintro as S M - ⟨k, w, f, hk, hw, hsh, hf, hSy, hIV, hNE, rfl⟩
  refine ⟨fun μ pc ls st S' M' cs sl => (∃ rd w1 g gI, rd ≤ 210 ∧ w1 < 2 ^ 15 ∧ cSt k f M g gI M' ∧ IV g w1 ∧ NE g w1 ∧ (w1 = 0 ∨ tot g + 2 * rd ≤ 390) ∧ pc = 4 ∧ st = [] ∧ S' = S ∧ cs = 0 ∧ sl = 0 ∧ ls = [.inr (.inl k), .inl (nI w), .inl (nI w1), .inl (nI rd)] ∧ μ = (210 - rd) * 2000) ∨ (∃ rd p w1 g gI, rd < 210 ∧ p ≤ 15 ∧ w1 < 2 ^ 15 ∧ cSt k f M g gI M' ∧ IV g w1 ∧ NE g w1 ∧ (tot g + 2 * (rd + 1) ≤ 390 ∨ (tot g + 2 * rd ≤ 390 ∧ ∀ i, i < p → w1.testBit i = false)) ∧ pc = 18 ∧ st = [] ∧ S' = S ∧ cs = 0 ∧ sl = 0 ∧ ls = [.inr (.inl k), .inl (nI w), .inl (nI w1), .inl (nI rd), .inl (nI p)] ∧ μ = (210 - rd) * 2000 - 1 - p * 100) ∨ (∃ rd p m w1 g gI, rd < 210 ∧ p < 15 ∧ m ≤ 6 ∧ w1 < 2 ^ 16 ∧ cSt k f M g gI M' ∧ ((w1.testBit 15 = true → Fail f) ∧ (w1.testBit 15 = false → IVp g w1 (fsT p) (scT p) m ∧ NEp g w1 (fsT p) (scT p) m)) ∧ (tot g + 2 * (rd + 1) ≤ 390 ∨ (tot g + 2 * rd ≤ 390 ∧ (w1.testBit 15 = false → ∀ i, i < p + 1 → w1.testBit i = false))) ∧ pc = 62 ∧ st = [] ∧ S' = S ∧ cs = 0 ∧ sl = 0 ∧ ls = [.inr (.inl k), .inl (nI w), .inl (nI w1), .inl (nI rd), .inl (nI p), .inl (nI (fsT p)), .inl (nI (scT p)), .inl (nI m)] ∧ μ = (210 - rd) * 2000 - 1 - p * 100 - 1 - m), ?_, ?_⟩
  · skip
    refine xt_blk rfl rfl (by dsimp only [List.take]) ?_
    refine xt_iln1 rfl ?_
    refine xt_isn2 rfl (by dsimp only [x_sto]) ?_
    refine xt_ic ?_
    refine xt_isn3 rfl (by dsimp only [x_sto]) ?_
    refine xt_nil (t := 4) rfl ?_
    refine xt_cut rfl rfl (by dsimp only [List.take]) ?_
    exact ⟨_, Or.inl ⟨0, w, f, M k, by omega, hw, ⟨(x_row_id M k).symm, fun j hj => (hf j hj).2, fun j hj => (hf j hj).1, hSy, Mx_rf f⟩, hIV, hNE, Or.inr (by have := tot_le f; omega), rfl, rfl, rfl, rfl, rfl, rfl, rfl⟩⟩
  · rintro μ pc ls st S2 M2 cs sl (⟨rd, w1, g, gI, hrd, hw1, hst, hIV1, hNE1, ht, rfl, rfl, rfl, rfl, rfl, rfl, rfl⟩ | ⟨rd, p, w1, g, gI, hrd, hp, hw1, hst, hIV1, hNE1, ht, rfl, rfl, rfl, rfl, rfl, rfl, rfl⟩ | ⟨rd, p, m, w1, g, gI, hrd, hp, hm, hw1, hst, hfl, ht, rfl, rfl, rfl, rfl, rfl, rfl, rfl⟩)
    · refine ⟨_, rfl, ?_⟩
      refine xt_iln3 rfl ?_
      refine xt_si ?_
      refine xt_cge (t := 139) rfl (fun hc_8 => ?_) (fun hc_8 => ?_)
      · skip
        refine xt_blk rfl rfl (by dsimp only [List.take]) ?_
        refine xt_ic ?_
        refine xt_rz (by decide) rfl (Nat.le_refl _) ?_
        have hw0 : w1 = 0 := by
          have h210 : rd = 210 := by rw [nI_leI (by omega) (by omega)] at hc_8; omega
          omega
        intro k2 w2 f2 hf2 e2
        simp only [List.cons.injEq, Sum.inl.injEq, Sum.inr.injEq, and_true] at e2
        obtain ⟨rfl, -⟩ := e2
        have ef : ∀ j, j < 36 → f j = f2 j := fun j hj => by
          have h1 := (hf j hj).2
          rw [(hf2 j hj).2] at h1
          exact ((nI_eq (by have := (hf2 j hj).1; omega) (by have := (hf j hj).1; omega)).mp h1).symm
        
        subst hw0
        exact ⟨rfl, gI, hst.1, Or.inl ⟨rfl, g, hst.2.2.1, hst.2.1, hst.2.2.2.1, fun x y z hd => hIV1 x y z hd (Nat.zero_testBit _) (Nat.zero_testBit _), hNE1, Mx_cg ef hst.2.2.2.2⟩⟩
      · skip
        refine xt_iln2 rfl ?_
        refine xt_eq (t := 139) rfl (fun hc_12 => ?_) (fun hc_12 => ?_)
        · skip
          refine xt_blk rfl rfl (by dsimp only [List.take]) ?_
          refine xt_ic ?_
          refine xt_rz (by decide) rfl (Nat.le_refl _) ?_
          have hw0 : w1 = 0 := (n_eq0 (by omega)).mp hc_12
          intro k2 w2 f2 hf2 e2
          simp only [List.cons.injEq, Sum.inl.injEq, Sum.inr.injEq, and_true] at e2
          obtain ⟨rfl, -⟩ := e2
          have ef : ∀ j, j < 36 → f j = f2 j := fun j hj => by
            have h1 := (hf j hj).2
            rw [(hf2 j hj).2] at h1
            exact ((nI_eq (by have := (hf2 j hj).1; omega) (by have := (hf j hj).1; omega)).mp h1).symm
          
          subst hw0
          exact ⟨rfl, gI, hst.1, Or.inl ⟨rfl, g, hst.2.2.1, hst.2.1, hst.2.2.2.1, fun x y z hd => hIV1 x y z hd (Nat.zero_testBit _) (Nat.zero_testBit _), hNE1, Mx_cg ef hst.2.2.2.2⟩⟩
        · skip
          refine xt_ic ?_
          refine xt_ist rfl (by dsimp only [x_sto]) ?_
          refine xt_nil (t := 18) rfl ?_
          refine xt_cut rfl rfl (by dsimp only [List.take]) ?_
          have hrd : rd < 210 := by rw [nI_leI (by omega) (by omega)] at hc_8; omega
          have hw0 : w1 ≠ 0 := fun q => hc_12 (by rw [q]; rfl)
          exact ⟨(210 - rd) * 2000 - 1, by omega, Or.inr (Or.inl ⟨rd, 0, w1, g, gI, hrd, by omega, hw1, hst, hIV1, hNE1, Or.inr ⟨by rcases ht with q | q; exact absurd q hw0; exact q, fun i hi => by omega⟩, rfl, rfl, rfl, rfl, rfl, rfl, by omega⟩)⟩
    · refine ⟨_, rfl, ?_⟩
      refine xt_ild rfl ?_
      refine xt_bi ?_
      refine xt_cge (t := 133) rfl (fun hc_22 => ?_) (fun hc_22 => ?_)
      · skip
        refine xt_blk rfl rfl (by dsimp only [List.take]) ?_
        refine xt_inc rfl (by dsimp only [x_sto]) ?_
        refine xt_goto (t := 4) rfl ?_
        refine xt_cut rfl rfl (by dsimp only [List.take]) ?_
        have hp15 : p = 15 := by rw [nI_leI (by omega) (by omega)] at hc_22; omega
        subst hp15
        exact ⟨(210 - (rd + 1)) * 2000, by omega, Or.inl ⟨rd + 1, w1, g, gI, by omega, hw1, hst, hIV1, hNE1, by rcases ht with q | q; exact Or.inr q; exact Or.inl (eq0_15 hw1 q.2), rfl, rfl, rfl, rfl, rfl, by rw [nI_add], rfl⟩⟩
      · skip
        refine xt_iln2 rfl ?_
        refine xt_ild rfl ?_
        refine xt_shr ?_
        refine xt_ic ?_
        refine xt_and ?_
        refine xt_eq (t := 127) rfl (fun hc_31 => ?_) (fun hc_31 => ?_)
        · skip
          refine xt_blk rfl rfl (by dsimp only [List.take]) ?_
          refine xt_inc rfl (by dsimp only [x_sto]) ?_
          refine xt_goto (t := 18) rfl ?_
          refine xt_cut rfl rfl (by dsimp only [List.take]) ?_
          have hp15 : p < 15 := by rw [nI_leI (by omega) (by omega)] at hc_22; omega
          have hb := bi_lt w1 p
          rw [n_bit (by omega) (by omega), n_eq0 (by unfold bi at hb; omega)] at hc_31
          have hbt := bi_tb' w1 p
          have hbf : w1.testBit p = false := by
            cases hq : w1.testBit p
            · rfl
            · rw [hq] at hbt; unfold bi at hbt; simp at hbt; omega
          exact ⟨(210 - rd) * 2000 - 1 - (p + 1) * 100, by omega, Or.inr (Or.inl ⟨rd, p + 1, w1, g, gI, hrd, by omega, hw1, hst, hIV1, hNE1, by
            rcases ht with q | q
            · exact Or.inl q
            · refine Or.inr ⟨q.1, fun i hi => ?_⟩
              by_cases e : i = p
              · rw [e]; exact hbf
              · exact q.2 i (by omega), rfl, rfl, rfl, rfl, rfl, by rw [nI_add], rfl⟩)⟩
        · skip
          refine xt_gs (q := 3) rfl ?_
          refine xt_ild rfl ?_
          refine xt_kal rfl (show vp_in _ 15 from vp_in_nI (by rw [nI_leI (by omega) (by omega)] at hc_22; omega) (by decide)) ?_
          refine xt_ist rfl (by dsimp only [x_sto]) ?_
          refine xt_gs (q := 4) rfl ?_
          refine xt_ild rfl ?_
          refine xt_kal rfl (show vp_in _ 15 from vp_in_nI (by rw [nI_leI (by omega) (by omega)] at hc_22; omega) (by decide)) ?_
          refine xt_ist rfl (by dsimp only [x_sto]) ?_
          refine xt_iln2 rfl ?_
          refine xt_ic ?_
          refine xt_ild rfl ?_
          refine xt_shl ?_
          refine xt_icm rfl ?_
          refine xt_xor ?_
          refine xt_and ?_
          refine xt_isn2 rfl (by dsimp only [x_sto]) ?_
          refine xt_ic ?_
          refine xt_ist rfl (by dsimp only [x_sto]) ?_
          refine xt_nil (t := 62) rfl ?_
          refine xt_cut rfl rfl (by dsimp only [List.take]) ?_
          have hp15 : p < 15 := by rw [nI_leI (by omega) (by omega)] at hc_22; omega
          have hb := bi_lt w1 p
          rw [n_bit (by omega) (by omega), n_eq0 (by unfold bi at hb; omega)] at hc_31
          have hbt := bi_tb' w1 p
          obtain ⟨f1, f2, f3, f4⟩ := fs_ok p hp15
          have hcl := clr_le w1 p
          have hpw : 2 ^ p < 2 ^ 15 := Nat.pow_lt_pow_right (by decide) hp15
          have hbg := cl_begin (g := g) (w := w1) (w' := clr w1 p) f3 (fun i hi hne => by rw [clr_tb (by omega), f4] at *; simp [Ne.symm hne]) hIV1 hNE1
          have e3 : x_kf 3 (nI p).toNatClampNeg = nI (fsT p) := by rw [nI_clamp (by omega)]; rfl
          have e4 : x_kf 4 (nI p).toNatClampNeg = nI (scT p) := by rw [nI_clamp (by omega)]; rfl
          exact ⟨(210 - rd) * 2000 - 1 - p * 100 - 1, by omega, Or.inr (Or.inr ⟨rd, p, 0, clr w1 p, g, gI, hrd, hp15, by omega, by omega, hst, ⟨(fun q => by rw [tb15 (by omega)] at q; cases q), fun _ => hbg⟩, by
            rcases ht with q | q
            · exact Or.inl q
            · refine Or.inr ⟨q.1, fun _ i hi => ?_⟩
              rw [clr_tb (by omega)]
              by_cases e : i = p
              · simp [e]
              · rw [q.2 i (by omega)]; rfl, rfl, rfl, rfl, rfl, rfl, by
            show [_, _, Sum.inl (nI w1 &&& (nI 1 <<< (nI p &&& 31) ^^^ -(nI 1))), _, _, Sum.inl (x_kf 3 (nI p).toNatClampNeg), Sum.inl (x_kf 4 (nI p).toNatClampNeg), _] = _
            rw [e3, e4, n_shl (by omega) (by omega), Nat.one_mul, n_andn _ _ (by omega) (by omega)]
            rfl, rfl⟩)⟩
    · refine ⟨_, rfl, ?_⟩
      refine xt_ild rfl ?_
      refine xt_bi ?_
      refine xt_cge (t := 113) rfl (fun hc_66 => ?_) (fun hc_66 => ?_)
      · skip
        refine xt_blk rfl rfl (by dsimp only [List.take]) ?_
        refine xt_iln2 rfl ?_
        refine xt_ldc (v := 32768) rfl ?_
        refine xt_and ?_
        refine xt_eq (t := 127) rfl (fun hc_117 => ?_) (fun hc_117 => ?_)
        · skip
          refine xt_blk rfl rfl (by dsimp only [List.take]) ?_
          refine xt_inc rfl (by dsimp only [x_sto]) ?_
          refine xt_goto (t := 18) rfl ?_
          refine xt_cut rfl rfl (by dsimp only [List.take]) ?_
          have hm6 : m = 6 := by rw [nI_leI (by omega) (by omega)] at hc_66; omega
          subst hm6
          obtain ⟨f1, f2, f3, f4⟩ := fs_ok p hp
          have hb15 : w1.testBit 15 = false := by
            have e1 : nI w1 &&& (32768 : Int32) = nI (w1 &&& 2 ^ 15) := by rw [show (32768 : Int32) = nI (2 ^ 15) by decide]; exact n_and w1 (2 ^ 15)
            have hle : w1 &&& 2 ^ 15 ≤ w1 := Nat.and_le_left
            have e2 : w1 &&& 2 ^ 15 = 0 := (n_eq0 (by omega)).mp (by rw [← e1]; exact hc_117)
            have e3 := congrArg (fun z => z.testBit 15) e2
            simp only [Nat.testBit_and, Nat.testBit_two_pow_self, Bool.and_true, Nat.zero_testBit] at e3
            exact e3
          obtain ⟨hI6, hN6⟩ := cl_end f1 f2 f3 hst.2.2.2.1 hst.2.2.1 (hfl.2 hb15).1 (hfl.2 hb15).2
          exact ⟨(210 - rd) * 2000 - 1 - (p + 1) * 100, by omega, Or.inr (Or.inl ⟨rd, p + 1, w1, g, gI, hrd, by omega, lt15 hw1 hb15, hst, hI6, hN6, by rcases ht with q | q; exact Or.inl q; exact Or.inr ⟨q.1, q.2 hb15⟩, rfl, rfl, rfl, rfl, rfl, by rw [nI_add], rfl⟩)⟩
        · skip
          refine xt_aln0 rfl (by first | decide | omega | assumption) ?_
          refine xt_ic ?_
          refine xt_v2 (key := 54) (q := q_J7_fill) rfl rfl rfl rfl rfl ⟨Nat.le_of_ble_eq_true rfl, Nat.le_of_ble_eq_true rfl⟩ ⟨k, 36, _, hk, by decide, hsh, rfl⟩ (fun rv_ S1 M1 hq_122 => ?_)
          rw [hst.1] at hq_122
          obtain ⟨eS_, eM_, rfl⟩ := hq_122 k 36 _ hsh rfl
          replace eS_ := eS_.symm
          replace eM_ := eM_.symm
          subst eS_ eM_
          try dsimp only [Option.toList, List.cons_append, List.nil_append]
          refine xt_ic ?_
          refine xt_rz (by decide) rfl (Nat.le_refl _) ?_
          have hb15 : w1.testBit 15 = true := by
            apply Classical.byContradiction
            intro hn
            apply hc_117
            have e1 : nI w1 &&& (32768 : Int32) = nI (w1 &&& 2 ^ 15) := by rw [show (32768 : Int32) = nI (2 ^ 15) by decide]; exact n_and w1 (2 ^ 15)
            have e2 : w1 &&& 2 ^ 15 = 0 := by
              apply Nat.eq_of_testBit_eq
              intro i
              rw [Nat.testBit_and, Nat.testBit_two_pow, Nat.zero_testBit]
              by_cases e : 15 = i
              · subst e; simp only [decide_true, Bool.and_true]; simpa using hn
              · simp [e]
            exact e1.trans (by rw [e2]; rfl)
          intro k2 w2 f2 hf2 e2
          simp only [List.cons.injEq, Sum.inl.injEq, Sum.inr.injEq, and_true] at e2
          obtain ⟨rfl, -⟩ := e2
          have ef : ∀ j, j < 36 → f j = f2 j := fun j hj => by
            have h1 := (hf j hj).2
            rw [(hf2 j hj).2] at h1
            exact ((nI_eq (by have := (hf2 j hj).1; omega) (by have := (hf j hj).1; omega)).mp h1).symm
          
          refine ⟨rfl, _, by rw [x_row_row], Or.inr ⟨rfl, fun j hj => ?_, Fail_cg ef (hfl.1 hb15)⟩⟩
          simp only [x_cp]
          rw [if_pos hj]
      · skip
        refine xt_ild rfl ?_
        refine xt_ild rfl ?_
        refine xt_ceq (t := 107) rfl (fun hc_73 => ?_) (fun hc_73 => ?_)
        · skip
          refine xt_blk rfl rfl (by dsimp only [List.take]) ?_
          refine xt_inc rfl (by dsimp only [x_sto]) ?_
          refine xt_goto (t := 62) rfl ?_
          refine xt_cut rfl rfl (by dsimp only [List.take]) ?_
          have hm6 : m < 6 := by rw [nI_leI (by omega) (by omega)] at hc_66; omega
          obtain ⟨f1, f2, f3, f4⟩ := fs_ok p hp
          have hme : m = fsT p ∨ m = scT p := by
            have := (nI_eq (by omega) (by omega)).mp hc_73
            omega
          exact ⟨(210 - rd) * 2000 - 1 - p * 100 - 1 - (m + 1), by omega, Or.inr (Or.inr ⟨rd, p, m + 1, w1, g, gI, hrd, hp, by omega, hw1, hst, ⟨hfl.1, fun q => cl_skip f1 f2 f3 hme (hfl.2 q).1 (hfl.2 q).2⟩, ht, rfl, rfl, rfl, rfl, rfl, by rw [nI_add], rfl⟩)⟩
        · skip
          refine xt_ild rfl ?_
          refine xt_ild rfl ?_
          refine xt_ceq (t := 107) rfl (fun hc_80 => ?_) (fun hc_80 => ?_)
          · skip
            refine xt_blk rfl rfl (by dsimp only [List.take]) ?_
            refine xt_inc rfl (by dsimp only [x_sto]) ?_
            refine xt_goto (t := 62) rfl ?_
            refine xt_cut rfl rfl (by dsimp only [List.take]) ?_
            have hm6 : m < 6 := by rw [nI_leI (by omega) (by omega)] at hc_66; omega
            obtain ⟨f1, f2, f3, f4⟩ := fs_ok p hp
            have hme : m = fsT p ∨ m = scT p := by
              have := (nI_eq (by omega) (by omega)).mp hc_80
              omega
            exact ⟨(210 - rd) * 2000 - 1 - p * 100 - 1 - (m + 1), by omega, Or.inr (Or.inr ⟨rd, p, m + 1, w1, g, gI, hrd, hp, by omega, hw1, hst, ⟨hfl.1, fun q => cl_skip f1 f2 f3 hme (hfl.2 q).1 (hfl.2 q).2⟩, ht, rfl, rfl, rfl, rfl, rfl, by rw [nI_add], rfl⟩)⟩
          · skip
            refine xt_iln2 rfl ?_
            refine xt_aln0 rfl (by first | decide | omega | assumption) ?_
            refine xt_ild rfl ?_
            refine xt_ild rfl ?_
            refine xt_ild rfl ?_
            refine xt_v4 (key := 90) (q := q_X1_narrow) rfl rfl rfl rfl rfl ⟨Nat.le_of_ble_eq_true rfl, Nat.le_of_ble_eq_true rfl⟩ (by
                obtain ⟨f1, f2, f3, f4⟩ := fs_ok p hp
                have hm6 : m < 6 := by rw [nI_leI (by omega) (by omega)] at hc_66; omega
                have n1 : m ≠ fsT p := fun q => hc_73 (by rw [q])
                exact ⟨k, fsT p, scT p, m, g, hk, f1, f2, hm6, Ne.symm n1, hsh, fun j hj => ⟨hst.2.2.1 j hj, by rw [hst.1, x_row_self]; exact hst.2.1 j hj⟩, rfl⟩) (fun rv_ S1 M1 hq_91 => ?_)
            obtain ⟨f1, f2, f3, f4⟩ := fs_ok p hp
            have hm6 : m < 6 := by rw [nI_leI (by omega) (by omega)] at hc_66; omega
            have n1 : m ≠ fsT p := fun q => hc_73 (by rw [q])
            have n2 : m ≠ scT p := fun q => hc_80 (by rw [q])
            have hds : Ds (fsT p) (scT p) m := ⟨f1, f2, hm6, f3, Ne.symm n2, Ne.symm n1⟩
            obtain ⟨eS_, hcase⟩ := hq_91 k (fsT p) (scT p) m g f1 f2 hm6 (fun j hj => ⟨hst.2.2.1 j hj, by rw [hst.1, x_row_self]; exact hst.2.1 j hj⟩) rfl
            replace eS_ := eS_.symm
            subst eS_
            rw [hst.1] at hcase
            obtain ⟨r1, g1, gI1, rfl, hg1, rfl, hN1⟩ := nr_of hst.2.1 hcase
            obtain ⟨hB1, hS1, hM1⟩ := NR_B hds hN1 hst.2.2.1 hst.2.2.2.1 hst.2.2.2.2
            try dsimp only [Option.toList, List.cons_append, List.nil_append]
            refine xt_aln0 rfl (by first | decide | omega | assumption) ?_
            refine xt_ild rfl ?_
            refine xt_ild rfl ?_
            refine xt_ild rfl ?_
            refine xt_v4 (key := 90) (q := q_X1_narrow) rfl rfl rfl rfl rfl ⟨Nat.le_of_ble_eq_true rfl, Nat.le_of_ble_eq_true rfl⟩ ⟨k, scT p, fsT p, m, g1, hk, f2, f1, hm6, Ne.symm n2, hsh, fun j hj => ⟨hB1 j hj, by rw [x_row_self]; exact hg1 j hj⟩, rfl⟩ (fun rv_ S1 M1 hq_101 => ?_)
            obtain ⟨eS_, hcase2⟩ := hq_101 k (scT p) (fsT p) m g1 f2 f1 hm6 (fun j hj => ⟨hB1 j hj, by rw [x_row_self]; exact hg1 j hj⟩) rfl
            replace eS_ := eS_.symm
            subst eS_
            obtain ⟨r2, g2, gI2, rfl, hg2, rfl, hN2⟩ := nr_of hg1 hcase2
            try dsimp only [Option.toList, List.cons_append, List.nil_append]
            refine xt_or ?_
            refine xt_or ?_
            refine xt_isn2 rfl (by dsimp only [x_sto]) ?_
            refine xt_nil (t := 107) rfl ?_
            refine xt_blk rfl rfl (by dsimp only [List.take]) ?_
            refine xt_inc rfl (by dsimp only [x_sto]) ?_
            refine xt_goto (t := 62) rfl ?_
            refine xt_cut rfl rfl (by dsimp only [List.take]) ?_
            obtain ⟨⟨hB2, hS2, hM2⟩, hr12, hF, htt, hnx⟩ := cl_step (f := f) (w := w1) hds hst.2.2.1 hst.2.2.2.1 hst.2.2.2.2 hN1 hN2
            have hor : w1 ||| (r1 ||| r2) < 2 ^ 16 := Nat.or_lt_two_pow hw1 hr12
            exact ⟨(210 - rd) * 2000 - 1 - p * 100 - 1 - (m + 1), by omega, Or.inr (Or.inr ⟨rd, p, m + 1, w1 ||| (r1 ||| r2), g2, gI2, hrd, hp, by omega, hor, ⟨rfl, hg2, hB2, hS2, hM2⟩, ⟨fun q => by
              rw [Nat.testBit_or, Bool.or_eq_true] at q
              rcases q with q | q
              · exact hfl.1 q
              · exact hF q, fun q => hnx q (hfl.2 (or_f q).1).1 (hfl.2 (or_f q).1).2⟩, cl_tot ht (by rcases htt with ⟨q1, q2⟩ | q; exact Or.inl ⟨by rw [q1], q2⟩; exact Or.inr q), rfl, rfl, rfl, rfl, rfl, by rw [n_or, n_or, nI_add], rfl⟩)⟩
end
section
/-! WHAT CAN BE: stretches, their relations, nets that hold of stretches -/
def sgN (x y : Nat) : Nat := if x < y then 1 else if x = y then 2 else 4
/-- the sign of an end of p to an end of q in a relation -/
def sd (r e o : Nat) : Nat := sgT r / 2 ^ ((3 - (2 * e + o)) * 4) % 16
/-- signs of e to f, of f to g, of e to g that go together -/
def okS (x y z : Nat) : Prop := (x = 2 → z = y) ∧ (y = 2 → z = x) ∧ (x = y → z = x)
theorem okS_of (x y z : Nat) : okS (sgN x y) (sgN y z) (sgN x z) := by
  unfold okS sgN
  refine ⟨?_, ?_, ?_⟩ <;> (repeat' split) <;> omega
def rN (a z b y : Nat) : Nat := bwf ((sgN a b * 4096 ||| sgN a y * 256) ||| sgN z b * 16 ||| sgN z y) 13
theorem rN_ok {a z b y : Nat} (h1 : a < z) (h2 : b < y) : sgT (rN a z b y) = ((sgN a b * 4096 ||| sgN a y * 256) ||| sgN z b * 16 ||| sgN z y) := by
  have h : ∀ (p q r s : Nat), (p = 1 ∨ p = 2 ∨ p = 4) → (q = 1 ∨ q = 2 ∨ q = 4) → (r = 1 ∨ r = 2 ∨ r = 4) → (s = 1 ∨ s = 2 ∨ s = 4) → ((p = 1 ∨ p = 2) → q = 1) → ((s = 2 ∨ s = 4) → r = 4) → (q = 2 → p = 4 ∧ r = 4 ∧ s = 4) → (q = 4 → p = 4 ∧ r = 4 ∧ s = 4) → (r = 2 → p = 1 ∧ q = 1 ∧ s = 1) → (r = 1 → p = 1 ∧ q = 1 ∧ s = 1) → sgT (bwf ((p * 4096 ||| q * 256) ||| r * 16 ||| s) 13) = ((p * 4096 ||| q * 256) ||| r * 16 ||| s) := by
    rintro p q r s (rfl | rfl | rfl) (rfl | rfl | rfl) (rfl | rfl | rfl) (rfl | rfl | rfl) c1 c2 c3 c4 c5 c6 <;> first | (exact absurd (c1 (by decide)) (by decide)) | (exact absurd (c2 (by decide)) (by decide)) | (exact absurd (c3 rfl) (by decide)) | (exact absurd (c4 rfl) (by decide)) | (exact absurd (c5 rfl) (by decide)) | (exact absurd (c6 rfl) (by decide)) | decide
  have v : ∀ x y, sgN x y = 1 ∨ sgN x y = 2 ∨ sgN x y = 4 := fun x y => by unfold sgN; split <;> (try split) <;> simp
  unfold rN
  refine h _ _ _ _ (v _ _) (v _ _) (v _ _) (v _ _) ?_ ?_ ?_ ?_ ?_ ?_ <;> (unfold sgN; (repeat' split) <;> omega)
theorem rN_lt (a z b y : Nat) : rN a z b y < 13 := bwf_lt _ 13 (by omega)
theorem sg_dig : ∀ p, p < 5 → ∀ q, q < 5 → ∀ r, r < 5 → ∀ s, s < 5 → ((p * 4096 ||| q * 256) ||| r * 16 ||| s) / 4096 % 16 = p ∧ ((p * 4096 ||| q * 256) ||| r * 16 ||| s) / 256 % 16 = q ∧ ((p * 4096 ||| q * 256) ||| r * 16 ||| s) / 16 % 16 = r ∧ ((p * 4096 ||| q * 256) ||| r * 16 ||| s) % 16 = s := by decide
theorem sgN_lt (x y : Nat) : sgN x y < 5 := by unfold sgN; split <;> (try split) <;> omega
/-- the ends: 0 its first, else its last -/
def en (a z e : Nat) : Nat := if e = 0 then a else z
theorem sd_rN {a z b y : Nat} (h1 : a < z) (h2 : b < y) {e o : Nat} (he : e < 2) (ho : o < 2) : sd (rN a z b y) e o = sgN (en a z e) (en b y o) := by
  obtain ⟨d1, d2, d3, d4⟩ := sg_dig _ (sgN_lt a b) _ (sgN_lt a y) _ (sgN_lt z b) _ (sgN_lt z y)
  unfold sd
  rw [rN_ok h1 h2]
  rcases (show e = 0 ∨ e = 1 by omega) with rfl | rfl <;> rcases (show o = 0 ∨ o = 1 by omega) with rfl | rfl
  · exact d1
  · exact d2
  · exact d3
  · show _ / 1 % 16 = _
    rw [Nat.div_one]
    exact d4
/-- composing, by signs -/
def cons3 (r s t : Nat) : Bool := (List.range 2).all fun e => (List.range 2).all fun f => (List.range 2).all fun g => decide ((sd r e f = 2 → sd t e g = sd s f g) ∧ (sd s f g = 2 → sd t e g = sd r e f) ∧ (sd r e f = sd s f g → sd t e g = sd r e f))
theorem cm_cons : ∀ r, r < 13 → ∀ s, s < 13 → ∀ t, t < 13 → (cmT (r * 13 + s)).testBit t = cons3 r s t := by decide +kernel
theorem cons3_ok {r s t : Nat} : cons3 r s t = true ↔ ∀ e f g, e < 2 → f < 2 → g < 2 → okS (sd r e f) (sd s f g) (sd t e g) := by
  unfold cons3 okS
  simp only [List.all_eq_true, List.mem_range, decide_eq_true_eq]
  exact ⟨fun h e f g he hf hg => h e he f hf g hg, fun h e he f hf g hg => h e f g he hf hg⟩
theorem sd_turn : ∀ r, r < 13 → ∀ e, e < 2 → ∀ o, o < 2 → sd (12 - r) o e = (if sd r e o = 1 then 4 else if sd r e o = 2 then 2 else 1) := by decide
theorem sd_inj : ∀ r, r < 13 → ∀ t, t < 13 → (sd r 0 0 = sd t 0 0 ∧ sd r 0 1 = sd t 0 1 ∧ sd r 1 0 = sd t 1 0 ∧ sd r 1 1 = sd t 1 1) → r = t := by decide
theorem rN_turn {a z b y : Nat} (h1 : a < z) (h2 : b < y) : rN b y a z = 12 - rN a z b y := by
  have hs : ∀ u v, (if sgN u v = 1 then 4 else if sgN u v = 2 then 2 else 1) = sgN v u := by
    intro u v
    unfold sgN
    (repeat' split) <;> omega
  have key : ∀ e o, e < 2 → o < 2 → sd (rN b y a z) e o = sd (12 - rN a z b y) e o := by
    intro e o he ho
    rw [sd_turn _ (rN_lt a z b y) o ho e he, sd_rN h1 h2 ho he, hs, sd_rN h2 h1 he ho]
  exact sd_inj _ (rN_lt _ _ _ _) _ (by omega) ⟨key 0 0 (by omega) (by omega), key 0 1 (by omega) (by omega), key 1 0 (by omega) (by omega), key 1 1 (by omega) (by omega)⟩
theorem rN_comp {a z b y c x : Nat} (h1 : a < z) (h2 : b < y) (h3 : c < x) : (cmT (rN a z b y * 13 + rN b y c x)).testBit (rN a z c x) = true := by
  rw [cm_cons _ (rN_lt _ _ _ _) _ (rN_lt _ _ _ _) _ (rN_lt _ _ _ _), cons3_ok]
  intro e f g he hf hg
  rw [sd_rN h1 h2 he hf, sd_rN h2 h3 hf hg, sd_rN h1 h3 he hg]
  exact okS_of _ _ _
def rP (P : Nat → Nat → Nat) (a b : Nat) : Nat := rN (P a 0) (P a 1) (P b 0) (P b 1)
def Str (P : Nat → Nat → Nat) : Prop := ∀ a, a < 6 → P a 0 < P a 1
def Hol (P : Nat → Nat → Nat) (g : Nat → Nat) : Prop := ∀ a b, a < 6 → b < 6 → a ≠ b → (g (a * 6 + b)).testBit (rP P a b) = true
def Sat (g : Nat → Nat) : Prop := ∃ P, Str P ∧ Hol P g
def hP (P : Nat → Nat → Nat) (j : Nat) : Nat := 2 ^ rP P (j / 6) (j % 6)
theorem hP_at (P : Nat → Nat → Nat) {a b : Nat} (hb : b < 6) : hP P (a * 6 + b) = 2 ^ rP P a b := by
  unfold hP
  rw [show (a * 6 + b) / 6 = a by omega, show (a * 6 + b) % 6 = b by omega]
theorem tn_pow : ∀ r, r < 13 → tn (2 ^ r) = 2 ^ (12 - r) := by decide
theorem hP_Sy {P : Nat → Nat → Nat} (h : Str P) : Sy (hP P) := by
  intro a b ha hb hab
  rw [hP_at P ha, hP_at P hb, tn_pow _ (show rP P a b < 13 from rN_lt _ _ _ _)]
  unfold rP
  rw [rN_turn (h a ha) (h b hb)]
theorem hP_Clo {P : Nat → Nat → Nat} (h : Str P) : Clo (hP P) := by
  intro x y z hd
  obtain ⟨hx, hy, hz, hxy, hyz, hxz⟩ := hd
  unfold Tri
  rw [hP_at P hz, hP_at P hy, hP_at P hz]
  refine sb_tb.mpr (fun i hi => ?_)
  rw [Nat.testBit_two_pow] at hi
  have hi : rP P x z = i := by simpa using hi
  subst hi
  exact cm_tb.mpr ⟨rP P x y, rP P y z, rN_lt _ _ _ _, rN_lt _ _ _ _, Nat.testBit_two_pow_self, Nat.testBit_two_pow_self, rN_comp (h x hx) (h y hy) (h z hz)⟩
theorem Hol_Le {P : Nat → Nat → Nat} {g : Nat → Nat} : Hol P g ↔ Le (hP P) g := by
  constructor
  · intro h a b ha hb hab
    rw [hP_at P hb]
    refine sb_tb.mpr (fun i hi => ?_)
    rw [Nat.testBit_two_pow] at hi
    have hi : rP P a b = i := by simpa using hi
    subst hi
    exact h a b ha hb hab
  · intro h a b ha hb hab
    have := h a b ha hb hab
    rw [hP_at P hb] at this
    exact sb_tb.mp this _ Nat.testBit_two_pow_self
theorem Hol_mx {P : Nat → Nat → Nat} {f g : Nat → Nat} (hP : Str P) (h : Mx f g) : Hol P f ↔ Hol P g := by
  rw [Hol_Le, Hol_Le]
  exact ⟨fun q => h.2.1 _ (hP_Sy hP) (hP_Clo hP) q, fun q => Le_tr q h.1⟩
theorem Sat_mx {f g : Nat → Nat} (h : Mx f g) : Sat f ↔ Sat g :=
  ⟨fun ⟨P, h1, h2⟩ => ⟨P, h1, (Hol_mx h1 h).mp h2⟩, fun ⟨P, h1, h2⟩ => ⟨P, h1, (Hol_mx h1 h).mpr h2⟩⟩
theorem Sat_fail {f : Nat → Nat} (h : Fail f) : ¬ Sat f := by
  rintro ⟨P, h1, h2⟩
  obtain ⟨a, b, ha, hb, hab, h0⟩ := h _ (hP_Sy h1) (hP_Clo h1) (Hol_Le.mp h2)
  rw [hP_at P hb] at h0
  exact absurd h0 (Nat.ne_of_gt (Nat.two_pow_pos _))
end
section
/-! PLAIN SETS: a closed net of them, none empty, can be -/
/-- the signs, as bits 1, 2, 4, that a set lets an end of p have to an end of q -/
def dg (s e o : Nat) : Nat := fo sgT s 13 / 2 ^ ((3 - (2 * e + o)) * 4) % 16
def sgIn (x m : Nat) : Prop := x &&& m = x
theorem dg_ok : ∀ r, r < 13 → ∀ e, e < 2 → ∀ o, o < 2 → sd r e o = 1 ∨ sd r e o = 2 ∨ sd r e o = 4 := by decide
theorem fo_split (n : Nat) : fo sgT n 13 < 2 ^ 15 := fo_lt sgT_lt 13
theorem sh_tb (n k i : Nat) : (n / 2 ^ k).testBit i = n.testBit (k + i) := by rw [← Nat.shiftRight_eq_div_pow, Nat.testBit_shiftRight]
theorem m16_tb (n i : Nat) : (n % 16).testBit i = (decide (i < 4) && n.testBit i) := Nat.testBit_mod_two_pow n 4 i
theorem dg_tb {s e o i : Nat} (hi : i < 4) : (dg s e o).testBit i = true ↔ ∃ r, r < 13 ∧ s.testBit r = true ∧ (sd r e o).testBit i = true := by
  unfold dg sd
  rw [m16_tb, sh_tb]
  simp only [hi, decide_true, Bool.true_and]
  rw [fo_tb]
  constructor
  · rintro ⟨r, h1, h2, h3⟩
    exact ⟨r, h1, h2, by rw [m16_tb, sh_tb]; simpa [hi] using h3⟩
  · rintro ⟨r, h1, h2, h3⟩
    rw [m16_tb, sh_tb] at h3
    exact ⟨r, h1, h2, by simpa [hi] using h3⟩
/-- sign 2^i is let -/
theorem dg_in {s e o i : Nat} (he : e < 2) (ho : o < 2) (hi : i < 3) : (dg s e o).testBit i = true ↔ ∃ r, r < 13 ∧ s.testBit r = true ∧ sd r e o = 2 ^ i := by
  rw [dg_tb (by omega)]
  constructor
  · rintro ⟨r, h1, h2, h3⟩
    refine ⟨r, h1, h2, ?_⟩
    rcases dg_ok r h1 e he o ho with q | q | q <;> rw [q] at h3 ⊢ <;> rcases (show i = 0 ∨ i = 1 ∨ i = 2 by omega) with rfl | rfl | rfl <;> first | rfl | (exact absurd h3 (by decide))
  · rintro ⟨r, h1, h2, h3⟩
    exact ⟨r, h1, h2, by rw [h3]; exact Nat.testBit_two_pow_self⟩
/-- ends: 2 a + e. What is let between two of them: bit 0 below, 1 alike, 2 above -/
def dm (g : Nat → Nat) (x y i : Nat) : Prop := if x / 2 = y / 2 then i = (if x % 2 < y % 2 then 0 else if x % 2 = y % 2 then 1 else 2) else (dg (g (x / 2 * 6 + y / 2)) (x % 2) (y % 2)).testBit i = true
theorem dm_same {g : Nat → Nat} {x y i : Nat} (h : x / 2 = y / 2) : dm g x y i ↔ i = (if x % 2 < y % 2 then 0 else if x % 2 = y % 2 then 1 else 2) := by unfold dm; rw [if_pos h]
theorem dm_diff {g : Nat → Nat} {x y i : Nat} (h : x / 2 ≠ y / 2) (hi : i < 3) : dm g x y i ↔ ∃ r, r < 13 ∧ (g (x / 2 * 6 + y / 2)).testBit r = true ∧ sd r (x % 2) (y % 2) = 2 ^ i := by
  unfold dm; rw [if_neg h]; exact dg_in (by omega) (by omega) hi
theorem sd_pw : ∀ r, r < 13 → ∀ e, e < 2 → ∀ o, o < 2 → ∃ i, i < 3 ∧ sd r e o = 2 ^ i := by decide
theorem pw_inj : ∀ i, i < 3 → ∀ j, j < 3 → (2 ^ i = 2 ^ j → i = j) := by decide
/-- positions of a sign: three numbers of ends in one relation or two -/
def okB (x y z : Nat) : Bool := (x != 2 || z == y) && (y != 2 || z == x) && (x != y || z == x)
theorem okB_S {x y z : Nat} (h : okB x y z = true) : okS x y z := by
  unfold okB at h
  unfold okS
  simp only [Bool.and_eq_true, Bool.or_eq_true, bne_iff_ne, ne_eq, beq_iff_eq] at h
  obtain ⟨⟨h1, h2⟩, h3⟩ := h
  exact ⟨fun q => h1.resolve_left (fun n => n q), fun q => h2.resolve_left (fun n => n q), fun q => h3.resolve_left (fun n => n q)⟩
theorem sd_b1 : ∀ r, r < 13 → ∀ e, e < 2 → ∀ f, f < 2 → ∀ g, g < 2 → okB (if e < f then 1 else if e = f then 2 else 4) (sd r f g) (sd r e g) = true := by decide +kernel
theorem sd_b2 : ∀ r, r < 13 → ∀ e, e < 2 → ∀ f, f < 2 → ∀ g, g < 2 → okB (sd r e f) (if f < g then 1 else if f = g then 2 else 4) (sd r e g) = true := by decide +kernel
theorem sd_b3 : ∀ r, r < 13 → ∀ e, e < 2 → ∀ f, f < 2 → ∀ g, g < 2 → okB (sd r e f) (sd (12 - r) f g) (if e < g then 1 else if e = g then 2 else 4) = true := by decide +kernel
theorem sd_in1 (r : Nat) (hr : r < 13) (e : Nat) (he : e < 2) (f : Nat) (hf : f < 2) (g : Nat) (hg : g < 2) : okS (if e < f then 1 else if e = f then 2 else 4) (sd r f g) (sd r e g) := okB_S (sd_b1 r hr e he f hf g hg)
theorem sd_in2 (r : Nat) (hr : r < 13) (e : Nat) (he : e < 2) (f : Nat) (hf : f < 2) (g : Nat) (hg : g < 2) : okS (sd r e f) (if f < g then 1 else if f = g then 2 else 4) (sd r e g) := okB_S (sd_b2 r hr e he f hf g hg)
theorem sd_in3 (r : Nat) (hr : r < 13) (e : Nat) (he : e < 2) (f : Nat) (hf : f < 2) (g : Nat) (hg : g < 2) : okS (sd r e f) (sd (12 - r) f g) (if e < g then 1 else if e = g then 2 else 4) := okB_S (sd_b3 r hr e he f hf g hg)
theorem s2i (e f : Nat) : (if e < f then 1 else if e = f then 2 else 4) = 2 ^ (if e < f then 0 else if e = f then 1 else 2) := by split <;> (try split) <;> rfl
/-- what goes together -/
theorem dm_tr {g : Nat → Nat} (hB : Bd g) (hS : Sy g) (hC : Clo g) (hN : NE g 0) {x y z i : Nat} (hx : x < 12) (hy : y < 12) (hz : z < 12) (hi : i < 3) (h : dm g x z i) : ∃ j k, j < 3 ∧ k < 3 ∧ dm g x y j ∧ dm g y z k ∧ okS (2 ^ j) (2 ^ k) (2 ^ i) := by
  have ex : x % 2 < 2 := by omega
  have ey : y % 2 < 2 := by omega
  have ez : z % 2 < 2 := by omega
  by_cases c1 : x / 2 = y / 2
  · by_cases c2 : y / 2 = z / 2
    · have c3 : x / 2 = z / 2 := by omega
      rw [dm_same c3] at h
      refine ⟨_, _, ?_, ?_, (dm_same c1).mpr rfl, (dm_same c2).mpr rfl, ?_⟩
      · (repeat' split) <;> omega
      · (repeat' split) <;> omega
      · rw [h]
        unfold okS
        rcases (show x % 2 = 0 ∨ x % 2 = 1 by omega) with e1 | e1 <;> rcases (show y % 2 = 0 ∨ y % 2 = 1 by omega) with e2 | e2 <;> rcases (show z % 2 = 0 ∨ z % 2 = 1 by omega) with e3 | e3 <;> rw [e1, e2, e3] <;> decide
    · have c3 : x / 2 ≠ z / 2 := by omega
      rw [dm_diff c3 hi] at h
      obtain ⟨r, hr, h1, h2⟩ := h
      obtain ⟨k, hk, h3⟩ := sd_pw r hr (y % 2) ey (z % 2) ez
      refine ⟨_, k, ?_, hk, (dm_same c1).mpr rfl, (dm_diff c2 hk).mpr ⟨r, hr, by rw [← c1]; exact h1, h3⟩, ?_⟩
      · (repeat' split) <;> omega
      · rw [← s2i, ← h2, ← h3]
        exact sd_in1 r hr _ ex _ ey _ ez
  · by_cases c2 : y / 2 = z / 2
    · have c3 : x / 2 ≠ z / 2 := by omega
      rw [dm_diff c3 hi] at h
      obtain ⟨r, hr, h1, h2⟩ := h
      obtain ⟨j, hj, h3⟩ := sd_pw r hr (x % 2) ex (y % 2) ey
      refine ⟨j, _, hj, ?_, (dm_diff c1 hj).mpr ⟨r, hr, by rw [c2]; exact h1, h3⟩, (dm_same c2).mpr rfl, ?_⟩
      · (repeat' split) <;> omega
      · rw [← s2i, ← h2, ← h3]
        exact sd_in2 r hr _ ex _ ey _ ez
    · by_cases c3 : x / 2 = z / 2
      · rw [dm_same c3] at h
        have hne := hN (x / 2) (y / 2) (by omega) (by omega) c1 (Nat.zero_testBit _)
        obtain ⟨r, hr, h1⟩ := tb_ex (hB _ (by omega)) hne
        obtain ⟨j, hj, h2⟩ := sd_pw r hr (x % 2) ex (y % 2) ey
        obtain ⟨k, hk, h3⟩ := sd_pw (12 - r) (by omega) (y % 2) ey (z % 2) ez
        refine ⟨j, k, hj, hk, (dm_diff c1 hj).mpr ⟨r, hr, h1, h2⟩, (dm_diff c2 hk).mpr ⟨12 - r, by omega, ?_, h3⟩, ?_⟩
        · rw [← c3, hS (x / 2) (y / 2) (by omega) (by omega) c1, tn_tb _ (by omega), show 12 - (12 - r) = r by omega]
          exact h1
        · rw [h, ← s2i, ← h2, ← h3]
          exact sd_in3 r hr _ ex _ ey _ ez
      · rw [dm_diff c3 hi] at h
        obtain ⟨t, ht, h1, h2⟩ := h
        have hcl := sb_tb.mp (hC (x / 2) (y / 2) (z / 2) ⟨by omega, by omega, by omega, c1, c2, c3⟩) t h1
        obtain ⟨r, s, hr, hs, g1, g2, g3⟩ := cm_tb.mp hcl
        rw [cm_cons r hr s hs t ht, cons3_ok] at g3
        obtain ⟨j, hj, h3⟩ := sd_pw r hr (x % 2) ex (y % 2) ey
        obtain ⟨k, hk, h4⟩ := sd_pw s hs (y % 2) ey (z % 2) ez
        refine ⟨j, k, hj, hk, (dm_diff c1 hj).mpr ⟨r, hr, g1, h3⟩, (dm_diff c2 hk).mpr ⟨s, hs, g2, h4⟩, ?_⟩
        rw [← h2, ← h3, ← h4]
        exact g3 _ _ _ ex ey ez
/-- before or alike: 'above' isn't let -/
def lee (g : Nat → Nat) (x y : Nat) : Prop := ¬ dm g x y 2
theorem lee_tr {g : Nat → Nat} (hB : Bd g) (hS : Sy g) (hC : Clo g) (hN : NE g 0) {x y z : Nat} (hx : x < 12) (hy : y < 12) (hz : z < 12) (h1 : lee g x y) (h2 : lee g y z) : lee g x z := by
  intro h
  obtain ⟨j, k, hj, hk, g1, g2, g3, g4, g5⟩ := dm_tr hB hS hC hN hx hy hz (by omega) h
  have nj : j ≠ 2 := fun q => h1 (by rw [← q]; exact g1)
  have nk : k ≠ 2 := fun q => h2 (by rw [← q]; exact g2)
  rcases (show j = 0 ∨ j = 1 by omega) with rfl | rfl <;> rcases (show k = 0 ∨ k = 1 by omega) with rfl | rfl
  · exact absurd (g5 rfl) (by decide)
  · exact absurd (g4 rfl) (by decide)
  · exact absurd (g3 rfl) (by decide)
  · exact absurd (g5 rfl) (by decide)
theorem lee_rf {g : Nat → Nat} (x : Nat) : lee g x x := by
  unfold lee
  rw [dm_same rfl]
  simp
theorem sd_sw : ∀ r, r < 13 → ∀ e, e < 2 → ∀ o, o < 2 → ∀ i, i < 3 → (sd r e o = 2 ^ i → sd (12 - r) o e = 2 ^ (2 - i)) := by decide
theorem dm_sw {g : Nat → Nat} (hS : Sy g) {x y i : Nat} (hx : x < 12) (hy : y < 12) (hi : i < 3) (h : dm g x y i) : dm g y x (2 - i) := by
  by_cases c : x / 2 = y / 2
  · rw [dm_same c] at h
    rw [dm_same c.symm, h]
    (repeat' split) <;> omega
  · rw [dm_diff c hi] at h
    obtain ⟨r, hr, h1, h2⟩ := h
    refine (dm_diff (Ne.symm c) (by omega)).mpr ⟨12 - r, by omega, ?_, sd_sw r hr _ (by omega) _ (by omega) i hi h2⟩
    rw [hS (x / 2) (y / 2) (by omega) (by omega) c, tn_tb _ (by omega), show 12 - (12 - r) = r by omega]
    exact h1
end
section
/-! PLAIN SETS: the drawing of a closed net of them -/
noncomputable def cn (p : Nat → Prop) : Nat → Nat
  | 0 => 0
  | i + 1 => cn p i + @ite Nat (p i) (Classical.propDecidable _) 1 0
noncomputable def ff (p : Nat → Prop) : Nat → Nat → Nat
  | 0, _ => 0
  | n + 1, i => @ite Nat (p i) (Classical.propDecidable _) i (ff p n (i + 1))
theorem ite_t {p : Prop} {a b : Nat} (h : p) : @ite Nat p (Classical.propDecidable _) a b = a := by rw [if_pos h]
theorem ite_f {p : Prop} {a b : Nat} (h : ¬ p) : @ite Nat p (Classical.propDecidable _) a b = b := by rw [if_neg h]
theorem cn_le {p q : Nat → Prop} : ∀ n, (∀ i, i < n → p i → q i) → cn p n ≤ cn q n
  | 0, _ => Nat.le_refl _
  | n + 1, h => by
    have h1 := cn_le n (fun i hi => h i (by omega))
    show cn p n + @ite Nat (p n) (Classical.propDecidable _) 1 0 ≤ cn q n + @ite Nat (q n) (Classical.propDecidable _) 1 0
    by_cases hp : p n
    · rw [ite_t hp, ite_t (h n (by omega) hp)]; omega
    · rw [ite_f hp]; omega
theorem cn_lt {p q : Nat → Prop} (j : Nat) (hj1 : ¬ p j) (hj2 : q j) : ∀ n, (∀ i, i < n → p i → q i) → j < n → cn p n < cn q n
  | 0, _, hj => by omega
  | n + 1, h, hj => by
    show cn p n + @ite Nat (p n) (Classical.propDecidable _) 1 0 < cn q n + @ite Nat (q n) (Classical.propDecidable _) 1 0
    by_cases e : j = n
    · subst e
      have h1 := cn_le (p := p) (q := q) j (fun i hi => h i (by omega))
      rw [ite_f hj1, ite_t hj2]; omega
    · have h1 := cn_lt j hj1 hj2 n (fun i hi => h i (by omega)) (by omega)
      by_cases hp : p n
      · rw [ite_t hp, ite_t (h n (by omega) hp)]; omega
      · rw [ite_f hp]; omega
theorem ff_ok {p : Nat → Prop} : ∀ n i j, i ≤ j → j < i + n → p j → p (ff p n i) ∧ ff p n i < i + n
  | 0, i, j, h1, h2, _ => by omega
  | n + 1, i, j, h1, h2, h3 => by
    show p (@ite Nat (p i) (Classical.propDecidable _) i (ff p n (i + 1))) ∧ @ite Nat (p i) (Classical.propDecidable _) i (ff p n (i + 1)) < i + (n + 1)
    by_cases hp : p i
    · rw [ite_t hp]; exact ⟨hp, by omega⟩
    · rw [ite_f hp]
      have hne : i ≠ j := fun e => hp (by rw [e]; exact h3)
      have := ff_ok n (i + 1) j (by omega) (by omega) h3
      exact ⟨this.1, by omega⟩
/-- alike -/
def eqv (g : Nat → Nat) (x : Nat) : Nat → Prop := fun y => lee g x y ∧ lee g y x
def blw (g : Nat → Nat) (x : Nat) : Nat → Prop := fun y => lee g y x ∧ ¬ lee g x y
noncomputable def key (g : Nat → Nat) (x : Nat) : Nat := 12 * cn (blw g x) 12 + ff (eqv g x) 12 0
section KEY
variable {g : Nat → Nat} (hB : Bd g) (hS : Sy g) (hC : Clo g) (hN : NE g 0)
theorem ff_12 {x : Nat} (hx : x < 12) : eqv g x (ff (eqv g x) 12 0) ∧ ff (eqv g x) 12 0 < 12 := by
  have := ff_ok (p := eqv g x) 12 0 x (by omega) (by omega) ⟨lee_rf x, lee_rf x⟩
  exact ⟨this.1, by omega⟩
theorem key_lt {x y : Nat} (hB : Bd g) (hS : Sy g) (hC : Clo g) (hN : NE g 0) (hx : x < 12) (hy : y < 12) (h1 : lee g x y) (h2 : ¬ lee g y x) : key g x < key g y := by
  have hc : cn (blw g x) 12 < cn (blw g y) 12 := by
    refine cn_lt x (fun q => q.2 q.1) ⟨h1, h2⟩ 12 (fun i hi q => ⟨lee_tr hB hS hC hN hi hx hy q.1 h1, fun q2 => h2 (lee_tr hB hS hC hN hy hi hx q2 q.1)⟩) hx
  have m1 := (ff_12 (g := g) hx).2
  unfold key
  omega
theorem key_eq {x y : Nat} (hB : Bd g) (hS : Sy g) (hC : Clo g) (hN : NE g 0) (hx : x < 12) (hy : y < 12) (h : key g x = key g y) : lee g x y ∧ lee g y x := by
  obtain ⟨⟨e1, e2⟩, m1⟩ := ff_12 (g := g) hx
  obtain ⟨⟨e3, e4⟩, m2⟩ := ff_12 (g := g) hy
  unfold key at h
  have hm : ff (eqv g x) 12 0 = ff (eqv g y) 12 0 := by omega
  rw [hm] at e1 e2
  exact ⟨lee_tr hB hS hC hN hx m2 hy e1 e4, lee_tr hB hS hC hN hy m2 hx e3 e2⟩
theorem key_same {x y : Nat} (hB : Bd g) (hS : Sy g) (hC : Clo g) (hN : NE g 0) (hx : x < 12) (hy : y < 12) (h1 : lee g x y) (h2 : lee g y x) : key g x = key g y := by
  have a1 : cn (blw g x) 12 ≤ cn (blw g y) 12 := cn_le 12 (fun i hi q => ⟨lee_tr hB hS hC hN hi hx hy q.1 h1, fun q2 => q.2 (lee_tr hB hS hC hN hx hy hi h1 q2)⟩)
  have a2 : cn (blw g y) 12 ≤ cn (blw g x) 12 := cn_le 12 (fun i hi q => ⟨lee_tr hB hS hC hN hi hy hx q.1 h2, fun q2 => q.2 (lee_tr hB hS hC hN hy hx hi h2 q2)⟩)
  have hmin : ∀ n i, i + n = 12 → ff (eqv g x) n i = ff (eqv g y) n i := by
    intro n
    induction n with
    | zero => intro i _; rfl
    | succ n ih =>
      intro i hi
      have hiff : eqv g x i ↔ eqv g y i := ⟨fun q => ⟨lee_tr hB hS hC hN hy hx (by omega) h2 q.1, lee_tr hB hS hC hN (by omega) hx hy q.2 h1⟩, fun q => ⟨lee_tr hB hS hC hN hx hy (by omega) h1 q.1, lee_tr hB hS hC hN (by omega) hy hx q.2 h2⟩⟩
      show @ite Nat (eqv g x i) (Classical.propDecidable _) i (ff (eqv g x) n (i + 1)) = @ite Nat (eqv g y i) (Classical.propDecidable _) i (ff (eqv g y) n (i + 1))
      by_cases q : eqv g x i
      · rw [ite_t q, ite_t (hiff.mp q)]
      · rw [ite_f q, ite_f (fun z => q (hiff.mpr z)), ih (i + 1) (by omega)]
  unfold key
  rw [hmin 12 0 rfl]
  omega
end KEY
def plb (s : Nat) : Bool := (List.range 13).all fun i => !(bi (msT s) i == 1) || !((sgT i &&& fo sgT s 13) == sgT i)
theorem plb_ok {s : Nat} (h : pln s) : plb s = true := by
  unfold plb
  rw [List.all_eq_true]
  intro i hi
  have := h i (List.mem_range.mp hi)
  by_cases q : bi (msT s) i = 1
  · have := this q
    simp [q, this]
  · simp [q]
def plq (s r e o : Nat) : Bool := (sd r e o == 2 && dg s e o == 2) || (!(sd r e o == 2) && !(dg s e o == 2) && !((sd r e o &&& dg s e o) == 0))
def plc (s : Nat) : Bool := (List.range 13).all fun r => !(plq s r 0 0 && plq s r 0 1 && plq s r 1 0 && plq s r 1 1) || s.testBit r
set_option maxHeartbeats 4000000 in
theorem plain_all : ∀ a, a < 128 → ∀ b, b < 64 → (!plb (a * 64 + b) || plc (a * 64 + b)) = true := by decide +kernel
theorem plain_in {s r : Nat} (hs : s < 8192) (hp : pln s) (hr : r < 13) (h : ∀ e o, e < 2 → o < 2 → plq s r e o = true) : s.testBit r = true := by
  have h1 := plain_all (s / 64) (by omega) (s % 64) (by omega)
  rw [show s / 64 * 64 + s % 64 = s by omega, plb_ok hp] at h1
  simp only [Bool.not_true, Bool.false_or] at h1
  unfold plc at h1
  have h2 := List.all_eq_true.mp h1 r (List.mem_range.mpr hr)
  rw [h 0 0 (by omega) (by omega), h 0 1 (by omega) (by omega), h 1 0 (by omega) (by omega), h 1 1 (by omega) (by omega)] at h2
  simpa using h2
theorem dg_lt8 : ∀ d, d < 16 → (d.testBit 3 = false) → (d.testBit 0 = false) → (d.testBit 2 = false) → d ≠ 0 → d = 2 := by decide
theorem dg_b3 (s e o : Nat) (he : e < 2) (ho : o < 2) : (dg s e o).testBit 3 = false := by
  cases h : (dg s e o).testBit 3
  · rfl
  · obtain ⟨r, h1, -, h2⟩ := (dg_tb (by omega)).mp h
    rcases dg_ok r h1 e he o ho with q | q | q <;> rw [q] at h2 <;> exact absurd h2 (by decide)
set_option maxHeartbeats 1000000 in
/-- A CLOSED NET OF PLAIN SETS, NONE EMPTY, CAN BE -/
theorem plain_sat {g : Nat → Nat} (hB : Bd g) (hS : Sy g) (hC : Clo g) (hN : NE g 0) (hp : ∀ a b, a < b → b < 6 → pln (g (a * 6 + b))) : Sat g := by
  refine ⟨fun a e => key g (2 * a + e), fun a ha => ?_, ?_⟩
  · show key g (2 * a + 0) < key g (2 * a + 1)
    refine key_lt hB hS hC hN (by omega) (by omega) ?_ ?_
    · unfold lee
      rw [dm_same (by omega)]
      rw [if_pos (by omega)]
      omega
    · unfold lee
      rw [dm_same (by omega), if_neg (by omega), if_neg (by omega)]
      simp
  · have hstr : ∀ a, a < 6 → key g (2 * a) < key g (2 * a + 1) := fun a ha => by
      refine key_lt hB hS hC hN (by omega) (by omega) ?_ ?_
      · unfold lee
        rw [dm_same (by omega)]
        rw [if_pos (by omega)]
        omega
      · unfold lee
        rw [dm_same (by omega), if_neg (by omega), if_neg (by omega)]
        simp
    have main : ∀ a b, a < b → b < 6 → (g (a * 6 + b)).testBit (rP (fun a e => key g (2 * a + e)) a b) = true := by
      intro a b hab hb
      have ha : a < 6 := by omega
      refine plain_in (hB _ (by omega)) (hp a b hab hb) (rN_lt _ _ _ _) (fun e o he ho => ?_)
      have hsd : sd (rP (fun a e => key g (2 * a + e)) a b) e o = sgN (key g (2 * a + e)) (key g (2 * b + o)) := by
        unfold rP
        rw [sd_rN (show key g (2 * a + 0) < key g (2 * a + 1) from hstr a ha) (show key g (2 * b + 0) < key g (2 * b + 1) from hstr b hb) he ho]
        rcases (show e = 0 ∨ e = 1 by omega) with rfl | rfl <;> rcases (show o = 0 ∨ o = 1 by omega) with rfl | rfl <;> rfl
      have hx : 2 * a + e < 12 := by omega
      have hy : 2 * b + o < 12 := by omega
      have hd2 : (2 * a + e) / 2 ≠ (2 * b + o) / 2 := by omega
      have dmd : ∀ i, dm g (2 * a + e) (2 * b + o) i ↔ (dg (g (a * 6 + b)) e o).testBit i = true := by
        intro i
        unfold dm
        rw [if_neg hd2, show (2 * a + e) / 2 = a by omega, show (2 * b + o) / 2 = b by omega, show (2 * a + e) % 2 = e by omega, show (2 * b + o) % 2 = o by omega]
      have b3 := dg_b3 (g (a * 6 + b)) e o he ho
      have d16 : dg (g (a * 6 + b)) e o < 16 := Nat.mod_lt _ (by decide)
      have le1 : lee g (2 * a + e) (2 * b + o) ↔ (dg (g (a * 6 + b)) e o).testBit 2 = false := by
        unfold lee
        rw [dmd 2]
        simp
      have le2 : lee g (2 * b + o) (2 * a + e) ↔ (dg (g (a * 6 + b)) e o).testBit 0 = false := by
        constructor
        · intro q
          cases h0 : (dg (g (a * 6 + b)) e o).testBit 0
          · rfl
          · exact absurd (dm_sw hS hx hy (by omega) ((dmd 0).mpr h0)) q
        · intro q z
          have := dm_sw hS hy hx (by omega) z
          rw [show 2 - 2 = 0 by omega, dmd 0, q] at this
          cases this
      have hne : dg (g (a * 6 + b)) e o ≠ 0 := by
        intro q
        obtain ⟨r, hr, h1⟩ := tb_ex (hB (a * 6 + b) (by omega)) (hN a b ha hb (by omega) (Nat.zero_testBit _))
        obtain ⟨i, hi, h2⟩ := sd_pw r hr e he o ho
        have := (dg_in he ho hi).mpr ⟨r, hr, h1, h2⟩
        rw [q, Nat.zero_testBit] at this
        cases this
      unfold plq
      rw [hsd]
      rcases Nat.lt_trichotomy (key g (2 * a + e)) (key g (2 * b + o)) with q | q | q
      · have e1 : sgN (key g (2 * a + e)) (key g (2 * b + o)) = 1 := by unfold sgN; rw [if_pos q]
        have t0 : (dg (g (a * 6 + b)) e o).testBit 0 = true := by
          cases h0 : (dg (g (a * 6 + b)) e o).testBit 0
          · have l2 := le2.mpr h0
            by_cases l1 : lee g (2 * a + e) (2 * b + o)
            · have := key_same hB hS hC hN hx hy l1 l2; omega
            · have := key_lt hB hS hC hN hy hx l2 l1; omega
          · rfl
        rw [e1]
        generalize dg (g (a * 6 + b)) e o = d at d16 t0
        revert t0
        revert d
        decide
      · have e1 : sgN (key g (2 * a + e)) (key g (2 * b + o)) = 2 := by unfold sgN; rw [if_neg (by omega), if_pos q]
        obtain ⟨l1, l2⟩ := key_eq hB hS hC hN hx hy q
        have := dg_lt8 _ d16 b3 (le2.mp l2) (le1.mp l1) hne
        rw [e1, this]
        rfl
      · have e1 : sgN (key g (2 * a + e)) (key g (2 * b + o)) = 4 := by unfold sgN; rw [if_neg (by omega), if_neg (by omega)]
        have t0 : (dg (g (a * 6 + b)) e o).testBit 2 = true := by
          cases h0 : (dg (g (a * 6 + b)) e o).testBit 2
          · have l1 := le1.mpr h0
            by_cases l2 : lee g (2 * b + o) (2 * a + e)
            · have := key_same hB hS hC hN hx hy l1 l2; omega
            · have := key_lt hB hS hC hN hx hy l1 l2; omega
          · rfl
        rw [e1]
        generalize dg (g (a * 6 + b)) e o = d at d16 t0
        revert t0
        revert d
        decide
    intro a b ha hb hab
    rcases Nat.lt_or_ge a b with q | q
    · exact main a b q hb
    · have h1 := main b a (by omega) ha
      rw [hS b a hb ha (Ne.symm hab)]
      have h2 : rP (fun a e => key g (2 * a + e)) a b = 12 - rP (fun a e => key g (2 * a + e)) b a := by
        unfold rP
        exact rN_turn (hstr b hb) (hstr a ha)
      have h3 : rP (fun a e => key g (2 * a + e)) b a < 13 := rN_lt _ _ _ _
      rw [h2, tn_tb _ (by omega), show 12 - (12 - rP (fun a e => key g (2 * a + e)) b a) = rP (fun a e => key g (2 * a + e)) b a by omega]
      exact h1
end
section
/-! THE SHAPE of all that the law makes; Integer.bitCount; Search.pairToSplit -/
def SH : List x_S := [.inl (4, [some 1, some 26, some 33, some 40, some 43, some 52]),
  .inl (2, [some 2, some 3, some 4, some 7, none, none]),
  .inr (.inl (false, 30)),
  .inr (.inl (false, 30)),
  .inr (.inr [5, 6]),
  .inr (.inl (false, 30)),
  .inr (.inl (false, 30)),
  .inr (.inl (true, 30)),
  .inl (1, [some 9]),
  .inr (.inr [10, 11, 12, 13, 14, 15, 16, 17, 18, 19, 20, 21, 22, 23, 24, 25]),
  .inr (.inl (false, 36)),
  .inr (.inl (false, 36)),
  .inr (.inl (false, 36)),
  .inr (.inl (false, 36)),
  .inr (.inl (false, 36)),
  .inr (.inl (false, 36)),
  .inr (.inl (false, 36)),
  .inr (.inl (false, 36)),
  .inr (.inl (false, 36)),
  .inr (.inl (false, 36)),
  .inr (.inl (false, 36)),
  .inr (.inl (false, 36)),
  .inr (.inl (false, 36)),
  .inr (.inl (false, 36)),
  .inr (.inl (false, 36)),
  .inr (.inl (false, 36)),
  .inl (3, [none, some 1, some 8, some 27, some 28, some 29, some 30, some 31, some 32, none, none, none, none]),
  .inr (.inl (false, 36)),
  .inr (.inl (false, 36)),
  .inr (.inl (false, 36)),
  .inr (.inl (false, 36)),
  .inr (.inl (false, 36)),
  .inr (.inl (false, 12)),
  .inl (3, [none, some 1, some 8, some 34, some 35, some 36, some 37, some 38, some 39, none, none, none, none]),
  .inr (.inl (false, 36)),
  .inr (.inl (false, 36)),
  .inr (.inl (false, 36)),
  .inr (.inl (false, 36)),
  .inr (.inl (false, 36)),
  .inr (.inl (false, 12)),
  .inl (0, [some 41, some 42]),
  .inr (.inl (false, 24)),
  .inr (.inl (true, 6)),
  .inr (.inr [44, 45, 46, 47, 48, 49, 50, 51]),
  .inr (.inl (false, 2)),
  .inr (.inl (false, 2)),
  .inr (.inl (false, 2)),
  .inr (.inl (false, 2)),
  .inr (.inl (false, 2)),
  .inr (.inl (false, 2)),
  .inr (.inl (false, 2)),
  .inr (.inl (false, 2)),
  .inr (.inl (false, 7)),
  .inl (5, [some 54, some 55, some 56, some 57, none, some 58, some 59, some 60, some 61, some 62, some 63, some 64, some 65, some 66, some 67, some 68, some 69, some 70]),
  .inr (.inl (false, 169)),
  .inr (.inl (false, 52)),
  .inr (.inl (false, 13)),
  .inr (.inl (false, 169)),
  .inr (.inl (false, 30)),
  .inr (.inl (false, 30)),
  .inr (.inl (false, 60)),
  .inr (.inl (true, 30)),
  .inr (.inl (false, 16)),
  .inr (.inl (true, 6)),
  .inr (.inl (false, 24)),
  .inr (.inl (false, 7)),
  .inr (.inl (false, 4)),
  .inr (.inl (false, 576)),
  .inr (.inl (false, 15)),
  .inr (.inl (false, 15)),
  .inr (.inl (false, 16))]
def us (a : Int32) (k : Nat) : Int32 := (a.toUInt32 >>> ((nI k).toUInt32 &&& Int32.toUInt32 31)).toInt32
def bcI (x : Int32) : Int32 :=
  let a := x - (us x 1 &&& 1431655765)
  let b := (a &&& 858993459) + (us a 2 &&& 858993459)
  let c := (b + us b 4) &&& 252645135
  let d := c + us c 8
  let e := d + us d 16
  e &&& nI 63
def q_J6_bitCount : x_K := (1, fun as S M => ∃ (x : Int32), as = [.inl x], fun as S M rv_ S' M' => ∀ (x : Int32), as = [.inl x] → S' = S ∧ M' = M ∧ rv_ = some (.inl (bcI x)), 0, 0)
def b_J6_bitCount : x_B := [(0, 1, [(.iload_n 0, 1), (.iload_n 0, 1), (.iconst 1, 1), (.iushr, 1), (.ldc_w 265, 3), (.iand, 1), (.isub, 1), (.istore_n 0, 1), (.iload_n 0, 1), (.ldc_w 266, 3), (.iand, 1), (.iload_n 0, 1), (.iconst 2, 1), (.iushr, 1), (.ldc_w 266, 3), (.iand, 1), (.iadd, 1), (.istore_n 0, 1), (.iload_n 0, 1), (.iload_n 0, 1), (.iconst 4, 1), (.iushr, 1), (.iadd, 1), (.ldc_w 267, 3), (.iand, 1), (.istore_n 0, 1), (.iload_n 0, 1), (.iload_n 0, 1), (.bipush 8, 2), (.iushr, 1), (.iadd, 1), (.istore_n 0, 1), (.iload_n 0, 1), (.iload_n 0, 1), (.bipush 16, 2), (.iushr, 1), (.iadd, 1), (.istore_n 0, 1), (.iload_n 0, 1), (.bipush 63, 2), (.iand, 1), (.ireturn, 1)])]
theorem b_J6_bitCount_ok : x_okB cJ6_bitCount_0f7a4 1 b_J6_bitCount = true := by decide +kernel
def X_J6_bitCount : x_X := ([], [], [(265, 1431655765), (266, 858993459), (267, 252645135)], [], [], (0, 0), x_kn, x_kf, 5, false)
theorem X_J6_bitCount_ok : x_okT RJ6 X_J6_bitCount = true := by decide +kernel
theorem k_J6_bitCount (l : Launch) : ∀ z ∈ X_J6_bitCount.2.2.2.2.1, x_Cal l (x_rm 1 0 0) cJ6_bitCount_0f7a4 RJ6 1 z.1 z.2 := fun _ h => absurd h List.not_mem_nil
set_option maxHeartbeats 4000000 in
set_option maxRecDepth 100000 in
theorem c_J6_bitCount (l : Launch) : x_CT l yJ6_bitCount_0f7a4 cJ6_bitCount_0f7a4 1 (some .int) 1 q_J6_bitCount := by
  refine x_meth (X := X_J6_bitCount) (bl := b_J6_bitCount) (cut := []) (own := RJ6) 30 (by decide) rfl X_J6_bitCount_ok b_J6_bitCount_ok rfl (by decide) (k_J6_bitCount l) ?_
  rintro as S M - ⟨x, rfl⟩
  refine ⟨fun _ _ _ _ _ _ _ _ => False, ?_, ?_⟩
  · skip
    refine xt_blk rfl rfl (by dsimp only [List.take]) ?_
    refine xt_iln0 rfl ?_
    refine xt_iln0 rfl ?_
    refine xt_ic ?_
    refine xt_usr ?_
    refine xt_ldw (v := 1431655765) rfl ?_
    refine xt_and ?_
    refine xt_sub ?_
    refine xt_isn0 rfl (by dsimp only [x_sto]) ?_
    refine xt_iln0 rfl ?_
    refine xt_ldw (v := 858993459) rfl ?_
    refine xt_and ?_
    refine xt_iln0 rfl ?_
    refine xt_ic ?_
    refine xt_usr ?_
    refine xt_ldw (v := 858993459) rfl ?_
    refine xt_and ?_
    refine xt_add ?_
    refine xt_isn0 rfl (by dsimp only [x_sto]) ?_
    refine xt_iln0 rfl ?_
    refine xt_iln0 rfl ?_
    refine xt_ic ?_
    refine xt_usr ?_
    refine xt_add ?_
    refine xt_ldw (v := 252645135) rfl ?_
    refine xt_and ?_
    refine xt_isn0 rfl (by dsimp only [x_sto]) ?_
    refine xt_iln0 rfl ?_
    refine xt_iln0 rfl ?_
    refine xt_bi ?_
    refine xt_usr ?_
    refine xt_add ?_
    refine xt_isn0 rfl (by dsimp only [x_sto]) ?_
    refine xt_iln0 rfl ?_
    refine xt_iln0 rfl ?_
    refine xt_bi ?_
    refine xt_usr ?_
    refine xt_add ?_
    refine xt_isn0 rfl (by dsimp only [x_sto]) ?_
    refine xt_iln0 rfl ?_
    refine xt_bi ?_
    refine xt_and ?_
    refine xt_ri rfl (Nat.le_refl _) ?_
    intro x2 e2
    simp only [List.cons.injEq, Sum.inl.injEq, and_true] at e2
    have e2x := e2
    subst e2x
    exact ⟨rfl, rfl, rfl⟩
  · intro μ pc ls st S2 M2 cs sl h; exact h.elim
theorem bc_all : ∀ a, a < 128 → ∀ b, b < 64 → bcI (nI (a * 64 + b)) = nI (pcn (a * 64 + b) 13) := by decide +kernel
theorem bc_ok {n : Nat} (h : n < 8192) : bcI (nI n) = nI (pcn n 13) := by
  have := bc_all (n / 64) (by omega) (n % 64) (by omega)
  rw [show n / 64 * 64 + n % 64 = n by omega] at this
  exact this
/-- the set of pair p -/
def pf (f : Nat → Nat) (p : Nat) : Nat := f (fsT p * 6 + scT p)
def q_X3_pairToSplit : x_K := (1, fun as S M => ∃ (k : Nat) (f : Nat → Nat), k < 1000 ∧ S[k]? = some (.inr (.inl (false, 36))) ∧ (∀ j, j < 36 → f j < 8192 ∧ M k j = nI (f j)) ∧ as = [.inr (.inl k)], fun as S M rv_ S' M' => ∀ (k : Nat) (f : Nat → Nat), (∀ j, j < 36 → f j < 8192 ∧ M k j = nI (f j)) → as = [.inr (.inl k)] → S' = S ∧ M' = M ∧ ((∃ p, p < 15 ∧ ¬ pln (pf f p) ∧ rv_ = some (.inl (nI p))) ∨ ((∀ p, p < 15 → pln (pf f p)) ∧ rv_ = some (.inl (-(nI 1))))), 0, 0)
def b_X3_pairToSplit : x_B := [(0, 1, [(.iconst (-1), 1), (.istore_n 1, 1), (.bipush 14, 2), (.istore_n 2, 1), (.iconst 0, 1), (.istore_n 3, 1)]),
  (7, 4, [(.iload_n 3, 1), (.bipush 15, 2), (.if_icmp .ge 51, 3), (.aload_n 0, 1), (.iload_n 3, 1), (.invokestatic 44, 3), (.bipush 6, 2), (.imul, 1), (.iload_n 3, 1), (.invokestatic 48, 3), (.iadd, 1), (.iaload, 1), (.istore 4, 2), (.iload 4, 2), (.invokestatic 51, 3), (.istore 5, 2), (.iload 5, 2), (.iload_n 2, 1), (.if_icmp .ge 16, 3), (.iload 4, 2), (.invokestatic 56, 3), (.ifCond .ne 8, 3), (.iload_n 3, 1), (.istore_n 1, 1), (.iload 5, 2), (.istore_n 2, 1)]),
  (55, 6, [(.iinc 3 1, 3), (.goto (-51), 3)]),
  (61, 4, [(.iload_n 1, 1), (.ireturn, 1)])]
theorem b_X3_pairToSplit_ok : x_okB cX3_pairToSplit 6 b_X3_pairToSplit = true := by decide +kernel
def X_X3_pairToSplit : x_X := ([], [], [], [], [(132, q_X1_firstOf), (144, q_X1_secondOf), (153, q_J6_bitCount), (168, q_X2_isPlain)], (0, 0), x_kn, x_kf, 5, false)
theorem X_X3_pairToSplit_ok : x_okT RX3 X_X3_pairToSplit = true := by decide +kernel
theorem k_X3_pairToSplit (l : Launch) : ∀ z ∈ X_X3_pairToSplit.2.2.2.2.1, x_Cal l (x_rm 3 0 0) cX3_pairToSplit RX3 6 z.1 z.2 := List.forall_mem_cons.mpr ⟨x_cal_S (idx := 44) (c_X1_firstOf l) ⟨by decide, by decide⟩ (by decide +kernel) (by decide +kernel) (by decide +kernel) (by decide +kernel) (by decide +kernel), List.forall_mem_cons.mpr ⟨x_cal_S (idx := 48) (c_X1_secondOf l) ⟨by decide, by decide⟩ (by decide +kernel) (by decide +kernel) (by decide +kernel) (by decide +kernel) (by decide +kernel), List.forall_mem_cons.mpr ⟨x_cal_S (idx := 51) (c_J6_bitCount l) ⟨by decide, by decide⟩ (by decide +kernel) (by decide +kernel) (by decide +kernel) (by decide +kernel) (by decide +kernel), List.forall_mem_cons.mpr ⟨x_cal_S (idx := 56) (c_X2_isPlain l) ⟨by decide, by decide⟩ (by decide +kernel) (by decide +kernel) (by decide +kernel) (by decide +kernel) (by decide +kernel), fun _ h => absurd h List.not_mem_nil⟩⟩⟩⟩
set_option maxHeartbeats 4000000 in
set_option maxRecDepth 100000 in
theorem c_X3_pairToSplit (l : Launch) : x_CT l yX3_pairToSplit cX3_pairToSplit 6 (some .int) 3 q_X3_pairToSplit := by
  refine x_meth (X := X_X3_pairToSplit) (bl := b_X3_pairToSplit) (cut := [7]) (own := RX3) 30 (by decide) rfl X_X3_pairToSplit_ok b_X3_pairToSplit_ok rfl (by decide) (k_X3_pairToSplit l) ?_
  rintro as S M - ⟨k, f, hk, hsh, hf, rfl⟩
  refine ⟨fun μ pc ls st S' M' cs sl => ∃ p best fw, p ≤ 15 ∧ fw ≤ 14 ∧ ((best = -(nI 1) ∧ fw = 14 ∧ ∀ q, q < p → pln (pf f q)) ∨ (∃ b, b < 15 ∧ ¬ pln (pf f b) ∧ best = nI b)) ∧ pc = 7 ∧ st = [] ∧ S' = S ∧ M' = M ∧ cs = 0 ∧ sl = 0 ∧ ls = [.inr (.inl k), .inl best, .inl (nI fw), .inl (nI p)] ∧ μ = 15 - p, ?_, ?_⟩
  · skip
    refine xt_blk rfl rfl (by dsimp only [List.take]) ?_
    refine xt_icm rfl ?_
    refine xt_isn1 rfl (by dsimp only [x_sto]) ?_
    refine xt_bi ?_
    refine xt_isn2 rfl (by dsimp only [x_sto]) ?_
    refine xt_ic ?_
    refine xt_isn3 rfl (by dsimp only [x_sto]) ?_
    refine xt_nil (t := 7) rfl ?_
    refine xt_cut rfl rfl (by dsimp only [List.take]) ?_
    exact ⟨15, 0, -(nI 1), 14, by omega, by omega, Or.inl ⟨rfl, rfl, fun q hq => by omega⟩, rfl, rfl, rfl, rfl, rfl, rfl, rfl, rfl⟩
  · rintro μ pc ls st S2 M2 cs sl (⟨p, best, fw, hp, hfw, hbest, rfl, rfl, rfl, rfl, rfl, rfl, rfl, rfl⟩)
    · refine ⟨_, rfl, ?_⟩
      refine xt_iln3 rfl ?_
      refine xt_bi ?_
      refine xt_cge (t := 61) rfl (fun hc_10 => ?_) (fun hc_10 => ?_)
      · skip
        refine xt_blk rfl rfl (by dsimp only [List.take]) ?_
        refine xt_iln1 rfl ?_
        refine xt_ri rfl (Nat.le_refl _) ?_
        have h15 : p = 15 := by rw [nI_leI (by omega) (by omega)] at hc_10; omega
        subst h15
        intro k2 f2 hf2 e2
        simp only [List.cons.injEq, Sum.inr.injEq, Sum.inl.injEq, and_true] at e2
        subst e2
        have ef : ∀ q, q < 15 → pf f q = pf f2 q := fun q hq => by
          obtain ⟨f1, f2', f3, f4⟩ := fs_ok q hq
          have hj : fsT q * 6 + scT q < 36 := by omega
          have h1 := (hf _ hj).2
          rw [(hf2 _ hj).2] at h1
          exact ((nI_eq (by have := (hf2 _ hj).1; omega) (by have := (hf _ hj).1; omega)).mp h1).symm
        refine ⟨rfl, rfl, ?_⟩
        rcases hbest with ⟨h1, -, h2⟩ | ⟨b, hb1, hb2, hb3⟩
        · exact Or.inr ⟨fun q hq => by rw [← ef q hq]; exact h2 q hq, by rw [h1]⟩
        · exact Or.inl ⟨b, hb1, by rw [← ef b hb1]; exact hb2, by rw [hb3]⟩
      · skip
        refine xt_aln0 rfl (by first | decide | omega | assumption) ?_
        refine xt_iln3 rfl ?_
        refine xt_v1 (key := 132) (q := q_X1_firstOf) rfl rfl rfl rfl rfl (by decide) ⟨p, (by rw [nI_leI (by omega) (by omega)] at hc_10; omega), rfl⟩ (fun rv_ S1 M1 hq_15 => ?_)
        obtain ⟨eS_, eM_, rfl⟩ := hq_15 p (by rw [nI_leI (by omega) (by omega)] at hc_10; omega) rfl
        replace eS_ := eS_.symm
        replace eM_ := eM_.symm
        subst eS_ eM_
        dsimp only [Option.toList, List.cons_append, List.nil_append]
        refine xt_bi ?_
        refine xt_mul ?_
        refine xt_iln3 rfl ?_
        refine xt_v1 (key := 144) (q := q_X1_secondOf) rfl rfl rfl rfl rfl (by decide) ⟨p, (by rw [nI_leI (by omega) (by omega)] at hc_10; omega), rfl⟩ (fun rv_ S1 M1 hq_22 => ?_)
        obtain ⟨eS_, eM_, rfl⟩ := hq_22 p (by rw [nI_leI (by omega) (by omega)] at hc_10; omega) rfl
        replace eS_ := eS_.symm
        replace eM_ := eM_.symm
        subst eS_ eM_
        dsimp only [Option.toList, List.cons_append, List.nil_append]
        refine xt_add ?_
        refine xt_ial (by first | rfl | assumption) (by
              have hp15 : p < 15 := by rw [nI_leI (by omega) (by omega)] at hc_10; omega
              obtain ⟨f1, f2', f3, f4⟩ := fs_ok p hp15
              exact n_ixi f1 f2') ?_
        refine xt_ist rfl (by dsimp only [x_sto]) ?_
        refine xt_ild rfl ?_
        refine xt_v1 (key := 153) (q := q_J6_bitCount) rfl rfl rfl rfl rfl (by decide) ⟨_, rfl⟩ (fun rv_ S1 M1 hq_31 => ?_)
        have hp15 : p < 15 := (by rw [nI_leI (by omega) (by omega)] at hc_10; omega)
        obtain ⟨f1, f2', f3, f4⟩ := fs_ok p hp15
        have eset : M2 k (nI (x_k3.getD p 0) * nI 6 + nI (x_k4.getD p 0)).toNatClampNeg = nI (pf f p) := by
          show M2 k (nI (fsT p) * nI 6 + nI (scT p)).toNatClampNeg = _
          rw [n_ixc f1 f2']
          exact (hf _ (by omega)).2
        have hset : pf f p < 8192 := (hf _ (by omega)).1
        obtain ⟨eS_, eM_, rfl⟩ := hq_31 _ rfl
        replace eS_ := eS_.symm
        replace eM_ := eM_.symm
        subst eS_ eM_
        rw [eset, bc_ok hset]
        dsimp only [Option.toList, List.cons_append, List.nil_append]
        refine xt_ist rfl (by dsimp only [x_sto]) ?_
        refine xt_ild rfl ?_
        refine xt_iln2 rfl ?_
        refine xt_cge (t := 55) rfl (fun hc_39 => ?_) (fun hc_39 => ?_)
        · skip
          refine xt_blk rfl rfl (by dsimp only [List.take]) ?_
          refine xt_inc rfl (by dsimp only [x_sto]) ?_
          refine xt_goto (t := 7) rfl ?_
          refine xt_cut rfl rfl (by dsimp only [List.take]) ?_
          have hlt : p < 15 := by rw [nI_leI (by omega) (by omega)] at hc_10; omega
          have hge : fw ≤ pcn (pf f p) 13 := by rw [nI_leI (by have := pcn_13 (pf f p) 13; omega) (by have := pcn_13 (pf f p) 13; omega)] at hc_39; exact hc_39
          rcases hbest with ⟨-, h14, -⟩ | ⟨b, hb1, hb2, hb3⟩
          · have := pcn_13 (pf f p) 13; omega
          · exact ⟨15 - (p + 1), by omega, p + 1, best, fw, by omega, by omega, Or.inr ⟨b, by omega, hb2, hb3⟩, rfl, rfl, rfl, rfl, rfl, rfl, by rw [nI_add], rfl⟩
        · skip
          refine xt_ild rfl ?_
          refine xt_v1 (key := 168) (q := q_X2_isPlain) rfl rfl rfl rfl rfl (by decide) ⟨pf f p, hset, rfl⟩ (fun rv_ S1 M1 hq_44 => ?_)
          obtain ⟨eS_, eM_, hcs⟩ := hq_44 (pf f p) hset rfl
          replace eS_ := eS_.symm
          replace eM_ := eM_.symm
          subst eS_ eM_
          have hex : ∃ v, rv_ = some (.inl v) := by rcases hcs with ⟨-, e⟩ | ⟨-, e⟩ <;> exact ⟨_, e⟩
          obtain ⟨v, rfl⟩ := hex
          dsimp only [Option.toList, List.cons_append, List.nil_append]
          refine xt_ne (t := 55) rfl (fun hc_47 => ?_) (fun hc_47 => ?_)
          · skip
            refine xt_blk rfl rfl (by dsimp only [List.take]) ?_
            refine xt_inc rfl (by dsimp only [x_sto]) ?_
            refine xt_goto (t := 7) rfl ?_
            refine xt_cut rfl rfl (by dsimp only [List.take]) ?_
            have hlt : p < 15 := by rw [nI_leI (by omega) (by omega)] at hc_10; omega
            have hpl : pln (pf f p) := by
              rcases hcs with ⟨q, -⟩ | ⟨-, e⟩
              · exact q
              · cases e; exact absurd rfl hc_47
            refine ⟨15 - (p + 1), by omega, p + 1, best, fw, by omega, by omega, ?_, rfl, rfl, rfl, rfl, rfl, rfl, by rw [nI_add], rfl⟩
            rcases hbest with ⟨h1, h14, h2⟩ | ⟨b, hb1, hb2, hb3⟩
            · refine Or.inl ⟨h1, h14, fun q hq => ?_⟩
              by_cases e : q = p
              · rw [e]; exact hpl
              · exact h2 q (by omega)
            · exact Or.inr ⟨b, by omega, hb2, hb3⟩
          · skip
            refine xt_iln3 rfl ?_
            refine xt_isn1 rfl (by dsimp only [x_sto]) ?_
            refine xt_ild rfl ?_
            refine xt_isn2 rfl (by dsimp only [x_sto]) ?_
            refine xt_nil (t := 55) rfl ?_
            refine xt_blk rfl rfl (by dsimp only [List.take]) ?_
            refine xt_inc rfl (by dsimp only [x_sto]) ?_
            refine xt_goto (t := 7) rfl ?_
            refine xt_cut rfl rfl (by dsimp only [List.take]) ?_
            have hlt : p < 15 := by rw [nI_leI (by omega) (by omega)] at hc_10; omega
            have hpl : ¬ pln (pf f p) := by
              rcases hcs with ⟨-, e⟩ | ⟨q, -⟩
              · cases e; exact absurd hc_47 (by decide)
              · exact q
            have := pcn_13 (pf f p) 13
            exact ⟨15 - (p + 1), by omega, p + 1, nI p, pcn (pf f p) 13, by omega, by omega, Or.inr ⟨p, by omega, hpl, rfl⟩, rfl, rfl, rfl, rfl, rfl, rfl, by rw [nI_add], rfl⟩
end
section
/-! SEARCH: settles -/
def isS (n : Nat) : Bool := (List.range 13).any fun r => n == 2 ^ r
theorem isS_ok {n : Nat} : isS n = true ↔ ∃ r, r < 13 ∧ n = 2 ^ r := by
  unfold isS
  simp [List.any_eq_true]
def scn (f : Nat → Nat) : Nat := sm (fun p => if isS (pf f p) then 1 else 0) 15
theorem pln_1 : ∀ r, r < 13 → ∀ i, i < 13 → (bi (msT (2 ^ r)) i = 1 → ¬ (sgT i &&& fo sgT (2 ^ r) 13 = sgT i)) := by decide +kernel
theorem pln_S {n : Nat} (h : isS n = true) : pln n := by
  obtain ⟨r, hr, rfl⟩ := isS_ok.mp h
  exact fun i hi => pln_1 r hr i hi
theorem scn_lt {f : Nat → Nat} {p : Nat} (hp : p < 15) (h : ¬ pln (pf f p)) : scn f ≤ 14 := by
  have h1 : isS (pf f p) = false := by
    cases q : isS (pf f p)
    · rfl
    · exact absurd (pln_S q) h
  have := sm_lt (F := fun _ => 1) (F' := fun p => if isS (pf f p) then 1 else 0) p 15 (fun j _ => by split <;> omega) hp (by rw [h1]; decide)
  have e : sm (fun _ => 1) 15 = 15 := by decide
  unfold scn
  omega
theorem sb_pow {n r : Nat} (h : sb n (2 ^ r)) (h0 : n ≠ 0) : n = 2 ^ r := by
  apply sb_as h
  refine sb_tb.mpr (fun i hi => ?_)
  rw [Nat.testBit_two_pow] at hi
  have hi : r = i := by simpa using hi
  subst hi
  obtain ⟨b, hb⟩ := Nat.exists_testBit_of_ne_zero h0
  have h2 := sb_tb.mp h b hb
  rw [Nat.testBit_two_pow] at h2
  have h2 : r = b := by simpa using h2
  rw [h2]; exact hb
theorem scn_up {f g : Nat → Nat} {p r : Nat} (hp : p < 15) (hr : r < 13) (hpl : ¬ pln (pf f p)) (hS : Sy f) (hb : (pf f p).testBit r = true) (hle : Le g (nw f (fsT p) (scT p) (2 ^ r))) (hN : NE g 0) : scn f + 1 ≤ scn g := by
  obtain ⟨f1, f2, f3, f4⟩ := fs_ok p hp
  have hv : sb (2 ^ r) (f (fsT p * 6 + scT p)) := sb_tb.mpr (fun i hi => by
    rw [Nat.testBit_two_pow] at hi
    have hi : r = i := by simpa using hi
    rw [← hi]; exact hb)
  have h1 : isS (pf f p) = false := by
    cases q : isS (pf f p)
    · rfl
    · exact absurd (pln_S q) hpl
  have hgp : isS (pf g p) = true := by
    refine isS_ok.mpr ⟨r, hr, sb_pow ?_ (hN _ _ f1 f2 f3 (Nat.zero_testBit _))⟩
    have := hle _ _ f1 f2 f3
    rw [nw_ab f _ f1 f2 f3] at this
    exact this
  refine sm_lt p 15 (fun j hj => ?_) hp (by rw [h1, hgp]; decide)
  by_cases q : isS (pf f j) = true
  · obtain ⟨g1, g2, g3, g4⟩ := fs_ok j hj
    obtain ⟨t, ht, e⟩ := isS_ok.mp q
    have hg : isS (pf g j) = true := isS_ok.mpr ⟨t, ht, sb_pow (by rw [← e]; exact Le_tr hle (nw_Le hS f1 f2 f3 hv) _ _ g1 g2 g3) (hN _ _ g1 g2 g3 (Nat.zero_testBit _))⟩
    rw [if_pos hg]
    split <;> omega
  · rw [if_neg q]; omega
theorem Sat_fix {f : Nat → Nat} (hS : Sy f) (hB : Bd f) {a b : Nat} (ha : a < 6) (hb : b < 6) (hab : a ≠ b) : Sat f ↔ ∃ r, r < 13 ∧ (f (a * 6 + b)).testBit r = true ∧ Sat (nw f a b (2 ^ r)) := by
  constructor
  · rintro ⟨Q, h1, h2⟩
    refine ⟨rP Q a b, rN_lt _ _ _ _, h2 a b ha hb hab, Q, h1, ?_⟩
    intro x y hx hy hxy
    by_cases q1 : x = a ∧ y = b
    · obtain ⟨rfl, rfl⟩ := q1
      rw [nw_ab f _ ha hb hab]; exact Nat.testBit_two_pow_self
    · by_cases q2 : x = b ∧ y = a
      · obtain ⟨rfl, rfl⟩ := q2
        rw [nw_ba, tn_pow _ (show rP Q y x < 13 from rN_lt _ _ _ _)]
        have : rP Q x y = 12 - rP Q y x := rN_turn (h1 y hy) (h1 x hx)
        rw [this]; exact Nat.testBit_two_pow_self
      · rw [nw_ne f _ ha hb hx hy q1 q2]; exact h2 x y hx hy hxy
  · rintro ⟨r, hr, hbit, Q, h1, h2⟩
    refine ⟨Q, h1, ?_⟩
    have hv : sb (2 ^ r) (f (a * 6 + b)) := sb_tb.mpr (fun i hi => by
      rw [Nat.testBit_two_pow] at hi
      have hi : r = i := by simpa using hi
      rw [← hi]; exact hbit)
    exact Hol_Le.mpr (Le_tr (Hol_Le.mp h2) (nw_Le hS ha hb hab hv))
theorem fix_IV {f : Nat → Nat} (hS : Sy f) (hB : Bd f) (hC : Clo f) (hN : NE f 0) {a b r : Nat} (ha : a < 6) (hb : b < 6) (hab : a ≠ b) (hr : r < 13) (hbit : (f (a * 6 + b)).testBit r = true) :
    Bd (nw f a b (2 ^ r)) ∧ Sy (nw f a b (2 ^ r)) ∧ IV (nw f a b (2 ^ r)) (2 ^ pr a b) ∧ NE (nw f a b (2 ^ r)) (2 ^ pr a b) ∧ Le (nw f a b (2 ^ r)) f := by
  have hv : sb (2 ^ r) (f (a * 6 + b)) := sb_tb.mpr (fun i hi => by
    rw [Nat.testBit_two_pow] at hi
    have hi : r = i := by simpa using hi
    rw [← hi]; exact hbit)
  have hlt : 2 ^ r < 8192 := Nat.pow_lt_pow_right (by decide) hr
  refine ⟨nw_Bd hB hlt, nw_Sy hS ha hb hab hlt, fun x y z hd p1 p2 => ?_, fun x y hx hy hxy p => ?_, nw_Le hS ha hb hab hv⟩
  · rw [Nat.testBit_two_pow] at p1 p2
    have p1 : ¬ pr a b = pr x y := by simpa using p1
    have p2 : ¬ pr a b = pr y z := by simpa using p2
    exact nw_Tri hS ha hb hab hv hd (Ne.symm p1) (Ne.symm p2) (hC x y z hd)
  · by_cases q1 : x = a ∧ y = b
    · obtain ⟨rfl, rfl⟩ := q1
      rw [nw_ab f _ ha hb hab]; exact Nat.ne_of_gt (Nat.two_pow_pos _)
    · by_cases q2 : x = b ∧ y = a
      · obtain ⟨rfl, rfl⟩ := q2
        rw [nw_ba]; exact tn_ne0 hlt (Nat.ne_of_gt (Nat.two_pow_pos _))
      · rw [nw_ne f _ ha hb hx hy q1 q2]; exact hN x y hx hy hxy (Nat.zero_testBit _)
theorem SHl (d : Nat) (hd : d < 16) : SH[10 + d]? = some (.inr (.inl (false, 36))) := by
  match d, hd with
  | 0, _ => rfl
  | 1, _ => rfl
  | 2, _ => rfl
  | 3, _ => rfl
  | 4, _ => rfl
  | 5, _ => rfl
  | 6, _ => rfl
  | 7, _ => rfl
  | 8, _ => rfl
  | 9, _ => rfl
  | 10, _ => rfl
  | 11, _ => rfl
  | 12, _ => rfl
  | 13, _ => rfl
  | 14, _ => rfl
  | 15, _ => rfl
  | n + 16, h => omega
theorem lvl : ∀ d, d < 16 → ([10, 11, 12, 13, 14, 15, 16, 17, 18, 19, 20, 21, 22, 23, 24, 25] : List Nat).getD d 0 = 10 + d := by decide
def qF : x_K := (2, fun _ _ _ => False, fun _ _ _ _ _ _ => True, 0, 0)
theorem x_cal_F {l : Launch} {R : Room} {cc : ByteArray} {own : String} {nL key : Nat} : x_Cal l R cc own nL key qF := by
  intro p e s m args below meth c G X E Q i pc as rest S M cs sl H locs lsA hi hdg hlen hrest hpre
  exact hpre.elim
/-- a net at a place -/
def At (M : x_M) (k : Nat) (f : Nat → Nat) : Prop := ∀ j, j < 36 → f j < 8192 ∧ M k j = nI (f j)
def q_X3_settles (n : Nat) : x_K := (2, fun as S M => ∃ (d : Nat) (f : Nat → Nat), d + n = 15 ∧ S = SH ∧ At M (10 + d) f ∧ Sy f ∧ Clo f ∧ NE f 0 ∧ d ≤ scn f ∧ as = [.inr (.inl 9), .inl (nI d)],
  fun as S M rv_ S' M' => ∀ (d : Nat) (f : Nat → Nat), d ≤ 15 → At M (10 + d) f → as = [.inr (.inl 9), .inl (nI d)] → S' = S ∧ (∀ k, k ≤ 10 + d ∨ 25 < k → M' k = M k) ∧ ((rv_ = some (.inl (nI 1)) ∧ Sat f) ∨ (rv_ = some (.inl (nI 0)) ∧ ¬ Sat f)), 0, 0)
def b_X3_settles : x_B := [(0, 2, [(.aload_n 0, 1), (.iload_n 1, 1), (.aaload, 1), (.astore_n 2, 1), (.aload_n 2, 1), (.invokestatic 40, 3), (.istore_n 3, 1), (.iload_n 3, 1), (.ifCond .ge 5, 3), (.iconst 1, 1), (.ireturn, 1)]),
  (15, 4, [(.iload_n 1, 1), (.bipush 15, 2), (.if_icmp .lt 5, 3), (.iconst 0, 1), (.ireturn, 1)]),
  (23, 4, [(.iload_n 3, 1), (.invokestatic 44, 3), (.istore 4, 2), (.iload_n 3, 1), (.invokestatic 48, 3), (.istore 5, 2), (.aload_n 2, 1), (.iload 4, 2), (.bipush 6, 2), (.imul, 1), (.iload 5, 2), (.iadd, 1), (.iaload, 1), (.istore 6, 2), (.aload_n 0, 1), (.iload_n 1, 1), (.iconst 1, 1), (.iadd, 1), (.aaload, 1), (.astore 7, 2), (.iconst 0, 1), (.istore 8, 2)]),
  (57, 9, [(.iload 8, 2), (.bipush 13, 2), (.if_icmp .ge 65, 3), (.iload 6, 2), (.iload 8, 2), (.ishr, 1), (.iconst 1, 1), (.iand, 1), (.ifCond .eq 49, 3), (.aload_n 2, 1), (.iconst 0, 1), (.aload 7, 2), (.iconst 0, 1), (.bipush 36, 2), (.invokestatic 18, 3), (.aload 7, 2), (.iload 4, 2), (.iload 5, 2), (.iconst 1, 1), (.iload 8, 2), (.ishl, 1), (.invokestatic 28, 3), (.aload 7, 2), (.iconst 1, 1), (.iload_n 3, 1), (.ishl, 1), (.invokestatic 36, 3), (.ifCond .eq 15, 3), (.aload_n 0, 1), (.iload_n 1, 1), (.iconst 1, 1), (.iadd, 1), (.invokestatic 24, 3), (.ifCond .eq 5, 3), (.iconst 1, 1), (.ireturn, 1)]),
  (120, 9, [(.iinc 8 1, 3), (.goto (-66), 3)]),
  (126, 9, [(.iconst 0, 1), (.ireturn, 1)])]
theorem b_X3_settles_ok : x_okB cX3_settles 9 b_X3_settles = true := by decide +kernel
def X_X3_settles (qq : x_K) : x_X := ([], [], [], [], [(120, q_X3_pairToSplit), (132, q_X1_firstOf), (144, q_X1_secondOf), (54, x_qC), (84, q_X1_put), (108, q_X1_close), (72, qq)], (0, 0), x_kn, x_kf, 5, false)
theorem X_X3_settles_ok (qq : x_K) : x_okT RX3 (X_X3_settles qq) = true := rfl
theorem k_X3_settles (l : Launch) (n : Nat) (qq : x_K) (hq : x_Cal l (x_rm (4 + n) 0 0) cX3_settles RX3 9 72 qq) : ∀ z ∈ (X_X3_settles qq).2.2.2.2.1, x_Cal l (x_rm (4 + n) 0 0) cX3_settles RX3 9 z.1 z.2 := List.forall_mem_cons.mpr ⟨x_cal_S (idx := 40) (c_X3_pairToSplit l) ⟨by simp only [x_rm]; omega, by simp only [x_rm]; omega⟩ (by decide +kernel) (by decide +kernel) (by decide +kernel) (by decide +kernel) (by decide +kernel), List.forall_mem_cons.mpr ⟨x_cal_S (idx := 44) (c_X1_firstOf l) ⟨by simp only [x_rm]; omega, by simp only [x_rm]; omega⟩ (by decide +kernel) (by decide +kernel) (by decide +kernel) (by decide +kernel) (by decide +kernel), List.forall_mem_cons.mpr ⟨x_cal_S (idx := 48) (c_X1_secondOf l) ⟨by simp only [x_rm]; omega, by simp only [x_rm]; omega⟩ (by decide +kernel) (by decide +kernel) (by decide +kernel) (by decide +kernel) (by decide +kernel), List.forall_mem_cons.mpr ⟨x_cal_C (idx := 18) ⟨by simp only [x_rm]; omega, by simp only [x_rm]; omega⟩ (by decide +kernel) (by decide +kernel) (by decide +kernel) (by decide +kernel), List.forall_mem_cons.mpr ⟨x_cal_S (idx := 28) (c_X1_put l) ⟨by simp only [x_rm]; omega, by simp only [x_rm]; omega⟩ (by decide +kernel) (by decide +kernel) (by decide +kernel) (by decide +kernel) (by decide +kernel), List.forall_mem_cons.mpr ⟨x_cal_S (idx := 36) (c_X1_close l) ⟨by simp only [x_rm]; omega, by simp only [x_rm]; omega⟩ (by decide +kernel) (by decide +kernel) (by decide +kernel) (by decide +kernel) (by decide +kernel), List.forall_mem_cons.mpr ⟨hq, fun _ h => absurd h List.not_mem_nil⟩⟩⟩⟩⟩⟩⟩
theorem pr_fs0 : ∀ a, a < 6 → ∀ b, b < 6 → (a < b → fsT (pr a b) = a ∧ scT (pr a b) = b) := by decide
theorem pr_fs (a b : Nat) (h : a < b) (hb : b < 6) : fsT (pr a b) = a ∧ scT (pr a b) = b := pr_fs0 a (by omega) b hb h
set_option maxHeartbeats 4000000 in
set_option maxRecDepth 100000 in
theorem c_settles1 (l : Launch) (n : Nat) (qq : x_K) (hq : x_Cal l (x_rm (4 + n) 0 0) cX3_settles RX3 9 72 qq) (hqq : n = 0 ∨ ∃ m, n = m + 1 ∧ qq = q_X3_settles m) : x_CT l yX3_settles cX3_settles 9 (some .boolean) (4 + n) (q_X3_settles n) := by
  refine x_meth (X := X_X3_settles qq) (bl := b_X3_settles) (cut := [57]) (own := RX3) 30 (by decide) rfl (X_X3_settles_ok qq) b_X3_settles_ok rfl (Nat.le_of_ble_eq_true rfl) (k_X3_settles l n qq hq) ?_
  rintro as S M - ⟨d, f, hdn, rfl, hf, hSy, hC, hN, hsc, rfl⟩
  have hsd := SHl d (by omega)
  refine ⟨fun μ pc ls st S' M' cs sl => ∃ p rel, p < 15 ∧ rel ≤ 13 ∧ d < 15 ∧ ¬ pln (pf f p) ∧ (∀ k, k ≤ 10 + d ∨ 25 < k → M' k = M k) ∧ (∀ r, r < rel → (pf f p).testBit r = true → ¬ Sat (nw f (fsT p) (scT p) (2 ^ r))) ∧ pc = 57 ∧ st = [] ∧ S' = SH ∧ cs = 0 ∧ sl = 0 ∧ ls = [.inr (.inl 9), .inl (nI d), .inr (.inl (10 + d)), .inl (nI p), .inl (nI (fsT p)), .inl (nI (scT p)), .inl (nI (pf f p)), .inr (.inl (10 + (d + 1))), .inl (nI rel)] ∧ μ = 13 - rel, ?_, ?_⟩
  · skip
    refine xt_blk rfl rfl (by dsimp only [List.take]) ?_
    refine xt_aln0 rfl (by first | decide | omega | assumption) ?_
    refine xt_iln1 rfl ?_
    refine xt_ral (r := 10 + d) rfl (show vp_in _ 16 from vp_in_nI (by omega) (by decide)) (by rw [nI_clamp (by omega)]; exact lvl d (by omega)) (by omega) ?_
    refine xt_asn2 rfl (by first | decide | omega | assumption) (by dsimp only [x_sto]) ?_
    refine xt_aln2 rfl (by first | decide | omega | assumption) ?_
    refine xt_v1 (key := 120) (q := q_X3_pairToSplit) rfl rfl rfl rfl rfl ⟨Nat.le_of_ble_eq_true rfl, Nat.le_of_ble_eq_true rfl⟩ ⟨10 + d, f, by omega, hsd, hf, rfl⟩ (fun rv_ S1 M1 hq_5 => ?_)
    obtain ⟨eS_, eM_, hps⟩ := hq_5 (10 + d) f hf rfl
    replace eS_ := eS_.symm
    replace eM_ := eM_.symm
    subst eS_ eM_
    have hex : ∃ v, rv_ = some (.inl v) := by rcases hps with ⟨p, -, -, e⟩ | ⟨-, e⟩ <;> exact ⟨_, e⟩
    obtain ⟨v, rfl⟩ := hex
    try dsimp only [Option.toList, List.cons_append, List.nil_append]
    refine xt_isn3 rfl (by dsimp only [x_sto]) ?_
    refine xt_iln3 rfl ?_
    refine xt_ge (t := 15) rfl (fun hc_10 => ?_) (fun hc_10 => ?_)
    · skip
      refine xt_blk rfl rfl (by dsimp only [List.take]) ?_
      refine xt_iln1 rfl ?_
      refine xt_bi ?_
      refine xt_clt (t := 23) rfl (fun hc_18 => ?_) (fun hc_18 => ?_)
      · skip
        have hlt : d < 15 := (nI_ltI (by omega) (by omega)).mp hc_18
        have hps2 : ∃ p, p < 15 ∧ ¬ pln (pf f p) ∧ v = nI p := by
          rcases hps with ⟨p, hp, hpl, e⟩ | ⟨hall, e⟩
          · exact ⟨p, hp, hpl, by cases e; rfl⟩
          · cases e; exact absurd hc_10 (by decide)
        refine xt_blk rfl rfl (by dsimp only [List.take]) ?_
        refine xt_iln3 rfl ?_
        refine xt_v1 (key := 132) (q := q_X1_firstOf) rfl rfl rfl rfl rfl ⟨Nat.le_of_ble_eq_true rfl, Nat.le_of_ble_eq_true rfl⟩ (by obtain ⟨p, hp, hpl, rfl⟩ := hps2; exact ⟨p, hp, rfl⟩) (fun rv_ S1 M1 hq_24 => ?_)
        obtain ⟨p, hp, hpl, rfl⟩ := hps2
        obtain ⟨eS_, eM_, rfl⟩ := hq_24 p hp rfl
        replace eS_ := eS_.symm
        replace eM_ := eM_.symm
        subst eS_ eM_
        change x_wp _ _ _ _ _ _ (.inl (nI (fsT p)) :: _) _ _ _ _
        try dsimp only [Option.toList, List.cons_append, List.nil_append]
        refine xt_ist rfl (by dsimp only [x_sto]) ?_
        refine xt_iln3 rfl ?_
        refine xt_v1 (key := 144) (q := q_X1_secondOf) rfl rfl rfl rfl rfl ⟨Nat.le_of_ble_eq_true rfl, Nat.le_of_ble_eq_true rfl⟩ ⟨p, hp, rfl⟩ (fun rv_ S1 M1 hq_30 => ?_)
        obtain ⟨eS_, eM_, rfl⟩ := hq_30 p hp rfl
        replace eS_ := eS_.symm
        replace eM_ := eM_.symm
        subst eS_ eM_
        change x_wp _ _ _ _ _ _ (.inl (nI (scT p)) :: _) _ _ _ _
        obtain ⟨g1, g2, g3, g4⟩ := fs_ok p hp
        have epf : M (10 + d) (nI (fsT p) * nI 6 + nI (scT p)).toNatClampNeg = nI (pf f p) := by rw [n_ixc g1 g2]; exact (hf _ (by omega)).2
        try dsimp only [Option.toList, List.cons_append, List.nil_append]
        refine xt_ist rfl (by dsimp only [x_sto]) ?_
        refine xt_aln2 rfl (by first | decide | omega | assumption) ?_
        refine xt_ild rfl ?_
        refine xt_bi ?_
        refine xt_mul ?_
        refine xt_ild rfl ?_
        refine xt_add ?_
        refine xt_ial (by first | rfl | assumption) (n_ixi g1 g2) ?_
        refine xt_ist rfl (by dsimp only [x_sto]) ?_
        refine xt_aln0 rfl (by first | decide | omega | assumption) ?_
        refine xt_iln1 rfl ?_
        refine xt_ic ?_
        refine xt_add ?_
        refine xt_ral (r := 10 + (d + 1)) rfl (show vp_in _ 16 from by rw [nI_add]; exact vp_in_nI (by omega) (by decide)) (by rw [nI_add, nI_clamp (by omega)]; exact lvl (d + 1) (by omega)) (by omega) ?_
        refine xt_ast rfl (by first | decide | omega | assumption) (by dsimp only [x_sto]) ?_
        refine xt_ic ?_
        refine xt_ist rfl (by dsimp only [x_sto]) ?_
        refine xt_nil (t := 57) rfl ?_
        refine xt_cut rfl rfl (by dsimp only [List.take]) ?_
        exact ⟨13, p, 0, hp, by omega, hlt, hpl, fun _ _ => rfl, fun r hr => by omega, rfl, rfl, rfl, rfl, rfl, by rw [epf], rfl⟩
      · skip
        refine xt_ic ?_
        refine xt_rz (by decide) rfl (Nat.le_refl _) ?_
        exfalso
        have hge := (not_congr (nI_ltI (a := d) (b := 15) (by omega) (by omega))).mp hc_18
        rcases hps with ⟨p, hp, hpl, e⟩ | ⟨hall, e⟩
        · have := scn_lt hp hpl; omega
        · cases e
          exact absurd hc_10 (by decide)
    · skip
      refine xt_ic ?_
      refine xt_rz (by decide) rfl (Nat.le_refl _) ?_
      intro d2 f2 hd2 hf2 e2
      simp only [List.cons.injEq, Sum.inl.injEq, Sum.inr.injEq, and_true, true_and] at e2
      rw [nI_eq (by omega) (by omega)] at e2
      subst e2
      have ef : ∀ j, j < 36 → f j = f2 j := fun j hj => by
        have h1 := (hf j hj).2
        rw [(hf2 j hj).2] at h1
        exact ((nI_eq (by have := (hf2 j hj).1; omega) (by have := (hf j hj).1; omega)).mp h1).symm
      have es : Sat f ↔ Sat f2 := by
        unfold Sat
        constructor
        · rintro ⟨Q, a1, a2⟩; exact ⟨Q, a1, fun x y hx hy hxy => by rw [← ef _ (by omega)]; exact a2 x y hx hy hxy⟩
        · rintro ⟨Q, a1, a2⟩; exact ⟨Q, a1, fun x y hx hy hxy => by rw [ef _ (by omega)]; exact a2 x y hx hy hxy⟩
      
      rcases hps with ⟨p, hp, hpl, e⟩ | ⟨hall, e⟩
      · cases e
        exact absurd (nI_pos' (by omega)) hc_10
      · refine ⟨rfl, fun _ _ => rfl, Or.inl ⟨rfl, es.mp (plain_sat (fun j hj => (hf j hj).1) hSy hC hN (fun a b hab hb => ?_))⟩⟩
        have hp := pr_lt (show a < 6 by omega) hb (by omega)
        have h1 := hall _ hp
        obtain ⟨g1, g2, g3, g4⟩ := fs_ok _ hp
        have h3 : fsT (pr a b) = a ∧ scT (pr a b) = b := pr_fs a b hab hb
        unfold pf at h1
        rw [h3.1, h3.2] at h1
        exact h1
  · rintro μ pc ls st S2 M2 cs sl (⟨p, rel, hp, hrel, hlt, hpl, hkeep, hno, rfl, rfl, rfl, rfl, rfl, rfl, rfl⟩)
    · refine ⟨_, rfl, ?_⟩
      refine xt_ild rfl ?_
      refine xt_bi ?_
      refine xt_cge (t := 126) rfl (fun hc_61 => ?_) (fun hc_61 => ?_)
      · skip
        refine xt_blk rfl rfl (by dsimp only [List.take]) ?_
        refine xt_ic ?_
        refine xt_rz (by decide) rfl (Nat.le_refl _) ?_
        have hr13 : rel = 13 := by rw [nI_leI (by omega) (by omega)] at hc_61; omega
        subst hr13
        obtain ⟨g1, g2, g3, g4⟩ := fs_ok p hp
        intro d2 f2 hd2 hf2 e2
        simp only [List.cons.injEq, Sum.inl.injEq, Sum.inr.injEq, and_true, true_and] at e2
        rw [nI_eq (by omega) (by omega)] at e2
        subst e2
        have ef : ∀ j, j < 36 → f j = f2 j := fun j hj => by
          have h1 := (hf j hj).2
          rw [(hf2 j hj).2] at h1
          exact ((nI_eq (by have := (hf2 j hj).1; omega) (by have := (hf j hj).1; omega)).mp h1).symm
        have es : Sat f ↔ Sat f2 := by
          unfold Sat
          constructor
          · rintro ⟨Q, a1, a2⟩; exact ⟨Q, a1, fun x y hx hy hxy => by rw [← ef _ (by omega)]; exact a2 x y hx hy hxy⟩
          · rintro ⟨Q, a1, a2⟩; exact ⟨Q, a1, fun x y hx hy hxy => by rw [ef _ (by omega)]; exact a2 x y hx hy hxy⟩
        
        refine ⟨rfl, hkeep, Or.inr ⟨rfl, fun hs => ?_⟩⟩
        obtain ⟨r, hr, hb, hs2⟩ := (Sat_fix hSy (fun j hj => (hf j hj).1) g1 g2 g3).mp (es.mpr hs)
        exact hno r hr hb hs2
      · skip
        refine xt_ild rfl ?_
        refine xt_ild rfl ?_
        refine xt_shr ?_
        refine xt_ic ?_
        refine xt_and ?_
        refine xt_eq (t := 120) rfl (fun hc_71 => ?_) (fun hc_71 => ?_)
        · skip
          refine xt_blk rfl rfl (by dsimp only [List.take]) ?_
          refine xt_inc rfl (by dsimp only [x_sto]) ?_
          refine xt_goto (t := 57) rfl ?_
          refine xt_cut rfl rfl (by dsimp only [List.take]) ?_
          have hr13 : rel < 13 := by rw [nI_leI (by omega) (by omega)] at hc_61; omega
          obtain ⟨g1, g2, g3, g4⟩ := fs_ok p hp
          have hfp : pf f p < 8192 := (hf _ (show fsT p * 6 + scT p < 36 by omega)).1
          rw [n_bit (by omega) (by omega), n_eq0 (by have := bi_lt (pf f p) rel; unfold bi at this; omega)] at hc_71
          refine ⟨13 - (rel + 1), by omega, p, rel + 1, hp, by omega, hlt, hpl, hkeep, fun r hr hb => ?_, rfl, rfl, rfl, rfl, rfl, by rw [nI_add], rfl⟩
          by_cases e : r = rel
          · exfalso
            rw [e, ← bi_tb] at hb
            unfold bi at hb
            omega
          · exact hno r (by omega) hb
        · skip
          have hr13 : rel < 13 := by rw [nI_leI (by omega) (by omega)] at hc_61; omega
          obtain ⟨g1, g2, g3, g4⟩ := fs_ok p hp
          have hfp : pf f p < 8192 := (hf _ (show fsT p * 6 + scT p < 36 by omega)).1
          have hbit : (pf f p).testBit rel = true := by
            rw [n_bit (by omega) (by omega), n_eq0 (by have := bi_lt (pf f p) rel; unfold bi at this; omega)] at hc_71
            rw [← bi_tb]
            have := bi_lt (pf f p) rel
            unfold bi at this ⊢
            omega
          refine xt_aln2 rfl (by first | decide | omega | assumption) ?_
          refine xt_ic ?_
          refine xt_ald rfl (by first | decide | omega | assumption) ?_
          refine xt_ic ?_
          refine xt_bi ?_
          refine xt_v5 (key := 54) (q := x_qC) rfl rfl rfl rfl rfl ⟨Nat.le_of_ble_eq_true rfl, Nat.le_of_ble_eq_true rfl⟩ ⟨10 + d, 10 + (d + 1), rfl, hsd, SHl (d + 1) (by omega)⟩ (fun rv_ S1 M1 hq_81 => ?_)
          obtain ⟨er, eS_, eM_⟩ := hq_81
          replace eS_ := eS_.symm
          subst eS_
          have eM1 := eM_ (10 + d) (10 + (d + 1)) rfl
          subst er
          subst eM1
          try dsimp only [Option.toList, List.cons_append, List.nil_append]
          refine xt_ald rfl (by first | decide | omega | assumption) ?_
          refine xt_ild rfl ?_
          refine xt_ild rfl ?_
          refine xt_ic ?_
          refine xt_ild rfl ?_
          refine xt_shl ?_
          refine xt_v4 (key := 84) (q := q_X1_put) rfl rfl rfl rfl rfl ⟨Nat.le_of_ble_eq_true rfl, Nat.le_of_ble_eq_true rfl⟩ ⟨10 + (d + 1), fsT p, scT p, 2 ^ rel, by omega, g1, g2, Nat.pow_lt_pow_right (by decide) hr13, SHl (d + 1) (by omega), by rw [n_shl (by omega) (by have := Nat.pow_lt_pow_right (show 1 < 2 by decide) hr13; omega), Nat.one_mul]⟩ (fun rv_ S1 M1 hq_94 => ?_)
          obtain ⟨eS_, eM_, rfl⟩ := hq_94 (10 + (d + 1)) (fsT p) (scT p) (2 ^ rel) g1 g2 (Nat.pow_lt_pow_right (by decide) hr13) (by rw [n_shl (by omega) (by have := Nat.pow_lt_pow_right (show 1 < 2 by decide) hr13; omega), Nat.one_mul])
          replace eS_ := eS_.symm
          replace eM_ := eM_.symm
          subst eS_ eM_
          rw [x_row_self, x_row_row]
          have hM10 : M2 (10 + d) = M (10 + d) := hkeep (10 + d) (Or.inl (Nat.le_refl _))
          obtain ⟨w1, w2, w3, w4, w5⟩ := fix_IV hSy (fun j hj => (hf j hj).1) hC hN g1 g2 g3 hr13 hbit
          have hupd := upd_nw (gI := x_cp (M2 (10 + d)) (M2 (10 + (d + 1))) 36) (g := f) (fun j hj => by unfold x_cp; rw [if_pos hj, hM10]; exact (hf j hj).2) (fsT p) (scT p) (2 ^ rel)
          generalize hgI : upd (upd (x_cp (M2 (10 + d)) (M2 (10 + (d + 1))) 36) (fsT p * 6 + scT p) (nI (2 ^ rel))) (scT p * 6 + fsT p) (nI (tn (2 ^ rel))) = gI0 at hupd ⊢
          rw [g4] at w3 w4
          have hat1 : ∀ j, j < 36 → nw f (fsT p) (scT p) (2 ^ rel) j < 8192 ∧ (x_row M2 (10 + (d + 1)) gI0) (10 + (d + 1)) j = nI (nw f (fsT p) (scT p) (2 ^ rel) j) := fun j hj => ⟨w1 j hj, by rw [x_row_self]; exact hupd j hj⟩
          have hpw : 2 ^ p < 2 ^ 15 := Nat.pow_lt_pow_right (by decide) hp
          try dsimp only [Option.toList, List.cons_append, List.nil_append]
          refine xt_ald rfl (by first | decide | omega | assumption) ?_
          refine xt_ic ?_
          refine xt_iln3 rfl ?_
          refine xt_shl ?_
          refine xt_v2 (key := 108) (q := q_X1_close) rfl rfl rfl rfl rfl ⟨Nat.le_of_ble_eq_true rfl, Nat.le_of_ble_eq_true rfl⟩ ⟨10 + (d + 1), 2 ^ p, nw f (fsT p) (scT p) (2 ^ rel), by omega, hpw, SHl (d + 1) (by omega), hat1, w2, w3, w4, by rw [n_shl (by omega) (by omega), Nat.one_mul]⟩ (fun rv_ S1 M1 hq_102 => ?_)
          obtain ⟨eS_, gI, eM_, hcc⟩ := hq_102 (10 + (d + 1)) (2 ^ p) _ hat1 (by rw [n_shl (by omega) (by omega), Nat.one_mul])
          replace eS_ := eS_.symm
          replace eM_ := eM_.symm
          subst eS_ eM_
          rw [x_row_row]
          have hkeep3 : ∀ k, k ≤ 10 + d ∨ 25 < k → (x_row M2 (10 + (d + 1)) gI) k = M k := fun k hk => by rw [x_row_ne _ _ (by omega)]; exact hkeep k hk
          have hex : ∃ v, rv_ = some (.inl v) := by rcases hcc with ⟨e, -⟩ | ⟨e, -⟩ <;> exact ⟨_, e⟩
          obtain ⟨v, rfl⟩ := hex
          try dsimp only [Option.toList, List.cons_append, List.nil_append]
          refine xt_eq (t := 120) rfl (fun hc_105 => ?_) (fun hc_105 => ?_)
          · skip
            refine xt_blk rfl rfl (by dsimp only [List.take]) ?_
            refine xt_inc rfl (by dsimp only [x_sto]) ?_
            refine xt_goto (t := 57) rfl ?_
            refine xt_cut rfl rfl (by dsimp only [List.take]) ?_
            refine ⟨13 - (rel + 1), by omega, p, rel + 1, hp, by omega, hlt, hpl, hkeep3, fun r hr hb => ?_, rfl, rfl, rfl, rfl, rfl, by rw [nI_add], rfl⟩
            by_cases e : r = rel
            · subst e
              rcases hcc with ⟨q, -⟩ | ⟨-, -, hF⟩
              · cases q; exact absurd hc_105 (by decide)
              · exact Sat_fail hF
            · exact hno r (by omega) hb
          · skip
            have hg0 : ∃ g, Bd g ∧ (∀ j, j < 36 → gI j = nI (g j)) ∧ Sy g ∧ Clo g ∧ NE g 0 ∧ Mx (nw f (fsT p) (scT p) (2 ^ rel)) g := by
              rcases hcc with ⟨-, q⟩ | ⟨q, -⟩
              · exact q
              · cases q; exact absurd rfl hc_105
            have hqq2 : ∃ m, n = m + 1 ∧ qq = q_X3_settles m := by
              rcases hqq with q | q
              · omega
              · exact q
            obtain ⟨mm, rfl, rfl⟩ := hqq2
            refine xt_aln0 rfl (by first | decide | omega | assumption) ?_
            refine xt_iln1 rfl ?_
            refine xt_ic ?_
            refine xt_add ?_
            refine xt_v2 (key := 72) (q := q_X3_settles mm) rfl rfl rfl rfl rfl ⟨Nat.le_of_ble_eq_true rfl, Nat.le_of_ble_eq_true rfl⟩ (by
                obtain ⟨g, q1, q2, q3, q4, q5, q6⟩ := hg0
                exact ⟨d + 1, g, by omega, rfl, fun j hj => ⟨q1 j hj, by rw [x_row_self]; exact q2 j hj⟩, q3, q4, q5, by have := scn_up hp hr13 hpl hSy hbit q6.1 q5; omega, by rw [nI_add]⟩) (fun rv_ S1 M1 hq_112 => ?_)
            obtain ⟨g, q1, q2, q3, q4, q5, hg6⟩ := hg0
            obtain ⟨eS_, hkk, hss⟩ := hq_112 (d + 1) g (by omega) (fun j hj => ⟨q1 j hj, by rw [x_row_self]; exact q2 j hj⟩) (by rw [nI_add])
            replace eS_ := eS_.symm
            subst eS_
            have hkeep4 : ∀ k, k ≤ 10 + d ∨ 25 < k → M1 k = M k := fun k hk => by rw [hkk k (by omega)]; exact hkeep3 k hk
            have hex : ∃ v, rv_ = some (.inl v) := by rcases hss with ⟨e, -⟩ | ⟨e, -⟩ <;> exact ⟨_, e⟩
            obtain ⟨v, rfl⟩ := hex
            try dsimp only [Option.toList, List.cons_append, List.nil_append]
            refine xt_eq (t := 120) rfl (fun hc_115 => ?_) (fun hc_115 => ?_)
            · skip
              refine xt_blk rfl rfl (by dsimp only [List.take]) ?_
              refine xt_inc rfl (by dsimp only [x_sto]) ?_
              refine xt_goto (t := 57) rfl ?_
              refine xt_cut rfl rfl (by dsimp only [List.take]) ?_
              refine ⟨13 - (rel + 1), by omega, p, rel + 1, hp, by omega, hlt, hpl, hkeep4, fun r hr hb => ?_, rfl, rfl, rfl, rfl, rfl, by rw [nI_add], rfl⟩
              by_cases e : r = rel
              · subst e
                rcases hss with ⟨q, -⟩ | ⟨-, hF⟩
                · cases q; exact absurd hc_115 (by decide)
                · exact fun z => hF ((Sat_mx hg6).mp z)
              · exact hno r (by omega) hb
            · skip
              refine xt_ic ?_
              refine xt_rz (by decide) rfl (Nat.le_refl _) ?_
              intro d2 f2 hd2 hf2 e2
              simp only [List.cons.injEq, Sum.inl.injEq, Sum.inr.injEq, and_true, true_and] at e2
              rw [nI_eq (by omega) (by omega)] at e2
              subst e2
              have ef : ∀ j, j < 36 → f j = f2 j := fun j hj => by
                have h1 := (hf j hj).2
                rw [(hf2 j hj).2] at h1
                exact ((nI_eq (by have := (hf2 j hj).1; omega) (by have := (hf j hj).1; omega)).mp h1).symm
              have es : Sat f ↔ Sat f2 := by
                unfold Sat
                constructor
                · rintro ⟨Q, a1, a2⟩; exact ⟨Q, a1, fun x y hx hy hxy => by rw [← ef _ (by omega)]; exact a2 x y hx hy hxy⟩
                · rintro ⟨Q, a1, a2⟩; exact ⟨Q, a1, fun x y hx hy hxy => by rw [ef _ (by omega)]; exact a2 x y hx hy hxy⟩
              
              rcases hss with ⟨-, hF⟩ | ⟨q, -⟩
              · exact ⟨rfl, hkeep4, Or.inl ⟨rfl, es.mp ((Sat_fix hSy (fun j hj => (hf j hj).1) g1 g2 g3).mpr ⟨rel, hr13, hbit, (Sat_mx hg6).mpr hF⟩)⟩⟩
              · cases q; exact absurd rfl hc_115
theorem hd_settles : yX3_settles.cls ≠ "java/lang/invoke/MethodHandle" ∧ yX3_settles.cls ≠ "java/lang/invoke/VarHandle" ∧ (parseMethodDescriptor yX3_settles.desc).map (fun d => d.parameters.length) = some 2 := by decide +kernel
theorem c_X3_settles (l : Launch) : ∀ n, x_CT l yX3_settles cX3_settles 9 (some .boolean) (4 + n) (q_X3_settles n)
  | 0 => c_settles1 l 0 qF x_cal_F (Or.inl rfl)
  | n + 1 => c_settles1 l (n + 1) (q_X3_settles n) (x_cal_S (idx := 24) (c_X3_settles l n) ⟨by simp only [x_rm]; omega, by simp only [x_rm]; omega⟩ (by decide +kernel) (by decide +kernel) (by decide +kernel) (by decide +kernel) hd_settles) (Or.inr ⟨n, rfl, rfl⟩)
end
section
/-! SEARCH: canHold, canHoldWith, keepNet -/
theorem Hol_cg {Q : Nat → Nat → Nat} {f f2 : Nat → Nat} (e : ∀ j, j < 36 → f j = f2 j) : Hol Q f ↔ Hol Q f2 :=
  ⟨fun h x y hx hy hxy => by rw [← e _ (by omega)]; exact h x y hx hy hxy, fun h x y hx hy hxy => by rw [e _ (by omega)]; exact h x y hx hy hxy⟩
theorem Sat_cg {f f2 : Nat → Nat} (e : ∀ j, j < 36 → f j = f2 j) : Sat f ↔ Sat f2 :=
  ⟨fun ⟨Q, h1, h2⟩ => ⟨Q, h1, (Hol_cg e).mp h2⟩, fun ⟨Q, h1, h2⟩ => ⟨Q, h1, (Hol_cg e).mpr h2⟩⟩
theorem nw_cg {f f2 : Nat → Nat} (e : ∀ j, j < 36 → f j = f2 j) (a b v : Nat) : ∀ j, j < 36 → nw f a b v j = nw f2 a b v j := fun j hj => by unfold nw; rw [e j hj]
theorem At_cp {M : x_M} {k : Nat} {f : Nat → Nat} (k2 : Nat) (h : At M k f) : At (x_row M k2 (x_cp (M k) (M k2) 36)) k2 f := fun j hj => ⟨(h j hj).1, by rw [x_row_self]; unfold x_cp; rw [if_pos hj]; exact (h j hj).2⟩
def q_X3_canHold : x_K := (2, fun as S M => ∃ (k : Nat) (f : Nat → Nat), k < 1000 ∧ S = SH ∧ SH[k]? = some (.inr (.inl (false, 36))) ∧ At M k f ∧ Sy f ∧ Clo f ∧ NE f 0 ∧ as = [.inr (.inl 8), .inr (.inl k)], fun as S M rv_ S' M' => ∀ (k : Nat) (f : Nat → Nat), At M k f → as = [.inr (.inl 8), .inr (.inl k)] → S' = S ∧ (∀ j, j < 10 ∨ 25 < j → M' j = M j) ∧ ((rv_ = some (.inl (nI 1)) ∧ Sat f) ∨ (rv_ = some (.inl (nI 0)) ∧ ¬ Sat f)), 0, 0)
theorem r_X3_canHold : ∀ as S M, q_X3_canHold.2.1 as S M → ∃ (k : Nat) (as' : List x_V) (fs : List (Option Nat)), as = .inr (.inl k) :: as' ∧ S[k]? = some (.inl (1, fs)) := by
  rintro as S M ⟨k, f, -, rfl, -, -, -, -, -, rfl⟩
  exact ⟨8, _, _, rfl, rfl⟩
def b_X3_canHold : x_B := [(0, 2, [(.aload_n 1, 1), (.iconst 0, 1), (.aload_n 0, 1), (.getfield 15, 3), (.iconst 0, 1), (.aaload, 1), (.iconst 0, 1), (.bipush 36, 2), (.invokestatic 18, 3), (.aload_n 0, 1), (.getfield 15, 3), (.iconst 0, 1), (.invokestatic 24, 3), (.ireturn, 1)])]
theorem b_X3_canHold_ok : x_okB cX3_canHold 2 b_X3_canHold = true := by decide +kernel
def X_X3_canHold : x_X := ([(15, 1, 0)], [], [], [], [(54, x_qC), (72, q_X3_settles 15)], (0, 0), x_kn, x_kf, 5, false)
theorem X_X3_canHold_ok : x_okT RX3 X_X3_canHold = true := by decide +kernel
theorem k_X3_canHold (l : Launch) : ∀ z ∈ X_X3_canHold.2.2.2.2.1, x_Cal l (x_rm 20 0 0) cX3_canHold RX3 2 z.1 z.2 := List.forall_mem_cons.mpr ⟨x_cal_C (idx := 18) ⟨by decide, by decide⟩ (by decide +kernel) (by decide +kernel) (by decide +kernel) (by decide +kernel), List.forall_mem_cons.mpr ⟨x_cal_S (idx := 24) (c_X3_settles l 15) ⟨by decide, by decide⟩ (by decide +kernel) (by decide +kernel) (by decide +kernel) (by decide +kernel) hd_settles, fun _ h => absurd h List.not_mem_nil⟩⟩
set_option maxHeartbeats 4000000 in
set_option maxRecDepth 100000 in
theorem c_X3_canHold (l : Launch) : x_CT l yX3_canHold cX3_canHold 2 (some .boolean) 20 q_X3_canHold := by
  refine x_meth (X := X_X3_canHold) (bl := b_X3_canHold) (cut := []) (own := RX3) 30 (by decide) rfl X_X3_canHold_ok b_X3_canHold_ok rfl (Nat.le_of_ble_eq_true rfl) (k_X3_canHold l) ?_
  rintro as S M - ⟨k, f, hk, rfl, hsh, hf, hSy, hC, hN, rfl⟩
  refine ⟨fun _ _ _ _ _ _ _ _ => False, ?_, ?_⟩
  · skip
    refine xt_blk rfl rfl (by dsimp only [List.take]) ?_
    refine xt_aln1 rfl (by first | decide | omega | assumption) ?_
    refine xt_ic ?_
    refine xt_aln0 rfl (by first | decide | omega | assumption) ?_
    refine xt_gfr (q := (1, 0)) rfl (by first | rfl | assumption) rfl ?_
    refine xt_ic ?_
    refine xt_ral (r := 10) rfl (show vp_in _ 16 from vp_in_nI (by decide) (by decide)) rfl (by decide) ?_
    refine xt_ic ?_
    refine xt_bi ?_
    refine xt_v5 (key := 54) (q := x_qC) rfl rfl rfl rfl rfl ⟨Nat.le_of_ble_eq_true rfl, Nat.le_of_ble_eq_true rfl⟩ ⟨k, 10, rfl, hsh, rfl⟩ (fun rv_ S1 M1 hq_11 => ?_)
    obtain ⟨er, eS_, eM_⟩ := hq_11
    replace eS_ := eS_.symm
    subst eS_
    have eM1 := eM_ k 10 rfl
    subst er
    subst eM1
    try dsimp only [Option.toList, List.cons_append, List.nil_append]
    refine xt_aln0 rfl (by first | decide | omega | assumption) ?_
    refine xt_gfr (q := (1, 0)) rfl (by first | rfl | assumption) rfl ?_
    refine xt_ic ?_
    refine xt_v2 (key := 72) (q := (q_X3_settles 15)) rfl rfl rfl rfl rfl ⟨Nat.le_of_ble_eq_true rfl, Nat.le_of_ble_eq_true rfl⟩ ⟨0, f, rfl, rfl, At_cp 10 hf, hSy, hC, hN, Nat.zero_le _, rfl⟩ (fun rv_ S1 M1 hq_19 => ?_)
    obtain ⟨eS_, hkk, hss⟩ := hq_19 0 f (by omega) (At_cp 10 hf) rfl
    replace eS_ := eS_.symm
    subst eS_
    have hex : ∃ v, rv_ = some (.inl v) ∧ (v = 0 ∨ v = 1) := by rcases hss with ⟨e, -⟩ | ⟨e, -⟩ <;> exact ⟨_, e, by decide⟩
    obtain ⟨v, rfl, hv⟩ := hex
    try dsimp only [Option.toList, List.cons_append, List.nil_append]
    refine xt_rz hv rfl (Nat.le_refl _) ?_
    intro k2 f2 hf2 e2
    simp only [List.cons.injEq, Sum.inr.injEq, Sum.inl.injEq, and_true, true_and] at e2
    subst e2
    have ef : ∀ j, j < 36 → f j = f2 j := fun j hj => by
      have h1 := (hf j hj).2
      rw [(hf2 j hj).2] at h1
      exact ((nI_eq (by have := (hf2 j hj).1; omega) (by have := (hf j hj).1; omega)).mp h1).symm
    refine ⟨rfl, fun j hj => by rw [hkk j (by omega), x_row_ne _ _ (by omega)], ?_⟩
    rw [← Sat_cg ef]
    exact hss
  · intro μ pc ls st S2 M2 cs sl h; exact h.elim
def q_X3_keepNet : x_K := (2, fun as S M => ∃ (k : Nat), k < 1000 ∧ S = SH ∧ SH[k]? = some (.inr (.inl (false, 36))) ∧ as = [.inr (.inl 8), .inr (.inl k)], fun as S M rv_ S' M' => ∀ (k : Nat), as = [.inr (.inl 8), .inr (.inl k)] → S' = S ∧ M' = x_row M k (x_cp (M 10) (M k) 36) ∧ rv_ = none, 0, 0)
theorem r_X3_keepNet : ∀ as S M, q_X3_keepNet.2.1 as S M → ∃ (k : Nat) (as' : List x_V) (fs : List (Option Nat)), as = .inr (.inl k) :: as' ∧ S[k]? = some (.inl (1, fs)) := by
  rintro as S M ⟨k, -, rfl, -, rfl⟩
  exact ⟨8, _, _, rfl, rfl⟩
def b_X3_keepNet : x_B := [(0, 2, [(.aload_n 0, 1), (.getfield 15, 3), (.iconst 0, 1), (.aaload, 1), (.iconst 0, 1), (.aload_n 1, 1), (.iconst 0, 1), (.bipush 36, 2), (.invokestatic 18, 3), (.return_, 1)])]
theorem b_X3_keepNet_ok : x_okB cX3_keepNet 2 b_X3_keepNet = true := by decide +kernel
def X_X3_keepNet : x_X := ([(15, 1, 0)], [], [], [], [(54, x_qC)], (0, 0), x_kn, x_kf, 5, false)
theorem X_X3_keepNet_ok : x_okT RX3 X_X3_keepNet = true := by decide +kernel
theorem k_X3_keepNet (l : Launch) : ∀ z ∈ X_X3_keepNet.2.2.2.2.1, x_Cal l (x_rm 1 0 0) cX3_keepNet RX3 2 z.1 z.2 := List.forall_mem_cons.mpr ⟨x_cal_C (idx := 18) ⟨by decide, by decide⟩ (by decide +kernel) (by decide +kernel) (by decide +kernel) (by decide +kernel), fun _ h => absurd h List.not_mem_nil⟩
set_option maxHeartbeats 4000000 in
set_option maxRecDepth 100000 in
theorem c_X3_keepNet (l : Launch) : x_CT l yX3_keepNet cX3_keepNet 2 none 1 q_X3_keepNet := by
  refine x_meth (X := X_X3_keepNet) (bl := b_X3_keepNet) (cut := []) (own := RX3) 30 (by decide) rfl X_X3_keepNet_ok b_X3_keepNet_ok rfl (Nat.le_of_ble_eq_true rfl) (k_X3_keepNet l) ?_
  rintro as S M - ⟨k, hk, rfl, hsh, rfl⟩
  refine ⟨fun _ _ _ _ _ _ _ _ => False, ?_, ?_⟩
  · skip
    refine xt_blk rfl rfl (by dsimp only [List.take]) ?_
    refine xt_aln0 rfl (by first | decide | omega | assumption) ?_
    refine xt_gfr (q := (1, 0)) rfl (by first | rfl | assumption) rfl ?_
    refine xt_ic ?_
    refine xt_ral (r := 10) rfl (show vp_in _ 16 from vp_in_nI (by decide) (by decide)) rfl (by decide) ?_
    refine xt_ic ?_
    refine xt_aln1 rfl (by first | decide | omega | assumption) ?_
    refine xt_ic ?_
    refine xt_bi ?_
    refine xt_v5 (key := 54) (q := x_qC) rfl rfl rfl rfl rfl ⟨Nat.le_of_ble_eq_true rfl, Nat.le_of_ble_eq_true rfl⟩ ⟨10, k, rfl, rfl, hsh⟩ (fun rv_ S1 M1 hq_11 => ?_)
    obtain ⟨er, eS_, eM_⟩ := hq_11
    replace eS_ := eS_.symm
    subst eS_
    have eM1 := eM_ 10 k rfl
    subst er
    subst eM1
    try dsimp only [Option.toList, List.cons_append, List.nil_append]
    refine xt_rv rfl (Nat.le_refl _) ?_
    intro k2 e2
    simp only [List.cons.injEq, Sum.inr.injEq, Sum.inl.injEq, and_true, true_and] at e2
    subst e2
    exact ⟨rfl, rfl, rfl⟩
  · intro μ pc ls st S2 M2 cs sl h; exact h.elim
def q_X3_canHoldWith : x_K := (5, fun as S M => ∃ (k a b r : Nat) (f : Nat → Nat), k < 1000 ∧ S = SH ∧ SH[k]? = some (.inr (.inl (false, 36))) ∧ a < 6 ∧ b < 6 ∧ a ≠ b ∧ r < 13 ∧ At M k f ∧ Sy f ∧ Clo f ∧ NE f 0 ∧ (f (a * 6 + b)).testBit r = true ∧ as = [.inr (.inl 8), .inr (.inl k), .inl (nI a), .inl (nI b), .inl (nI r)],
  fun as S M rv_ S' M' => ∀ (k a b r : Nat) (f : Nat → Nat), a < 6 → b < 6 → r < 13 → At M k f → as = [.inr (.inl 8), .inr (.inl k), .inl (nI a), .inl (nI b), .inl (nI r)] → S' = S ∧ (∀ j, j < 10 ∨ 25 < j → M' j = M j) ∧
    ((rv_ = some (.inl (nI 1)) ∧ Sat (nw f a b (2 ^ r)) ∧ ∃ g, At M' 10 g ∧ Sy g ∧ Clo g ∧ NE g 0 ∧ Mx (nw f a b (2 ^ r)) g) ∨ (rv_ = some (.inl (nI 0)) ∧ ¬ Sat (nw f a b (2 ^ r)))), 0, 0)
theorem r_X3_canHoldWith : ∀ as S M, q_X3_canHoldWith.2.1 as S M → ∃ (k : Nat) (as' : List x_V) (fs : List (Option Nat)), as = .inr (.inl k) :: as' ∧ S[k]? = some (.inl (1, fs)) := by
  rintro as S M ⟨k, a, b, r, f, -, rfl, -, -, -, -, -, -, -, -, -, -, rfl⟩
  exact ⟨8, _, _, rfl, rfl⟩
def b_X3_canHoldWith : x_B := [(0, 5, [(.aload_n 0, 1), (.getfield 15, 3), (.iconst 0, 1), (.aaload, 1), (.astore 5, 2), (.aload_n 1, 1), (.iconst 0, 1), (.aload 5, 2), (.iconst 0, 1), (.bipush 36, 2), (.invokestatic 18, 3), (.aload 5, 2), (.iload_n 2, 1), (.iload_n 3, 1), (.iconst 1, 1), (.iload 4, 2), (.ishl, 1), (.invokestatic 28, 3), (.aload 5, 2), (.iconst 1, 1), (.iload_n 2, 1), (.iload_n 3, 1), (.invokestatic 32, 3), (.ishl, 1), (.invokestatic 36, 3), (.ifCond .eq 18, 3), (.aload_n 0, 1), (.getfield 15, 3), (.iconst 0, 1), (.invokestatic 24, 3), (.ifCond .eq 7, 3), (.iconst 1, 1), (.goto 4, 3)]),
  (59, 6, [(.iconst 0, 1)]),
  (60, 6, [(.ireturn, 1)])]
theorem b_X3_canHoldWith_ok : x_okB cX3_canHoldWith 6 b_X3_canHoldWith = true := by decide +kernel
def X_X3_canHoldWith : x_X := ([(15, 1, 0)], [], [], [], [(54, x_qC), (84, q_X1_put), (96, q_X1_pairOf), (108, q_X1_close), (72, q_X3_settles 15)], (0, 0), x_kn, x_kf, 5, false)
theorem X_X3_canHoldWith_ok : x_okT RX3 X_X3_canHoldWith = true := by decide +kernel
theorem k_X3_canHoldWith (l : Launch) : ∀ z ∈ X_X3_canHoldWith.2.2.2.2.1, x_Cal l (x_rm 20 0 0) cX3_canHoldWith RX3 6 z.1 z.2 := List.forall_mem_cons.mpr ⟨x_cal_C (idx := 18) ⟨by decide, by decide⟩ (by decide +kernel) (by decide +kernel) (by decide +kernel) (by decide +kernel), List.forall_mem_cons.mpr ⟨x_cal_S (idx := 28) (c_X1_put l) ⟨by decide, by decide⟩ (by decide +kernel) (by decide +kernel) (by decide +kernel) (by decide +kernel) (by decide +kernel), List.forall_mem_cons.mpr ⟨x_cal_S (idx := 32) (c_X1_pairOf l) ⟨by decide, by decide⟩ (by decide +kernel) (by decide +kernel) (by decide +kernel) (by decide +kernel) (by decide +kernel), List.forall_mem_cons.mpr ⟨x_cal_S (idx := 36) (c_X1_close l) ⟨by decide, by decide⟩ (by decide +kernel) (by decide +kernel) (by decide +kernel) (by decide +kernel) (by decide +kernel), List.forall_mem_cons.mpr ⟨x_cal_S (idx := 24) (c_X3_settles l 15) ⟨by decide, by decide⟩ (by decide +kernel) (by decide +kernel) (by decide +kernel) (by decide +kernel) hd_settles, fun _ h => absurd h List.not_mem_nil⟩⟩⟩⟩⟩
set_option maxHeartbeats 4000000 in
set_option maxRecDepth 100000 in
theorem c_X3_canHoldWith (l : Launch) : x_CT l yX3_canHoldWith cX3_canHoldWith 6 (some .boolean) 20 q_X3_canHoldWith := by
  refine x_meth (X := X_X3_canHoldWith) (bl := b_X3_canHoldWith) (cut := []) (own := RX3) 30 (by decide) rfl X_X3_canHoldWith_ok b_X3_canHoldWith_ok rfl (Nat.le_of_ble_eq_true rfl) (k_X3_canHoldWith l) ?_
  rintro as S M - ⟨k, a, b, r, f, hk, rfl, hsh, ha, hb, hab, hr, hf, hSy, hC, hN, hbit, rfl⟩
  refine ⟨fun _ _ _ _ _ _ _ _ => False, ?_, ?_⟩
  · skip
    refine xt_blk rfl rfl (by dsimp only [List.take]) ?_
    refine xt_aln0 rfl (by first | decide | omega | assumption) ?_
    refine xt_gfr (q := (1, 0)) rfl (by first | rfl | assumption) rfl ?_
    refine xt_ic ?_
    refine xt_ral (r := 10) rfl (show vp_in _ 16 from vp_in_nI (by decide) (by decide)) rfl (by decide) ?_
    refine xt_ast rfl (by first | decide | omega | assumption) (by dsimp only [x_sto]) ?_
    refine xt_aln1 rfl (by first | decide | omega | assumption) ?_
    refine xt_ic ?_
    refine xt_ald rfl (by first | decide | omega | assumption) ?_
    refine xt_ic ?_
    refine xt_bi ?_
    refine xt_v5 (key := 54) (q := x_qC) rfl rfl rfl rfl rfl ⟨Nat.le_of_ble_eq_true rfl, Nat.le_of_ble_eq_true rfl⟩ ⟨k, 10, rfl, hsh, rfl⟩ (fun rv_ S1 M1 hq_15 => ?_)
    obtain ⟨er, eS_, eM_⟩ := hq_15
    replace eS_ := eS_.symm
    subst eS_
    have eM1 := eM_ k 10 rfl
    subst er
    subst eM1
    try dsimp only [Option.toList, List.cons_append, List.nil_append]
    refine xt_ald rfl (by first | decide | omega | assumption) ?_
    refine xt_iln2 rfl ?_
    refine xt_iln3 rfl ?_
    refine xt_ic ?_
    refine xt_ild rfl ?_
    refine xt_shl ?_
    refine xt_v4 (key := 84) (q := q_X1_put) rfl rfl rfl rfl rfl ⟨Nat.le_of_ble_eq_true rfl, Nat.le_of_ble_eq_true rfl⟩ ⟨10, a, b, 2 ^ r, by decide, ha, hb, Nat.pow_lt_pow_right (by decide) hr, rfl, by rw [n_shl (by omega) (by have := Nat.pow_lt_pow_right (show 1 < 2 by decide) hr; omega), Nat.one_mul]⟩ (fun rv_ S1 M1 hq_26 => ?_)
    obtain ⟨eS_, eM_, rfl⟩ := hq_26 10 a b (2 ^ r) ha hb (Nat.pow_lt_pow_right (by decide) hr) (by rw [n_shl (by omega) (by have := Nat.pow_lt_pow_right (show 1 < 2 by decide) hr; omega), Nat.one_mul])
    replace eS_ := eS_.symm
    replace eM_ := eM_.symm
    subst eS_ eM_
    rw [x_row_self, x_row_row]
    obtain ⟨w1, w2, w3, w4, w5⟩ := fix_IV hSy (fun j hj => (hf j hj).1) hC hN ha hb hab hr hbit
    have hupd := upd_nw (gI := x_cp (M k) (M 10) 36) (g := f) (fun j hj => by unfold x_cp; rw [if_pos hj]; exact (hf j hj).2) a b (2 ^ r)
    generalize hgI : upd (upd (x_cp (M k) (M 10) 36) (a * 6 + b) (nI (2 ^ r))) (b * 6 + a) (nI (tn (2 ^ r))) = gI0 at hupd ⊢
    have hat1 : ∀ j, j < 36 → nw f a b (2 ^ r) j < 8192 ∧ (x_row M 10 gI0) 10 j = nI (nw f a b (2 ^ r) j) := fun j hj => ⟨w1 j hj, by rw [x_row_self]; exact hupd j hj⟩
    have hp15 := pr_lt ha hb hab
    have hpw : 2 ^ pr a b < 2 ^ 15 := Nat.pow_lt_pow_right (by decide) hp15
    try dsimp only [Option.toList, List.cons_append, List.nil_append]
    refine xt_ald rfl (by first | decide | omega | assumption) ?_
    refine xt_ic ?_
    refine xt_iln2 rfl ?_
    refine xt_iln3 rfl ?_
    refine xt_v2 (key := 96) (q := q_X1_pairOf) rfl rfl rfl rfl rfl ⟨Nat.le_of_ble_eq_true rfl, Nat.le_of_ble_eq_true rfl⟩ ⟨a, b, ha, hb, hab, rfl⟩ (fun rv_ S1 M1 hq_34 => ?_)
    obtain ⟨eS_, eM_, rfl⟩ := hq_34 a b ha hb hab rfl
    replace eS_ := eS_.symm
    replace eM_ := eM_.symm
    subst eS_ eM_
    try dsimp only [Option.toList, List.cons_append, List.nil_append]
    refine xt_shl ?_
    refine xt_v2 (key := 108) (q := q_X1_close) rfl rfl rfl rfl rfl ⟨Nat.le_of_ble_eq_true rfl, Nat.le_of_ble_eq_true rfl⟩ ⟨10, 2 ^ pr a b, nw f a b (2 ^ r), by decide, hpw, rfl, hat1, w2, w3, w4, by rw [n_shl (by omega) (by omega), Nat.one_mul]⟩ (fun rv_ S1 M1 hq_38 => ?_)
    obtain ⟨eS_, gI, eM_, hcc⟩ := hq_38 10 (2 ^ pr a b) _ hat1 (by rw [n_shl (by omega) (by omega), Nat.one_mul])
    replace eS_ := eS_.symm
    replace eM_ := eM_.symm
    subst eS_ eM_
    rw [x_row_row]
    have hex : ∃ v, rv_ = some (.inl v) := by rcases hcc with ⟨e, -⟩ | ⟨e, -⟩ <;> exact ⟨_, e⟩
    obtain ⟨v, rfl⟩ := hex
    try dsimp only [Option.toList, List.cons_append, List.nil_append]
    refine xt_eq (t := 59) rfl (fun hc_41 => ?_) (fun hc_41 => ?_)
    · skip
      refine xt_blk rfl rfl (by dsimp only [List.take]) ?_
      refine xt_ic ?_
      refine xt_nil (t := 60) rfl ?_
      refine xt_blk rfl rfl (by dsimp only [List.take]) ?_
      refine xt_rz (by decide) rfl (Nat.le_refl _) ?_
      intro k2 a2 b2 r2 f2 h2a h2b h2r hf2 e2
      simp only [List.cons.injEq, Sum.inr.injEq, Sum.inl.injEq, and_true, true_and] at e2
      obtain ⟨rfl, ea, eb, er⟩ := e2
      rw [nI_eq (by omega) (by omega)] at ea eb er
      subst ea eb er
      have ef : ∀ j, j < 36 → f j = f2 j := fun j hj => by
        have h1 := (hf j hj).2
        rw [(hf2 j hj).2] at h1
        exact ((nI_eq (by have := (hf2 j hj).1; omega) (by have := (hf j hj).1; omega)).mp h1).symm
      have en := nw_cg ef a b (2 ^ r)
      rcases hcc with ⟨q, -⟩ | ⟨-, -, hF⟩
      · cases q; exact absurd hc_41 (by decide)
      · exact ⟨rfl, fun j hj => by rw [x_row_ne _ _ (by omega)], Or.inr ⟨rfl, fun z => Sat_fail hF ((Sat_cg en).mpr z)⟩⟩
    · skip
      have hg0 : ∃ g, Bd g ∧ (∀ j, j < 36 → gI j = nI (g j)) ∧ Sy g ∧ Clo g ∧ NE g 0 ∧ Mx (nw f a b (2 ^ r)) g := by
        rcases hcc with ⟨-, q⟩ | ⟨q, -⟩
        · exact q
        · cases q; exact absurd rfl hc_41
      refine xt_aln0 rfl (by first | decide | omega | assumption) ?_
      refine xt_gfr (q := (1, 0)) rfl (by first | rfl | assumption) rfl ?_
      refine xt_ic ?_
      refine xt_v2 (key := 72) (q := (q_X3_settles 15)) rfl rfl rfl rfl rfl ⟨Nat.le_of_ble_eq_true rfl, Nat.le_of_ble_eq_true rfl⟩ (by obtain ⟨g, q1, q2, q3, q4, q5, q6⟩ := hg0; exact ⟨0, g, rfl, rfl, fun j hj => ⟨q1 j hj, by rw [x_row_self]; exact q2 j hj⟩, q3, q4, q5, Nat.zero_le _, rfl⟩) (fun rv_ S1 M1 hq_49 => ?_)
      obtain ⟨g, q1, q2, q3, q4, q5, q6⟩ := hg0
      have hat2 : At (x_row M 10 gI) 10 g := fun j hj => ⟨q1 j hj, by rw [x_row_self]; exact q2 j hj⟩
      obtain ⟨eS_, hkk, hss⟩ := hq_49 0 g (by omega) hat2 rfl
      replace eS_ := eS_.symm
      subst eS_
      have hkeep4 : ∀ j, j < 10 ∨ 25 < j → M1 j = M j := fun j hj => by rw [hkk j (by omega), x_row_ne _ _ (by omega)]
      have hat3 : At M1 10 g := fun j hj => by rw [hkk 10 (Or.inl (Nat.le_refl _))]; exact hat2 j hj
      have hex : ∃ v, rv_ = some (.inl v) := by rcases hss with ⟨e, -⟩ | ⟨e, -⟩ <;> exact ⟨_, e⟩
      obtain ⟨v, rfl⟩ := hex
      try dsimp only [Option.toList, List.cons_append, List.nil_append]
      refine xt_eq (t := 59) rfl (fun hc_52 => ?_) (fun hc_52 => ?_)
      · skip
        refine xt_blk rfl rfl (by dsimp only [List.take]) ?_
        refine xt_ic ?_
        refine xt_nil (t := 60) rfl ?_
        refine xt_blk rfl rfl (by dsimp only [List.take]) ?_
        refine xt_rz (by decide) rfl (Nat.le_refl _) ?_
        intro k2 a2 b2 r2 f2 h2a h2b h2r hf2 e2
        simp only [List.cons.injEq, Sum.inr.injEq, Sum.inl.injEq, and_true, true_and] at e2
        obtain ⟨rfl, ea, eb, er⟩ := e2
        rw [nI_eq (by omega) (by omega)] at ea eb er
        subst ea eb er
        have ef : ∀ j, j < 36 → f j = f2 j := fun j hj => by
          have h1 := (hf j hj).2
          rw [(hf2 j hj).2] at h1
          exact ((nI_eq (by have := (hf2 j hj).1; omega) (by have := (hf j hj).1; omega)).mp h1).symm
        have en := nw_cg ef a b (2 ^ r)
        rcases hss with ⟨q, -⟩ | ⟨-, hF⟩
        · cases q; exact absurd hc_52 (by decide)
        · exact ⟨rfl, hkeep4, Or.inr ⟨rfl, fun z => hF ((Sat_mx q6).mp ((Sat_cg en).mpr z))⟩⟩
      · skip
        refine xt_ic ?_
        refine xt_goto (t := 60) rfl ?_
        refine xt_blk rfl rfl (by dsimp only [List.take]) ?_
        refine xt_rz (by decide) rfl (Nat.le_refl _) ?_
        intro k2 a2 b2 r2 f2 h2a h2b h2r hf2 e2
        simp only [List.cons.injEq, Sum.inr.injEq, Sum.inl.injEq, and_true, true_and] at e2
        obtain ⟨rfl, ea, eb, er⟩ := e2
        rw [nI_eq (by omega) (by omega)] at ea eb er
        subst ea eb er
        have ef : ∀ j, j < 36 → f j = f2 j := fun j hj => by
          have h1 := (hf j hj).2
          rw [(hf2 j hj).2] at h1
          exact ((nI_eq (by have := (hf2 j hj).1; omega) (by have := (hf j hj).1; omega)).mp h1).symm
        have en := nw_cg ef a b (2 ^ r)
        rcases hss with ⟨-, hF⟩ | ⟨q, -⟩
        · exact ⟨rfl, hkeep4, Or.inl ⟨rfl, (Sat_cg en).mp ((Sat_mx q6).mpr hF), g, hat3, q3, q4, q5, Mx_cg en q6⟩⟩
        · cases q; exact absurd rfl hc_52
  · intro μ pc ls st S2 M2 cs sl h; exact h.elim
end
section
/-! STATEMENTS: what is kept; BOXES -/
def q_X4_size : x_K := (1, fun as S M => S = SH ∧ as = [.inr (.inl 1)], fun as S M rv_ S' M' => as = [.inr (.inl 1)] → S' = S ∧ M' = M ∧ rv_ = some (.inl (M 1 4)), 0, 0)
theorem r_X4_size : ∀ as S M, q_X4_size.2.1 as S M → ∃ (k : Nat) (as' : List x_V) (fs : List (Option Nat)), as = .inr (.inl k) :: as' ∧ S[k]? = some (.inl (2, fs)) := by
  rintro as S M ⟨rfl, rfl⟩
  exact ⟨1, _, _, rfl, rfl⟩
def b_X4_size : x_B := [(0, 1, [(.aload_n 0, 1), (.getfield 27, 3), (.ireturn, 1)])]
theorem b_X4_size_ok : x_okB cX4_size 1 b_X4_size = true := by decide +kernel
def X_X4_size : x_X := ([(27, 2, 4)], [], [], [], [], (0, 0), x_kn, x_kf, 5, false)
theorem X_X4_size_ok : x_okT RX4 X_X4_size = true := by decide +kernel
theorem k_X4_size (l : Launch) : ∀ z ∈ X_X4_size.2.2.2.2.1, x_Cal l (x_rm 1 0 0) cX4_size RX4 1 z.1 z.2 := fun _ h => absurd h List.not_mem_nil
set_option maxHeartbeats 4000000 in
set_option maxRecDepth 100000 in
theorem c_X4_size (l : Launch) : x_CT l yX4_size cX4_size 1 (some .int) 1 q_X4_size := by
  refine x_meth (X := X_X4_size) (bl := b_X4_size) (cut := []) (own := RX4) 30 (by decide) rfl X_X4_size_ok b_X4_size_ok rfl (Nat.le_of_ble_eq_true rfl) (k_X4_size l) ?_
  rintro as S M - ⟨rfl, rfl⟩
  refine ⟨fun _ _ _ _ _ _ _ _ => False, ?_, ?_⟩
  · skip
    refine xt_blk rfl rfl (by dsimp only [List.take]) ?_
    refine xt_aln0 rfl (by first | decide | omega | assumption) ?_
    refine xt_gfi (q := (2, 4)) rfl (by first | rfl | assumption) rfl ?_
    refine xt_ri rfl (Nat.le_refl _) ?_
    intro e2
    clear e2
    exact ⟨rfl, rfl, rfl⟩
  · intro μ pc ls st S2 M2 cs sl h; exact h.elim
def q_X4_changes : x_K := (1, fun as S M => S = SH ∧ as = [.inr (.inl 1)], fun as S M rv_ S' M' => as = [.inr (.inl 1)] → S' = S ∧ M' = M ∧ rv_ = some (.inl (M 1 5)), 0, 0)
theorem r_X4_changes : ∀ as S M, q_X4_changes.2.1 as S M → ∃ (k : Nat) (as' : List x_V) (fs : List (Option Nat)), as = .inr (.inl k) :: as' ∧ S[k]? = some (.inl (2, fs)) := by
  rintro as S M ⟨rfl, rfl⟩
  exact ⟨1, _, _, rfl, rfl⟩
def b_X4_changes : x_B := [(0, 1, [(.aload_n 0, 1), (.getfield 31, 3), (.ireturn, 1)])]
theorem b_X4_changes_ok : x_okB cX4_changes 1 b_X4_changes = true := by decide +kernel
def X_X4_changes : x_X := ([(31, 2, 5)], [], [], [], [], (0, 0), x_kn, x_kf, 5, false)
theorem X_X4_changes_ok : x_okT RX4 X_X4_changes = true := by decide +kernel
theorem k_X4_changes (l : Launch) : ∀ z ∈ X_X4_changes.2.2.2.2.1, x_Cal l (x_rm 1 0 0) cX4_changes RX4 1 z.1 z.2 := fun _ h => absurd h List.not_mem_nil
set_option maxHeartbeats 4000000 in
set_option maxRecDepth 100000 in
theorem c_X4_changes (l : Launch) : x_CT l yX4_changes cX4_changes 1 (some .int) 1 q_X4_changes := by
  refine x_meth (X := X_X4_changes) (bl := b_X4_changes) (cut := []) (own := RX4) 30 (by decide) rfl X_X4_changes_ok b_X4_changes_ok rfl (Nat.le_of_ble_eq_true rfl) (k_X4_changes l) ?_
  rintro as S M - ⟨rfl, rfl⟩
  refine ⟨fun _ _ _ _ _ _ _ _ => False, ?_, ?_⟩
  · skip
    refine xt_blk rfl rfl (by dsimp only [List.take]) ?_
    refine xt_aln0 rfl (by first | decide | omega | assumption) ?_
    refine xt_gfi (q := (2, 5)) rfl (by first | rfl | assumption) rfl ?_
    refine xt_ri rfl (Nat.le_refl _) ?_
    intro e2
    clear e2
    exact ⟨rfl, rfl, rfl⟩
  · intro μ pc ls st S2 M2 cs sl h; exact h.elim
def q_X4_firstOf : x_K := (2, fun as S M => ∃ (i : Nat), i < 30 ∧ S = SH ∧ as = [.inr (.inl 1), .inl (nI i)], fun as S M rv_ S' M' => ∀ (i : Nat), i < 30 → as = [.inr (.inl 1), .inl (nI i)] → S' = S ∧ M' = M ∧ rv_ = some (.inl (M 2 i)), 0, 0)
theorem r_X4_firstOf : ∀ as S M, q_X4_firstOf.2.1 as S M → ∃ (k : Nat) (as' : List x_V) (fs : List (Option Nat)), as = .inr (.inl k) :: as' ∧ S[k]? = some (.inl (2, fs)) := by
  rintro as S M ⟨i, hi, rfl, rfl⟩
  exact ⟨1, _, _, rfl, rfl⟩
def b_X4_firstOf : x_B := [(0, 2, [(.aload_n 0, 1), (.getfield 9, 3), (.iload_n 1, 1), (.iaload, 1), (.ireturn, 1)])]
theorem b_X4_firstOf_ok : x_okB cX4_firstOf 2 b_X4_firstOf = true := by decide +kernel
def X_X4_firstOf : x_X := ([(9, 2, 0)], [], [], [], [], (0, 0), x_kn, x_kf, 5, false)
theorem X_X4_firstOf_ok : x_okT RX4 X_X4_firstOf = true := by decide +kernel
theorem k_X4_firstOf (l : Launch) : ∀ z ∈ X_X4_firstOf.2.2.2.2.1, x_Cal l (x_rm 1 0 0) cX4_firstOf RX4 2 z.1 z.2 := fun _ h => absurd h List.not_mem_nil
set_option maxHeartbeats 4000000 in
set_option maxRecDepth 100000 in
theorem c_X4_firstOf (l : Launch) : x_CT l yX4_firstOf cX4_firstOf 2 (some .int) 1 q_X4_firstOf := by
  refine x_meth (X := X_X4_firstOf) (bl := b_X4_firstOf) (cut := []) (own := RX4) 30 (by decide) rfl X_X4_firstOf_ok b_X4_firstOf_ok rfl (Nat.le_of_ble_eq_true rfl) (k_X4_firstOf l) ?_
  rintro as S M - ⟨i, hi, rfl, rfl⟩
  refine ⟨fun _ _ _ _ _ _ _ _ => False, ?_, ?_⟩
  · skip
    refine xt_blk rfl rfl (by dsimp only [List.take]) ?_
    refine xt_aln0 rfl (by first | decide | omega | assumption) ?_
    refine xt_gfr (q := (2, 0)) rfl (by first | rfl | assumption) rfl ?_
    refine xt_iln1 rfl ?_
    refine xt_ial (by first | rfl | assumption) (show vp_in _ 30 from vp_in_nI (by omega) (by decide)) ?_
    refine xt_ri rfl (Nat.le_refl _) ?_
    intro i2 h2i e2
    simp only [List.cons.injEq, Sum.inl.injEq, Sum.inr.injEq, and_true, true_and] at e2
    have e2i := e2
    rw [nI_eq (by omega) (by omega)] at e2i
    subst e2i
    exact ⟨rfl, rfl, by rw [nI_clamp (by omega)]⟩
  · intro μ pc ls st S2 M2 cs sl h; exact h.elim
def q_X4_secondOf : x_K := (2, fun as S M => ∃ (i : Nat), i < 30 ∧ S = SH ∧ as = [.inr (.inl 1), .inl (nI i)], fun as S M rv_ S' M' => ∀ (i : Nat), i < 30 → as = [.inr (.inl 1), .inl (nI i)] → S' = S ∧ M' = M ∧ rv_ = some (.inl (M 3 i)), 0, 0)
theorem r_X4_secondOf : ∀ as S M, q_X4_secondOf.2.1 as S M → ∃ (k : Nat) (as' : List x_V) (fs : List (Option Nat)), as = .inr (.inl k) :: as' ∧ S[k]? = some (.inl (2, fs)) := by
  rintro as S M ⟨i, hi, rfl, rfl⟩
  exact ⟨1, _, _, rfl, rfl⟩
def b_X4_secondOf : x_B := [(0, 2, [(.aload_n 0, 1), (.getfield 15, 3), (.iload_n 1, 1), (.iaload, 1), (.ireturn, 1)])]
theorem b_X4_secondOf_ok : x_okB cX4_secondOf 2 b_X4_secondOf = true := by decide +kernel
def X_X4_secondOf : x_X := ([(15, 2, 1)], [], [], [], [], (0, 0), x_kn, x_kf, 5, false)
theorem X_X4_secondOf_ok : x_okT RX4 X_X4_secondOf = true := by decide +kernel
theorem k_X4_secondOf (l : Launch) : ∀ z ∈ X_X4_secondOf.2.2.2.2.1, x_Cal l (x_rm 1 0 0) cX4_secondOf RX4 2 z.1 z.2 := fun _ h => absurd h List.not_mem_nil
set_option maxHeartbeats 4000000 in
set_option maxRecDepth 100000 in
theorem c_X4_secondOf (l : Launch) : x_CT l yX4_secondOf cX4_secondOf 2 (some .int) 1 q_X4_secondOf := by
  refine x_meth (X := X_X4_secondOf) (bl := b_X4_secondOf) (cut := []) (own := RX4) 30 (by decide) rfl X_X4_secondOf_ok b_X4_secondOf_ok rfl (Nat.le_of_ble_eq_true rfl) (k_X4_secondOf l) ?_
  rintro as S M - ⟨i, hi, rfl, rfl⟩
  refine ⟨fun _ _ _ _ _ _ _ _ => False, ?_, ?_⟩
  · skip
    refine xt_blk rfl rfl (by dsimp only [List.take]) ?_
    refine xt_aln0 rfl (by first | decide | omega | assumption) ?_
    refine xt_gfr (q := (2, 1)) rfl (by first | rfl | assumption) rfl ?_
    refine xt_iln1 rfl ?_
    refine xt_ial (by first | rfl | assumption) (show vp_in _ 30 from vp_in_nI (by omega) (by decide)) ?_
    refine xt_ri rfl (Nat.le_refl _) ?_
    intro i2 h2i e2
    simp only [List.cons.injEq, Sum.inl.injEq, Sum.inr.injEq, and_true, true_and] at e2
    have e2i := e2
    rw [nI_eq (by omega) (by omega)] at e2i
    subst e2i
    exact ⟨rfl, rfl, by rw [nI_clamp (by omega)]⟩
  · intro μ pc ls st S2 M2 cs sl h; exact h.elim
def q_X4_isTold : x_K := (2, fun as S M => ∃ (i : Nat), i < 30 ∧ S = SH ∧ (∀ j, j < 30 → M 7 j = nI 0 ∨ M 7 j = nI 1) ∧ as = [.inr (.inl 1), .inl (nI i)], fun as S M rv_ S' M' => ∀ (i : Nat), i < 30 → as = [.inr (.inl 1), .inl (nI i)] → S' = S ∧ M' = M ∧ rv_ = some (.inl (M 7 i)), 0, 0)
theorem r_X4_isTold : ∀ as S M, q_X4_isTold.2.1 as S M → ∃ (k : Nat) (as' : List x_V) (fs : List (Option Nat)), as = .inr (.inl k) :: as' ∧ S[k]? = some (.inl (2, fs)) := by
  rintro as S M ⟨i, hi, rfl, hpre, rfl⟩
  exact ⟨1, _, _, rfl, rfl⟩
def b_X4_isTold : x_B := [(0, 2, [(.aload_n 0, 1), (.getfield 23, 3), (.iload_n 1, 1), (.baload, 1), (.ireturn, 1)])]
theorem b_X4_isTold_ok : x_okB cX4_isTold 2 b_X4_isTold = true := by decide +kernel
def X_X4_isTold : x_X := ([(23, 2, 3)], [], [], [], [], (0, 0), x_kn, x_kf, 5, false)
theorem X_X4_isTold_ok : x_okT RX4 X_X4_isTold = true := by decide +kernel
theorem k_X4_isTold (l : Launch) : ∀ z ∈ X_X4_isTold.2.2.2.2.1, x_Cal l (x_rm 1 0 0) cX4_isTold RX4 2 z.1 z.2 := fun _ h => absurd h List.not_mem_nil
set_option maxHeartbeats 4000000 in
set_option maxRecDepth 100000 in
theorem c_X4_isTold (l : Launch) : x_CT l yX4_isTold cX4_isTold 2 (some .boolean) 1 q_X4_isTold := by
  refine x_meth (X := X_X4_isTold) (bl := b_X4_isTold) (cut := []) (own := RX4) 30 (by decide) rfl X_X4_isTold_ok b_X4_isTold_ok rfl (Nat.le_of_ble_eq_true rfl) (k_X4_isTold l) ?_
  rintro as S M - ⟨i, hi, rfl, hpre, rfl⟩
  refine ⟨fun _ _ _ _ _ _ _ _ => False, ?_, ?_⟩
  · skip
    refine xt_blk rfl rfl (by dsimp only [List.take]) ?_
    refine xt_aln0 rfl (by first | decide | omega | assumption) ?_
    refine xt_gfr (q := (2, 3)) rfl (by first | rfl | assumption) rfl ?_
    refine xt_iln1 rfl ?_
    refine xt_bal (by first | rfl | assumption) (show vp_in _ 30 from vp_in_nI (by omega) (by decide)) ?_
    refine xt_rz (by rw [nI_clamp (by omega)]; exact hpre i hi) rfl (Nat.le_refl _) ?_
    intro i2 h2i e2
    simp only [List.cons.injEq, Sum.inl.injEq, Sum.inr.injEq, and_true, true_and] at e2
    have e2i := e2
    rw [nI_eq (by omega) (by omega)] at e2i
    subst e2i
    exact ⟨rfl, rfl, by rw [nI_clamp (by omega)]⟩
  · intro μ pc ls st S2 M2 cs sl h; exact h.elim
def q_X4_isFull : x_K := (1, fun as S M => S = SH ∧ (∃ n, n ≤ 30 ∧ M 1 4 = nI n) ∧ as = [.inr (.inl 1)], fun as S M rv_ S' M' => ∀ n, n ≤ 30 → M 1 4 = nI n → as = [.inr (.inl 1)] → S' = S ∧ M' = M ∧ rv_ = some (.inl (if 30 ≤ n then nI 1 else nI 0)), 0, 0)
theorem r_X4_isFull : ∀ as S M, q_X4_isFull.2.1 as S M → ∃ (k : Nat) (as' : List x_V) (fs : List (Option Nat)), as = .inr (.inl k) :: as' ∧ S[k]? = some (.inl (2, fs)) := by
  rintro as S M ⟨rfl, hpre, rfl⟩
  exact ⟨1, _, _, rfl, rfl⟩
def b_X4_isFull : x_B := [(0, 1, [(.aload_n 0, 1), (.getfield 27, 3), (.bipush 30, 2), (.if_icmp .lt 7, 3), (.iconst 1, 1), (.goto 4, 3)]),
  (13, 1, [(.iconst 0, 1)]),
  (14, 1, [(.ireturn, 1)])]
theorem b_X4_isFull_ok : x_okB cX4_isFull 1 b_X4_isFull = true := by decide +kernel
def X_X4_isFull : x_X := ([(27, 2, 4)], [], [], [], [], (0, 0), x_kn, x_kf, 5, false)
theorem X_X4_isFull_ok : x_okT RX4 X_X4_isFull = true := by decide +kernel
theorem k_X4_isFull (l : Launch) : ∀ z ∈ X_X4_isFull.2.2.2.2.1, x_Cal l (x_rm 1 0 0) cX4_isFull RX4 1 z.1 z.2 := fun _ h => absurd h List.not_mem_nil
set_option maxHeartbeats 4000000 in
set_option maxRecDepth 100000 in
theorem c_X4_isFull (l : Launch) : x_CT l yX4_isFull cX4_isFull 1 (some .boolean) 1 q_X4_isFull := by
  refine x_meth (X := X_X4_isFull) (bl := b_X4_isFull) (cut := []) (own := RX4) 30 (by decide) rfl X_X4_isFull_ok b_X4_isFull_ok rfl (Nat.le_of_ble_eq_true rfl) (k_X4_isFull l) ?_
  rintro as S M - ⟨rfl, hpre, rfl⟩
  refine ⟨fun _ _ _ _ _ _ _ _ => False, ?_, ?_⟩
  · skip
    refine xt_blk rfl rfl (by dsimp only [List.take]) ?_
    refine xt_aln0 rfl (by first | decide | omega | assumption) ?_
    refine xt_gfi (q := (2, 4)) rfl (by first | rfl | assumption) rfl ?_
    refine xt_bi ?_
    refine xt_clt (t := 13) rfl (fun hc_6 => ?_) (fun hc_6 => ?_)
    · skip
      refine xt_blk rfl rfl (by dsimp only [List.take]) ?_
      refine xt_ic ?_
      refine xt_nil (t := 14) rfl ?_
      refine xt_blk rfl rfl (by dsimp only [List.take]) ?_
      refine xt_rz (by decide) rfl (Nat.le_refl _) ?_
      obtain ⟨n, hn, hsz⟩ := hpre
      rw [hsz, nI_ltI (by omega) (by omega)] at hc_6
      intro n2 hn2 hsz2 e2
      rw [hsz, nI_eq (by omega) (by omega)] at hsz2
      subst hsz2
      exact ⟨rfl, rfl, by rw [if_neg (by omega)]⟩
    · skip
      refine xt_ic ?_
      refine xt_goto (t := 14) rfl ?_
      refine xt_blk rfl rfl (by dsimp only [List.take]) ?_
      refine xt_rz (by decide) rfl (Nat.le_refl _) ?_
      obtain ⟨n, hn, hsz⟩ := hpre
      rw [hsz, nI_ltI (by omega) (by omega)] at hc_6
      intro n2 hn2 hsz2 e2
      rw [hsz, nI_eq (by omega) (by omega)] at hsz2
      subst hsz2
      exact ⟨rfl, rfl, by rw [if_pos (by omega)]⟩
  · intro μ pc ls st S2 M2 cs sl h; exact h.elim
def q_X4_has : x_K := (2, fun as S M => ∃ (x : Int32), S = SH ∧ (∃ n, n ≤ 30 ∧ M 1 4 = nI n) ∧ as = [.inr (.inl 1), .inl x], fun as S M rv_ S' M' => ∀ (x : Int32), ∀ n, n ≤ 30 → M 1 4 = nI n → as = [.inr (.inl 1), .inl x] → S' = S ∧ M' = M ∧ rv_ = some (.inl (if 0 ≤ x ∧ x < nI n then nI 1 else nI 0)), 0, 0)
theorem r_X4_has : ∀ as S M, q_X4_has.2.1 as S M → ∃ (k : Nat) (as' : List x_V) (fs : List (Option Nat)), as = .inr (.inl k) :: as' ∧ S[k]? = some (.inl (2, fs)) := by
  rintro as S M ⟨x, rfl, hpre, rfl⟩
  exact ⟨1, _, _, rfl, rfl⟩
def b_X4_has : x_B := [(0, 2, [(.iload_n 1, 1), (.ifCond .lt 15, 3), (.iload_n 1, 1), (.aload_n 0, 1), (.getfield 27, 3), (.if_icmp .ge 7, 3), (.iconst 1, 1), (.goto 4, 3)]),
  (16, 2, [(.iconst 0, 1)]),
  (17, 2, [(.ireturn, 1)])]
theorem b_X4_has_ok : x_okB cX4_has 2 b_X4_has = true := by decide +kernel
def X_X4_has : x_X := ([(27, 2, 4)], [], [], [], [], (0, 0), x_kn, x_kf, 5, false)
theorem X_X4_has_ok : x_okT RX4 X_X4_has = true := by decide +kernel
theorem k_X4_has (l : Launch) : ∀ z ∈ X_X4_has.2.2.2.2.1, x_Cal l (x_rm 1 0 0) cX4_has RX4 2 z.1 z.2 := fun _ h => absurd h List.not_mem_nil
set_option maxHeartbeats 4000000 in
set_option maxRecDepth 100000 in
theorem c_X4_has (l : Launch) : x_CT l yX4_has cX4_has 2 (some .boolean) 1 q_X4_has := by
  refine x_meth (X := X_X4_has) (bl := b_X4_has) (cut := []) (own := RX4) 30 (by decide) rfl X_X4_has_ok b_X4_has_ok rfl (Nat.le_of_ble_eq_true rfl) (k_X4_has l) ?_
  rintro as S M - ⟨x, rfl, hpre, rfl⟩
  refine ⟨fun _ _ _ _ _ _ _ _ => False, ?_, ?_⟩
  · skip
    refine xt_blk rfl rfl (by dsimp only [List.take]) ?_
    refine xt_iln1 rfl ?_
    refine xt_lt (t := 16) rfl (fun hc_1 => ?_) (fun hc_1 => ?_)
    · skip
      refine xt_blk rfl rfl (by dsimp only [List.take]) ?_
      refine xt_ic ?_
      refine xt_nil (t := 17) rfl ?_
      refine xt_blk rfl rfl (by dsimp only [List.take]) ?_
      refine xt_rz (by decide) rfl (Nat.le_refl _) ?_
      intro x2 n2 hn2 hsz2 e2
      simp only [List.cons.injEq, Sum.inl.injEq, and_true, true_and] at e2
      subst e2
      rw [← hsz2]
      exact ⟨rfl, rfl, by rw [if_neg (fun q => Int32.not_le.mpr hc_1 q.1)]⟩
    · skip
      refine xt_iln1 rfl ?_
      refine xt_aln0 rfl (by first | decide | omega | assumption) ?_
      refine xt_gfi (q := (2, 4)) rfl (by first | rfl | assumption) rfl ?_
      refine xt_cge (t := 16) rfl (fun hc_9 => ?_) (fun hc_9 => ?_)
      · skip
        refine xt_blk rfl rfl (by dsimp only [List.take]) ?_
        refine xt_ic ?_
        refine xt_nil (t := 17) rfl ?_
        refine xt_blk rfl rfl (by dsimp only [List.take]) ?_
        refine xt_rz (by decide) rfl (Nat.le_refl _) ?_
        intro x2 n2 hn2 hsz2 e2
        simp only [List.cons.injEq, Sum.inl.injEq, and_true, true_and] at e2
        subst e2
        rw [← hsz2]
        exact ⟨rfl, rfl, by rw [if_neg (fun q => Int32.not_lt.mpr hc_9 q.2)]⟩
      · skip
        refine xt_ic ?_
        refine xt_goto (t := 17) rfl ?_
        refine xt_blk rfl rfl (by dsimp only [List.take]) ?_
        refine xt_rz (by decide) rfl (Nat.le_refl _) ?_
        intro x2 n2 hn2 hsz2 e2
        simp only [List.cons.injEq, Sum.inl.injEq, and_true, true_and] at e2
        subst e2
        rw [← hsz2]
        exact ⟨rfl, rfl, by rw [if_pos ⟨Int32.not_lt.mp hc_1, Int32.not_le.mp hc_9⟩]⟩
  · intro μ pc ls st S2 M2 cs sl h; exact h.elim
theorem SHs (w : Nat) (hw : w < 2) : SH[5 + w]? = some (.inr (.inl (false, 30))) := by
  rcases (show w = 0 ∨ w = 1 by omega) with rfl | rfl <;> rfl
theorem sts : ∀ w, w < 2 → ([5, 6] : List Nat).getD w 0 = 5 + w := by decide
def q_X4_setOf : x_K := (3, fun as S M => ∃ (i : Nat) (w : Nat), i < 30 ∧ w < 2 ∧ S = SH ∧ as = [.inr (.inl 1), .inl (nI i), .inl (nI w)], fun as S M rv_ S' M' => ∀ (i : Nat) (w : Nat), i < 30 → w < 2 → as = [.inr (.inl 1), .inl (nI i), .inl (nI w)] → S' = S ∧ M' = M ∧ rv_ = some (.inl (M (5 + w) i)), 0, 0)
theorem r_X4_setOf : ∀ as S M, q_X4_setOf.2.1 as S M → ∃ (k : Nat) (as' : List x_V) (fs : List (Option Nat)), as = .inr (.inl k) :: as' ∧ S[k]? = some (.inl (2, fs)) := by
  rintro as S M ⟨i, w, hi, hw, rfl, rfl⟩
  exact ⟨1, _, _, rfl, rfl⟩
def b_X4_setOf : x_B := [(0, 3, [(.aload_n 0, 1), (.getfield 20, 3), (.iload_n 2, 1), (.aaload, 1), (.iload_n 1, 1), (.iaload, 1), (.ireturn, 1)])]
theorem b_X4_setOf_ok : x_okB cX4_setOf 3 b_X4_setOf = true := by decide +kernel
def X_X4_setOf : x_X := ([(20, 2, 2)], [], [], [], [], (0, 0), x_kn, x_kf, 5, false)
theorem X_X4_setOf_ok : x_okT RX4 X_X4_setOf = true := by decide +kernel
theorem k_X4_setOf (l : Launch) : ∀ z ∈ X_X4_setOf.2.2.2.2.1, x_Cal l (x_rm 1 0 0) cX4_setOf RX4 3 z.1 z.2 := fun _ h => absurd h List.not_mem_nil
set_option maxHeartbeats 4000000 in
set_option maxRecDepth 100000 in
theorem c_X4_setOf (l : Launch) : x_CT l yX4_setOf cX4_setOf 3 (some .int) 1 q_X4_setOf := by
  refine x_meth (X := X_X4_setOf) (bl := b_X4_setOf) (cut := []) (own := RX4) 30 (by decide) rfl X_X4_setOf_ok b_X4_setOf_ok rfl (Nat.le_of_ble_eq_true rfl) (k_X4_setOf l) ?_
  rintro as S M - ⟨i, w, hi, hw, rfl, rfl⟩
  refine ⟨fun _ _ _ _ _ _ _ _ => False, ?_, ?_⟩
  · skip
    refine xt_blk rfl rfl (by dsimp only [List.take]) ?_
    refine xt_aln0 rfl (by first | decide | omega | assumption) ?_
    refine xt_gfr (q := (2, 2)) rfl (by first | rfl | exact SHs w hw) rfl ?_
    refine xt_iln2 rfl ?_
    refine xt_ral (r := 5 + w) rfl (show vp_in _ 2 from vp_in_nI (by omega) (by decide)) (by rw [nI_clamp (by omega)]; exact sts w hw) (by omega) ?_
    refine xt_iln1 rfl ?_
    refine xt_ial (by first | rfl | exact SHs w hw) (show vp_in _ 30 from vp_in_nI (by omega) (by decide)) ?_
    refine xt_ri rfl (Nat.le_refl _) ?_
    intro i2 w2 h2i h2w e2
    simp only [List.cons.injEq, Sum.inl.injEq, Sum.inr.injEq, and_true, true_and] at e2
    obtain ⟨e2i, e2w⟩ := e2
    rw [nI_eq (by omega) (by omega)] at e2i
    subst e2i
    rw [nI_eq (by omega) (by omega)] at e2w
    subst e2w
    exact ⟨rfl, rfl, by rw [nI_clamp (by omega)]⟩
  · intro μ pc ls st S2 M2 cs sl h; exact h.elim
def tbf (t : Nat → Int32) : Nat → Nat
  | 0 => 0
  | i + 1 => if t i = 0 then tbf t i else tbf t i ||| 2 ^ i
theorem tbf_lt (t : Nat → Int32) : ∀ i, tbf t i < 2 ^ i
  | 0 => by simp [tbf]
  | i + 1 => by
    have h := tbf_lt t i
    have h2 : 2 ^ i < 2 ^ (i + 1) := Nat.pow_lt_pow_right (by decide) (by omega)
    unfold tbf
    split
    · omega
    · exact Nat.or_lt_two_pow (by omega) h2
def q_X4_toldBits : x_K := (1, fun as S M => S = SH ∧ (∃ n, n ≤ 30 ∧ M 1 4 = nI n) ∧ as = [.inr (.inl 1)], fun as S M rv_ S' M' => ∀ n, n ≤ 30 → M 1 4 = nI n → as = [.inr (.inl 1)] → S' = S ∧ M' = M ∧ rv_ = some (.inl (nI (tbf (M 7) n))), 0, 0)
theorem r_X4_toldBits : ∀ as S M, q_X4_toldBits.2.1 as S M → ∃ (k : Nat) (as' : List x_V) (fs : List (Option Nat)), as = .inr (.inl k) :: as' ∧ S[k]? = some (.inl (2, fs)) := by
  rintro as S M ⟨rfl, hpre, rfl⟩
  exact ⟨1, _, _, rfl, rfl⟩
def b_X4_toldBits : x_B := [(0, 1, [(.iconst 0, 1), (.istore_n 1, 1), (.iconst 0, 1), (.istore_n 2, 1)]),
  (4, 3, [(.iload_n 2, 1), (.aload_n 0, 1), (.getfield 27, 3), (.if_icmp .ge 24, 3), (.aload_n 0, 1), (.getfield 23, 3), (.iload_n 2, 1), (.baload, 1), (.ifCond .eq 9, 3), (.iload_n 1, 1), (.iconst 1, 1), (.iload_n 2, 1), (.ishl, 1), (.ior, 1), (.istore_n 1, 1)]),
  (27, 3, [(.iinc 2 1, 3), (.goto (-26), 3)]),
  (33, 3, [(.iload_n 1, 1), (.ireturn, 1)])]
theorem b_X4_toldBits_ok : x_okB cX4_toldBits 3 b_X4_toldBits = true := by decide +kernel
def X_X4_toldBits : x_X := ([(27, 2, 4), (23, 2, 3)], [], [], [], [], (0, 0), x_kn, x_kf, 5, false)
theorem X_X4_toldBits_ok : x_okT RX4 X_X4_toldBits = true := by decide +kernel
theorem k_X4_toldBits (l : Launch) : ∀ z ∈ X_X4_toldBits.2.2.2.2.1, x_Cal l (x_rm 1 0 0) cX4_toldBits RX4 3 z.1 z.2 := fun _ h => absurd h List.not_mem_nil
set_option maxHeartbeats 4000000 in
set_option maxRecDepth 100000 in
theorem c_X4_toldBits (l : Launch) : x_CT l yX4_toldBits cX4_toldBits 3 (some .int) 1 q_X4_toldBits := by
  refine x_meth (X := X_X4_toldBits) (bl := b_X4_toldBits) (cut := [4]) (own := RX4) 30 (by decide) rfl X_X4_toldBits_ok b_X4_toldBits_ok rfl (Nat.le_of_ble_eq_true rfl) (k_X4_toldBits l) ?_
  rintro as S M - ⟨rfl, hpre, rfl⟩
  refine ⟨fun μ pc ls st S' M' cs sl => ∃ n i, n ≤ 30 ∧ M 1 4 = nI n ∧ i ≤ n ∧ pc = 4 ∧ st = [] ∧ S' = SH ∧ M' = M ∧ cs = 0 ∧ sl = 0 ∧ ls = [.inr (.inl 1), .inl (nI (tbf (M 7) i)), .inl (nI i)] ∧ μ = n - i, ?_, ?_⟩
  · skip
    refine xt_blk rfl rfl (by dsimp only [List.take]) ?_
    refine xt_ic ?_
    refine xt_isn1 rfl (by dsimp only [x_sto]) ?_
    refine xt_ic ?_
    refine xt_isn2 rfl (by dsimp only [x_sto]) ?_
    refine xt_nil (t := 4) rfl ?_
    refine xt_cut rfl rfl (by dsimp only [List.take]) ?_
    obtain ⟨n, hn, hsz⟩ := hpre
    exact ⟨n, n, 0, hn, hsz, by omega, rfl, rfl, rfl, rfl, rfl, rfl, rfl, rfl⟩
  · rintro μ pc ls st S2 M2 cs sl (⟨n, i, hn, hsz, hi, rfl, rfl, rfl, rfl, rfl, rfl, rfl, rfl⟩)
    · refine ⟨_, rfl, ?_⟩
      refine xt_iln2 rfl ?_
      refine xt_aln0 rfl (by first | decide | omega | assumption) ?_
      refine xt_gfi (q := (2, 4)) rfl (by first | rfl | assumption) rfl ?_
      refine xt_cge (t := 33) rfl (fun hc_9 => ?_) (fun hc_9 => ?_)
      · skip
        refine xt_blk rfl rfl (by dsimp only [List.take]) ?_
        refine xt_iln1 rfl ?_
        refine xt_ri rfl (Nat.le_refl _) ?_
        have h30 : i = n := by rw [hsz, nI_leI (by omega) (by omega)] at hc_9; omega
        subst h30
        intro n2 hn2 hsz2 e2
        rw [hsz, nI_eq (by omega) (by omega)] at hsz2
        subst hsz2
        exact ⟨rfl, rfl, rfl⟩
      · skip
        refine xt_aln0 rfl (by first | decide | omega | assumption) ?_
        refine xt_gfr (q := (2, 3)) rfl (by first | rfl | assumption) rfl ?_
        refine xt_iln2 rfl ?_
        refine xt_bal (by first | rfl | assumption) (show vp_in _ 30 from vp_in_nI (by rw [hsz, nI_leI (by omega) (by omega)] at hc_9; omega) (by decide)) ?_
        refine xt_eq (t := 27) rfl (fun hc_18 => ?_) (fun hc_18 => ?_)
        · skip
          refine xt_blk rfl rfl (by dsimp only [List.take]) ?_
          refine xt_inc rfl (by dsimp only [x_sto]) ?_
          refine xt_goto (t := 4) rfl ?_
          refine xt_cut rfl rfl (by dsimp only [List.take]) ?_
          have hlt : i < n := by rw [hsz, nI_leI (by omega) (by omega)] at hc_9; omega
          have hp1 : 2 ^ i < 2 ^ 31 := Nat.pow_lt_pow_right (by decide) (by omega)
          rw [nI_clamp (by omega)] at hc_18
          exact ⟨n - (i + 1), by omega, n, i + 1, hn, hsz, by omega, rfl, rfl, rfl, rfl, rfl, rfl, by rw [nI_add]; simp only [tbf]; rw [if_pos hc_18], rfl⟩
        · skip
          refine xt_iln1 rfl ?_
          refine xt_ic ?_
          refine xt_iln2 rfl ?_
          refine xt_shl ?_
          refine xt_or ?_
          refine xt_isn1 rfl (by dsimp only [x_sto]) ?_
          refine xt_nil (t := 27) rfl ?_
          refine xt_blk rfl rfl (by dsimp only [List.take]) ?_
          refine xt_inc rfl (by dsimp only [x_sto]) ?_
          refine xt_goto (t := 4) rfl ?_
          refine xt_cut rfl rfl (by dsimp only [List.take]) ?_
          have hlt : i < n := by rw [hsz, nI_leI (by omega) (by omega)] at hc_9; omega
          have hp1 : 2 ^ i < 2 ^ 31 := Nat.pow_lt_pow_right (by decide) (by omega)
          rw [nI_clamp (by omega)] at hc_18
          exact ⟨n - (i + 1), by omega, n, i + 1, hn, hsz, by omega, rfl, rfl, rfl, rfl, rfl, rfl, by rw [n_shl (by omega) (by omega), Nat.one_mul, n_or, nI_add]; simp only [tbf]; rw [if_neg hc_18], rfl⟩
def mAdd (M : x_M) (n : Nat) (a b o u : Int32) : x_M := fun k => if k = 1 then upd (upd (M 1) 4 (nI (n + 1))) 5 (M 1 5 + nI 1) else if k = 7 then upd (M 7) n (nI 1) else if k = 6 then upd (M 6) n u else if k = 5 then upd (M 5) n o else if k = 3 then upd (M 3) n b else if k = 2 then upd (M 2) n a else M k
def q_X4_add : x_K := (5, fun as S M => ∃ (a : Int32) (b : Int32) (o : Int32) (u : Int32), S = SH ∧ (∃ n, n < 30 ∧ M 1 4 = nI n) ∧ as = [.inr (.inl 1), .inl a, .inl b, .inl o, .inl u], fun as S M rv_ S' M' => ∀ (a : Int32) (b : Int32) (o : Int32) (u : Int32), ∀ n, n < 30 → M 1 4 = nI n → as = [.inr (.inl 1), .inl a, .inl b, .inl o, .inl u] → S' = S ∧ M' = mAdd M n a b o u ∧ rv_ = some (.inl (nI n)), 0, 0)
theorem r_X4_add : ∀ as S M, q_X4_add.2.1 as S M → ∃ (k : Nat) (as' : List x_V) (fs : List (Option Nat)), as = .inr (.inl k) :: as' ∧ S[k]? = some (.inl (2, fs)) := by
  rintro as S M ⟨a, b, o, u, rfl, hpre, rfl⟩
  exact ⟨1, _, _, rfl, rfl⟩
def b_X4_add : x_B := [(0, 5, [(.aload_n 0, 1), (.invokevirtual 34, 3), (.ifCond .eq 6, 3), (.bipush (-6), 2), (.ireturn, 1)]),
  (10, 5, [(.aload_n 0, 1), (.getfield 27, 3), (.istore 5, 2), (.aload_n 0, 1), (.getfield 9, 3), (.iload 5, 2), (.iload_n 1, 1), (.iastore, 1), (.aload_n 0, 1), (.getfield 15, 3), (.iload 5, 2), (.iload_n 2, 1), (.iastore, 1), (.aload_n 0, 1), (.getfield 20, 3), (.iconst 0, 1), (.aaload, 1), (.iload 5, 2), (.iload_n 3, 1), (.iastore, 1), (.aload_n 0, 1), (.getfield 20, 3), (.iconst 1, 1), (.aaload, 1), (.iload 5, 2), (.iload 4, 2), (.iastore, 1), (.aload_n 0, 1), (.getfield 23, 3), (.iload 5, 2), (.iconst 1, 1), (.bastore, 1), (.aload_n 0, 1), (.dup, 1), (.getfield 27, 3), (.iconst 1, 1), (.iadd, 1), (.putfield 27, 3), (.aload_n 0, 1), (.dup, 1), (.getfield 31, 3), (.iconst 1, 1), (.iadd, 1), (.putfield 31, 3), (.iload 5, 2), (.ireturn, 1)])]
theorem b_X4_add_ok : x_okB cX4_add 6 b_X4_add = true := by decide +kernel
def X_X4_add : x_X := ([(27, 2, 4), (9, 2, 0), (15, 2, 1), (20, 2, 2), (23, 2, 3), (31, 2, 5)], [], [], [], [(103, q_X4_isFull)], (0, 0), x_kn, x_kf, 5, false)
theorem X_X4_add_ok : x_okT RX4 X_X4_add = true := by decide +kernel
theorem k_X4_add (l : Launch) : ∀ z ∈ X_X4_add.2.2.2.2.1, x_Cal l (x_rm 2 0 0) cX4_add RX4 6 z.1 z.2 := List.forall_mem_cons.mpr ⟨x_cal_V (idx := 34) (ci := 2) (n := 0) (c_X4_isFull l) ⟨by decide, by decide⟩ (by decide +kernel) (by decide +kernel) (by decide +kernel) (by decide +kernel) (by decide +kernel) rfl rfl rfl (by decide +kernel) r_X4_isFull, fun _ h => absurd h List.not_mem_nil⟩
set_option maxHeartbeats 4000000 in
set_option maxRecDepth 100000 in
theorem c_X4_add (l : Launch) : x_CT l yX4_add cX4_add 6 (some .int) 2 q_X4_add := by
  refine x_meth (X := X_X4_add) (bl := b_X4_add) (cut := []) (own := RX4) 30 (by decide) rfl X_X4_add_ok b_X4_add_ok rfl (Nat.le_of_ble_eq_true rfl) (k_X4_add l) ?_
  rintro as S M - ⟨a, b, o, u, rfl, hpre, rfl⟩
  refine ⟨fun _ _ _ _ _ _ _ _ => False, ?_, ?_⟩
  · skip
    refine xt_blk rfl rfl (by dsimp only [List.take]) ?_
    refine xt_aln0 rfl (by first | decide | omega | assumption) ?_
    refine xt_v1 (key := 103) (q := q_X4_isFull) rfl rfl rfl rfl rfl ⟨Nat.le_of_ble_eq_true rfl, Nat.le_of_ble_eq_true rfl⟩ (by obtain ⟨n, hn, hsz⟩ := hpre; exact ⟨rfl, ⟨n, by omega, hsz⟩, rfl⟩) (fun rv_ S1 M1 hq_1 => ?_)
    obtain ⟨n, hn30, hsz⟩ := hpre
    obtain ⟨eS_, eM_, rfl⟩ := hq_1 n (by omega) hsz rfl
    replace eS_ := eS_.symm
    replace eM_ := eM_.symm
    subst eS_ eM_
    try dsimp only [Option.toList, List.cons_append, List.nil_append]
    refine xt_eq (t := 10) rfl (fun hc_4 => ?_) (fun hc_4 => ?_)
    · skip
      refine xt_blk rfl rfl (by dsimp only [List.take]) ?_
      refine xt_aln0 rfl (by first | decide | omega | assumption) ?_
      refine xt_gfi (q := (2, 4)) rfl (by first | rfl | assumption) rfl ?_
      refine xt_ist rfl (by dsimp only [x_sto]) ?_
      refine xt_aln0 rfl (by first | decide | omega | assumption) ?_
      refine xt_gfr (q := (2, 0)) rfl (by first | rfl | assumption) rfl ?_
      refine xt_ild rfl ?_
      refine xt_iln1 rfl ?_
      refine xt_ias (by first | rfl | assumption) (show vp_in _ 30 from by first | (rw [hsz]; exact vp_in_nI hn30 (by decide)) | (simp only [x_row]; rw [hsz]; exact vp_in_nI hn30 (by decide))) ?_
      refine xt_aln0 rfl (by first | decide | omega | assumption) ?_
      refine xt_gfr (q := (2, 1)) rfl (by first | rfl | assumption) rfl ?_
      refine xt_ild rfl ?_
      refine xt_iln2 rfl ?_
      refine xt_ias (by first | rfl | assumption) (show vp_in _ 30 from by first | (rw [hsz]; exact vp_in_nI hn30 (by decide)) | (simp only [x_row]; rw [hsz]; exact vp_in_nI hn30 (by decide))) ?_
      refine xt_aln0 rfl (by first | decide | omega | assumption) ?_
      refine xt_gfr (q := (2, 2)) rfl (by first | rfl | assumption) rfl ?_
      refine xt_ic ?_
      refine xt_ral (r := 5) rfl (show vp_in _ 2 from vp_in_nI (by decide) (by decide)) rfl (by decide) ?_
      refine xt_ild rfl ?_
      refine xt_iln3 rfl ?_
      refine xt_ias (by first | rfl | assumption) (show vp_in _ 30 from by first | (rw [hsz]; exact vp_in_nI hn30 (by decide)) | (simp only [x_row]; rw [hsz]; exact vp_in_nI hn30 (by decide))) ?_
      refine xt_aln0 rfl (by first | decide | omega | assumption) ?_
      refine xt_gfr (q := (2, 2)) rfl (by first | rfl | assumption) rfl ?_
      refine xt_ic ?_
      refine xt_ral (r := 6) rfl (show vp_in _ 2 from vp_in_nI (by decide) (by decide)) rfl (by decide) ?_
      refine xt_ild rfl ?_
      refine xt_ild rfl ?_
      refine xt_ias (by first | rfl | assumption) (show vp_in _ 30 from by first | (rw [hsz]; exact vp_in_nI hn30 (by decide)) | (simp only [x_row]; rw [hsz]; exact vp_in_nI hn30 (by decide))) ?_
      refine xt_aln0 rfl (by first | decide | omega | assumption) ?_
      refine xt_gfr (q := (2, 3)) rfl (by first | rfl | assumption) rfl ?_
      refine xt_ild rfl ?_
      refine xt_ic ?_
      refine xt_bas (by first | rfl | assumption) (show vp_in _ 30 from by first | (rw [hsz]; exact vp_in_nI hn30 (by decide)) | (simp only [x_row]; rw [hsz]; exact vp_in_nI hn30 (by decide))) (Or.inr rfl) ?_
      refine xt_aln0 rfl (by first | decide | omega | assumption) ?_
      refine xt_dup ?_
      refine xt_gfi (q := (2, 4)) rfl (by first | rfl | assumption) rfl ?_
      refine xt_ic ?_
      refine xt_add ?_
      refine xt_pfi (q := (2, 4)) rfl (by first | rfl | assumption) rfl (by decide) (Or.inl rfl) ?_
      refine xt_aln0 rfl (by first | decide | omega | assumption) ?_
      refine xt_dup ?_
      refine xt_gfi (q := (2, 5)) rfl (by first | rfl | assumption) rfl ?_
      refine xt_ic ?_
      refine xt_add ?_
      refine xt_pfi (q := (2, 5)) rfl (by first | rfl | assumption) rfl (by decide) (Or.inl rfl) ?_
      refine xt_ild rfl ?_
      refine xt_ri rfl (Nat.le_refl _) ?_
      intro a2 b2 o2 u2 n2 hn2 hsz2 e2
      simp only [List.cons.injEq, Sum.inl.injEq, and_true, true_and] at e2
      obtain ⟨rfl, rfl, rfl, rfl⟩ := e2
      rw [hsz, nI_eq (by omega) (by omega)] at hsz2
      subst hsz2
      refine ⟨rfl, ?_, by rw [hsz]⟩
      funext k
      simp only [mAdd, x_row, hsz, nI_clamp (show n < 2 ^ 31 by omega)]
      by_cases k1 : k = 1
      · subst k1; simp [upd, hsz, nI_add]
      · by_cases k7 : k = 7
        · subst k7; simp
        · by_cases k6 : k = 6
          · subst k6; simp
          · by_cases k5 : k = 5
            · subst k5; simp
            · by_cases k3 : k = 3
              · subst k3; simp
              · by_cases k2 : k = 2
                · subst k2; simp
                · simp [k1, k7, k6, k5, k3, k2]
    · skip
      refine xt_bim rfl ?_
      refine xt_ri rfl (Nat.le_refl _) ?_
      exact absurd (by rw [if_neg (by omega)]; rfl) hc_4
  · intro μ pc ls st S2 M2 cs sl h; exact h.elim
end
section
/-! STATEMENTS: turnSilent, howManyTold; BOXES -/
def tl (x : Int32) : Int32 := if x = 0 then nI 1 else nI 0
def mSil (M : x_M) (i : Nat) (x : Int32) : x_M := if M 7 i = tl x then M else fun k => if k = 7 then upd (M 7) i (tl x) else if k = 1 then upd (M 1) 5 (M 1 5 + nI 1) else M k
def q_X4_turnSilent : x_K := (3, fun as S M => ∃ (i : Nat) (x : Int32), i < 30 ∧ S = SH ∧ as = [.inr (.inl 1), .inl (nI i), .inl x], fun as S M rv_ S' M' => ∀ (i : Nat) (x : Int32), i < 30 → as = [.inr (.inl 1), .inl (nI i), .inl x] → S' = S ∧ M' = mSil M i x ∧ rv_ = some (.inl (if M 7 i = tl x then nI 0 else nI 1)), 0, 0)
theorem r_X4_turnSilent : ∀ as S M, q_X4_turnSilent.2.1 as S M → ∃ (k : Nat) (as' : List x_V) (fs : List (Option Nat)), as = .inr (.inl k) :: as' ∧ S[k]? = some (.inl (2, fs)) := by
  rintro as S M ⟨i, x, hi, rfl, rfl⟩
  exact ⟨1, _, _, rfl, rfl⟩
def b_X4_turnSilent : x_B := [(0, 3, [(.iload_n 2, 1), (.ifCond .ne 7, 3), (.iconst 1, 1), (.goto 4, 3)]),
  (8, 3, [(.iconst 0, 1)]),
  (9, 3, [(.istore_n 3, 1), (.aload_n 0, 1), (.getfield 23, 3), (.iload_n 1, 1), (.baload, 1), (.iload_n 3, 1), (.if_icmp .ne 5, 3), (.iconst 0, 1), (.ireturn, 1)]),
  (22, 4, [(.aload_n 0, 1), (.getfield 23, 3), (.iload_n 1, 1), (.iload_n 3, 1), (.bastore, 1), (.aload_n 0, 1), (.dup, 1), (.getfield 31, 3), (.iconst 1, 1), (.iadd, 1), (.putfield 31, 3), (.iconst 1, 1), (.ireturn, 1)])]
theorem b_X4_turnSilent_ok : x_okB cX4_turnSilent 4 b_X4_turnSilent = true := by decide +kernel
def X_X4_turnSilent : x_X := ([(23, 2, 3), (31, 2, 5)], [], [], [], [], (0, 0), x_kn, x_kf, 5, false)
theorem X_X4_turnSilent_ok : x_okT RX4 X_X4_turnSilent = true := by decide +kernel
theorem k_X4_turnSilent (l : Launch) : ∀ z ∈ X_X4_turnSilent.2.2.2.2.1, x_Cal l (x_rm 1 0 0) cX4_turnSilent RX4 4 z.1 z.2 := fun _ h => absurd h List.not_mem_nil
set_option maxHeartbeats 4000000 in
set_option maxRecDepth 100000 in
theorem c_X4_turnSilent (l : Launch) : x_CT l yX4_turnSilent cX4_turnSilent 4 (some .boolean) 1 q_X4_turnSilent := by
  refine x_meth (X := X_X4_turnSilent) (bl := b_X4_turnSilent) (cut := []) (own := RX4) 30 (by decide) rfl X_X4_turnSilent_ok b_X4_turnSilent_ok rfl (Nat.le_of_ble_eq_true rfl) (k_X4_turnSilent l) ?_
  rintro as S M - ⟨i, x, hi, rfl, rfl⟩
  refine ⟨fun _ _ _ _ _ _ _ _ => False, ?_, ?_⟩
  · skip
    refine xt_blk rfl rfl (by dsimp only [List.take]) ?_
    refine xt_iln2 rfl ?_
    refine xt_ne (t := 8) rfl (fun hc_1 => ?_) (fun hc_1 => ?_)
    · skip
      refine xt_blk rfl rfl (by dsimp only [List.take]) ?_
      refine xt_ic ?_
      refine xt_nil (t := 9) rfl ?_
      refine xt_blk rfl rfl (by dsimp only [List.take]) ?_
      refine xt_isn3 rfl (by dsimp only [x_sto]) ?_
      refine xt_aln0 rfl (by first | decide | omega | assumption) ?_
      refine xt_gfr (q := (2, 3)) rfl (by first | rfl | assumption) rfl ?_
      refine xt_iln1 rfl ?_
      refine xt_bal (by first | rfl | assumption) (show vp_in _ 30 from vp_in_nI (by omega) (by decide)) ?_
      refine xt_iln3 rfl ?_
      refine xt_cne (t := 22) rfl (fun hc_17 => ?_) (fun hc_17 => ?_)
      · skip
        refine xt_blk rfl rfl (by dsimp only [List.take]) ?_
        refine xt_aln0 rfl (by first | decide | omega | assumption) ?_
        refine xt_gfr (q := (2, 3)) rfl (by first | rfl | assumption) rfl ?_
        refine xt_iln1 rfl ?_
        refine xt_iln3 rfl ?_
        refine xt_bas (by first | rfl | assumption) (show vp_in _ 30 from vp_in_nI (by omega) (by decide)) (by decide) ?_
        refine xt_aln0 rfl (by first | decide | omega | assumption) ?_
        refine xt_dup ?_
        refine xt_gfi (q := (2, 5)) rfl (by first | rfl | assumption) rfl ?_
        refine xt_ic ?_
        refine xt_add ?_
        refine xt_pfi (q := (2, 5)) rfl (by first | rfl | assumption) rfl (by decide) (Or.inl rfl) ?_
        refine xt_ic ?_
        refine xt_rz (by decide) rfl (Nat.le_refl _) ?_
        have etl : tl x = nI 0 := by unfold tl; rw [if_neg hc_1]
        rw [nI_clamp (by omega), ← etl] at hc_17
        intro i2 x2 h2i e2
        simp only [List.cons.injEq, Sum.inl.injEq, Sum.inr.injEq, and_true, true_and] at e2
        obtain ⟨e2i, e2x⟩ := e2
        rw [nI_eq (by omega) (by omega)] at e2i
        subst e2i
        subst e2x
        refine ⟨rfl, ?_, by rw [if_neg hc_17]⟩
        unfold mSil
        rw [if_neg hc_17, etl, nI_clamp (by omega)]
        funext k
        simp only [x_row]
        by_cases k1 : k = 1
        · subst k1; simp
        · by_cases k7 : k = 7
          · subst k7; simp
          · simp [k1, k7]
      · skip
        refine xt_ic ?_
        refine xt_rz (by decide) rfl (Nat.le_refl _) ?_
        have etl : tl x = nI 0 := by unfold tl; rw [if_neg hc_1]
        rw [nI_clamp (by omega), ← etl] at hc_17
        intro i2 x2 h2i e2
        simp only [List.cons.injEq, Sum.inl.injEq, Sum.inr.injEq, and_true, true_and] at e2
        obtain ⟨e2i, e2x⟩ := e2
        rw [nI_eq (by omega) (by omega)] at e2i
        subst e2i
        subst e2x
        exact ⟨rfl, by unfold mSil; rw [if_pos hc_17], by rw [if_pos hc_17]⟩
    · skip
      refine xt_ic ?_
      refine xt_goto (t := 9) rfl ?_
      refine xt_blk rfl rfl (by dsimp only [List.take]) ?_
      refine xt_isn3 rfl (by dsimp only [x_sto]) ?_
      refine xt_aln0 rfl (by first | decide | omega | assumption) ?_
      refine xt_gfr (q := (2, 3)) rfl (by first | rfl | assumption) rfl ?_
      refine xt_iln1 rfl ?_
      refine xt_bal (by first | rfl | assumption) (show vp_in _ 30 from vp_in_nI (by omega) (by decide)) ?_
      refine xt_iln3 rfl ?_
      refine xt_cne (t := 22) rfl (fun hc_17 => ?_) (fun hc_17 => ?_)
      · skip
        refine xt_blk rfl rfl (by dsimp only [List.take]) ?_
        refine xt_aln0 rfl (by first | decide | omega | assumption) ?_
        refine xt_gfr (q := (2, 3)) rfl (by first | rfl | assumption) rfl ?_
        refine xt_iln1 rfl ?_
        refine xt_iln3 rfl ?_
        refine xt_bas (by first | rfl | assumption) (show vp_in _ 30 from vp_in_nI (by omega) (by decide)) (by decide) ?_
        refine xt_aln0 rfl (by first | decide | omega | assumption) ?_
        refine xt_dup ?_
        refine xt_gfi (q := (2, 5)) rfl (by first | rfl | assumption) rfl ?_
        refine xt_ic ?_
        refine xt_add ?_
        refine xt_pfi (q := (2, 5)) rfl (by first | rfl | assumption) rfl (by decide) (Or.inl rfl) ?_
        refine xt_ic ?_
        refine xt_rz (by decide) rfl (Nat.le_refl _) ?_
        have etl : tl x = nI 1 := by unfold tl; rw [if_pos hc_1]
        rw [nI_clamp (by omega), ← etl] at hc_17
        intro i2 x2 h2i e2
        simp only [List.cons.injEq, Sum.inl.injEq, Sum.inr.injEq, and_true, true_and] at e2
        obtain ⟨e2i, e2x⟩ := e2
        rw [nI_eq (by omega) (by omega)] at e2i
        subst e2i
        subst e2x
        refine ⟨rfl, ?_, by rw [if_neg hc_17]⟩
        unfold mSil
        rw [if_neg hc_17, etl, nI_clamp (by omega)]
        funext k
        simp only [x_row]
        by_cases k1 : k = 1
        · subst k1; simp
        · by_cases k7 : k = 7
          · subst k7; simp
          · simp [k1, k7]
      · skip
        refine xt_ic ?_
        refine xt_rz (by decide) rfl (Nat.le_refl _) ?_
        have etl : tl x = nI 1 := by unfold tl; rw [if_pos hc_1]
        rw [nI_clamp (by omega), ← etl] at hc_17
        intro i2 x2 h2i e2
        simp only [List.cons.injEq, Sum.inl.injEq, Sum.inr.injEq, and_true, true_and] at e2
        obtain ⟨e2i, e2x⟩ := e2
        rw [nI_eq (by omega) (by omega)] at e2i
        subst e2i
        subst e2x
        exact ⟨rfl, by unfold mSil; rw [if_pos hc_17], by rw [if_pos hc_17]⟩
  · intro μ pc ls st S2 M2 cs sl h; exact h.elim
def q_X4_howManyTold : x_K := (1, fun as S M => S = SH ∧ (∃ n, n ≤ 30 ∧ M 1 4 = nI n) ∧ as = [.inr (.inl 1)], fun as S M rv_ S' M' => ∀ n, n ≤ 30 → M 1 4 = nI n → as = [.inr (.inl 1)] → S' = S ∧ M' = M ∧ rv_ = some (.inl (bcI (nI (tbf (M 7) n)))), 0, 0)
theorem r_X4_howManyTold : ∀ as S M, q_X4_howManyTold.2.1 as S M → ∃ (k : Nat) (as' : List x_V) (fs : List (Option Nat)), as = .inr (.inl k) :: as' ∧ S[k]? = some (.inl (2, fs)) := by
  rintro as S M ⟨rfl, hpre, rfl⟩
  exact ⟨1, _, _, rfl, rfl⟩
def b_X4_howManyTold : x_B := [(0, 1, [(.aload_n 0, 1), (.invokevirtual 38, 3), (.invokestatic 42, 3), (.ireturn, 1)])]
theorem b_X4_howManyTold_ok : x_okB cX4_howManyTold 1 b_X4_howManyTold = true := by decide +kernel
def X_X4_howManyTold : x_X := ([], [], [], [], [(115, q_X4_toldBits), (126, q_J6_bitCount)], (0, 0), x_kn, x_kf, 5, false)
theorem X_X4_howManyTold_ok : x_okT RX4 X_X4_howManyTold = true := by decide +kernel
theorem k_X4_howManyTold (l : Launch) : ∀ z ∈ X_X4_howManyTold.2.2.2.2.1, x_Cal l (x_rm 2 0 0) cX4_howManyTold RX4 1 z.1 z.2 := List.forall_mem_cons.mpr ⟨x_cal_V (idx := 38) (ci := 2) (n := 0) (c_X4_toldBits l) ⟨by decide, by decide⟩ (by decide +kernel) (by decide +kernel) (by decide +kernel) (by decide +kernel) (by decide +kernel) rfl rfl rfl (by decide +kernel) r_X4_toldBits, List.forall_mem_cons.mpr ⟨x_cal_S (idx := 42) (c_J6_bitCount l) ⟨by decide, by decide⟩ (by decide +kernel) (by decide +kernel) (by decide +kernel) (by decide +kernel) (by decide +kernel), fun _ h => absurd h List.not_mem_nil⟩⟩
set_option maxHeartbeats 4000000 in
set_option maxRecDepth 100000 in
theorem c_X4_howManyTold (l : Launch) : x_CT l yX4_howManyTold cX4_howManyTold 1 (some .int) 2 q_X4_howManyTold := by
  refine x_meth (X := X_X4_howManyTold) (bl := b_X4_howManyTold) (cut := []) (own := RX4) 30 (by decide) rfl X_X4_howManyTold_ok b_X4_howManyTold_ok rfl (Nat.le_of_ble_eq_true rfl) (k_X4_howManyTold l) ?_
  rintro as S M - ⟨rfl, hpre, rfl⟩
  refine ⟨fun _ _ _ _ _ _ _ _ => False, ?_, ?_⟩
  · skip
    refine xt_blk rfl rfl (by dsimp only [List.take]) ?_
    refine xt_aln0 rfl (by first | decide | omega | assumption) ?_
    refine xt_v1 (key := 115) (q := q_X4_toldBits) rfl rfl rfl rfl rfl ⟨Nat.le_of_ble_eq_true rfl, Nat.le_of_ble_eq_true rfl⟩ (by exact ⟨rfl, hpre, rfl⟩) (fun rv_ S1 M1 hq_1 => ?_)
    obtain ⟨n, hn, hsz⟩ := hpre
    obtain ⟨eS_, eM_, rfl⟩ := hq_1 n hn hsz rfl
    replace eS_ := eS_.symm
    replace eM_ := eM_.symm
    subst eS_ eM_
    try dsimp only [Option.toList, List.cons_append, List.nil_append]
    refine xt_v1 (key := 126) (q := q_J6_bitCount) rfl rfl rfl rfl rfl ⟨Nat.le_of_ble_eq_true rfl, Nat.le_of_ble_eq_true rfl⟩ ⟨_, rfl⟩ (fun rv_ S1 M1 hq_4 => ?_)
    obtain ⟨eS_, eM_, rfl⟩ := hq_4 _ rfl
    replace eS_ := eS_.symm
    replace eM_ := eM_.symm
    subst eS_ eM_
    try dsimp only [Option.toList, List.cons_append, List.nil_append]
    refine xt_ri rfl (Nat.le_refl _) ?_
    intro n2 hn2 hsz2 e2
    rw [hsz, nI_eq (by omega) (by omega)] at hsz2
    subst hsz2
    exact ⟨rfl, rfl, rfl⟩
  · intro μ pc ls st S2 M2 cs sl h; exact h.elim
def q_X0_has : x_K := (2, fun as S M => ∃ (t : Nat), t < 6 ∧ S = SH ∧ (∀ j, j < 6 → M 42 j = nI 0 ∨ M 42 j = nI 1) ∧ as = [.inr (.inl 40), .inl (nI t)], fun as S M rv_ S' M' => ∀ (t : Nat), t < 6 → as = [.inr (.inl 40), .inl (nI t)] → S' = S ∧ M' = M ∧ rv_ = some (.inl (M 42 t)), 0, 0)
theorem r_X0_has : ∀ as S M, q_X0_has.2.1 as S M → ∃ (k : Nat) (as' : List x_V) (fs : List (Option Nat)), as = .inr (.inl k) :: as' ∧ S[k]? = some (.inl (0, fs)) := by
  rintro as S M ⟨t, ht, rfl, hpre, rfl⟩
  exact ⟨40, _, _, rfl, rfl⟩
def b_X0_has : x_B := [(0, 2, [(.aload_n 0, 1), (.getfield 15, 3), (.iload_n 1, 1), (.baload, 1), (.ireturn, 1)])]
theorem b_X0_has_ok : x_okB cX0_has 2 b_X0_has = true := by decide +kernel
def X_X0_has : x_X := ([(15, 0, 1)], [], [], [], [], (0, 0), x_kn, x_kf, 5, false)
theorem X_X0_has_ok : x_okT RX0 X_X0_has = true := by decide +kernel
theorem k_X0_has (l : Launch) : ∀ z ∈ X_X0_has.2.2.2.2.1, x_Cal l (x_rm 1 0 0) cX0_has RX0 2 z.1 z.2 := fun _ h => absurd h List.not_mem_nil
set_option maxHeartbeats 4000000 in
set_option maxRecDepth 100000 in
theorem c_X0_has (l : Launch) : x_CT l yX0_has cX0_has 2 (some .boolean) 1 q_X0_has := by
  refine x_meth (X := X_X0_has) (bl := b_X0_has) (cut := []) (own := RX0) 30 (by decide) rfl X_X0_has_ok b_X0_has_ok rfl (Nat.le_of_ble_eq_true rfl) (k_X0_has l) ?_
  rintro as S M - ⟨t, ht, rfl, hpre, rfl⟩
  refine ⟨fun _ _ _ _ _ _ _ _ => False, ?_, ?_⟩
  · skip
    refine xt_blk rfl rfl (by dsimp only [List.take]) ?_
    refine xt_aln0 rfl (by first | decide | omega | assumption) ?_
    refine xt_gfr (q := (0, 1)) rfl (by first | rfl | assumption) rfl ?_
    refine xt_iln1 rfl ?_
    refine xt_bal (by first | rfl | assumption) (show vp_in _ 6 from vp_in_nI (by omega) (by decide)) ?_
    refine xt_rz (by rw [nI_clamp (by omega)]; exact hpre t ht) rfl (Nat.le_refl _) ?_
    intro t2 h2t e2
    simp only [List.cons.injEq, Sum.inl.injEq, Sum.inr.injEq, and_true, true_and] at e2
    have e2t := e2
    rw [nI_eq (by omega) (by omega)] at e2t
    subst e2t
    exact ⟨rfl, rfl, by rw [nI_clamp (by omega)]⟩
  · intro μ pc ls st S2 M2 cs sl h; exact h.elim
def q_X0_haveBoth : x_K := (3, fun as S M => ∃ (a : Nat) (b : Nat), a < 6 ∧ b < 6 ∧ S = SH ∧ as = [.inr (.inl 40), .inl (nI a), .inl (nI b)], fun as S M rv_ S' M' => ∀ (a : Nat) (b : Nat), a < 6 → b < 6 → as = [.inr (.inl 40), .inl (nI a), .inl (nI b)] → S' = S ∧ M' = M ∧ rv_ = some (.inl (if M 42 a ≠ 0 ∧ M 42 b ≠ 0 then nI 1 else nI 0)), 0, 0)
theorem r_X0_haveBoth : ∀ as S M, q_X0_haveBoth.2.1 as S M → ∃ (k : Nat) (as' : List x_V) (fs : List (Option Nat)), as = .inr (.inl k) :: as' ∧ S[k]? = some (.inl (0, fs)) := by
  rintro as S M ⟨a, b, ha, hb, rfl, rfl⟩
  exact ⟨40, _, _, rfl, rfl⟩
def b_X0_haveBoth : x_B := [(0, 3, [(.aload_n 0, 1), (.getfield 15, 3), (.iload_n 1, 1), (.baload, 1), (.ifCond .eq 16, 3), (.aload_n 0, 1), (.getfield 15, 3), (.iload_n 2, 1), (.baload, 1), (.ifCond .eq 7, 3), (.iconst 1, 1), (.goto 4, 3)]),
  (22, 3, [(.iconst 0, 1)]),
  (23, 3, [(.ireturn, 1)])]
theorem b_X0_haveBoth_ok : x_okB cX0_haveBoth 3 b_X0_haveBoth = true := by decide +kernel
def X_X0_haveBoth : x_X := ([(15, 0, 1)], [], [], [], [], (0, 0), x_kn, x_kf, 5, false)
theorem X_X0_haveBoth_ok : x_okT RX0 X_X0_haveBoth = true := by decide +kernel
theorem k_X0_haveBoth (l : Launch) : ∀ z ∈ X_X0_haveBoth.2.2.2.2.1, x_Cal l (x_rm 1 0 0) cX0_haveBoth RX0 3 z.1 z.2 := fun _ h => absurd h List.not_mem_nil
set_option maxHeartbeats 4000000 in
set_option maxRecDepth 100000 in
theorem c_X0_haveBoth (l : Launch) : x_CT l yX0_haveBoth cX0_haveBoth 3 (some .boolean) 1 q_X0_haveBoth := by
  refine x_meth (X := X_X0_haveBoth) (bl := b_X0_haveBoth) (cut := []) (own := RX0) 30 (by decide) rfl X_X0_haveBoth_ok b_X0_haveBoth_ok rfl (Nat.le_of_ble_eq_true rfl) (k_X0_haveBoth l) ?_
  rintro as S M - ⟨a, b, ha, hb, rfl, rfl⟩
  refine ⟨fun _ _ _ _ _ _ _ _ => False, ?_, ?_⟩
  · skip
    refine xt_blk rfl rfl (by dsimp only [List.take]) ?_
    refine xt_aln0 rfl (by first | decide | omega | assumption) ?_
    refine xt_gfr (q := (0, 1)) rfl (by first | rfl | assumption) rfl ?_
    refine xt_iln1 rfl ?_
    refine xt_bal (by first | rfl | assumption) (show vp_in _ 6 from vp_in_nI (by omega) (by decide)) ?_
    refine xt_eq (t := 22) rfl (fun hc_6 => ?_) (fun hc_6 => ?_)
    · skip
      refine xt_blk rfl rfl (by dsimp only [List.take]) ?_
      refine xt_ic ?_
      refine xt_nil (t := 23) rfl ?_
      refine xt_blk rfl rfl (by dsimp only [List.take]) ?_
      refine xt_rz (by decide) rfl (Nat.le_refl _) ?_
      rw [nI_clamp (by omega)] at hc_6
      intro a2 b2 h2a h2b e2
      simp only [List.cons.injEq, Sum.inl.injEq, Sum.inr.injEq, and_true, true_and] at e2
      obtain ⟨e2a, e2b⟩ := e2
      rw [nI_eq (by omega) (by omega)] at e2a
      subst e2a
      rw [nI_eq (by omega) (by omega)] at e2b
      subst e2b
      exact ⟨rfl, rfl, by rw [if_neg (fun q => q.1 hc_6)]⟩
    · skip
      refine xt_aln0 rfl (by first | decide | omega | assumption) ?_
      refine xt_gfr (q := (0, 1)) rfl (by first | rfl | assumption) rfl ?_
      refine xt_iln2 rfl ?_
      refine xt_bal (by first | rfl | assumption) (show vp_in _ 6 from vp_in_nI (by omega) (by decide)) ?_
      refine xt_eq (t := 22) rfl (fun hc_15 => ?_) (fun hc_15 => ?_)
      · skip
        refine xt_blk rfl rfl (by dsimp only [List.take]) ?_
        refine xt_ic ?_
        refine xt_nil (t := 23) rfl ?_
        refine xt_blk rfl rfl (by dsimp only [List.take]) ?_
        refine xt_rz (by decide) rfl (Nat.le_refl _) ?_
        rw [nI_clamp (by omega)] at hc_15
        intro a2 b2 h2a h2b e2
        simp only [List.cons.injEq, Sum.inl.injEq, Sum.inr.injEq, and_true, true_and] at e2
        obtain ⟨e2a, e2b⟩ := e2
        rw [nI_eq (by omega) (by omega)] at e2a
        subst e2a
        rw [nI_eq (by omega) (by omega)] at e2b
        subst e2b
        exact ⟨rfl, rfl, by rw [if_neg (fun q => q.2 hc_15)]⟩
      · skip
        refine xt_ic ?_
        refine xt_goto (t := 23) rfl ?_
        refine xt_blk rfl rfl (by dsimp only [List.take]) ?_
        refine xt_rz (by decide) rfl (Nat.le_refl _) ?_
        rw [nI_clamp (by omega)] at hc_6 hc_15
        intro a2 b2 h2a h2b e2
        simp only [List.cons.injEq, Sum.inl.injEq, Sum.inr.injEq, and_true, true_and] at e2
        obtain ⟨e2a, e2b⟩ := e2
        rw [nI_eq (by omega) (by omega)] at e2a
        subst e2a
        rw [nI_eq (by omega) (by omega)] at e2b
        subst e2b
        exact ⟨rfl, rfl, by rw [if_pos ⟨hc_6, hc_15⟩]⟩
  · intro μ pc ls st S2 M2 cs sl h; exact h.elim
def mDraw (M : x_M) (t : Nat) (a z b y : Int32) : x_M := fun k => if k = 42 then upd (M 42) t (nI 1) else if k = 41 then upd (upd (upd (upd (M 41) (t * 4) a) (t * 4 + 1) z) (t * 4 + 2) b) (t * 4 + 3) y else M k
def q_X0_draw : x_K := (6, fun as S M => ∃ (t : Nat) (a : Int32) (z : Int32) (b : Int32) (y : Int32), t < 6 ∧ S = SH ∧ as = [.inr (.inl 40), .inl (nI t), .inl a, .inl z, .inl b, .inl y], fun as S M rv_ S' M' => ∀ (t : Nat) (a : Int32) (z : Int32) (b : Int32) (y : Int32), t < 6 → as = [.inr (.inl 40), .inl (nI t), .inl a, .inl z, .inl b, .inl y] → S' = S ∧ M' = mDraw M t a z b y ∧ rv_ = none, 0, 0)
theorem r_X0_draw : ∀ as S M, q_X0_draw.2.1 as S M → ∃ (k : Nat) (as' : List x_V) (fs : List (Option Nat)), as = .inr (.inl k) :: as' ∧ S[k]? = some (.inl (0, fs)) := by
  rintro as S M ⟨t, a, z, b, y, ht, rfl, rfl⟩
  exact ⟨40, _, _, rfl, rfl⟩
def b_X0_draw : x_B := [(0, 6, [(.iload_n 1, 1), (.iconst 4, 1), (.imul, 1), (.istore 6, 2), (.aload_n 0, 1), (.getfield 11, 3), (.iload 6, 2), (.iload_n 2, 1), (.iastore, 1), (.aload_n 0, 1), (.getfield 11, 3), (.iload 6, 2), (.iconst 1, 1), (.iadd, 1), (.iload_n 3, 1), (.iastore, 1), (.aload_n 0, 1), (.getfield 11, 3), (.iload 6, 2), (.iconst 2, 1), (.iadd, 1), (.iload 4, 2), (.iastore, 1), (.aload_n 0, 1), (.getfield 11, 3), (.iload 6, 2), (.iconst 3, 1), (.iadd, 1), (.iload 5, 2), (.iastore, 1), (.aload_n 0, 1), (.getfield 15, 3), (.iload_n 1, 1), (.iconst 1, 1), (.bastore, 1), (.return_, 1)])]
theorem b_X0_draw_ok : x_okB cX0_draw 7 b_X0_draw = true := by decide +kernel
def X_X0_draw : x_X := ([(11, 0, 0), (15, 0, 1)], [], [], [], [], (0, 0), x_kn, x_kf, 5, false)
theorem X_X0_draw_ok : x_okT RX0 X_X0_draw = true := by decide +kernel
theorem k_X0_draw (l : Launch) : ∀ z ∈ X_X0_draw.2.2.2.2.1, x_Cal l (x_rm 1 0 0) cX0_draw RX0 7 z.1 z.2 := fun _ h => absurd h List.not_mem_nil
set_option maxHeartbeats 4000000 in
set_option maxRecDepth 100000 in
theorem c_X0_draw (l : Launch) : x_CT l yX0_draw cX0_draw 7 none 1 q_X0_draw := by
  refine x_meth (X := X_X0_draw) (bl := b_X0_draw) (cut := []) (own := RX0) 30 (by decide) rfl X_X0_draw_ok b_X0_draw_ok rfl (Nat.le_of_ble_eq_true rfl) (k_X0_draw l) ?_
  rintro as S M - ⟨t, a, z, b, y, ht, rfl, rfl⟩
  refine ⟨fun _ _ _ _ _ _ _ _ => False, ?_, ?_⟩
  · skip
    refine xt_blk rfl rfl (by dsimp only [List.take]) ?_
    refine xt_iln1 rfl ?_
    refine xt_ic ?_
    refine xt_mul ?_
    refine xt_ist rfl (by dsimp only [x_sto]) ?_
    refine xt_aln0 rfl (by first | decide | omega | assumption) ?_
    refine xt_gfr (q := (0, 0)) rfl (by first | rfl | assumption) rfl ?_
    refine xt_ild rfl ?_
    refine xt_iln2 rfl ?_
    refine xt_ias (by first | rfl | assumption) (show vp_in _ 24 from by simp only [pk_mul, nI_add]; exact vp_in_nI (by omega) (by decide)) ?_
    refine xt_aln0 rfl (by first | decide | omega | assumption) ?_
    refine xt_gfr (q := (0, 0)) rfl (by first | rfl | assumption) rfl ?_
    refine xt_ild rfl ?_
    refine xt_ic ?_
    refine xt_add ?_
    refine xt_iln3 rfl ?_
    refine xt_ias (by first | rfl | assumption) (show vp_in _ 24 from by simp only [pk_mul, nI_add]; exact vp_in_nI (by omega) (by decide)) ?_
    refine xt_aln0 rfl (by first | decide | omega | assumption) ?_
    refine xt_gfr (q := (0, 0)) rfl (by first | rfl | assumption) rfl ?_
    refine xt_ild rfl ?_
    refine xt_ic ?_
    refine xt_add ?_
    refine xt_ild rfl ?_
    refine xt_ias (by first | rfl | assumption) (show vp_in _ 24 from by simp only [pk_mul, nI_add]; exact vp_in_nI (by omega) (by decide)) ?_
    refine xt_aln0 rfl (by first | decide | omega | assumption) ?_
    refine xt_gfr (q := (0, 0)) rfl (by first | rfl | assumption) rfl ?_
    refine xt_ild rfl ?_
    refine xt_ic ?_
    refine xt_add ?_
    refine xt_ild rfl ?_
    refine xt_ias (by first | rfl | assumption) (show vp_in _ 24 from by simp only [pk_mul, nI_add]; exact vp_in_nI (by omega) (by decide)) ?_
    refine xt_aln0 rfl (by first | decide | omega | assumption) ?_
    refine xt_gfr (q := (0, 1)) rfl (by first | rfl | assumption) rfl ?_
    refine xt_iln1 rfl ?_
    refine xt_ic ?_
    refine xt_bas (by first | rfl | assumption) (show vp_in _ 6 from vp_in_nI (by omega) (by decide)) (Or.inr rfl) ?_
    refine xt_rv rfl (Nat.le_refl _) ?_
    intro t2 a2 z2 b2 y2 h2t e2
    simp only [List.cons.injEq, Sum.inl.injEq, Sum.inr.injEq, and_true, true_and] at e2
    obtain ⟨e2t, e2a, e2z, e2b, e2y⟩ := e2
    rw [nI_eq (by omega) (by omega)] at e2t
    subst e2t
    subst e2a
    subst e2z
    subst e2b
    subst e2y
    refine ⟨rfl, ?_, rfl⟩
    simp only [pk_mul, nI_add, nI_clamp (show t * 4 < 2 ^ 31 by omega), nI_clamp (show t * 4 + 1 < 2 ^ 31 by omega), nI_clamp (show t * 4 + 2 < 2 ^ 31 by omega), nI_clamp (show t * 4 + 3 < 2 ^ 31 by omega), nI_clamp (show t < 2 ^ 31 by omega)]
    funext k
    simp only [x_row, mDraw]
    by_cases k1 : k = 42
    · subst k1; simp
    · by_cases k2 : k = 41
      · subst k2; simp
      · simp [k1, k2]
  · intro μ pc ls st S2 M2 cs sl h; exact h.elim
def q_X0_remove : x_K := (2, fun as S M => ∃ (t : Nat), t < 6 ∧ S = SH ∧ as = [.inr (.inl 40), .inl (nI t)], fun as S M rv_ S' M' => ∀ (t : Nat), t < 6 → as = [.inr (.inl 40), .inl (nI t)] → S' = S ∧ M' = x_row M 42 (upd (M 42) t (nI 0)) ∧ rv_ = none, 0, 0)
theorem r_X0_remove : ∀ as S M, q_X0_remove.2.1 as S M → ∃ (k : Nat) (as' : List x_V) (fs : List (Option Nat)), as = .inr (.inl k) :: as' ∧ S[k]? = some (.inl (0, fs)) := by
  rintro as S M ⟨t, ht, rfl, rfl⟩
  exact ⟨40, _, _, rfl, rfl⟩
def b_X0_remove : x_B := [(0, 2, [(.aload_n 0, 1), (.getfield 15, 3), (.iload_n 1, 1), (.iconst 0, 1), (.bastore, 1), (.return_, 1)])]
theorem b_X0_remove_ok : x_okB cX0_remove 2 b_X0_remove = true := by decide +kernel
def X_X0_remove : x_X := ([(15, 0, 1)], [], [], [], [], (0, 0), x_kn, x_kf, 5, false)
theorem X_X0_remove_ok : x_okT RX0 X_X0_remove = true := by decide +kernel
theorem k_X0_remove (l : Launch) : ∀ z ∈ X_X0_remove.2.2.2.2.1, x_Cal l (x_rm 1 0 0) cX0_remove RX0 2 z.1 z.2 := fun _ h => absurd h List.not_mem_nil
set_option maxHeartbeats 4000000 in
set_option maxRecDepth 100000 in
theorem c_X0_remove (l : Launch) : x_CT l yX0_remove cX0_remove 2 none 1 q_X0_remove := by
  refine x_meth (X := X_X0_remove) (bl := b_X0_remove) (cut := []) (own := RX0) 30 (by decide) rfl X_X0_remove_ok b_X0_remove_ok rfl (Nat.le_of_ble_eq_true rfl) (k_X0_remove l) ?_
  rintro as S M - ⟨t, ht, rfl, rfl⟩
  refine ⟨fun _ _ _ _ _ _ _ _ => False, ?_, ?_⟩
  · skip
    refine xt_blk rfl rfl (by dsimp only [List.take]) ?_
    refine xt_aln0 rfl (by first | decide | omega | assumption) ?_
    refine xt_gfr (q := (0, 1)) rfl (by first | rfl | assumption) rfl ?_
    refine xt_iln1 rfl ?_
    refine xt_ic ?_
    refine xt_bas (by first | rfl | assumption) (show vp_in _ 6 from vp_in_nI (by omega) (by decide)) (Or.inl rfl) ?_
    refine xt_rv rfl (Nat.le_refl _) ?_
    intro t2 h2t e2
    simp only [List.cons.injEq, Sum.inl.injEq, Sum.inr.injEq, and_true, true_and] at e2
    have e2t := e2
    rw [nI_eq (by omega) (by omega)] at e2t
    subst e2t
    exact ⟨rfl, by rw [nI_clamp (by omega)], rfl⟩
  · intro μ pc ls st S2 M2 cs sl h; exact h.elim
def cnz (t : Nat → Int32) : Nat → Nat
  | 0 => 0
  | i + 1 => if t i = 0 then cnz t i else cnz t i + 1
theorem cnz_le (t : Nat → Int32) : ∀ i, cnz t i ≤ i
  | 0 => Nat.le_refl _
  | i + 1 => by have := cnz_le t i; unfold cnz; split <;> omega
def q_X0_howMany : x_K := (1, fun as S M => S = SH ∧ as = [.inr (.inl 40)], fun as S M rv_ S' M' => as = [.inr (.inl 40)] → S' = S ∧ M' = M ∧ rv_ = some (.inl (nI (cnz (M 42) 6))), 0, 0)
theorem r_X0_howMany : ∀ as S M, q_X0_howMany.2.1 as S M → ∃ (k : Nat) (as' : List x_V) (fs : List (Option Nat)), as = .inr (.inl k) :: as' ∧ S[k]? = some (.inl (0, fs)) := by
  rintro as S M ⟨rfl, rfl⟩
  exact ⟨40, _, _, rfl, rfl⟩
def b_X0_howMany : x_B := [(0, 1, [(.iconst 0, 1), (.istore_n 1, 1), (.iconst 0, 1), (.istore_n 2, 1)]),
  (4, 3, [(.iload_n 2, 1), (.bipush 6, 2), (.if_icmp .ge 21, 3), (.aload_n 0, 1), (.getfield 15, 3), (.iload_n 2, 1), (.baload, 1), (.ifCond .eq 6, 3), (.iinc 1 1, 3)]),
  (22, 3, [(.iinc 2 1, 3), (.goto (-21), 3)]),
  (28, 3, [(.iload_n 1, 1), (.ireturn, 1)])]
theorem b_X0_howMany_ok : x_okB cX0_howMany 3 b_X0_howMany = true := by decide +kernel
def X_X0_howMany : x_X := ([(15, 0, 1)], [], [], [], [], (0, 0), x_kn, x_kf, 5, false)
theorem X_X0_howMany_ok : x_okT RX0 X_X0_howMany = true := by decide +kernel
theorem k_X0_howMany (l : Launch) : ∀ z ∈ X_X0_howMany.2.2.2.2.1, x_Cal l (x_rm 1 0 0) cX0_howMany RX0 3 z.1 z.2 := fun _ h => absurd h List.not_mem_nil
set_option maxHeartbeats 4000000 in
set_option maxRecDepth 100000 in
theorem c_X0_howMany (l : Launch) : x_CT l yX0_howMany cX0_howMany 3 (some .int) 1 q_X0_howMany := by
  refine x_meth (X := X_X0_howMany) (bl := b_X0_howMany) (cut := [4]) (own := RX0) 30 (by decide) rfl X_X0_howMany_ok b_X0_howMany_ok rfl (Nat.le_of_ble_eq_true rfl) (k_X0_howMany l) ?_
  rintro as S M - ⟨rfl, rfl⟩
  refine ⟨fun μ pc ls st S' M' cs sl => ∃ i, i ≤ 6 ∧ pc = 4 ∧ st = [] ∧ S' = SH ∧ M' = M ∧ cs = 0 ∧ sl = 0 ∧ ls = [.inr (.inl 40), .inl (nI (cnz (M 42) i)), .inl (nI i)] ∧ μ = 6 - i, ?_, ?_⟩
  · skip
    refine xt_blk rfl rfl (by dsimp only [List.take]) ?_
    refine xt_ic ?_
    refine xt_isn1 rfl (by dsimp only [x_sto]) ?_
    refine xt_ic ?_
    refine xt_isn2 rfl (by dsimp only [x_sto]) ?_
    refine xt_nil (t := 4) rfl ?_
    refine xt_cut rfl rfl (by dsimp only [List.take]) ?_
    exact ⟨6, 0, by omega, rfl, rfl, rfl, rfl, rfl, rfl, rfl, rfl⟩
  · rintro μ pc ls st S2 M2 cs sl (⟨i, hi, rfl, rfl, rfl, rfl, rfl, rfl, rfl, rfl⟩)
    · refine ⟨_, rfl, ?_⟩
      refine xt_iln2 rfl ?_
      refine xt_bi ?_
      refine xt_cge (t := 28) rfl (fun hc_7 => ?_) (fun hc_7 => ?_)
      · skip
        refine xt_blk rfl rfl (by dsimp only [List.take]) ?_
        refine xt_iln1 rfl ?_
        refine xt_ri rfl (Nat.le_refl _) ?_
        have h6 : i = 6 := by rw [nI_leI (by omega) (by omega)] at hc_7; omega
        subst h6
        intro e2
        clear e2
        exact ⟨rfl, rfl, rfl⟩
      · skip
        refine xt_aln0 rfl (by first | decide | omega | assumption) ?_
        refine xt_gfr (q := (0, 1)) rfl (by first | rfl | assumption) rfl ?_
        refine xt_iln2 rfl ?_
        refine xt_bal (by first | rfl | assumption) (show vp_in _ 6 from vp_in_nI (by rw [nI_leI (by omega) (by omega)] at hc_7; omega) (by decide)) ?_
        refine xt_eq (t := 22) rfl (fun hc_16 => ?_) (fun hc_16 => ?_)
        · skip
          refine xt_blk rfl rfl (by dsimp only [List.take]) ?_
          refine xt_inc rfl (by dsimp only [x_sto]) ?_
          refine xt_goto (t := 4) rfl ?_
          refine xt_cut rfl rfl (by dsimp only [List.take]) ?_
          have hlt : i < 6 := by rw [nI_leI (by omega) (by omega)] at hc_7; omega
          rw [nI_clamp (by omega)] at hc_16
          exact ⟨6 - (i + 1), by omega, i + 1, by omega, rfl, rfl, rfl, rfl, rfl, rfl, by simp only [nI_add, cnz]; rw [if_pos hc_16], rfl⟩
        · skip
          refine xt_inc rfl (by dsimp only [x_sto]) ?_
          refine xt_nil (t := 22) rfl ?_
          refine xt_blk rfl rfl (by dsimp only [List.take]) ?_
          refine xt_inc rfl (by dsimp only [x_sto]) ?_
          refine xt_goto (t := 4) rfl ?_
          refine xt_cut rfl rfl (by dsimp only [List.take]) ?_
          have hlt : i < 6 := by rw [nI_leI (by omega) (by omega)] at hc_7; omega
          rw [nI_clamp (by omega)] at hc_16
          exact ⟨6 - (i + 1), by omega, i + 1, by omega, rfl, rfl, rfl, rfl, rfl, rfl, by simp only [nI_add, cnz]; rw [if_neg hc_16], rfl⟩
def bxr (M : x_M) (w a b : Nat) : Nat := bw (M 41 (a * 4 + w * 2)) (M 41 (a * 4 + w * 2 + 1)) (M 41 (b * 4 + w * 2)) (M 41 (b * 4 + w * 2 + 1))
def q_X0_relation : x_K := (4, fun as S M => ∃ (w : Nat) (a : Nat) (b : Nat), w < 2 ∧ a < 6 ∧ b < 6 ∧ S = SH ∧ as = [.inr (.inl 40), .inl (nI w), .inl (nI a), .inl (nI b)], fun as S M rv_ S' M' => ∀ (w : Nat) (a : Nat) (b : Nat), w < 2 → a < 6 → b < 6 → as = [.inr (.inl 40), .inl (nI w), .inl (nI a), .inl (nI b)] → S' = S ∧ M' = M ∧ rv_ = some (.inl (nI (bxr M w a b))), 0, 0)
theorem r_X0_relation : ∀ as S M, q_X0_relation.2.1 as S M → ∃ (k : Nat) (as' : List x_V) (fs : List (Option Nat)), as = .inr (.inl k) :: as' ∧ S[k]? = some (.inl (0, fs)) := by
  rintro as S M ⟨w, a, b, hw, ha, hb, rfl, rfl⟩
  exact ⟨40, _, _, rfl, rfl⟩
def b_X0_relation : x_B := [(0, 4, [(.iload_n 2, 1), (.iconst 4, 1), (.imul, 1), (.iload_n 1, 1), (.iconst 2, 1), (.imul, 1), (.iadd, 1), (.istore 4, 2), (.iload_n 3, 1), (.iconst 4, 1), (.imul, 1), (.iload_n 1, 1), (.iconst 2, 1), (.imul, 1), (.iadd, 1), (.istore 5, 2), (.aload_n 0, 1), (.getfield 11, 3), (.iload 4, 2), (.iaload, 1), (.aload_n 0, 1), (.getfield 11, 3), (.iload 4, 2), (.iconst 1, 1), (.iadd, 1), (.iaload, 1), (.aload_n 0, 1), (.getfield 11, 3), (.iload 5, 2), (.iaload, 1), (.aload_n 0, 1), (.getfield 11, 3), (.iload 5, 2), (.iconst 1, 1), (.iadd, 1), (.iaload, 1), (.invokestatic 19, 3), (.ireturn, 1)])]
theorem b_X0_relation_ok : x_okB cX0_relation 6 b_X0_relation = true := by decide +kernel
def X_X0_relation : x_X := ([(11, 0, 0)], [], [], [], [(57, q_X2_between)], (0, 0), x_kn, x_kf, 5, false)
theorem X_X0_relation_ok : x_okT RX0 X_X0_relation = true := by decide +kernel
theorem k_X0_relation (l : Launch) : ∀ z ∈ X_X0_relation.2.2.2.2.1, x_Cal l (x_rm 3 0 0) cX0_relation RX0 6 z.1 z.2 := List.forall_mem_cons.mpr ⟨x_cal_S (idx := 19) (c_X2_between l) ⟨by decide, by decide⟩ (by decide +kernel) (by decide +kernel) (by decide +kernel) (by decide +kernel) (by decide +kernel), fun _ h => absurd h List.not_mem_nil⟩
set_option maxHeartbeats 4000000 in
set_option maxRecDepth 100000 in
theorem c_X0_relation (l : Launch) : x_CT l yX0_relation cX0_relation 6 (some .int) 3 q_X0_relation := by
  refine x_meth (X := X_X0_relation) (bl := b_X0_relation) (cut := []) (own := RX0) 30 (by decide) rfl X_X0_relation_ok b_X0_relation_ok rfl (Nat.le_of_ble_eq_true rfl) (k_X0_relation l) ?_
  rintro as S M - ⟨w, a, b, hw, ha, hb, rfl, rfl⟩
  refine ⟨fun _ _ _ _ _ _ _ _ => False, ?_, ?_⟩
  · skip
    refine xt_blk rfl rfl (by dsimp only [List.take]) ?_
    refine xt_iln2 rfl ?_
    refine xt_ic ?_
    refine xt_mul ?_
    refine xt_iln1 rfl ?_
    refine xt_ic ?_
    refine xt_mul ?_
    refine xt_add ?_
    refine xt_ist rfl (by dsimp only [x_sto]) ?_
    refine xt_iln3 rfl ?_
    refine xt_ic ?_
    refine xt_mul ?_
    refine xt_iln1 rfl ?_
    refine xt_ic ?_
    refine xt_mul ?_
    refine xt_add ?_
    refine xt_ist rfl (by dsimp only [x_sto]) ?_
    refine xt_aln0 rfl (by first | decide | omega | assumption) ?_
    refine xt_gfr (q := (0, 0)) rfl (by first | rfl | assumption) rfl ?_
    refine xt_ild rfl ?_
    refine xt_ial (by first | rfl | assumption) (show vp_in _ 24 from by simp only [pk_mul, nI_add]; exact vp_in_nI (by omega) (by decide)) ?_
    refine xt_aln0 rfl (by first | decide | omega | assumption) ?_
    refine xt_gfr (q := (0, 0)) rfl (by first | rfl | assumption) rfl ?_
    refine xt_ild rfl ?_
    refine xt_ic ?_
    refine xt_add ?_
    refine xt_ial (by first | rfl | assumption) (show vp_in _ 24 from by simp only [pk_mul, nI_add]; exact vp_in_nI (by omega) (by decide)) ?_
    refine xt_aln0 rfl (by first | decide | omega | assumption) ?_
    refine xt_gfr (q := (0, 0)) rfl (by first | rfl | assumption) rfl ?_
    refine xt_ild rfl ?_
    refine xt_ial (by first | rfl | assumption) (show vp_in _ 24 from by simp only [pk_mul, nI_add]; exact vp_in_nI (by omega) (by decide)) ?_
    refine xt_aln0 rfl (by first | decide | omega | assumption) ?_
    refine xt_gfr (q := (0, 0)) rfl (by first | rfl | assumption) rfl ?_
    refine xt_ild rfl ?_
    refine xt_ic ?_
    refine xt_add ?_
    refine xt_ial (by first | rfl | assumption) (show vp_in _ 24 from by simp only [pk_mul, nI_add]; exact vp_in_nI (by omega) (by decide)) ?_
    refine xt_v4 (key := 57) (q := q_X2_between) rfl rfl rfl rfl rfl ⟨Nat.le_of_ble_eq_true rfl, Nat.le_of_ble_eq_true rfl⟩ ⟨_, _, _, _, rfl⟩ (fun rv_ S1 M1 hq_50 => ?_)
    obtain ⟨eS_, eM_, rfl⟩ := hq_50 _ _ _ _ rfl
    replace eS_ := eS_.symm
    replace eM_ := eM_.symm
    subst eS_ eM_
    try dsimp only [Option.toList, List.cons_append, List.nil_append]
    refine xt_ri rfl (Nat.le_refl _) ?_
    intro w2 a2 b2 h2w h2a h2b e2
    simp only [List.cons.injEq, Sum.inl.injEq, Sum.inr.injEq, and_true, true_and] at e2
    obtain ⟨e2w, e2a, e2b⟩ := e2
    rw [nI_eq (by omega) (by omega)] at e2w
    subst e2w
    rw [nI_eq (by omega) (by omega)] at e2a
    subst e2a
    rw [nI_eq (by omega) (by omega)] at e2b
    subst e2b
    refine ⟨rfl, rfl, ?_⟩
    unfold bxr
    simp only [pk_mul, nI_add]
    rw [nI_clamp (by omega), nI_clamp (by omega), nI_clamp (by omega), nI_clamp (by omega)]
  · intro μ pc ls st S2 M2 cs sl h; exact h.elim
theorem bxr_lt (M : x_M) (w a b : Nat) : bxr M w a b < 13 := bw_lt _ _ _ _
def q_X0_agree : x_K := (5, fun as S M => ∃ (a : Nat) (b : Nat) (o : Nat) (u : Nat), a < 6 ∧ b < 6 ∧ o < 8192 ∧ u < 8192 ∧ S = SH ∧ as = [.inr (.inl 40), .inl (nI a), .inl (nI b), .inl (nI o), .inl (nI u)], fun as S M rv_ S' M' => ∀ (a : Nat) (b : Nat) (o : Nat) (u : Nat), a < 6 → b < 6 → o < 8192 → u < 8192 → as = [.inr (.inl 40), .inl (nI a), .inl (nI b), .inl (nI o), .inl (nI u)] → S' = S ∧ M' = M ∧ rv_ = some (.inl (if bi o (bxr M 0 a b) = 1 ∧ bi u (bxr M 1 a b) = 1 then nI 1 else nI 0)), 0, 0)
theorem r_X0_agree : ∀ as S M, q_X0_agree.2.1 as S M → ∃ (k : Nat) (as' : List x_V) (fs : List (Option Nat)), as = .inr (.inl k) :: as' ∧ S[k]? = some (.inl (0, fs)) := by
  rintro as S M ⟨a, b, o, u, ha, hb, ho, hu, rfl, rfl⟩
  exact ⟨40, _, _, rfl, rfl⟩
def b_X0_agree : x_B := [(0, 5, [(.iload_n 3, 1), (.aload_n 0, 1), (.iconst 0, 1), (.iload_n 1, 1), (.iload_n 2, 1), (.invokevirtual 25, 3), (.ishr, 1), (.iconst 1, 1), (.iand, 1), (.ifCond .eq 22, 3), (.iload 4, 2), (.aload_n 0, 1), (.iconst 1, 1), (.iload_n 1, 1), (.iload_n 2, 1), (.invokevirtual 25, 3), (.ishr, 1), (.iconst 1, 1), (.iand, 1), (.ifCond .eq 7, 3), (.iconst 1, 1), (.goto 4, 3)]),
  (33, 5, [(.iconst 0, 1)]),
  (34, 5, [(.ireturn, 1)])]
theorem b_X0_agree_ok : x_okB cX0_agree 5 b_X0_agree = true := by decide +kernel
def X_X0_agree : x_X := ([], [], [], [], [(76, q_X0_relation)], (0, 0), x_kn, x_kf, 5, false)
theorem X_X0_agree_ok : x_okT RX0 X_X0_agree = true := by decide +kernel
theorem k_X0_agree (l : Launch) : ∀ z ∈ X_X0_agree.2.2.2.2.1, x_Cal l (x_rm 4 0 0) cX0_agree RX0 5 z.1 z.2 := List.forall_mem_cons.mpr ⟨x_cal_V (idx := 25) (ci := 0) (n := 3) (c_X0_relation l) ⟨by decide, by decide⟩ (by decide +kernel) (by decide +kernel) (by decide +kernel) (by decide +kernel) (by decide +kernel) rfl rfl rfl (by decide +kernel) r_X0_relation, fun _ h => absurd h List.not_mem_nil⟩
set_option maxHeartbeats 4000000 in
set_option maxRecDepth 100000 in
theorem c_X0_agree (l : Launch) : x_CT l yX0_agree cX0_agree 5 (some .boolean) 4 q_X0_agree := by
  refine x_meth (X := X_X0_agree) (bl := b_X0_agree) (cut := []) (own := RX0) 30 (by decide) rfl X_X0_agree_ok b_X0_agree_ok rfl (Nat.le_of_ble_eq_true rfl) (k_X0_agree l) ?_
  rintro as S M - ⟨a, b, o, u, ha, hb, ho, hu, rfl, rfl⟩
  refine ⟨fun _ _ _ _ _ _ _ _ => False, ?_, ?_⟩
  · skip
    refine xt_blk rfl rfl (by dsimp only [List.take]) ?_
    refine xt_iln3 rfl ?_
    refine xt_aln0 rfl (by first | decide | omega | assumption) ?_
    refine xt_ic ?_
    refine xt_iln1 rfl ?_
    refine xt_iln2 rfl ?_
    refine xt_v4 (key := 76) (q := q_X0_relation) rfl rfl rfl rfl rfl ⟨Nat.le_of_ble_eq_true rfl, Nat.le_of_ble_eq_true rfl⟩ ⟨0, a, b, by decide, ha, hb, rfl, rfl⟩ (fun rv_ S1 M1 hq_5 => ?_)
    obtain ⟨eS_, eM_, rfl⟩ := hq_5 0 a b (by decide) ha hb rfl
    replace eS_ := eS_.symm
    replace eM_ := eM_.symm
    subst eS_ eM_
    try dsimp only [Option.toList, List.cons_append, List.nil_append]
    refine xt_shr ?_
    refine xt_ic ?_
    refine xt_and ?_
    refine xt_eq (t := 33) rfl (fun hc_11 => ?_) (fun hc_11 => ?_)
    · skip
      refine xt_blk rfl rfl (by dsimp only [List.take]) ?_
      refine xt_ic ?_
      refine xt_nil (t := 34) rfl ?_
      refine xt_blk rfl rfl (by dsimp only [List.take]) ?_
      refine xt_rz (by decide) rfl (Nat.le_refl _) ?_
      have hr0 := bxr_lt M 0 a b
      have hb0 := bi_lt o (bxr M 0 a b)
      rw [n_bit (by omega) (by omega), n_eq0 (by unfold bi at hb0; omega)] at hc_11
      intro a2 b2 o2 u2 h2a h2b h2o h2u e2
      simp only [List.cons.injEq, Sum.inl.injEq, Sum.inr.injEq, and_true, true_and] at e2
      obtain ⟨e2a, e2b, e2o, e2u⟩ := e2
      rw [nI_eq (by omega) (by omega)] at e2a
      subst e2a
      rw [nI_eq (by omega) (by omega)] at e2b
      subst e2b
      rw [nI_eq (by omega) (by omega)] at e2o
      subst e2o
      rw [nI_eq (by omega) (by omega)] at e2u
      subst e2u
      exact ⟨rfl, rfl, by rw [if_neg (fun q => by have := q.1; unfold bi at this; omega)]⟩
    · skip
      refine xt_ild rfl ?_
      refine xt_aln0 rfl (by first | decide | omega | assumption) ?_
      refine xt_ic ?_
      refine xt_iln1 rfl ?_
      refine xt_iln2 rfl ?_
      refine xt_v4 (key := 76) (q := q_X0_relation) rfl rfl rfl rfl rfl ⟨Nat.le_of_ble_eq_true rfl, Nat.le_of_ble_eq_true rfl⟩ ⟨1, a, b, by decide, ha, hb, rfl, rfl⟩ (fun rv_ S1 M1 hq_20 => ?_)
      obtain ⟨eS_, eM_, rfl⟩ := hq_20 1 a b (by decide) ha hb rfl
      replace eS_ := eS_.symm
      replace eM_ := eM_.symm
      subst eS_ eM_
      try dsimp only [Option.toList, List.cons_append, List.nil_append]
      refine xt_shr ?_
      refine xt_ic ?_
      refine xt_and ?_
      refine xt_eq (t := 33) rfl (fun hc_26 => ?_) (fun hc_26 => ?_)
      · skip
        refine xt_blk rfl rfl (by dsimp only [List.take]) ?_
        refine xt_ic ?_
        refine xt_nil (t := 34) rfl ?_
        refine xt_blk rfl rfl (by dsimp only [List.take]) ?_
        refine xt_rz (by decide) rfl (Nat.le_refl _) ?_
        have hr1 := bxr_lt M 1 a b
        have hb1 := bi_lt u (bxr M 1 a b)
        rw [n_bit (by omega) (by omega), n_eq0 (by unfold bi at hb1; omega)] at hc_26
        intro a2 b2 o2 u2 h2a h2b h2o h2u e2
        simp only [List.cons.injEq, Sum.inl.injEq, Sum.inr.injEq, and_true, true_and] at e2
        obtain ⟨e2a, e2b, e2o, e2u⟩ := e2
        rw [nI_eq (by omega) (by omega)] at e2a
        subst e2a
        rw [nI_eq (by omega) (by omega)] at e2b
        subst e2b
        rw [nI_eq (by omega) (by omega)] at e2o
        subst e2o
        rw [nI_eq (by omega) (by omega)] at e2u
        subst e2u
        exact ⟨rfl, rfl, by rw [if_neg (fun q => by have := q.2; unfold bi at this; omega)]⟩
      · skip
        refine xt_ic ?_
        refine xt_goto (t := 34) rfl ?_
        refine xt_blk rfl rfl (by dsimp only [List.take]) ?_
        refine xt_rz (by decide) rfl (Nat.le_refl _) ?_
        have hr0 := bxr_lt M 0 a b
        have hb0 := bi_lt o (bxr M 0 a b)
        rw [n_bit (by omega) (by omega), n_eq0 (by unfold bi at hb0; omega)] at hc_11
        have hr1 := bxr_lt M 1 a b
        have hb1 := bi_lt u (bxr M 1 a b)
        rw [n_bit (by omega) (by omega), n_eq0 (by unfold bi at hb1; omega)] at hc_26
        intro a2 b2 o2 u2 h2a h2b h2o h2u e2
        simp only [List.cons.injEq, Sum.inl.injEq, Sum.inr.injEq, and_true, true_and] at e2
        obtain ⟨e2a, e2b, e2o, e2u⟩ := e2
        rw [nI_eq (by omega) (by omega)] at e2a
        subst e2a
        rw [nI_eq (by omega) (by omega)] at e2b
        subst e2b
        rw [nI_eq (by omega) (by omega)] at e2o
        subst e2o
        rw [nI_eq (by omega) (by omega)] at e2u
        subst e2u
        exact ⟨rfl, rfl, by rw [if_pos ⟨by unfold bi at hb0 ⊢; omega, by unfold bi at hb1 ⊢; omega⟩]⟩
  · intro μ pc ls st S2 M2 cs sl h; exact h.elim
end
section
/-! STATEMENTS: writeNet -/
/-- the statements, as numbers: things, sets along way w -/
def Sts (M : x_M) (w n : Nat) (A B s : Nat → Nat) : Prop := ∀ i, i < n → A i < 6 ∧ B i < 6 ∧ A i ≠ B i ∧ s i < 8192 ∧ M 2 i = nI (A i) ∧ M 3 i = nI (B i) ∧ M (5 + w) i = nI (s i)
def wnF (A B s : Nat → Nat) (c : Nat) : Nat → Nat → Nat
  | 0 => opn
  | i + 1 => if bi c i = 1 then nw (wnF A B s c i) (A i) (B i) (wnF A B s c i (A i * 6 + B i) &&& s i) else wnF A B s c i
theorem opn_Bd : Bd opn := fun j _ => by unfold opn; split <;> omega
theorem wnF_Bd {A B s : Nat → Nat} {c n : Nat} (hs : ∀ i, i < n → s i < 8192) : ∀ i, i ≤ n → Bd (wnF A B s c i)
  | 0, _ => opn_Bd
  | i + 1, h => by
    have h1 := wnF_Bd (A := A) (B := B) (c := c) hs i (by omega)
    unfold wnF
    split
    · exact nw_Bd h1 (Nat.lt_of_le_of_lt Nat.and_le_right (hs i (by omega)))
    · exact h1
theorem SH36 {k : Nat} (h : SH[k]? = some (.inr (.inl (false, 36)))) : k ≠ 1 ∧ k ≠ 2 ∧ k ≠ 3 ∧ k ≠ 5 ∧ k ≠ 6 ∧ k ≠ 7 := by
  refine ⟨?_, ?_, ?_, ?_, ?_, ?_⟩ <;> (rintro rfl; simp [SH] at h)
def q_X4_writeNet : x_K := (4, fun as S M => ∃ (w c k n : Nat) (A B s : Nat → Nat), w < 2 ∧ c < 2 ^ 30 ∧ k < 1000 ∧ S = SH ∧ SH[k]? = some (.inr (.inl (false, 36))) ∧ n ≤ 30 ∧ M 1 4 = nI n ∧ Sts M w n A B s ∧ as = [.inr (.inl 1), .inl (nI w), .inl (nI c), .inr (.inl k)],
  fun as S M rv_ S' M' => ∀ (w c k n : Nat) (A B s : Nat → Nat), w < 2 → c < 2 ^ 30 → n ≤ 30 → M 1 4 = nI n → Sts M w n A B s → as = [.inr (.inl 1), .inl (nI w), .inl (nI c), .inr (.inl k)] → S' = S ∧ (∃ gI, M' = x_row M k gI ∧ ∀ j, j < 36 → gI j = nI (wnF A B s c n j)) ∧ rv_ = none, 0, 0)
theorem r_X4_writeNet : ∀ as S M, q_X4_writeNet.2.1 as S M → ∃ (k : Nat) (as' : List x_V) (fs : List (Option Nat)), as = .inr (.inl k) :: as' ∧ S[k]? = some (.inl (2, fs)) := by
  rintro as S M ⟨w, c, k, n, A, B, s, -, -, -, rfl, -, -, -, -, rfl⟩
  exact ⟨1, _, _, rfl, rfl⟩
def b_X4_writeNet : x_B := [(0, 4, [(.aload_n 3, 1), (.invokestatic 48, 3), (.iconst 0, 1), (.istore 4, 2)]),
  (7, 5, [(.iload 4, 2), (.aload_n 0, 1), (.getfield 27, 3), (.if_icmp .ge 64, 3), (.iload_n 2, 1), (.iload 4, 2), (.ishr, 1), (.iconst 1, 1), (.iand, 1), (.ifCond .eq 49, 3), (.aload_n 0, 1), (.getfield 9, 3), (.iload 4, 2), (.iaload, 1), (.istore 5, 2), (.aload_n 0, 1), (.getfield 15, 3), (.iload 4, 2), (.iaload, 1), (.istore 6, 2), (.aload_n 3, 1), (.iload 5, 2), (.iload 6, 2), (.aload_n 3, 1), (.iload 5, 2), (.bipush 6, 2), (.imul, 1), (.iload 6, 2), (.iadd, 1), (.iaload, 1), (.aload_n 0, 1), (.getfield 20, 3), (.iload_n 1, 1), (.aaload, 1), (.iload 4, 2), (.iaload, 1), (.iand, 1), (.invokestatic 54, 3)]),
  (71, 5, [(.iinc 4 1, 3), (.goto (-67), 3)]),
  (77, 5, [(.return_, 1)])]
theorem b_X4_writeNet_ok : x_okB cX4_writeNet 7 b_X4_writeNet = true := by decide +kernel
def X_X4_writeNet : x_X := ([(27, 2, 4), (9, 2, 0), (15, 2, 1), (20, 2, 2)], [], [], [], [(144, q_X1_open), (162, q_X1_put)], (0, 0), x_kn, x_kf, 5, false)
theorem X_X4_writeNet_ok : x_okT RX4 X_X4_writeNet = true := by decide +kernel
theorem k_X4_writeNet (l : Launch) : ∀ z ∈ X_X4_writeNet.2.2.2.2.1, x_Cal l (x_rm 3 0 0) cX4_writeNet RX4 7 z.1 z.2 := List.forall_mem_cons.mpr ⟨x_cal_S (idx := 48) (c_X1_open l) ⟨by decide, by decide⟩ (by decide +kernel) (by decide +kernel) (by decide +kernel) (by decide +kernel) (by decide +kernel), List.forall_mem_cons.mpr ⟨x_cal_S (idx := 54) (c_X1_put l) ⟨by decide, by decide⟩ (by decide +kernel) (by decide +kernel) (by decide +kernel) (by decide +kernel) (by decide +kernel), fun _ h => absurd h List.not_mem_nil⟩⟩
set_option maxHeartbeats 4000000 in
set_option maxRecDepth 100000 in
theorem c_X4_writeNet (l : Launch) : x_CT l yX4_writeNet cX4_writeNet 7 none 3 q_X4_writeNet := by
  refine x_meth (X := X_X4_writeNet) (bl := b_X4_writeNet) (cut := [7]) (own := RX4) 30 (by decide) rfl X_X4_writeNet_ok b_X4_writeNet_ok rfl (Nat.le_of_ble_eq_true rfl) (k_X4_writeNet l) ?_
  rintro as S M - ⟨w, c, k, n, A, B, s, hw, hc, hk, rfl, hsh, hn, hsz, hst, rfl⟩
  obtain ⟨hk1, hk2, hk3, hk5, hk6, hk7⟩ := SH36 hsh
  refine ⟨fun μ pc ls st S' M' cs sl => ∃ i gI, i ≤ n ∧ M' 1 4 = nI n ∧ (∀ j, j < 36 → gI j = nI (wnF A B s c i j)) ∧ pc = 7 ∧ st = [] ∧ M' = x_row M k gI ∧ S' = SH ∧ cs = 0 ∧ sl = 0 ∧ ls = [.inr (.inl 1), .inl (nI w), .inl (nI c), .inr (.inl k), .inl (nI i)] ∧ μ = n - i, ?_, ?_⟩
  · skip
    refine xt_blk rfl rfl (by dsimp only [List.take]) ?_
    refine xt_aln3 rfl (by first | decide | omega | assumption) ?_
    refine xt_v1 (key := 144) (q := q_X1_open) rfl rfl rfl rfl rfl ⟨Nat.le_of_ble_eq_true rfl, Nat.le_of_ble_eq_true rfl⟩ ⟨k, hk, hsh, rfl⟩ (fun rv_ S1 M1 hq_1 => ?_)
    obtain ⟨eS_, ⟨gI, eM_, hg⟩, rfl⟩ := hq_1 k rfl
    replace eS_ := eS_.symm
    replace eM_ := eM_.symm
    subst eS_ eM_
    try dsimp only [Option.toList, List.cons_append, List.nil_append]
    refine xt_ic ?_
    refine xt_ist rfl (by dsimp only [x_sto]) ?_
    refine xt_nil (t := 7) rfl ?_
    refine xt_cut rfl rfl (by dsimp only [List.take]) ?_
    exact ⟨n, 0, gI, by omega, by rw [x_row_ne _ _ (Ne.symm hk1)]; exact hsz, hg, rfl, rfl, rfl, rfl, rfl, rfl, rfl, rfl⟩
  · rintro μ pc ls st S2 M2 cs sl (⟨i, gI, hi, hsz1, hg, rfl, rfl, rfl, rfl, rfl, rfl, rfl, rfl⟩)
    · refine ⟨_, rfl, ?_⟩
      refine xt_ild rfl ?_
      refine xt_aln0 rfl (by first | decide | omega | assumption) ?_
      refine xt_gfi (q := (2, 4)) rfl (by first | rfl | assumption | exact SHs w hw) rfl ?_
      refine xt_cge (t := 77) rfl (fun hc_13 => ?_) (fun hc_13 => ?_)
      · skip
        refine xt_blk rfl rfl (by dsimp only [List.take]) ?_
        refine xt_rv rfl (Nat.le_refl _) ?_
        have hin : i = n := by rw [hsz1, nI_leI (by omega) (by omega)] at hc_13; omega
        subst hin
        intro w2 c2 k2 n2 A2 B2 s2 hw2 hc2 hn2 hsz2 hst2 e2
        simp only [List.cons.injEq, Sum.inl.injEq, Sum.inr.injEq, and_true, true_and] at e2
        obtain ⟨ew, ec, rfl⟩ := e2
        rw [nI_eq (by omega) (by omega)] at ew ec
        subst ew ec
        rw [hsz, nI_eq (by omega) (by omega)] at hsz2
        subst hsz2
        have eq3 : ∀ q, q < i → A q = A2 q ∧ B q = B2 q ∧ s q = s2 q := by
          intro q hq
          obtain ⟨a1, a2, a3, a4, a5, a6, a7⟩ := hst q hq
          obtain ⟨b1, b2, b3, b4, b5, b6, b7⟩ := hst2 q hq
          rw [a5, nI_eq (by omega) (by omega)] at b5
          rw [a6, nI_eq (by omega) (by omega)] at b6
          rw [a7, nI_eq (by omega) (by omega)] at b7
          exact ⟨b5, b6, b7⟩
        have ewn : ∀ q, q ≤ i → wnF A B s c q = wnF A2 B2 s2 c q := by
          intro q
          induction q with
          | zero => intro _; rfl
          | succ q ih =>
            intro hq
            obtain ⟨x1, x2, x3⟩ := eq3 q (by omega)
            show (if bi c q = 1 then _ else _) = (if bi c q = 1 then _ else _)
            rw [ih (by omega), x1, x2, x3]
        exact ⟨rfl, ⟨gI, rfl, fun j hj => by rw [hg j hj, ewn i (Nat.le_refl _)]⟩, rfl⟩
      · skip
        refine xt_iln2 rfl ?_
        refine xt_ild rfl ?_
        refine xt_shr ?_
        refine xt_ic ?_
        refine xt_and ?_
        refine xt_eq (t := 71) rfl (fun hc_22 => ?_) (fun hc_22 => ?_)
        · skip
          refine xt_blk rfl rfl (by dsimp only [List.take]) ?_
          refine xt_inc rfl (by dsimp only [x_sto]) ?_
          refine xt_goto (t := 7) rfl ?_
          refine xt_cut rfl rfl (by dsimp only [List.take]) ?_
          have hlt : i < n := by rw [hsz1, nI_leI (by omega) (by omega)] at hc_13; omega
          rw [n_bit (by omega) (by omega), n_eq0 (by have := bi_lt c i; unfold bi at this; omega)] at hc_22
          refine ⟨n - (i + 1), by omega, i + 1, gI, by omega, hsz1, fun j hj => ?_, rfl, rfl, rfl, rfl, rfl, rfl, by rw [nI_add], rfl⟩
          rw [hg j hj]
          show _ = nI ((if bi c i = 1 then _ else wnF A B s c i) j)
          rw [if_neg (by unfold bi; omega)]
        · skip
          have hlt : i < n := by rw [hsz1, nI_leI (by omega) (by omega)] at hc_13; omega
          obtain ⟨a1, a2, a3, a4, a5, a6, a7⟩ := hst i hlt
          have m2 : (x_row M k gI) 2 i = nI (A i) := by rw [x_row_ne _ _ (Ne.symm hk2)]; exact a5
          have m3 : (x_row M k gI) 3 i = nI (B i) := by rw [x_row_ne _ _ (Ne.symm hk3)]; exact a6
          have m5 : (x_row M k gI) (5 + w) i = nI (s i) := by rw [x_row_ne _ _ (by omega)]; exact a7
          have mk : (x_row M k gI) k (A i * 6 + B i) = nI (wnF A B s c i (A i * 6 + B i)) := by rw [x_row_self]; exact hg _ (by omega)
          have hB := wnF_Bd (A := A) (B := B) (c := c) (fun i hi => (hst i hi).2.2.2.1) i (by omega)
          refine xt_aln0 rfl (by first | decide | omega | assumption) ?_
          refine xt_gfr (q := (2, 0)) rfl (by first | rfl | assumption | exact SHs w hw) rfl ?_
          refine xt_ild rfl ?_
          refine xt_ial (by first | rfl | assumption | exact SHs w hw) (show vp_in _ 30 from vp_in_nI (by omega) (by decide)) ?_
          refine xt_ist rfl (by dsimp only [x_sto]) ?_
          refine xt_aln0 rfl (by first | decide | omega | assumption) ?_
          refine xt_gfr (q := (2, 1)) rfl (by first | rfl | assumption | exact SHs w hw) rfl ?_
          refine xt_ild rfl ?_
          refine xt_ial (by first | rfl | assumption | exact SHs w hw) (show vp_in _ 30 from vp_in_nI (by omega) (by decide)) ?_
          refine xt_ist rfl (by dsimp only [x_sto]) ?_
          refine xt_aln3 rfl (by first | decide | omega | assumption) ?_
          refine xt_ild rfl ?_
          refine xt_ild rfl ?_
          refine xt_aln3 rfl (by first | decide | omega | assumption) ?_
          refine xt_ild rfl ?_
          refine xt_bi ?_
          refine xt_mul ?_
          refine xt_ild rfl ?_
          refine xt_add ?_
          refine xt_ial (by first | rfl | assumption | exact SHs w hw) (by rw [nI_clamp (show i < 2 ^ 31 by omega), m2, m3]; exact n_ixi a1 a2) ?_
          refine xt_aln0 rfl (by first | decide | omega | assumption) ?_
          refine xt_gfr (q := (2, 2)) rfl (by first | rfl | assumption | exact SHs w hw) rfl ?_
          refine xt_iln1 rfl ?_
          refine xt_ral (r := 5 + w) rfl (show vp_in _ 2 from vp_in_nI (by omega) (by decide)) (by rw [nI_clamp (by omega)]; exact sts w hw) (by omega) ?_
          refine xt_ild rfl ?_
          refine xt_ial (by first | rfl | assumption | exact SHs w hw) (show vp_in _ 30 from vp_in_nI (by omega) (by decide)) ?_
          refine xt_and ?_
          refine xt_v4 (key := 162) (q := q_X1_put) rfl rfl rfl rfl rfl ⟨Nat.le_of_ble_eq_true rfl, Nat.le_of_ble_eq_true rfl⟩ ⟨k, A i, B i, wnF A B s c i (A i * 6 + B i) &&& s i, hk, a1, a2, Nat.lt_of_le_of_lt Nat.and_le_right a4, hsh, by rw [nI_clamp (show i < 2 ^ 31 by omega), m2, m3, m5, n_ixc a1 a2, mk, n_and]⟩ (fun rv_ S1 M1 hq_68 => ?_)
          obtain ⟨eS_, eM_, rfl⟩ := hq_68 k (A i) (B i) (wnF A B s c i (A i * 6 + B i) &&& s i) a1 a2 (Nat.lt_of_le_of_lt Nat.and_le_right a4) (by rw [nI_clamp (show i < 2 ^ 31 by omega), m2, m3, m5, n_ixc a1 a2, mk, n_and])
          replace eS_ := eS_.symm
          replace eM_ := eM_.symm
          subst eS_ eM_
          try dsimp only [Option.toList, List.cons_append, List.nil_append]
          refine xt_nil (t := 71) rfl ?_
          refine xt_blk rfl rfl (by dsimp only [List.take]) ?_
          refine xt_inc rfl (by dsimp only [x_sto]) ?_
          refine xt_goto (t := 7) rfl ?_
          refine xt_cut rfl rfl (by dsimp only [List.take]) ?_
          rw [n_bit (by omega) (by omega), n_eq0 (by have := bi_lt c i; unfold bi at this; omega)] at hc_22
          refine ⟨n - (i + 1), by omega, i + 1, _, by omega, ?_, fun j hj => ?_, rfl, rfl, x_row_row M k _ _, rfl, rfl, rfl, by rw [nI_add], rfl⟩
          · rw [x_row_row, x_row_ne _ _ (Ne.symm hk1)]; exact hsz
          · have hb := bi_lt c i
            rw [x_row_self, upd_nw hg (A i) (B i) _ j hj]
            show _ = nI ((if bi c i = 1 then nw (wnF A B s c i) (A i) (B i) (wnF A B s c i (A i * 6 + B i) &&& s i) else wnF A B s c i) j)
            rw [if_pos (by unfold bi at hb ⊢; omega)]
end
section
/-! LOOKING AT ARGUMENTS, in both classes -/
/-- a number below N -/
def Th (N : Nat) (x : Int32) : Prop := ∃ n, n < N ∧ x = nI n
theorem Th_lt {N : Nat} (hN : N < 2 ^ 31) {x : Int32} : Th N x ↔ 0 ≤ x ∧ x < nI N := by
  constructor
  · rintro ⟨n, hn, rfl⟩
    exact ⟨nI_pos' (by omega), nI_lt hn hN⟩
  · rintro ⟨h1, h2⟩
    obtain ⟨j, hj, rfl⟩ := nI_of (Int32.not_lt.mpr h1)
    exact ⟨j, (nI_ltI hj hN).mp h2, rfl⟩
theorem Th_le {N : Nat} (hN : N < 2 ^ 31 - 1) {x : Int32} : Th (N + 1) x ↔ 0 ≤ x ∧ x ≤ nI N := by
  constructor
  · rintro ⟨n, hn, rfl⟩
    exact ⟨nI_pos' (by omega), nI_le (by omega) (by omega)⟩
  · rintro ⟨h1, h2⟩
    obtain ⟨j, hj, rfl⟩ := nI_of (Int32.not_lt.mpr h1)
    exact ⟨j, by have := (nI_leI hj (by omega)).mp h2; omega, rfl⟩
def Two (a b : Int32) : Prop := Th 6 a ∧ Th 6 b ∧ a ≠ b
def q_X6_isThing : x_K := (1, fun as S M => ∃ (x : Int32), as = [.inl x], fun as S M rv_ S' M' => ∀ (x : Int32), as = [.inl x] → S' = S ∧ M' = M ∧ (((Th 6 x) ∧ rv_ = some (.inl (nI 1))) ∨ (¬ (Th 6 x) ∧ rv_ = some (.inl (nI 0)))), 0, 0)
def b_X6_isThing : x_B := [(0, 1, [(.iload_n 0, 1), (.ifCond .lt 13, 3), (.iload_n 0, 1), (.bipush 6, 2), (.if_icmp .ge 7, 3), (.iconst 1, 1), (.goto 4, 3)]),
  (14, 1, [(.iconst 0, 1)]),
  (15, 1, [(.ireturn, 1)])]
theorem b_X6_isThing_ok : x_okB cX6_isThing 1 b_X6_isThing = true := by decide +kernel
def X_X6_isThing : x_X := ([], [], [], [], [], (0, 0), x_kn, x_kf, 5, false)
theorem X_X6_isThing_ok : x_okT RX6 X_X6_isThing = true := by decide +kernel
theorem k_X6_isThing (l : Launch) : ∀ z ∈ X_X6_isThing.2.2.2.2.1, x_Cal l (x_rm 1 0 0) cX6_isThing RX6 1 z.1 z.2 := fun _ h => absurd h List.not_mem_nil
set_option maxHeartbeats 4000000 in
set_option maxRecDepth 100000 in
theorem c_X6_isThing (l : Launch) : x_CT l yX6_isThing cX6_isThing 1 (some .boolean) 1 q_X6_isThing := by
  refine x_meth (X := X_X6_isThing) (bl := b_X6_isThing) (cut := []) (own := RX6) 30 (by decide) rfl X_X6_isThing_ok b_X6_isThing_ok rfl (Nat.le_of_ble_eq_true rfl) (k_X6_isThing l) ?_
  rintro as S M - ⟨x, rfl⟩
  refine ⟨fun _ _ _ _ _ _ _ _ => False, ?_, ?_⟩
  · skip
    refine xt_blk rfl rfl (by dsimp only [List.take]) ?_
    refine xt_iln0 rfl ?_
    refine xt_lt (t := 14) rfl (fun hc_1 => ?_) (fun hc_1 => ?_)
    · skip
      refine xt_blk rfl rfl (by dsimp only [List.take]) ?_
      refine xt_ic ?_
      refine xt_nil (t := 15) rfl ?_
      refine xt_blk rfl rfl (by dsimp only [List.take]) ?_
      refine xt_rz (by decide) rfl (Nat.le_refl _) ?_
      intro x2 e2
      simp only [List.cons.injEq, Sum.inl.injEq, and_true] at e2
      subst e2
      exact ⟨rfl, rfl, Or.inr ⟨fun q => Int32.not_le.mpr hc_1 ((Th_lt (by decide)).mp q).1, rfl⟩⟩
    · skip
      refine xt_iln0 rfl ?_
      refine xt_bi ?_
      refine xt_cge (t := 14) rfl (fun hc_7 => ?_) (fun hc_7 => ?_)
      · skip
        refine xt_blk rfl rfl (by dsimp only [List.take]) ?_
        refine xt_ic ?_
        refine xt_nil (t := 15) rfl ?_
        refine xt_blk rfl rfl (by dsimp only [List.take]) ?_
        refine xt_rz (by decide) rfl (Nat.le_refl _) ?_
        intro x2 e2
        simp only [List.cons.injEq, Sum.inl.injEq, and_true] at e2
        subst e2
        exact ⟨rfl, rfl, Or.inr ⟨fun q => Int32.not_lt.mpr hc_7 ((Th_lt (by decide)).mp q).2, rfl⟩⟩
      · skip
        refine xt_ic ?_
        refine xt_goto (t := 15) rfl ?_
        refine xt_blk rfl rfl (by dsimp only [List.take]) ?_
        refine xt_rz (by decide) rfl (Nat.le_refl _) ?_
        intro x2 e2
        simp only [List.cons.injEq, Sum.inl.injEq, and_true] at e2
        subst e2
        exact ⟨rfl, rfl, Or.inl ⟨(Th_lt (by decide)).mpr ⟨Int32.not_lt.mp hc_1, Int32.not_le.mp hc_7⟩, rfl⟩⟩
  · intro μ pc ls st S2 M2 cs sl h; exact h.elim
def q_X6_isWay : x_K := (1, fun as S M => ∃ (x : Int32), as = [.inl x], fun as S M rv_ S' M' => ∀ (x : Int32), as = [.inl x] → S' = S ∧ M' = M ∧ (((Th 2 x) ∧ rv_ = some (.inl (nI 1))) ∨ (¬ (Th 2 x) ∧ rv_ = some (.inl (nI 0)))), 0, 0)
def b_X6_isWay : x_B := [(0, 1, [(.iload_n 0, 1), (.ifCond .lt 12, 3), (.iload_n 0, 1), (.iconst 2, 1), (.if_icmp .ge 7, 3), (.iconst 1, 1), (.goto 4, 3)]),
  (13, 1, [(.iconst 0, 1)]),
  (14, 1, [(.ireturn, 1)])]
theorem b_X6_isWay_ok : x_okB cX6_isWay 1 b_X6_isWay = true := by decide +kernel
def X_X6_isWay : x_X := ([], [], [], [], [], (0, 0), x_kn, x_kf, 5, false)
theorem X_X6_isWay_ok : x_okT RX6 X_X6_isWay = true := by decide +kernel
theorem k_X6_isWay (l : Launch) : ∀ z ∈ X_X6_isWay.2.2.2.2.1, x_Cal l (x_rm 1 0 0) cX6_isWay RX6 1 z.1 z.2 := fun _ h => absurd h List.not_mem_nil
set_option maxHeartbeats 4000000 in
set_option maxRecDepth 100000 in
theorem c_X6_isWay (l : Launch) : x_CT l yX6_isWay cX6_isWay 1 (some .boolean) 1 q_X6_isWay := by
  refine x_meth (X := X_X6_isWay) (bl := b_X6_isWay) (cut := []) (own := RX6) 30 (by decide) rfl X_X6_isWay_ok b_X6_isWay_ok rfl (Nat.le_of_ble_eq_true rfl) (k_X6_isWay l) ?_
  rintro as S M - ⟨x, rfl⟩
  refine ⟨fun _ _ _ _ _ _ _ _ => False, ?_, ?_⟩
  · skip
    refine xt_blk rfl rfl (by dsimp only [List.take]) ?_
    refine xt_iln0 rfl ?_
    refine xt_lt (t := 13) rfl (fun hc_1 => ?_) (fun hc_1 => ?_)
    · skip
      refine xt_blk rfl rfl (by dsimp only [List.take]) ?_
      refine xt_ic ?_
      refine xt_nil (t := 14) rfl ?_
      refine xt_blk rfl rfl (by dsimp only [List.take]) ?_
      refine xt_rz (by decide) rfl (Nat.le_refl _) ?_
      intro x2 e2
      simp only [List.cons.injEq, Sum.inl.injEq, and_true] at e2
      subst e2
      exact ⟨rfl, rfl, Or.inr ⟨fun q => Int32.not_le.mpr hc_1 ((Th_lt (by decide)).mp q).1, rfl⟩⟩
    · skip
      refine xt_iln0 rfl ?_
      refine xt_ic ?_
      refine xt_cge (t := 13) rfl (fun hc_6 => ?_) (fun hc_6 => ?_)
      · skip
        refine xt_blk rfl rfl (by dsimp only [List.take]) ?_
        refine xt_ic ?_
        refine xt_nil (t := 14) rfl ?_
        refine xt_blk rfl rfl (by dsimp only [List.take]) ?_
        refine xt_rz (by decide) rfl (Nat.le_refl _) ?_
        intro x2 e2
        simp only [List.cons.injEq, Sum.inl.injEq, and_true] at e2
        subst e2
        exact ⟨rfl, rfl, Or.inr ⟨fun q => Int32.not_lt.mpr hc_6 ((Th_lt (by decide)).mp q).2, rfl⟩⟩
      · skip
        refine xt_ic ?_
        refine xt_goto (t := 14) rfl ?_
        refine xt_blk rfl rfl (by dsimp only [List.take]) ?_
        refine xt_rz (by decide) rfl (Nat.le_refl _) ?_
        intro x2 e2
        simp only [List.cons.injEq, Sum.inl.injEq, and_true] at e2
        subst e2
        exact ⟨rfl, rfl, Or.inl ⟨(Th_lt (by decide)).mpr ⟨Int32.not_lt.mp hc_1, Int32.not_le.mp hc_6⟩, rfl⟩⟩
  · intro μ pc ls st S2 M2 cs sl h; exact h.elim
def q_X6_isWord : x_K := (1, fun as S M => ∃ (x : Int32), as = [.inl x], fun as S M rv_ S' M' => ∀ (x : Int32), as = [.inl x] → S' = S ∧ M' = M ∧ (((Th 8 x) ∧ rv_ = some (.inl (nI 1))) ∨ (¬ (Th 8 x) ∧ rv_ = some (.inl (nI 0)))), 0, 0)
def b_X6_isWord : x_B := [(0, 1, [(.iload_n 0, 1), (.ifCond .lt 13, 3), (.iload_n 0, 1), (.bipush 8, 2), (.if_icmp .ge 7, 3), (.iconst 1, 1), (.goto 4, 3)]),
  (14, 1, [(.iconst 0, 1)]),
  (15, 1, [(.ireturn, 1)])]
theorem b_X6_isWord_ok : x_okB cX6_isWord 1 b_X6_isWord = true := by decide +kernel
def X_X6_isWord : x_X := ([], [], [], [], [], (0, 0), x_kn, x_kf, 5, false)
theorem X_X6_isWord_ok : x_okT RX6 X_X6_isWord = true := by decide +kernel
theorem k_X6_isWord (l : Launch) : ∀ z ∈ X_X6_isWord.2.2.2.2.1, x_Cal l (x_rm 1 0 0) cX6_isWord RX6 1 z.1 z.2 := fun _ h => absurd h List.not_mem_nil
set_option maxHeartbeats 4000000 in
set_option maxRecDepth 100000 in
theorem c_X6_isWord (l : Launch) : x_CT l yX6_isWord cX6_isWord 1 (some .boolean) 1 q_X6_isWord := by
  refine x_meth (X := X_X6_isWord) (bl := b_X6_isWord) (cut := []) (own := RX6) 30 (by decide) rfl X_X6_isWord_ok b_X6_isWord_ok rfl (Nat.le_of_ble_eq_true rfl) (k_X6_isWord l) ?_
  rintro as S M - ⟨x, rfl⟩
  refine ⟨fun _ _ _ _ _ _ _ _ => False, ?_, ?_⟩
  · skip
    refine xt_blk rfl rfl (by dsimp only [List.take]) ?_
    refine xt_iln0 rfl ?_
    refine xt_lt (t := 14) rfl (fun hc_1 => ?_) (fun hc_1 => ?_)
    · skip
      refine xt_blk rfl rfl (by dsimp only [List.take]) ?_
      refine xt_ic ?_
      refine xt_nil (t := 15) rfl ?_
      refine xt_blk rfl rfl (by dsimp only [List.take]) ?_
      refine xt_rz (by decide) rfl (Nat.le_refl _) ?_
      intro x2 e2
      simp only [List.cons.injEq, Sum.inl.injEq, and_true] at e2
      subst e2
      exact ⟨rfl, rfl, Or.inr ⟨fun q => Int32.not_le.mpr hc_1 ((Th_lt (by decide)).mp q).1, rfl⟩⟩
    · skip
      refine xt_iln0 rfl ?_
      refine xt_bi ?_
      refine xt_cge (t := 14) rfl (fun hc_7 => ?_) (fun hc_7 => ?_)
      · skip
        refine xt_blk rfl rfl (by dsimp only [List.take]) ?_
        refine xt_ic ?_
        refine xt_nil (t := 15) rfl ?_
        refine xt_blk rfl rfl (by dsimp only [List.take]) ?_
        refine xt_rz (by decide) rfl (Nat.le_refl _) ?_
        intro x2 e2
        simp only [List.cons.injEq, Sum.inl.injEq, and_true] at e2
        subst e2
        exact ⟨rfl, rfl, Or.inr ⟨fun q => Int32.not_lt.mpr hc_7 ((Th_lt (by decide)).mp q).2, rfl⟩⟩
      · skip
        refine xt_ic ?_
        refine xt_goto (t := 15) rfl ?_
        refine xt_blk rfl rfl (by dsimp only [List.take]) ?_
        refine xt_rz (by decide) rfl (Nat.le_refl _) ?_
        intro x2 e2
        simp only [List.cons.injEq, Sum.inl.injEq, and_true] at e2
        subst e2
        exact ⟨rfl, rfl, Or.inl ⟨(Th_lt (by decide)).mpr ⟨Int32.not_lt.mp hc_1, Int32.not_le.mp hc_7⟩, rfl⟩⟩
  · intro μ pc ls st S2 M2 cs sl h; exact h.elim
def q_X6_isRelation : x_K := (1, fun as S M => ∃ (x : Int32), as = [.inl x], fun as S M rv_ S' M' => ∀ (x : Int32), as = [.inl x] → S' = S ∧ M' = M ∧ (((Th 13 x) ∧ rv_ = some (.inl (nI 1))) ∨ (¬ (Th 13 x) ∧ rv_ = some (.inl (nI 0)))), 0, 0)
def b_X6_isRelation : x_B := [(0, 1, [(.iload_n 0, 1), (.ifCond .lt 13, 3), (.iload_n 0, 1), (.bipush 13, 2), (.if_icmp .ge 7, 3), (.iconst 1, 1), (.goto 4, 3)]),
  (14, 1, [(.iconst 0, 1)]),
  (15, 1, [(.ireturn, 1)])]
theorem b_X6_isRelation_ok : x_okB cX6_isRelation 1 b_X6_isRelation = true := by decide +kernel
def X_X6_isRelation : x_X := ([], [], [], [], [], (0, 0), x_kn, x_kf, 5, false)
theorem X_X6_isRelation_ok : x_okT RX6 X_X6_isRelation = true := by decide +kernel
theorem k_X6_isRelation (l : Launch) : ∀ z ∈ X_X6_isRelation.2.2.2.2.1, x_Cal l (x_rm 1 0 0) cX6_isRelation RX6 1 z.1 z.2 := fun _ h => absurd h List.not_mem_nil
set_option maxHeartbeats 4000000 in
set_option maxRecDepth 100000 in
theorem c_X6_isRelation (l : Launch) : x_CT l yX6_isRelation cX6_isRelation 1 (some .boolean) 1 q_X6_isRelation := by
  refine x_meth (X := X_X6_isRelation) (bl := b_X6_isRelation) (cut := []) (own := RX6) 30 (by decide) rfl X_X6_isRelation_ok b_X6_isRelation_ok rfl (Nat.le_of_ble_eq_true rfl) (k_X6_isRelation l) ?_
  rintro as S M - ⟨x, rfl⟩
  refine ⟨fun _ _ _ _ _ _ _ _ => False, ?_, ?_⟩
  · skip
    refine xt_blk rfl rfl (by dsimp only [List.take]) ?_
    refine xt_iln0 rfl ?_
    refine xt_lt (t := 14) rfl (fun hc_1 => ?_) (fun hc_1 => ?_)
    · skip
      refine xt_blk rfl rfl (by dsimp only [List.take]) ?_
      refine xt_ic ?_
      refine xt_nil (t := 15) rfl ?_
      refine xt_blk rfl rfl (by dsimp only [List.take]) ?_
      refine xt_rz (by decide) rfl (Nat.le_refl _) ?_
      intro x2 e2
      simp only [List.cons.injEq, Sum.inl.injEq, and_true] at e2
      subst e2
      exact ⟨rfl, rfl, Or.inr ⟨fun q => Int32.not_le.mpr hc_1 ((Th_lt (by decide)).mp q).1, rfl⟩⟩
    · skip
      refine xt_iln0 rfl ?_
      refine xt_bi ?_
      refine xt_cge (t := 14) rfl (fun hc_7 => ?_) (fun hc_7 => ?_)
      · skip
        refine xt_blk rfl rfl (by dsimp only [List.take]) ?_
        refine xt_ic ?_
        refine xt_nil (t := 15) rfl ?_
        refine xt_blk rfl rfl (by dsimp only [List.take]) ?_
        refine xt_rz (by decide) rfl (Nat.le_refl _) ?_
        intro x2 e2
        simp only [List.cons.injEq, Sum.inl.injEq, and_true] at e2
        subst e2
        exact ⟨rfl, rfl, Or.inr ⟨fun q => Int32.not_lt.mpr hc_7 ((Th_lt (by decide)).mp q).2, rfl⟩⟩
      · skip
        refine xt_ic ?_
        refine xt_goto (t := 15) rfl ?_
        refine xt_blk rfl rfl (by dsimp only [List.take]) ?_
        refine xt_rz (by decide) rfl (Nat.le_refl _) ?_
        intro x2 e2
        simp only [List.cons.injEq, Sum.inl.injEq, and_true] at e2
        subst e2
        exact ⟨rfl, rfl, Or.inl ⟨(Th_lt (by decide)).mpr ⟨Int32.not_lt.mp hc_1, Int32.not_le.mp hc_7⟩, rfl⟩⟩
  · intro μ pc ls st S2 M2 cs sl h; exact h.elim
def q_X6_isSet : x_K := (1, fun as S M => ∃ (x : Int32), as = [.inl x], fun as S M rv_ S' M' => ∀ (x : Int32), as = [.inl x] → S' = S ∧ M' = M ∧ (((Th 8192 x) ∧ rv_ = some (.inl (nI 1))) ∨ (¬ (Th 8192 x) ∧ rv_ = some (.inl (nI 0)))), 0, 0)
def b_X6_isSet : x_B := [(0, 1, [(.iload_n 0, 1), (.ifCond .lt 14, 3), (.iload_n 0, 1), (.sipush 8191, 3), (.if_icmp .gt 7, 3), (.iconst 1, 1), (.goto 4, 3)]),
  (15, 1, [(.iconst 0, 1)]),
  (16, 1, [(.ireturn, 1)])]
theorem b_X6_isSet_ok : x_okB cX6_isSet 1 b_X6_isSet = true := by decide +kernel
def X_X6_isSet : x_X := ([], [], [], [], [], (0, 0), x_kn, x_kf, 5, false)
theorem X_X6_isSet_ok : x_okT RX6 X_X6_isSet = true := by decide +kernel
theorem k_X6_isSet (l : Launch) : ∀ z ∈ X_X6_isSet.2.2.2.2.1, x_Cal l (x_rm 1 0 0) cX6_isSet RX6 1 z.1 z.2 := fun _ h => absurd h List.not_mem_nil
set_option maxHeartbeats 4000000 in
set_option maxRecDepth 100000 in
theorem c_X6_isSet (l : Launch) : x_CT l yX6_isSet cX6_isSet 1 (some .boolean) 1 q_X6_isSet := by
  refine x_meth (X := X_X6_isSet) (bl := b_X6_isSet) (cut := []) (own := RX6) 30 (by decide) rfl X_X6_isSet_ok b_X6_isSet_ok rfl (Nat.le_of_ble_eq_true rfl) (k_X6_isSet l) ?_
  rintro as S M - ⟨x, rfl⟩
  refine ⟨fun _ _ _ _ _ _ _ _ => False, ?_, ?_⟩
  · skip
    refine xt_blk rfl rfl (by dsimp only [List.take]) ?_
    refine xt_iln0 rfl ?_
    refine xt_lt (t := 15) rfl (fun hc_1 => ?_) (fun hc_1 => ?_)
    · skip
      refine xt_blk rfl rfl (by dsimp only [List.take]) ?_
      refine xt_ic ?_
      refine xt_nil (t := 16) rfl ?_
      refine xt_blk rfl rfl (by dsimp only [List.take]) ?_
      refine xt_rz (by decide) rfl (Nat.le_refl _) ?_
      intro x2 e2
      simp only [List.cons.injEq, Sum.inl.injEq, and_true] at e2
      subst e2
      exact ⟨rfl, rfl, Or.inr ⟨fun q => Int32.not_le.mpr hc_1 ((Th_le (N := 8191) (by decide)).mp q).1, rfl⟩⟩
    · skip
      refine xt_iln0 rfl ?_
      refine xt_si ?_
      refine xt_cgt (t := 15) rfl (fun hc_8 => ?_) (fun hc_8 => ?_)
      · skip
        refine xt_blk rfl rfl (by dsimp only [List.take]) ?_
        refine xt_ic ?_
        refine xt_nil (t := 16) rfl ?_
        refine xt_blk rfl rfl (by dsimp only [List.take]) ?_
        refine xt_rz (by decide) rfl (Nat.le_refl _) ?_
        intro x2 e2
        simp only [List.cons.injEq, Sum.inl.injEq, and_true] at e2
        subst e2
        exact ⟨rfl, rfl, Or.inr ⟨fun q => Int32.not_le.mpr hc_8 ((Th_le (N := 8191) (by decide)).mp q).2, rfl⟩⟩
      · skip
        refine xt_ic ?_
        refine xt_goto (t := 16) rfl ?_
        refine xt_blk rfl rfl (by dsimp only [List.take]) ?_
        refine xt_rz (by decide) rfl (Nat.le_refl _) ?_
        intro x2 e2
        simp only [List.cons.injEq, Sum.inl.injEq, and_true] at e2
        subst e2
        exact ⟨rfl, rfl, Or.inl ⟨(Th_le (N := 8191) (by decide)).mpr ⟨Int32.not_lt.mp hc_1, Int32.not_lt.mp hc_8⟩, rfl⟩⟩
  · intro μ pc ls st S2 M2 cs sl h; exact h.elim
def q_X7_in : x_K := (3, fun as S M => ∃ (v : Int32) (lo : Int32) (hi : Int32), as = [.inl v, .inl lo, .inl hi], fun as S M rv_ S' M' => ∀ (v : Int32) (lo : Int32) (hi : Int32), as = [.inl v, .inl lo, .inl hi] → S' = S ∧ M' = M ∧ (((lo ≤ v ∧ v ≤ hi) ∧ rv_ = some (.inl (nI 1))) ∨ (¬ (lo ≤ v ∧ v ≤ hi) ∧ rv_ = some (.inl (nI 0)))), 0, 0)
def b_X7_in : x_B := [(0, 3, [(.iload_n 0, 1), (.iload_n 1, 1), (.if_icmp .lt 12, 3), (.iload_n 0, 1), (.iload_n 2, 1), (.if_icmp .gt 7, 3), (.iconst 1, 1), (.goto 4, 3)]),
  (14, 3, [(.iconst 0, 1)]),
  (15, 3, [(.ireturn, 1)])]
theorem b_X7_in_ok : x_okB cX7_in 3 b_X7_in = true := by decide +kernel
def X_X7_in : x_X := ([], [], [], [], [], (0, 0), x_kn, x_kf, 5, false)
theorem X_X7_in_ok : x_okT RX7 X_X7_in = true := by decide +kernel
theorem k_X7_in (l : Launch) : ∀ z ∈ X_X7_in.2.2.2.2.1, x_Cal l (x_rm 1 0 0) cX7_in RX7 3 z.1 z.2 := fun _ h => absurd h List.not_mem_nil
set_option maxHeartbeats 4000000 in
set_option maxRecDepth 100000 in
theorem c_X7_in (l : Launch) : x_CT l yX7_in cX7_in 3 (some .boolean) 1 q_X7_in := by
  refine x_meth (X := X_X7_in) (bl := b_X7_in) (cut := []) (own := RX7) 30 (by decide) rfl X_X7_in_ok b_X7_in_ok rfl (Nat.le_of_ble_eq_true rfl) (k_X7_in l) ?_
  rintro as S M - ⟨v, lo, hi, rfl⟩
  refine ⟨fun _ _ _ _ _ _ _ _ => False, ?_, ?_⟩
  · skip
    refine xt_blk rfl rfl (by dsimp only [List.take]) ?_
    refine xt_iln0 rfl ?_
    refine xt_iln1 rfl ?_
    refine xt_clt (t := 14) rfl (fun hc_2 => ?_) (fun hc_2 => ?_)
    · skip
      refine xt_blk rfl rfl (by dsimp only [List.take]) ?_
      refine xt_ic ?_
      refine xt_nil (t := 15) rfl ?_
      refine xt_blk rfl rfl (by dsimp only [List.take]) ?_
      refine xt_rz (by decide) rfl (Nat.le_refl _) ?_
      intro v2 lo2 hi2 e2
      simp only [List.cons.injEq, Sum.inl.injEq, and_true] at e2
      obtain ⟨rfl, rfl, rfl⟩ := e2
      exact ⟨rfl, rfl, Or.inr ⟨fun q => Int32.not_le.mpr hc_2 q.1, rfl⟩⟩
    · skip
      refine xt_iln0 rfl ?_
      refine xt_iln2 rfl ?_
      refine xt_cgt (t := 14) rfl (fun hc_7 => ?_) (fun hc_7 => ?_)
      · skip
        refine xt_blk rfl rfl (by dsimp only [List.take]) ?_
        refine xt_ic ?_
        refine xt_nil (t := 15) rfl ?_
        refine xt_blk rfl rfl (by dsimp only [List.take]) ?_
        refine xt_rz (by decide) rfl (Nat.le_refl _) ?_
        intro v2 lo2 hi2 e2
        simp only [List.cons.injEq, Sum.inl.injEq, and_true] at e2
        obtain ⟨rfl, rfl, rfl⟩ := e2
        exact ⟨rfl, rfl, Or.inr ⟨fun q => Int32.not_le.mpr hc_7 q.2, rfl⟩⟩
      · skip
        refine xt_ic ?_
        refine xt_goto (t := 15) rfl ?_
        refine xt_blk rfl rfl (by dsimp only [List.take]) ?_
        refine xt_rz (by decide) rfl (Nat.le_refl _) ?_
        intro v2 lo2 hi2 e2
        simp only [List.cons.injEq, Sum.inl.injEq, and_true] at e2
        obtain ⟨rfl, rfl, rfl⟩ := e2
        exact ⟨rfl, rfl, Or.inl ⟨⟨Int32.not_lt.mp hc_2, Int32.not_lt.mp hc_7⟩, rfl⟩⟩
  · intro μ pc ls st S2 M2 cs sl h; exact h.elim
theorem in_Th {N : Nat} (hN : N < 2 ^ 31 - 1) {x v : Int32} (h : ((nI 0 ≤ x ∧ x ≤ nI N) ∧ v = nI 1) ∨ (¬ (nI 0 ≤ x ∧ x ≤ nI N) ∧ v = nI 0)) : (Th (N + 1) x ∧ v = nI 1) ∨ (¬ Th (N + 1) x ∧ v = nI 0) := by
  rcases h with ⟨h1, h2⟩ | ⟨h1, h2⟩
  · exact Or.inl ⟨(Th_le hN).mpr h1, h2⟩
  · exact Or.inr ⟨fun q => h1 ((Th_le hN).mp q), h2⟩
def q_X7_isThing : x_K := (1, fun as S M => ∃ (x : Int32), as = [.inl x], fun as S M rv_ S' M' => ∀ (x : Int32), as = [.inl x] → S' = S ∧ M' = M ∧ (((Th 6 x) ∧ rv_ = some (.inl (nI 1))) ∨ (¬ (Th 6 x) ∧ rv_ = some (.inl (nI 0)))), 0, 0)
def b_X7_isThing : x_B := [(0, 1, [(.iload_n 0, 1), (.iconst 0, 1), (.iconst 5, 1), (.invokestatic 85, 3), (.ireturn, 1)])]
theorem b_X7_isThing_ok : x_okB cX7_isThing 1 b_X7_isThing = true := by decide +kernel
def X_X7_isThing : x_X := ([], [], [], [], [(255, q_X7_in)], (0, 0), x_kn, x_kf, 5, false)
theorem X_X7_isThing_ok : x_okT RX7 X_X7_isThing = true := by decide +kernel
theorem k_X7_isThing (l : Launch) : ∀ z ∈ X_X7_isThing.2.2.2.2.1, x_Cal l (x_rm 2 0 0) cX7_isThing RX7 1 z.1 z.2 := List.forall_mem_cons.mpr ⟨x_cal_S (idx := 85) (c_X7_in l) ⟨by decide, by decide⟩ (by decide +kernel) (by decide +kernel) (by decide +kernel) (by decide +kernel) (by decide +kernel), fun _ h => absurd h List.not_mem_nil⟩
set_option maxHeartbeats 4000000 in
set_option maxRecDepth 100000 in
theorem c_X7_isThing (l : Launch) : x_CT l yX7_isThing cX7_isThing 1 (some .boolean) 2 q_X7_isThing := by
  refine x_meth (X := X_X7_isThing) (bl := b_X7_isThing) (cut := []) (own := RX7) 30 (by decide) rfl X_X7_isThing_ok b_X7_isThing_ok rfl (Nat.le_of_ble_eq_true rfl) (k_X7_isThing l) ?_
  rintro as S M - ⟨x, rfl⟩
  refine ⟨fun _ _ _ _ _ _ _ _ => False, ?_, ?_⟩
  · skip
    refine xt_blk rfl rfl (by dsimp only [List.take]) ?_
    refine xt_iln0 rfl ?_
    refine xt_ic ?_
    refine xt_ic ?_
    refine xt_v3 (key := 255) (q := q_X7_in) rfl rfl rfl rfl rfl ⟨Nat.le_of_ble_eq_true rfl, Nat.le_of_ble_eq_true rfl⟩ ⟨_, _, _, rfl⟩ (fun rv_ S1 M1 hq_3 => ?_)
    obtain ⟨eS_, eM_, h_in⟩ := hq_3 _ _ _ rfl
    replace eS_ := eS_.symm
    replace eM_ := eM_.symm
    subst eS_ eM_
    have hex_in : ∃ v, rv_ = some (.inl v) := by rcases h_in with ⟨-, e⟩ | ⟨-, e⟩ <;> exact ⟨_, e⟩
    obtain ⟨v_in, rfl⟩ := hex_in
    simp only [Option.some.injEq, Sum.inl.injEq] at h_in
    try dsimp only [Option.toList, List.cons_append, List.nil_append]
    refine xt_rz (by rcases h_in with ⟨-, rfl⟩ | ⟨-, rfl⟩ <;> decide) rfl (Nat.le_refl _) ?_
    intro x2 e2
    simp only [List.cons.injEq, Sum.inl.injEq, and_true] at e2
    subst e2
    refine ⟨rfl, rfl, ?_⟩
    simp only [Option.some.injEq, Sum.inl.injEq]
    exact in_Th (N := 5) (by decide) h_in
  · intro μ pc ls st S2 M2 cs sl h; exact h.elim
def q_X7_isWay : x_K := (1, fun as S M => ∃ (x : Int32), as = [.inl x], fun as S M rv_ S' M' => ∀ (x : Int32), as = [.inl x] → S' = S ∧ M' = M ∧ (((Th 2 x) ∧ rv_ = some (.inl (nI 1))) ∨ (¬ (Th 2 x) ∧ rv_ = some (.inl (nI 0)))), 0, 0)
def b_X7_isWay : x_B := [(0, 1, [(.iload_n 0, 1), (.iconst 0, 1), (.iconst 1, 1), (.invokestatic 85, 3), (.ireturn, 1)])]
theorem b_X7_isWay_ok : x_okB cX7_isWay 1 b_X7_isWay = true := by decide +kernel
def X_X7_isWay : x_X := ([], [], [], [], [(255, q_X7_in)], (0, 0), x_kn, x_kf, 5, false)
theorem X_X7_isWay_ok : x_okT RX7 X_X7_isWay = true := by decide +kernel
theorem k_X7_isWay (l : Launch) : ∀ z ∈ X_X7_isWay.2.2.2.2.1, x_Cal l (x_rm 2 0 0) cX7_isWay RX7 1 z.1 z.2 := List.forall_mem_cons.mpr ⟨x_cal_S (idx := 85) (c_X7_in l) ⟨by decide, by decide⟩ (by decide +kernel) (by decide +kernel) (by decide +kernel) (by decide +kernel) (by decide +kernel), fun _ h => absurd h List.not_mem_nil⟩
set_option maxHeartbeats 4000000 in
set_option maxRecDepth 100000 in
theorem c_X7_isWay (l : Launch) : x_CT l yX7_isWay cX7_isWay 1 (some .boolean) 2 q_X7_isWay := by
  refine x_meth (X := X_X7_isWay) (bl := b_X7_isWay) (cut := []) (own := RX7) 30 (by decide) rfl X_X7_isWay_ok b_X7_isWay_ok rfl (Nat.le_of_ble_eq_true rfl) (k_X7_isWay l) ?_
  rintro as S M - ⟨x, rfl⟩
  refine ⟨fun _ _ _ _ _ _ _ _ => False, ?_, ?_⟩
  · skip
    refine xt_blk rfl rfl (by dsimp only [List.take]) ?_
    refine xt_iln0 rfl ?_
    refine xt_ic ?_
    refine xt_ic ?_
    refine xt_v3 (key := 255) (q := q_X7_in) rfl rfl rfl rfl rfl ⟨Nat.le_of_ble_eq_true rfl, Nat.le_of_ble_eq_true rfl⟩ ⟨_, _, _, rfl⟩ (fun rv_ S1 M1 hq_3 => ?_)
    obtain ⟨eS_, eM_, h_in⟩ := hq_3 _ _ _ rfl
    replace eS_ := eS_.symm
    replace eM_ := eM_.symm
    subst eS_ eM_
    have hex_in : ∃ v, rv_ = some (.inl v) := by rcases h_in with ⟨-, e⟩ | ⟨-, e⟩ <;> exact ⟨_, e⟩
    obtain ⟨v_in, rfl⟩ := hex_in
    simp only [Option.some.injEq, Sum.inl.injEq] at h_in
    try dsimp only [Option.toList, List.cons_append, List.nil_append]
    refine xt_rz (by rcases h_in with ⟨-, rfl⟩ | ⟨-, rfl⟩ <;> decide) rfl (Nat.le_refl _) ?_
    intro x2 e2
    simp only [List.cons.injEq, Sum.inl.injEq, and_true] at e2
    subst e2
    refine ⟨rfl, rfl, ?_⟩
    simp only [Option.some.injEq, Sum.inl.injEq]
    exact in_Th (N := 1) (by decide) h_in
  · intro μ pc ls st S2 M2 cs sl h; exact h.elim
def q_X7_isWord : x_K := (1, fun as S M => ∃ (x : Int32), as = [.inl x], fun as S M rv_ S' M' => ∀ (x : Int32), as = [.inl x] → S' = S ∧ M' = M ∧ (((Th 8 x) ∧ rv_ = some (.inl (nI 1))) ∨ (¬ (Th 8 x) ∧ rv_ = some (.inl (nI 0)))), 0, 0)
def b_X7_isWord : x_B := [(0, 1, [(.iload_n 0, 1), (.iconst 0, 1), (.bipush 7, 2), (.invokestatic 85, 3), (.ireturn, 1)])]
theorem b_X7_isWord_ok : x_okB cX7_isWord 1 b_X7_isWord = true := by decide +kernel
def X_X7_isWord : x_X := ([], [], [], [], [(255, q_X7_in)], (0, 0), x_kn, x_kf, 5, false)
theorem X_X7_isWord_ok : x_okT RX7 X_X7_isWord = true := by decide +kernel
theorem k_X7_isWord (l : Launch) : ∀ z ∈ X_X7_isWord.2.2.2.2.1, x_Cal l (x_rm 2 0 0) cX7_isWord RX7 1 z.1 z.2 := List.forall_mem_cons.mpr ⟨x_cal_S (idx := 85) (c_X7_in l) ⟨by decide, by decide⟩ (by decide +kernel) (by decide +kernel) (by decide +kernel) (by decide +kernel) (by decide +kernel), fun _ h => absurd h List.not_mem_nil⟩
set_option maxHeartbeats 4000000 in
set_option maxRecDepth 100000 in
theorem c_X7_isWord (l : Launch) : x_CT l yX7_isWord cX7_isWord 1 (some .boolean) 2 q_X7_isWord := by
  refine x_meth (X := X_X7_isWord) (bl := b_X7_isWord) (cut := []) (own := RX7) 30 (by decide) rfl X_X7_isWord_ok b_X7_isWord_ok rfl (Nat.le_of_ble_eq_true rfl) (k_X7_isWord l) ?_
  rintro as S M - ⟨x, rfl⟩
  refine ⟨fun _ _ _ _ _ _ _ _ => False, ?_, ?_⟩
  · skip
    refine xt_blk rfl rfl (by dsimp only [List.take]) ?_
    refine xt_iln0 rfl ?_
    refine xt_ic ?_
    refine xt_bi ?_
    refine xt_v3 (key := 255) (q := q_X7_in) rfl rfl rfl rfl rfl ⟨Nat.le_of_ble_eq_true rfl, Nat.le_of_ble_eq_true rfl⟩ ⟨_, _, _, rfl⟩ (fun rv_ S1 M1 hq_4 => ?_)
    obtain ⟨eS_, eM_, h_in⟩ := hq_4 _ _ _ rfl
    replace eS_ := eS_.symm
    replace eM_ := eM_.symm
    subst eS_ eM_
    have hex_in : ∃ v, rv_ = some (.inl v) := by rcases h_in with ⟨-, e⟩ | ⟨-, e⟩ <;> exact ⟨_, e⟩
    obtain ⟨v_in, rfl⟩ := hex_in
    simp only [Option.some.injEq, Sum.inl.injEq] at h_in
    try dsimp only [Option.toList, List.cons_append, List.nil_append]
    refine xt_rz (by rcases h_in with ⟨-, rfl⟩ | ⟨-, rfl⟩ <;> decide) rfl (Nat.le_refl _) ?_
    intro x2 e2
    simp only [List.cons.injEq, Sum.inl.injEq, and_true] at e2
    subst e2
    refine ⟨rfl, rfl, ?_⟩
    simp only [Option.some.injEq, Sum.inl.injEq]
    exact in_Th (N := 7) (by decide) h_in
  · intro μ pc ls st S2 M2 cs sl h; exact h.elim
def q_X6_areTwoThings : x_K := (2, fun as S M => ∃ (a : Int32) (b : Int32), as = [.inl a, .inl b], fun as S M rv_ S' M' => ∀ (a : Int32) (b : Int32), as = [.inl a, .inl b] → S' = S ∧ M' = M ∧ (((Two a b) ∧ rv_ = some (.inl (nI 1))) ∨ (¬ (Two a b) ∧ rv_ = some (.inl (nI 0)))), 0, 0)
def b_X6_areTwoThings : x_B := [(0, 2, [(.iload_n 0, 1), (.invokestatic 133, 3), (.ifCond .eq 19, 3), (.iload_n 1, 1), (.invokestatic 133, 3), (.ifCond .eq 12, 3), (.iload_n 0, 1), (.iload_n 1, 1), (.if_icmp .eq 7, 3), (.iconst 1, 1), (.goto 4, 3)]),
  (23, 2, [(.iconst 0, 1)]),
  (24, 2, [(.ireturn, 1)])]
theorem b_X6_areTwoThings_ok : x_okB cX6_areTwoThings 2 b_X6_areTwoThings = true := by decide +kernel
def X_X6_areTwoThings : x_X := ([], [], [], [], [(399, q_X6_isThing)], (0, 0), x_kn, x_kf, 5, false)
theorem X_X6_areTwoThings_ok : x_okT RX6 X_X6_areTwoThings = true := by decide +kernel
theorem k_X6_areTwoThings (l : Launch) : ∀ z ∈ X_X6_areTwoThings.2.2.2.2.1, x_Cal l (x_rm 2 0 0) cX6_areTwoThings RX6 2 z.1 z.2 := List.forall_mem_cons.mpr ⟨x_cal_S (idx := 133) (c_X6_isThing l) ⟨by decide, by decide⟩ (by decide +kernel) (by decide +kernel) (by decide +kernel) (by decide +kernel) (by decide +kernel), fun _ h => absurd h List.not_mem_nil⟩
set_option maxHeartbeats 4000000 in
set_option maxRecDepth 100000 in
theorem c_X6_areTwoThings (l : Launch) : x_CT l yX6_areTwoThings cX6_areTwoThings 2 (some .boolean) 2 q_X6_areTwoThings := by
  refine x_meth (X := X_X6_areTwoThings) (bl := b_X6_areTwoThings) (cut := []) (own := RX6) 30 (by decide) rfl X_X6_areTwoThings_ok b_X6_areTwoThings_ok rfl (Nat.le_of_ble_eq_true rfl) (k_X6_areTwoThings l) ?_
  rintro as S M - ⟨a, b, rfl⟩
  refine ⟨fun _ _ _ _ _ _ _ _ => False, ?_, ?_⟩
  · skip
    refine xt_blk rfl rfl (by dsimp only [List.take]) ?_
    refine xt_iln0 rfl ?_
    refine xt_v1 (key := 399) (q := q_X6_isThing) rfl rfl rfl rfl rfl ⟨Nat.le_of_ble_eq_true rfl, Nat.le_of_ble_eq_true rfl⟩ ⟨_, rfl⟩ (fun rv_ S1 M1 hq_1 => ?_)
    obtain ⟨eS_, eM_, h_a⟩ := hq_1 _ rfl
    replace eS_ := eS_.symm
    replace eM_ := eM_.symm
    subst eS_ eM_
    have hex_a : ∃ v, rv_ = some (.inl v) := by rcases h_a with ⟨-, e⟩ | ⟨-, e⟩ <;> exact ⟨_, e⟩
    obtain ⟨v_a, rfl⟩ := hex_a
    simp only [Option.some.injEq, Sum.inl.injEq] at h_a
    try dsimp only [Option.toList, List.cons_append, List.nil_append]
    refine xt_eq (t := 23) rfl (fun hc_4 => ?_) (fun hc_4 => ?_)
    · skip
      refine xt_blk rfl rfl (by dsimp only [List.take]) ?_
      refine xt_ic ?_
      refine xt_nil (t := 24) rfl ?_
      refine xt_blk rfl rfl (by dsimp only [List.take]) ?_
      refine xt_rz (by decide) rfl (Nat.le_refl _) ?_
      intro a2 b2 e2
      simp only [List.cons.injEq, Sum.inl.injEq, and_true] at e2
      obtain ⟨rfl, rfl⟩ := e2
      exact ⟨rfl, rfl, Or.inr ⟨fun q => by rcases h_a with ⟨-, e⟩ | ⟨n, -⟩; rw [e] at hc_4; exact absurd hc_4 (by decide); exact n q.1, rfl⟩⟩
    · skip
      refine xt_iln1 rfl ?_
      refine xt_v1 (key := 399) (q := q_X6_isThing) rfl rfl rfl rfl rfl ⟨Nat.le_of_ble_eq_true rfl, Nat.le_of_ble_eq_true rfl⟩ ⟨_, rfl⟩ (fun rv_ S1 M1 hq_8 => ?_)
      obtain ⟨eS_, eM_, h_b⟩ := hq_8 _ rfl
      replace eS_ := eS_.symm
      replace eM_ := eM_.symm
      subst eS_ eM_
      have hex_b : ∃ v, rv_ = some (.inl v) := by rcases h_b with ⟨-, e⟩ | ⟨-, e⟩ <;> exact ⟨_, e⟩
      obtain ⟨v_b, rfl⟩ := hex_b
      simp only [Option.some.injEq, Sum.inl.injEq] at h_b
      try dsimp only [Option.toList, List.cons_append, List.nil_append]
      refine xt_eq (t := 23) rfl (fun hc_11 => ?_) (fun hc_11 => ?_)
      · skip
        refine xt_blk rfl rfl (by dsimp only [List.take]) ?_
        refine xt_ic ?_
        refine xt_nil (t := 24) rfl ?_
        refine xt_blk rfl rfl (by dsimp only [List.take]) ?_
        refine xt_rz (by decide) rfl (Nat.le_refl _) ?_
        intro a2 b2 e2
        simp only [List.cons.injEq, Sum.inl.injEq, and_true] at e2
        obtain ⟨rfl, rfl⟩ := e2
        exact ⟨rfl, rfl, Or.inr ⟨fun q => by rcases h_b with ⟨-, e⟩ | ⟨n, -⟩; rw [e] at hc_11; exact absurd hc_11 (by decide); exact n q.2.1, rfl⟩⟩
      · skip
        refine xt_iln0 rfl ?_
        refine xt_iln1 rfl ?_
        refine xt_ceq (t := 23) rfl (fun hc_16 => ?_) (fun hc_16 => ?_)
        · skip
          refine xt_blk rfl rfl (by dsimp only [List.take]) ?_
          refine xt_ic ?_
          refine xt_nil (t := 24) rfl ?_
          refine xt_blk rfl rfl (by dsimp only [List.take]) ?_
          refine xt_rz (by decide) rfl (Nat.le_refl _) ?_
          intro a2 b2 e2
          simp only [List.cons.injEq, Sum.inl.injEq, and_true] at e2
          obtain ⟨rfl, rfl⟩ := e2
          exact ⟨rfl, rfl, Or.inr ⟨fun q => q.2.2 hc_16, rfl⟩⟩
        · skip
          refine xt_ic ?_
          refine xt_goto (t := 24) rfl ?_
          refine xt_blk rfl rfl (by dsimp only [List.take]) ?_
          refine xt_rz (by decide) rfl (Nat.le_refl _) ?_
          intro a2 b2 e2
          simp only [List.cons.injEq, Sum.inl.injEq, and_true] at e2
          obtain ⟨rfl, rfl⟩ := e2
          refine ⟨rfl, rfl, Or.inl ⟨⟨?_, ?_, hc_16⟩, rfl⟩⟩
          · rcases h_a with ⟨y, -⟩ | ⟨-, e⟩
            · exact y
            · exact absurd (by rw [e]; rfl) hc_4
          · rcases h_b with ⟨y, -⟩ | ⟨-, e⟩
            · exact y
            · exact absurd (by rw [e]; rfl) hc_11
  · intro μ pc ls st S2 M2 cs sl h; exact h.elim
def q_X7_areTwo : x_K := (2, fun as S M => ∃ (a : Int32) (b : Int32), as = [.inl a, .inl b], fun as S M rv_ S' M' => ∀ (a : Int32) (b : Int32), as = [.inl a, .inl b] → S' = S ∧ M' = M ∧ (((Two a b) ∧ rv_ = some (.inl (nI 1))) ∨ (¬ (Two a b) ∧ rv_ = some (.inl (nI 0)))), 0, 0)
def b_X7_areTwo : x_B := [(0, 2, [(.iload_n 0, 1), (.invokestatic 100, 3), (.ifCond .eq 19, 3), (.iload_n 1, 1), (.invokestatic 100, 3), (.ifCond .eq 12, 3), (.iload_n 0, 1), (.iload_n 1, 1), (.if_icmp .eq 7, 3), (.iconst 1, 1), (.goto 4, 3)]),
  (23, 2, [(.iconst 0, 1)]),
  (24, 2, [(.ireturn, 1)])]
theorem b_X7_areTwo_ok : x_okB cX7_areTwo 2 b_X7_areTwo = true := by decide +kernel
def X_X7_areTwo : x_X := ([], [], [], [], [(300, q_X7_isThing)], (0, 0), x_kn, x_kf, 5, false)
theorem X_X7_areTwo_ok : x_okT RX7 X_X7_areTwo = true := by decide +kernel
theorem k_X7_areTwo (l : Launch) : ∀ z ∈ X_X7_areTwo.2.2.2.2.1, x_Cal l (x_rm 3 0 0) cX7_areTwo RX7 2 z.1 z.2 := List.forall_mem_cons.mpr ⟨x_cal_S (idx := 100) (c_X7_isThing l) ⟨by decide, by decide⟩ (by decide +kernel) (by decide +kernel) (by decide +kernel) (by decide +kernel) (by decide +kernel), fun _ h => absurd h List.not_mem_nil⟩
set_option maxHeartbeats 4000000 in
set_option maxRecDepth 100000 in
theorem c_X7_areTwo (l : Launch) : x_CT l yX7_areTwo cX7_areTwo 2 (some .boolean) 3 q_X7_areTwo := by
  refine x_meth (X := X_X7_areTwo) (bl := b_X7_areTwo) (cut := []) (own := RX7) 30 (by decide) rfl X_X7_areTwo_ok b_X7_areTwo_ok rfl (Nat.le_of_ble_eq_true rfl) (k_X7_areTwo l) ?_
  rintro as S M - ⟨a, b, rfl⟩
  refine ⟨fun _ _ _ _ _ _ _ _ => False, ?_, ?_⟩
  · skip
    refine xt_blk rfl rfl (by dsimp only [List.take]) ?_
    refine xt_iln0 rfl ?_
    refine xt_v1 (key := 300) (q := q_X7_isThing) rfl rfl rfl rfl rfl ⟨Nat.le_of_ble_eq_true rfl, Nat.le_of_ble_eq_true rfl⟩ ⟨_, rfl⟩ (fun rv_ S1 M1 hq_1 => ?_)
    obtain ⟨eS_, eM_, h_a⟩ := hq_1 _ rfl
    replace eS_ := eS_.symm
    replace eM_ := eM_.symm
    subst eS_ eM_
    have hex_a : ∃ v, rv_ = some (.inl v) := by rcases h_a with ⟨-, e⟩ | ⟨-, e⟩ <;> exact ⟨_, e⟩
    obtain ⟨v_a, rfl⟩ := hex_a
    simp only [Option.some.injEq, Sum.inl.injEq] at h_a
    try dsimp only [Option.toList, List.cons_append, List.nil_append]
    refine xt_eq (t := 23) rfl (fun hc_4 => ?_) (fun hc_4 => ?_)
    · skip
      refine xt_blk rfl rfl (by dsimp only [List.take]) ?_
      refine xt_ic ?_
      refine xt_nil (t := 24) rfl ?_
      refine xt_blk rfl rfl (by dsimp only [List.take]) ?_
      refine xt_rz (by decide) rfl (Nat.le_refl _) ?_
      intro a2 b2 e2
      simp only [List.cons.injEq, Sum.inl.injEq, and_true] at e2
      obtain ⟨rfl, rfl⟩ := e2
      exact ⟨rfl, rfl, Or.inr ⟨fun q => by rcases h_a with ⟨-, e⟩ | ⟨n, -⟩; rw [e] at hc_4; exact absurd hc_4 (by decide); exact n q.1, rfl⟩⟩
    · skip
      refine xt_iln1 rfl ?_
      refine xt_v1 (key := 300) (q := q_X7_isThing) rfl rfl rfl rfl rfl ⟨Nat.le_of_ble_eq_true rfl, Nat.le_of_ble_eq_true rfl⟩ ⟨_, rfl⟩ (fun rv_ S1 M1 hq_8 => ?_)
      obtain ⟨eS_, eM_, h_b⟩ := hq_8 _ rfl
      replace eS_ := eS_.symm
      replace eM_ := eM_.symm
      subst eS_ eM_
      have hex_b : ∃ v, rv_ = some (.inl v) := by rcases h_b with ⟨-, e⟩ | ⟨-, e⟩ <;> exact ⟨_, e⟩
      obtain ⟨v_b, rfl⟩ := hex_b
      simp only [Option.some.injEq, Sum.inl.injEq] at h_b
      try dsimp only [Option.toList, List.cons_append, List.nil_append]
      refine xt_eq (t := 23) rfl (fun hc_11 => ?_) (fun hc_11 => ?_)
      · skip
        refine xt_blk rfl rfl (by dsimp only [List.take]) ?_
        refine xt_ic ?_
        refine xt_nil (t := 24) rfl ?_
        refine xt_blk rfl rfl (by dsimp only [List.take]) ?_
        refine xt_rz (by decide) rfl (Nat.le_refl _) ?_
        intro a2 b2 e2
        simp only [List.cons.injEq, Sum.inl.injEq, and_true] at e2
        obtain ⟨rfl, rfl⟩ := e2
        exact ⟨rfl, rfl, Or.inr ⟨fun q => by rcases h_b with ⟨-, e⟩ | ⟨n, -⟩; rw [e] at hc_11; exact absurd hc_11 (by decide); exact n q.2.1, rfl⟩⟩
      · skip
        refine xt_iln0 rfl ?_
        refine xt_iln1 rfl ?_
        refine xt_ceq (t := 23) rfl (fun hc_16 => ?_) (fun hc_16 => ?_)
        · skip
          refine xt_blk rfl rfl (by dsimp only [List.take]) ?_
          refine xt_ic ?_
          refine xt_nil (t := 24) rfl ?_
          refine xt_blk rfl rfl (by dsimp only [List.take]) ?_
          refine xt_rz (by decide) rfl (Nat.le_refl _) ?_
          intro a2 b2 e2
          simp only [List.cons.injEq, Sum.inl.injEq, and_true] at e2
          obtain ⟨rfl, rfl⟩ := e2
          exact ⟨rfl, rfl, Or.inr ⟨fun q => q.2.2 hc_16, rfl⟩⟩
        · skip
          refine xt_ic ?_
          refine xt_goto (t := 24) rfl ?_
          refine xt_blk rfl rfl (by dsimp only [List.take]) ?_
          refine xt_rz (by decide) rfl (Nat.le_refl _) ?_
          intro a2 b2 e2
          simp only [List.cons.injEq, Sum.inl.injEq, and_true] at e2
          obtain ⟨rfl, rfl⟩ := e2
          refine ⟨rfl, rfl, Or.inl ⟨⟨?_, ?_, hc_16⟩, rfl⟩⟩
          · rcases h_a with ⟨y, -⟩ | ⟨-, e⟩
            · exact y
            · exact absurd (by rw [e]; rfl) hc_4
          · rcases h_b with ⟨y, -⟩ | ⟨-, e⟩
            · exact y
            · exact absurd (by rw [e]; rfl) hc_11
  · intro μ pc ls st S2 M2 cs sl h; exact h.elim
def q_X6_refusalAlong : x_K := (3, fun as S M => ∃ (w a b : Int32), as = [.inl w, .inl a, .inl b], fun as S M rv_ S' M' => ∀ (w a b : Int32), as = [.inl w, .inl a, .inl b] → S' = S ∧ M' = M ∧ ((¬ Two a b ∧ rv_ = some (.inl (-(nI 1)))) ∨ (Two a b ∧ Th 2 w ∧ rv_ = some (.inl (nI 0))) ∨ (Two a b ∧ ¬ Th 2 w ∧ rv_ = some (.inl (-(nI 2))))), 0, 0)
def b_X6_refusalAlong : x_B := [(0, 3, [(.iload_n 1, 1), (.iload_n 2, 1), (.invokestatic 81, 3), (.ifCond .ne 5, 3), (.iconst (-1), 1), (.ireturn, 1)]),
  (10, 3, [(.iload_n 0, 1), (.invokestatic 124, 3), (.ifCond .eq 7, 3), (.iconst 0, 1), (.goto 5, 3)]),
  (21, 3, [(.bipush (-2), 2)]),
  (23, 3, [(.ireturn, 1)])]
theorem b_X6_refusalAlong_ok : x_okB cX6_refusalAlong 3 b_X6_refusalAlong = true := by decide +kernel
def X_X6_refusalAlong : x_X := ([], [], [], [], [(243, q_X6_areTwoThings), (372, q_X6_isWay)], (0, 0), x_kn, x_kf, 5, false)
theorem X_X6_refusalAlong_ok : x_okT RX6 X_X6_refusalAlong = true := by decide +kernel
theorem k_X6_refusalAlong (l : Launch) : ∀ z ∈ X_X6_refusalAlong.2.2.2.2.1, x_Cal l (x_rm 3 0 0) cX6_refusalAlong RX6 3 z.1 z.2 := List.forall_mem_cons.mpr ⟨x_cal_S (idx := 81) (c_X6_areTwoThings l) ⟨by decide, by decide⟩ (by decide +kernel) (by decide +kernel) (by decide +kernel) (by decide +kernel) (by decide +kernel), List.forall_mem_cons.mpr ⟨x_cal_S (idx := 124) (c_X6_isWay l) ⟨by decide, by decide⟩ (by decide +kernel) (by decide +kernel) (by decide +kernel) (by decide +kernel) (by decide +kernel), fun _ h => absurd h List.not_mem_nil⟩⟩
set_option maxHeartbeats 4000000 in
set_option maxRecDepth 100000 in
theorem c_X6_refusalAlong (l : Launch) : x_CT l yX6_refusalAlong cX6_refusalAlong 3 (some .int) 3 q_X6_refusalAlong := by
  refine x_meth (X := X_X6_refusalAlong) (bl := b_X6_refusalAlong) (cut := []) (own := RX6) 30 (by decide) rfl X_X6_refusalAlong_ok b_X6_refusalAlong_ok rfl (Nat.le_of_ble_eq_true rfl) (k_X6_refusalAlong l) ?_
  rintro as S M - ⟨w, a, b, rfl⟩
  refine ⟨fun _ _ _ _ _ _ _ _ => False, ?_, ?_⟩
  · skip
    refine xt_blk rfl rfl (by dsimp only [List.take]) ?_
    refine xt_iln1 rfl ?_
    refine xt_iln2 rfl ?_
    refine xt_v2 (key := 243) (q := q_X6_areTwoThings) rfl rfl rfl rfl rfl ⟨Nat.le_of_ble_eq_true rfl, Nat.le_of_ble_eq_true rfl⟩ ⟨_, _, rfl⟩ (fun rv_ S1 M1 hq_2 => ?_)
    obtain ⟨eS_, eM_, h_t⟩ := hq_2 _ _ rfl
    replace eS_ := eS_.symm
    replace eM_ := eM_.symm
    subst eS_ eM_
    have hex_t : ∃ v, rv_ = some (.inl v) := by rcases h_t with ⟨-, e⟩ | ⟨-, e⟩ <;> exact ⟨_, e⟩
    obtain ⟨v_t, rfl⟩ := hex_t
    simp only [Option.some.injEq, Sum.inl.injEq] at h_t
    try dsimp only [Option.toList, List.cons_append, List.nil_append]
    refine xt_ne (t := 10) rfl (fun hc_5 => ?_) (fun hc_5 => ?_)
    · skip
      refine xt_blk rfl rfl (by dsimp only [List.take]) ?_
      refine xt_iln0 rfl ?_
      refine xt_v1 (key := 372) (q := q_X6_isWay) rfl rfl rfl rfl rfl ⟨Nat.le_of_ble_eq_true rfl, Nat.le_of_ble_eq_true rfl⟩ ⟨_, rfl⟩ (fun rv_ S1 M1 hq_11 => ?_)
      obtain ⟨eS_, eM_, h_w⟩ := hq_11 _ rfl
      replace eS_ := eS_.symm
      replace eM_ := eM_.symm
      subst eS_ eM_
      have hex_w : ∃ v, rv_ = some (.inl v) := by rcases h_w with ⟨-, e⟩ | ⟨-, e⟩ <;> exact ⟨_, e⟩
      obtain ⟨v_w, rfl⟩ := hex_w
      simp only [Option.some.injEq, Sum.inl.injEq] at h_w
      try dsimp only [Option.toList, List.cons_append, List.nil_append]
      refine xt_eq (t := 21) rfl (fun hc_14 => ?_) (fun hc_14 => ?_)
      · skip
        refine xt_blk rfl rfl (by dsimp only [List.take]) ?_
        refine xt_bim rfl ?_
        refine xt_nil (t := 23) rfl ?_
        refine xt_blk rfl rfl (by dsimp only [List.take]) ?_
        refine xt_ri rfl (Nat.le_refl _) ?_
        have h2 : Two a b := by
          rcases h_t with ⟨y, -⟩ | ⟨-, e⟩
          · exact y
          · exact absurd (by rw [e]; rfl) hc_5
        intro w2 a2 b2 e2
        simp only [List.cons.injEq, Sum.inl.injEq, and_true] at e2
        obtain ⟨rfl, rfl, rfl⟩ := e2
        exact ⟨rfl, rfl, Or.inr (Or.inr ⟨h2, fun q => by rcases h_w with ⟨-, e⟩ | ⟨n, -⟩; rw [e] at hc_14; exact absurd hc_14 (by decide); exact n q, rfl⟩)⟩
      · skip
        refine xt_ic ?_
        refine xt_goto (t := 23) rfl ?_
        refine xt_blk rfl rfl (by dsimp only [List.take]) ?_
        refine xt_ri rfl (Nat.le_refl _) ?_
        have h2 : Two a b := by
          rcases h_t with ⟨y, -⟩ | ⟨-, e⟩
          · exact y
          · exact absurd (by rw [e]; rfl) hc_5
        intro w2 a2 b2 e2
        simp only [List.cons.injEq, Sum.inl.injEq, and_true] at e2
        obtain ⟨rfl, rfl, rfl⟩ := e2
        exact ⟨rfl, rfl, Or.inr (Or.inl ⟨h2, by rcases h_w with ⟨y, -⟩ | ⟨-, e⟩; exact y; exact absurd (by rw [e]; rfl) hc_14, rfl⟩)⟩
    · skip
      refine xt_icm rfl ?_
      refine xt_ri rfl (Nat.le_refl _) ?_
      intro w2 a2 b2 e2
      simp only [List.cons.injEq, Sum.inl.injEq, and_true] at e2
      obtain ⟨rfl, rfl, rfl⟩ := e2
      exact ⟨rfl, rfl, Or.inl ⟨fun q => by rcases h_t with ⟨-, e⟩ | ⟨n, -⟩; rw [e] at hc_5; exact absurd hc_5 (by decide); exact n q, rfl⟩⟩
  · intro μ pc ls st S2 M2 cs sl h; exact h.elim
def q_X7_wrong : x_K := (3, fun as S M => ∃ (w a b : Int32), as = [.inl w, .inl a, .inl b], fun as S M rv_ S' M' => ∀ (w a b : Int32), as = [.inl w, .inl a, .inl b] → S' = S ∧ M' = M ∧ ((¬ Two a b ∧ rv_ = some (.inl (-(nI 1)))) ∨ (Two a b ∧ Th 2 w ∧ rv_ = some (.inl (nI 0))) ∨ (Two a b ∧ ¬ Th 2 w ∧ rv_ = some (.inl (-(nI 2))))), 0, 0)
def b_X7_wrong : x_B := [(0, 3, [(.iload_n 1, 1), (.iload_n 2, 1), (.invokestatic 108, 3), (.ifCond .ne 7, 3), (.iconst (-1), 1), (.goto 16, 3)]),
  (12, 3, [(.iload_n 0, 1), (.invokestatic 135, 3), (.ifCond .eq 7, 3), (.iconst 0, 1), (.goto 5, 3)]),
  (23, 3, [(.bipush (-2), 2)]),
  (25, 3, [(.ireturn, 1)])]
theorem b_X7_wrong_ok : x_okB cX7_wrong 3 b_X7_wrong = true := by decide +kernel
def X_X7_wrong : x_X := ([], [], [], [], [(324, q_X7_areTwo), (405, q_X7_isWay)], (0, 0), x_kn, x_kf, 5, false)
theorem X_X7_wrong_ok : x_okT RX7 X_X7_wrong = true := by decide +kernel
theorem k_X7_wrong (l : Launch) : ∀ z ∈ X_X7_wrong.2.2.2.2.1, x_Cal l (x_rm 4 0 0) cX7_wrong RX7 3 z.1 z.2 := List.forall_mem_cons.mpr ⟨x_cal_S (idx := 108) (c_X7_areTwo l) ⟨by decide, by decide⟩ (by decide +kernel) (by decide +kernel) (by decide +kernel) (by decide +kernel) (by decide +kernel), List.forall_mem_cons.mpr ⟨x_cal_S (idx := 135) (c_X7_isWay l) ⟨by decide, by decide⟩ (by decide +kernel) (by decide +kernel) (by decide +kernel) (by decide +kernel) (by decide +kernel), fun _ h => absurd h List.not_mem_nil⟩⟩
set_option maxHeartbeats 4000000 in
set_option maxRecDepth 100000 in
theorem c_X7_wrong (l : Launch) : x_CT l yX7_wrong cX7_wrong 3 (some .int) 4 q_X7_wrong := by
  refine x_meth (X := X_X7_wrong) (bl := b_X7_wrong) (cut := []) (own := RX7) 30 (by decide) rfl X_X7_wrong_ok b_X7_wrong_ok rfl (Nat.le_of_ble_eq_true rfl) (k_X7_wrong l) ?_
  rintro as S M - ⟨w, a, b, rfl⟩
  refine ⟨fun _ _ _ _ _ _ _ _ => False, ?_, ?_⟩
  · skip
    refine xt_blk rfl rfl (by dsimp only [List.take]) ?_
    refine xt_iln1 rfl ?_
    refine xt_iln2 rfl ?_
    refine xt_v2 (key := 324) (q := q_X7_areTwo) rfl rfl rfl rfl rfl ⟨Nat.le_of_ble_eq_true rfl, Nat.le_of_ble_eq_true rfl⟩ ⟨_, _, rfl⟩ (fun rv_ S1 M1 hq_2 => ?_)
    obtain ⟨eS_, eM_, h_t⟩ := hq_2 _ _ rfl
    replace eS_ := eS_.symm
    replace eM_ := eM_.symm
    subst eS_ eM_
    have hex_t : ∃ v, rv_ = some (.inl v) := by rcases h_t with ⟨-, e⟩ | ⟨-, e⟩ <;> exact ⟨_, e⟩
    obtain ⟨v_t, rfl⟩ := hex_t
    simp only [Option.some.injEq, Sum.inl.injEq] at h_t
    try dsimp only [Option.toList, List.cons_append, List.nil_append]
    refine xt_ne (t := 12) rfl (fun hc_5 => ?_) (fun hc_5 => ?_)
    · skip
      refine xt_blk rfl rfl (by dsimp only [List.take]) ?_
      refine xt_iln0 rfl ?_
      refine xt_v1 (key := 405) (q := q_X7_isWay) rfl rfl rfl rfl rfl ⟨Nat.le_of_ble_eq_true rfl, Nat.le_of_ble_eq_true rfl⟩ ⟨_, rfl⟩ (fun rv_ S1 M1 hq_13 => ?_)
      obtain ⟨eS_, eM_, h_w⟩ := hq_13 _ rfl
      replace eS_ := eS_.symm
      replace eM_ := eM_.symm
      subst eS_ eM_
      have hex_w : ∃ v, rv_ = some (.inl v) := by rcases h_w with ⟨-, e⟩ | ⟨-, e⟩ <;> exact ⟨_, e⟩
      obtain ⟨v_w, rfl⟩ := hex_w
      simp only [Option.some.injEq, Sum.inl.injEq] at h_w
      try dsimp only [Option.toList, List.cons_append, List.nil_append]
      refine xt_eq (t := 23) rfl (fun hc_16 => ?_) (fun hc_16 => ?_)
      · skip
        refine xt_blk rfl rfl (by dsimp only [List.take]) ?_
        refine xt_bim rfl ?_
        refine xt_nil (t := 25) rfl ?_
        refine xt_blk rfl rfl (by dsimp only [List.take]) ?_
        refine xt_ri rfl (Nat.le_refl _) ?_
        have h2 : Two a b := by
          rcases h_t with ⟨y, -⟩ | ⟨-, e⟩
          · exact y
          · exact absurd (by rw [e]; rfl) hc_5
        intro w2 a2 b2 e2
        simp only [List.cons.injEq, Sum.inl.injEq, and_true] at e2
        obtain ⟨rfl, rfl, rfl⟩ := e2
        exact ⟨rfl, rfl, Or.inr (Or.inr ⟨h2, fun q => by rcases h_w with ⟨-, e⟩ | ⟨n, -⟩; rw [e] at hc_16; exact absurd hc_16 (by decide); exact n q, rfl⟩)⟩
      · skip
        refine xt_ic ?_
        refine xt_goto (t := 25) rfl ?_
        refine xt_blk rfl rfl (by dsimp only [List.take]) ?_
        refine xt_ri rfl (Nat.le_refl _) ?_
        have h2 : Two a b := by
          rcases h_t with ⟨y, -⟩ | ⟨-, e⟩
          · exact y
          · exact absurd (by rw [e]; rfl) hc_5
        intro w2 a2 b2 e2
        simp only [List.cons.injEq, Sum.inl.injEq, and_true] at e2
        obtain ⟨rfl, rfl, rfl⟩ := e2
        exact ⟨rfl, rfl, Or.inr (Or.inl ⟨h2, by rcases h_w with ⟨y, -⟩ | ⟨-, e⟩; exact y; exact absurd (by rw [e]; rfl) hc_16, rfl⟩)⟩
    · skip
      refine xt_icm rfl ?_
      refine xt_goto (t := 25) rfl ?_
      refine xt_blk rfl rfl (by dsimp only [List.take]) ?_
      refine xt_ri rfl (Nat.le_refl _) ?_
      intro w2 a2 b2 e2
      simp only [List.cons.injEq, Sum.inl.injEq, and_true] at e2
      obtain ⟨rfl, rfl, rfl⟩ := e2
      exact ⟨rfl, rfl, Or.inl ⟨fun q => by rcases h_t with ⟨-, e⟩ | ⟨n, -⟩; rw [e] at hc_5; exact absurd hc_5 (by decide); exact n q, rfl⟩⟩
  · intro μ pc ls st S2 M2 cs sl h; exact h.elim
end
section
/-! REFUSALS; the class: turned, composed, near, steps -/
def mRef (M : x_M) (p : Nat) : x_M := x_row M 52 (upd (M 52) p (M 52 p + nI 1))
def nRef (M : x_M) (p : Nat) : x_M := x_row M 65 (upd (M 65) p (M 65 p + nI 1))
def q_X6_refuse : x_K := (2, fun as S M => ∃ p, 0 < p ∧ p < 7 ∧ S = SH ∧ as = [.inr (.inl 0), .inl (-(nI p))], fun as S M rv_ S' M' => ∀ p, 0 < p → p < 7 → as = [.inr (.inl 0), .inl (-(nI p))] → S' = S ∧ M' = mRef M p ∧ rv_ = some (.inl (-(nI p))), 0, 0)
theorem r_X6_refuse : ∀ as S M, q_X6_refuse.2.1 as S M → ∃ (k : Nat) (as' : List x_V) (fs : List (Option Nat)), as = .inr (.inl k) :: as' ∧ S[k]? = some (.inl (4, fs)) := by
  rintro as S M ⟨p, -, -, rfl, rfl⟩
  exact ⟨0, _, _, rfl, rfl⟩
def b_X6_refuse : x_B := [(0, 2, [(.iload_n 1, 1), (.ineg, 1), (.istore_n 2, 1), (.iload_n 2, 1), (.ifCond .lt 22, 3), (.iload_n 2, 1), (.aload_n 0, 1), (.getfield 49, 3), (.arraylength, 1), (.if_icmp .ge 13, 3), (.aload_n 0, 1), (.getfield 49, 3), (.iload_n 2, 1), (.dup2, 1), (.iaload, 1), (.iconst 1, 1), (.iadd, 1), (.iastore, 1)]),
  (26, 3, [(.iload_n 1, 1), (.ireturn, 1)])]
theorem b_X6_refuse_ok : x_okB cX6_refuse 3 b_X6_refuse = true := by decide +kernel
def X_X6_refuse : x_X := ([(49, 4, 5)], [], [], [], [], (0, 0), x_kn, x_kf, 5, false)
theorem X_X6_refuse_ok : x_okT RX6 X_X6_refuse = true := by decide +kernel
theorem k_X6_refuse (l : Launch) : ∀ z ∈ X_X6_refuse.2.2.2.2.1, x_Cal l (x_rm 1 0 0) cX6_refuse RX6 3 z.1 z.2 := fun _ h => absurd h List.not_mem_nil
set_option maxHeartbeats 4000000 in
set_option maxRecDepth 100000 in
theorem c_X6_refuse (l : Launch) : x_CT l yX6_refuse cX6_refuse 3 (some .int) 1 q_X6_refuse := by
  refine x_meth (X := X_X6_refuse) (bl := b_X6_refuse) (cut := []) (own := RX6) 30 (by decide) rfl X_X6_refuse_ok b_X6_refuse_ok rfl (Nat.le_of_ble_eq_true rfl) (k_X6_refuse l) ?_
  rintro as S M - ⟨p, hp0, hp7, rfl, rfl⟩
  refine ⟨fun _ _ _ _ _ _ _ _ => False, ?_, ?_⟩
  · skip
    refine xt_blk rfl rfl (by dsimp only [List.take]) ?_
    refine xt_iln1 rfl ?_
    refine xt_neg ?_
    refine xt_isn2 rfl (by dsimp only [x_sto]) ?_
    refine xt_iln2 rfl ?_
    refine xt_lt (t := 26) rfl (fun hc_4 => ?_) (fun hc_4 => ?_)
    · skip
      refine xt_blk rfl rfl (by dsimp only [List.take]) ?_
      refine xt_iln1 rfl ?_
      refine xt_ri rfl (Nat.le_refl _) ?_
      exfalso
      rw [Int32.neg_neg] at hc_4
      exact nI_pos (by omega) hc_4
    · skip
      refine xt_iln2 rfl ?_
      refine xt_aln0 rfl (by first | decide | omega | assumption) ?_
      refine xt_gfr (q := (4, 5)) rfl (by first | rfl | assumption) rfl ?_
      refine xt_len (by first | rfl | assumption) ?_
      refine xt_cge (t := 26) rfl (fun hc_13 => ?_) (fun hc_13 => ?_)
      · skip
        refine xt_blk rfl rfl (by dsimp only [List.take]) ?_
        refine xt_iln1 rfl ?_
        refine xt_ri rfl (Nat.le_refl _) ?_
        exfalso
        rw [Int32.neg_neg, nI_leI (by omega) (by omega)] at hc_13
        omega
      · skip
        refine xt_aln0 rfl (by first | decide | omega | assumption) ?_
        refine xt_gfr (q := (4, 5)) rfl (by first | rfl | assumption) rfl ?_
        refine xt_iln2 rfl ?_
        refine xt_dup2 ?_
        refine xt_ial (by first | rfl | assumption) (show vp_in _ 7 from by rw [Int32.neg_neg]; exact vp_in_nI (by omega) (by decide)) ?_
        refine xt_ic ?_
        refine xt_add ?_
        refine xt_ias (by first | rfl | assumption) (show vp_in _ 7 from by rw [Int32.neg_neg]; exact vp_in_nI (by omega) (by decide)) ?_
        refine xt_nil (t := 26) rfl ?_
        refine xt_blk rfl rfl (by dsimp only [List.take]) ?_
        refine xt_iln1 rfl ?_
        refine xt_ri rfl (Nat.le_refl _) ?_
        intro p2 hp2 hq2 e2
        simp only [List.cons.injEq, Sum.inl.injEq, and_true, true_and] at e2
        have e3 := congrArg (fun z => -z) e2
        simp only [Int32.neg_neg] at e3
        rw [nI_eq (by omega) (by omega)] at e3
        subst e3
        exact ⟨rfl, by unfold mRef; rw [Int32.neg_neg, nI_clamp (by omega)], rfl⟩
  · intro μ pc ls st S2 M2 cs sl h; exact h.elim
def q_X7_refuse : x_K := (2, fun as S M => ∃ p, 0 < p ∧ p < 7 ∧ S = SH ∧ as = [.inr (.inl 53), .inl (-(nI p))], fun as S M rv_ S' M' => ∀ p, 0 < p → p < 7 → as = [.inr (.inl 53), .inl (-(nI p))] → S' = S ∧ M' = nRef M p ∧ rv_ = some (.inl (-(nI p))), 0, 0)
theorem r_X7_refuse : ∀ as S M, q_X7_refuse.2.1 as S M → ∃ (k : Nat) (as' : List x_V) (fs : List (Option Nat)), as = .inr (.inl k) :: as' ∧ S[k]? = some (.inl (5, fs)) := by
  rintro as S M ⟨p, -, -, rfl, rfl⟩
  exact ⟨53, _, _, rfl, rfl⟩
def b_X7_refuse : x_B := [(0, 2, [(.aload_n 0, 1), (.getfield 44, 3), (.iload_n 1, 1), (.ineg, 1), (.dup2, 1), (.iaload, 1), (.iconst 1, 1), (.iadd, 1), (.iastore, 1), (.iload_n 1, 1), (.ireturn, 1)])]
theorem b_X7_refuse_ok : x_okB cX7_refuse 2 b_X7_refuse = true := by decide +kernel
def X_X7_refuse : x_X := ([(44, 5, 12)], [], [], [], [], (0, 0), x_kn, x_kf, 5, false)
theorem X_X7_refuse_ok : x_okT RX7 X_X7_refuse = true := by decide +kernel
theorem k_X7_refuse (l : Launch) : ∀ z ∈ X_X7_refuse.2.2.2.2.1, x_Cal l (x_rm 1 0 0) cX7_refuse RX7 2 z.1 z.2 := fun _ h => absurd h List.not_mem_nil
set_option maxHeartbeats 4000000 in
set_option maxRecDepth 100000 in
theorem c_X7_refuse (l : Launch) : x_CT l yX7_refuse cX7_refuse 2 (some .int) 1 q_X7_refuse := by
  refine x_meth (X := X_X7_refuse) (bl := b_X7_refuse) (cut := []) (own := RX7) 30 (by decide) rfl X_X7_refuse_ok b_X7_refuse_ok rfl (Nat.le_of_ble_eq_true rfl) (k_X7_refuse l) ?_
  rintro as S M - ⟨p, hp0, hp7, rfl, rfl⟩
  refine ⟨fun _ _ _ _ _ _ _ _ => False, ?_, ?_⟩
  · skip
    refine xt_blk rfl rfl (by dsimp only [List.take]) ?_
    refine xt_aln0 rfl (by first | decide | omega | assumption) ?_
    refine xt_gfr (q := (5, 12)) rfl (by first | rfl | assumption) rfl ?_
    refine xt_iln1 rfl ?_
    refine xt_neg ?_
    refine xt_dup2 ?_
    refine xt_ial (by first | rfl | assumption) (show vp_in _ 7 from by rw [Int32.neg_neg]; exact vp_in_nI (by omega) (by decide)) ?_
    refine xt_ic ?_
    refine xt_add ?_
    refine xt_ias (by first | rfl | assumption) (show vp_in _ 7 from by rw [Int32.neg_neg]; exact vp_in_nI (by omega) (by decide)) ?_
    refine xt_iln1 rfl ?_
    refine xt_ri rfl (Nat.le_refl _) ?_
    intro p2 hp2 hq2 e2
    simp only [List.cons.injEq, Sum.inl.injEq, and_true, true_and] at e2
    have e3 := congrArg (fun z => -z) e2
    simp only [Int32.neg_neg] at e3
    rw [nI_eq (by omega) (by omega)] at e3
    subst e3
    exact ⟨rfl, by unfold nRef; rw [Int32.neg_neg, nI_clamp (by omega)], rfl⟩
  · intro μ pc ls st S2 M2 cs sl h; exact h.elim
def q_X6_along : x_K := (2, fun as S M => ∃ w : Int32, S = SH ∧ as = [.inr (.inl 0), .inl w], fun as S M rv_ S' M' => ∀ w : Int32, as = [.inr (.inl 0), .inl w] → S' = S ∧ M' = M ∧ rv_ = some (.inr (.inl (if w = 0 then 26 else 33))), 0, 0)
theorem r_X6_along : ∀ as S M, q_X6_along.2.1 as S M → ∃ (k : Nat) (as' : List x_V) (fs : List (Option Nat)), as = .inr (.inl k) :: as' ∧ S[k]? = some (.inl (4, fs)) := by
  rintro as S M ⟨w, rfl, rfl⟩
  exact ⟨0, _, _, rfl, rfl⟩
def b_X6_along : x_B := [(0, 2, [(.iload_n 1, 1), (.ifCond .ne 10, 3), (.aload_n 0, 1), (.getfield 24, 3), (.goto 7, 3)]),
  (11, 2, [(.aload_n 0, 1), (.getfield 28, 3)]),
  (15, 2, [(.areturn, 1)])]
theorem b_X6_along_ok : x_okB cX6_along 2 b_X6_along = true := by decide +kernel
def X_X6_along : x_X := ([(24, 4, 1), (28, 4, 2)], [], [], [], [], (0, 0), x_kn, x_kf, 5, false)
theorem X_X6_along_ok : x_okT RX6 X_X6_along = true := by decide +kernel
theorem k_X6_along (l : Launch) : ∀ z ∈ X_X6_along.2.2.2.2.1, x_Cal l (x_rm 1 0 0) cX6_along RX6 2 z.1 z.2 := fun _ h => absurd h List.not_mem_nil
set_option maxHeartbeats 4000000 in
set_option maxRecDepth 100000 in
theorem c_X6_along (l : Launch) : x_CT l yX6_along cX6_along 2 (some (.object "SpaceWords$Way")) 1 q_X6_along := by
  refine x_meth (X := X_X6_along) (bl := b_X6_along) (cut := []) (own := RX6) 30 (by decide) rfl X_X6_along_ok b_X6_along_ok rfl (Nat.le_of_ble_eq_true rfl) (k_X6_along l) ?_
  rintro as S M - ⟨w, rfl, rfl⟩
  refine ⟨fun _ _ _ _ _ _ _ _ => False, ?_, ?_⟩
  · skip
    refine xt_blk rfl rfl (by dsimp only [List.take]) ?_
    refine xt_iln1 rfl ?_
    refine xt_ne (t := 11) rfl (fun hc_1 => ?_) (fun hc_1 => ?_)
    · skip
      refine xt_blk rfl rfl (by dsimp only [List.take]) ?_
      refine xt_aln0 rfl (by first | decide | omega | assumption) ?_
      refine xt_gfr (q := (4, 2)) rfl (by first | rfl | assumption) rfl ?_
      refine xt_nil (t := 15) rfl ?_
      refine xt_blk rfl rfl (by dsimp only [List.take]) ?_
      refine xt_ra (by first | decide | omega | assumption) rfl (Nat.le_refl _) ?_
      intro w2 e2
      simp only [List.cons.injEq, Sum.inl.injEq, and_true, true_and] at e2
      subst e2
      exact ⟨rfl, rfl, by rw [if_neg hc_1]⟩
    · skip
      refine xt_aln0 rfl (by first | decide | omega | assumption) ?_
      refine xt_gfr (q := (4, 1)) rfl (by first | rfl | assumption) rfl ?_
      refine xt_goto (t := 15) rfl ?_
      refine xt_blk rfl rfl (by dsimp only [List.take]) ?_
      refine xt_ra (by first | decide | omega | assumption) rfl (Nat.le_refl _) ?_
      intro w2 e2
      simp only [List.cons.injEq, Sum.inl.injEq, and_true, true_and] at e2
      subst e2
      exact ⟨rfl, rfl, by rw [if_pos hc_1]⟩
  · intro μ pc ls st S2 M2 cs sl h; exact h.elim
def q_X6_turned : x_K := (2, fun as S M => ∃ (x : Int32), S = SH ∧ as = [.inr (.inl 0), .inl x], fun as S M rv_ S' M' => ∀ (x : Int32), as = [.inr (.inl 0), .inl x] → S' = S ∧ ((∃ xn, xn < 8192 ∧ x = nI xn ∧ M' = M ∧ rv_ = some (.inl (nI (tn xn)))) ∨ (¬ (Th 8192 x) ∧ M' = mRef M 2 ∧ rv_ = some (.inl (-(nI 2))))), 0, 0)
theorem r_X6_turned : ∀ as S M, q_X6_turned.2.1 as S M → ∃ (k : Nat) (as' : List x_V) (fs : List (Option Nat)), as = .inr (.inl k) :: as' ∧ S[k]? = some (.inl (4, fs)) := by
  rintro as S M ⟨x, rfl, rfl⟩
  exact ⟨0, _, _, rfl, rfl⟩
def b_X6_turned : x_B := [(0, 2, [(.iload_n 1, 1), (.invokestatic 53, 3), (.ifCond .ne 10, 3), (.aload_n 0, 1), (.bipush (-2), 2), (.invokevirtual 57, 3), (.ireturn, 1)]),
  (14, 2, [(.iload_n 1, 1), (.invokestatic 61, 3), (.ireturn, 1)])]
theorem b_X6_turned_ok : x_okB cX6_turned 2 b_X6_turned = true := by decide +kernel
def X_X6_turned : x_X := ([], [], [], [], [(159, q_X6_isSet), (172, q_X6_refuse), (183, q_X2_turn)], (0, 0), x_kn, x_kf, 5, false)
theorem X_X6_turned_ok : x_okT RX6 X_X6_turned = true := by decide +kernel
theorem k_X6_turned (l : Launch) : ∀ z ∈ X_X6_turned.2.2.2.2.1, x_Cal l (x_rm 2 0 0) cX6_turned RX6 2 z.1 z.2 := List.forall_mem_cons.mpr ⟨x_cal_S (idx := 53) (c_X6_isSet l) ⟨by decide, by decide⟩ (by decide +kernel) (by decide +kernel) (by decide +kernel) (by decide +kernel) (by decide +kernel), List.forall_mem_cons.mpr ⟨x_cal_V (idx := 57) (ci := 4) (n := 1) (c_X6_refuse l) ⟨by decide, by decide⟩ (by decide +kernel) (by decide +kernel) (by decide +kernel) (by decide +kernel) (by decide +kernel) rfl rfl rfl (by decide +kernel) r_X6_refuse, List.forall_mem_cons.mpr ⟨x_cal_S (idx := 61) (c_X2_turn l) ⟨by decide, by decide⟩ (by decide +kernel) (by decide +kernel) (by decide +kernel) (by decide +kernel) (by decide +kernel), fun _ h => absurd h List.not_mem_nil⟩⟩⟩
set_option maxHeartbeats 4000000 in
set_option maxRecDepth 100000 in
theorem c_X6_turned (l : Launch) : x_CT l yX6_turned cX6_turned 2 (some .int) 2 q_X6_turned := by
  refine x_meth (X := X_X6_turned) (bl := b_X6_turned) (cut := []) (own := RX6) 30 (by decide) rfl X_X6_turned_ok b_X6_turned_ok rfl (Nat.le_of_ble_eq_true rfl) (k_X6_turned l) ?_
  rintro as S M - ⟨x, rfl, rfl⟩
  refine ⟨fun _ _ _ _ _ _ _ _ => False, ?_, ?_⟩
  · skip
    refine xt_blk rfl rfl (by dsimp only [List.take]) ?_
    refine xt_iln1 rfl ?_
    refine xt_v1 (key := 159) (q := q_X6_isSet) rfl rfl rfl rfl rfl ⟨Nat.le_of_ble_eq_true rfl, Nat.le_of_ble_eq_true rfl⟩ ⟨_, rfl⟩ (fun rv_ S1 M1 hq_1 => ?_)
    obtain ⟨eS_, eM_, h_x⟩ := hq_1 _ rfl
    replace eS_ := eS_.symm
    replace eM_ := eM_.symm
    subst eS_ eM_
    have hex_x : ∃ v, rv_ = some (.inl v) := by rcases h_x with ⟨-, e⟩ | ⟨-, e⟩ <;> exact ⟨_, e⟩
    obtain ⟨v_x, rfl⟩ := hex_x
    simp only [Option.some.injEq, Sum.inl.injEq] at h_x
    try dsimp only [Option.toList, List.cons_append, List.nil_append]
    refine xt_ne (t := 14) rfl (fun hc_4 => ?_) (fun hc_4 => ?_)
    · skip
      obtain ⟨xn, hxn, exn⟩ : Th 8192 x := by
        rcases h_x with ⟨y, -⟩ | ⟨-, e⟩
        · exact y
        · first | exact absurd (by rw [e]; rfl) hc_4 | (rw [e] at hc_4; exact absurd hc_4 (by decide))
      subst exn
      refine xt_blk rfl rfl (by dsimp only [List.take]) ?_
      refine xt_iln1 rfl ?_
      refine xt_v1 (key := 183) (q := q_X2_turn) rfl rfl rfl rfl rfl ⟨Nat.le_of_ble_eq_true rfl, Nat.le_of_ble_eq_true rfl⟩ ⟨xn, hxn, rfl⟩ (fun rv_ S1 M1 hq_15 => ?_)
      obtain ⟨eS_, eM_, rfl⟩ := hq_15 xn hxn rfl
      replace eS_ := eS_.symm
      replace eM_ := eM_.symm
      subst eS_ eM_
      try dsimp only [Option.toList, List.cons_append, List.nil_append]
      refine xt_ri rfl (Nat.le_refl _) ?_
      intro x2 e2
      simp only [List.cons.injEq, Sum.inl.injEq, and_true, true_and] at e2
      subst e2
      exact ⟨rfl, Or.inl ⟨xn, hxn, rfl, rfl, rfl⟩⟩
    · skip
      refine xt_aln0 rfl (by first | decide | omega | assumption) ?_
      refine xt_bim rfl ?_
      refine xt_v2 (key := 172) (q := q_X6_refuse) rfl rfl rfl rfl rfl ⟨Nat.le_of_ble_eq_true rfl, Nat.le_of_ble_eq_true rfl⟩ ⟨2, by decide, by decide, rfl, rfl⟩ (fun rv_ S1 M1 hq_10 => ?_)
      obtain ⟨eS_, eM_, rfl⟩ := hq_10 2 (by decide) (by decide) rfl
      replace eS_ := eS_.symm
      replace eM_ := eM_.symm
      subst eS_ eM_
      try dsimp only [Option.toList, List.cons_append, List.nil_append]
      refine xt_ri rfl (Nat.le_refl _) ?_
      intro x2 e2
      simp only [List.cons.injEq, Sum.inl.injEq, and_true, true_and] at e2
      subst e2
      refine ⟨rfl, Or.inr ⟨fun q => ?_, rfl, rfl⟩⟩
      rcases h_x with ⟨-, e⟩ | ⟨n, -⟩
      · first | (rw [e] at hc_4; exact absurd hc_4 (by decide)) | exact absurd (by rw [e]; rfl) hc_4
      · exact n q
  · intro μ pc ls st S2 M2 cs sl h; exact h.elim
theorem and_8191 {n : Nat} (h : n < 2 ^ 13) : n &&& 8191 = n := by rw [Nat.and_comm]; exact and_all h
def q_X6_composed : x_K := (3, fun as S M => ∃ (x : Int32) (y : Int32), S = SH ∧ as = [.inr (.inl 0), .inl x, .inl y], fun as S M rv_ S' M' => ∀ (x : Int32) (y : Int32), as = [.inr (.inl 0), .inl x, .inl y] → S' = S ∧ ((∃ xn yn, xn < 8192 ∧ x = nI xn ∧ yn < 8192 ∧ y = nI yn ∧ M' = M ∧ rv_ = some (.inl (nI (cm xn yn)))) ∨ (¬ (Th 8192 x ∧ Th 8192 y) ∧ M' = mRef M 2 ∧ rv_ = some (.inl (-(nI 2))))), 0, 0)
theorem r_X6_composed : ∀ as S M, q_X6_composed.2.1 as S M → ∃ (k : Nat) (as' : List x_V) (fs : List (Option Nat)), as = .inr (.inl k) :: as' ∧ S[k]? = some (.inl (4, fs)) := by
  rintro as S M ⟨x, y, rfl, rfl⟩
  exact ⟨0, _, _, rfl, rfl⟩
def b_X6_composed : x_B := [(0, 3, [(.iload_n 1, 1), (.invokestatic 53, 3), (.ifCond .eq 10, 3), (.iload_n 2, 1), (.invokestatic 53, 3), (.ifCond .ne 10, 3)]),
  (14, 3, [(.aload_n 0, 1), (.bipush (-2), 2), (.invokevirtual 57, 3), (.ireturn, 1)]),
  (21, 3, [(.iload_n 1, 1), (.iload_n 2, 1), (.sipush 8191, 3), (.invokestatic 66, 3), (.ireturn, 1)])]
theorem b_X6_composed_ok : x_okB cX6_composed 3 b_X6_composed = true := by decide +kernel
def X_X6_composed : x_X := ([], [], [], [], [(159, q_X6_isSet), (172, q_X6_refuse), (198, q_X2_compose)], (0, 0), x_kn, x_kf, 5, false)
theorem X_X6_composed_ok : x_okT RX6 X_X6_composed = true := by decide +kernel
theorem k_X6_composed (l : Launch) : ∀ z ∈ X_X6_composed.2.2.2.2.1, x_Cal l (x_rm 2 0 0) cX6_composed RX6 3 z.1 z.2 := List.forall_mem_cons.mpr ⟨x_cal_S (idx := 53) (c_X6_isSet l) ⟨by decide, by decide⟩ (by decide +kernel) (by decide +kernel) (by decide +kernel) (by decide +kernel) (by decide +kernel), List.forall_mem_cons.mpr ⟨x_cal_V (idx := 57) (ci := 4) (n := 1) (c_X6_refuse l) ⟨by decide, by decide⟩ (by decide +kernel) (by decide +kernel) (by decide +kernel) (by decide +kernel) (by decide +kernel) rfl rfl rfl (by decide +kernel) r_X6_refuse, List.forall_mem_cons.mpr ⟨x_cal_S (idx := 66) (c_X2_compose l) ⟨by decide, by decide⟩ (by decide +kernel) (by decide +kernel) (by decide +kernel) (by decide +kernel) (by decide +kernel), fun _ h => absurd h List.not_mem_nil⟩⟩⟩
set_option maxHeartbeats 4000000 in
set_option maxRecDepth 100000 in
theorem c_X6_composed (l : Launch) : x_CT l yX6_composed cX6_composed 3 (some .int) 2 q_X6_composed := by
  refine x_meth (X := X_X6_composed) (bl := b_X6_composed) (cut := []) (own := RX6) 30 (by decide) rfl X_X6_composed_ok b_X6_composed_ok rfl (Nat.le_of_ble_eq_true rfl) (k_X6_composed l) ?_
  rintro as S M - ⟨x, y, rfl, rfl⟩
  refine ⟨fun _ _ _ _ _ _ _ _ => False, ?_, ?_⟩
  · skip
    refine xt_blk rfl rfl (by dsimp only [List.take]) ?_
    refine xt_iln1 rfl ?_
    refine xt_v1 (key := 159) (q := q_X6_isSet) rfl rfl rfl rfl rfl ⟨Nat.le_of_ble_eq_true rfl, Nat.le_of_ble_eq_true rfl⟩ ⟨_, rfl⟩ (fun rv_ S1 M1 hq_1 => ?_)
    obtain ⟨eS_, eM_, h_x⟩ := hq_1 _ rfl
    replace eS_ := eS_.symm
    replace eM_ := eM_.symm
    subst eS_ eM_
    have hex_x : ∃ v, rv_ = some (.inl v) := by rcases h_x with ⟨-, e⟩ | ⟨-, e⟩ <;> exact ⟨_, e⟩
    obtain ⟨v_x, rfl⟩ := hex_x
    simp only [Option.some.injEq, Sum.inl.injEq] at h_x
    try dsimp only [Option.toList, List.cons_append, List.nil_append]
    refine xt_eq (t := 14) rfl (fun hc_4 => ?_) (fun hc_4 => ?_)
    · skip
      refine xt_blk rfl rfl (by dsimp only [List.take]) ?_
      refine xt_aln0 rfl (by first | decide | omega | assumption) ?_
      refine xt_bim rfl ?_
      refine xt_v2 (key := 172) (q := q_X6_refuse) rfl rfl rfl rfl rfl ⟨Nat.le_of_ble_eq_true rfl, Nat.le_of_ble_eq_true rfl⟩ ⟨2, by decide, by decide, rfl, rfl⟩ (fun rv_ S1 M1 hq_17 => ?_)
      obtain ⟨eS_, eM_, rfl⟩ := hq_17 2 (by decide) (by decide) rfl
      replace eS_ := eS_.symm
      replace eM_ := eM_.symm
      subst eS_ eM_
      try dsimp only [Option.toList, List.cons_append, List.nil_append]
      refine xt_ri rfl (Nat.le_refl _) ?_
      intro x2 y2 e2
      simp only [List.cons.injEq, Sum.inl.injEq, and_true, true_and] at e2
      obtain ⟨rfl, rfl⟩ := e2
      refine ⟨rfl, Or.inr ⟨fun q => ?_, rfl, rfl⟩⟩
      rcases h_x with ⟨-, e⟩ | ⟨n, -⟩
      · first | (rw [e] at hc_4; exact absurd hc_4 (by decide)) | exact absurd (by rw [e]; rfl) hc_4
      · exact n q.1
    · skip
      refine xt_iln2 rfl ?_
      refine xt_v1 (key := 159) (q := q_X6_isSet) rfl rfl rfl rfl rfl ⟨Nat.le_of_ble_eq_true rfl, Nat.le_of_ble_eq_true rfl⟩ ⟨_, rfl⟩ (fun rv_ S1 M1 hq_8 => ?_)
      obtain ⟨eS_, eM_, h_y⟩ := hq_8 _ rfl
      replace eS_ := eS_.symm
      replace eM_ := eM_.symm
      subst eS_ eM_
      have hex_y : ∃ v, rv_ = some (.inl v) := by rcases h_y with ⟨-, e⟩ | ⟨-, e⟩ <;> exact ⟨_, e⟩
      obtain ⟨v_y, rfl⟩ := hex_y
      simp only [Option.some.injEq, Sum.inl.injEq] at h_y
      try dsimp only [Option.toList, List.cons_append, List.nil_append]
      refine xt_ne (t := 21) rfl (fun hc_11 => ?_) (fun hc_11 => ?_)
      · skip
        obtain ⟨xn, hxn, exn⟩ : Th 8192 x := by
          rcases h_x with ⟨y, -⟩ | ⟨-, e⟩
          · exact y
          · first | exact absurd (by rw [e]; rfl) hc_4 | (rw [e] at hc_4; exact absurd hc_4 (by decide))
        subst exn
        obtain ⟨yn, hyn, eyn⟩ : Th 8192 y := by
          rcases h_y with ⟨y, -⟩ | ⟨-, e⟩
          · exact y
          · first | exact absurd (by rw [e]; rfl) hc_11 | (rw [e] at hc_11; exact absurd hc_11 (by decide))
        subst eyn
        refine xt_blk rfl rfl (by dsimp only [List.take]) ?_
        refine xt_iln1 rfl ?_
        refine xt_iln2 rfl ?_
        refine xt_si ?_
        refine xt_v3 (key := 198) (q := q_X2_compose) rfl rfl rfl rfl rfl ⟨Nat.le_of_ble_eq_true rfl, Nat.le_of_ble_eq_true rfl⟩ ⟨xn, yn, 8191, hxn, hyn, by decide, rfl⟩ (fun rv_ S1 M1 hq_26 => ?_)
        obtain ⟨eS_, eM_, rfl⟩ := hq_26 xn yn 8191 hxn hyn (by decide) rfl
        replace eS_ := eS_.symm
        replace eM_ := eM_.symm
        subst eS_ eM_
        try dsimp only [Option.toList, List.cons_append, List.nil_append]
        refine xt_ri rfl (Nat.le_refl _) ?_
        intro x2 y2 e2
        simp only [List.cons.injEq, Sum.inl.injEq, and_true, true_and] at e2
        obtain ⟨rfl, rfl⟩ := e2
        exact ⟨rfl, Or.inl ⟨xn, yn, ⟨hxn, rfl, hyn, rfl, rfl, by rw [and_8191 (cm_lt _ _)]⟩⟩⟩
      · skip
        refine xt_nil (t := 14) rfl ?_
        refine xt_blk rfl rfl (by dsimp only [List.take]) ?_
        refine xt_aln0 rfl (by first | decide | omega | assumption) ?_
        refine xt_bim rfl ?_
        refine xt_v2 (key := 172) (q := q_X6_refuse) rfl rfl rfl rfl rfl ⟨Nat.le_of_ble_eq_true rfl, Nat.le_of_ble_eq_true rfl⟩ ⟨2, by decide, by decide, rfl, rfl⟩ (fun rv_ S1 M1 hq_17 => ?_)
        obtain ⟨eS_, eM_, rfl⟩ := hq_17 2 (by decide) (by decide) rfl
        replace eS_ := eS_.symm
        replace eM_ := eM_.symm
        subst eS_ eM_
        try dsimp only [Option.toList, List.cons_append, List.nil_append]
        refine xt_ri rfl (Nat.le_refl _) ?_
        intro x2 y2 e2
        simp only [List.cons.injEq, Sum.inl.injEq, and_true, true_and] at e2
        obtain ⟨rfl, rfl⟩ := e2
        refine ⟨rfl, Or.inr ⟨fun q => ?_, rfl, rfl⟩⟩
        rcases h_y with ⟨-, e⟩ | ⟨n, -⟩
        · first | (rw [e] at hc_11; exact absurd hc_11 (by decide)) | exact absurd (by rw [e]; rfl) hc_11
        · exact n q.2
  · intro μ pc ls st S2 M2 cs sl h; exact h.elim
def q_X6_steps : x_K := (3, fun as S M => ∃ (x : Int32) (y : Int32), S = SH ∧ as = [.inr (.inl 0), .inl x, .inl y], fun as S M rv_ S' M' => ∀ (x : Int32) (y : Int32), as = [.inr (.inl 0), .inl x, .inl y] → S' = S ∧ ((∃ xn yn, xn < 13 ∧ x = nI xn ∧ yn < 13 ∧ y = nI yn ∧ M' = M ∧ rv_ = some (.inl (nI (stp xn yn)))) ∨ (¬ (Th 13 x ∧ Th 13 y) ∧ M' = mRef M 1 ∧ rv_ = some (.inl (-(nI 1))))), 0, 0)
theorem r_X6_steps : ∀ as S M, q_X6_steps.2.1 as S M → ∃ (k : Nat) (as' : List x_V) (fs : List (Option Nat)), as = .inr (.inl k) :: as' ∧ S[k]? = some (.inl (4, fs)) := by
  rintro as S M ⟨x, y, rfl, rfl⟩
  exact ⟨0, _, _, rfl, rfl⟩
def b_X6_steps : x_B := [(0, 3, [(.iload_n 1, 1), (.invokestatic 70, 3), (.ifCond .eq 10, 3), (.iload_n 2, 1), (.invokestatic 70, 3), (.ifCond .ne 9, 3)]),
  (14, 3, [(.aload_n 0, 1), (.iconst (-1), 1), (.invokevirtual 57, 3), (.ireturn, 1)]),
  (20, 3, [(.iload_n 1, 1), (.iload_n 2, 1), (.invokestatic 77, 3), (.ireturn, 1)])]
theorem b_X6_steps_ok : x_okB cX6_steps 3 b_X6_steps = true := by decide +kernel
def X_X6_steps : x_X := ([], [], [], [], [(210, q_X6_isRelation), (172, q_X6_refuse), (231, q_X2_stepsBetween)], (0, 0), x_kn, x_kf, 5, false)
theorem X_X6_steps_ok : x_okT RX6 X_X6_steps = true := by decide +kernel
theorem k_X6_steps (l : Launch) : ∀ z ∈ X_X6_steps.2.2.2.2.1, x_Cal l (x_rm 3 0 0) cX6_steps RX6 3 z.1 z.2 := List.forall_mem_cons.mpr ⟨x_cal_S (idx := 70) (c_X6_isRelation l) ⟨by decide, by decide⟩ (by decide +kernel) (by decide +kernel) (by decide +kernel) (by decide +kernel) (by decide +kernel), List.forall_mem_cons.mpr ⟨x_cal_V (idx := 57) (ci := 4) (n := 1) (c_X6_refuse l) ⟨by decide, by decide⟩ (by decide +kernel) (by decide +kernel) (by decide +kernel) (by decide +kernel) (by decide +kernel) rfl rfl rfl (by decide +kernel) r_X6_refuse, List.forall_mem_cons.mpr ⟨x_cal_S (idx := 77) (c_X2_stepsBetween l) ⟨by decide, by decide⟩ (by decide +kernel) (by decide +kernel) (by decide +kernel) (by decide +kernel) (by decide +kernel), fun _ h => absurd h List.not_mem_nil⟩⟩⟩
set_option maxHeartbeats 4000000 in
set_option maxRecDepth 100000 in
theorem c_X6_steps (l : Launch) : x_CT l yX6_steps cX6_steps 3 (some .int) 3 q_X6_steps := by
  refine x_meth (X := X_X6_steps) (bl := b_X6_steps) (cut := []) (own := RX6) 30 (by decide) rfl X_X6_steps_ok b_X6_steps_ok rfl (Nat.le_of_ble_eq_true rfl) (k_X6_steps l) ?_
  rintro as S M - ⟨x, y, rfl, rfl⟩
  refine ⟨fun _ _ _ _ _ _ _ _ => False, ?_, ?_⟩
  · skip
    refine xt_blk rfl rfl (by dsimp only [List.take]) ?_
    refine xt_iln1 rfl ?_
    refine xt_v1 (key := 210) (q := q_X6_isRelation) rfl rfl rfl rfl rfl ⟨Nat.le_of_ble_eq_true rfl, Nat.le_of_ble_eq_true rfl⟩ ⟨_, rfl⟩ (fun rv_ S1 M1 hq_1 => ?_)
    obtain ⟨eS_, eM_, h_x⟩ := hq_1 _ rfl
    replace eS_ := eS_.symm
    replace eM_ := eM_.symm
    subst eS_ eM_
    have hex_x : ∃ v, rv_ = some (.inl v) := by rcases h_x with ⟨-, e⟩ | ⟨-, e⟩ <;> exact ⟨_, e⟩
    obtain ⟨v_x, rfl⟩ := hex_x
    simp only [Option.some.injEq, Sum.inl.injEq] at h_x
    try dsimp only [Option.toList, List.cons_append, List.nil_append]
    refine xt_eq (t := 14) rfl (fun hc_4 => ?_) (fun hc_4 => ?_)
    · skip
      refine xt_blk rfl rfl (by dsimp only [List.take]) ?_
      refine xt_aln0 rfl (by first | decide | omega | assumption) ?_
      refine xt_icm rfl ?_
      refine xt_v2 (key := 172) (q := q_X6_refuse) rfl rfl rfl rfl rfl ⟨Nat.le_of_ble_eq_true rfl, Nat.le_of_ble_eq_true rfl⟩ ⟨1, by decide, by decide, rfl, rfl⟩ (fun rv_ S1 M1 hq_16 => ?_)
      obtain ⟨eS_, eM_, rfl⟩ := hq_16 1 (by decide) (by decide) rfl
      replace eS_ := eS_.symm
      replace eM_ := eM_.symm
      subst eS_ eM_
      try dsimp only [Option.toList, List.cons_append, List.nil_append]
      refine xt_ri rfl (Nat.le_refl _) ?_
      intro x2 y2 e2
      simp only [List.cons.injEq, Sum.inl.injEq, and_true, true_and] at e2
      obtain ⟨rfl, rfl⟩ := e2
      refine ⟨rfl, Or.inr ⟨fun q => ?_, rfl, rfl⟩⟩
      rcases h_x with ⟨-, e⟩ | ⟨n, -⟩
      · first | (rw [e] at hc_4; exact absurd hc_4 (by decide)) | exact absurd (by rw [e]; rfl) hc_4
      · exact n q.1
    · skip
      refine xt_iln2 rfl ?_
      refine xt_v1 (key := 210) (q := q_X6_isRelation) rfl rfl rfl rfl rfl ⟨Nat.le_of_ble_eq_true rfl, Nat.le_of_ble_eq_true rfl⟩ ⟨_, rfl⟩ (fun rv_ S1 M1 hq_8 => ?_)
      obtain ⟨eS_, eM_, h_y⟩ := hq_8 _ rfl
      replace eS_ := eS_.symm
      replace eM_ := eM_.symm
      subst eS_ eM_
      have hex_y : ∃ v, rv_ = some (.inl v) := by rcases h_y with ⟨-, e⟩ | ⟨-, e⟩ <;> exact ⟨_, e⟩
      obtain ⟨v_y, rfl⟩ := hex_y
      simp only [Option.some.injEq, Sum.inl.injEq] at h_y
      try dsimp only [Option.toList, List.cons_append, List.nil_append]
      refine xt_ne (t := 20) rfl (fun hc_11 => ?_) (fun hc_11 => ?_)
      · skip
        obtain ⟨xn, hxn, exn⟩ : Th 13 x := by
          rcases h_x with ⟨y, -⟩ | ⟨-, e⟩
          · exact y
          · first | exact absurd (by rw [e]; rfl) hc_4 | (rw [e] at hc_4; exact absurd hc_4 (by decide))
        subst exn
        obtain ⟨yn, hyn, eyn⟩ : Th 13 y := by
          rcases h_y with ⟨y, -⟩ | ⟨-, e⟩
          · exact y
          · first | exact absurd (by rw [e]; rfl) hc_11 | (rw [e] at hc_11; exact absurd hc_11 (by decide))
        subst eyn
        refine xt_blk rfl rfl (by dsimp only [List.take]) ?_
        refine xt_iln1 rfl ?_
        refine xt_iln2 rfl ?_
        refine xt_v2 (key := 231) (q := q_X2_stepsBetween) rfl rfl rfl rfl rfl ⟨Nat.le_of_ble_eq_true rfl, Nat.le_of_ble_eq_true rfl⟩ ⟨xn, yn, hxn, hyn, rfl⟩ (fun rv_ S1 M1 hq_22 => ?_)
        obtain ⟨eS_, eM_, rfl⟩ := hq_22 xn yn hxn hyn rfl
        replace eS_ := eS_.symm
        replace eM_ := eM_.symm
        subst eS_ eM_
        try dsimp only [Option.toList, List.cons_append, List.nil_append]
        refine xt_ri rfl (Nat.le_refl _) ?_
        intro x2 y2 e2
        simp only [List.cons.injEq, Sum.inl.injEq, and_true, true_and] at e2
        obtain ⟨rfl, rfl⟩ := e2
        exact ⟨rfl, Or.inl ⟨xn, yn, ⟨hxn, rfl, hyn, rfl, rfl, rfl⟩⟩⟩
      · skip
        refine xt_nil (t := 14) rfl ?_
        refine xt_blk rfl rfl (by dsimp only [List.take]) ?_
        refine xt_aln0 rfl (by first | decide | omega | assumption) ?_
        refine xt_icm rfl ?_
        refine xt_v2 (key := 172) (q := q_X6_refuse) rfl rfl rfl rfl rfl ⟨Nat.le_of_ble_eq_true rfl, Nat.le_of_ble_eq_true rfl⟩ ⟨1, by decide, by decide, rfl, rfl⟩ (fun rv_ S1 M1 hq_16 => ?_)
        obtain ⟨eS_, eM_, rfl⟩ := hq_16 1 (by decide) (by decide) rfl
        replace eS_ := eS_.symm
        replace eM_ := eM_.symm
        subst eS_ eM_
        try dsimp only [Option.toList, List.cons_append, List.nil_append]
        refine xt_ri rfl (Nat.le_refl _) ?_
        intro x2 y2 e2
        simp only [List.cons.injEq, Sum.inl.injEq, and_true, true_and] at e2
        obtain ⟨rfl, rfl⟩ := e2
        refine ⟨rfl, Or.inr ⟨fun q => ?_, rfl, rfl⟩⟩
        rcases h_y with ⟨-, e⟩ | ⟨n, -⟩
        · first | (rw [e] at hc_11; exact absurd hc_11 (by decide)) | exact absurd (by rw [e]; rfl) hc_11
        · exact n q.2
  · intro μ pc ls st S2 M2 cs sl h; exact h.elim
end
section
/-! THE REFERENCE: turn, bitOf, compose -/
theorem fo_tn {n : Nat} (hn : n < 8192) : fo (fun r => 2 ^ (12 - r)) n 13 = tn n := by
  refine tb_ext (fo_lt (k := 13) (fun j => Nat.pow_lt_pow_right (by decide) (by omega)) 13) (tn_lt n) (fun j hj => ?_)
  rw [fo_tb, tn_tb _ hj]
  constructor
  · rintro ⟨i, hi, h1, h2⟩
    rw [Nat.testBit_two_pow] at h2
    have h2 : 12 - i = j := by simpa using h2
    rw [show 12 - j = i by omega]; exact h1
  · intro h
    exact ⟨12 - j, by omega, h, by rw [show 12 - (12 - j) = j by omega]; exact Nat.testBit_two_pow_self⟩
def q_X7_turn : x_K := (1, fun as S M => ∃ (n : Nat), n < 8192 ∧ as = [.inl (nI n)], fun as S M rv_ S' M' => ∀ (n : Nat), n < 8192 → as = [.inl (nI n)] → S' = S ∧ M' = M ∧ rv_ = some (.inl (nI (tn n))), 0, 0)
def b_X7_turn : x_B := [(0, 1, [(.iconst 0, 1), (.istore_n 1, 1), (.iconst 0, 1), (.istore_n 2, 1)]),
  (4, 3, [(.iload_n 2, 1), (.bipush 13, 2), (.if_icmp .ge 31, 3), (.iload_n 1, 1), (.iload_n 0, 1), (.iload_n 2, 1), (.ishr, 1), (.iconst 1, 1), (.iand, 1), (.iconst 1, 1), (.if_icmp .ne 12, 3), (.iconst 1, 1), (.bipush 12, 2), (.iload_n 2, 1), (.isub, 1), (.ishl, 1), (.goto 4, 3)]),
  (29, 3, [(.iconst 0, 1)]),
  (30, 3, [(.ior, 1), (.istore_n 1, 1), (.iinc 2 1, 3), (.goto (-31), 3)]),
  (38, 3, [(.iload_n 1, 1), (.ireturn, 1)])]
theorem b_X7_turn_ok : x_okB cX7_turn 3 b_X7_turn = true := by decide +kernel
def X_X7_turn : x_X := ([], [], [], [], [], (0, 0), x_kn, x_kf, 5, false)
theorem X_X7_turn_ok : x_okT RX7 X_X7_turn = true := by decide +kernel
theorem k_X7_turn (l : Launch) : ∀ z ∈ X_X7_turn.2.2.2.2.1, x_Cal l (x_rm 1 0 0) cX7_turn RX7 3 z.1 z.2 := fun _ h => absurd h List.not_mem_nil
set_option maxHeartbeats 4000000 in
set_option maxRecDepth 100000 in
theorem c_X7_turn (l : Launch) : x_CT l yX7_turn cX7_turn 3 (some .int) 1 q_X7_turn := by
  refine x_meth (X := X_X7_turn) (bl := b_X7_turn) (cut := [4]) (own := RX7) 30 (by decide) rfl X_X7_turn_ok b_X7_turn_ok rfl (Nat.le_of_ble_eq_true rfl) (k_X7_turn l) ?_
  rintro as S M - ⟨n, hn, rfl⟩
  refine ⟨fun μ pc ls st S' M' cs sl => ∃ i, i ≤ 13 ∧ pc = 4 ∧ st = [] ∧ S' = S ∧ M' = M ∧ cs = 0 ∧ sl = 0 ∧ ls = [.inl (nI n), .inl (nI (fo (fun r => 2 ^ (12 - r)) n i)), .inl (nI i)] ∧ μ = 13 - i, ?_, ?_⟩
  · skip
    refine xt_blk rfl rfl (by dsimp only [List.take]) ?_
    refine xt_ic ?_
    refine xt_isn1 rfl (by dsimp only [x_sto]) ?_
    refine xt_ic ?_
    refine xt_isn2 rfl (by dsimp only [x_sto]) ?_
    refine xt_nil (t := 4) rfl ?_
    refine xt_cut rfl rfl (by dsimp only [List.take]) ?_
    exact ⟨13, 0, by omega, rfl, rfl, rfl, rfl, rfl, rfl, rfl, rfl⟩
  · rintro μ pc ls st S2 M2 cs sl (⟨i, hi, rfl, rfl, rfl, rfl, rfl, rfl, rfl, rfl⟩)
    · refine ⟨_, rfl, ?_⟩
      refine xt_iln2 rfl ?_
      refine xt_bi ?_
      refine xt_cge (t := 38) rfl (fun hc_7 => ?_) (fun hc_7 => ?_)
      · skip
        refine xt_blk rfl rfl (by dsimp only [List.take]) ?_
        refine xt_iln1 rfl ?_
        refine xt_ri rfl (Nat.le_refl _) ?_
        have h13 : i = 13 := by rw [nI_leI (by omega) (by omega)] at hc_7; omega
        subst h13
        intro n2 h2n e2
        simp only [List.cons.injEq, Sum.inl.injEq, and_true] at e2
        have e2n := e2
        rw [nI_eq (by omega) (by omega)] at e2n
        subst e2n
        exact ⟨rfl, rfl, by rw [fo_tn hn]⟩
      · skip
        refine xt_iln1 rfl ?_
        refine xt_iln0 rfl ?_
        refine xt_iln2 rfl ?_
        refine xt_shr ?_
        refine xt_ic ?_
        refine xt_and ?_
        refine xt_ic ?_
        refine xt_cne (t := 29) rfl (fun hc_17 => ?_) (fun hc_17 => ?_)
        · skip
          refine xt_blk rfl rfl (by dsimp only [List.take]) ?_
          refine xt_ic ?_
          refine xt_nil (t := 30) rfl ?_
          refine xt_blk rfl rfl (by dsimp only [List.take]) ?_
          refine xt_or ?_
          refine xt_isn1 rfl (by dsimp only [x_sto]) ?_
          refine xt_inc rfl (by dsimp only [x_sto]) ?_
          refine xt_goto (t := 4) rfl ?_
          refine xt_cut rfl rfl (by dsimp only [List.take]) ?_
          have hlt : i < 13 := by rw [nI_leI (by omega) (by omega)] at hc_7; omega
          have hb := bi_lt n i
          rw [n_bit (by omega) (by omega), nI_eq (by unfold bi at hb; omega) (by decide)] at hc_17
          have e : fo (fun r => 2 ^ (12 - r)) n (i + 1) = fo (fun r => 2 ^ (12 - r)) n i := by
            show (if bi n i = 1 then _ else _) = _
            rw [if_neg (by unfold bi; exact hc_17)]
          exact ⟨13 - (i + 1), by omega, i + 1, by omega, rfl, rfl, rfl, rfl, rfl, rfl, by rw [n_or, Nat.or_zero, nI_add, e], rfl⟩
        · skip
          refine xt_ic ?_
          refine xt_bi ?_
          refine xt_iln2 rfl ?_
          refine xt_sub ?_
          refine xt_shl ?_
          refine xt_goto (t := 30) rfl ?_
          refine xt_blk rfl rfl (by dsimp only [List.take]) ?_
          refine xt_or ?_
          refine xt_isn1 rfl (by dsimp only [x_sto]) ?_
          refine xt_inc rfl (by dsimp only [x_sto]) ?_
          refine xt_goto (t := 4) rfl ?_
          refine xt_cut rfl rfl (by dsimp only [List.take]) ?_
          have hlt : i < 13 := by rw [nI_leI (by omega) (by omega)] at hc_7; omega
          have hb := bi_lt n i
          rw [n_bit (by omega) (by omega), nI_eq (by unfold bi at hb; omega) (by decide)] at hc_17
          have e : fo (fun r => 2 ^ (12 - r)) n (i + 1) = fo (fun r => 2 ^ (12 - r)) n i ||| 2 ^ (12 - i) := by
            show (if bi n i = 1 then _ else _) = _
            rw [if_pos (by unfold bi; exact hc_17)]
          have hpw : 2 ^ (12 - i) < 2 ^ 31 := Nat.pow_lt_pow_right (by decide) (by omega)
          exact ⟨13 - (i + 1), by omega, i + 1, by omega, rfl, rfl, rfl, rfl, rfl, rfl, by rw [pk_sub (by omega), n_shl (by omega) (by omega), Nat.one_mul, n_or, nI_add, e], rfl⟩
def q_X7_bitOf : x_K := (1, fun as S M => ∃ q : Nat, q < 13 ∧ as = [.inl (nI (2 ^ q))], fun as S M rv_ S' M' => ∀ q : Nat, q < 13 → as = [.inl (nI (2 ^ q))] → S' = S ∧ M' = M ∧ rv_ = some (.inl (nI q)), 0, 0)
def b_X7_bitOf : x_B := [(0, 1, [(.iconst 0, 1), (.istore_n 1, 1)]),
  (2, 2, [(.iload_n 0, 1), (.iload_n 1, 1), (.ishr, 1), (.iconst 1, 1), (.if_icmp .le 9, 3), (.iinc 1 1, 3), (.goto (-10), 3)]),
  (15, 2, [(.iload_n 1, 1), (.ireturn, 1)])]
theorem b_X7_bitOf_ok : x_okB cX7_bitOf 2 b_X7_bitOf = true := by decide +kernel
def X_X7_bitOf : x_X := ([], [], [], [], [], (0, 0), x_kn, x_kf, 5, false)
theorem X_X7_bitOf_ok : x_okT RX7 X_X7_bitOf = true := by decide +kernel
theorem k_X7_bitOf (l : Launch) : ∀ z ∈ X_X7_bitOf.2.2.2.2.1, x_Cal l (x_rm 1 0 0) cX7_bitOf RX7 2 z.1 z.2 := fun _ h => absurd h List.not_mem_nil
set_option maxHeartbeats 4000000 in
set_option maxRecDepth 100000 in
theorem c_X7_bitOf (l : Launch) : x_CT l yX7_bitOf cX7_bitOf 2 (some .int) 1 q_X7_bitOf := by
  refine x_meth (X := X_X7_bitOf) (bl := b_X7_bitOf) (cut := [2]) (own := RX7) 30 (by decide) rfl X_X7_bitOf_ok b_X7_bitOf_ok rfl (Nat.le_of_ble_eq_true rfl) (k_X7_bitOf l) ?_
  rintro as S M - ⟨q, hq, rfl⟩
  refine ⟨fun μ pc ls st S' M' cs sl => ∃ i, i ≤ q ∧ pc = 2 ∧ st = [] ∧ S' = S ∧ M' = M ∧ cs = 0 ∧ sl = 0 ∧ ls = [.inl (nI (2 ^ q)), .inl (nI i)] ∧ μ = q - i, ?_, ?_⟩
  · skip
    refine xt_blk rfl rfl (by dsimp only [List.take]) ?_
    refine xt_ic ?_
    refine xt_isn1 rfl (by dsimp only [x_sto]) ?_
    refine xt_nil (t := 2) rfl ?_
    refine xt_cut rfl rfl (by dsimp only [List.take]) ?_
    exact ⟨q, 0, by omega, rfl, rfl, rfl, rfl, rfl, rfl, rfl, rfl⟩
  · rintro μ pc ls st S2 M2 cs sl (⟨i, hi, rfl, rfl, rfl, rfl, rfl, rfl, rfl, rfl⟩)
    · refine ⟨_, rfl, ?_⟩
      refine xt_iln0 rfl ?_
      refine xt_iln1 rfl ?_
      refine xt_shr ?_
      refine xt_ic ?_
      refine xt_cle (t := 15) rfl (fun hc_6 => ?_) (fun hc_6 => ?_)
      · skip
        refine xt_blk rfl rfl (by dsimp only [List.take]) ?_
        refine xt_iln1 rfl ?_
        refine xt_ri rfl (Nat.le_refl _) ?_
        have hpq : 2 ^ q < 2 ^ 31 := Nat.pow_lt_pow_right (by decide) (by omega)
        have hdv : 2 ^ q / 2 ^ i = 2 ^ (q - i) := Nat.pow_div hi (by decide)
        have hlt2 : 2 ^ (q - i) < 2 ^ 31 := Nat.pow_lt_pow_right (by decide) (by omega)
        rw [n_shr (by omega) (by omega), hdv, nI_leI (by omega) (by decide)] at hc_6
        have heq : i = q := by
          apply Classical.byContradiction
          intro hne
          have h1 : 2 ^ 1 ≤ 2 ^ (q - i) := Nat.pow_le_pow_right (by decide) (by omega)
          omega
        subst heq
        intro q2 hq2 e2
        simp only [List.cons.injEq, Sum.inl.injEq, and_true] at e2
        have h2 : 2 ^ q2 < 2 ^ 31 := Nat.pow_lt_pow_right (by decide) (by omega)
        rw [nI_eq (by omega) (by omega)] at e2
        have e3 := (Nat.pow_right_inj (show 1 < 2 by decide)).mp e2
        subst e3
        exact ⟨rfl, rfl, rfl⟩
      · skip
        refine xt_inc rfl (by dsimp only [x_sto]) ?_
        refine xt_goto (t := 2) rfl ?_
        refine xt_cut rfl rfl (by dsimp only [List.take]) ?_
        have hpq : 2 ^ q < 2 ^ 31 := Nat.pow_lt_pow_right (by decide) (by omega)
        have hdv : 2 ^ q / 2 ^ i = 2 ^ (q - i) := Nat.pow_div hi (by decide)
        have hlt2 : 2 ^ (q - i) < 2 ^ 31 := Nat.pow_lt_pow_right (by decide) (by omega)
        rw [n_shr (by omega) (by omega), hdv, nI_leI (by omega) (by decide)] at hc_6
        have hne : i ≠ q := fun e => hc_6 (by rw [e, Nat.sub_self]; decide)
        exact ⟨q - (i + 1), by omega, i + 1, by omega, rfl, rfl, rfl, rfl, rfl, rfl, by rw [nI_add], rfl⟩
def q_X7_compose : x_K := (3, fun as S M => ∃ (r : Nat) (s : Nat), r < 8192 ∧ s < 8192 ∧ S = SH ∧ (∀ j, j < 169 → M 54 j = nI (cmT j)) ∧ as = [.inr (.inl 53), .inl (nI r), .inl (nI s)], fun as S M rv_ S' M' => ∀ (r : Nat) (s : Nat), r < 8192 → s < 8192 → as = [.inr (.inl 53), .inl (nI r), .inl (nI s)] → S' = S ∧ M' = M ∧ rv_ = some (.inl (nI (cm r s))), 0, 0)
theorem r_X7_compose : ∀ as S M, q_X7_compose.2.1 as S M → ∃ (k : Nat) (as' : List x_V) (fs : List (Option Nat)), as = .inr (.inl k) :: as' ∧ S[k]? = some (.inl (5, fs)) := by
  rintro as S M ⟨r, s, hr, hs, rfl, hpre, rfl⟩
  exact ⟨53, _, _, rfl, rfl⟩
def b_X7_compose : x_B := [(0, 3, [(.iconst 0, 1), (.istore_n 3, 1), (.iconst 0, 1), (.istore 4, 2)]),
  (5, 5, [(.iload 4, 2), (.bipush 13, 2), (.if_icmp .ge 60, 3), (.iconst 0, 1), (.istore 5, 2)]),
  (15, 6, [(.iload 5, 2), (.bipush 13, 2), (.if_icmp .ge 44, 3), (.iload_n 3, 1), (.iload_n 1, 1), (.iload 4, 2), (.ishr, 1), (.iload_n 2, 1), (.iload 5, 2), (.ishr, 1), (.iand, 1), (.iconst 1, 1), (.iand, 1), (.iconst 1, 1), (.if_icmp .ne 19, 3), (.aload_n 0, 1), (.getfield 7, 3), (.bipush 13, 2), (.iload 4, 2), (.imul, 1), (.iload 5, 2), (.iadd, 1), (.iaload, 1), (.goto 4, 3)]),
  (54, 6, [(.iconst 0, 1)]),
  (55, 6, [(.ior, 1), (.istore_n 3, 1), (.iinc 5 1, 3), (.goto (-45), 3)]),
  (63, 6, [(.iinc 4 1, 3), (.goto (-61), 3)]),
  (69, 5, [(.iload_n 3, 1), (.ireturn, 1)])]
theorem b_X7_compose_ok : x_okB cX7_compose 6 b_X7_compose = true := by decide +kernel
def X_X7_compose : x_X := ([(7, 5, 0)], [], [], [], [], (0, 0), x_kn, x_kf, 5, false)
theorem X_X7_compose_ok : x_okT RX7 X_X7_compose = true := by decide +kernel
theorem k_X7_compose (l : Launch) : ∀ z ∈ X_X7_compose.2.2.2.2.1, x_Cal l (x_rm 1 0 0) cX7_compose RX7 6 z.1 z.2 := fun _ h => absurd h List.not_mem_nil
def inn (r s i j : Nat) : Nat := if bi r i = 1 then fo (fun j => cmT (i * 13 + j)) s j else 0
theorem inn_0 (r s i : Nat) : inn r s i 0 = 0 := by unfold inn; split <;> rfl
theorem inn_13 (r s i : Nat) : fo (cmR s) r i ||| inn r s i 13 = fo (cmR s) r (i + 1) := by
  show _ = (if bi r i = 1 then fo (cmR s) r i ||| cmR s i else fo (cmR s) r i)
  unfold inn
  split
  · rfl
  · exact Nat.or_zero _
theorem inn_s (r s i j : Nat) : inn r s i (j + 1) = if bi r i = 1 ∧ bi s j = 1 then inn r s i j ||| cmT (i * 13 + j) else inn r s i j := by
  unfold inn
  by_cases h : bi r i = 1
  · rw [if_pos h, if_pos h]
    show (if bi s j = 1 then _ else _) = _
    by_cases h2 : bi s j = 1
    · rw [if_pos h2, if_pos ⟨h, h2⟩]
    · rw [if_neg h2, if_neg (fun q => h2 q.2)]
  · rw [if_neg h, if_neg h, if_neg (fun q => h q.1)]
theorem n_2bit {r s i j : Nat} (hr : r < 8192) (hs : s < 8192) (hi : i < 32) (hj : j < 32) : (nI r >>> (nI i &&& 31) &&& nI s >>> (nI j &&& 31) &&& nI 1 = nI 1) ↔ (bi r i = 1 ∧ bi s j = 1) := by
  have h1 := Nat.div_le_self r (2 ^ i)
  have h2 : r / 2 ^ i &&& s / 2 ^ j ≤ r / 2 ^ i := Nat.and_le_left
  rw [n_shr (by omega) hi, n_shr (by omega) hj, n_and, n_and1 (by omega), nI_eq (by omega) (by decide), Nat.and_mod_two_eq_one]
  rfl
set_option maxHeartbeats 4000000 in
set_option maxRecDepth 100000 in
theorem c_X7_compose (l : Launch) : x_CT l yX7_compose cX7_compose 6 (some .int) 1 q_X7_compose := by
  refine x_meth (X := X_X7_compose) (bl := b_X7_compose) (cut := [5, 15]) (own := RX7) 30 (by decide) rfl X_X7_compose_ok b_X7_compose_ok rfl (Nat.le_of_ble_eq_true rfl) (k_X7_compose l) ?_
  rintro as S M - ⟨r, s, hr, hs, rfl, hpre, rfl⟩
  refine ⟨fun μ pc ls st S' M' cs sl => (∃ i, i ≤ 13 ∧ pc = 5 ∧ st = [] ∧ S' = SH ∧ M' = M ∧ cs = 0 ∧ sl = 0 ∧ ls = [.inr (.inl 53), .inl (nI r), .inl (nI s), .inl (nI (fo (cmR s) r i)), .inl (nI i)] ∧ μ = (13 - i) * 20) ∨ (∃ i j, i < 13 ∧ j ≤ 13 ∧ pc = 15 ∧ st = [] ∧ S' = SH ∧ M' = M ∧ cs = 0 ∧ sl = 0 ∧ ls = [.inr (.inl 53), .inl (nI r), .inl (nI s), .inl (nI (fo (cmR s) r i ||| inn r s i j)), .inl (nI i), .inl (nI j)] ∧ μ = (13 - i) * 20 - 1 - j), ?_, ?_⟩
  · skip
    refine xt_blk rfl rfl (by dsimp only [List.take]) ?_
    refine xt_ic ?_
    refine xt_isn3 rfl (by dsimp only [x_sto]) ?_
    refine xt_ic ?_
    refine xt_ist rfl (by dsimp only [x_sto]) ?_
    refine xt_nil (t := 5) rfl ?_
    refine xt_cut rfl rfl (by dsimp only [List.take]) ?_
    exact ⟨13 * 20, Or.inl ⟨0, by omega, rfl, rfl, rfl, rfl, rfl, rfl, rfl, rfl⟩⟩
  · rintro μ pc ls st S2 M2 cs sl (⟨i, hi, rfl, rfl, rfl, rfl, rfl, rfl, rfl, rfl⟩ | ⟨i, j, hi, hj, rfl, rfl, rfl, rfl, rfl, rfl, rfl, rfl⟩)
    · refine ⟨_, rfl, ?_⟩
      refine xt_ild rfl ?_
      refine xt_bi ?_
      refine xt_cge (t := 69) rfl (fun hc_9 => ?_) (fun hc_9 => ?_)
      · skip
        refine xt_blk rfl rfl (by dsimp only [List.take]) ?_
        refine xt_iln3 rfl ?_
        refine xt_ri rfl (Nat.le_refl _) ?_
        have h13 : i = 13 := by rw [nI_leI (by omega) (by omega)] at hc_9; omega
        subst h13
        intro r2 s2 h2r h2s e2
        simp only [List.cons.injEq, Sum.inl.injEq, Sum.inr.injEq, and_true, true_and] at e2
        obtain ⟨e2r, e2s⟩ := e2
        rw [nI_eq (by omega) (by omega)] at e2r
        subst e2r
        rw [nI_eq (by omega) (by omega)] at e2s
        subst e2s
        exact ⟨rfl, rfl, rfl⟩
      · skip
        refine xt_ic ?_
        refine xt_ist rfl (by dsimp only [x_sto]) ?_
        refine xt_nil (t := 15) rfl ?_
        refine xt_cut rfl rfl (by dsimp only [List.take]) ?_
        have hi13 : i < 13 := by rw [nI_leI (by omega) (by omega)] at hc_9; omega
        exact ⟨(13 - i) * 20 - 1, by omega, Or.inr ⟨i, 0, hi13, by omega, rfl, rfl, rfl, rfl, rfl, rfl, by rw [inn_0, Nat.or_zero], rfl⟩⟩
    · refine ⟨_, rfl, ?_⟩
      refine xt_ild rfl ?_
      refine xt_bi ?_
      refine xt_cge (t := 63) rfl (fun hc_19 => ?_) (fun hc_19 => ?_)
      · skip
        refine xt_blk rfl rfl (by dsimp only [List.take]) ?_
        refine xt_inc rfl (by dsimp only [x_sto]) ?_
        refine xt_goto (t := 5) rfl ?_
        refine xt_cut rfl rfl (by dsimp only [List.take]) ?_
        have hj13 : j = 13 := by rw [nI_leI (by omega) (by omega)] at hc_19; omega
        subst hj13
        exact ⟨(13 - (i + 1)) * 20, by omega, Or.inl ⟨i + 1, by omega, rfl, rfl, rfl, rfl, rfl, rfl, by rw [inn_13, nI_add], rfl⟩⟩
      · skip
        refine xt_iln3 rfl ?_
        refine xt_iln1 rfl ?_
        refine xt_ild rfl ?_
        refine xt_shr ?_
        refine xt_iln2 rfl ?_
        refine xt_ild rfl ?_
        refine xt_shr ?_
        refine xt_and ?_
        refine xt_ic ?_
        refine xt_and ?_
        refine xt_ic ?_
        refine xt_cne (t := 54) rfl (fun hc_35 => ?_) (fun hc_35 => ?_)
        · skip
          refine xt_blk rfl rfl (by dsimp only [List.take]) ?_
          refine xt_ic ?_
          refine xt_nil (t := 55) rfl ?_
          refine xt_blk rfl rfl (by dsimp only [List.take]) ?_
          refine xt_or ?_
          refine xt_isn3 rfl (by dsimp only [x_sto]) ?_
          refine xt_inc rfl (by dsimp only [x_sto]) ?_
          refine xt_goto (t := 15) rfl ?_
          refine xt_cut rfl rfl (by dsimp only [List.take]) ?_
          have hj13 : j < 13 := by rw [nI_leI (by omega) (by omega)] at hc_19; omega
          rw [n_2bit hr hs (by omega) (by omega)] at hc_35
          exact ⟨(13 - i) * 20 - 1 - (j + 1), by omega, Or.inr ⟨i, j + 1, hi, by omega, rfl, rfl, rfl, rfl, rfl, rfl, by rw [n_or, Nat.or_zero, nI_add, inn_s, if_neg hc_35], rfl⟩⟩
        · skip
          refine xt_aln0 rfl (by first | decide | omega | assumption) ?_
          refine xt_gfr (q := (5, 0)) rfl (by first | rfl | assumption) rfl ?_
          refine xt_bi ?_
          refine xt_ild rfl ?_
          refine xt_mul ?_
          refine xt_ild rfl ?_
          refine xt_add ?_
          refine xt_ial (by first | rfl | assumption) (show vp_in _ 169 from by rw [pk_mul, nI_add]; exact vp_in_nI (by rw [nI_leI (by omega) (by omega)] at hc_19; omega) (by decide)) ?_
          refine xt_goto (t := 55) rfl ?_
          refine xt_blk rfl rfl (by dsimp only [List.take]) ?_
          refine xt_or ?_
          refine xt_isn3 rfl (by dsimp only [x_sto]) ?_
          refine xt_inc rfl (by dsimp only [x_sto]) ?_
          refine xt_goto (t := 15) rfl ?_
          refine xt_cut rfl rfl (by dsimp only [List.take]) ?_
          have hj13 : j < 13 := by rw [nI_leI (by omega) (by omega)] at hc_19; omega
          rw [n_2bit hr hs (by omega) (by omega)] at hc_35
          have e4 : M2 54 (nI 13 * nI i + nI j).toNatClampNeg = nI (cmT (i * 13 + j)) := by rw [pk_mul, nI_add, nI_clamp (by omega), Nat.mul_comm 13 i]; exact hpre _ (by omega)
          exact ⟨(13 - i) * 20 - 1 - (j + 1), by omega, Or.inr ⟨i, j + 1, hi, by omega, rfl, rfl, rfl, rfl, rfl, rfl, by rw [e4, n_or, Nat.or_assoc, nI_add, inn_s, if_pos hc_35], rfl⟩⟩
end
section
/-! THE REFERENCE: copyNet, fix -/
def cpN (f : Nat → Int32) (d e n : Nat) : Nat → Int32 := fun j => if 36 * e ≤ j ∧ j < 36 * e + n then f (36 * d + (j - 36 * e)) else f j
theorem cpN_0 (f : Nat → Int32) (d e : Nat) : cpN f d e 0 = f := by
  funext j
  unfold cpN
  rw [if_neg (by omega)]
theorem cpN_s (f : Nat → Int32) {d e i : Nat} (hde : d ≠ e) (hi : i < 36) : upd (cpN f d e i) (36 * e + i) (cpN f d e i (36 * d + i)) = cpN f d e (i + 1) := by
  funext j
  unfold upd cpN
  by_cases h : j = 36 * e + i
  · subst h
    rw [if_pos rfl, if_neg (show ¬ (36 * e ≤ 36 * d + i ∧ 36 * d + i < 36 * e + i) by omega), if_pos (show 36 * e ≤ 36 * e + i ∧ 36 * e + i < 36 * e + (i + 1) by omega)]
    congr 1
    omega
  · rw [if_neg h]
    by_cases h2 : 36 * e ≤ j ∧ j < 36 * e + i
    · rw [if_pos h2, if_pos (by omega)]
    · rw [if_neg h2, if_neg (by omega)]
def q_X7_copyNet : x_K := (3, fun as S M => ∃ (d e : Nat), d < 16 ∧ e < 16 ∧ d ≠ e ∧ S = SH ∧ as = [.inr (.inl 53), .inl (nI d), .inl (nI e)], fun as S M rv_ S' M' => ∀ (d e : Nat), d < 16 → e < 16 → as = [.inr (.inl 53), .inl (nI d), .inl (nI e)] → S' = S ∧ M' = x_row M 67 (cpN (M 67) d e 36) ∧ rv_ = none, 0, 0)
theorem r_X7_copyNet : ∀ as S M, q_X7_copyNet.2.1 as S M → ∃ (k : Nat) (as' : List x_V) (fs : List (Option Nat)), as = .inr (.inl k) :: as' ∧ S[k]? = some (.inl (5, fs)) := by
  rintro as S M ⟨d, e, -, -, -, rfl, rfl⟩
  exact ⟨53, _, _, rfl, rfl⟩
def b_X7_copyNet : x_B := [(0, 3, [(.iconst 0, 1), (.istore_n 3, 1)]),
  (2, 4, [(.iload_n 3, 1), (.bipush 36, 2), (.if_icmp .ge 31, 3), (.aload_n 0, 1), (.getfield 50, 3), (.bipush 36, 2), (.iload_n 2, 1), (.imul, 1), (.iload_n 3, 1), (.iadd, 1), (.aload_n 0, 1), (.getfield 50, 3), (.bipush 36, 2), (.iload_n 1, 1), (.imul, 1), (.iload_n 3, 1), (.iadd, 1), (.iaload, 1), (.iastore, 1), (.iinc 3 1, 3), (.goto (-31), 3)]),
  (36, 4, [(.return_, 1)])]
theorem b_X7_copyNet_ok : x_okB cX7_copyNet 4 b_X7_copyNet = true := by decide +kernel
def X_X7_copyNet : x_X := ([(50, 5, 14)], [], [], [], [], (0, 0), x_kn, x_kf, 5, false)
theorem X_X7_copyNet_ok : x_okT RX7 X_X7_copyNet = true := by decide +kernel
theorem k_X7_copyNet (l : Launch) : ∀ z ∈ X_X7_copyNet.2.2.2.2.1, x_Cal l (x_rm 1 0 0) cX7_copyNet RX7 4 z.1 z.2 := fun _ h => absurd h List.not_mem_nil
set_option maxHeartbeats 4000000 in
set_option maxRecDepth 100000 in
theorem c_X7_copyNet (l : Launch) : x_CT l yX7_copyNet cX7_copyNet 4 none 1 q_X7_copyNet := by
  refine x_meth (X := X_X7_copyNet) (bl := b_X7_copyNet) (cut := [2]) (own := RX7) 30 (by decide) rfl X_X7_copyNet_ok b_X7_copyNet_ok rfl (Nat.le_of_ble_eq_true rfl) (k_X7_copyNet l) ?_
  rintro as S M - ⟨d, e, hd, he, hne, rfl, rfl⟩
  refine ⟨fun μ pc ls st S' M' cs sl => ∃ i, i ≤ 36 ∧ M' = x_row M 67 (cpN (M 67) d e i) ∧ pc = 2 ∧ st = [] ∧ S' = SH ∧ cs = 0 ∧ sl = 0 ∧ ls = [.inr (.inl 53), .inl (nI d), .inl (nI e), .inl (nI i)] ∧ μ = 36 - i, ?_, ?_⟩
  · skip
    refine xt_blk rfl rfl (by dsimp only [List.take]) ?_
    refine xt_ic ?_
    refine xt_isn3 rfl (by dsimp only [x_sto]) ?_
    refine xt_nil (t := 2) rfl ?_
    refine xt_cut rfl rfl (by dsimp only [List.take]) ?_
    exact ⟨36, 0, by omega, by rw [cpN_0, x_row_id], rfl, rfl, rfl, rfl, rfl, rfl, rfl⟩
  · rintro μ pc ls st S2 M2 cs sl (⟨i, hi, rfl, rfl, rfl, rfl, rfl, rfl, rfl, rfl⟩)
    · refine ⟨_, rfl, ?_⟩
      refine xt_iln3 rfl ?_
      refine xt_bi ?_
      refine xt_cge (t := 36) rfl (fun hc_5 => ?_) (fun hc_5 => ?_)
      · skip
        refine xt_blk rfl rfl (by dsimp only [List.take]) ?_
        refine xt_rv rfl (Nat.le_refl _) ?_
        have h36 : i = 36 := by rw [nI_leI (by omega) (by omega)] at hc_5; omega
        subst h36
        intro d2 e2 h2d h2e e2
        simp only [List.cons.injEq, Sum.inl.injEq, Sum.inr.injEq, and_true, true_and] at e2
        obtain ⟨e2d, e2e⟩ := e2
        rw [nI_eq (by omega) (by omega)] at e2d
        subst e2d
        rw [nI_eq (by omega) (by omega)] at e2e
        subst e2e
        exact ⟨rfl, rfl, rfl⟩
      · skip
        refine xt_aln0 rfl (by first | decide | omega | assumption) ?_
        refine xt_gfr (q := (5, 14)) rfl (by first | rfl | assumption) rfl ?_
        refine xt_bi ?_
        refine xt_iln2 rfl ?_
        refine xt_mul ?_
        refine xt_iln3 rfl ?_
        refine xt_add ?_
        refine xt_aln0 rfl (by first | decide | omega | assumption) ?_
        refine xt_gfr (q := (5, 14)) rfl (by first | rfl | assumption) rfl ?_
        refine xt_bi ?_
        refine xt_iln1 rfl ?_
        refine xt_mul ?_
        refine xt_iln3 rfl ?_
        refine xt_add ?_
        refine xt_ial (by first | rfl | assumption) (show vp_in _ 576 from by rw [pk_mul, nI_add]; exact vp_in_nI (by rw [nI_leI (by omega) (by omega)] at hc_5; omega) (by decide)) ?_
        refine xt_ias (by first | rfl | assumption) (show vp_in _ 576 from by rw [pk_mul, nI_add]; exact vp_in_nI (by rw [nI_leI (by omega) (by omega)] at hc_5; omega) (by decide)) ?_
        refine xt_inc rfl (by dsimp only [x_sto]) ?_
        refine xt_goto (t := 2) rfl ?_
        refine xt_cut rfl rfl (by dsimp only [List.take]) ?_
        have hlt : i < 36 := by rw [nI_leI (by omega) (by omega)] at hc_5; omega
        exact ⟨36 - (i + 1), by omega, i + 1, by omega, by rw [x_row_self, x_row_row, pk_mul, pk_mul, nI_add, nI_add, nI_clamp (by omega), nI_clamp (by omega), cpN_s _ hne hlt], rfl, rfl, rfl, rfl, rfl, by rw [nI_add], rfl⟩
def q_X7_fix : x_K := (5, fun as S M => ∃ (d : Nat) (a : Nat) (b : Nat) (r : Nat), d < 16 ∧ a < 6 ∧ b < 6 ∧ r < 13 ∧ S = SH ∧ as = [.inr (.inl 53), .inl (nI d), .inl (nI a), .inl (nI b), .inl (nI r)], fun as S M rv_ S' M' => ∀ (d : Nat) (a : Nat) (b : Nat) (r : Nat), d < 16 → a < 6 → b < 6 → r < 13 → as = [.inr (.inl 53), .inl (nI d), .inl (nI a), .inl (nI b), .inl (nI r)] → S' = S ∧ M' = x_row M 67 (upd (upd (M 67) (36 * d + 6 * a + b) (nI (2 ^ r))) (36 * d + 6 * b + a) (nI (2 ^ (12 - r)))) ∧ rv_ = none, 0, 0)
theorem r_X7_fix : ∀ as S M, q_X7_fix.2.1 as S M → ∃ (k : Nat) (as' : List x_V) (fs : List (Option Nat)), as = .inr (.inl k) :: as' ∧ S[k]? = some (.inl (5, fs)) := by
  rintro as S M ⟨d, a, b, r, hd, ha, hb, hr, rfl, rfl⟩
  exact ⟨53, _, _, rfl, rfl⟩
def b_X7_fix : x_B := [(0, 5, [(.aload_n 0, 1), (.getfield 50, 3), (.bipush 36, 2), (.iload_n 1, 1), (.imul, 1), (.bipush 6, 2), (.iload_n 2, 1), (.imul, 1), (.iadd, 1), (.iload_n 3, 1), (.iadd, 1), (.iconst 1, 1), (.iload 4, 2), (.ishl, 1), (.iastore, 1), (.aload_n 0, 1), (.getfield 50, 3), (.bipush 36, 2), (.iload_n 1, 1), (.imul, 1), (.bipush 6, 2), (.iload_n 3, 1), (.imul, 1), (.iadd, 1), (.iload_n 2, 1), (.iadd, 1), (.iconst 1, 1), (.bipush 12, 2), (.iload 4, 2), (.isub, 1), (.ishl, 1), (.iastore, 1), (.return_, 1)])]
theorem b_X7_fix_ok : x_okB cX7_fix 5 b_X7_fix = true := by decide +kernel
def X_X7_fix : x_X := ([(50, 5, 14)], [], [], [], [], (0, 0), x_kn, x_kf, 5, false)
theorem X_X7_fix_ok : x_okT RX7 X_X7_fix = true := by decide +kernel
theorem k_X7_fix (l : Launch) : ∀ z ∈ X_X7_fix.2.2.2.2.1, x_Cal l (x_rm 1 0 0) cX7_fix RX7 5 z.1 z.2 := fun _ h => absurd h List.not_mem_nil
set_option maxHeartbeats 4000000 in
set_option maxRecDepth 100000 in
theorem c_X7_fix (l : Launch) : x_CT l yX7_fix cX7_fix 5 none 1 q_X7_fix := by
  refine x_meth (X := X_X7_fix) (bl := b_X7_fix) (cut := []) (own := RX7) 30 (by decide) rfl X_X7_fix_ok b_X7_fix_ok rfl (Nat.le_of_ble_eq_true rfl) (k_X7_fix l) ?_
  rintro as S M - ⟨d, a, b, r, hd, ha, hb, hr, rfl, rfl⟩
  refine ⟨fun _ _ _ _ _ _ _ _ => False, ?_, ?_⟩
  · skip
    refine xt_blk rfl rfl (by dsimp only [List.take]) ?_
    refine xt_aln0 rfl (by first | decide | omega | assumption) ?_
    refine xt_gfr (q := (5, 14)) rfl (by first | rfl | assumption) rfl ?_
    refine xt_bi ?_
    refine xt_iln1 rfl ?_
    refine xt_mul ?_
    refine xt_bi ?_
    refine xt_iln2 rfl ?_
    refine xt_mul ?_
    refine xt_add ?_
    refine xt_iln3 rfl ?_
    refine xt_add ?_
    refine xt_ic ?_
    refine xt_ild rfl ?_
    refine xt_shl ?_
    refine xt_ias (by first | rfl | assumption) (show vp_in _ 576 from by simp only [pk_mul, nI_add]; exact vp_in_nI (by omega) (by decide)) ?_
    refine xt_aln0 rfl (by first | decide | omega | assumption) ?_
    refine xt_gfr (q := (5, 14)) rfl (by first | rfl | assumption) rfl ?_
    refine xt_bi ?_
    refine xt_iln1 rfl ?_
    refine xt_mul ?_
    refine xt_bi ?_
    refine xt_iln3 rfl ?_
    refine xt_mul ?_
    refine xt_add ?_
    refine xt_iln2 rfl ?_
    refine xt_add ?_
    refine xt_ic ?_
    refine xt_bi ?_
    refine xt_ild rfl ?_
    refine xt_sub ?_
    refine xt_shl ?_
    refine xt_ias (by first | rfl | assumption) (show vp_in _ 576 from by simp only [pk_mul, nI_add]; exact vp_in_nI (by omega) (by decide)) ?_
    refine xt_rv rfl (Nat.le_refl _) ?_
    have p1 : 2 ^ r < 2 ^ 31 := Nat.pow_lt_pow_right (by decide) (by omega)
    have p2 : 2 ^ (12 - r) < 2 ^ 31 := Nat.pow_lt_pow_right (by decide) (by omega)
    intro d2 a2 b2 r2 h2d h2a h2b h2r e2
    simp only [List.cons.injEq, Sum.inl.injEq, Sum.inr.injEq, and_true, true_and] at e2
    obtain ⟨e2d, e2a, e2b, e2r⟩ := e2
    rw [nI_eq (by omega) (by omega)] at e2d
    subst e2d
    rw [nI_eq (by omega) (by omega)] at e2a
    subst e2a
    rw [nI_eq (by omega) (by omega)] at e2b
    subst e2b
    rw [nI_eq (by omega) (by omega)] at e2r
    subst e2r
    refine ⟨rfl, ?_, rfl⟩
    rw [x_row_self, x_row_row, pk_sub (by omega), n_shl (by omega) (by omega), n_shl (by omega) (by omega), Nat.one_mul, Nat.one_mul]
    simp only [pk_mul, nI_add]
    rw [nI_clamp (by omega), nI_clamp (by omega)]
  · intro μ pc ls st S2 M2 cs sl h; exact h.elim
end
section
/-! CLOSING IN THE REFERENCE: one side of a pair at a time -/
def nwr (g : Nat → Nat) (a b v : Nat) : Nat → Nat := fun j => if j = a * 6 + b then v else g j
def Mr (f g : Nat → Nat) : Prop := Le g f ∧ ∀ h, Clo h → Le h f → Le h g
theorem nwr_Bd {g : Nat → Nat} (hB : Bd g) {a b v : Nat} (hv : v < 8192) : Bd (nwr g a b v) := by
  intro j hj
  unfold nwr
  split
  · exact hv
  · exact hB j hj
theorem nwr_ab (g : Nat → Nat) (a b v : Nat) : nwr g a b v (a * 6 + b) = v := by unfold nwr; rw [if_pos rfl]
theorem nwr_ne (g : Nat → Nat) {a b x y : Nat} (v : Nat) (hb : b < 6) (hy : y < 6) (h : ¬ (x = a ∧ y = b)) : nwr g a b v (x * 6 + y) = g (x * 6 + y) := by
  unfold nwr; rw [if_neg (by omega)]
theorem Mr_rf (f : Nat → Nat) : Mr f f := ⟨fun _ _ _ _ _ => sb_rf _, fun _ _ h => h⟩
theorem lft_up {g h : Nat → Nat} (hC : Clo h) (hle : Le h g) {a m b : Nat} (hd : Ds a m b) : sb (h (a * 6 + b)) (lft g a m b) := by
  obtain ⟨ha, hm, hb, ham, hmb, hab⟩ := hd
  exact sb_and (sb_tr (hC a m b ⟨ha, hm, hb, ham, hmb, hab⟩) (sb_cm (hle a m ha hm ham) (hle m b hm hb hmb))) (hle a b ha hb hab)
theorem Mr_step {f g : Nat → Nat} (h : Mr f g) {a m b : Nat} (hd : Ds a m b) : Mr f (nwr g a b (lft g a m b)) := by
  have hd' := hd
  obtain ⟨ha, hm, hb, ham, hmb, hab⟩ := hd'
  refine ⟨fun x y hx hy hxy => ?_, fun q hC hl x y hx hy hxy => ?_⟩
  · by_cases e : x = a ∧ y = b
    · obtain ⟨rfl, rfl⟩ := e
      rw [nwr_ab]; exact sb_tr (lft_sb g x m y) (h.1 x y hx hy hxy)
    · rw [nwr_ne g _ hb hy e]; exact h.1 x y hx hy hxy
  · by_cases e : x = a ∧ y = b
    · obtain ⟨rfl, rfl⟩ := e
      rw [nwr_ab]; exact lft_up hC (h.2 q hC hl) hd
    · rw [nwr_ne g _ hb hy e]; exact h.2 q hC hl x y hx hy hxy
theorem nwr_Dg {f g : Nat → Nat} (h : Dg f g) {a b v : Nat} (ha : a < 6) (hb : b < 6) (hab : a ≠ b) : Dg f (nwr g a b v) := fun x hx => (nwr_ne g v hb hx (by omega)).trans (h x hx)
theorem Mr_fail {f g : Nat → Nat} (h : Mr f g) {a m b : Nat} (hd : Ds a m b) (h0 : lft g a m b = 0) : Fail f := by
  intro q _ hC hl
  have := lft_up hC (h.2 q hC hl) hd
  rw [h0] at this
  exact ⟨a, b, hd.1, hd.2.2.1, hd.2.2.2.2.2, sb_0 this⟩
theorem Fail_0 {f : Nat → Nat} {a b : Nat} (ha : a < 6) (hb : b < 6) (hab : a ≠ b) (h0 : f (a * 6 + b) = 0) : Fail f := by
  intro q _ _ hl
  have := hl a b ha hb hab
  rw [h0] at this
  exact ⟨a, b, ha, hb, hab, sb_0 this⟩
/-- turned as a whole -/
def trn (g : Nat → Nat) : Nat → Nat := fun j => tn (g (j % 6 * 6 + j / 6))
theorem trn_at (g : Nat → Nat) {a b : Nat} (hb : b < 6) : trn g (a * 6 + b) = tn (g (b * 6 + a)) := by
  unfold trn
  rw [show (a * 6 + b) % 6 = b by omega, show (a * 6 + b) / 6 = a by omega]
theorem trn_Clo {g : Nat → Nat} (h : Clo g) : Clo (trn g) := by
  intro x y z hd
  obtain ⟨hx, hy, hz, hxy, hyz, hxz⟩ := hd
  unfold Tri
  rw [trn_at g hz, trn_at g hy, trn_at g hz, ← cm_tn]
  exact sb_tn (h z y x ⟨hz, hy, hx, Ne.symm hyz, Ne.symm hxy, Ne.symm hxz⟩)
theorem Mr_end {f g : Nat → Nat} (hSf : Sy f) (hBf : Bd f) (hBg : Bd g) (h : Mr f g) (hD : Dg f g) (hC : Clo g) : Sy g ∧ Mx f g := by
  have hl : Le (trn g) f := by
    intro a b ha hb hab
    rw [trn_at g hb, hSf b a hb ha (Ne.symm hab)]
    exact sb_tn (h.1 b a hb ha (Ne.symm hab))
  have hg := h.2 _ (trn_Clo hC) hl
  have key : ∀ a b, a < 6 → b < 6 → a ≠ b → sb (tn (g (b * 6 + a))) (g (a * 6 + b)) := by
    intro a b ha hb hab
    have := hg a b ha hb hab
    rw [trn_at g hb] at this
    exact this
  refine ⟨fun a b ha hb hab => ?_, h.1, fun q _ q2 q3 => h.2 q q2 q3, hD⟩
  apply sb_as
  · have := sb_tn (key a b ha hb hab)
    rw [tn_tn (hBg _ (by omega))] at this
    exact this
  · exact key b a hb ha (Ne.symm hab)
theorem tot_nwr {g : Nat → Nat} (hB : Bd g) {a b v : Nat} (ha : a < 6) (hb : b < 6) (hne : a ≠ b) (hv : sb v (g (a * 6 + b))) (hv2 : v ≠ g (a * 6 + b)) : tot (nwr g a b v) + 1 ≤ tot g := by
  have hva : g (a * 6 + b) < 8192 := hB _ (by omega)
  have d1 : ¬ (a * 6 + b) / 6 = (a * 6 + b) % 6 := by omega
  unfold tot
  refine sm_lt (a * 6 + b) 36 (fun j hj => ?_) (by omega) (by rw [if_neg d1, if_neg d1, nwr_ab]; exact pcn_ss hva hv hv2)
  split
  · exact Nat.le_refl _
  · unfold nwr
    split
    · rename_i e
      rw [e]; exact pcn_le hv 13
    · exact Nat.le_refl _
/-- what has been looked at in this sweep, with no change: the paths that hold -/
theorem Tri_lft {g : Nat → Nat} {a m b : Nat} (h : lft g a m b = g (a * 6 + b)) : Tri g a m b := by
  unfold Tri
  rw [← h]
  exact sb_andL _ _
theorem nwr_id {g : Nat → Nat} {a b : Nat} : nwr g a b (g (a * 6 + b)) = g := by
  funext j
  unfold nwr
  split
  · rename_i e; rw [e]
  · rfl
end
section
/-! WAY: what its rows hold -/
def isWy (q : Nat) : Prop := q = 26 ∨ q = 33
theorem SHw {q : Nat} (h : isWy q) : SH[q]? = some (.inl (3, [none, some 1, some 8, some (q + 1), some (q + 2), some (q + 3), some (q + 4), some (q + 5), some (q + 6), none, none, none, none])) := by
  rcases h with rfl | rfl <;> rfl
theorem SHw1 {q : Nat} (h : isWy q) : SH[q + 1]? = some (.inr (.inl (false, 36))) := by rcases h with rfl | rfl <;> rfl
theorem SHw2 {q : Nat} (h : isWy q) : SH[q + 2]? = some (.inr (.inl (false, 36))) := by rcases h with rfl | rfl <;> rfl
theorem SHw3 {q : Nat} (h : isWy q) : SH[q + 3]? = some (.inr (.inl (false, 36))) := by rcases h with rfl | rfl <;> rfl
theorem SHw4 {q : Nat} (h : isWy q) : SH[q + 4]? = some (.inr (.inl (false, 36))) := by rcases h with rfl | rfl <;> rfl
theorem SHw5 {q : Nat} (h : isWy q) : SH[q + 5]? = some (.inr (.inl (false, 36))) := by rcases h with rfl | rfl <;> rfl
theorem SHw6 {q : Nat} (h : isWy q) : SH[q + 6]? = some (.inr (.inl (false, 12))) := by rcases h with rfl | rfl <;> rfl
theorem isWy_lt {q : Nat} (h : isWy q) : q < 40 := by rcases h with rfl | rfl <;> decide
theorem lsf_lt (n : Nat) : ∀ f i, i + f ≤ 13 → lsf n f i < 13
  | 0, i, _ => by simp [lsf]
  | f + 1, i, h => by
    have := lsf_lt n f (i + 1) (by omega)
    unfold lsf
    split <;> omega
theorem ls13_lt (n : Nat) : ls13 n < 13 := lsf_lt n 13 0 (by omega)
def q_X5_firstRelation : x_K := (3, fun as S M => ∃ (q : Nat) (a : Nat) (b : Nat) (v : Nat), isWy q ∧ S = SH ∧ a < 6 ∧ b < 6 ∧ (v < 8192 ∧ M (q + 3) (a * 6 + b) = nI v) ∧ as = [.inr (.inl q), .inl (nI a), .inl (nI b)], fun as S M rv_ S' M' => ∀ (q : Nat) (a : Nat) (b : Nat) (v : Nat), isWy q → a < 6 → b < 6 → (v < 8192 ∧ M (q + 3) (a * 6 + b) = nI v) → as = [.inr (.inl q), .inl (nI a), .inl (nI b)] → S' = S ∧ M' = M ∧ rv_ = some (.inl (nI (ls13 v))), 0, 0)
theorem r_X5_firstRelation : ∀ as S M, q_X5_firstRelation.2.1 as S M → ∃ (k : Nat) (as' : List x_V) (fs : List (Option Nat)), as = .inr (.inl k) :: as' ∧ S[k]? = some (.inl (3, fs)) := by
  rintro as S M ⟨q, a, b, v, hw, rfl, -, -, -, rfl⟩
  exact ⟨q, _, _, rfl, SHw hw⟩
def b_X5_firstRelation : x_B := [(0, 3, [(.aload_n 0, 1), (.getfield 32, 3), (.iload_n 1, 1), (.bipush 6, 2), (.imul, 1), (.iload_n 2, 1), (.iadd, 1), (.iaload, 1), (.invokestatic 95, 3), (.ireturn, 1)])]
theorem b_X5_firstRelation_ok : x_okB cX5_firstRelation 3 b_X5_firstRelation = true := by decide +kernel
def X_X5_firstRelation : x_X := ([(32, 3, 5)], [], [], [], [(285, q_X2_least)], (0, 0), x_kn, x_kf, 5, false)
theorem X_X5_firstRelation_ok : x_okT RX5 X_X5_firstRelation = true := by decide +kernel
theorem k_X5_firstRelation (l : Launch) : ∀ z ∈ X_X5_firstRelation.2.2.2.2.1, x_Cal l (x_rm 2 0 0) cX5_firstRelation RX5 3 z.1 z.2 := List.forall_mem_cons.mpr ⟨x_cal_S (idx := 95) (c_X2_least l) ⟨by decide, by decide⟩ (by decide +kernel) (by decide +kernel) (by decide +kernel) (by decide +kernel) (by decide +kernel), fun _ h => absurd h List.not_mem_nil⟩
set_option maxHeartbeats 4000000 in
set_option maxRecDepth 100000 in
theorem c_X5_firstRelation (l : Launch) : x_CT l yX5_firstRelation cX5_firstRelation 3 (some .int) 2 q_X5_firstRelation := by
  refine x_meth (X := X_X5_firstRelation) (bl := b_X5_firstRelation) (cut := []) (own := RX5) 30 (by decide) rfl X_X5_firstRelation_ok b_X5_firstRelation_ok rfl (Nat.le_of_ble_eq_true rfl) (k_X5_firstRelation l) ?_
  rintro as S M - ⟨q, a, b, v, hw, rfl, ha, hb, hv, rfl⟩
  refine ⟨fun _ _ _ _ _ _ _ _ => False, ?_, ?_⟩
  · skip
    refine xt_blk rfl rfl (by dsimp only [List.take]) ?_
    refine xt_aln0 rfl (by first | decide | omega | assumption | (have := isWy_lt hw; omega)) ?_
    refine xt_gfr (q := (3, 5)) rfl (by first | exact SHw hw | exact SHw3 hw | exact SHw6 hw | rfl | assumption) rfl ?_
    refine xt_iln1 rfl ?_
    refine xt_bi ?_
    refine xt_mul ?_
    refine xt_iln2 rfl ?_
    refine xt_add ?_
    refine xt_ial (by first | exact SHw hw | exact SHw3 hw | exact SHw6 hw | rfl | assumption) (n_ixi ha hb) ?_
    refine xt_v1 (key := 285) (q := q_X2_least) rfl rfl rfl rfl rfl ⟨Nat.le_of_ble_eq_true rfl, Nat.le_of_ble_eq_true rfl⟩ ⟨v, hv.1, by rw [n_ixc ha hb, hv.2]⟩ (fun rv_ S1 M1 hq_11 => ?_)
    obtain ⟨eS_, eM_, rfl⟩ := hq_11 v hv.1 (by rw [n_ixc ha hb, hv.2])
    replace eS_ := eS_.symm
    replace eM_ := eM_.symm
    subst eS_ eM_
    try dsimp only [Option.toList, List.cons_append, List.nil_append]
    refine xt_ri rfl (Nat.le_refl _) ?_
    intro q2 a2 b2 v2 hw2 h2a h2b hv2 e2
    simp only [List.cons.injEq, Sum.inl.injEq, Sum.inr.injEq, and_true] at e2
    obtain ⟨rfl, e2a, e2b⟩ := e2
    rw [nI_eq (by omega) (by omega)] at e2a
    subst e2a
    rw [nI_eq (by omega) (by omega)] at e2b
    subst e2b
    have ev : v = v2 := by
      have h1 := hv2.2
      rw [hv.2, nI_eq (by omega) (by omega)] at h1
      exact h1
    subst ev
    exact ⟨rfl, rfl, rfl⟩
  · intro μ pc ls st S2 M2 cs sl h; exact h.elim
def q_X5_signOfEnds : x_K := (3, fun as S M => ∃ (q : Nat) (e : Nat) (o : Nat) (v : Nat), isWy q ∧ S = SH ∧ e < 12 ∧ o < 12 ∧ (v < 8192 ∧ M (q + 3) (e / 2 * 6 + o / 2) = nI v) ∧ as = [.inr (.inl q), .inl (nI e), .inl (nI o)], fun as S M rv_ S' M' => ∀ (q : Nat) (e : Nat) (o : Nat) (v : Nat), isWy q → e < 12 → o < 12 → (v < 8192 ∧ M (q + 3) (e / 2 * 6 + o / 2) = nI v) → as = [.inr (.inl q), .inl (nI e), .inl (nI o)] → S' = S ∧ M' = M ∧ rv_ = some (.inl (nI (sgT (ls13 v) / 2 ^ ((3 - (2 * (e % 2) + o % 2)) * 4) % 8))), 0, 0)
theorem r_X5_signOfEnds : ∀ as S M, q_X5_signOfEnds.2.1 as S M → ∃ (k : Nat) (as' : List x_V) (fs : List (Option Nat)), as = .inr (.inl k) :: as' ∧ S[k]? = some (.inl (3, fs)) := by
  rintro as S M ⟨q, e, o, v, hw, rfl, -, -, -, rfl⟩
  exact ⟨q, _, _, rfl, SHw hw⟩
def b_X5_signOfEnds : x_B := [(0, 3, [(.aload_n 0, 1), (.getfield 32, 3), (.iload_n 1, 1), (.iconst 2, 1), (.idiv, 1), (.bipush 6, 2), (.imul, 1), (.iload_n 2, 1), (.iconst 2, 1), (.idiv, 1), (.iadd, 1), (.iaload, 1), (.istore_n 3, 1), (.iload_n 3, 1), (.invokestatic 95, 3), (.iload_n 1, 1), (.iconst 2, 1), (.irem, 1), (.iload_n 2, 1), (.iconst 2, 1), (.irem, 1), (.invokestatic 144, 3), (.ireturn, 1)])]
theorem b_X5_signOfEnds_ok : x_okB cX5_signOfEnds 4 b_X5_signOfEnds = true := by decide +kernel
def X_X5_signOfEnds : x_X := ([(32, 3, 5)], [], [], [], [(285, q_X2_least), (432, q_X2_signOfEnds)], (0, 0), x_kn, x_kf, 5, false)
theorem X_X5_signOfEnds_ok : x_okT RX5 X_X5_signOfEnds = true := by decide +kernel
theorem k_X5_signOfEnds (l : Launch) : ∀ z ∈ X_X5_signOfEnds.2.2.2.2.1, x_Cal l (x_rm 2 0 0) cX5_signOfEnds RX5 4 z.1 z.2 := List.forall_mem_cons.mpr ⟨x_cal_S (idx := 95) (c_X2_least l) ⟨by decide, by decide⟩ (by decide +kernel) (by decide +kernel) (by decide +kernel) (by decide +kernel) (by decide +kernel), List.forall_mem_cons.mpr ⟨x_cal_S (idx := 144) (c_X2_signOfEnds l) ⟨by decide, by decide⟩ (by decide +kernel) (by decide +kernel) (by decide +kernel) (by decide +kernel) (by decide +kernel), fun _ h => absurd h List.not_mem_nil⟩⟩
set_option maxHeartbeats 4000000 in
set_option maxRecDepth 100000 in
theorem c_X5_signOfEnds (l : Launch) : x_CT l yX5_signOfEnds cX5_signOfEnds 4 (some .int) 2 q_X5_signOfEnds := by
  refine x_meth (X := X_X5_signOfEnds) (bl := b_X5_signOfEnds) (cut := []) (own := RX5) 30 (by decide) rfl X_X5_signOfEnds_ok b_X5_signOfEnds_ok rfl (Nat.le_of_ble_eq_true rfl) (k_X5_signOfEnds l) ?_
  rintro as S M - ⟨q, e, o, v, hw, rfl, he, ho, hv, rfl⟩
  refine ⟨fun _ _ _ _ _ _ _ _ => False, ?_, ?_⟩
  · skip
    refine xt_blk rfl rfl (by dsimp only [List.take]) ?_
    refine xt_aln0 rfl (by first | decide | omega | assumption | (have := isWy_lt hw; omega)) ?_
    refine xt_gfr (q := (3, 5)) rfl (by first | exact SHw hw | exact SHw3 hw | exact SHw6 hw | rfl | assumption) rfl ?_
    refine xt_iln1 rfl ?_
    refine xt_ic ?_
    refine xt_div (by decide) ?_
    refine xt_bi ?_
    refine xt_mul ?_
    refine xt_iln2 rfl ?_
    refine xt_ic ?_
    refine xt_div (by decide) ?_
    refine xt_add ?_
    refine xt_ial (by first | exact SHw hw | exact SHw3 hw | exact SHw6 hw | rfl | assumption) (by rw [pk_div (by omega) (by decide) (by decide), pk_div (by omega) (by decide) (by decide)]; exact n_ixi (by omega) (by omega)) ?_
    refine xt_isn3 rfl (by dsimp only [x_sto]) ?_
    refine xt_iln3 rfl ?_
    refine xt_v1 (key := 285) (q := q_X2_least) rfl rfl rfl rfl rfl ⟨Nat.le_of_ble_eq_true rfl, Nat.le_of_ble_eq_true rfl⟩ ⟨v, hv.1, by rw [pk_div (by omega) (by decide) (by decide), pk_div (by omega) (by decide) (by decide), n_ixc (by omega) (by omega), hv.2]⟩ (fun rv_ S1 M1 hq_17 => ?_)
    obtain ⟨eS_, eM_, rfl⟩ := hq_17 v hv.1 (by rw [pk_div (by omega) (by decide) (by decide), pk_div (by omega) (by decide) (by decide), n_ixc (by omega) (by omega), hv.2])
    replace eS_ := eS_.symm
    replace eM_ := eM_.symm
    subst eS_ eM_
    try dsimp only [Option.toList, List.cons_append, List.nil_append]
    refine xt_iln1 rfl ?_
    refine xt_ic ?_
    refine xt_rem (by decide) ?_
    refine xt_iln2 rfl ?_
    refine xt_ic ?_
    refine xt_rem (by decide) ?_
    refine xt_v3 (key := 432) (q := q_X2_signOfEnds) rfl rfl rfl rfl rfl ⟨Nat.le_of_ble_eq_true rfl, Nat.le_of_ble_eq_true rfl⟩ ⟨ls13 v, e % 2, o % 2, ls13_lt v, by omega, by omega, by rw [pk_rem (by omega) (by decide) (by decide), pk_rem (by omega) (by decide) (by decide)]⟩ (fun rv_ S1 M1 hq_26 => ?_)
    obtain ⟨eS_, eM_, rfl⟩ := hq_26 (ls13 v) (e % 2) (o % 2) (ls13_lt v) (by omega) (by omega) (by rw [pk_rem (by omega) (by decide) (by decide), pk_rem (by omega) (by decide) (by decide)])
    replace eS_ := eS_.symm
    replace eM_ := eM_.symm
    subst eS_ eM_
    try dsimp only [Option.toList, List.cons_append, List.nil_append]
    refine xt_ri rfl (Nat.le_refl _) ?_
    intro q2 e2 o2 v2 hw2 h2e h2o hv2 e2
    simp only [List.cons.injEq, Sum.inl.injEq, Sum.inr.injEq, and_true] at e2
    obtain ⟨rfl, e2e, e2o⟩ := e2
    rw [nI_eq (by omega) (by omega)] at e2e
    subst e2e
    rw [nI_eq (by omega) (by omega)] at e2o
    subst e2o
    have ev : v = v2 := by
      have h1 := hv2.2
      rw [hv.2, nI_eq (by omega) (by omega)] at h1
      exact h1
    subst ev
    exact ⟨rfl, rfl, rfl⟩
  · intro μ pc ls st S2 M2 cs sl h; exact h.elim
def q_X5_firstNumber : x_K := (3, fun as S M => ∃ (q t e : Nat), isWy q ∧ S = SH ∧ t < 6 ∧ e < 2 ∧ as = [.inr (.inl q), .inl (nI t), .inl (nI e)], fun as S M rv_ S' M' => ∀ (q t e : Nat), t < 6 → e < 2 → as = [.inr (.inl q), .inl (nI t), .inl (nI e)] → S' = S ∧ M' = M ∧ rv_ = some (.inl (M (q + 6) (t * 2 + e))), 0, 0)
theorem r_X5_firstNumber : ∀ as S M, q_X5_firstNumber.2.1 as S M → ∃ (k : Nat) (as' : List x_V) (fs : List (Option Nat)), as = .inr (.inl k) :: as' ∧ S[k]? = some (.inl (3, fs)) := by
  rintro as S M ⟨q, t, e, hw, rfl, -, -, rfl⟩
  exact ⟨q, _, _, rfl, SHw hw⟩
def b_X5_firstNumber : x_B := [(0, 3, [(.aload_n 0, 1), (.getfield 41, 3), (.iload_n 1, 1), (.iconst 2, 1), (.imul, 1), (.iload_n 2, 1), (.iadd, 1), (.iaload, 1), (.ireturn, 1)])]
theorem b_X5_firstNumber_ok : x_okB cX5_firstNumber 3 b_X5_firstNumber = true := by decide +kernel
def X_X5_firstNumber : x_X := ([(41, 3, 8)], [], [], [], [], (0, 0), x_kn, x_kf, 5, false)
theorem X_X5_firstNumber_ok : x_okT RX5 X_X5_firstNumber = true := by decide +kernel
theorem k_X5_firstNumber (l : Launch) : ∀ z ∈ X_X5_firstNumber.2.2.2.2.1, x_Cal l (x_rm 1 0 0) cX5_firstNumber RX5 3 z.1 z.2 := fun _ h => absurd h List.not_mem_nil
set_option maxHeartbeats 4000000 in
set_option maxRecDepth 100000 in
theorem c_X5_firstNumber (l : Launch) : x_CT l yX5_firstNumber cX5_firstNumber 3 (some .int) 1 q_X5_firstNumber := by
  refine x_meth (X := X_X5_firstNumber) (bl := b_X5_firstNumber) (cut := []) (own := RX5) 30 (by decide) rfl X_X5_firstNumber_ok b_X5_firstNumber_ok rfl (Nat.le_of_ble_eq_true rfl) (k_X5_firstNumber l) ?_
  rintro as S M - ⟨q, t, e, hw, rfl, ht, he, rfl⟩
  refine ⟨fun _ _ _ _ _ _ _ _ => False, ?_, ?_⟩
  · skip
    refine xt_blk rfl rfl (by dsimp only [List.take]) ?_
    refine xt_aln0 rfl (by first | decide | omega | assumption | (have := isWy_lt hw; omega)) ?_
    refine xt_gfr (q := (3, 8)) rfl (by first | exact SHw hw | exact SHw3 hw | exact SHw6 hw | rfl | assumption) rfl ?_
    refine xt_iln1 rfl ?_
    refine xt_ic ?_
    refine xt_mul ?_
    refine xt_iln2 rfl ?_
    refine xt_add ?_
    refine xt_ial (by first | exact SHw hw | exact SHw3 hw | exact SHw6 hw | rfl | assumption) (show vp_in _ 12 from by rw [pk_mul, nI_add]; exact vp_in_nI (by omega) (by decide)) ?_
    refine xt_ri rfl (Nat.le_refl _) ?_
    intro q2 t2 e2 h2t h2e e3
    simp only [List.cons.injEq, Sum.inl.injEq, Sum.inr.injEq, and_true] at e3
    obtain ⟨rfl, a1, a2⟩ := e3
    rw [nI_eq (by omega) (by omega)] at a1 a2
    subst a1 a2
    exact ⟨rfl, rfl, by rw [pk_mul, nI_add, nI_clamp (by omega)]⟩
  · intro μ pc ls st S2 M2 cs sl h; exact h.elim
/-- the sign of an end to another in the net of the first drawing -/
def sgE (f : Nat → Nat) (e o : Nat) : Nat := sgT (ls13 (f (e / 2 * 6 + o / 2))) / 2 ^ ((3 - (2 * (e % 2) + o % 2)) * 4) % 8
def q_X5_isFirstOfItsLikes : x_K := (2, fun as S M => ∃ (q e : Nat) (f : Nat → Nat), isWy q ∧ S = SH ∧ e < 12 ∧ At M (q + 3) f ∧ as = [.inr (.inl q), .inl (nI e)], fun as S M rv_ S' M' => ∀ (q e : Nat) (f : Nat → Nat), e < 12 → At M (q + 3) f → as = [.inr (.inl q), .inl (nI e)] → S' = S ∧ M' = M ∧ (((∀ o, o < e → sgE f o e ≠ 2) ∧ rv_ = some (.inl (nI 1))) ∨ ((∃ o, o < e ∧ sgE f o e = 2) ∧ rv_ = some (.inl (nI 0)))), 0, 0)
theorem r_X5_isFirstOfItsLikes : ∀ as S M, q_X5_isFirstOfItsLikes.2.1 as S M → ∃ (k : Nat) (as' : List x_V) (fs : List (Option Nat)), as = .inr (.inl k) :: as' ∧ S[k]? = some (.inl (3, fs)) := by
  rintro as S M ⟨q, e, f, hw, rfl, -, -, rfl⟩
  exact ⟨q, _, _, rfl, SHw hw⟩
theorem sgE_cg {f f2 : Nat → Nat} (h : ∀ j, j < 36 → f j = f2 j) {e o : Nat} (he : e < 12) (ho : o < 12) : sgE f e o = sgE f2 e o := by
  unfold sgE
  rw [h _ (by omega)]
theorem At_u {M : x_M} {k : Nat} {f f2 : Nat → Nat} (hf : At M k f) (hf2 : At M k f2) : ∀ j, j < 36 → f j = f2 j := fun j hj => by
  have h1 := (hf j hj).2
  rw [(hf2 j hj).2] at h1
  exact ((nI_eq (by have := (hf2 j hj).1; omega) (by have := (hf j hj).1; omega)).mp h1).symm
def b_X5_isFirstOfItsLikes : x_B := [(0, 2, [(.iconst 0, 1), (.istore_n 2, 1)]),
  (2, 3, [(.iload_n 2, 1), (.iload_n 1, 1), (.if_icmp .ge 21, 3), (.aload_n 0, 1), (.iload_n 2, 1), (.iload_n 1, 1), (.invokevirtual 140, 3), (.iconst 2, 1), (.if_icmp .ne 5, 3), (.iconst 0, 1), (.ireturn, 1)]),
  (19, 3, [(.iinc 2 1, 3), (.goto (-20), 3)]),
  (25, 3, [(.iconst 1, 1), (.ireturn, 1)])]
theorem b_X5_isFirstOfItsLikes_ok : x_okB cX5_isFirstOfItsLikes 3 b_X5_isFirstOfItsLikes = true := by decide +kernel
def X_X5_isFirstOfItsLikes : x_X := ([], [], [], [], [(421, q_X5_signOfEnds)], (0, 0), x_kn, x_kf, 5, false)
theorem X_X5_isFirstOfItsLikes_ok : x_okT RX5 X_X5_isFirstOfItsLikes = true := by decide +kernel
theorem k_X5_isFirstOfItsLikes (l : Launch) : ∀ z ∈ X_X5_isFirstOfItsLikes.2.2.2.2.1, x_Cal l (x_rm 3 0 0) cX5_isFirstOfItsLikes RX5 3 z.1 z.2 := List.forall_mem_cons.mpr ⟨x_cal_V (idx := 140) (ci := 3) (n := 2) (c_X5_signOfEnds l) ⟨by decide, by decide⟩ (by decide +kernel) (by decide +kernel) (by decide +kernel) (by decide +kernel) (by decide +kernel) rfl rfl rfl (by decide +kernel) r_X5_signOfEnds, fun _ h => absurd h List.not_mem_nil⟩
set_option maxHeartbeats 4000000 in
set_option maxRecDepth 100000 in
theorem c_X5_isFirstOfItsLikes (l : Launch) : x_CT l yX5_isFirstOfItsLikes cX5_isFirstOfItsLikes 3 (some .boolean) 3 q_X5_isFirstOfItsLikes := by
  refine x_meth (X := X_X5_isFirstOfItsLikes) (bl := b_X5_isFirstOfItsLikes) (cut := [2]) (own := RX5) 30 (by decide) rfl X_X5_isFirstOfItsLikes_ok b_X5_isFirstOfItsLikes_ok rfl (Nat.le_of_ble_eq_true rfl) (k_X5_isFirstOfItsLikes l) ?_
  rintro as S M - ⟨q, e, f, hw, rfl, he, hf, rfl⟩
  refine ⟨fun μ pc ls st S' M' cs sl => ∃ i, i ≤ e ∧ (∀ o, o < i → sgE f o e ≠ 2) ∧ pc = 2 ∧ st = [] ∧ S' = SH ∧ M' = M ∧ cs = 0 ∧ sl = 0 ∧ ls = [.inr (.inl q), .inl (nI e), .inl (nI i)] ∧ μ = e - i, ?_, ?_⟩
  · skip
    refine xt_blk rfl rfl (by dsimp only [List.take]) ?_
    refine xt_ic ?_
    refine xt_isn2 rfl (by dsimp only [x_sto]) ?_
    refine xt_nil (t := 2) rfl ?_
    refine xt_cut rfl rfl (by dsimp only [List.take]) ?_
    exact ⟨e, 0, by omega, fun o ho => by omega, rfl, rfl, rfl, rfl, rfl, rfl, rfl, rfl⟩
  · rintro μ pc ls st S2 M2 cs sl (⟨i, hi, hno, rfl, rfl, rfl, rfl, rfl, rfl, rfl, rfl⟩)
    · refine ⟨_, rfl, ?_⟩
      refine xt_iln2 rfl ?_
      refine xt_iln1 rfl ?_
      refine xt_cge (t := 25) rfl (fun hc_4 => ?_) (fun hc_4 => ?_)
      · skip
        refine xt_blk rfl rfl (by dsimp only [List.take]) ?_
        refine xt_ic ?_
        refine xt_rz (by decide) rfl (Nat.le_refl _) ?_
        have hie : i = e := by rw [nI_leI (by omega) (by omega)] at hc_4; omega
        subst hie
        intro q2 e2 f2 h2e hf2 e3
        simp only [List.cons.injEq, Sum.inl.injEq, Sum.inr.injEq, and_true] at e3
        obtain ⟨rfl, a1⟩ := e3
        rw [nI_eq (by omega) (by omega)] at a1
        subst a1
        have ef := At_u hf hf2
        exact ⟨rfl, rfl, Or.inl ⟨fun o ho => by rw [← sgE_cg ef (by omega) (by omega)]; exact hno o ho, rfl⟩⟩
      · skip
        refine xt_aln0 rfl (by first | decide | omega | assumption | (have := isWy_lt hw; omega)) ?_
        refine xt_iln2 rfl ?_
        refine xt_iln1 rfl ?_
        refine xt_v3 (key := 421) (q := q_X5_signOfEnds) rfl rfl rfl rfl rfl ⟨Nat.le_of_ble_eq_true rfl, Nat.le_of_ble_eq_true rfl⟩ ⟨q, i, e, f (i / 2 * 6 + e / 2), hw, rfl, by omega, he, hf _ (by omega), rfl⟩ (fun rv_ S1 M1 hq_10 => ?_)
        obtain ⟨eS_, eM_, rfl⟩ := hq_10 q i e (f (i / 2 * 6 + e / 2)) hw (by omega) he (hf _ (by omega)) rfl
        replace eS_ := eS_.symm
        replace eM_ := eM_.symm
        subst eS_ eM_
        try dsimp only [Option.toList, List.cons_append, List.nil_append]
        refine xt_ic ?_
        refine xt_cne (t := 19) rfl (fun hc_14 => ?_) (fun hc_14 => ?_)
        · skip
          refine xt_blk rfl rfl (by dsimp only [List.take]) ?_
          refine xt_inc rfl (by dsimp only [x_sto]) ?_
          refine xt_goto (t := 2) rfl ?_
          refine xt_cut rfl rfl (by dsimp only [List.take]) ?_
          have hlt : i < e := by rw [nI_leI (by omega) (by omega)] at hc_4; omega
          have h8 : sgE f i e < 8 := Nat.mod_lt _ (by decide)
          have hc : ¬ nI (sgE f i e) = nI 2 := hc_14
          rw [nI_eq (by omega) (by omega)] at hc
          exact ⟨e - (i + 1), by omega, i + 1, by omega, fun o ho => by by_cases h : o = i; exact h ▸ hc; exact hno o (by omega), rfl, rfl, rfl, rfl, rfl, rfl, by rw [nI_add], rfl⟩
        · skip
          refine xt_ic ?_
          refine xt_rz (by decide) rfl (Nat.le_refl _) ?_
          have hlt : i < e := by rw [nI_leI (by omega) (by omega)] at hc_4; omega
          have h8 : sgE f i e < 8 := Nat.mod_lt _ (by decide)
          have hc : nI (sgE f i e) = nI 2 := hc_14
          rw [nI_eq (by omega) (by omega)] at hc
          intro q2 e2 f2 h2e hf2 e3
          simp only [List.cons.injEq, Sum.inl.injEq, Sum.inr.injEq, and_true] at e3
          obtain ⟨rfl, a1⟩ := e3
          rw [nI_eq (by omega) (by omega)] at a1
          subst a1
          have ef := At_u hf hf2
          exact ⟨rfl, rfl, Or.inr ⟨⟨i, hlt, by rw [← sgE_cg ef (by omega) (by omega)]; exact hc⟩, rfl⟩⟩
end
section
/-! WAY: numberEnds -/
def frB (f : Nat → Nat) (b : Nat) : Bool := (List.range b).all fun o => sgE f o b != 2
theorem frB_t {f : Nat → Nat} {b : Nat} (h : ∀ o, o < b → sgE f o b ≠ 2) : frB f b = true := by
  unfold frB
  rw [List.all_eq_true]
  intro o ho
  simpa using h o (List.mem_range.mp ho)
theorem frB_f {f : Nat → Nat} {b : Nat} (h : ∃ o, o < b ∧ sgE f o b = 2) : frB f b = false := by
  obtain ⟨o, h1, h2⟩ := h
  cases q : frB f b
  · rfl
  · unfold frB at q
    have := List.all_eq_true.mp q o (List.mem_range.mpr h1)
    simp [h2] at this
/-- how many different ends lie below the end e, looked at below n -/
def rkf (f : Nat → Nat) (e : Nat) : Nat → Nat
  | 0 => 0
  | b + 1 => rkf f e b + (if frB f b = true ∧ sgE f b e = 1 then 1 else 0)
theorem rkf_le (f : Nat → Nat) (e : Nat) : ∀ n, rkf f e n ≤ n
  | 0 => Nat.le_refl _
  | n + 1 => by have := rkf_le f e n; unfold rkf; split <;> omega
def q_X5_numberEnds : x_K := (1, fun as S M => ∃ (q : Nat) (f : Nat → Nat), isWy q ∧ S = SH ∧ At M (q + 3) f ∧ as = [.inr (.inl q)], fun as S M rv_ S' M' => ∀ (q : Nat) (f : Nat → Nat), At M (q + 3) f → as = [.inr (.inl q)] → S' = S ∧ (∃ gI, M' = x_row M (q + 6) gI ∧ ∀ e, e < 12 → gI e = nI (rkf f e 12)) ∧ rv_ = none, 0, 0)
theorem r_X5_numberEnds : ∀ as S M, q_X5_numberEnds.2.1 as S M → ∃ (k : Nat) (as' : List x_V) (fs : List (Option Nat)), as = .inr (.inl k) :: as' ∧ S[k]? = some (.inl (3, fs)) := by
  rintro as S M ⟨q, f, hw, rfl, -, rfl⟩
  exact ⟨q, _, _, rfl, SHw hw⟩
theorem rkf_cg {f f2 : Nat → Nat} (h : ∀ j, j < 36 → f j = f2 j) {e : Nat} (he : e < 12) : ∀ n, n ≤ 12 → rkf f e n = rkf f2 e n
  | 0, _ => rfl
  | n + 1, hn => by
    have key : ∀ g1 g2 : Nat → Nat, (∀ j, j < 36 → g1 j = g2 j) → frB g2 n = true → frB g1 n = true := by
      intro g1 g2 hg q
      refine frB_t (fun o ho => ?_)
      unfold frB at q
      have := List.all_eq_true.mp q o (List.mem_range.mpr ho)
      rw [sgE_cg hg (by omega) (by omega)]
      simpa using this
    have e1 : frB f n = frB f2 n := by
      cases q : frB f2 n
      · cases q1 : frB f n
        · rfl
        · rw [key f2 f (fun j hj => (h j hj).symm) q1] at q; cases q
      · exact key f f2 h q
    unfold rkf
    rw [rkf_cg h he n (by omega), e1, sgE_cg h (by omega) he]
def b_X5_numberEnds : x_B := [(0, 1, [(.aload_n 0, 1), (.getfield 41, 3), (.iconst 0, 1), (.invokestatic 123, 3), (.iconst 0, 1), (.istore_n 1, 1)]),
  (10, 2, [(.iload_n 1, 1), (.bipush 12, 2), (.if_icmp .ge 51, 3), (.aload_n 0, 1), (.iload_n 1, 1), (.invokevirtual 136, 3), (.ifCond .eq 37, 3), (.iconst 0, 1), (.istore_n 2, 1)]),
  (26, 3, [(.iload_n 2, 1), (.bipush 12, 2), (.if_icmp .ge 29, 3), (.aload_n 0, 1), (.iload_n 1, 1), (.iload_n 2, 1), (.invokevirtual 140, 3), (.iconst 1, 1), (.if_icmp .ne 13, 3), (.aload_n 0, 1), (.getfield 41, 3), (.iload_n 2, 1), (.dup2, 1), (.iaload, 1), (.iconst 1, 1), (.iadd, 1), (.iastore, 1)]),
  (52, 3, [(.iinc 2 1, 3), (.goto (-29), 3)]),
  (58, 2, [(.iinc 1 1, 3), (.goto (-51), 3)]),
  (64, 2, [(.return_, 1)])]
theorem b_X5_numberEnds_ok : x_okB cX5_numberEnds 3 b_X5_numberEnds = true := by decide +kernel
def X_X5_numberEnds : x_X := ([(41, 3, 8)], [], [], [], [(369, q_J7_fill), (409, q_X5_isFirstOfItsLikes), (421, q_X5_signOfEnds)], (0, 0), x_kn, x_kf, 5, false)
theorem X_X5_numberEnds_ok : x_okT RX5 X_X5_numberEnds = true := by decide +kernel
theorem k_X5_numberEnds (l : Launch) : ∀ z ∈ X_X5_numberEnds.2.2.2.2.1, x_Cal l (x_rm 4 0 0) cX5_numberEnds RX5 3 z.1 z.2 := List.forall_mem_cons.mpr ⟨x_cal_S (idx := 123) (c_J7_fill l) ⟨by decide, by decide⟩ (by decide +kernel) (by decide +kernel) (by decide +kernel) (by decide +kernel) (by decide +kernel), List.forall_mem_cons.mpr ⟨x_cal_V (idx := 136) (ci := 3) (n := 1) (c_X5_isFirstOfItsLikes l) ⟨by decide, by decide⟩ (by decide +kernel) (by decide +kernel) (by decide +kernel) (by decide +kernel) (by decide +kernel) rfl rfl rfl (by decide +kernel) r_X5_isFirstOfItsLikes, List.forall_mem_cons.mpr ⟨x_cal_V (idx := 140) (ci := 3) (n := 2) (c_X5_signOfEnds l) ⟨by decide, by decide⟩ (by decide +kernel) (by decide +kernel) (by decide +kernel) (by decide +kernel) (by decide +kernel) rfl rfl rfl (by decide +kernel) r_X5_signOfEnds, fun _ h => absurd h List.not_mem_nil⟩⟩⟩
set_option maxHeartbeats 4000000 in
set_option maxRecDepth 100000 in
theorem c_X5_numberEnds (l : Launch) : x_CT l yX5_numberEnds cX5_numberEnds 3 none 4 q_X5_numberEnds := by
  refine x_meth (X := X_X5_numberEnds) (bl := b_X5_numberEnds) (cut := [10, 26]) (own := RX5) 30 (by decide) rfl X_X5_numberEnds_ok b_X5_numberEnds_ok rfl (Nat.le_of_ble_eq_true rfl) (k_X5_numberEnds l) ?_
  rintro as S M - ⟨q, f, hw, rfl, hf, rfl⟩
  have hat : ∀ gI, At (x_row M (q + 6) gI) (q + 3) f := fun gI j hj => ⟨(hf j hj).1, by rw [x_row_ne _ _ (by omega)]; exact (hf j hj).2⟩
  refine ⟨fun μ pc ls st S' M' cs sl => (∃ b gI, b ≤ 12 ∧ M' = x_row M (q + 6) gI ∧ (∀ e, e < 12 → gI e = nI (rkf f e b)) ∧ pc = 10 ∧ st = [] ∧ S' = SH ∧ cs = 0 ∧ sl = 0 ∧ ls = [.inr (.inl q), .inl (nI b)] ∧ μ = (12 - b) * 20) ∨ (∃ b j gI, b < 12 ∧ j ≤ 12 ∧ frB f b = true ∧ M' = x_row M (q + 6) gI ∧ (∀ e, e < 12 → gI e = nI (if e < j then rkf f e (b + 1) else rkf f e b)) ∧ pc = 26 ∧ st = [] ∧ S' = SH ∧ cs = 0 ∧ sl = 0 ∧ ls = [.inr (.inl q), .inl (nI b), .inl (nI j)] ∧ μ = (12 - b) * 20 - 1 - j), ?_, ?_⟩
  · skip
    refine xt_blk rfl rfl (by dsimp only [List.take]) ?_
    refine xt_aln0 rfl (by first | decide | omega | assumption | (have := isWy_lt hw; omega)) ?_
    refine xt_gfr (q := (3, 8)) rfl (by first | exact SHw hw | exact SHw3 hw | exact SHw6 hw | rfl | assumption) rfl ?_
    refine xt_ic ?_
    refine xt_v2 (key := 369) (q := q_J7_fill) rfl rfl rfl rfl rfl ⟨Nat.le_of_ble_eq_true rfl, Nat.le_of_ble_eq_true rfl⟩ ⟨q + 6, 12, _, by have := isWy_lt hw; omega, by decide, SHw6 hw, rfl⟩ (fun rv_ S1 M1 hq_5 => ?_)
    obtain ⟨eS_, eM_, rfl⟩ := hq_5 (q + 6) 12 _ (SHw6 hw) rfl
    replace eS_ := eS_.symm
    replace eM_ := eM_.symm
    subst eS_ eM_
    try dsimp only [Option.toList, List.cons_append, List.nil_append]
    refine xt_ic ?_
    refine xt_isn1 rfl (by dsimp only [x_sto]) ?_
    refine xt_nil (t := 10) rfl ?_
    refine xt_cut rfl rfl (by dsimp only [List.take]) ?_
    exact ⟨12 * 20, Or.inl ⟨0, _, by omega, rfl, fun e he => by unfold x_cp; rw [if_pos he]; rfl, rfl, rfl, rfl, rfl, rfl, rfl, rfl⟩⟩
  · rintro μ pc ls st S2 M2 cs sl (⟨b, gI, hb, rfl, hg, rfl, rfl, rfl, rfl, rfl, rfl, rfl⟩ | ⟨b, j, gI, hb12, hj, hfr, rfl, hg, rfl, rfl, rfl, rfl, rfl, rfl, rfl⟩)
    · refine ⟨_, rfl, ?_⟩
      refine xt_iln1 rfl ?_
      refine xt_bi ?_
      refine xt_cge (t := 64) rfl (fun hc_13 => ?_) (fun hc_13 => ?_)
      · skip
        refine xt_blk rfl rfl (by dsimp only [List.take]) ?_
        refine xt_rv rfl (Nat.le_refl _) ?_
        have hb12 : b = 12 := by rw [nI_leI (by omega) (by omega)] at hc_13; omega
        subst hb12
        intro q2 f2 hf2 e3
        simp only [List.cons.injEq, Sum.inr.injEq, Sum.inl.injEq, and_true] at e3
        subst e3
        have ef := At_u hf hf2
        exact ⟨rfl, ⟨gI, rfl, fun e he => by rw [hg e he, rkf_cg ef he 12 (by omega)]⟩, rfl⟩
      · skip
        refine xt_aln0 rfl (by first | decide | omega | assumption | (have := isWy_lt hw; omega)) ?_
        refine xt_iln1 rfl ?_
        refine xt_v2 (key := 409) (q := q_X5_isFirstOfItsLikes) rfl rfl rfl rfl rfl ⟨Nat.le_of_ble_eq_true rfl, Nat.le_of_ble_eq_true rfl⟩ ⟨q, b, f, hw, rfl, (by rw [nI_leI (by omega) (by omega)] at hc_13; omega), hat gI, rfl⟩ (fun rv_ S1 M1 hq_18 => ?_)
        obtain ⟨eS_, eM_, h_f⟩ := hq_18 q b f (by rw [nI_leI (by omega) (by omega)] at hc_13; omega) (hat gI) rfl
        replace eS_ := eS_.symm
        replace eM_ := eM_.symm
        subst eS_ eM_
        have hex_f : ∃ v, rv_ = some (.inl v) := by rcases h_f with ⟨-, e⟩ | ⟨-, e⟩ <;> exact ⟨_, e⟩
        obtain ⟨v_f, rfl⟩ := hex_f
        simp only [Option.some.injEq, Sum.inl.injEq] at h_f
        try dsimp only [Option.toList, List.cons_append, List.nil_append]
        refine xt_eq (t := 58) rfl (fun hc_21 => ?_) (fun hc_21 => ?_)
        · skip
          refine xt_blk rfl rfl (by dsimp only [List.take]) ?_
          refine xt_inc rfl (by dsimp only [x_sto]) ?_
          refine xt_goto (t := 10) rfl ?_
          refine xt_cut rfl rfl (by dsimp only [List.take]) ?_
          have hb12 : b < 12 := by rw [nI_leI (by omega) (by omega)] at hc_13; omega
          have hfr : frB f b = false := by
            rcases h_f with ⟨-, e⟩ | ⟨y, -⟩
            · rw [e] at hc_21; exact absurd hc_21 (by decide)
            · exact frB_f y
          exact ⟨(12 - (b + 1)) * 20, by omega, Or.inl ⟨b + 1, gI, by omega, rfl, fun e he => by rw [hg e he]; simp [rkf, hfr], rfl, rfl, rfl, rfl, rfl, by rw [nI_add], rfl⟩⟩
        · skip
          refine xt_ic ?_
          refine xt_isn2 rfl (by dsimp only [x_sto]) ?_
          refine xt_nil (t := 26) rfl ?_
          refine xt_cut rfl rfl (by dsimp only [List.take]) ?_
          have hb12 : b < 12 := by rw [nI_leI (by omega) (by omega)] at hc_13; omega
          have hfr : frB f b = true := by
            rcases h_f with ⟨y, -⟩ | ⟨-, e⟩
            · exact frB_t y
            · exact absurd (by rw [e]; rfl) hc_21
          exact ⟨(12 - b) * 20 - 1, by omega, Or.inr ⟨b, 0, gI, hb12, by omega, hfr, rfl, fun e he => by rw [hg e he, if_neg (by omega)], rfl, rfl, rfl, rfl, rfl, rfl, rfl⟩⟩
    · refine ⟨_, rfl, ?_⟩
      refine xt_iln2 rfl ?_
      refine xt_bi ?_
      refine xt_cge (t := 58) rfl (fun hc_29 => ?_) (fun hc_29 => ?_)
      · skip
        refine xt_blk rfl rfl (by dsimp only [List.take]) ?_
        refine xt_inc rfl (by dsimp only [x_sto]) ?_
        refine xt_goto (t := 10) rfl ?_
        refine xt_cut rfl rfl (by dsimp only [List.take]) ?_
        have hj : j = 12 := by rw [nI_leI (by omega) (by omega)] at hc_29; omega
        subst hj
        exact ⟨(12 - (b + 1)) * 20, by omega, Or.inl ⟨b + 1, gI, by omega, rfl, fun e he => by rw [hg e he, if_pos he], rfl, rfl, rfl, rfl, rfl, by rw [nI_add], rfl⟩⟩
      · skip
        refine xt_aln0 rfl (by first | decide | omega | assumption | (have := isWy_lt hw; omega)) ?_
        refine xt_iln1 rfl ?_
        refine xt_iln2 rfl ?_
        refine xt_v3 (key := 421) (q := q_X5_signOfEnds) rfl rfl rfl rfl rfl ⟨Nat.le_of_ble_eq_true rfl, Nat.le_of_ble_eq_true rfl⟩ ⟨q, b, j, f (b / 2 * 6 + j / 2), hw, rfl, by omega, (by rw [nI_leI (by omega) (by omega)] at hc_29; omega), hat gI _ (by rw [nI_leI (by omega) (by omega)] at hc_29; omega), rfl⟩ (fun rv_ S1 M1 hq_35 => ?_)
        obtain ⟨eS_, eM_, rfl⟩ := hq_35 q b j (f (b / 2 * 6 + j / 2)) hw (by omega) (by rw [nI_leI (by omega) (by omega)] at hc_29; omega) (hat gI _ (by rw [nI_leI (by omega) (by omega)] at hc_29; omega)) rfl
        replace eS_ := eS_.symm
        replace eM_ := eM_.symm
        subst eS_ eM_
        try dsimp only [Option.toList, List.cons_append, List.nil_append]
        refine xt_ic ?_
        refine xt_cne (t := 52) rfl (fun hc_39 => ?_) (fun hc_39 => ?_)
        · skip
          refine xt_blk rfl rfl (by dsimp only [List.take]) ?_
          refine xt_inc rfl (by dsimp only [x_sto]) ?_
          refine xt_goto (t := 26) rfl ?_
          refine xt_cut rfl rfl (by dsimp only [List.take]) ?_
          have hj : j < 12 := by rw [nI_leI (by omega) (by omega)] at hc_29; omega
          have h8 : sgE f b j < 8 := Nat.mod_lt _ (by decide)
          have hc : ¬ nI (sgE f b j) = nI 1 := hc_39
          rw [nI_eq (by omega) (by omega)] at hc
          exact ⟨(12 - b) * 20 - 1 - (j + 1), by omega, Or.inr ⟨b, j + 1, gI, hb12, by omega, hfr, rfl, fun e he => by
            rw [hg e he]
            by_cases h : e = j
            · subst h
              rw [if_neg (by omega), if_pos (by omega)]
              simp [rkf, hc]
            · by_cases h2 : e < j
              · rw [if_pos h2, if_pos (by omega)]
              · rw [if_neg h2, if_neg (by omega)], rfl, rfl, rfl, rfl, rfl, by rw [nI_add], rfl⟩⟩
        · skip
          refine xt_aln0 rfl (by first | decide | omega | assumption | (have := isWy_lt hw; omega)) ?_
          refine xt_gfr (q := (3, 8)) rfl (by first | exact SHw hw | exact SHw3 hw | exact SHw6 hw | rfl | assumption) rfl ?_
          refine xt_iln2 rfl ?_
          refine xt_dup2 ?_
          refine xt_ial (by first | exact SHw hw | exact SHw3 hw | exact SHw6 hw | rfl | assumption) (show vp_in _ 12 from vp_in_nI (by rw [nI_leI (by omega) (by omega)] at hc_29; omega) (by decide)) ?_
          refine xt_ic ?_
          refine xt_add ?_
          refine xt_ias (by first | exact SHw hw | exact SHw3 hw | exact SHw6 hw | rfl | assumption) (show vp_in _ 12 from vp_in_nI (by rw [nI_leI (by omega) (by omega)] at hc_29; omega) (by decide)) ?_
          refine xt_nil (t := 52) rfl ?_
          refine xt_blk rfl rfl (by dsimp only [List.take]) ?_
          refine xt_inc rfl (by dsimp only [x_sto]) ?_
          refine xt_goto (t := 26) rfl ?_
          refine xt_cut rfl rfl (by dsimp only [List.take]) ?_
          have hj : j < 12 := by rw [nI_leI (by omega) (by omega)] at hc_29; omega
          have h8 : sgE f b j < 8 := Nat.mod_lt _ (by decide)
          have hc : nI (sgE f b j) = nI 1 := hc_39
          rw [nI_eq (by omega) (by omega)] at hc
          refine ⟨(12 - b) * 20 - 1 - (j + 1), by omega, Or.inr ⟨b, j + 1, _, hb12, by omega, hfr, by rw [x_row_row], fun e he => ?_, rfl, rfl, rfl, rfl, rfl, by rw [nI_add], rfl⟩⟩
          rw [x_row_self, nI_clamp (by omega)]
          unfold upd
          by_cases h : e = j
          · subst h
            rw [if_pos rfl, hg e he, if_neg (by omega), if_pos (by omega), nI_add]
            simp [rkf, hc, hfr]
          · rw [if_neg h, hg e he]
            by_cases h2 : e < j
            · rw [if_pos h2, if_pos (by omega)]
            · rw [if_neg h2, if_neg (by omega)]
end
section
/-! WHAT A WAY FINDS: mathematics -/
theorem all_tb : ∀ i, i < 15 → (32767 : Nat).testBit i = true := by decide
theorem IV_all (g : Nat → Nat) : IV g 32767 := fun x y z hd h => absurd h (by rw [all_tb _ (pr_lt hd.1 hd.2.1 hd.2.2.2.1)]; decide)
theorem NE_all (g : Nat → Nat) : NE g 32767 := fun x y hx hy hxy h => absurd h (by rw [all_tb _ (pr_lt hx hy hxy)]; decide)
theorem NE_0 {g : Nat → Nat} (h : NE g 0) {a b : Nat} (ha : a < 6) (hb : b < 6) (hab : a ≠ b) : g (a * 6 + b) ≠ 0 := h a b ha hb hab (Nat.zero_testBit _)
/-- closed without empty sets -/
def Cn (f g : Nat → Nat) : Prop := Bd g ∧ Sy g ∧ Clo g ∧ NE g 0 ∧ Mx f g
def Cl (f g : Nat → Nat) : Prop := Cn f g ∨ (Fail f ∧ ∀ j, j < 36 → g j = 0)
theorem Fail_no {f g : Nat → Nat} (hF : Fail f) (h : Cn f g) : False := by
  obtain ⟨-, hS, hC, hN, hM⟩ := h
  obtain ⟨a, b, ha, hb, hab, h0⟩ := hF g hS hC hM.1
  exact NE_0 hN ha hb hab h0
theorem Cl_u {f g g2 : Nat → Nat} (h : Cl f g) (h2 : Cl f g2) {a b : Nat} (ha : a < 6) (hb : b < 6) (hab : a ≠ b) : g (a * 6 + b) = g2 (a * 6 + b) := by
  rcases h with h | ⟨f1, z1⟩ <;> rcases h2 with h2 | ⟨f2, z2⟩
  · obtain ⟨-, s1, c1, n1, m1⟩ := h
    obtain ⟨-, s2, c2, n2, m2⟩ := h2
    exact sb_as (m2.2.1 g s1 c1 m1.1 a b ha hb hab) (m1.2.1 g2 s2 c2 m2.1 a b ha hb hab)
  · exact (Fail_no f2 h).elim
  · exact (Fail_no f1 h2).elim
  · rw [z1 _ (by omega), z2 _ (by omega)]
theorem Cn_sat {f g : Nat → Nat} (h : Cn f g) : Sat f ↔ Sat g := Sat_mx h.2.2.2.2
theorem Hol_fix {g : Nat → Nat} (hS : Sy g) {a b r : Nat} (ha : a < 6) (hb : b < 6) (hab : a ≠ b) (hr : r < 13) (hbit : (g (a * 6 + b)).testBit r = true) {P : Nat → Nat → Nat} (hP : Str P) : Hol P (nw g a b (2 ^ r)) ↔ Hol P g ∧ rP P a b = r := by
  constructor
  · intro h2
    have hv : sb (2 ^ r) (g (a * 6 + b)) := sb_tb.mpr (fun i hi => by
      rw [Nat.testBit_two_pow] at hi
      have hi : r = i := by simpa using hi
      rw [← hi]; exact hbit)
    refine ⟨Hol_Le.mpr (Le_tr (Hol_Le.mp h2) (nw_Le hS ha hb hab hv)), ?_⟩
    have := h2 a b ha hb hab
    rw [nw_ab g _ ha hb hab, Nat.testBit_two_pow] at this
    exact (by simpa using this : r = rP P a b).symm
  · rintro ⟨h2, e⟩
    intro x y hx hy hxy
    by_cases q1 : x = a ∧ y = b
    · obtain ⟨rfl, rfl⟩ := q1
      rw [nw_ab g _ ha hb hab, e]; exact Nat.testBit_two_pow_self
    · by_cases q2 : x = b ∧ y = a
      · obtain ⟨rfl, rfl⟩ := q2
        rw [nw_ba, tn_pow _ hr]
        have : rP P x y = 12 - rP P y x := rN_turn (hP y hy) (hP x hx)
        rw [this, e]; exact Nat.testBit_two_pow_self
      · rw [nw_ne g _ ha hb hx hy q1 q2]; exact h2 x y hx hy hxy
/-- a relation that can be -/
def Rl (f : Nat → Nat) (a b r : Nat) : Prop := ∃ P, Str P ∧ Hol P f ∧ rP P a b = r
theorem Rl_fix {g : Nat → Nat} (hS : Sy g) {a b r : Nat} (ha : a < 6) (hb : b < 6) (hab : a ≠ b) (hr : r < 13) (hbit : (g (a * 6 + b)).testBit r = true) : Sat (nw g a b (2 ^ r)) ↔ Rl g a b r :=
  ⟨fun ⟨P, h1, h2⟩ => ⟨P, h1, (Hol_fix hS ha hb hab hr hbit h1).mp h2⟩, fun ⟨P, h1, h2⟩ => ⟨P, h1, (Hol_fix hS ha hb hab hr hbit h1).mpr h2⟩⟩
theorem Rl_mx {f g : Nat → Nat} (h : Mx f g) (a b r : Nat) : Rl f a b r ↔ Rl g a b r :=
  ⟨fun ⟨P, h1, h2, h3⟩ => ⟨P, h1, (Hol_mx h1 h).mp h2, h3⟩, fun ⟨P, h1, h2, h3⟩ => ⟨P, h1, (Hol_mx h1 h).mpr h2, h3⟩⟩
theorem Rl_bit {g : Nat → Nat} {a b r : Nat} (ha : a < 6) (hb : b < 6) (hab : a ≠ b) (h : Rl g a b r) : (g (a * 6 + b)).testBit r = true := by
  obtain ⟨P, h1, h2, rfl⟩ := h
  exact h2 a b ha hb hab
theorem Rl_sat {g : Nat → Nat} {a b r : Nat} (h : Rl g a b r) : Sat g := by
  obtain ⟨P, h1, h2, -⟩ := h
  exact ⟨P, h1, h2⟩
theorem rP_turn {P : Nat → Nat → Nat} (hP : Str P) {a b : Nat} (ha : a < 6) (hb : b < 6) : rP P b a = 12 - rP P a b := rN_turn (hP a ha) (hP b hb)
theorem Rl_turn {f : Nat → Nat} {a b r : Nat} (ha : a < 6) (hb : b < 6) (hr : r < 13) : Rl f b a r ↔ Rl f a b (12 - r) := by
  constructor
  · rintro ⟨P, h1, h2, e⟩
    exact ⟨P, h1, h2, by rw [rP_turn h1 hb ha, e]⟩
  · rintro ⟨P, h1, h2, e⟩
    exact ⟨P, h1, h2, by rw [rP_turn h1 ha hb, e]; omega⟩
def CanV (f : Nat → Nat) (a b v : Nat) : Prop := v < 8192 ∧ ∀ r, r < 13 → (v.testBit r = true ↔ Rl f a b r)
theorem CanV_u {f : Nat → Nat} {a b v v2 : Nat} (h : CanV f a b v) (h2 : CanV f a b v2) : v = v2 :=
  tb_ext h.1 h2.1 (fun i hi => (h.2 i hi).trans (h2.2 i hi).symm)
theorem CanV_turn {f : Nat → Nat} {a b v : Nat} (ha : a < 6) (hb : b < 6) (h : CanV f a b v) : CanV f b a (tn v) :=
  ⟨tn_lt v, fun r hr => by rw [tn_tb v hr, h.2 (12 - r) (by omega), Rl_turn ha hb hr]⟩
theorem CanV_no {f : Nat → Nat} {a b : Nat} (h : ¬ Sat f) : CanV f a b 0 :=
  ⟨by decide, fun r hr => ⟨fun q => by simp at q, fun q => (h (Rl_sat q)).elim⟩⟩
theorem CanV_ne {f : Nat → Nat} {a b v : Nat} (h : Sat f) (hv : CanV f a b v) : v ≠ 0 := by
  rintro rfl
  obtain ⟨P, h1, h2⟩ := h
  have := (hv.2 (rP P a b) (rN_lt _ _ _ _)).mpr ⟨P, h1, h2, rfl⟩
  simp at this
theorem CanV_mx {f g : Nat → Nat} (h : Mx f g) {a b v : Nat} (hv : CanV g a b v) : CanV f a b v := ⟨hv.1, fun r hr => (hv.2 r hr).trans (Rl_mx h a b r).symm⟩
/-! the first drawing -/
def rl (P : Nat → Nat → Nat) (q : Nat) : Nat := rP P (fsT q) (scT q)
theorem rl_lt (P : Nat → Nat → Nat) (q : Nat) : rl P q < 13 := rN_lt _ _ _ _
def Lst (f : Nat → Nat) (p : Nat) (s : Nat → Nat) : Prop := ∀ P, Str P → Hol P f → (∀ q, q < p → rl P q = s q) ∨ ∃ q, q < p ∧ (∀ u, u < q → rl P u = s u) ∧ s q < rl P q
def Fs (f : Nat → Nat) (s : Nat → Nat) : Prop := (∃ P, Str P ∧ Hol P f ∧ ∀ q, q < 15 → rl P q = s q) ∧ Lst f 15 s
theorem Fs_u {f s s2 : Nat → Nat} (h : Fs f s) (h2 : Fs f s2) : ∀ q, q < 15 → s q = s2 q := by
  obtain ⟨⟨P, p1, p2, p3⟩, hl⟩ := h
  obtain ⟨⟨Q, q1, q2, q3⟩, hl2⟩ := h2
  rcases hl Q q1 q2 with a | ⟨k, hk, a1, a2⟩
  · intro q hq; rw [← a q hq, q3 q hq]
  · rw [q3 k hk] at a2
    rcases hl2 P p1 p2 with b | ⟨k2, hk2, b1, b2⟩
    · intro q hq; rw [← p3 q hq, b q hq]
    · rw [p3 k2 hk2] at b2
      exfalso
      rcases Nat.lt_trichotomy k k2 with c | c | c
      · have := b1 k c; rw [p3 k hk] at this; omega
      · subst c; omega
      · have := a1 k2 c; rw [q3 k2 hk2] at this; omega
def FI (f : Nat → Nat) (p : Nat) (s g : Nat → Nat) : Prop := (Bd g ∧ Sy g ∧ Clo g ∧ NE g 0) ∧ (∀ a, a < 6 → g (a * 6 + a) = 64) ∧ (∀ P, Str P → (Hol P g ↔ Hol P f ∧ ∀ q, q < p → rl P q = s q)) ∧ (∀ q, q < p → s q < 13 ∧ pf g q = 2 ^ s q) ∧ Lst f p s ∧ Sat g
theorem FI_0 {f g : Nat → Nat} (h : Cn f g) (hd : ∀ a, a < 6 → f (a * 6 + a) = 64) (hs : Sat f) : FI f 0 (fun _ => 0) g := by
  obtain ⟨h1, h2, h3, h4, h5⟩ := h
  refine ⟨⟨h1, h2, h3, h4⟩, fun a ha => (h5.2.2 a ha).trans (hd a ha), fun P hP => ?_, fun q hq => by omega, fun P _ _ => Or.inl (fun q hq => by omega), (Sat_mx h5).mp hs⟩
  rw [← Hol_mx hP h5]
  exact ⟨fun q => ⟨q, fun q hq => by omega⟩, fun q => q.1⟩
def ups (s : Nat → Nat) (p r : Nat) : Nat → Nat := fun q => if q = p then r else s q
theorem ups_p {s : Nat → Nat} {p r : Nat} : ups s p r p = r := if_pos rfl
theorem ups_ne {s : Nat → Nat} {p r q : Nat} (h : ¬ q = p) : ups s p r q = s q := if_neg h
theorem FI_step {f s g g2 : Nat → Nat} {p r : Nat} (h : FI f p s g) (hp : p < 15) (hr : r < 13) (hbit : (pf g p).testBit r = true) (hlow : ∀ t, t < r → (pf g p).testBit t = true → ¬ Sat (nw g (fsT p) (scT p) (2 ^ t))) (hsat : Sat (nw g (fsT p) (scT p) (2 ^ r))) (h2 : Cn (nw g (fsT p) (scT p) (2 ^ r)) g2) :
    FI f (p + 1) (ups s p r) g2 := by
  obtain ⟨⟨hB, hS, hC, hN⟩, hd, hH, hs, hL, hSat⟩ := h
  obtain ⟨f1, f2, f3, f4⟩ := fs_ok p hp
  obtain ⟨hB2, hS2, hC2, hN2, hM2⟩ := h2
  have hv : sb (2 ^ r) (g (fsT p * 6 + scT p)) := sb_tb.mpr (fun i hi => by
    rw [Nat.testBit_two_pow] at hi
    have hi : r = i := by simpa using hi
    rw [← hi]; exact hbit)
  refine ⟨⟨hB2, hS2, hC2, hN2⟩, fun a ha => ?_, fun P hP => ?_, fun q hq => ?_, fun P hP hf => ?_, (Sat_mx hM2).mp hsat⟩
  · rw [hM2.2.2 a ha, nw_Dg f1 f2 f3 a ha, hd a ha]
  · rw [← Hol_mx hP hM2, Hol_fix hS f1 f2 f3 hr hbit hP, hH P hP]
    constructor
    · rintro ⟨⟨a1, a2⟩, a3⟩
      refine ⟨a1, fun q hq => ?_⟩
      by_cases e : q = p
      · subst e; rw [ups_p]; exact a3
      · rw [ups_ne e]; exact a2 q (by omega)
    · rintro ⟨a1, a2⟩
      refine ⟨⟨a1, fun q hq => ?_⟩, ?_⟩
      · have := a2 q (by omega)
        rw [ups_ne (by omega)] at this; exact this
      · have := a2 p (by omega)
        rw [ups_p] at this; exact this
  · obtain ⟨g1, g4, g3, -⟩ := fs_ok q (by omega)
    by_cases e : q = p
    · subst e
      rw [ups_p]
      refine ⟨hr, sb_pow ?_ (NE_0 hN2 f1 f2 f3)⟩
      have := hM2.1 _ _ f1 f2 f3
      rw [nw_ab g _ f1 f2 f3] at this
      exact this
    · rw [ups_ne e]
      refine ⟨(hs q (by omega)).1, sb_pow ?_ (NE_0 hN2 g1 g4 g3)⟩
      have := Le_tr hM2.1 (nw_Le hS f1 f2 f3 hv) _ _ g1 g4 g3
      rw [← (hs q (by omega)).2]
      exact this
  · rcases hL P hP hf with a | ⟨q, hq, a1, a2⟩
    · have hg := (hH P hP).mpr ⟨hf, a⟩
      have hb2 : (pf g p).testBit (rl P p) = true := hg _ _ f1 f2 f3
      have hS2 : Sat (nw g (fsT p) (scT p) (2 ^ rl P p)) := ⟨P, hP, (Hol_fix hS f1 f2 f3 (rl_lt P p) hb2 hP).mpr ⟨hg, rfl⟩⟩
      have hnl : ¬ rl P p < r := fun q => hlow _ q hb2 hS2
      by_cases e : rl P p = r
      · left
        intro q hq
        by_cases e2 : q = p
        · subst e2; rw [ups_p]; exact e
        · rw [ups_ne e2]; exact a q (by omega)
      · right
        refine ⟨p, by omega, fun u hu => ?_, by rw [ups_p]; omega⟩
        rw [ups_ne (by omega)]; exact a u hu
    · right
      refine ⟨q, by omega, fun u hu => ?_, ?_⟩
      · rw [ups_ne (by omega)]; exact a1 u hu
      · rw [ups_ne (by omega)]; exact a2
theorem FI_end {f s g : Nat → Nat} (h : FI f 15 s g) : Fs f s := by
  obtain ⟨-, -, hH, -, hL, P, h1, h2⟩ := h
  exact ⟨⟨P, h1, (hH P h1).mp h2⟩, hL⟩
/-- the relation of a to b in a drawing told by pairs -/
def rel (s : Nat → Nat) (a b : Nat) : Nat := if a = b then 6 else if a < b then s (pr a b) else 12 - s (pr a b)
theorem rel_lt {s : Nat → Nat} (hs : ∀ p, p < 15 → s p < 13) {a b : Nat} (ha : a < 6) (hb : b < 6) : rel s a b < 13 := by
  unfold rel
  split
  · decide
  · rename_i h
    have := hs _ (pr_lt ha hb h)
    split <;> omega
theorem rel_cg {s s2 : Nat → Nat} (hs : ∀ p, p < 15 → s p = s2 p) {a b : Nat} (ha : a < 6) (hb : b < 6) : rel s a b = rel s2 a b := by
  unfold rel
  split
  · rfl
  · rename_i h
    rw [hs _ (pr_lt ha hb h)]
theorem gRel {s g : Nat → Nat} (hS : Sy g) (h : ∀ q, q < 15 → s q < 13 ∧ pf g q = 2 ^ s q) {a b : Nat} (ha : a < 6) (hb : b < 6) (hab : a ≠ b) : g (a * 6 + b) = 2 ^ rel s a b := by
  unfold rel
  rw [if_neg hab]
  by_cases c : a < b
  · rw [if_pos c]
    have := (h _ (pr_lt ha hb hab)).2
    unfold pf at this
    rw [(pr_fs a b c hb).1, (pr_fs a b c hb).2] at this
    exact this
  · rw [if_neg c]
    have hba : b < a := by omega
    have q := h _ (pr_lt hb ha (Ne.symm hab))
    have e := q.2
    unfold pf at e
    rw [(pr_fs b a hba ha).1, (pr_fs b a hba ha).2] at e
    rw [hS b a hb ha (Ne.symm hab), e, tn_pow _ q.1, pr_c ha hb hab]
theorem ls_pow : ∀ r, r < 13 → ls13 (2 ^ r) = r := by decide
/-! the nets that are told -/
theorem opn_Sy : Sy opn := by
  intro a b ha hb hab
  unfold opn
  rw [if_neg (by omega), if_neg (by omega)]
  decide
theorem opn_dg (a : Nat) (ha : a < 6) : opn (a * 6 + a) = 64 := by
  unfold opn; rw [if_pos (by omega)]
def Okn (n : Nat) (A B s : Nat → Nat) : Prop := ∀ i, i < n → A i < 6 ∧ B i < 6 ∧ A i ≠ B i ∧ s i < 8192
theorem wnF_ok {A B s : Nat → Nat} {c n : Nat} (h : Okn n A B s) : ∀ i, i ≤ n → Bd (wnF A B s c i) ∧ Sy (wnF A B s c i) ∧ ∀ a, a < 6 → wnF A B s c i (a * 6 + a) = 64
  | 0, _ => ⟨opn_Bd, opn_Sy, opn_dg⟩
  | i + 1, hi => by
    obtain ⟨h1, h2, h3⟩ := wnF_ok (c := c) h i (by omega)
    obtain ⟨a1, a2, a3, a4⟩ := h i (by omega)
    unfold wnF
    split
    · have hlt : wnF A B s c i (A i * 6 + B i) &&& s i < 8192 := Nat.lt_of_le_of_lt Nat.and_le_right a4
      exact ⟨nw_Bd h1 hlt, nw_Sy h2 a1 a2 a3 hlt, fun a ha => (nw_Dg a1 a2 a3 a ha).trans (h3 a ha)⟩
    · exact ⟨h1, h2, h3⟩
theorem tbf_tb (t : Nat → Int32) : ∀ n i, (tbf t n).testBit i = (decide (i < n) && decide (t i ≠ 0))
  | 0, i => by simp [tbf]
  | n + 1, i => by
    have h := tbf_tb t n i
    unfold tbf
    by_cases e : i = n
    · subst e
      have h0 : (tbf t i).testBit i = false := Nat.testBit_lt_two_pow (tbf_lt t i)
      split
      · rename_i q; simp [h0, q]
      · rename_i q; simp [Nat.testBit_or, h0, q]
    · have e2 : decide (i < n + 1) = decide (i < n) := by simp; omega
      rw [e2]
      split
      · exact h
      · rw [Nat.testBit_or, h, Nat.testBit_two_pow]; simp; omega
/-- the core: of the kept, those below j are looked at, the last first -/
noncomputable def ckF (A B s : Nat → Nat) (n : Nat) : Nat → Nat → Nat
  | kept, 0 => kept
  | kept, j + 1 => ckF A B s n (@ite Nat (kept.testBit j = true ∧ ¬ Sat (wnF A B s (clr kept j) n)) (Classical.propDecidable _) (clr kept j) kept) j
end
section
/-! WAY: what it keeps; refresh, toldSet, closedSet -/
def nv (x : Int32) : Nat := x.toNatClampNeg
theorem nv_nI {k : Nat} (h : k < 2 ^ 31) : nv (nI k) = k := nI_clamp h
theorem m1_ne {v : Nat} (h : v < 2 ^ 31) : ¬ nI v = -(nI 1) := fun e => by
  have h1 : nv (nI v) = nv (-(nI 1)) := by rw [e]
  have h0 : nv (-(nI 1)) = 0 := by decide
  rw [nv_nI h, h0] at h1
  subst h1
  revert e
  decide
def nN (M : x_M) : Nat := nv (M 1 4)
def nA (M : x_M) (i : Nat) : Nat := nv (M 2 i)
def nB (M : x_M) (i : Nat) : Nat := nv (M 3 i)
def nS (M : x_M) (w i : Nat) : Nat := nv (M (5 + w) i)
def OkM (M : x_M) : Prop := nN M ≤ 30 ∧ M 1 4 = nI (nN M) ∧ ∀ w, w < 2 → Sts M w (nN M) (nA M) (nB M) (nS M w)
/-- the net that is told along a way -/
def tF (M : x_M) (w : Nat) : Nat → Nat := wnF (nA M) (nB M) (nS M w) (tbf (M 7) (nN M)) (nN M)
noncomputable def coM (M : x_M) (w : Nat) : Nat := ckF (nA M) (nB M) (nS M w) (nN M) (tbf (M 7) (nN M)) (nN M)
def wo (q : Nat) : Nat := if q = 26 then 0 else 1
theorem wo_lt (q : Nat) : wo q < 2 := by unfold wo; split <;> decide
theorem OkM_n {M : x_M} (h : OkM M) {w : Nat} (hw : w < 2) : Okn (nN M) (nA M) (nB M) (nS M w) := fun i hi => ⟨(h.2.2 w hw i hi).1, (h.2.2 w hw i hi).2.1, (h.2.2 w hw i hi).2.2.1, (h.2.2 w hw i hi).2.2.2.1⟩
theorem tF_ok {M : x_M} (h : OkM M) {w : Nat} (hw : w < 2) : Bd (tF M w) ∧ Sy (tF M w) ∧ ∀ a, a < 6 → tF M w (a * 6 + a) = 64 := wnF_ok (OkM_n h hw) _ (Nat.le_refl _)
/-- rows that the statements lie in are the same -/
def St7 (M M' : x_M) : Prop := ∀ k, k < 8 → M' k = M k
theorem St7_w {M M' : x_M} (h : St7 M M') {w : Nat} (hw : w < 2) : nN M' = nN M ∧ nA M' = nA M ∧ nB M' = nB M ∧ nS M' w = nS M w ∧ tF M' w = tF M w ∧ coM M' w = coM M w := by
  have e1 : nN M' = nN M := by unfold nN; rw [h 1 (by decide)]
  have e2 : nA M' = nA M := by funext i; unfold nA; rw [h 2 (by decide)]
  have e3 : nB M' = nB M := by funext i; unfold nB; rw [h 3 (by decide)]
  have e4 : nS M' w = nS M w := by funext i; unfold nS; rw [h (5 + w) (by omega)]
  refine ⟨e1, e2, e3, e4, ?_, ?_⟩
  · unfold tF; rw [e1, e2, e3, e4, h 7 (by decide)]
  · unfold coM; rw [e1, e2, e3, e4, h 7 (by decide)]
theorem St7_ok {M M' : x_M} (h : St7 M M') (hk : OkM M) : OkM M' := by
  obtain ⟨a1, a2, a3⟩ := hk
  have e := St7_w h (w := 0) (by decide)
  refine ⟨by rw [e.1]; exact a1, by rw [e.1, h 1 (by decide)]; exact a2, fun w hw i hi => ?_⟩
  obtain ⟨e1, e2, e3, e4, -, -⟩ := St7_w h hw
  rw [e1] at hi
  rw [e2, e3, e4, h 2 (by decide), h 3 (by decide), h (5 + w) (by omega)]
  exact a3 w hw i hi
def PoV (M : x_M) (q : Nat) (f g : Nat → Nat) : Prop := (M q 10 = -(nI 1) ∧ Cn f g) ∨ (M q 10 = nI 1 ∧ Cn f g ∧ Sat f) ∨ (M q 10 = nI 0 ∧ ¬ Sat f)
def CaV (M : x_M) (q : Nat) (f : Nat → Nat) : Prop := ∀ a b, a < 6 → b < 6 → a ≠ b → M (q + 5) (a * 6 + b) = -(nI 1) ∨ ∃ v, M (q + 5) (a * 6 + b) = nI v ∧ CanV f a b v
def CoV (M : x_M) (q c : Nat) : Prop := M q 11 = -(nI 1) ∨ (c < 2 ^ 31 ∧ M q 11 = nI c)
def FiV (M : x_M) (q : Nat) (f : Nat → Nat) : Prop := M q 12 = nI 0 ∨ (M q 12 = nI 1 ∧ ∃ s g, At M (q + 3) g ∧ FI f 15 s g ∧ ∀ e, e < 12 → M (q + 6) e = nI (rkf g e 12))
def WW (M : x_M) (q : Nat) (f : Nat → Nat) (c : Nat) : Prop := At M (q + 1) f ∧ (∃ g, At M (q + 2) g ∧ Cl f g ∧ PoV M q f g) ∧ CaV M q f ∧ CoV M q c ∧ FiV M q f
def WV (M : x_M) (q : Nat) (f : Nat → Nat) (c : Nat) : Prop := M q 9 = M 1 5 → WW M q f c
def WP (M : x_M) (q : Nat) : Prop := isWy q ∧ OkM M ∧ M q 0 = nI (wo q) ∧ WV M q (tF M (wo q)) (coM M (wo q))
def Ed (M : x_M) (q : Nat) (M' : x_M) : Prop := (∀ k, (k < 10 ∨ 25 < k) → (k < q ∨ q + 6 < k) → M' k = M k) ∧ M' q 0 = M q 0 ∧ M' q 9 = M 1 5 ∧ WW M' q (tF M (wo q)) (coM M (wo q))
theorem Ed_7 {M M' : x_M} {q : Nat} (hw : isWy q) (h : Ed M q M') : St7 M M' := fun k hk => h.1 k (by omega) (by rcases hw with rfl | rfl <;> omega)
theorem Ed_WP {M M' : x_M} {q : Nat} (hp : WP M q) (h : Ed M q M') : WP M' q := by
  obtain ⟨a1, a2, a3, a4⟩ := hp
  have h7 := Ed_7 a1 h
  obtain ⟨-, -, -, -, e5, e6⟩ := St7_w h7 (wo_lt q)
  exact ⟨a1, St7_ok h7 a2, h.2.1.trans a3, fun _ => by rw [e5, e6]; exact h.2.2.2⟩
/-- later steps that change only the way's own rows, and keep what it knows -/
theorem Ed_next {M M' M2 : x_M} {q : Nat} (hw : isWy q) (h : Ed M q M') (h1 : ∀ k, (k < 10 ∨ 25 < k) → (k < q ∨ q + 6 < k) → M2 k = M' k) (h2 : M2 q 0 = M' q 0) (h3 : M2 q 9 = M' q 9) (h4 : WW M2 q (tF M (wo q)) (coM M (wo q))) : Ed M q M2 :=
  ⟨fun k a b => (h1 k a b).trans (h.1 k a b), h2.trans h.2.1, h3.trans h.2.2.1, h4⟩
theorem WW_keep {M M2 : x_M} {q c : Nat} {f : Nat → Nat} (h : WW M q f c) (h1 : ∀ k, q ≤ k → k ≤ q + 6 → k ≠ q + 4 → M2 k = M k) : WW M2 q f c := by
  have e0 := h1 q (by omega) (by omega) (by omega)
  have e1 := h1 (q + 1) (by omega) (by omega) (by omega)
  have e2 := h1 (q + 2) (by omega) (by omega) (by omega)
  have e3 := h1 (q + 3) (by omega) (by omega) (by omega)
  have e5 := h1 (q + 5) (by omega) (by omega) (by omega)
  have e6 := h1 (q + 6) (by omega) (by omega) (by omega)
  unfold WW PoV CaV CoV FiV At
  rw [e0, e1, e2, e3, e5, e6]
  exact h
def q_X5_refresh : x_K := (1, fun as S M => ∃ (q : Nat) , WP M q ∧ S = SH ∧ as = [.inr (.inl q)], fun as S M rv_ S' M' => ∀ (q : Nat) , as = [.inr (.inl q)] → S' = S ∧ Ed M q M' ∧ rv_ = none, 0, 0)
theorem r_X5_refresh : ∀ as S M, q_X5_refresh.2.1 as S M → ∃ (k : Nat) (as' : List x_V) (fs : List (Option Nat)), as = .inr (.inl k) :: as' ∧ S[k]? = some (.inl (3, fs)) := by
  rintro as S M ⟨q, hp, rfl, rfl⟩
  exact ⟨q, _, _, rfl, SHw hp.1⟩
def b_X5_refresh : x_B := [(0, 1, [(.aload_n 0, 1), (.getfield 44, 3), (.aload_n 0, 1), (.getfield 15, 3), (.invokevirtual 107, 3), (.if_icmp .ne 4, 3), (.return_, 1)]),
  (15, 1, [(.aload_n 0, 1), (.aload_n 0, 1), (.getfield 15, 3), (.invokevirtual 107, 3), (.putfield 44, 3), (.aload_n 0, 1), (.getfield 15, 3), (.aload_n 0, 1), (.getfield 9, 3), (.aload_n 0, 1), (.getfield 15, 3), (.invokevirtual 112, 3), (.aload_n 0, 1), (.getfield 25, 3), (.invokevirtual 115, 3), (.aload_n 0, 1), (.getfield 25, 3), (.iconst 0, 1), (.aload_n 0, 1), (.getfield 29, 3), (.iconst 0, 1), (.bipush 36, 2), (.invokestatic 75, 3), (.aload_n 0, 1), (.aload_n 0, 1), (.getfield 29, 3), (.sipush 32767, 3), (.invokestatic 119, 3), (.ifCond .eq 7, 3), (.iconst (-1), 1), (.goto 4, 3)]),
  (81, 1, [(.iconst 0, 1)]),
  (82, 1, [(.putfield 50, 3), (.aload_n 0, 1), (.iconst (-1), 1), (.putfield 100, 3), (.aload_n 0, 1), (.iconst 0, 1), (.putfield 71, 3), (.aload_n 0, 1), (.getfield 38, 3), (.iconst (-1), 1), (.invokestatic 123, 3), (.return_, 1)])]
theorem b_X5_refresh_ok : x_okB cX5_refresh 1 b_X5_refresh = true := by decide +kernel
def X_X5_refresh : x_X := ([(44, 3, 9), (15, 3, 1), (9, 3, 0), (25, 3, 3), (29, 3, 4), (50, 3, 10), (100, 3, 11), (71, 3, 12), (38, 3, 7)], [], [], [], [(322, q_X4_changes), (337, q_X4_toldBits), (346, q_X4_writeNet), (225, x_qC), (357, q_X1_close), (369, q_J7_fill)], (0, 0), x_kn, x_kf, 5, false)
theorem X_X5_refresh_ok : x_okT RX5 X_X5_refresh = true := by decide +kernel
theorem k_X5_refresh (l : Launch) : ∀ z ∈ X_X5_refresh.2.2.2.2.1, x_Cal l (x_rm 4 0 0) cX5_refresh RX5 1 z.1 z.2 := List.forall_mem_cons.mpr ⟨x_cal_V (idx := 107) (ci := 2) (n := 0) (c_X4_changes l) ⟨by decide, by decide⟩ (by decide +kernel) (by decide +kernel) (by decide +kernel) (by decide +kernel) (by decide +kernel) rfl rfl rfl (by decide +kernel) r_X4_changes, List.forall_mem_cons.mpr ⟨x_cal_V (idx := 112) (ci := 2) (n := 0) (c_X4_toldBits l) ⟨by decide, by decide⟩ (by decide +kernel) (by decide +kernel) (by decide +kernel) (by decide +kernel) (by decide +kernel) rfl rfl rfl (by decide +kernel) r_X4_toldBits, List.forall_mem_cons.mpr ⟨x_cal_V (idx := 115) (ci := 2) (n := 3) (c_X4_writeNet l) ⟨by decide, by decide⟩ (by decide +kernel) (by decide +kernel) (by decide +kernel) (by decide +kernel) (by decide +kernel) rfl rfl rfl (by decide +kernel) r_X4_writeNet, List.forall_mem_cons.mpr ⟨x_cal_C (idx := 75) ⟨by decide, by decide⟩ (by decide +kernel) (by decide +kernel) (by decide +kernel) (by decide +kernel), List.forall_mem_cons.mpr ⟨x_cal_S (idx := 119) (c_X1_close l) ⟨by decide, by decide⟩ (by decide +kernel) (by decide +kernel) (by decide +kernel) (by decide +kernel) (by decide +kernel), List.forall_mem_cons.mpr ⟨x_cal_S (idx := 123) (c_J7_fill l) ⟨by decide, by decide⟩ (by decide +kernel) (by decide +kernel) (by decide +kernel) (by decide +kernel) (by decide +kernel), fun _ h => absurd h List.not_mem_nil⟩⟩⟩⟩⟩⟩
set_option maxHeartbeats 4000000 in
set_option maxRecDepth 100000 in
theorem c_X5_refresh (l : Launch) : x_CT l yX5_refresh cX5_refresh 1 none 4 q_X5_refresh := by
  refine x_meth (X := X_X5_refresh) (bl := b_X5_refresh) (cut := []) (own := RX5) 30 (by decide) rfl X_X5_refresh_ok b_X5_refresh_ok rfl (Nat.le_of_ble_eq_true rfl) (k_X5_refresh l) ?_
  rintro as S M - ⟨q, hp, rfl, rfl⟩
  obtain ⟨hw, hok, hwf0, hwv⟩ := hp
  have hsz1 : (x_row M q (upd (M q) 9 (M 1 5))) 1 4 = nI (nN M) := by rw [x_row_ne _ _ (by rcases hw with rfl | rfl <;> decide)]; exact hok.2.1
  have hst1 : Sts (x_row M q (upd (M q) 9 (M 1 5))) (wo q) (nN M) (nA M) (nB M) (nS M (wo q)) := fun i hi => by
    rw [x_row_ne _ _ (show 2 ≠ q by rcases hw with rfl | rfl <;> decide), x_row_ne _ _ (show 3 ≠ q by rcases hw with rfl | rfl <;> decide), x_row_ne _ _ (show 5 + wo q ≠ q by rcases hw with rfl | rfl <;> decide)]
    exact hok.2.2 _ (wo_lt q) i hi
  have hwf : (x_row M q (upd (M q) 9 (M 1 5))) q 0 = nI (wo q) := by rw [x_row_self]; exact hwf0
  have htb : tbf (M 7) (nN M) < 2 ^ 30 := Nat.lt_of_lt_of_le (tbf_lt _ _) (Nat.pow_le_pow_right (by decide) hok.1)
  have htF := tF_ok hok (wo_lt q)
  refine ⟨fun _ _ _ _ _ _ _ _ => False, ?_, ?_⟩
  · skip
    refine xt_blk rfl rfl (by dsimp only [List.take]) ?_
    refine xt_aln0 rfl (by first | decide | omega | assumption | (have := isWy_lt hw; omega)) ?_
    refine xt_gfi (q := (3, 9)) rfl (by first | exact SHw hw | exact SHw1 hw | exact SHw2 hw | exact SHw3 hw | exact SHw4 hw | exact SHw5 hw | exact SHw6 hw | rfl | assumption) rfl ?_
    refine xt_aln0 rfl (by first | decide | omega | assumption | (have := isWy_lt hw; omega)) ?_
    refine xt_gfr (q := (3, 1)) rfl (by first | exact SHw hw | exact SHw1 hw | exact SHw2 hw | exact SHw3 hw | exact SHw4 hw | exact SHw5 hw | exact SHw6 hw | rfl | assumption) rfl ?_
    refine xt_v1 (key := 322) (q := q_X4_changes) rfl rfl rfl rfl rfl ⟨Nat.le_of_ble_eq_true rfl, Nat.le_of_ble_eq_true rfl⟩ ⟨rfl, rfl⟩ (fun rv_ S1 M1 hq_8 => ?_)
    obtain ⟨eS_, eM_, rfl⟩ := hq_8 rfl
    replace eS_ := eS_.symm
    replace eM_ := eM_.symm
    subst eS_ eM_
    try dsimp only [Option.toList, List.cons_append, List.nil_append]
    refine xt_cne (t := 15) rfl (fun hc_11 => ?_) (fun hc_11 => ?_)
    · skip
      refine xt_blk rfl rfl (by dsimp only [List.take]) ?_
      refine xt_aln0 rfl (by first | decide | omega | assumption | (have := isWy_lt hw; omega)) ?_
      refine xt_aln0 rfl (by first | decide | omega | assumption | (have := isWy_lt hw; omega)) ?_
      refine xt_gfr (q := (3, 1)) rfl (by first | exact SHw hw | exact SHw1 hw | exact SHw2 hw | exact SHw3 hw | exact SHw4 hw | exact SHw5 hw | exact SHw6 hw | rfl | assumption) rfl ?_
      refine xt_v1 (key := 322) (q := q_X4_changes) rfl rfl rfl rfl rfl ⟨Nat.le_of_ble_eq_true rfl, Nat.le_of_ble_eq_true rfl⟩ ⟨rfl, rfl⟩ (fun rv_ S1 M1 hq_20 => ?_)
      obtain ⟨eS_, eM_, rfl⟩ := hq_20 rfl
      replace eS_ := eS_.symm
      replace eM_ := eM_.symm
      subst eS_ eM_
      try dsimp only [Option.toList, List.cons_append, List.nil_append]
      refine xt_pfi (q := (3, 9)) rfl (by first | exact SHw hw | exact SHw1 hw | exact SHw2 hw | exact SHw3 hw | exact SHw4 hw | exact SHw5 hw | exact SHw6 hw | rfl | assumption) rfl (by decide) (Or.inl rfl) ?_
      refine xt_aln0 rfl (by first | decide | omega | assumption | (have := isWy_lt hw; omega)) ?_
      refine xt_gfr (q := (3, 1)) rfl (by first | exact SHw hw | exact SHw1 hw | exact SHw2 hw | exact SHw3 hw | exact SHw4 hw | exact SHw5 hw | exact SHw6 hw | rfl | assumption) rfl ?_
      refine xt_aln0 rfl (by first | decide | omega | assumption | (have := isWy_lt hw; omega)) ?_
      refine xt_gfi (q := (3, 0)) rfl (by first | exact SHw hw | exact SHw1 hw | exact SHw2 hw | exact SHw3 hw | exact SHw4 hw | exact SHw5 hw | exact SHw6 hw | rfl | assumption) rfl ?_
      refine xt_aln0 rfl (by first | decide | omega | assumption | (have := isWy_lt hw; omega)) ?_
      refine xt_gfr (q := (3, 1)) rfl (by first | exact SHw hw | exact SHw1 hw | exact SHw2 hw | exact SHw3 hw | exact SHw4 hw | exact SHw5 hw | exact SHw6 hw | rfl | assumption) rfl ?_
      refine xt_v1 (key := 337) (q := q_X4_toldBits) rfl rfl rfl rfl rfl ⟨Nat.le_of_ble_eq_true rfl, Nat.le_of_ble_eq_true rfl⟩ ⟨rfl, ⟨nN M, hok.1, hsz1⟩, rfl⟩ (fun rv_ S1 M1 hq_38 => ?_)
      obtain ⟨eS_, eM_, rfl⟩ := hq_38 (nN M) hok.1 hsz1 rfl
      replace eS_ := eS_.symm
      replace eM_ := eM_.symm
      subst eS_ eM_
      have e7 : (x_row M q (upd (M q) 9 (M 1 5))) 7 = M 7 := x_row_ne _ _ (by rcases hw with rfl | rfl <;> decide)
      rw [e7]
      try dsimp only [Option.toList, List.cons_append, List.nil_append]
      refine xt_aln0 rfl (by first | decide | omega | assumption | (have := isWy_lt hw; omega)) ?_
      refine xt_gfr (q := (3, 3)) rfl (by first | exact SHw hw | exact SHw1 hw | exact SHw2 hw | exact SHw3 hw | exact SHw4 hw | exact SHw5 hw | exact SHw6 hw | rfl | assumption) rfl ?_
      refine xt_v4 (key := 346) (q := q_X4_writeNet) rfl rfl rfl rfl rfl ⟨Nat.le_of_ble_eq_true rfl, Nat.le_of_ble_eq_true rfl⟩ ⟨wo q, tbf (M 7) (nN M), q + 1, nN M, nA M, nB M, nS M (wo q), wo_lt q, htb, by have := isWy_lt hw; omega, rfl, SHw1 hw, hok.1, hsz1, hst1, by rw [hwf]⟩ (fun rv_ S1 M1 hq_45 => ?_)
      obtain ⟨eS_, ⟨gI, eM_, hgI⟩, rfl⟩ := hq_45 (wo q) (tbf (M 7) (nN M)) (q + 1) (nN M) (nA M) (nB M) (nS M (wo q)) (wo_lt q) htb hok.1 hsz1 hst1 (by rw [hwf])
      replace eS_ := eS_.symm
      replace eM_ := eM_.symm
      subst eS_ eM_
      replace hgI : ∀ j, j < 36 → gI j = nI (tF M (wo q) j) := hgI
      try dsimp only [Option.toList, List.cons_append, List.nil_append]
      refine xt_aln0 rfl (by first | decide | omega | assumption | (have := isWy_lt hw; omega)) ?_
      refine xt_gfr (q := (3, 3)) rfl (by first | exact SHw hw | exact SHw1 hw | exact SHw2 hw | exact SHw3 hw | exact SHw4 hw | exact SHw5 hw | exact SHw6 hw | rfl | assumption) rfl ?_
      refine xt_ic ?_
      refine xt_aln0 rfl (by first | decide | omega | assumption | (have := isWy_lt hw; omega)) ?_
      refine xt_gfr (q := (3, 4)) rfl (by first | exact SHw hw | exact SHw1 hw | exact SHw2 hw | exact SHw3 hw | exact SHw4 hw | exact SHw5 hw | exact SHw6 hw | rfl | assumption) rfl ?_
      refine xt_ic ?_
      refine xt_bi ?_
      refine xt_v5 (key := 225) (q := x_qC) rfl rfl rfl rfl rfl ⟨Nat.le_of_ble_eq_true rfl, Nat.le_of_ble_eq_true rfl⟩ ⟨q + 1, q + 2, rfl, SHw1 hw, SHw2 hw⟩ (fun rv_ S1 M1 hq_60 => ?_)
      obtain ⟨er, eS_, eM_⟩ := hq_60
      replace eS_ := eS_.symm
      subst eS_
      have eM1 := eM_ (q + 1) (q + 2) rfl
      subst er
      subst eM1
      rw [x_row_self]
      try dsimp only [Option.toList, List.cons_append, List.nil_append]
      refine xt_aln0 rfl (by first | decide | omega | assumption | (have := isWy_lt hw; omega)) ?_
      refine xt_aln0 rfl (by first | decide | omega | assumption | (have := isWy_lt hw; omega)) ?_
      refine xt_gfr (q := (3, 4)) rfl (by first | exact SHw hw | exact SHw1 hw | exact SHw2 hw | exact SHw3 hw | exact SHw4 hw | exact SHw5 hw | exact SHw6 hw | rfl | assumption) rfl ?_
      refine xt_si ?_
      refine xt_v2 (key := 357) (q := q_X1_close) rfl rfl rfl rfl rfl ⟨Nat.le_of_ble_eq_true rfl, Nat.le_of_ble_eq_true rfl⟩ ⟨q + 2, 32767, tF M (wo q), by have := isWy_lt hw; omega, by decide, SHw2 hw, (fun j hj => ⟨htF.1 j hj, by rw [x_row_self]; unfold x_cp; rw [if_pos hj]; exact hgI j hj⟩), htF.2.1, IV_all _, NE_all _, rfl⟩ (fun rv_ S1 M1 hq_71 => ?_)
      obtain ⟨eS_, gI2, eM_, hcc⟩ := hq_71 (q + 2) 32767 (tF M (wo q)) (fun j hj => ⟨htF.1 j hj, by rw [x_row_self]; unfold x_cp; rw [if_pos hj]; exact hgI j hj⟩) rfl
      replace eS_ := eS_.symm
      replace eM_ := eM_.symm
      subst eS_ eM_
      rw [x_row_row]
      have hex : ∃ v, rv_ = some (.inl v) := by rcases hcc with ⟨e, -⟩ | ⟨e, -⟩ <;> exact ⟨_, e⟩
      obtain ⟨v, rfl⟩ := hex
      try dsimp only [Option.toList, List.cons_append, List.nil_append]
      refine xt_eq (t := 81) rfl (fun hc_74 => ?_) (fun hc_74 => ?_)
      · skip
        refine xt_blk rfl rfl (by dsimp only [List.take]) ?_
        refine xt_ic ?_
        refine xt_nil (t := 82) rfl ?_
        refine xt_blk rfl rfl (by dsimp only [List.take]) ?_
        refine xt_pfi (q := (3, 10)) rfl (by first | exact SHw hw | exact SHw1 hw | exact SHw2 hw | exact SHw3 hw | exact SHw4 hw | exact SHw5 hw | exact SHw6 hw | rfl | assumption) rfl (by decide) (Or.inl rfl) ?_
        refine xt_aln0 rfl (by first | decide | omega | assumption | (have := isWy_lt hw; omega)) ?_
        refine xt_icm rfl ?_
        refine xt_pfi (q := (3, 11)) rfl (by first | exact SHw hw | exact SHw1 hw | exact SHw2 hw | exact SHw3 hw | exact SHw4 hw | exact SHw5 hw | exact SHw6 hw | rfl | assumption) rfl (by decide) (Or.inl rfl) ?_
        refine xt_aln0 rfl (by first | decide | omega | assumption | (have := isWy_lt hw; omega)) ?_
        refine xt_ic ?_
        refine xt_pfi (q := (3, 12)) rfl (by first | exact SHw hw | exact SHw1 hw | exact SHw2 hw | exact SHw3 hw | exact SHw4 hw | exact SHw5 hw | exact SHw6 hw | rfl | assumption) rfl (by decide) (Or.inr ⟨rfl, Or.inl rfl⟩) ?_
        refine xt_aln0 rfl (by first | decide | omega | assumption | (have := isWy_lt hw; omega)) ?_
        refine xt_gfr (q := (3, 7)) rfl (by first | exact SHw hw | exact SHw1 hw | exact SHw2 hw | exact SHw3 hw | exact SHw4 hw | exact SHw5 hw | exact SHw6 hw | rfl | assumption) rfl ?_
        refine xt_icm rfl ?_
        refine xt_v2 (key := 369) (q := q_J7_fill) rfl rfl rfl rfl rfl ⟨Nat.le_of_ble_eq_true rfl, Nat.le_of_ble_eq_true rfl⟩ ⟨q + 5, 36, _, by have := isWy_lt hw; omega, by decide, SHw5 hw, rfl⟩ (fun rv_ S1 M1 hq_100 => ?_)
        obtain ⟨eS_, eM_, rfl⟩ := hq_100 (q + 5) 36 _ (SHw5 hw) rfl
        replace eS_ := eS_.symm
        replace eM_ := eM_.symm
        subst eS_ eM_
        try dsimp only [Option.toList, List.cons_append, List.nil_append]
        refine xt_rv rfl (Nat.le_refl _) ?_
        intro q2 e2
        simp only [List.cons.injEq, Sum.inr.injEq, Sum.inl.injEq, and_true] at e2
        subst e2
        have hcl : ∃ g, (∀ j, j < 36 → g j < 8192 ∧ gI2 j = nI (g j)) ∧ Cl (tF M (wo q)) g ∧ ¬ Sat (tF M (wo q)) := by
          rcases hcc with ⟨e, -⟩ | ⟨-, z, F⟩
          · cases e; exact absurd hc_74 (by decide)
          · exact ⟨fun _ => 0, fun j hj => ⟨show (0 : Nat) < 8192 by decide, z j hj⟩, Or.inr ⟨F, fun _ _ => rfl⟩, Sat_fail F⟩
        obtain ⟨g, hg1, hg2, hg3⟩ := hcl
        refine ⟨rfl, ⟨fun k k1 k2 => ?_, ?_, ?_, ?_, ⟨g, ?_, hg2, ?_⟩, ?_, ?_, ?_⟩, rfl⟩
        · repeat rw [x_row_ne _ _ (by omega)]
        · rcases hw with rfl | rfl <;> simp [x_row, upd]
        · rcases hw with rfl | rfl <;> simp [x_row, upd]
        · intro j hj
          refine ⟨htF.1 j hj, ?_⟩
          rw [← hgI j hj]
          rcases hw with rfl | rfl <;> simp [x_row, upd]
        · intro j hj
          refine ⟨(hg1 j hj).1, ?_⟩
          rw [← (hg1 j hj).2]
          rcases hw with rfl | rfl <;> simp [x_row, upd]
        · exact Or.inr (Or.inr ⟨by rcases hw with rfl | rfl <;> simp [x_row, upd], hg3⟩)
        · intro a b ha hb hab
          left
          rw [x_row_self]
          unfold x_cp
          rw [if_pos (by omega)]
        · left
          rcases hw with rfl | rfl <;> simp [x_row, upd]
        · left
          rcases hw with rfl | rfl <;> simp [x_row, upd]
      · skip
        refine xt_icm rfl ?_
        refine xt_goto (t := 82) rfl ?_
        refine xt_blk rfl rfl (by dsimp only [List.take]) ?_
        refine xt_pfi (q := (3, 10)) rfl (by first | exact SHw hw | exact SHw1 hw | exact SHw2 hw | exact SHw3 hw | exact SHw4 hw | exact SHw5 hw | exact SHw6 hw | rfl | assumption) rfl (by decide) (Or.inl rfl) ?_
        refine xt_aln0 rfl (by first | decide | omega | assumption | (have := isWy_lt hw; omega)) ?_
        refine xt_icm rfl ?_
        refine xt_pfi (q := (3, 11)) rfl (by first | exact SHw hw | exact SHw1 hw | exact SHw2 hw | exact SHw3 hw | exact SHw4 hw | exact SHw5 hw | exact SHw6 hw | rfl | assumption) rfl (by decide) (Or.inl rfl) ?_
        refine xt_aln0 rfl (by first | decide | omega | assumption | (have := isWy_lt hw; omega)) ?_
        refine xt_ic ?_
        refine xt_pfi (q := (3, 12)) rfl (by first | exact SHw hw | exact SHw1 hw | exact SHw2 hw | exact SHw3 hw | exact SHw4 hw | exact SHw5 hw | exact SHw6 hw | rfl | assumption) rfl (by decide) (Or.inr ⟨rfl, Or.inl rfl⟩) ?_
        refine xt_aln0 rfl (by first | decide | omega | assumption | (have := isWy_lt hw; omega)) ?_
        refine xt_gfr (q := (3, 7)) rfl (by first | exact SHw hw | exact SHw1 hw | exact SHw2 hw | exact SHw3 hw | exact SHw4 hw | exact SHw5 hw | exact SHw6 hw | rfl | assumption) rfl ?_
        refine xt_icm rfl ?_
        refine xt_v2 (key := 369) (q := q_J7_fill) rfl rfl rfl rfl rfl ⟨Nat.le_of_ble_eq_true rfl, Nat.le_of_ble_eq_true rfl⟩ ⟨q + 5, 36, _, by have := isWy_lt hw; omega, by decide, SHw5 hw, rfl⟩ (fun rv_ S1 M1 hq_100 => ?_)
        obtain ⟨eS_, eM_, rfl⟩ := hq_100 (q + 5) 36 _ (SHw5 hw) rfl
        replace eS_ := eS_.symm
        replace eM_ := eM_.symm
        subst eS_ eM_
        try dsimp only [Option.toList, List.cons_append, List.nil_append]
        refine xt_rv rfl (Nat.le_refl _) ?_
        intro q2 e2
        simp only [List.cons.injEq, Sum.inr.injEq, Sum.inl.injEq, and_true] at e2
        subst e2
        have hcl : ∃ g, (∀ j, j < 36 → g j < 8192 ∧ gI2 j = nI (g j)) ∧ Cl (tF M (wo q)) g ∧ Cn (tF M (wo q)) g := by
          rcases hcc with ⟨-, g, z1, z2, z3, z4, z5, z6⟩ | ⟨e, -⟩
          · exact ⟨g, fun j hj => ⟨z1 j hj, z2 j hj⟩, Or.inl ⟨z1, z3, z4, z5, z6⟩, ⟨z1, z3, z4, z5, z6⟩⟩
          · cases e; exact absurd rfl hc_74
        obtain ⟨g, hg1, hg2, hg3⟩ := hcl
        refine ⟨rfl, ⟨fun k k1 k2 => ?_, ?_, ?_, ?_, ⟨g, ?_, hg2, ?_⟩, ?_, ?_, ?_⟩, rfl⟩
        · repeat rw [x_row_ne _ _ (by omega)]
        · rcases hw with rfl | rfl <;> simp [x_row, upd]
        · rcases hw with rfl | rfl <;> simp [x_row, upd]
        · intro j hj
          refine ⟨htF.1 j hj, ?_⟩
          rw [← hgI j hj]
          rcases hw with rfl | rfl <;> simp [x_row, upd]
        · intro j hj
          refine ⟨(hg1 j hj).1, ?_⟩
          rw [← (hg1 j hj).2]
          rcases hw with rfl | rfl <;> simp [x_row, upd]
        · exact Or.inl ⟨by rcases hw with rfl | rfl <;> simp [x_row, upd], hg3⟩
        · intro a b ha hb hab
          left
          rw [x_row_self]
          unfold x_cp
          rw [if_pos (by omega)]
        · left
          rcases hw with rfl | rfl <;> simp [x_row, upd]
        · left
          rcases hw with rfl | rfl <;> simp [x_row, upd]
    · skip
      refine xt_rv rfl (Nat.le_refl _) ?_
      intro q2 e2
      simp only [List.cons.injEq, Sum.inr.injEq, Sum.inl.injEq, and_true] at e2
      subst e2
      exact ⟨rfl, ⟨fun _ _ _ => rfl, rfl, hc_11, hwv hc_11⟩, rfl⟩
  · intro μ pc ls st S2 M2 cs sl h; exact h.elim
def q_X5_toldSet : x_K := (3, fun as S M => ∃ (q : Nat) (a : Nat) (b : Nat), WP M q ∧ S = SH ∧ a < 6 ∧ b < 6 ∧ as = [.inr (.inl q), .inl (nI a), .inl (nI b)], fun as S M rv_ S' M' => ∀ (q : Nat) (a : Nat) (b : Nat), a < 6 → b < 6 → as = [.inr (.inl q), .inl (nI a), .inl (nI b)] → S' = S ∧ Ed M q M' ∧ rv_ = some (.inl (nI (tF M (wo q) (a * 6 + b)))), 0, 0)
theorem r_X5_toldSet : ∀ as S M, q_X5_toldSet.2.1 as S M → ∃ (k : Nat) (as' : List x_V) (fs : List (Option Nat)), as = .inr (.inl k) :: as' ∧ S[k]? = some (.inl (3, fs)) := by
  rintro as S M ⟨q, a, b, hp, rfl, -, -, rfl⟩
  exact ⟨q, _, _, rfl, SHw hp.1⟩
def b_X5_toldSet : x_B := [(0, 3, [(.aload_n 0, 1), (.invokevirtual 47, 3), (.aload_n 0, 1), (.getfield 25, 3), (.iload_n 1, 1), (.bipush 6, 2), (.imul, 1), (.iload_n 2, 1), (.iadd, 1), (.iaload, 1), (.ireturn, 1)])]
theorem b_X5_toldSet_ok : x_okB cX5_toldSet 3 b_X5_toldSet = true := by decide +kernel
def X_X5_toldSet : x_X := ([(25, 3, 3)], [], [], [], [(142, q_X5_refresh)], (0, 0), x_kn, x_kf, 5, false)
theorem X_X5_toldSet_ok : x_okT RX5 X_X5_toldSet = true := by decide +kernel
theorem k_X5_toldSet (l : Launch) : ∀ z ∈ X_X5_toldSet.2.2.2.2.1, x_Cal l (x_rm 5 0 0) cX5_toldSet RX5 3 z.1 z.2 := List.forall_mem_cons.mpr ⟨x_cal_V (idx := 47) (ci := 3) (n := 0) (c_X5_refresh l) ⟨by decide, by decide⟩ (by decide +kernel) (by decide +kernel) (by decide +kernel) (by decide +kernel) (by decide +kernel) rfl rfl rfl (by decide +kernel) r_X5_refresh, fun _ h => absurd h List.not_mem_nil⟩
set_option maxHeartbeats 4000000 in
set_option maxRecDepth 100000 in
theorem c_X5_toldSet (l : Launch) : x_CT l yX5_toldSet cX5_toldSet 3 (some .int) 5 q_X5_toldSet := by
  refine x_meth (X := X_X5_toldSet) (bl := b_X5_toldSet) (cut := []) (own := RX5) 30 (by decide) rfl X_X5_toldSet_ok b_X5_toldSet_ok rfl (Nat.le_of_ble_eq_true rfl) (k_X5_toldSet l) ?_
  rintro as S M - ⟨q, a, b, hp, rfl, ha, hb, rfl⟩
  have hw := hp.1
  refine ⟨fun _ _ _ _ _ _ _ _ => False, ?_, ?_⟩
  · skip
    refine xt_blk rfl rfl (by dsimp only [List.take]) ?_
    refine xt_aln0 rfl (by first | decide | omega | assumption | (have := isWy_lt hw; omega)) ?_
    refine xt_v1 (key := 142) (q := q_X5_refresh) rfl rfl rfl rfl rfl ⟨Nat.le_of_ble_eq_true rfl, Nat.le_of_ble_eq_true rfl⟩ ⟨q, hp, rfl, rfl⟩ (fun rv_ S1 M1 hq_1 => ?_)
    obtain ⟨eS_, hEd, rfl⟩ := hq_1 q rfl
    replace eS_ := eS_.symm
    subst eS_
    try dsimp only [Option.toList, List.cons_append, List.nil_append]
    refine xt_aln0 rfl (by first | decide | omega | assumption | (have := isWy_lt hw; omega)) ?_
    refine xt_gfr (q := (3, 3)) rfl (by first | exact SHw hw | exact SHw1 hw | exact SHw2 hw | exact SHw3 hw | exact SHw4 hw | exact SHw5 hw | exact SHw6 hw | rfl | assumption) rfl ?_
    refine xt_iln1 rfl ?_
    refine xt_bi ?_
    refine xt_mul ?_
    refine xt_iln2 rfl ?_
    refine xt_add ?_
    refine xt_ial (by first | exact SHw hw | exact SHw1 hw | exact SHw2 hw | exact SHw3 hw | exact SHw4 hw | exact SHw5 hw | exact SHw6 hw | rfl | assumption) (n_ixi ha hb) ?_
    refine xt_ri rfl (Nat.le_refl _) ?_
    intro q2 a2 b2 h2a h2b e2
    simp only [List.cons.injEq, Sum.inr.injEq, Sum.inl.injEq, and_true] at e2
    obtain ⟨rfl, ea, eb⟩ := e2
    rw [nI_eq (by omega) (by omega)] at ea eb
    subst ea eb
    exact ⟨rfl, hEd, by rw [n_ixc ha hb, (hEd.2.2.2.1 _ (by omega)).2]⟩
  · intro μ pc ls st S2 M2 cs sl h; exact h.elim
def q_X5_closedSet : x_K := (3, fun as S M => ∃ (q : Nat) (a : Nat) (b : Nat), WP M q ∧ S = SH ∧ a < 6 ∧ b < 6 ∧ as = [.inr (.inl q), .inl (nI a), .inl (nI b)], fun as S M rv_ S' M' => ∀ (q : Nat) (a : Nat) (b : Nat), a < 6 → b < 6 → as = [.inr (.inl q), .inl (nI a), .inl (nI b)] → S' = S ∧ Ed M q M' ∧ ∃ g, Bd g ∧ Cl (tF M (wo q)) g ∧ rv_ = some (.inl (nI (g (a * 6 + b)))), 0, 0)
theorem r_X5_closedSet : ∀ as S M, q_X5_closedSet.2.1 as S M → ∃ (k : Nat) (as' : List x_V) (fs : List (Option Nat)), as = .inr (.inl k) :: as' ∧ S[k]? = some (.inl (3, fs)) := by
  rintro as S M ⟨q, a, b, hp, rfl, -, -, rfl⟩
  exact ⟨q, _, _, rfl, SHw hp.1⟩
def b_X5_closedSet : x_B := [(0, 3, [(.aload_n 0, 1), (.invokevirtual 47, 3), (.aload_n 0, 1), (.getfield 29, 3), (.iload_n 1, 1), (.bipush 6, 2), (.imul, 1), (.iload_n 2, 1), (.iadd, 1), (.iaload, 1), (.ireturn, 1)])]
theorem b_X5_closedSet_ok : x_okB cX5_closedSet 3 b_X5_closedSet = true := by decide +kernel
def X_X5_closedSet : x_X := ([(29, 3, 4)], [], [], [], [(142, q_X5_refresh)], (0, 0), x_kn, x_kf, 5, false)
theorem X_X5_closedSet_ok : x_okT RX5 X_X5_closedSet = true := by decide +kernel
theorem k_X5_closedSet (l : Launch) : ∀ z ∈ X_X5_closedSet.2.2.2.2.1, x_Cal l (x_rm 5 0 0) cX5_closedSet RX5 3 z.1 z.2 := List.forall_mem_cons.mpr ⟨x_cal_V (idx := 47) (ci := 3) (n := 0) (c_X5_refresh l) ⟨by decide, by decide⟩ (by decide +kernel) (by decide +kernel) (by decide +kernel) (by decide +kernel) (by decide +kernel) rfl rfl rfl (by decide +kernel) r_X5_refresh, fun _ h => absurd h List.not_mem_nil⟩
set_option maxHeartbeats 4000000 in
set_option maxRecDepth 100000 in
theorem c_X5_closedSet (l : Launch) : x_CT l yX5_closedSet cX5_closedSet 3 (some .int) 5 q_X5_closedSet := by
  refine x_meth (X := X_X5_closedSet) (bl := b_X5_closedSet) (cut := []) (own := RX5) 30 (by decide) rfl X_X5_closedSet_ok b_X5_closedSet_ok rfl (Nat.le_of_ble_eq_true rfl) (k_X5_closedSet l) ?_
  rintro as S M - ⟨q, a, b, hp, rfl, ha, hb, rfl⟩
  have hw := hp.1
  refine ⟨fun _ _ _ _ _ _ _ _ => False, ?_, ?_⟩
  · skip
    refine xt_blk rfl rfl (by dsimp only [List.take]) ?_
    refine xt_aln0 rfl (by first | decide | omega | assumption | (have := isWy_lt hw; omega)) ?_
    refine xt_v1 (key := 142) (q := q_X5_refresh) rfl rfl rfl rfl rfl ⟨Nat.le_of_ble_eq_true rfl, Nat.le_of_ble_eq_true rfl⟩ ⟨q, hp, rfl, rfl⟩ (fun rv_ S1 M1 hq_1 => ?_)
    obtain ⟨eS_, hEd, rfl⟩ := hq_1 q rfl
    replace eS_ := eS_.symm
    subst eS_
    try dsimp only [Option.toList, List.cons_append, List.nil_append]
    refine xt_aln0 rfl (by first | decide | omega | assumption | (have := isWy_lt hw; omega)) ?_
    refine xt_gfr (q := (3, 4)) rfl (by first | exact SHw hw | exact SHw1 hw | exact SHw2 hw | exact SHw3 hw | exact SHw4 hw | exact SHw5 hw | exact SHw6 hw | rfl | assumption) rfl ?_
    refine xt_iln1 rfl ?_
    refine xt_bi ?_
    refine xt_mul ?_
    refine xt_iln2 rfl ?_
    refine xt_add ?_
    refine xt_ial (by first | exact SHw hw | exact SHw1 hw | exact SHw2 hw | exact SHw3 hw | exact SHw4 hw | exact SHw5 hw | exact SHw6 hw | rfl | assumption) (n_ixi ha hb) ?_
    refine xt_ri rfl (Nat.le_refl _) ?_
    intro q2 a2 b2 h2a h2b e2
    simp only [List.cons.injEq, Sum.inr.injEq, Sum.inl.injEq, and_true] at e2
    obtain ⟨rfl, ea, eb⟩ := e2
    rw [nI_eq (by omega) (by omega)] at ea eb
    subst ea eb
    obtain ⟨g, g1, g2, -⟩ := hEd.2.2.2.2.1
    exact ⟨rfl, hEd, g, fun j hj => (g1 j hj).1, g2, by rw [n_ixc ha hb, (g1 _ (by omega)).2]⟩
  · intro μ pc ls st S2 M2 cs sl h; exact h.elim
end
section
/-! WAY: isPossible, canSet -/
theorem Ed_lev {M M' M2 : x_M} {q : Nat} (hw : isWy q) (h : Ed M q M') (h1 : ∀ j, j < 10 ∨ 25 < j → M2 j = M' j) : Ed M q M2 := by
  have hq : ∀ k, q ≤ k → M2 k = M' k := fun k hk => h1 k (by rcases hw with rfl | rfl <;> omega)
  exact Ed_next hw h (fun k a _ => h1 k a) (by rw [hq q (by omega)]) (by rw [hq q (by omega)]) (WW_keep h.2.2.2 (fun k a _ _ => hq k a))
theorem Ed_cn {M M' : x_M} {q : Nat} (h : Ed M q M') (h1 : M' q 10 = nI 1 ∨ M' q 10 = -(nI 1)) : ∃ g, At M' (q + 2) g ∧ Cn (tF M (wo q)) g := by
  obtain ⟨g, g1, -, hp⟩ := h.2.2.2.2.1
  rcases hp with ⟨-, c⟩ | ⟨-, c, -⟩ | ⟨e, -⟩
  · exact ⟨g, g1, c⟩
  · exact ⟨g, g1, c⟩
  · rw [e] at h1
    rcases h1 with h1 | h1 <;> exact absurd h1 (by decide)
theorem x_row_c (M : x_M) (k : Nat) (f : Nat → Int32) (a b : Nat) : x_row M k f a b = if a = k then f b else M a b := by unfold x_row; split <;> rfl
def q_X5_isPossible : x_K := (1, fun as S M => ∃ (q : Nat) , WP M q ∧ S = SH ∧ as = [.inr (.inl q)], fun as S M rv_ S' M' => ∀ (q : Nat) , as = [.inr (.inl q)] → S' = S ∧ Ed M q M' ∧ ((rv_ = some (.inl (nI 1)) ∧ Sat (tF M (wo q)) ∧ M' q 10 = nI 1) ∨ (rv_ = some (.inl (nI 0)) ∧ ¬ Sat (tF M (wo q)))), 0, 0)
theorem r_X5_isPossible : ∀ as S M, q_X5_isPossible.2.1 as S M → ∃ (k : Nat) (as' : List x_V) (fs : List (Option Nat)), as = .inr (.inl k) :: as' ∧ S[k]? = some (.inl (3, fs)) := by
  rintro as S M ⟨q, hp, rfl, rfl⟩
  exact ⟨q, _, _, rfl, SHw hp.1⟩
def b_X5_isPossible : x_B := [(0, 1, [(.aload_n 0, 1), (.invokevirtual 47, 3), (.aload_n 0, 1), (.getfield 50, 3), (.iconst (-1), 1), (.if_icmp .ne 26, 3), (.aload_n 0, 1), (.aload_n 0, 1), (.getfield 19, 3), (.aload_n 0, 1), (.getfield 29, 3), (.invokevirtual 53, 3), (.ifCond .eq 7, 3), (.iconst 1, 1), (.goto 4, 3)]),
  (31, 1, [(.iconst 0, 1)]),
  (32, 1, [(.putfield 50, 3)]),
  (35, 1, [(.aload_n 0, 1), (.getfield 50, 3), (.iconst 1, 1), (.if_icmp .ne 7, 3), (.iconst 1, 1), (.goto 4, 3)]),
  (47, 1, [(.iconst 0, 1)]),
  (48, 1, [(.ireturn, 1)])]
theorem b_X5_isPossible_ok : x_okB cX5_isPossible 1 b_X5_isPossible = true := by decide +kernel
def X_X5_isPossible : x_X := ([(50, 3, 10), (19, 3, 2), (29, 3, 4)], [], [], [], [(142, q_X5_refresh), (160, q_X3_canHold)], (0, 0), x_kn, x_kf, 5, false)
theorem X_X5_isPossible_ok : x_okT RX5 X_X5_isPossible = true := by decide +kernel
theorem k_X5_isPossible (l : Launch) : ∀ z ∈ X_X5_isPossible.2.2.2.2.1, x_Cal l (x_rm 21 0 0) cX5_isPossible RX5 1 z.1 z.2 := List.forall_mem_cons.mpr ⟨x_cal_V (idx := 47) (ci := 3) (n := 0) (c_X5_refresh l) ⟨by decide, by decide⟩ (by decide +kernel) (by decide +kernel) (by decide +kernel) (by decide +kernel) (by decide +kernel) rfl rfl rfl (by decide +kernel) r_X5_refresh, List.forall_mem_cons.mpr ⟨x_cal_V (idx := 53) (ci := 1) (n := 1) (c_X3_canHold l) ⟨by decide, by decide⟩ (by decide +kernel) (by decide +kernel) (by decide +kernel) (by decide +kernel) (by decide +kernel) rfl rfl rfl (by decide +kernel) r_X3_canHold, fun _ h => absurd h List.not_mem_nil⟩⟩
set_option maxHeartbeats 4000000 in
set_option maxRecDepth 100000 in
theorem c_X5_isPossible (l : Launch) : x_CT l yX5_isPossible cX5_isPossible 1 (some .boolean) 21 q_X5_isPossible := by
  refine x_meth (X := X_X5_isPossible) (bl := b_X5_isPossible) (cut := []) (own := RX5) 30 (by decide) rfl X_X5_isPossible_ok b_X5_isPossible_ok rfl (Nat.le_of_ble_eq_true rfl) (k_X5_isPossible l) ?_
  rintro as S M - ⟨q, hp, rfl, rfl⟩
  have hw := hp.1
  refine ⟨fun _ _ _ _ _ _ _ _ => False, ?_, ?_⟩
  · skip
    refine xt_blk rfl rfl (by dsimp only [List.take]) ?_
    refine xt_aln0 rfl (by first | decide | omega | assumption | (have := isWy_lt hw; omega)) ?_
    refine xt_v1 (key := 142) (q := q_X5_refresh) rfl rfl rfl rfl rfl ⟨Nat.le_of_ble_eq_true rfl, Nat.le_of_ble_eq_true rfl⟩ ⟨q, hp, rfl, rfl⟩ (fun rv_ S1 M1 hq_1 => ?_)
    obtain ⟨eS_, hEd, rfl⟩ := hq_1 q rfl
    replace eS_ := eS_.symm
    subst eS_
    try dsimp only [Option.toList, List.cons_append, List.nil_append]
    refine xt_aln0 rfl (by first | decide | omega | assumption | (have := isWy_lt hw; omega)) ?_
    refine xt_gfi (q := (3, 10)) rfl (by first | exact SHw hw | exact SHw1 hw | exact SHw2 hw | exact SHw3 hw | exact SHw4 hw | exact SHw5 hw | exact SHw6 hw | rfl | assumption) rfl ?_
    refine xt_icm rfl ?_
    refine xt_cne (t := 35) rfl (fun hc_9 => ?_) (fun hc_9 => ?_)
    · skip
      refine xt_blk rfl rfl (by dsimp only [List.take]) ?_
      refine xt_aln0 rfl (by first | decide | omega | assumption | (have := isWy_lt hw; omega)) ?_
      refine xt_gfi (q := (3, 10)) rfl (by first | exact SHw hw | exact SHw1 hw | exact SHw2 hw | exact SHw3 hw | exact SHw4 hw | exact SHw5 hw | exact SHw6 hw | rfl | assumption) rfl ?_
      refine xt_ic ?_
      refine xt_cne (t := 47) rfl (fun hc_40 => ?_) (fun hc_40 => ?_)
      · skip
        refine xt_blk rfl rfl (by dsimp only [List.take]) ?_
        refine xt_ic ?_
        refine xt_nil (t := 48) rfl ?_
        refine xt_blk rfl rfl (by dsimp only [List.take]) ?_
        refine xt_rz (by decide) rfl (Nat.le_refl _) ?_
        intro q2 e2
        simp only [List.cons.injEq, Sum.inr.injEq, Sum.inl.injEq, and_true] at e2
        subst e2
        obtain ⟨g, g1, g2, hpo⟩ := hEd.2.2.2.2.1
        rcases hpo with ⟨e, -⟩ | ⟨e, -, hs⟩ | ⟨e, hn⟩
        · exact absurd e hc_9
        · exact absurd e hc_40
        · exact ⟨rfl, hEd, Or.inr ⟨rfl, hn⟩⟩
      · skip
        refine xt_ic ?_
        refine xt_goto (t := 48) rfl ?_
        refine xt_blk rfl rfl (by dsimp only [List.take]) ?_
        refine xt_rz (by decide) rfl (Nat.le_refl _) ?_
        intro q2 e2
        simp only [List.cons.injEq, Sum.inr.injEq, Sum.inl.injEq, and_true] at e2
        subst e2
        obtain ⟨g, g1, g2, hpo⟩ := hEd.2.2.2.2.1
        rcases hpo with ⟨e, -⟩ | ⟨e, -, hs⟩ | ⟨e, hn⟩
        · exact absurd e hc_9
        · exact ⟨rfl, hEd, Or.inl ⟨rfl, hs, e⟩⟩
        · rw [e] at hc_40; exact absurd hc_40 (by decide)
    · skip
      obtain ⟨g, hg1, hcn⟩ := Ed_cn hEd (Or.inr hc_9)
      refine xt_aln0 rfl (by first | decide | omega | assumption | (have := isWy_lt hw; omega)) ?_
      refine xt_aln0 rfl (by first | decide | omega | assumption | (have := isWy_lt hw; omega)) ?_
      refine xt_gfr (q := (3, 2)) rfl (by first | exact SHw hw | exact SHw1 hw | exact SHw2 hw | exact SHw3 hw | exact SHw4 hw | exact SHw5 hw | exact SHw6 hw | rfl | assumption) rfl ?_
      refine xt_aln0 rfl (by first | decide | omega | assumption | (have := isWy_lt hw; omega)) ?_
      refine xt_gfr (q := (3, 4)) rfl (by first | exact SHw hw | exact SHw1 hw | exact SHw2 hw | exact SHw3 hw | exact SHw4 hw | exact SHw5 hw | exact SHw6 hw | rfl | assumption) rfl ?_
      refine xt_v2 (key := 160) (q := q_X3_canHold) rfl rfl rfl rfl rfl ⟨Nat.le_of_ble_eq_true rfl, Nat.le_of_ble_eq_true rfl⟩ ⟨q + 2, g, by have := isWy_lt hw; omega, rfl, SHw2 hw, hg1, hcn.2.1, hcn.2.2.1, hcn.2.2.2.1, rfl⟩ (fun rv_ S1 M1 hq_21 => ?_)
      obtain ⟨eS_, hfr, hss⟩ := hq_21 (q + 2) g hg1 rfl
      replace eS_ := eS_.symm
      subst eS_
      have hEd2 := Ed_lev hw hEd hfr
      have hex : ∃ v, rv_ = some (.inl v) := by rcases hss with ⟨e, -⟩ | ⟨e, -⟩ <;> exact ⟨_, e⟩
      obtain ⟨v, rfl⟩ := hex
      try dsimp only [Option.toList, List.cons_append, List.nil_append]
      refine xt_eq (t := 31) rfl (fun hc_24 => ?_) (fun hc_24 => ?_)
      · skip
        refine xt_blk rfl rfl (by dsimp only [List.take]) ?_
        refine xt_ic ?_
        refine xt_nil (t := 32) rfl ?_
        refine xt_blk rfl rfl (by dsimp only [List.take]) ?_
        refine xt_pfi (q := (3, 10)) rfl (by first | exact SHw hw | exact SHw1 hw | exact SHw2 hw | exact SHw3 hw | exact SHw4 hw | exact SHw5 hw | exact SHw6 hw | rfl | assumption) rfl (by decide) (Or.inl rfl) ?_
        refine xt_nil (t := 35) rfl ?_
        refine xt_blk rfl rfl (by dsimp only [List.take]) ?_
        refine xt_aln0 rfl (by first | decide | omega | assumption | (have := isWy_lt hw; omega)) ?_
        refine xt_gfi (q := (3, 10)) rfl (by first | exact SHw hw | exact SHw1 hw | exact SHw2 hw | exact SHw3 hw | exact SHw4 hw | exact SHw5 hw | exact SHw6 hw | rfl | assumption) rfl ?_
        refine xt_ic ?_
        refine xt_cne (t := 47) rfl (fun hc_40 => ?_) (fun hc_40 => ?_)
        · skip
          refine xt_blk rfl rfl (by dsimp only [List.take]) ?_
          refine xt_ic ?_
          refine xt_nil (t := 48) rfl ?_
          refine xt_blk rfl rfl (by dsimp only [List.take]) ?_
          refine xt_rz (by decide) rfl (Nat.le_refl _) ?_
          intro q2 e2
          simp only [List.cons.injEq, Sum.inr.injEq, Sum.inl.injEq, and_true] at e2
          subst e2
          have hsat : ¬ Sat (tF M (wo q)) := by
            rcases hss with ⟨e, -⟩ | ⟨-, z⟩
            · cases e; exact absurd hc_24 (by decide)
            · exact fun y => z ((Cn_sat hcn).mp y)
          obtain ⟨w1, ⟨g', g1', g2', -⟩, w3, w4, w5⟩ := hEd2.2.2.2
          refine ⟨rfl, Ed_next hw hEd2 (fun k a b => x_row_ne _ _ (by omega)) (by simp [x_row_c, upd]) (by simp [x_row_c, upd]) ⟨?_, ⟨g, ?_, Or.inl hcn, Or.inr (Or.inr ⟨by simp [x_row_c, upd], hsat⟩)⟩, ?_, ?_, ?_⟩, Or.inr ⟨rfl, hsat⟩⟩
          · intro j hj; rw [x_row_ne _ _ (by omega)]; exact w1 j hj
          · intro j hj; rw [x_row_ne _ _ (by omega), hfr (q + 2) (by rcases hw with rfl | rfl <;> omega)]; exact hg1 j hj
          · intro x y hx hy hxy; rw [x_row_ne _ _ (by omega)]; exact w3 x y hx hy hxy
          · unfold CoV at w4 ⊢; rw [x_row_self]; simpa [upd] using w4
          · unfold FiV At at w5 ⊢; rw [x_row_self, x_row_ne _ _ (show q + 3 ≠ q by omega), x_row_ne _ _ (show q + 6 ≠ q by omega)]; simpa [upd] using w5
        · skip
          refine xt_ic ?_
          refine xt_goto (t := 48) rfl ?_
          refine xt_blk rfl rfl (by dsimp only [List.take]) ?_
          refine xt_rz (by decide) rfl (Nat.le_refl _) ?_
          rw [x_row_self] at hc_40
          exact absurd hc_40 (by simp only [upd, if_pos]; decide)
      · skip
        refine xt_ic ?_
        refine xt_goto (t := 32) rfl ?_
        refine xt_blk rfl rfl (by dsimp only [List.take]) ?_
        refine xt_pfi (q := (3, 10)) rfl (by first | exact SHw hw | exact SHw1 hw | exact SHw2 hw | exact SHw3 hw | exact SHw4 hw | exact SHw5 hw | exact SHw6 hw | rfl | assumption) rfl (by decide) (Or.inl rfl) ?_
        refine xt_nil (t := 35) rfl ?_
        refine xt_blk rfl rfl (by dsimp only [List.take]) ?_
        refine xt_aln0 rfl (by first | decide | omega | assumption | (have := isWy_lt hw; omega)) ?_
        refine xt_gfi (q := (3, 10)) rfl (by first | exact SHw hw | exact SHw1 hw | exact SHw2 hw | exact SHw3 hw | exact SHw4 hw | exact SHw5 hw | exact SHw6 hw | rfl | assumption) rfl ?_
        refine xt_ic ?_
        refine xt_cne (t := 47) rfl (fun hc_40 => ?_) (fun hc_40 => ?_)
        · skip
          refine xt_blk rfl rfl (by dsimp only [List.take]) ?_
          refine xt_ic ?_
          refine xt_nil (t := 48) rfl ?_
          refine xt_blk rfl rfl (by dsimp only [List.take]) ?_
          refine xt_rz (by decide) rfl (Nat.le_refl _) ?_
          rw [x_row_self] at hc_40
          exact absurd hc_40 (by simp [upd])
        · skip
          refine xt_ic ?_
          refine xt_goto (t := 48) rfl ?_
          refine xt_blk rfl rfl (by dsimp only [List.take]) ?_
          refine xt_rz (by decide) rfl (Nat.le_refl _) ?_
          intro q2 e2
          simp only [List.cons.injEq, Sum.inr.injEq, Sum.inl.injEq, and_true] at e2
          subst e2
          have hsat : Sat (tF M (wo q)) := by
            rcases hss with ⟨-, z⟩ | ⟨e, -⟩
            · exact (Cn_sat hcn).mpr z
            · cases e; exact absurd rfl hc_24
          obtain ⟨w1, ⟨g', g1', g2', -⟩, w3, w4, w5⟩ := hEd2.2.2.2
          refine ⟨rfl, Ed_next hw hEd2 (fun k a b => x_row_ne _ _ (by omega)) (by simp [x_row_c, upd]) (by simp [x_row_c, upd]) ⟨?_, ⟨g, ?_, Or.inl hcn, Or.inr (Or.inl ⟨by simp [x_row_c, upd], hcn, hsat⟩)⟩, ?_, ?_, ?_⟩, Or.inl ⟨rfl, hsat, by simp [x_row_c, upd]⟩⟩
          · intro j hj; rw [x_row_ne _ _ (by omega)]; exact w1 j hj
          · intro j hj; rw [x_row_ne _ _ (by omega), hfr (q + 2) (by rcases hw with rfl | rfl <;> omega)]; exact hg1 j hj
          · intro x y hx hy hxy; rw [x_row_ne _ _ (by omega)]; exact w3 x y hx hy hxy
          · unfold CoV at w4 ⊢; rw [x_row_self]; simpa [upd] using w4
          · unfold FiV At at w5 ⊢; rw [x_row_self, x_row_ne _ _ (show q + 3 ≠ q by omega), x_row_ne _ _ (show q + 6 ≠ q by omega)]; simpa [upd] using w5
  · intro μ pc ls st S2 M2 cs sl h; exact h.elim
def q_X5_canSet : x_K := (3, fun as S M => ∃ (q : Nat) (a : Nat) (b : Nat), WP M q ∧ S = SH ∧ a < 6 ∧ b < 6 ∧ a ≠ b ∧ as = [.inr (.inl q), .inl (nI a), .inl (nI b)], fun as S M rv_ S' M' => ∀ (q : Nat) (a : Nat) (b : Nat), a < 6 → b < 6 → a ≠ b → as = [.inr (.inl q), .inl (nI a), .inl (nI b)] → S' = S ∧ Ed M q M' ∧ ∃ v, CanV (tF M (wo q)) a b v ∧ rv_ = some (.inl (nI v)), 0, 0)
theorem r_X5_canSet : ∀ as S M, q_X5_canSet.2.1 as S M → ∃ (k : Nat) (as' : List x_V) (fs : List (Option Nat)), as = .inr (.inl k) :: as' ∧ S[k]? = some (.inl (3, fs)) := by
  rintro as S M ⟨q, a, b, hp, rfl, -, -, -, rfl⟩
  exact ⟨q, _, _, rfl, SHw hp.1⟩
def b_X5_canSet : x_B := [(0, 3, [(.aload_n 0, 1), (.invokevirtual 59, 3), (.ifCond .ne 5, 3), (.iconst 0, 1), (.ireturn, 1)]),
  (9, 3, [(.iload_n 1, 1), (.bipush 6, 2), (.imul, 1), (.iload_n 2, 1), (.iadd, 1), (.istore_n 3, 1), (.aload_n 0, 1), (.getfield 38, 3), (.iload_n 3, 1), (.iaload, 1), (.iconst (-1), 1), (.if_icmp .ne 74, 3), (.iconst 0, 1), (.istore 4, 2), (.iconst 0, 1), (.istore 5, 2)]),
  (32, 6, [(.iload 5, 2), (.bipush 13, 2), (.if_icmp .ge 50, 3), (.aload_n 0, 1), (.getfield 29, 3), (.iload_n 3, 1), (.iaload, 1), (.iload 5, 2), (.ishr, 1), (.iconst 1, 1), (.iand, 1), (.ifCond .eq 30, 3), (.aload_n 0, 1), (.getfield 19, 3), (.aload_n 0, 1), (.getfield 29, 3), (.iload_n 1, 1), (.iload_n 2, 1), (.iload 5, 2), (.invokevirtual 63, 3), (.ifCond .eq 12, 3), (.iload 4, 2), (.iconst 1, 1), (.iload 5, 2), (.ishl, 1), (.ior, 1), (.istore 4, 2)]),
  (80, 6, [(.iinc 5 1, 3), (.goto (-51), 3)]),
  (86, 6, [(.aload_n 0, 1), (.getfield 38, 3), (.iload_n 1, 1), (.iload_n 2, 1), (.iload 4, 2), (.invokestatic 67, 3)]),
  (97, 4, [(.aload_n 0, 1), (.getfield 38, 3), (.iload_n 3, 1), (.iaload, 1), (.ireturn, 1)])]
theorem b_X5_canSet_ok : x_okB cX5_canSet 6 b_X5_canSet = true := by decide +kernel
def X_X5_canSet : x_X := ([(38, 3, 7), (29, 3, 4), (19, 3, 2)], [], [], [], [(178, q_X5_isPossible), (190, q_X3_canHoldWith), (201, q_X1_put)], (0, 0), x_kn, x_kf, 5, false)
theorem X_X5_canSet_ok : x_okT RX5 X_X5_canSet = true := by decide +kernel
theorem k_X5_canSet (l : Launch) : ∀ z ∈ X_X5_canSet.2.2.2.2.1, x_Cal l (x_rm 22 0 0) cX5_canSet RX5 6 z.1 z.2 := List.forall_mem_cons.mpr ⟨x_cal_V (idx := 59) (ci := 3) (n := 0) (c_X5_isPossible l) ⟨by decide, by decide⟩ (by decide +kernel) (by decide +kernel) (by decide +kernel) (by decide +kernel) (by decide +kernel) rfl rfl rfl (by decide +kernel) r_X5_isPossible, List.forall_mem_cons.mpr ⟨x_cal_V (idx := 63) (ci := 1) (n := 4) (c_X3_canHoldWith l) ⟨by decide, by decide⟩ (by decide +kernel) (by decide +kernel) (by decide +kernel) (by decide +kernel) (by decide +kernel) rfl rfl rfl (by decide +kernel) r_X3_canHoldWith, List.forall_mem_cons.mpr ⟨x_cal_S (idx := 67) (c_X1_put l) ⟨by decide, by decide⟩ (by decide +kernel) (by decide +kernel) (by decide +kernel) (by decide +kernel) (by decide +kernel), fun _ h => absurd h List.not_mem_nil⟩⟩⟩
set_option maxHeartbeats 4000000 in
set_option maxRecDepth 100000 in
theorem c_X5_canSet (l : Launch) : x_CT l yX5_canSet cX5_canSet 6 (some .int) 22 q_X5_canSet := by
  refine x_meth (X := X_X5_canSet) (bl := b_X5_canSet) (cut := [32]) (own := RX5) 30 (by decide) rfl X_X5_canSet_ok b_X5_canSet_ok rfl (Nat.le_of_ble_eq_true rfl) (k_X5_canSet l) ?_
  rintro as S M - ⟨q, a, b, hp, rfl, ha, hb, hab, rfl⟩
  have hw := hp.1
  refine ⟨fun μ pc ls st S' M' cs sl => ∃ (fd r : Nat), r ≤ 13 ∧ fd < 8192 ∧ Ed M q M' ∧ M' q 10 = nI 1 ∧ M' (q + 5) (a * 6 + b) = -(nI 1) ∧ (∀ t, t < 13 → (fd.testBit t = true ↔ t < r ∧ Rl (tF M (wo q)) a b t)) ∧ pc = 32 ∧ st = [] ∧ S' = SH ∧ cs = 0 ∧ sl = 0 ∧ ls = [.inr (.inl q), .inl (nI a), .inl (nI b), .inl (nI a * nI 6 + nI b), .inl (nI fd), .inl (nI r)] ∧ μ = 13 - r, ?_, ?_⟩
  · skip
    refine xt_blk rfl rfl (by dsimp only [List.take]) ?_
    refine xt_aln0 rfl (by first | decide | omega | assumption | (have := isWy_lt hw; omega)) ?_
    refine xt_v1 (key := 178) (q := q_X5_isPossible) rfl rfl rfl rfl rfl ⟨Nat.le_of_ble_eq_true rfl, Nat.le_of_ble_eq_true rfl⟩ ⟨q, hp, rfl, rfl⟩ (fun rv_ S1 M1 hq_1 => ?_)
    obtain ⟨eS_, hEd, hpos⟩ := hq_1 q rfl
    replace eS_ := eS_.symm
    subst eS_
    have hex : ∃ v, rv_ = some (.inl v) := by rcases hpos with ⟨e, -⟩ | ⟨e, -⟩ <;> exact ⟨_, e⟩
    obtain ⟨v, rfl⟩ := hex
    try dsimp only [Option.toList, List.cons_append, List.nil_append]
    refine xt_ne (t := 9) rfl (fun hc_4 => ?_) (fun hc_4 => ?_)
    · skip
      refine xt_blk rfl rfl (by dsimp only [List.take]) ?_
      refine xt_iln1 rfl ?_
      refine xt_bi ?_
      refine xt_mul ?_
      refine xt_iln2 rfl ?_
      refine xt_add ?_
      refine xt_isn3 rfl (by dsimp only [x_sto]) ?_
      refine xt_aln0 rfl (by first | decide | omega | assumption | (have := isWy_lt hw; omega)) ?_
      refine xt_gfr (q := (3, 7)) rfl (by first | exact SHw hw | exact SHw1 hw | exact SHw2 hw | exact SHw3 hw | exact SHw4 hw | exact SHw5 hw | exact SHw6 hw | rfl | assumption) rfl ?_
      refine xt_iln3 rfl ?_
      refine xt_ial (by first | exact SHw hw | exact SHw1 hw | exact SHw2 hw | exact SHw3 hw | exact SHw4 hw | exact SHw5 hw | exact SHw6 hw | rfl | assumption) (n_ixi ha hb) ?_
      refine xt_icm rfl ?_
      refine xt_cne (t := 97) rfl (fun hc_23 => ?_) (fun hc_23 => ?_)
      · skip
        refine xt_blk rfl rfl (by dsimp only [List.take]) ?_
        refine xt_aln0 rfl (by first | decide | omega | assumption | (have := isWy_lt hw; omega)) ?_
        refine xt_gfr (q := (3, 7)) rfl (by first | exact SHw hw | exact SHw1 hw | exact SHw2 hw | exact SHw3 hw | exact SHw4 hw | exact SHw5 hw | exact SHw6 hw | rfl | assumption) rfl ?_
        refine xt_iln3 rfl ?_
        refine xt_ial (by first | exact SHw hw | exact SHw1 hw | exact SHw2 hw | exact SHw3 hw | exact SHw4 hw | exact SHw5 hw | exact SHw6 hw | rfl | assumption) (n_ixi ha hb) ?_
        refine xt_ri rfl (Nat.le_refl _) ?_
        intro q2 a2 b2 h2a h2b h2ab e2
        simp only [List.cons.injEq, Sum.inr.injEq, Sum.inl.injEq, and_true] at e2
        obtain ⟨rfl, ea, eb⟩ := e2
        rw [nI_eq (by omega) (by omega)] at ea eb
        subst ea eb
        rw [n_ixc ha hb] at hc_23 ⊢
        rcases hEd.2.2.2.2.2.1 a b ha hb hab with e | ⟨v, e, hv⟩
        · exact absurd e hc_23
        · exact ⟨rfl, hEd, v, hv, by rw [e]⟩
      · skip
        refine xt_ic ?_
        refine xt_ist rfl (by dsimp only [x_sto]) ?_
        refine xt_ic ?_
        refine xt_ist rfl (by dsimp only [x_sto]) ?_
        refine xt_nil (t := 32) rfl ?_
        refine xt_cut rfl rfl (by dsimp only [List.take]) ?_
        refine ⟨_, 0, 0, by omega, by omega, hEd, ?_, ?_, ?_, rfl, rfl, rfl, rfl, rfl, rfl, rfl⟩
        · rcases hpos with ⟨-, -, e⟩ | ⟨e, -⟩
          · exact e
          · cases e; exact absurd rfl hc_4
        · rw [n_ixc ha hb] at hc_23; exact hc_23
        · intro t ht; simp
    · skip
      refine xt_ic ?_
      refine xt_ri rfl (Nat.le_refl _) ?_
      intro q2 a2 b2 h2a h2b h2ab e2
      simp only [List.cons.injEq, Sum.inr.injEq, Sum.inl.injEq, and_true] at e2
      obtain ⟨rfl, ea, eb⟩ := e2
      rw [nI_eq (by omega) (by omega)] at ea eb
      subst ea eb
      rcases hpos with ⟨e, -⟩ | ⟨-, z⟩
      · cases e; exact absurd hc_4 (by decide)
      · exact ⟨rfl, hEd, 0, CanV_no z, rfl⟩
  · rintro μ pc ls st S2 M2 cs sl (⟨fd, r, hr, hfd, hEd, hps, hcu, hfb, rfl, rfl, rfl, rfl, rfl, rfl, rfl⟩)
    · refine ⟨_, rfl, ?_⟩
      refine xt_ild rfl ?_
      refine xt_bi ?_
      refine xt_cge (t := 86) rfl (fun hc_36 => ?_) (fun hc_36 => ?_)
      · skip
        refine xt_blk rfl rfl (by dsimp only [List.take]) ?_
        refine xt_aln0 rfl (by first | decide | omega | assumption | (have := isWy_lt hw; omega)) ?_
        refine xt_gfr (q := (3, 7)) rfl (by first | exact SHw hw | exact SHw1 hw | exact SHw2 hw | exact SHw3 hw | exact SHw4 hw | exact SHw5 hw | exact SHw6 hw | rfl | assumption) rfl ?_
        refine xt_iln1 rfl ?_
        refine xt_iln2 rfl ?_
        refine xt_ild rfl ?_
        refine xt_v4 (key := 201) (q := q_X1_put) rfl rfl rfl rfl rfl ⟨Nat.le_of_ble_eq_true rfl, Nat.le_of_ble_eq_true rfl⟩ ⟨q + 5, a, b, fd, by have := isWy_lt hw; omega, ha, hb, hfd, SHw5 hw, rfl⟩ (fun rv_ S1 M1 hq_94 => ?_)
        obtain ⟨eS_, eM_, rfl⟩ := hq_94 (q + 5) a b fd ha hb hfd rfl
        replace eS_ := eS_.symm
        replace eM_ := eM_.symm
        subst eS_ eM_
        try dsimp only [Option.toList, List.cons_append, List.nil_append]
        refine xt_nil (t := 97) rfl ?_
        refine xt_blk rfl rfl (by dsimp only [List.take]) ?_
        refine xt_aln0 rfl (by first | decide | omega | assumption | (have := isWy_lt hw; omega)) ?_
        refine xt_gfr (q := (3, 7)) rfl (by first | exact SHw hw | exact SHw1 hw | exact SHw2 hw | exact SHw3 hw | exact SHw4 hw | exact SHw5 hw | exact SHw6 hw | rfl | assumption) rfl ?_
        refine xt_iln3 rfl ?_
        refine xt_ial (by first | exact SHw hw | exact SHw1 hw | exact SHw2 hw | exact SHw3 hw | exact SHw4 hw | exact SHw5 hw | exact SHw6 hw | rfl | assumption) (n_ixi ha hb) ?_
        refine xt_ri rfl (Nat.le_refl _) ?_
        have hr13 : r = 13 := by rw [nI_leI (by omega) (by omega)] at hc_36; omega
        subst hr13
        have hcv : CanV (tF M (wo q)) a b fd := ⟨hfd, fun t ht => by rw [hfb t ht]; exact ⟨fun h => h.2, fun h => ⟨ht, h⟩⟩⟩
        intro q2 a2 b2 h2a h2b h2ab e2
        simp only [List.cons.injEq, Sum.inr.injEq, Sum.inl.injEq, and_true] at e2
        obtain ⟨rfl, ea, eb⟩ := e2
        rw [nI_eq (by omega) (by omega)] at ea eb
        subst ea eb
        obtain ⟨w1, ⟨g, g1, g2, g3⟩, w3, w4, w5⟩ := hEd.2.2.2
        refine ⟨rfl, Ed_next hw hEd (fun k a b => x_row_ne _ _ (by omega)) (by rw [x_row_ne _ _ (by omega)]) (by rw [x_row_ne _ _ (by omega)]) ⟨?_, ⟨g, ?_, g2, ?_⟩, ?_, ?_, ?_⟩, fd, hcv, ?_⟩
        · intro j hj; rw [x_row_ne _ _ (by omega)]; exact w1 j hj
        · intro j hj; rw [x_row_ne _ _ (by omega)]; exact g1 j hj
        · unfold PoV; rw [x_row_ne _ _ (by omega)]; exact g3
        · intro x y hx hy hxy
          rw [x_row_self]
          unfold upd
          by_cases q1 : x * 6 + y = b * 6 + a
          · have ex : x = b := by omega
            have ey : y = a := by omega
            subst ex ey
            rw [if_pos rfl]
            exact Or.inr ⟨tn fd, rfl, CanV_turn ha hb hcv⟩
          · rw [if_neg q1]
            by_cases q2 : x * 6 + y = a * 6 + b
            · have ex : x = a := by omega
              have ey : y = b := by omega
              subst ex ey
              rw [if_pos rfl]
              exact Or.inr ⟨fd, rfl, hcv⟩
            · rw [if_neg q2]; exact w3 x y hx hy hxy
        · unfold CoV; rw [x_row_ne _ _ (by omega)]; exact w4
        · unfold FiV At; rw [x_row_ne _ _ (show q ≠ q + 5 by omega), x_row_ne _ _ (show q + 3 ≠ q + 5 by omega), x_row_ne _ _ (show q + 6 ≠ q + 5 by omega)]; exact w5
        · rw [x_row_self, n_ixc ha hb]
          unfold upd
          rw [if_neg (by omega), if_pos rfl]
      · skip
        have hr13 : r < 13 := by rw [nI_leI (by omega) (by omega)] at hc_36; omega
        obtain ⟨g, hg1, hcn⟩ := Ed_cn hEd (Or.inl hps)
        have hgl := (hg1 (a * 6 + b) (by omega)).1
        have hbn : nI (g (a * 6 + b)) >>> (nI r &&& 31) &&& nI 1 = nI (bi (g (a * 6 + b)) r) := n_bit (by omega) (by omega)
        refine xt_aln0 rfl (by first | decide | omega | assumption | (have := isWy_lt hw; omega)) ?_
        refine xt_gfr (q := (3, 4)) rfl (by first | exact SHw hw | exact SHw1 hw | exact SHw2 hw | exact SHw3 hw | exact SHw4 hw | exact SHw5 hw | exact SHw6 hw | rfl | assumption) rfl ?_
        refine xt_iln3 rfl ?_
        refine xt_ial (by first | exact SHw hw | exact SHw1 hw | exact SHw2 hw | exact SHw3 hw | exact SHw4 hw | exact SHw5 hw | exact SHw6 hw | rfl | assumption) (n_ixi ha hb) ?_
        refine xt_ild rfl ?_
        refine xt_shr ?_
        refine xt_ic ?_
        refine xt_and ?_
        refine xt_eq (t := 80) rfl (fun hc_50 => ?_) (fun hc_50 => ?_)
        · skip
          have hbit : ¬ (g (a * 6 + b)).testBit r = true := by
            rw [n_ixc ha hb, (hg1 _ (by omega)).2, hbn, n_eq0 (by have := bi_lt (g (a * 6 + b)) r; omega)] at hc_50
            rw [← bi_tb]; omega
          refine xt_blk rfl rfl (by dsimp only [List.take]) ?_
          refine xt_inc rfl (by dsimp only [x_sto]) ?_
          refine xt_goto (t := 32) rfl ?_
          refine xt_cut rfl rfl (by dsimp only [List.take]) ?_
          refine ⟨13 - (r + 1), by omega, fd, r + 1, by omega, hfd, hEd, hps, hcu, ?_, rfl, rfl, rfl, rfl, rfl, by rw [nI_add], rfl⟩
          intro t ht
          rw [hfb t ht]
          refine ⟨fun h => ⟨by omega, h.2⟩, fun h => ⟨?_, h.2⟩⟩
          by_cases e : t = r
          · subst e; exact absurd (Rl_bit ha hb hab ((Rl_mx hcn.2.2.2.2 a b t).mp h.2)) hbit
          · omega
        · skip
          have hbit : (g (a * 6 + b)).testBit r = true := by
            rw [n_ixc ha hb, (hg1 _ (by omega)).2, hbn, n_eq0 (by have := bi_lt (g (a * 6 + b)) r; omega)] at hc_50
            rw [← bi_tb]; have := bi_lt (g (a * 6 + b)) r; omega
          refine xt_aln0 rfl (by first | decide | omega | assumption | (have := isWy_lt hw; omega)) ?_
          refine xt_gfr (q := (3, 2)) rfl (by first | exact SHw hw | exact SHw1 hw | exact SHw2 hw | exact SHw3 hw | exact SHw4 hw | exact SHw5 hw | exact SHw6 hw | rfl | assumption) rfl ?_
          refine xt_aln0 rfl (by first | decide | omega | assumption | (have := isWy_lt hw; omega)) ?_
          refine xt_gfr (q := (3, 4)) rfl (by first | exact SHw hw | exact SHw1 hw | exact SHw2 hw | exact SHw3 hw | exact SHw4 hw | exact SHw5 hw | exact SHw6 hw | rfl | assumption) rfl ?_
          refine xt_iln1 rfl ?_
          refine xt_iln2 rfl ?_
          refine xt_ild rfl ?_
          refine xt_v5 (key := 190) (q := q_X3_canHoldWith) rfl rfl rfl rfl rfl ⟨Nat.le_of_ble_eq_true rfl, Nat.le_of_ble_eq_true rfl⟩ ⟨q + 2, a, b, r, g, by have := isWy_lt hw; omega, rfl, SHw2 hw, ha, hb, hab, hr13, hg1, hcn.2.1, hcn.2.2.1, hcn.2.2.2.1, hbit, rfl⟩ (fun rv_ S1 M1 hq_65 => ?_)
          obtain ⟨eS_, hfr, hss⟩ := hq_65 (q + 2) a b r g ha hb hr13 hg1 rfl
          replace eS_ := eS_.symm
          subst eS_
          have hEd2 := Ed_lev hw hEd hfr
          have hps2 : M1 q 10 = nI 1 := by rw [hfr q (by rcases hw with rfl | rfl <;> omega)]; exact hps
          have hex : ∃ v, rv_ = some (.inl v) := by rcases hss with ⟨e, -⟩ | ⟨e, -⟩ <;> exact ⟨_, e⟩
          obtain ⟨v, rfl⟩ := hex
          try dsimp only [Option.toList, List.cons_append, List.nil_append]
          refine xt_eq (t := 80) rfl (fun hc_68 => ?_) (fun hc_68 => ?_)
          · skip
            refine xt_blk rfl rfl (by dsimp only [List.take]) ?_
            refine xt_inc rfl (by dsimp only [x_sto]) ?_
            refine xt_goto (t := 32) rfl ?_
            refine xt_cut rfl rfl (by dsimp only [List.take]) ?_
            have hno : ¬ Rl (tF M (wo q)) a b r := by
              rcases hss with ⟨e, -⟩ | ⟨-, z⟩
              · cases e; exact absurd hc_68 (by decide)
              · exact fun y => z ((Rl_fix hcn.2.1 ha hb hab hr13 hbit).mpr ((Rl_mx hcn.2.2.2.2 a b r).mp y))
            refine ⟨13 - (r + 1), by omega, fd, r + 1, by omega, hfd, hEd2, hps2, by rw [hfr (q + 5) (by rcases hw with rfl | rfl <;> omega)]; exact hcu, ?_, rfl, rfl, rfl, rfl, rfl, by rw [nI_add], rfl⟩
            intro t ht
            rw [hfb t ht]
            refine ⟨fun h => ⟨by omega, h.2⟩, fun h => ⟨?_, h.2⟩⟩
            by_cases e : t = r
            · subst e; exact absurd h.2 hno
            · omega
          · skip
            refine xt_ild rfl ?_
            refine xt_ic ?_
            refine xt_ild rfl ?_
            refine xt_shl ?_
            refine xt_or ?_
            refine xt_ist rfl (by dsimp only [x_sto]) ?_
            refine xt_nil (t := 80) rfl ?_
            refine xt_blk rfl rfl (by dsimp only [List.take]) ?_
            refine xt_inc rfl (by dsimp only [x_sto]) ?_
            refine xt_goto (t := 32) rfl ?_
            refine xt_cut rfl rfl (by dsimp only [List.take]) ?_
            have hyes : Rl (tF M (wo q)) a b r := by
              rcases hss with ⟨-, z, -⟩ | ⟨e, -⟩
              · exact (Rl_mx hcn.2.2.2.2 a b r).mpr ((Rl_fix hcn.2.1 ha hb hab hr13 hbit).mp z)
              · cases e; exact absurd rfl hc_68
            have hpw : 2 ^ r < 8192 := Nat.pow_lt_pow_right (by decide) hr13
            have hsl : nI 1 <<< (nI r &&& 31) = nI (2 ^ r) := by rw [n_shl (by omega) (by omega), Nat.one_mul]
            refine ⟨13 - (r + 1), by omega, fd ||| 2 ^ r, r + 1, by omega, n_lt_or (k := 13) hfd hpw, hEd2, hps2, by rw [hfr (q + 5) (by rcases hw with rfl | rfl <;> omega)]; exact hcu, ?_, rfl, rfl, rfl, rfl, rfl, by rw [nI_add, hsl, n_or], rfl⟩
            intro t ht
            rw [Nat.testBit_or, Nat.testBit_two_pow, Bool.or_eq_true, hfb t ht, decide_eq_true_iff]
            refine ⟨fun h => ?_, fun h => ?_⟩
            · rcases h with h | h
              · exact ⟨by omega, h.2⟩
              · subst h; exact ⟨by omega, hyes⟩
            · by_cases e : t = r
              · exact Or.inr e.symm
              · exact Or.inl ⟨by omega, h.2⟩
end
section
/-! WAY: takeLeast, isFirstDrawn -/
theorem Sy_cg {g g2 : Nat → Nat} (h : ∀ j, j < 36 → g j = g2 j) (q : Sy g) : Sy g2 := fun a b ha hb hab => by rw [← h _ (by omega), ← h _ (by omega)]; exact q a b ha hb hab
theorem Clo_cg {g g2 : Nat → Nat} (h : ∀ j, j < 36 → g j = g2 j) (q : Clo g) : Clo g2 := fun x y z hd => by
  have t := q x y z hd
  obtain ⟨h1, h2, h3, -⟩ := hd
  unfold Tri at t ⊢
  rw [← h (x * 6 + z) (by omega), ← h (x * 6 + y) (by omega), ← h (y * 6 + z) (by omega)]
  exact t
theorem NE_cg {g g2 : Nat → Nat} {w : Nat} (h : ∀ j, j < 36 → g j = g2 j) (q : NE g w) : NE g2 w := fun x y hx hy hxy e => by rw [← h _ (by omega)]; exact q x y hx hy hxy e
theorem FI_cg {f s g g2 : Nat → Nat} {p : Nat} (hp : p ≤ 15) (h : ∀ j, j < 36 → g j = g2 j) (q : FI f p s g) : FI f p s g2 := by
  obtain ⟨⟨a1, a2, a3, a4⟩, b, c, d, e, k⟩ := q
  refine ⟨⟨fun j hj => by rw [← h j hj]; exact a1 j hj, Sy_cg h a2, Clo_cg h a3, NE_cg h a4⟩, fun a ha => by rw [← h _ (by omega)]; exact b a ha, fun P hP => by rw [← Hol_cg h]; exact c P hP, fun u hu => ?_, e, (Sat_cg h).mp k⟩
  obtain ⟨f1, f2, -, -⟩ := fs_ok u (by omega)
  have := d u hu
  unfold pf at this ⊢
  rw [← h _ (by omega)]
  exact this
theorem fs_inj : ∀ p, p < 15 → ∀ q, q < 15 → fsT p = fsT q → scT p = scT q → p = q := by decide
theorem FI_some {f s g : Nat → Nat} {p : Nat} (hp : p < 15) (h : FI f p s g) : ∃ t, t < 13 ∧ (pf g p).testBit t = true ∧ Sat (nw g (fsT p) (scT p) (2 ^ t)) := by
  obtain ⟨⟨-, hS, -, -⟩, -, -, -, -, P, hP, hg⟩ := h
  obtain ⟨f1, f2, f3, -⟩ := fs_ok p hp
  exact ⟨rl P p, rl_lt P p, hg _ _ f1 f2 f3, P, hP, (Hol_fix hS f1 f2 f3 (rl_lt P p) (hg _ _ f1 f2 f3) hP).mpr ⟨hg, rfl⟩⟩
theorem Ed_fst {M M' M2 : x_M} {q : Nat} (hw : isWy q) (h : Ed M q M') (h0 : M' q 12 = nI 0) (h1 : ∀ j, j < 10 ∨ 25 < j → j ≠ q + 3 → M2 j = M' j) : Ed M q M2 ∧ M2 q 12 = nI 0 ∧ M2 q 10 = M' q 10 ∧ M2 (q + 2) = M' (q + 2) := by
  have hq : ∀ k, q ≤ k → k ≠ q + 3 → M2 k = M' k := fun k hk hn => h1 k (by rcases hw with rfl | rfl <;> omega) hn
  have e0 := hq q (by omega) (by omega)
  have e1 := hq (q + 1) (by omega) (by omega)
  have e2 := hq (q + 2) (by omega) (by omega)
  have e5 := hq (q + 5) (by omega) (by omega)
  refine ⟨Ed_next hw h (fun k a b => h1 k a (by omega)) (by rw [e0]) (by rw [e0]) ?_, by rw [e0]; exact h0, by rw [e0], e2⟩
  obtain ⟨w1, w2, w3, w4, -⟩ := h.2.2.2
  refine ⟨?_, ?_, ?_, ?_, Or.inl (by rw [e0]; exact h0)⟩
  · unfold At; rw [e1]; exact w1
  · unfold PoV At; rw [e0, e2]; exact w2
  · unfold CaV; rw [e5]; exact w3
  · unfold CoV; rw [e0]; exact w4
def q_X5_takeLeast : x_K := (3, fun as S M => ∃ (q p : Nat) (f s g : Nat → Nat), isWy q ∧ S = SH ∧ p < 15 ∧ At M (q + 3) g ∧ FI f p s g ∧ as = [.inr (.inl q), .inl (nI (fsT p)), .inl (nI (scT p))],
  fun as S M rv_ S' M' => ∀ (q p : Nat) (f s g : Nat → Nat), p < 15 → At M (q + 3) g → FI f p s g → as = [.inr (.inl q), .inl (nI (fsT p)), .inl (nI (scT p))] → S' = S ∧ (∀ j, j < 10 ∨ 25 < j → j ≠ q + 3 → M' j = M j) ∧ (∃ s' g', At M' (q + 3) g' ∧ FI f (p + 1) s' g') ∧ rv_ = none, 0, 0)
theorem r_X5_takeLeast : ∀ as S M, q_X5_takeLeast.2.1 as S M → ∃ (k : Nat) (as' : List x_V) (fs : List (Option Nat)), as = .inr (.inl k) :: as' ∧ S[k]? = some (.inl (3, fs)) := by
  rintro as S M ⟨q, p, f, s, g, hw, rfl, -, -, -, rfl⟩
  exact ⟨q, _, _, rfl, SHw hw⟩
def b_X5_takeLeast : x_B := [(0, 3, [(.aload_n 0, 1), (.getfield 32, 3), (.iload_n 1, 1), (.bipush 6, 2), (.imul, 1), (.iload_n 2, 1), (.iadd, 1), (.iaload, 1), (.istore_n 3, 1), (.iconst 0, 1), (.istore 4, 2)]),
  (15, 5, [(.iload 4, 2), (.bipush 13, 2), (.if_icmp .ge 48, 3), (.iload_n 3, 1), (.iload 4, 2), (.ishr, 1), (.iconst 1, 1), (.iand, 1), (.ifCond .eq 33, 3), (.aload_n 0, 1), (.getfield 19, 3), (.aload_n 0, 1), (.getfield 32, 3), (.iload_n 1, 1), (.iload_n 2, 1), (.iload 4, 2), (.invokevirtual 63, 3), (.ifCond .eq 15, 3), (.aload_n 0, 1), (.getfield 19, 3), (.aload_n 0, 1), (.getfield 32, 3), (.invokevirtual 132, 3), (.return_, 1)]),
  (61, 5, [(.iinc 4 1, 3), (.goto (-49), 3)]),
  (67, 5, [(.return_, 1)])]
theorem b_X5_takeLeast_ok : x_okB cX5_takeLeast 5 b_X5_takeLeast = true := by decide +kernel
def X_X5_takeLeast : x_X := ([(32, 3, 5), (19, 3, 2)], [], [], [], [(190, q_X3_canHoldWith), (397, q_X3_keepNet)], (0, 0), x_kn, x_kf, 5, false)
theorem X_X5_takeLeast_ok : x_okT RX5 X_X5_takeLeast = true := by decide +kernel
theorem k_X5_takeLeast (l : Launch) : ∀ z ∈ X_X5_takeLeast.2.2.2.2.1, x_Cal l (x_rm 21 0 0) cX5_takeLeast RX5 5 z.1 z.2 := List.forall_mem_cons.mpr ⟨x_cal_V (idx := 63) (ci := 1) (n := 4) (c_X3_canHoldWith l) ⟨by decide, by decide⟩ (by decide +kernel) (by decide +kernel) (by decide +kernel) (by decide +kernel) (by decide +kernel) rfl rfl rfl (by decide +kernel) r_X3_canHoldWith, List.forall_mem_cons.mpr ⟨x_cal_V (idx := 132) (ci := 1) (n := 1) (c_X3_keepNet l) ⟨by decide, by decide⟩ (by decide +kernel) (by decide +kernel) (by decide +kernel) (by decide +kernel) (by decide +kernel) rfl rfl rfl (by decide +kernel) r_X3_keepNet, fun _ h => absurd h List.not_mem_nil⟩⟩
set_option maxHeartbeats 4000000 in
set_option maxRecDepth 100000 in
theorem c_X5_takeLeast (l : Launch) : x_CT l yX5_takeLeast cX5_takeLeast 5 none 21 q_X5_takeLeast := by
  refine x_meth (X := X_X5_takeLeast) (bl := b_X5_takeLeast) (cut := [15]) (own := RX5) 30 (by decide) rfl X_X5_takeLeast_ok b_X5_takeLeast_ok rfl (Nat.le_of_ble_eq_true rfl) (k_X5_takeLeast l) ?_
  rintro as S M - ⟨q, p, f, s, g, hw, rfl, hp, hg, hF, rfl⟩
  obtain ⟨f1, f2, f3, f4⟩ := fs_ok p hp
  refine ⟨fun μ pc ls st S' M' cs sl => ∃ (r : Nat), r ≤ 13 ∧ (∀ j, j < 10 ∨ 25 < j → M' j = M j) ∧ (∀ t, t < r → (pf g p).testBit t = true → ¬ Sat (nw g (fsT p) (scT p) (2 ^ t))) ∧ pc = 15 ∧ st = [] ∧ S' = SH ∧ cs = 0 ∧ sl = 0 ∧ ls = [.inr (.inl q), .inl (nI (fsT p)), .inl (nI (scT p)), .inl (nI (g (fsT p * 6 + scT p))), .inl (nI r)] ∧ μ = 13 - r, ?_, ?_⟩
  · skip
    refine xt_blk rfl rfl (by dsimp only [List.take]) ?_
    refine xt_aln0 rfl (by first | decide | omega | assumption | (have := isWy_lt hw; omega)) ?_
    refine xt_gfr (q := (3, 5)) rfl (by first | exact SHw hw | exact SHw1 hw | exact SHw2 hw | exact SHw3 hw | exact SHw4 hw | exact SHw5 hw | exact SHw6 hw | rfl | assumption) rfl ?_
    refine xt_iln1 rfl ?_
    refine xt_bi ?_
    refine xt_mul ?_
    refine xt_iln2 rfl ?_
    refine xt_add ?_
    refine xt_ial (by first | exact SHw hw | exact SHw1 hw | exact SHw2 hw | exact SHw3 hw | exact SHw4 hw | exact SHw5 hw | exact SHw6 hw | rfl | assumption) (n_ixi f1 f2) ?_
    refine xt_isn3 rfl (by dsimp only [x_sto]) ?_
    refine xt_ic ?_
    refine xt_ist rfl (by dsimp only [x_sto]) ?_
    refine xt_nil (t := 15) rfl ?_
    refine xt_cut rfl rfl (by dsimp only [List.take]) ?_
    refine ⟨_, 0, by omega, fun _ _ => rfl, fun t ht => by omega, rfl, rfl, rfl, rfl, rfl, by rw [n_ixc f1 f2, (hg _ (by omega)).2], rfl⟩
  · rintro μ pc ls st S2 M2 cs sl (⟨r, hr, hfr, hlow, rfl, rfl, rfl, rfl, rfl, rfl, rfl⟩)
    · refine ⟨_, rfl, ?_⟩
      refine xt_ild rfl ?_
      refine xt_bi ?_
      refine xt_cge (t := 67) rfl (fun hc_19 => ?_) (fun hc_19 => ?_)
      · skip
        refine xt_blk rfl rfl (by dsimp only [List.take]) ?_
        refine xt_rv rfl (Nat.le_refl _) ?_
        exfalso
        have hr13 : r = 13 := by rw [nI_leI (by omega) (by omega)] at hc_19; omega
        obtain ⟨t, ht, hb, hs⟩ := FI_some hp hF
        exact hlow t (by omega) hb hs
      · skip
        have hr13 : r < 13 := by rw [nI_leI (by omega) (by omega)] at hc_19; omega
        have hg2 : At M2 (q + 3) g := fun j hj => by rw [hfr (q + 3) (by rcases hw with rfl | rfl <;> omega)]; exact hg j hj
        have hgl := (hg (fsT p * 6 + scT p) (by omega)).1
        have hbn : nI (g (fsT p * 6 + scT p)) >>> (nI r &&& 31) &&& nI 1 = nI (bi (g (fsT p * 6 + scT p)) r) := n_bit (by omega) (by omega)
        refine xt_iln3 rfl ?_
        refine xt_ild rfl ?_
        refine xt_shr ?_
        refine xt_ic ?_
        refine xt_and ?_
        refine xt_eq (t := 61) rfl (fun hc_28 => ?_) (fun hc_28 => ?_)
        · skip
          have hbit : ¬ (g (fsT p * 6 + scT p)).testBit r = true := by
            rw [hbn, n_eq0 (by have := bi_lt (g (fsT p * 6 + scT p)) r; omega)] at hc_28
            rw [← bi_tb]; omega
          refine xt_blk rfl rfl (by dsimp only [List.take]) ?_
          refine xt_inc rfl (by dsimp only [x_sto]) ?_
          refine xt_goto (t := 15) rfl ?_
          refine xt_cut rfl rfl (by dsimp only [List.take]) ?_
          refine ⟨13 - (r + 1), by omega, r + 1, by omega, hfr, ?_, rfl, rfl, rfl, rfl, rfl, by rw [nI_add], rfl⟩
          intro t ht hb
          by_cases e : t = r
          · subst e
            exact absurd hb hbit
          · exact hlow t (by omega) hb
        · skip
          have hbit : (g (fsT p * 6 + scT p)).testBit r = true := by
            rw [hbn, n_eq0 (by have := bi_lt (g (fsT p * 6 + scT p)) r; omega)] at hc_28
            rw [← bi_tb]; have := bi_lt (g (fsT p * 6 + scT p)) r; omega
          refine xt_aln0 rfl (by first | decide | omega | assumption | (have := isWy_lt hw; omega)) ?_
          refine xt_gfr (q := (3, 2)) rfl (by first | exact SHw hw | exact SHw1 hw | exact SHw2 hw | exact SHw3 hw | exact SHw4 hw | exact SHw5 hw | exact SHw6 hw | rfl | assumption) rfl ?_
          refine xt_aln0 rfl (by first | decide | omega | assumption | (have := isWy_lt hw; omega)) ?_
          refine xt_gfr (q := (3, 5)) rfl (by first | exact SHw hw | exact SHw1 hw | exact SHw2 hw | exact SHw3 hw | exact SHw4 hw | exact SHw5 hw | exact SHw6 hw | rfl | assumption) rfl ?_
          refine xt_iln1 rfl ?_
          refine xt_iln2 rfl ?_
          refine xt_ild rfl ?_
          refine xt_v5 (key := 190) (q := q_X3_canHoldWith) rfl rfl rfl rfl rfl ⟨Nat.le_of_ble_eq_true rfl, Nat.le_of_ble_eq_true rfl⟩ ⟨q + 3, fsT p, scT p, r, g, by have := isWy_lt hw; omega, rfl, SHw3 hw, f1, f2, f3, hr13, hg2, hF.1.2.1, hF.1.2.2.1, hF.1.2.2.2, hbit, rfl⟩ (fun rv_ S1 M1 hq_43 => ?_)
          obtain ⟨eS_, hfr2, hss⟩ := hq_43 (q + 3) (fsT p) (scT p) r g f1 f2 hr13 hg2 rfl
          replace eS_ := eS_.symm
          subst eS_
          have hfr3 : ∀ j, j < 10 ∨ 25 < j → M1 j = M j := fun j a => (hfr2 j a).trans (hfr j a)
          have hex : ∃ v, rv_ = some (.inl v) := by rcases hss with ⟨e, -⟩ | ⟨e, -⟩ <;> exact ⟨_, e⟩
          obtain ⟨v, rfl⟩ := hex
          try dsimp only [Option.toList, List.cons_append, List.nil_append]
          refine xt_eq (t := 61) rfl (fun hc_46 => ?_) (fun hc_46 => ?_)
          · skip
            refine xt_blk rfl rfl (by dsimp only [List.take]) ?_
            refine xt_inc rfl (by dsimp only [x_sto]) ?_
            refine xt_goto (t := 15) rfl ?_
            refine xt_cut rfl rfl (by dsimp only [List.take]) ?_
            have hno : ¬ Sat (nw g (fsT p) (scT p) (2 ^ r)) := by
              rcases hss with ⟨e, -⟩ | ⟨-, z⟩
              · cases e; exact absurd hc_46 (by decide)
              · exact z
            refine ⟨13 - (r + 1), by omega, r + 1, by omega, hfr3, ?_, rfl, rfl, rfl, rfl, rfl, by rw [nI_add], rfl⟩
            intro t ht hb
            by_cases e : t = r
            · subst e
              exact hno
            · exact hlow t (by omega) hb
          · skip
            refine xt_aln0 rfl (by first | decide | omega | assumption | (have := isWy_lt hw; omega)) ?_
            refine xt_gfr (q := (3, 2)) rfl (by first | exact SHw hw | exact SHw1 hw | exact SHw2 hw | exact SHw3 hw | exact SHw4 hw | exact SHw5 hw | exact SHw6 hw | rfl | assumption) rfl ?_
            refine xt_aln0 rfl (by first | decide | omega | assumption | (have := isWy_lt hw; omega)) ?_
            refine xt_gfr (q := (3, 5)) rfl (by first | exact SHw hw | exact SHw1 hw | exact SHw2 hw | exact SHw3 hw | exact SHw4 hw | exact SHw5 hw | exact SHw6 hw | rfl | assumption) rfl ?_
            refine xt_v2 (key := 397) (q := q_X3_keepNet) rfl rfl rfl rfl rfl ⟨Nat.le_of_ble_eq_true rfl, Nat.le_of_ble_eq_true rfl⟩ ⟨q + 3, by have := isWy_lt hw; omega, rfl, SHw3 hw, rfl⟩ (fun rv_ S1 M1 hq_57 => ?_)
            obtain ⟨eS_, eM_, rfl⟩ := hq_57 (q + 3) rfl
            replace eS_ := eS_.symm
            replace eM_ := eM_.symm
            subst eS_ eM_
            try dsimp only [Option.toList, List.cons_append, List.nil_append]
            refine xt_rv rfl (Nat.le_refl _) ?_
            intro q2 p2 f' s' g' hp2 hg' hF' e2
            simp only [List.cons.injEq, Sum.inr.injEq, Sum.inl.injEq, and_true] at e2
            obtain ⟨rfl, ea, eb⟩ := e2
            obtain ⟨k1, k2, -, -⟩ := fs_ok p2 hp2
            rw [nI_eq (by omega) (by omega)] at ea eb
            have ep := fs_inj p hp p2 hp2 ea eb
            subst ep
            have hF2 := FI_cg (by omega) (At_u hg' hg) hF'
            rcases hss with ⟨-, hsat, gg, z1, z2, z3, z4, z5⟩ | ⟨e, -⟩
            · refine ⟨rfl, fun j a b => by rw [x_row_ne _ _ b]; exact hfr3 j a, ⟨_, gg, fun j hj => ?_, FI_step hF2 hp hr13 hbit hlow hsat ⟨fun j hj => (z1 j hj).1, z2, z3, z4, z5⟩⟩, rfl⟩
              rw [x_row_self]
              unfold x_cp
              rw [if_pos hj]
              exact z1 j hj
            · cases e; exact absurd rfl hc_46
def q_X5_isFirstDrawn : x_K := (1, fun as S M => ∃ (q : Nat) , WP M q ∧ S = SH ∧ as = [.inr (.inl q)], fun as S M rv_ S' M' => ∀ (q : Nat) , as = [.inr (.inl q)] → S' = S ∧ Ed M q M' ∧ ((rv_ = some (.inl (nI 1)) ∧ Sat (tF M (wo q)) ∧ M' q 12 = nI 1) ∨ (rv_ = some (.inl (nI 0)) ∧ ¬ Sat (tF M (wo q)))), 0, 0)
theorem r_X5_isFirstDrawn : ∀ as S M, q_X5_isFirstDrawn.2.1 as S M → ∃ (k : Nat) (as' : List x_V) (fs : List (Option Nat)), as = .inr (.inl k) :: as' ∧ S[k]? = some (.inl (3, fs)) := by
  rintro as S M ⟨q, hp, rfl, rfl⟩
  exact ⟨q, _, _, rfl, SHw hp.1⟩
def b_X5_isFirstDrawn : x_B := [(0, 1, [(.aload_n 0, 1), (.invokevirtual 59, 3), (.ifCond .ne 5, 3), (.iconst 0, 1), (.ireturn, 1)]),
  (9, 1, [(.aload_n 0, 1), (.getfield 71, 3), (.ifCond .ne 53, 3), (.aload_n 0, 1), (.getfield 29, 3), (.iconst 0, 1), (.aload_n 0, 1), (.getfield 32, 3), (.iconst 0, 1), (.bipush 36, 2), (.invokestatic 75, 3), (.iconst 0, 1), (.istore_n 1, 1)]),
  (33, 2, [(.iload_n 1, 1), (.bipush 15, 2), (.if_icmp .ge 21, 3), (.aload_n 0, 1), (.iload_n 1, 1), (.invokestatic 81, 3), (.iload_n 1, 1), (.invokestatic 85, 3), (.invokevirtual 88, 3), (.iinc 1 1, 3), (.goto (-21), 3)]),
  (57, 2, [(.aload_n 0, 1), (.invokevirtual 92, 3), (.aload_n 0, 1), (.iconst 1, 1), (.putfield 71, 3)]),
  (66, 1, [(.iconst 1, 1), (.ireturn, 1)])]
theorem b_X5_isFirstDrawn_ok : x_okB cX5_isFirstDrawn 2 b_X5_isFirstDrawn = true := by decide +kernel
def X_X5_isFirstDrawn : x_X := ([(71, 3, 12), (29, 3, 4), (32, 3, 5)], [], [], [], [(178, q_X5_isPossible), (225, x_qC), (243, q_X1_firstOf), (255, q_X1_secondOf), (265, q_X5_takeLeast), (277, q_X5_numberEnds)], (0, 0), x_kn, x_kf, 5, false)
theorem X_X5_isFirstDrawn_ok : x_okT RX5 X_X5_isFirstDrawn = true := by decide +kernel
theorem k_X5_isFirstDrawn (l : Launch) : ∀ z ∈ X_X5_isFirstDrawn.2.2.2.2.1, x_Cal l (x_rm 22 0 0) cX5_isFirstDrawn RX5 2 z.1 z.2 := List.forall_mem_cons.mpr ⟨x_cal_V (idx := 59) (ci := 3) (n := 0) (c_X5_isPossible l) ⟨by decide, by decide⟩ (by decide +kernel) (by decide +kernel) (by decide +kernel) (by decide +kernel) (by decide +kernel) rfl rfl rfl (by decide +kernel) r_X5_isPossible, List.forall_mem_cons.mpr ⟨x_cal_C (idx := 75) ⟨by decide, by decide⟩ (by decide +kernel) (by decide +kernel) (by decide +kernel) (by decide +kernel), List.forall_mem_cons.mpr ⟨x_cal_S (idx := 81) (c_X1_firstOf l) ⟨by decide, by decide⟩ (by decide +kernel) (by decide +kernel) (by decide +kernel) (by decide +kernel) (by decide +kernel), List.forall_mem_cons.mpr ⟨x_cal_S (idx := 85) (c_X1_secondOf l) ⟨by decide, by decide⟩ (by decide +kernel) (by decide +kernel) (by decide +kernel) (by decide +kernel) (by decide +kernel), List.forall_mem_cons.mpr ⟨x_cal_V (idx := 88) (ci := 3) (n := 2) (c_X5_takeLeast l) ⟨by decide, by decide⟩ (by decide +kernel) (by decide +kernel) (by decide +kernel) (by decide +kernel) (by decide +kernel) rfl rfl rfl (by decide +kernel) r_X5_takeLeast, List.forall_mem_cons.mpr ⟨x_cal_V (idx := 92) (ci := 3) (n := 0) (c_X5_numberEnds l) ⟨by decide, by decide⟩ (by decide +kernel) (by decide +kernel) (by decide +kernel) (by decide +kernel) (by decide +kernel) rfl rfl rfl (by decide +kernel) r_X5_numberEnds, fun _ h => absurd h List.not_mem_nil⟩⟩⟩⟩⟩⟩
set_option maxHeartbeats 4000000 in
set_option maxRecDepth 100000 in
theorem c_X5_isFirstDrawn (l : Launch) : x_CT l yX5_isFirstDrawn cX5_isFirstDrawn 2 (some .boolean) 22 q_X5_isFirstDrawn := by
  refine x_meth (X := X_X5_isFirstDrawn) (bl := b_X5_isFirstDrawn) (cut := [33]) (own := RX5) 30 (by decide) rfl X_X5_isFirstDrawn_ok b_X5_isFirstDrawn_ok rfl (Nat.le_of_ble_eq_true rfl) (k_X5_isFirstDrawn l) ?_
  rintro as S M - ⟨q, hp, rfl, rfl⟩
  have hw := hp.1
  refine ⟨fun μ pc ls st S' M' cs sl => ∃ (p : Nat) (s g : Nat → Nat), p ≤ 15 ∧ Ed M q M' ∧ M' q 12 = nI 0 ∧ Sat (tF M (wo q)) ∧ At M' (q + 3) g ∧ FI (tF M (wo q)) p s g ∧ pc = 33 ∧ st = [] ∧ S' = SH ∧ cs = 0 ∧ sl = 0 ∧ ls = [.inr (.inl q), .inl (nI p)] ∧ μ = 15 - p, ?_, ?_⟩
  · skip
    refine xt_blk rfl rfl (by dsimp only [List.take]) ?_
    refine xt_aln0 rfl (by first | decide | omega | assumption | (have := isWy_lt hw; omega)) ?_
    refine xt_v1 (key := 178) (q := q_X5_isPossible) rfl rfl rfl rfl rfl ⟨Nat.le_of_ble_eq_true rfl, Nat.le_of_ble_eq_true rfl⟩ ⟨q, hp, rfl, rfl⟩ (fun rv_ S1 M1 hq_1 => ?_)
    obtain ⟨eS_, hEd, hpos⟩ := hq_1 q rfl
    replace eS_ := eS_.symm
    subst eS_
    have hex : ∃ v, rv_ = some (.inl v) := by rcases hpos with ⟨e, -⟩ | ⟨e, -⟩ <;> exact ⟨_, e⟩
    obtain ⟨v, rfl⟩ := hex
    try dsimp only [Option.toList, List.cons_append, List.nil_append]
    refine xt_ne (t := 9) rfl (fun hc_4 => ?_) (fun hc_4 => ?_)
    · skip
      refine xt_blk rfl rfl (by dsimp only [List.take]) ?_
      refine xt_aln0 rfl (by first | decide | omega | assumption | (have := isWy_lt hw; omega)) ?_
      refine xt_gfi (q := (3, 12)) rfl (by first | exact SHw hw | exact SHw1 hw | exact SHw2 hw | exact SHw3 hw | exact SHw4 hw | exact SHw5 hw | exact SHw6 hw | rfl | assumption) rfl ?_
      refine xt_ne (t := 66) rfl (fun hc_13 => ?_) (fun hc_13 => ?_)
      · skip
        refine xt_blk rfl rfl (by dsimp only [List.take]) ?_
        refine xt_ic ?_
        refine xt_rz (by decide) rfl (Nat.le_refl _) ?_
        intro q2 e2
        simp only [List.cons.injEq, Sum.inr.injEq, Sum.inl.injEq, and_true] at e2
        subst e2
        rcases hpos with ⟨-, z, -⟩ | ⟨e, -⟩
        · refine ⟨rfl, hEd, Or.inl ⟨rfl, z, ?_⟩⟩
          rcases hEd.2.2.2.2.2.2.2 with e | ⟨e, -⟩
          · rw [e] at hc_13; exact absurd rfl hc_13
          · exact e
        · cases e; exact absurd rfl hc_4
      · skip
        refine xt_aln0 rfl (by first | decide | omega | assumption | (have := isWy_lt hw; omega)) ?_
        refine xt_gfr (q := (3, 4)) rfl (by first | exact SHw hw | exact SHw1 hw | exact SHw2 hw | exact SHw3 hw | exact SHw4 hw | exact SHw5 hw | exact SHw6 hw | rfl | assumption) rfl ?_
        refine xt_ic ?_
        refine xt_aln0 rfl (by first | decide | omega | assumption | (have := isWy_lt hw; omega)) ?_
        refine xt_gfr (q := (3, 5)) rfl (by first | exact SHw hw | exact SHw1 hw | exact SHw2 hw | exact SHw3 hw | exact SHw4 hw | exact SHw5 hw | exact SHw6 hw | rfl | assumption) rfl ?_
        refine xt_ic ?_
        refine xt_bi ?_
        refine xt_v5 (key := 225) (q := x_qC) rfl rfl rfl rfl rfl ⟨Nat.le_of_ble_eq_true rfl, Nat.le_of_ble_eq_true rfl⟩ ⟨q + 2, q + 3, rfl, SHw2 hw, SHw3 hw⟩ (fun rv_ S1 M1 hq_28 => ?_)
        obtain ⟨er, eS_, eM_⟩ := hq_28
        replace eS_ := eS_.symm
        subst eS_
        have eM1 := eM_ (q + 2) (q + 3) rfl
        subst er
        subst eM1
        try dsimp only [Option.toList, List.cons_append, List.nil_append]
        refine xt_ic ?_
        refine xt_isn1 rfl (by dsimp only [x_sto]) ?_
        refine xt_nil (t := 33) rfl ?_
        refine xt_cut rfl rfl (by dsimp only [List.take]) ?_
        rcases hpos with ⟨-, hsat, hps⟩ | ⟨e, -⟩
        · obtain ⟨g, hg1, hcn⟩ := Ed_cn hEd (Or.inl hps)
          obtain ⟨hEd2, h122, h102, -⟩ := Ed_fst (M2 := x_row M1 (q + 3) (x_cp (M1 (q + 2)) (M1 (q + 3)) 36)) hw hEd (by rw [nI_0]; exact hc_13) (fun j a b => x_row_ne _ _ b)
          refine ⟨_, 0, _, g, by omega, hEd2, h122, hsat, ?_, FI_0 hcn (tF_ok hp.2.1 (wo_lt q)).2.2 hsat, rfl, rfl, rfl, rfl, rfl, rfl, rfl⟩
          intro j hj
          rw [x_row_self]
          unfold x_cp
          rw [if_pos hj]
          exact hg1 j hj
        · cases e; exact absurd rfl hc_4
    · skip
      refine xt_ic ?_
      refine xt_rz (by decide) rfl (Nat.le_refl _) ?_
      intro q2 e2
      simp only [List.cons.injEq, Sum.inr.injEq, Sum.inl.injEq, and_true] at e2
      subst e2
      rcases hpos with ⟨e, -⟩ | ⟨-, z⟩
      · cases e; exact absurd hc_4 (by decide)
      · exact ⟨rfl, hEd, Or.inr ⟨rfl, z⟩⟩
  · rintro μ pc ls st S2 M2 cs sl (⟨p, s, g, hp15, hEd, h12, hsat, hg, hF, rfl, rfl, rfl, rfl, rfl, rfl, rfl⟩)
    · refine ⟨_, rfl, ?_⟩
      refine xt_iln1 rfl ?_
      refine xt_bi ?_
      refine xt_cge (t := 57) rfl (fun hc_36 => ?_) (fun hc_36 => ?_)
      · skip
        have hp15 : p = 15 := by rw [nI_leI (by omega) (by omega)] at hc_36; omega
        refine xt_blk rfl rfl (by dsimp only [List.take]) ?_
        refine xt_aln0 rfl (by first | decide | omega | assumption | (have := isWy_lt hw; omega)) ?_
        refine xt_v1 (key := 277) (q := q_X5_numberEnds) rfl rfl rfl rfl rfl ⟨Nat.le_of_ble_eq_true rfl, Nat.le_of_ble_eq_true rfl⟩ ⟨q, g, hw, rfl, hg, rfl⟩ (fun rv_ S1 M1 hq_58 => ?_)
        obtain ⟨eS_, ⟨gI, eM_, hgI⟩, rfl⟩ := hq_58 q g hg rfl
        replace eS_ := eS_.symm
        replace eM_ := eM_.symm
        subst eS_ eM_
        try dsimp only [Option.toList, List.cons_append, List.nil_append]
        refine xt_aln0 rfl (by first | decide | omega | assumption | (have := isWy_lt hw; omega)) ?_
        refine xt_ic ?_
        refine xt_pfi (q := (3, 12)) rfl (by first | exact SHw hw | exact SHw1 hw | exact SHw2 hw | exact SHw3 hw | exact SHw4 hw | exact SHw5 hw | exact SHw6 hw | rfl | assumption) rfl (by decide) (Or.inr ⟨rfl, Or.inr rfl⟩) ?_
        refine xt_nil (t := 66) rfl ?_
        refine xt_blk rfl rfl (by dsimp only [List.take]) ?_
        refine xt_ic ?_
        refine xt_rz (by decide) rfl (Nat.le_refl _) ?_
        intro q2 e2
        simp only [List.cons.injEq, Sum.inr.injEq, Sum.inl.injEq, and_true] at e2
        subst e2
        subst hp15
        obtain ⟨w1, ⟨gg, g1, g2, g3⟩, w3, w4, w5⟩ := hEd.2.2.2
        have q1 : x_row M2 (q + 6) gI (q + 1) = M2 (q + 1) := x_row_ne _ _ (by omega)
        refine ⟨rfl, Ed_next hw hEd (fun k a b => by rw [x_row_ne _ _ (by omega), x_row_ne _ _ (by omega)]) (by simp [x_row_c, upd]) (by simp [x_row_c, upd]) ⟨?_, ⟨gg, ?_, g2, ?_⟩, ?_, ?_, ?_⟩, Or.inl ⟨rfl, hsat, by simp [x_row_c, upd]⟩⟩
        · intro j hj; rw [x_row_ne _ _ (by omega), x_row_ne _ _ (by omega)]; exact w1 j hj
        · intro j hj; rw [x_row_ne _ _ (by omega), x_row_ne _ _ (by omega)]; exact g1 j hj
        · unfold PoV at g3 ⊢; rw [x_row_self, x_row_ne _ _ (by omega)]; simpa [upd] using g3
        · intro x y hx hy hxy; rw [x_row_ne _ _ (by omega), x_row_ne _ _ (by omega)]; exact w3 x y hx hy hxy
        · unfold CoV at w4 ⊢; rw [x_row_self, x_row_ne _ _ (by omega)]; simpa [upd] using w4
        · refine Or.inr ⟨by simp [x_row_c, upd], s, g, fun j hj => ?_, hF, fun e he => ?_⟩
          · rw [x_row_ne _ _ (by omega), x_row_ne _ _ (by omega)]; exact hg j hj
          · rw [x_row_ne _ _ (by omega), x_row_self]; exact hgI e he
      · skip
        have hp15 : p < 15 := by rw [nI_leI (by omega) (by omega)] at hc_36; omega
        refine xt_aln0 rfl (by first | decide | omega | assumption | (have := isWy_lt hw; omega)) ?_
        refine xt_iln1 rfl ?_
        refine xt_v1 (key := 243) (q := q_X1_firstOf) rfl rfl rfl rfl rfl ⟨Nat.le_of_ble_eq_true rfl, Nat.le_of_ble_eq_true rfl⟩ ⟨p, hp15, rfl⟩ (fun rv_ S1 M1 hq_41 => ?_)
        obtain ⟨eS_, eM_, rfl⟩ := hq_41 p hp15 rfl
        replace eS_ := eS_.symm
        replace eM_ := eM_.symm
        subst eS_ eM_
        try dsimp only [Option.toList, List.cons_append, List.nil_append]
        refine xt_iln1 rfl ?_
        refine xt_v1 (key := 255) (q := q_X1_secondOf) rfl rfl rfl rfl rfl ⟨Nat.le_of_ble_eq_true rfl, Nat.le_of_ble_eq_true rfl⟩ ⟨p, hp15, rfl⟩ (fun rv_ S1 M1 hq_45 => ?_)
        obtain ⟨eS_, eM_, rfl⟩ := hq_45 p hp15 rfl
        replace eS_ := eS_.symm
        replace eM_ := eM_.symm
        subst eS_ eM_
        try dsimp only [Option.toList, List.cons_append, List.nil_append]
        refine xt_v3 (key := 265) (q := q_X5_takeLeast) rfl rfl rfl rfl rfl ⟨Nat.le_of_ble_eq_true rfl, Nat.le_of_ble_eq_true rfl⟩ ⟨q, p, tF M (wo q), s, g, hw, rfl, hp15, hg, hF, rfl⟩ (fun rv_ S1 M1 hq_48 => ?_)
        obtain ⟨eS_, hfr, ⟨s', g', hg', hF'⟩, rfl⟩ := hq_48 q p (tF M (wo q)) s g hp15 hg hF rfl
        replace eS_ := eS_.symm
        subst eS_
        obtain ⟨hEd2, h122, h102, -⟩ := Ed_fst hw hEd h12 hfr
        try dsimp only [Option.toList, List.cons_append, List.nil_append]
        refine xt_inc rfl (by dsimp only [x_sto]) ?_
        refine xt_goto (t := 33) rfl ?_
        refine xt_cut rfl rfl (by dsimp only [List.take]) ?_
        refine ⟨15 - (p + 1), by omega, p + 1, s', g', by omega, hEd2, h122, hsat, hg', hF', rfl, rfl, rfl, rfl, rfl, by rw [nI_add], rfl⟩
end
section
/-! WAY: findCore, coreBits -/
theorem ckF_le (A B s : Nat → Nat) (n : Nat) : ∀ j kept, ckF A B s n kept j ≤ kept
  | 0, kept => Nat.le_refl _
  | j + 1, kept => by
    unfold ckF
    refine Nat.le_trans (ckF_le A B s n j _) ?_
    by_cases h : kept.testBit j = true ∧ ¬ Sat (wnF A B s (clr kept j) n)
    · rw [if_pos h]; exact clr_le _ _
    · rw [if_neg h]; exact Nat.le_refl _
theorem ckF_y {A B s : Nat → Nat} {n kept j : Nat} (h1 : kept.testBit j = true) (h2 : ¬ Sat (wnF A B s (clr kept j) n)) : ckF A B s n kept (j + 1) = ckF A B s n (clr kept j) j := by
  show ckF A B s n _ j = _
  rw [if_pos ⟨h1, h2⟩]
theorem ckF_n {A B s : Nat → Nat} {n kept j : Nat} (h : kept.testBit j = true → Sat (wnF A B s (clr kept j) n)) : ckF A B s n kept (j + 1) = ckF A B s n kept j := by
  show ckF A B s n _ j = _
  rw [if_neg (fun q => q.2 (h q.1))]
theorem tbf_30 (t : Nat → Int32) {n : Nat} (hn : n ≤ 30) : tbf t n < 2 ^ 30 := Nat.lt_of_lt_of_le (tbf_lt _ _) (Nat.pow_le_pow_right (by decide) hn)
theorem coM_lt {M : x_M} (h : OkM M) (w : Nat) : coM M w < 2 ^ 30 := Nat.lt_of_le_of_lt (ckF_le _ _ _ _ _ _) (tbf_30 _ h.1)
theorem n_clr {w p : Nat} (hw : w < 2 ^ 31) (hp : p < 30) : nI w &&& (nI 1 <<< (nI p &&& 31) ^^^ -(nI 1)) = nI (clr w p) := by
  have hpw : 2 ^ p < 2 ^ 31 := Nat.pow_lt_pow_right (by decide) (by omega)
  rw [n_shl (by omega) (by omega), Nat.one_mul, n_andn _ _ hw hpw]; rfl
theorem clr_id {w p : Nat} (hp : p < 32) (h : clr w p = w) : ¬ w.testBit p = true := by
  have := clr_tb (w := w) (p := p) (i := p) hp
  rw [h] at this
  intro q
  rw [q] at this
  simp at this
theorem clr_nid {w p : Nat} (hw : w < 2 ^ 32) (h : clr w p ≠ w) : w.testBit p = true := by
  cases q : w.testBit p
  · exfalso
    apply h
    apply Nat.eq_of_testBit_eq
    intro i
    by_cases hi : i < 32
    · rw [clr_tb hi]
      by_cases e : p = i
      · subst e; rw [q]; simp
      · simp [e]
    · have h1 : w.testBit i = false := Nat.testBit_lt_two_pow (Nat.lt_of_lt_of_le hw (Nat.pow_le_pow_right (by decide) (by omega)))
      have h2 : (clr w p).testBit i = false := Nat.testBit_lt_two_pow (Nat.lt_of_le_of_lt (clr_le w p) (Nat.lt_of_lt_of_le hw (Nat.pow_le_pow_right (by decide) (by omega))))
      rw [h1, h2]
  · rfl
theorem n_s1 (i : Nat) : nI (i + 1) - nI 1 = nI i := by rw [← nI_add, Int32.add_sub_cancel]
theorem n_m1 {j : Nat} (hj : j < 2 ^ 31) : (nI j - nI 1 < nI 0) ↔ j = 0 := by
  cases j with
  | zero => decide
  | succ j => rw [n_s1, nI_ltI (by omega) (by omega)]; omega
def q_X5_findCore : x_K := (1, fun as S M => ∃ (q : Nat), isWy q ∧ OkM M ∧ M q 0 = nI (wo q) ∧ S = SH ∧ as = [.inr (.inl q)],
  fun as S M rv_ S' M' => ∀ (q : Nat), as = [.inr (.inl q)] → S' = S ∧ (∀ j, j < 10 ∨ 25 < j → j ≠ q + 4 → M' j = M j) ∧ rv_ = some (.inl (nI (coM M (wo q)))), 0, 0)
theorem r_X5_findCore : ∀ as S M, q_X5_findCore.2.1 as S M → ∃ (k : Nat) (as' : List x_V) (fs : List (Option Nat)), as = .inr (.inl k) :: as' ∧ S[k]? = some (.inl (3, fs)) := by
  rintro as S M ⟨q, hw, -, -, rfl, rfl⟩
  exact ⟨q, _, _, rfl, SHw hw⟩
def b_X5_findCore : x_B := [(0, 1, [(.aload_n 0, 1), (.getfield 15, 3), (.invokevirtual 112, 3), (.istore_n 1, 1), (.aload_n 0, 1), (.getfield 15, 3), (.invokevirtual 129, 3), (.iconst 1, 1), (.isub, 1), (.istore_n 2, 1)]),
  (18, 3, [(.iload_n 2, 1), (.ifCond .lt 67, 3), (.iload_n 1, 1), (.iconst 1, 1), (.iload_n 2, 1), (.ishl, 1), (.iconst (-1), 1), (.ixor, 1), (.iand, 1), (.istore_n 3, 1), (.iload_n 3, 1), (.iload_n 1, 1), (.if_icmp .eq 48, 3), (.aload_n 0, 1), (.getfield 15, 3), (.aload_n 0, 1), (.getfield 9, 3), (.iload_n 3, 1), (.aload_n 0, 1), (.getfield 35, 3), (.invokevirtual 115, 3), (.aload_n 0, 1), (.getfield 35, 3), (.sipush 32767, 3), (.invokestatic 119, 3), (.ifCond .eq 17, 3), (.aload_n 0, 1), (.getfield 19, 3), (.aload_n 0, 1), (.getfield 35, 3), (.invokevirtual 53, 3), (.ifCond .ne 5, 3)]),
  (78, 4, [(.iload_n 3, 1), (.istore_n 1, 1)]),
  (80, 4, [(.iinc 2 (-1), 3), (.goto (-65), 3)]),
  (86, 3, [(.iload_n 1, 1), (.ireturn, 1)])]
theorem b_X5_findCore_ok : x_okB cX5_findCore 4 b_X5_findCore = true := by decide +kernel
def X_X5_findCore : x_X := ([(15, 3, 1), (9, 3, 0), (35, 3, 6), (19, 3, 2)], [], [], [], [(337, q_X4_toldBits), (388, q_X4_size), (346, q_X4_writeNet), (357, q_X1_close), (160, q_X3_canHold)], (0, 0), x_kn, x_kf, 5, false)
theorem X_X5_findCore_ok : x_okT RX5 X_X5_findCore = true := by decide +kernel
theorem k_X5_findCore (l : Launch) : ∀ z ∈ X_X5_findCore.2.2.2.2.1, x_Cal l (x_rm 21 0 0) cX5_findCore RX5 4 z.1 z.2 := List.forall_mem_cons.mpr ⟨x_cal_V (idx := 112) (ci := 2) (n := 0) (c_X4_toldBits l) ⟨by decide, by decide⟩ (by decide +kernel) (by decide +kernel) (by decide +kernel) (by decide +kernel) (by decide +kernel) rfl rfl rfl (by decide +kernel) r_X4_toldBits, List.forall_mem_cons.mpr ⟨x_cal_V (idx := 129) (ci := 2) (n := 0) (c_X4_size l) ⟨by decide, by decide⟩ (by decide +kernel) (by decide +kernel) (by decide +kernel) (by decide +kernel) (by decide +kernel) rfl rfl rfl (by decide +kernel) r_X4_size, List.forall_mem_cons.mpr ⟨x_cal_V (idx := 115) (ci := 2) (n := 3) (c_X4_writeNet l) ⟨by decide, by decide⟩ (by decide +kernel) (by decide +kernel) (by decide +kernel) (by decide +kernel) (by decide +kernel) rfl rfl rfl (by decide +kernel) r_X4_writeNet, List.forall_mem_cons.mpr ⟨x_cal_S (idx := 119) (c_X1_close l) ⟨by decide, by decide⟩ (by decide +kernel) (by decide +kernel) (by decide +kernel) (by decide +kernel) (by decide +kernel), List.forall_mem_cons.mpr ⟨x_cal_V (idx := 53) (ci := 1) (n := 1) (c_X3_canHold l) ⟨by decide, by decide⟩ (by decide +kernel) (by decide +kernel) (by decide +kernel) (by decide +kernel) (by decide +kernel) rfl rfl rfl (by decide +kernel) r_X3_canHold, fun _ h => absurd h List.not_mem_nil⟩⟩⟩⟩⟩
set_option maxHeartbeats 4000000 in
set_option maxRecDepth 100000 in
theorem c_X5_findCore (l : Launch) : x_CT l yX5_findCore cX5_findCore 4 (some .int) 21 q_X5_findCore := by
  refine x_meth (X := X_X5_findCore) (bl := b_X5_findCore) (cut := [18]) (own := RX5) 30 (by decide) rfl X_X5_findCore_ok b_X5_findCore_ok rfl (Nat.le_of_ble_eq_true rfl) (k_X5_findCore l) ?_
  rintro as S M - ⟨q, hw, hok, hw0, rfl, rfl⟩
  refine ⟨fun μ pc ls st S' M' cs sl => ∃ (j kept : Nat), j ≤ nN M ∧ kept < 2 ^ 30 ∧ ckF (nA M) (nB M) (nS M (wo q)) (nN M) kept j = coM M (wo q) ∧ (∀ j, j < 10 ∨ 25 < j → j ≠ q + 4 → M' j = M j) ∧ pc = 18 ∧ st = [] ∧ S' = SH ∧ cs = 0 ∧ sl = 0 ∧ ls = [.inr (.inl q), .inl (nI kept), .inl (nI j - nI 1)] ∧ μ = j + 1, ?_, ?_⟩
  · skip
    refine xt_blk rfl rfl (by dsimp only [List.take]) ?_
    refine xt_aln0 rfl (by first | decide | omega | assumption | (have := isWy_lt hw; omega)) ?_
    refine xt_gfr (q := (3, 1)) rfl (by first | exact SHw hw | exact SHw1 hw | exact SHw2 hw | exact SHw3 hw | exact SHw4 hw | exact SHw5 hw | exact SHw6 hw | rfl | assumption) rfl ?_
    refine xt_v1 (key := 337) (q := q_X4_toldBits) rfl rfl rfl rfl rfl ⟨Nat.le_of_ble_eq_true rfl, Nat.le_of_ble_eq_true rfl⟩ ⟨rfl, ⟨nN M, hok.1, hok.2.1⟩, rfl⟩ (fun rv_ S1 M1 hq_4 => ?_)
    obtain ⟨eS_, eM_, rfl⟩ := hq_4 (nN M) hok.1 hok.2.1 rfl
    replace eS_ := eS_.symm
    replace eM_ := eM_.symm
    subst eS_ eM_
    try dsimp only [Option.toList, List.cons_append, List.nil_append]
    refine xt_isn1 rfl (by dsimp only [x_sto]) ?_
    refine xt_aln0 rfl (by first | decide | omega | assumption | (have := isWy_lt hw; omega)) ?_
    refine xt_gfr (q := (3, 1)) rfl (by first | exact SHw hw | exact SHw1 hw | exact SHw2 hw | exact SHw3 hw | exact SHw4 hw | exact SHw5 hw | exact SHw6 hw | rfl | assumption) rfl ?_
    refine xt_v1 (key := 388) (q := q_X4_size) rfl rfl rfl rfl rfl ⟨Nat.le_of_ble_eq_true rfl, Nat.le_of_ble_eq_true rfl⟩ ⟨rfl, rfl⟩ (fun rv_ S1 M1 hq_12 => ?_)
    obtain ⟨eS_, eM_, rfl⟩ := hq_12 rfl
    replace eS_ := eS_.symm
    replace eM_ := eM_.symm
    subst eS_ eM_
    try dsimp only [Option.toList, List.cons_append, List.nil_append]
    refine xt_ic ?_
    refine xt_sub ?_
    refine xt_isn2 rfl (by dsimp only [x_sto]) ?_
    refine xt_nil (t := 18) rfl ?_
    refine xt_cut rfl rfl (by dsimp only [List.take]) ?_
    refine ⟨_, nN M, _, Nat.le_refl _, tbf_30 (M 7) hok.1, rfl, fun _ _ _ => rfl, rfl, rfl, rfl, rfl, rfl, by rw [hok.2.1], rfl⟩
  · rintro μ pc ls st S2 M2 cs sl (⟨j, kept, hj, hk, hck, hfr, rfl, rfl, rfl, rfl, rfl, rfl, rfl⟩)
    · refine ⟨_, rfl, ?_⟩
      refine xt_iln2 rfl ?_
      refine xt_lt (t := 86) rfl (fun hc_19 => ?_) (fun hc_19 => ?_)
      · skip
        refine xt_blk rfl rfl (by dsimp only [List.take]) ?_
        refine xt_iln1 rfl ?_
        refine xt_ri rfl (Nat.le_refl _) ?_
        intro q2 e2
        simp only [List.cons.injEq, Sum.inr.injEq, Sum.inl.injEq, and_true] at e2
        subst e2
        have hj0 : j = 0 := (n_m1 (by have := hok.1; omega)).mp hc_19
        subst hj0
        exact ⟨rfl, hfr, by rw [← hck]; rfl⟩
      · skip
        have hj0 : j ≠ 0 := fun e => hc_19 ((n_m1 (by have := hok.1; omega)).mpr e)
        obtain ⟨i, rfl⟩ : ∃ i, j = i + 1 := ⟨j - 1, by omega⟩
        have hn30 := hok.1
        have hi30 : i < 30 := by omega
        have ej : nI (i + 1) - nI 1 = nI i := n_s1 i
        rw [ej]
        have enc := n_clr (w := kept) (p := i) (by omega) hi30
        have hcl : clr kept i < 2 ^ 30 := Nat.lt_of_le_of_lt (clr_le _ _) hk
        refine xt_iln1 rfl ?_
        refine xt_ic ?_
        refine xt_iln2 rfl ?_
        refine xt_shl ?_
        refine xt_icm rfl ?_
        refine xt_xor ?_
        refine xt_and ?_
        refine xt_isn3 rfl (by dsimp only [x_sto]) ?_
        refine xt_iln3 rfl ?_
        refine xt_iln1 rfl ?_
        refine xt_ceq (t := 80) rfl (fun hc_32 => ?_) (fun hc_32 => ?_)
        · skip
          refine xt_blk rfl rfl (by dsimp only [List.take]) ?_
          refine xt_dec rfl rfl (by dsimp only [x_sto]) ?_
          refine xt_goto (t := 18) rfl ?_
          refine xt_cut rfl rfl (by dsimp only [List.take]) ?_
          rw [enc, nI_eq (by omega) (by omega)] at hc_32
          refine ⟨i + 1, by omega, i, kept, by omega, hk, ?_, hfr, rfl, rfl, rfl, rfl, rfl, by rw [Int32.sub_eq_add_neg], rfl⟩
          rw [← hck]
          exact (ckF_n (fun q => absurd q (clr_id (by omega) hc_32))).symm
        · skip
          rw [enc, nI_eq (by omega) (by omega)] at hc_32
          rw [enc]
          have hbit := clr_nid (by omega) hc_32
          have hst7 : St7 M M2 := fun k hk => hfr k (by omega) (by rcases hw with rfl | rfl <;> omega)
          have hsz2 : M2 1 4 = nI (nN M) := by rw [hst7 1 (by decide)]; exact hok.2.1
          have hst2 : Sts M2 (wo q) (nN M) (nA M) (nB M) (nS M (wo q)) := fun i hi => by
            rw [hst7 2 (by decide), hst7 3 (by decide), hst7 (5 + wo q) (by have := wo_lt q; omega)]
            exact hok.2.2 _ (wo_lt q) i hi
          have hw2 : M2 q 0 = nI (wo q) := by rw [hfr q (by rcases hw with rfl | rfl <;> omega) (by omega)]; exact hw0
          refine xt_aln0 rfl (by first | decide | omega | assumption | (have := isWy_lt hw; omega)) ?_
          refine xt_gfr (q := (3, 1)) rfl (by first | exact SHw hw | exact SHw1 hw | exact SHw2 hw | exact SHw3 hw | exact SHw4 hw | exact SHw5 hw | exact SHw6 hw | rfl | assumption) rfl ?_
          refine xt_aln0 rfl (by first | decide | omega | assumption | (have := isWy_lt hw; omega)) ?_
          refine xt_gfi (q := (3, 0)) rfl (by first | exact SHw hw | exact SHw1 hw | exact SHw2 hw | exact SHw3 hw | exact SHw4 hw | exact SHw5 hw | exact SHw6 hw | rfl | assumption) rfl ?_
          refine xt_iln3 rfl ?_
          refine xt_aln0 rfl (by first | decide | omega | assumption | (have := isWy_lt hw; omega)) ?_
          refine xt_gfr (q := (3, 6)) rfl (by first | exact SHw hw | exact SHw1 hw | exact SHw2 hw | exact SHw3 hw | exact SHw4 hw | exact SHw5 hw | exact SHw6 hw | rfl | assumption) rfl ?_
          refine xt_v4 (key := 346) (q := q_X4_writeNet) rfl rfl rfl rfl rfl ⟨Nat.le_of_ble_eq_true rfl, Nat.le_of_ble_eq_true rfl⟩ ⟨wo q, clr kept i, q + 4, nN M, nA M, nB M, nS M (wo q), wo_lt q, hcl, by have := isWy_lt hw; omega, rfl, SHw4 hw, hok.1, hsz2, hst2, by rw [hw2]⟩ (fun rv_ S1 M1 hq_48 => ?_)
          obtain ⟨eS_, ⟨gI, eM_, hgI⟩, rfl⟩ := hq_48 (wo q) (clr kept i) (q + 4) (nN M) (nA M) (nB M) (nS M (wo q)) (wo_lt q) hcl hok.1 hsz2 hst2 (by rw [hw2])
          replace eS_ := eS_.symm
          replace eM_ := eM_.symm
          subst eS_ eM_
          have htF := wnF_ok (c := clr kept i) (OkM_n hok (wo_lt q)) _ (Nat.le_refl _)
          try dsimp only [Option.toList, List.cons_append, List.nil_append]
          refine xt_aln0 rfl (by first | decide | omega | assumption | (have := isWy_lt hw; omega)) ?_
          refine xt_gfr (q := (3, 6)) rfl (by first | exact SHw hw | exact SHw1 hw | exact SHw2 hw | exact SHw3 hw | exact SHw4 hw | exact SHw5 hw | exact SHw6 hw | rfl | assumption) rfl ?_
          refine xt_si ?_
          refine xt_v2 (key := 357) (q := q_X1_close) rfl rfl rfl rfl rfl ⟨Nat.le_of_ble_eq_true rfl, Nat.le_of_ble_eq_true rfl⟩ ⟨q + 4, 32767, wnF (nA M) (nB M) (nS M (wo q)) (clr kept i) (nN M), by have := isWy_lt hw; omega, by decide, SHw4 hw, (fun j hj => ⟨htF.1 j hj, by rw [x_row_self]; exact hgI j hj⟩), htF.2.1, IV_all _, NE_all _, rfl⟩ (fun rv_ S1 M1 hq_58 => ?_)
          obtain ⟨eS_, gI2, eM_, hcc⟩ := hq_58 (q + 4) 32767 (wnF (nA M) (nB M) (nS M (wo q)) (clr kept i) (nN M)) (fun j hj => ⟨htF.1 j hj, by rw [x_row_self]; exact hgI j hj⟩) rfl
          replace eS_ := eS_.symm
          replace eM_ := eM_.symm
          subst eS_ eM_
          rw [x_row_row]
          have hfr2 : ∀ j, j < 10 ∨ 25 < j → j ≠ q + 4 → x_row M2 (q + 4) gI2 j = M j := fun j a b => by rw [x_row_ne _ _ b]; exact hfr j a b
          have hex : ∃ v, rv_ = some (.inl v) := by rcases hcc with ⟨e, -⟩ | ⟨e, -⟩ <;> exact ⟨_, e⟩
          obtain ⟨v, rfl⟩ := hex
          try dsimp only [Option.toList, List.cons_append, List.nil_append]
          refine xt_eq (t := 78) rfl (fun hc_61 => ?_) (fun hc_61 => ?_)
          · skip
            refine xt_blk rfl rfl (by dsimp only [List.take]) ?_
            refine xt_iln3 rfl ?_
            refine xt_isn1 rfl (by dsimp only [x_sto]) ?_
            refine xt_nil (t := 80) rfl ?_
            refine xt_blk rfl rfl (by dsimp only [List.take]) ?_
            refine xt_dec rfl rfl (by dsimp only [x_sto]) ?_
            refine xt_goto (t := 18) rfl ?_
            refine xt_cut rfl rfl (by dsimp only [List.take]) ?_
            refine ⟨i + 1, by omega, i, clr kept i, by omega, hcl, ?_, hfr2, rfl, rfl, rfl, rfl, rfl, by rw [Int32.sub_eq_add_neg], rfl⟩
            rw [← hck]
            refine (ckF_y hbit ?_).symm
            rcases hcc with ⟨e, -⟩ | ⟨-, -, z⟩
            · cases e; exact absurd hc_61 (by decide)
            · exact Sat_fail z
          · skip
            have hcn : ∃ gg, At (x_row M2 (q + 4) gI2) (q + 4) gg ∧ Cn (wnF (nA M) (nB M) (nS M (wo q)) (clr kept i) (nN M)) gg := by
              rcases hcc with ⟨-, gg, z1, z2, z3, z4, z5, z6⟩ | ⟨e, -⟩
              · exact ⟨gg, fun j hj => ⟨z1 j hj, by rw [x_row_self]; exact z2 j hj⟩, z1, z3, z4, z5, z6⟩
              · cases e; exact absurd rfl hc_61
            obtain ⟨gg, hg1, hcn⟩ := hcn
            refine xt_aln0 rfl (by first | decide | omega | assumption | (have := isWy_lt hw; omega)) ?_
            refine xt_gfr (q := (3, 2)) rfl (by first | exact SHw hw | exact SHw1 hw | exact SHw2 hw | exact SHw3 hw | exact SHw4 hw | exact SHw5 hw | exact SHw6 hw | rfl | assumption) rfl ?_
            refine xt_aln0 rfl (by first | decide | omega | assumption | (have := isWy_lt hw; omega)) ?_
            refine xt_gfr (q := (3, 6)) rfl (by first | exact SHw hw | exact SHw1 hw | exact SHw2 hw | exact SHw3 hw | exact SHw4 hw | exact SHw5 hw | exact SHw6 hw | rfl | assumption) rfl ?_
            refine xt_v2 (key := 160) (q := q_X3_canHold) rfl rfl rfl rfl rfl ⟨Nat.le_of_ble_eq_true rfl, Nat.le_of_ble_eq_true rfl⟩ ⟨q + 4, gg, by have := isWy_lt hw; omega, rfl, SHw4 hw, hg1, hcn.2.1, hcn.2.2.1, hcn.2.2.2.1, rfl⟩ (fun rv_ S1 M1 hq_72 => ?_)
            obtain ⟨eS_, hfr3, hss⟩ := hq_72 (q + 4) gg hg1 rfl
            replace eS_ := eS_.symm
            subst eS_
            have hfr4 : ∀ j, j < 10 ∨ 25 < j → j ≠ q + 4 → M1 j = M j := fun j a b => (hfr3 j a).trans (hfr2 j a b)
            have hex : ∃ v, rv_ = some (.inl v) := by rcases hss with ⟨e, -⟩ | ⟨e, -⟩ <;> exact ⟨_, e⟩
            obtain ⟨v2, rfl⟩ := hex
            try dsimp only [Option.toList, List.cons_append, List.nil_append]
            refine xt_ne (t := 80) rfl (fun hc_75 => ?_) (fun hc_75 => ?_)
            · skip
              refine xt_blk rfl rfl (by dsimp only [List.take]) ?_
              refine xt_dec rfl rfl (by dsimp only [x_sto]) ?_
              refine xt_goto (t := 18) rfl ?_
              refine xt_cut rfl rfl (by dsimp only [List.take]) ?_
              refine ⟨i + 1, by omega, i, kept, by omega, hk, ?_, hfr4, rfl, rfl, rfl, rfl, rfl, by rw [Int32.sub_eq_add_neg], rfl⟩
              rw [← hck]
              refine (ckF_n (fun _ => ?_)).symm
              rcases hss with ⟨-, z⟩ | ⟨e, -⟩
              · exact (Cn_sat hcn).mpr z
              · cases e; exact absurd rfl hc_75
            · skip
              refine xt_nil (t := 78) rfl ?_
              refine xt_blk rfl rfl (by dsimp only [List.take]) ?_
              refine xt_iln3 rfl ?_
              refine xt_isn1 rfl (by dsimp only [x_sto]) ?_
              refine xt_nil (t := 80) rfl ?_
              refine xt_blk rfl rfl (by dsimp only [List.take]) ?_
              refine xt_dec rfl rfl (by dsimp only [x_sto]) ?_
              refine xt_goto (t := 18) rfl ?_
              refine xt_cut rfl rfl (by dsimp only [List.take]) ?_
              refine ⟨i + 1, by omega, i, clr kept i, by omega, hcl, ?_, hfr4, rfl, rfl, rfl, rfl, rfl, by rw [Int32.sub_eq_add_neg], rfl⟩
              rw [← hck]
              refine (ckF_y hbit ?_).symm
              rcases hss with ⟨e, -⟩ | ⟨-, z⟩
              · cases e; exact absurd hc_75 (by decide)
              · exact fun y => z ((Cn_sat hcn).mp y)
def q_X5_coreBits : x_K := (1, fun as S M => ∃ (q : Nat) , WP M q ∧ S = SH ∧ as = [.inr (.inl q)], fun as S M rv_ S' M' => ∀ (q : Nat) , as = [.inr (.inl q)] → S' = S ∧ Ed M q M' ∧ ((Sat (tF M (wo q)) ∧ rv_ = some (.inl (nI 0))) ∨ (¬ Sat (tF M (wo q)) ∧ rv_ = some (.inl (nI (coM M (wo q)))))), 0, 0)
theorem r_X5_coreBits : ∀ as S M, q_X5_coreBits.2.1 as S M → ∃ (k : Nat) (as' : List x_V) (fs : List (Option Nat)), as = .inr (.inl k) :: as' ∧ S[k]? = some (.inl (3, fs)) := by
  rintro as S M ⟨q, hp, rfl, rfl⟩
  exact ⟨q, _, _, rfl, SHw hp.1⟩
def b_X5_coreBits : x_B := [(0, 1, [(.aload_n 0, 1), (.invokevirtual 59, 3), (.ifCond .eq 5, 3), (.iconst 0, 1), (.ireturn, 1)]),
  (9, 1, [(.aload_n 0, 1), (.getfield 100, 3), (.iconst (-1), 1), (.if_icmp .ne 11, 3), (.aload_n 0, 1), (.aload_n 0, 1), (.invokevirtual 103, 3), (.putfield 100, 3)]),
  (25, 1, [(.aload_n 0, 1), (.getfield 100, 3), (.ireturn, 1)])]
theorem b_X5_coreBits_ok : x_okB cX5_coreBits 1 b_X5_coreBits = true := by decide +kernel
def X_X5_coreBits : x_X := ([(100, 3, 11)], [], [], [], [(178, q_X5_isPossible), (310, q_X5_findCore)], (0, 0), x_kn, x_kf, 5, false)
theorem X_X5_coreBits_ok : x_okT RX5 X_X5_coreBits = true := by decide +kernel
theorem k_X5_coreBits (l : Launch) : ∀ z ∈ X_X5_coreBits.2.2.2.2.1, x_Cal l (x_rm 22 0 0) cX5_coreBits RX5 1 z.1 z.2 := List.forall_mem_cons.mpr ⟨x_cal_V (idx := 59) (ci := 3) (n := 0) (c_X5_isPossible l) ⟨by decide, by decide⟩ (by decide +kernel) (by decide +kernel) (by decide +kernel) (by decide +kernel) (by decide +kernel) rfl rfl rfl (by decide +kernel) r_X5_isPossible, List.forall_mem_cons.mpr ⟨x_cal_V (idx := 103) (ci := 3) (n := 0) (c_X5_findCore l) ⟨by decide, by decide⟩ (by decide +kernel) (by decide +kernel) (by decide +kernel) (by decide +kernel) (by decide +kernel) rfl rfl rfl (by decide +kernel) r_X5_findCore, fun _ h => absurd h List.not_mem_nil⟩⟩
set_option maxHeartbeats 4000000 in
set_option maxRecDepth 100000 in
theorem c_X5_coreBits (l : Launch) : x_CT l yX5_coreBits cX5_coreBits 1 (some .int) 22 q_X5_coreBits := by
  refine x_meth (X := X_X5_coreBits) (bl := b_X5_coreBits) (cut := []) (own := RX5) 30 (by decide) rfl X_X5_coreBits_ok b_X5_coreBits_ok rfl (Nat.le_of_ble_eq_true rfl) (k_X5_coreBits l) ?_
  rintro as S M - ⟨q, hp, rfl, rfl⟩
  have hw := hp.1
  refine ⟨fun _ _ _ _ _ _ _ _ => False, ?_, ?_⟩
  · skip
    refine xt_blk rfl rfl (by dsimp only [List.take]) ?_
    refine xt_aln0 rfl (by first | decide | omega | assumption | (have := isWy_lt hw; omega)) ?_
    refine xt_v1 (key := 178) (q := q_X5_isPossible) rfl rfl rfl rfl rfl ⟨Nat.le_of_ble_eq_true rfl, Nat.le_of_ble_eq_true rfl⟩ ⟨q, hp, rfl, rfl⟩ (fun rv_ S1 M1 hq_1 => ?_)
    obtain ⟨eS_, hEd, hpos⟩ := hq_1 q rfl
    replace eS_ := eS_.symm
    subst eS_
    have hex : ∃ v, rv_ = some (.inl v) := by rcases hpos with ⟨e, -⟩ | ⟨e, -⟩ <;> exact ⟨_, e⟩
    obtain ⟨v, rfl⟩ := hex
    try dsimp only [Option.toList, List.cons_append, List.nil_append]
    refine xt_eq (t := 9) rfl (fun hc_4 => ?_) (fun hc_4 => ?_)
    · skip
      refine xt_blk rfl rfl (by dsimp only [List.take]) ?_
      refine xt_aln0 rfl (by first | decide | omega | assumption | (have := isWy_lt hw; omega)) ?_
      refine xt_gfi (q := (3, 11)) rfl (by first | exact SHw hw | exact SHw1 hw | exact SHw2 hw | exact SHw3 hw | exact SHw4 hw | exact SHw5 hw | exact SHw6 hw | rfl | assumption) rfl ?_
      refine xt_icm rfl ?_
      refine xt_cne (t := 25) rfl (fun hc_14 => ?_) (fun hc_14 => ?_)
      · skip
        refine xt_blk rfl rfl (by dsimp only [List.take]) ?_
        refine xt_aln0 rfl (by first | decide | omega | assumption | (have := isWy_lt hw; omega)) ?_
        refine xt_gfi (q := (3, 11)) rfl (by first | exact SHw hw | exact SHw1 hw | exact SHw2 hw | exact SHw3 hw | exact SHw4 hw | exact SHw5 hw | exact SHw6 hw | rfl | assumption) rfl ?_
        refine xt_ri rfl (Nat.le_refl _) ?_
        intro q2 e2
        simp only [List.cons.injEq, Sum.inr.injEq, Sum.inl.injEq, and_true] at e2
        subst e2
        have hns : ¬ Sat (tF M (wo q)) := by
          rcases hpos with ⟨e, -⟩ | ⟨-, z⟩
          · cases e; exact absurd hc_4 (by decide)
          · exact z
        refine ⟨rfl, hEd, Or.inr ⟨hns, ?_⟩⟩
        rcases hEd.2.2.2.2.2.2.1 with e | ⟨-, e⟩
        · exact absurd e hc_14
        · rw [e]
      · skip
        refine xt_aln0 rfl (by first | decide | omega | assumption | (have := isWy_lt hw; omega)) ?_
        refine xt_aln0 rfl (by first | decide | omega | assumption | (have := isWy_lt hw; omega)) ?_
        refine xt_v1 (key := 310) (q := q_X5_findCore) rfl rfl rfl rfl rfl ⟨Nat.le_of_ble_eq_true rfl, Nat.le_of_ble_eq_true rfl⟩ ⟨q, hw, (Ed_WP hp hEd).2.1, (Ed_WP hp hEd).2.2.1, rfl, rfl⟩ (fun rv_ S1 M_2 hq_19 => ?_)
        have h7 := Ed_7 hw hEd
        obtain ⟨eS_, hfr, eR⟩ := hq_19 q rfl
        rw [(St7_w h7 (wo_lt q)).2.2.2.2.2] at eR
        subst eR
        replace eS_ := eS_.symm
        subst eS_
        have hq : ∀ k, q ≤ k → k ≠ q + 4 → M_2 k = M1 k := fun k hk hn => hfr k (by rcases hw with rfl | rfl <;> omega) hn
        have hEd2 : Ed M q M_2 := Ed_next hw hEd (fun k a b => hfr k a (by omega)) (by rw [hq q (by omega) (by omega)]) (by rw [hq q (by omega) (by omega)]) (WW_keep hEd.2.2.2 (fun k a _ c => hq k a c))
        try dsimp only [Option.toList, List.cons_append, List.nil_append]
        refine xt_pfi (q := (3, 11)) rfl (by first | exact SHw hw | exact SHw1 hw | exact SHw2 hw | exact SHw3 hw | exact SHw4 hw | exact SHw5 hw | exact SHw6 hw | rfl | assumption) rfl (by decide) (Or.inl rfl) ?_
        refine xt_nil (t := 25) rfl ?_
        refine xt_blk rfl rfl (by dsimp only [List.take]) ?_
        refine xt_aln0 rfl (by first | decide | omega | assumption | (have := isWy_lt hw; omega)) ?_
        refine xt_gfi (q := (3, 11)) rfl (by first | exact SHw hw | exact SHw1 hw | exact SHw2 hw | exact SHw3 hw | exact SHw4 hw | exact SHw5 hw | exact SHw6 hw | rfl | assumption) rfl ?_
        refine xt_ri rfl (Nat.le_refl _) ?_
        intro q2 e2
        simp only [List.cons.injEq, Sum.inr.injEq, Sum.inl.injEq, and_true] at e2
        subst e2
        have hns : ¬ Sat (tF M (wo q)) := by
          rcases hpos with ⟨e, -⟩ | ⟨-, z⟩
          · cases e; exact absurd hc_4 (by decide)
          · exact z
        have hcl := coM_lt hp.2.1 (wo q)
        obtain ⟨w1, ⟨gg, g1, g2, g3⟩, w3, w4, w5⟩ := hEd2.2.2.2
        refine ⟨rfl, Ed_next hw hEd2 (fun k a b => by rw [x_row_ne _ _ (by omega)]) (by simp [x_row_c, upd]) (by simp [x_row_c, upd]) ⟨?_, ⟨gg, ?_, g2, ?_⟩, ?_, ?_, ?_⟩, Or.inr ⟨hns, by rw [x_row_self]; simp [upd]⟩⟩
        · intro j hj; rw [x_row_ne _ _ (by omega)]; exact w1 j hj
        · intro j hj; rw [x_row_ne _ _ (by omega)]; exact g1 j hj
        · unfold PoV at g3 ⊢; rw [x_row_self]; simpa [upd] using g3
        · intro x y hx hy hxy; rw [x_row_ne _ _ (by omega)]; exact w3 x y hx hy hxy
        · exact Or.inr ⟨by omega, by rw [x_row_self]; simp [upd]⟩
        · unfold FiV At at w5 ⊢; rw [x_row_self, x_row_ne _ _ (show q + 3 ≠ q by omega), x_row_ne _ _ (show q + 6 ≠ q by omega)]; simpa [upd] using w5
    · skip
      refine xt_ic ?_
      refine xt_ri rfl (Nat.le_refl _) ?_
      intro q2 e2
      simp only [List.cons.injEq, Sum.inr.injEq, Sum.inl.injEq, and_true] at e2
      subst e2
      rcases hpos with ⟨-, z, -⟩ | ⟨e, -⟩
      · exact ⟨rfl, hEd, Or.inl ⟨z, rfl⟩⟩
      · cases e; exact absurd rfl hc_4
  · intro μ pc ls st S2 M2 cs sl h; exact h.elim
end
section
/-! WHAT IS ASKED: the state that calls show, and the answers as functions of it -/
noncomputable def cif {α : Type} (p : Prop) (a b : α) : α := @ite α p (Classical.propDecidable p) a b
theorem cif_t {α : Type} {p : Prop} {a b : α} (h : p) : cif p a b = a := if_pos h
theorem cif_f {α : Type} {p : Prop} {a b : α} (h : ¬ p) : cif p a b = b := if_neg h
def vM (M : x_M) : x_M := fun k j => if k = 1 then (if j = 4 then M 1 4 else 0) else if k = 2 ∨ k = 3 ∨ k = 5 ∨ k = 6 ∨ k = 7 ∨ k = 41 ∨ k = 42 ∨ k = 52 then M k j else if 43 < k ∧ k < 52 ∧ j < 2 then M k j else 0
def cM (M : x_M) : x_M := fun k j => if k = 1 then (if j = 4 then M 53 4 else 0) else if k = 2 then M 58 j else if k = 3 then M 59 j else if k = 5 then M 60 (2 * j) else if k = 6 then M 60 (2 * j + 1) else if k = 7 then M 61 j else if k = 41 then M 64 j else if k = 42 then M 63 j else if k = 52 then M 65 j else if 43 < k ∧ k < 52 ∧ j < 2 then M 62 (2 * (k - 44) + j) else 0
theorem vM_cg {M M' : x_M} (h : ∀ k, k < 8 ∨ (40 < k ∧ k < 53) → M' k = M k) : vM M' = vM M := by
  funext k j
  unfold vM
  rw [h 1 (by omega)]
  split
  · rfl
  · split
    · rw [h k (by omega)]
    · split
      · rw [h k (by omega)]
      · rfl
theorem cM_cg {M M' : x_M} (h : ∀ k, 52 < k → k < 66 → M' k = M k) : cM M' = cM M := by
  funext k j
  unfold cM
  rw [h 53 (by omega) (by omega), h 58 (by omega) (by omega), h 59 (by omega) (by omega), h 60 (by omega) (by omega), h 61 (by omega) (by omega), h 62 (by omega) (by omega), h 63 (by omega) (by omega), h 64 (by omega) (by omega), h 65 (by omega) (by omega)]
theorem vM_k {M M' : x_M} {k : Nat} (h : k ≠ 1) (e : M k = M' k) : vM M k = vM M' k := by
  funext j; unfold vM; rw [if_neg h, if_neg h, e]
theorem vM_k1 {M M' : x_M} (e : M 1 4 = M' 1 4) : vM M 1 = vM M' 1 := by
  funext j; show (if j = 4 then M 1 4 else 0) = (if j = 4 then M' 1 4 else 0); rw [e]
theorem vM_14 (M : x_M) : vM M 1 4 = M 1 4 := rfl
theorem vM_2 (M : x_M) : vM M 2 = M 2 := rfl
theorem vM_3 (M : x_M) : vM M 3 = M 3 := rfl
theorem vM_5 (M : x_M) : vM M 5 = M 5 := rfl
theorem vM_6 (M : x_M) : vM M 6 = M 6 := rfl
theorem vM_7 (M : x_M) : vM M 7 = M 7 := rfl
theorem vM_41 (M : x_M) : vM M 41 = M 41 := rfl
theorem vM_42 (M : x_M) : vM M 42 = M 42 := rfl
theorem vM_52 (M : x_M) : vM M 52 = M 52 := rfl
theorem vM_w (M : x_M) {w j : Nat} (hw : w < 8) (hj : j < 2) : vM M (44 + w) j = M (44 + w) j := by
  unfold vM; rw [if_neg (by omega), if_neg (by omega), if_pos (by omega)]
theorem vM_s (M : x_M) {w : Nat} (hw : w < 2) : vM M (5 + w) = M (5 + w) := by
  have : w = 0 ∨ w = 1 := by omega
  rcases this with rfl | rfl <;> rfl
theorem nN_v (M : x_M) : nN (vM M) = nN M := rfl
theorem nA_v (M : x_M) : nA (vM M) = nA M := rfl
theorem nB_v (M : x_M) : nB (vM M) = nB M := rfl
theorem nS_v (M : x_M) {w : Nat} (hw : w < 2) : nS (vM M) w = nS M w := by funext i; unfold nS; rw [vM_s M hw]
theorem tF_v (M : x_M) {w : Nat} (hw : w < 2) : tF (vM M) w = tF M w := by unfold tF; rw [nS_v M hw]; rfl
theorem coM_v (M : x_M) {w : Nat} (hw : w < 2) : coM (vM M) w = coM M w := by unfold coM; rw [nS_v M hw]; rfl
theorem Sts_v {M : x_M} {w n : Nat} {A B s : Nat → Nat} (hw : w < 2) : Sts (vM M) w n A B s ↔ Sts M w n A B s := by unfold Sts; rw [vM_s M hw]; exact Iff.rfl
theorem OkM_v {M : x_M} : OkM (vM M) ↔ OkM M := by
  unfold OkM
  constructor
  · rintro ⟨a, b, c⟩
    exact ⟨a, b, fun w hw => by have := c w hw; rw [nS_v M hw, Sts_v hw] at this; exact this⟩
  · rintro ⟨a, b, c⟩
    exact ⟨a, b, fun w hw => by rw [nS_v M hw, Sts_v hw]; exact c w hw⟩
theorem bxr_v (M : x_M) (w a b : Nat) : bxr (vM M) w a b = bxr M w a b := rfl
/-! changes of what is shown -/
theorem vM_ref (M : x_M) (p : Nat) : vM (mRef M p) = mRef (vM M) p := by
  funext k j
  unfold mRef
  by_cases h : k = 52
  · subst h; rw [x_row_self]; show (x_row M 52 (upd (M 52) p (M 52 p + nI 1))) 52 j = _; rw [x_row_self]; rfl
  · rw [x_row_ne _ _ h]; unfold vM; rw [x_row_ne _ _ (show 1 ≠ 52 by decide), x_row_ne _ _ h]
def vAdd (V : x_M) (n : Nat) (a b o u : Int32) : x_M := fun k => if k = 1 then upd (V 1) 4 (nI (n + 1)) else if k = 7 then upd (V 7) n (nI 1) else if k = 6 then upd (V 6) n u else if k = 5 then upd (V 5) n o else if k = 3 then upd (V 3) n b else if k = 2 then upd (V 2) n a else V k
theorem vM_add (M : x_M) (n : Nat) (a b o u : Int32) : vM (mAdd M n a b o u) = vAdd (vM M) n a b o u := by
  funext k j
  unfold vAdd
  by_cases h1 : k = 1
  · subst h1
    rw [if_pos rfl]
    show (if j = 4 then nI (n + 1) else 0) = (if j = 4 then nI (n + 1) else (if j = 4 then M 1 4 else 0))
    split <;> rfl
  · rw [if_neg h1]
    by_cases h7 : k = 7
    · subst h7; rfl
    · rw [if_neg h7]
      by_cases h6 : k = 6
      · subst h6; rfl
      · rw [if_neg h6]
        by_cases h5 : k = 5
        · subst h5; rfl
        · rw [if_neg h5]
          by_cases h3 : k = 3
          · subst h3; rfl
          · rw [if_neg h3]
            by_cases h2 : k = 2
            · subst h2; rfl
            · rw [if_neg h2]
              have e : mAdd M n a b o u k = M k := by unfold mAdd; rw [if_neg h1, if_neg h7, if_neg h6, if_neg h5, if_neg h3, if_neg h2]
              rw [vM_k h1 e]
def vSil (V : x_M) (i : Nat) (x : Int32) : x_M := x_row V 7 (upd (V 7) i (tl x))
theorem upd_id (f : Nat → Int32) (i : Nat) (v : Int32) (h : f i = v) : upd f i v = f := by
  funext j; unfold upd; split
  · rename_i e; rw [e, h]
  · rfl
theorem vM_sil (M : x_M) (i : Nat) (x : Int32) : vM (mSil M i x) = vSil (vM M) i x := by
  unfold mSil vSil
  by_cases h : M 7 i = tl x
  · rw [if_pos h, upd_id (vM M 7) _ _ h, x_row_id]
  · rw [if_neg h]
    funext k j
    by_cases h7 : k = 7
    · subst h7; rw [x_row_self]; rfl
    · rw [x_row_ne _ _ h7]
      by_cases h1 : k = 1
      · subst h1; exact congrFun (vM_k1 (M' := M) rfl) j
      · exact congrFun (vM_k (M' := M) h1 ((if_neg h7).trans (if_neg h1))) j
theorem vM_row42 (M : x_M) (f : Nat → Int32) : vM (x_row M 42 f) = x_row (vM M) 42 f := by
  funext k j
  by_cases h : k = 42
  · subst h; rw [x_row_self]; show x_row M 42 f 42 j = _; rw [x_row_self]
  · rw [x_row_ne _ _ h]; unfold vM; rw [x_row_ne _ _ (show 1 ≠ 42 by decide), x_row_ne _ _ h]
theorem vM_draw (M : x_M) (t : Nat) (a z b y : Int32) : vM (mDraw M t a z b y) = mDraw (vM M) t a z b y := by
  funext k j
  unfold mDraw
  by_cases h : k = 42
  · subst h; rfl
  · rw [if_neg h]
    by_cases h2 : k = 41
    · subst h2; rfl
    · rw [if_neg h2]
      by_cases h1 : k = 1
      · subst h1; exact congrFun (vM_k1 (M' := M) rfl) j
      · exact congrFun (vM_k (M' := M) h1 ((if_neg h).trans (if_neg h2))) j
def vWrd (V : x_M) (w j : Nat) (x : Int32) : x_M := x_row V (44 + w) (upd (V (44 + w)) j x)
theorem vM_wrd (M : x_M) {w j : Nat} (hw : w < 8) (hj : j < 2) (x : Int32) : vM (x_row M (44 + w) (upd (M (44 + w)) j x)) = vWrd (vM M) w j x := by
  funext k i
  unfold vWrd
  by_cases h : k = 44 + w
  · subst h
    rw [x_row_self]
    unfold vM upd
    simp only []
    rw [x_row_self]
    by_cases e : i = j
    · subst e; rw [if_neg (by omega), if_neg (by omega), if_pos ⟨by omega, by omega, hj⟩, if_pos rfl, if_pos rfl]
    · rw [if_neg (show ¬ (44 + w = 1) by omega), if_neg (show ¬ (44 + w = 1) by omega), if_neg e, if_neg e]
  · rw [x_row_ne _ _ h]
    by_cases h1 : k = 1
    · subst h1; rw [vM_k1 (M' := M) (by rw [x_row_ne _ _ (by omega)])]
    · rw [vM_k (M' := M) h1 (x_row_ne _ _ h)]
/-! the answers -/
def rf (V : x_M) (p : Nat) : Int32 × x_M := (-(nI p), mRef V p)
noncomputable def clF (f : Nat → Nat) : Nat → Nat := Classical.epsilon (Cl f)
theorem clF_e {f g : Nat → Nat} (h : Cl f g) {a b : Nat} (ha : a < 6) (hb : b < 6) (hab : a ≠ b) : g (a * 6 + b) = clF f (a * 6 + b) := Cl_u h (Classical.epsilon_spec (p := Cl f) ⟨g, h⟩) ha hb hab
noncomputable def caF (f : Nat → Nat) (a b : Nat) : Nat := Classical.epsilon (CanV f a b)
theorem caF_e {f : Nat → Nat} {a b v : Nat} (h : CanV f a b v) : v = caF f a b := CanV_u h (Classical.epsilon_spec (p := CanV f a b) ⟨v, h⟩)
noncomputable def fsF (f : Nat → Nat) : Nat → Nat := Classical.epsilon (Fs f)
theorem fsF_e {f s : Nat → Nat} (h : Fs f s) : ∀ q, q < 15 → s q = fsF f q := Fs_u h (Classical.epsilon_spec (p := Fs f) ⟨s, h⟩)
theorem fsF_lt {f s : Nat → Nat} (h : Fs f s) : ∀ q, q < 15 → fsF f q < 13 := fun q hq => by
  have : s q = fsF f q := fsF_e h q hq
  obtain ⟨⟨P, -, -, e⟩, -⟩ := h
  rw [← this, ← e q hq]; exact rl_lt P q
/-- the net of a drawing -/
def dn (s : Nat → Nat) : Nat → Nat := fun j => 2 ^ rel s (j / 6) (j % 6)
def rkG (s : Nat → Nat) (e : Nat) : Nat := rkf (dn s) e 12
noncomputable def spTurned (V : x_M) (x : Int32) : Int32 × x_M := cif (Th 8192 x) (nI (tn (nv x)), V) (rf V 2)
noncomputable def spComposed (V : x_M) (x y : Int32) : Int32 × x_M := cif (Th 8192 x) (cif (Th 8192 y) (nI (cm (nv x) (nv y)), V) (rf V 2)) (rf V 2)
noncomputable def spNear (V : x_M) (x y : Int32) : Int32 × x_M := cif (Th 13 x) (cif (Th 13 y) (nI (bi (neT (nv x)) (nv y)), V) (rf V 1)) (rf V 1)
noncomputable def spSteps (V : x_M) (x y : Int32) : Int32 × x_M := cif (Th 13 x) (cif (Th 13 y) (nI (stp (nv x) (nv y)), V) (rf V 1)) (rf V 1)
noncomputable def spAdd (V : x_M) (a b o u : Int32) : Int32 × x_M := cif (nN V = 30) (rf V 6) (nI (nN V), vAdd V (nN V) a b o u)
noncomputable def spTell (V : x_M) (a b o u : Int32) : Int32 × x_M := cif (Two a b) (cif (Th 8192 o) (cif (Th 8192 u) (spAdd V a b o u) (rf V 2)) (rf V 2)) (rf V 1)
noncomputable def spSilent (V : x_M) (s x : Int32) : Int32 × x_M := cif (Th (nN V) s) (cif (V 7 (nv s) = tl x) (nI 0) (nI 1), vSil V (nv s) x) (rf V 1)
noncomputable def spStatement (V : x_M) (s w : Int32) : Int32 × x_M := cif (Th (nN V) s) (cif (w = nI 0) (V 2 (nv s), V) (cif (w = nI 1) (V 3 (nv s), V) (cif (w = nI 2) (V 5 (nv s), V) (cif (w = nI 3) (V 6 (nv s), V) (cif (w = nI 4) (V 7 (nv s), V) (rf V 2)))))) (rf V 1)
noncomputable def spAl (V : x_M) (w a b : Int32) (v : Int32) : Int32 × x_M := cif (Two a b) (cif (Th 2 w) (v, V) (rf V 2)) (rf V 1)
noncomputable def spTold (V : x_M) (w a b : Int32) : Int32 × x_M := spAl V w a b (nI (tF V (nv w) (nv a * 6 + nv b)))
noncomputable def spClosed (V : x_M) (w a b : Int32) : Int32 × x_M := spAl V w a b (nI (clF (tF V (nv w)) (nv a * 6 + nv b)))
noncomputable def spCanBe (V : x_M) (w : Int32) : Int32 × x_M := cif (Th 2 w) (cif (Sat (tF V (nv w))) (nI 1, V) (nI 0, V)) (rf V 2)
noncomputable def spCan (V : x_M) (w a b : Int32) : Int32 × x_M := spAl V w a b (nI (caF (tF V (nv w)) (nv a) (nv b)))
noncomputable def spDrawing (V : x_M) (w t e : Int32) : Int32 × x_M := cif (Th 6 t) (cif (Th 2 w) (cif (Th 2 e) (cif (Sat (tF V (nv w))) (nI (rkG (fsF (tF V (nv w))) (nv t * 2 + nv e)), V) (-(nI 9), V)) (rf V 2)) (rf V 2)) (rf V 1)
noncomputable def spDrawn (V : x_M) (w a b : Int32) : Int32 × x_M := spAl V w a b (cif (Sat (tF V (nv w))) (nI (rel (fsF (tF V (nv w))) (nv a) (nv b))) (-(nI 9)))
noncomputable def spCore (V : x_M) (w : Int32) : Int32 × x_M := cif (Th 2 w) (cif (Sat (tF V (nv w))) (nI 0, V) (nI (coM V (nv w)), V)) (rf V 2)
noncomputable def spWord (V : x_M) (w y s : Int32) : Int32 × x_M := cif (Th 8 w) (cif (Th 2 y) (cif (Th 8192 s) (V (44 + nv w) (nv y), vWrd V (nv w) (nv y) s) (rf V 2)) (rf V 2)) (rf V 1)
noncomputable def spSay (V : x_M) (w a b : Int32) : Int32 × x_M := cif (Th 8 w) (cif (Two a b) (spAdd V a b (V (44 + nv w) 0) (V (44 + nv w) 1)) (rf V 1)) (rf V 1)
noncomputable def aska (V : x_M) (w a b : Nat) : Int32 := cif (caF (tF V 0) a b &&& nv (V (44 + w) 0) = 0 ∨ caF (tF V 1) a b &&& nv (V (44 + w) 1) = 0) (nI 0) (cif (caF (tF V 0) a b &&& nv (V (44 + w) 0) = caF (tF V 0) a b ∧ caF (tF V 1) a b &&& nv (V (44 + w) 1) = caF (tF V 1) a b) (nI 1) (nI 2))
noncomputable def spAsk (V : x_M) (w a b : Int32) : Int32 × x_M := cif (Th 8 w) (cif (Two a b) (cif (Sat (tF V 0) ∧ Sat (tF V 1)) (aska V (nv w) (nv a) (nv b), V) (-(nI 9), V)) (rf V 1)) (rf V 1)
noncomputable def spBox (V : x_M) (t a z b y : Int32) : Int32 × x_M := cif (Th 6 t) (cif (a < nI 0 ∨ b < nI 0 ∨ z ≤ a ∨ y ≤ b) (rf V 4) (cif (nI 99 < z ∨ nI 99 < y) (rf V 6) (cif (V 42 (nv t) = 0) (nI 1) (nI 0), mDraw V (nv t) a z b y))) (rf V 1)
noncomputable def spRub (V : x_M) (t : Int32) : Int32 × x_M := cif (Th 6 t) (cif (V 42 (nv t) = 0) (rf V 3) (nI 1, x_row V 42 (upd (V 42) (nv t) (nI 0)))) (rf V 1)
def Bth (V : x_M) (a b : Int32) : Prop := V 42 (nv a) ≠ 0 ∧ V 42 (nv b) ≠ 0
noncomputable def spRead (V : x_M) (w a b : Int32) : Int32 × x_M := cif (Two a b) (cif (Th 2 w) (cif (Bth V a b) (nI (bxr V (nv w) (nv a) (nv b)), V) (rf V 3)) (rf V 2)) (rf V 1)
def agr (V : x_M) (a b : Nat) (o u : Nat) : Prop := bi o (bxr V 0 a b) = 1 ∧ bi u (bxr V 1 a b) = 1
noncomputable def spHolds (V : x_M) (w a b : Int32) : Int32 × x_M := cif (Th 8 w) (cif (Two a b) (cif (Bth V a b) (cif (agr V (nv a) (nv b) (nv (V (44 + nv w) 0)) (nv (V (44 + nv w) 1))) (nI 1) (nI 0), V) (rf V 3)) (rf V 1)) (rf V 1)
def msf (V : x_M) (i : Nat) : Prop := V 7 i ≠ 0 ∧ V 42 (nA V i) ≠ 0 ∧ V 42 (nB V i) ≠ 0 ∧ ¬ agr V (nA V i) (nB V i) (nS V 0 i) (nS V 1 i)
noncomputable def fit (V : x_M) : Nat → Nat
  | 0 => 0
  | i + 1 => cif (msf V i) (fit V i + 1) (fit V i)
noncomputable def spFits (V : x_M) : Int32 × x_M := (nI (fit V (nN V)), V)
noncomputable def spMoved (V : x_M) (w a b : Int32) : Int32 × x_M := cif (Two a b) (cif (Th 2 w) (cif (Bth V a b) (cif (Sat (tF V (nv w))) (nI (stp (bxr V (nv w) (nv a) (nv b)) (rel (fsF (tF V (nv w))) (nv a) (nv b))), V) (-(nI 9), V)) (rf V 3)) (rf V 2)) (rf V 1)
noncomputable def spCount (V : x_M) (w : Int32) : Int32 × x_M := cif (w = nI 0) (V 1 4, V) (cif (w = nI 1) (nI (cnz (V 7) (nN V)), V) (cif (w = nI 2) (nI (cnz (V 42) 6), V) (cif (nI 11 ≤ w ∧ w ≤ nI 16) (V 52 (nv w - 10), V) (-(nI 9), V))))
/-! what holds of the state -/
def Vok (V : x_M) : Prop := OkM V ∧ (∀ j, j < 30 → V 7 j = nI 0 ∨ V 7 j = nI 1) ∧ (∀ j, j < 6 → V 42 j = nI 0 ∨ V 42 j = nI 1) ∧ (∀ w j, w < 8 → j < 2 → Th 8192 (V (44 + w) j)) ∧ (∀ t, t < 6 → V 42 t ≠ 0 → V 41 (t * 4) < V 41 (t * 4 + 1) ∧ V 41 (t * 4 + 2) < V 41 (t * 4 + 3))
def Cnt (c : Nat) (M : x_M) : Prop := ∃ n, n ≤ c ∧ M 1 5 = nI n ∧ ∀ q, isWy q → M q 9 = -(nI 1) ∨ ∃ k, k ≤ n ∧ M q 9 = nI k
def CW (c : Nat) (M : x_M) : Prop := WP M 26 ∧ WP M 33 ∧ Cnt c M
def CI (c : Nat) (M : x_M) : Prop := CW c M ∧ Vok (vM M)
def CEnd (M M' : x_M) (rv : Option x_V) (p : Int32 × x_M) : Prop := (∀ k, 52 < k → M' k = M k) ∧ (∀ c, c < 2 ^ 20 → CI c M → CW (c + 1) M') ∧ rv = some (.inl p.1) ∧ vM M' = p.2
theorem Cnt_mono {c : Nat} {M : x_M} (h : Cnt c M) : Cnt (c + 1) M := by
  obtain ⟨n, a, b⟩ := h
  exact ⟨n, by omega, b⟩
theorem w26 : isWy 26 := Or.inl rfl
theorem w33 : isWy 33 := Or.inr rfl
theorem WP_keep {M M' : x_M} {q : Nat} (hp : WP M q) (h : ∀ k, k < 8 ∨ (q ≤ k ∧ k ≤ q + 6) → M' k = M k) : WP M' q := by
  obtain ⟨a1, a2, a3, a4⟩ := hp
  have h7 : St7 M M' := fun k hk => h k (Or.inl hk)
  obtain ⟨-, -, -, -, e5, e6⟩ := St7_w h7 (wo_lt q)
  refine ⟨a1, St7_ok h7 a2, by rw [h q (by omega)]; exact a3, fun e => ?_⟩
  rw [e5, e6]
  rw [h q (by omega), h 1 (by omega)] at e
  exact WW_keep (a4 e) (fun k x y _ => h k (by omega))
theorem CW_keep {c : Nat} {M M' : x_M} (h : CW c M) (h1 : ∀ k, k < 8 ∨ (25 < k ∧ k < 40) → M' k = M k) : CW (c + 1) M' := by
  obtain ⟨a, b, n, c1, c2, c3⟩ := h
  refine ⟨WP_keep a (fun k hk => h1 k (by omega)), WP_keep b (fun k hk => h1 k (by omega)), n, by omega, by rw [h1 1 (by omega)]; exact c2, fun q hq => ?_⟩
  rw [h1 q (by rcases hq with rfl | rfl <;> omega)]
  exact c3 q hq
theorem CE_same (M : x_M) (v : Int32) : CEnd M M (some (.inl v)) (v, vM M) := ⟨fun _ _ => rfl, fun c _ h => CW_keep h.1 (fun _ _ => rfl), rfl, rfl⟩
theorem CE_ref (M : x_M) (p : Nat) : CEnd M (mRef M p) (some (.inl (-(nI p)))) (rf (vM M) p) :=
  ⟨fun k hk => x_row_ne _ _ (by omega), fun c _ h => CW_keep h.1 (fun k hk => x_row_ne _ _ (by omega)), rfl, vM_ref M p⟩
theorem CE_way {M M' : x_M} {q : Nat} {v v2 : Int32} (hw : isWy q) (h : Ed M q M') (hv : v = v2) : CEnd M M' (some (.inl v)) (v2, vM M) := by
  subst hv
  refine ⟨fun k hk => h.1 k (by omega) (by rcases hw with rfl | rfl <;> omega), fun c _ hc => ?_, rfl, vM_cg (fun k hk => h.1 k (by omega) (by rcases hw with rfl | rfl <;> omega))⟩
  obtain ⟨⟨a, b, n, c1, c2, c3⟩, -⟩ := hc
  have e1 : M' 1 = M 1 := h.1 1 (by omega) (by rcases hw with rfl | rfl <;> omega)
  rcases hw with rfl | rfl
  · refine ⟨Ed_WP a h, WP_keep b (fun k hk => h.1 k (by omega) (by omega)), n, by omega, by rw [e1]; exact c2, fun q hq => ?_⟩
    rcases hq with rfl | rfl
    · exact Or.inr ⟨n, Nat.le_refl _, by rw [h.2.2.1]; exact c2⟩
    · rw [h.1 33 (by omega) (by omega)]; exact c3 33 w33
  · refine ⟨WP_keep a (fun k hk => h.1 k (by omega) (by omega)), Ed_WP b h, n, by omega, by rw [e1]; exact c2, fun q hq => ?_⟩
    rcases hq with rfl | rfl
    · rw [h.1 26 (by omega) (by omega)]; exact c3 26 w26
    · exact Or.inr ⟨n, Nat.le_refl _, by rw [h.2.2.1]; exact c2⟩
end
