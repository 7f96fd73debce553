section
-- ===== PART A: goes FIRST, ahead of the names: the tables' words, and 'selects' of the private methods out of them =====
/-- a private method of a class that the tables say can be made, by its rows of tables_1 -/
def lw_okq (q : MethodName × Nat) : Prop := (q.1.cls ≠ "java/lang/invoke/MethodHandle" ∧ q.1.cls ≠ "java/lang/invoke/VarHandle") ∧ Cond.instantiable q.1.cls q.2 ∈ tables_1 ∧ Cond.privateMethod q.1 ∈ tables_1 ∧ Cond.instanceMethod q.1 ∈ tables_1
theorem lw_p0 : lw_okq (⟨"OilWatch", "shipLeftAt", "(I)Z"⟩, 14) := ⟨⟨by decide +kernel, by decide +kernel⟩, List.mem_of_getElem? (i := 14) (by decide +kernel), List.mem_of_getElem? (i := 242) (by decide +kernel), List.mem_of_getElem? (i := 243) (by decide +kernel)⟩
theorem lw_p1 : lw_okq (⟨"OilWatch$Booms", "limitBothSides", "(III)V"⟩, 4) := ⟨⟨by decide +kernel, by decide +kernel⟩, List.mem_of_getElem? (i := 34) (by decide +kernel), List.mem_of_getElem? (i := 273) (by decide +kernel), List.mem_of_getElem? (i := 274) (by decide +kernel)⟩
theorem lw_p2 : lw_okq (⟨"OilWatch", "passHour", "(LOilWatch$Slick;II)V"⟩, 14) := ⟨⟨by decide +kernel, by decide +kernel⟩, List.mem_of_getElem? (i := 14) (by decide +kernel), List.mem_of_getElem? (i := 334) (by decide +kernel), List.mem_of_getElem? (i := 335) (by decide +kernel)⟩
theorem lw_p3 : lw_okq (⟨"OilWatch", "driftAndLose", "(LOilWatch$Slick;II)V"⟩, 14) := ⟨⟨by decide +kernel, by decide +kernel⟩, List.mem_of_getElem? (i := 14) (by decide +kernel), List.mem_of_getElem? (i := 338) (by decide +kernel), List.mem_of_getElem? (i := 339) (by decide +kernel)⟩
theorem lw_p4 : lw_okq (⟨"OilWatch$Sky", "at", "(II)I"⟩, 1) := ⟨⟨by decide +kernel, by decide +kernel⟩, List.mem_of_getElem? (i := 54) (by decide +kernel), List.mem_of_getElem? (i := 346) (by decide +kernel), List.mem_of_getElem? (i := 347) (by decide +kernel)⟩
theorem lw_p5 : lw_okq (⟨"OilWatch", "driftAll", "(LOilWatch$Slick;II)V"⟩, 14) := ⟨⟨by decide +kernel, by decide +kernel⟩, List.mem_of_getElem? (i := 14) (by decide +kernel), List.mem_of_getElem? (i := 354) (by decide +kernel), List.mem_of_getElem? (i := 355) (by decide +kernel)⟩
theorem lw_p6 : lw_okq (⟨"OilWatch", "driftFrom", "(LOilWatch$Slick;III)V"⟩, 14) := ⟨⟨by decide +kernel, by decide +kernel⟩, List.mem_of_getElem? (i := 14) (by decide +kernel), List.mem_of_getElem? (i := 361) (by decide +kernel), List.mem_of_getElem? (i := 362) (by decide +kernel)⟩
theorem lw_p7 : lw_okq (⟨"OilWatch", "loseByAge", "(LOilWatch$Slick;I)V"⟩, 14) := ⟨⟨by decide +kernel, by decide +kernel⟩, List.mem_of_getElem? (i := 14) (by decide +kernel), List.mem_of_getElem? (i := 370) (by decide +kernel), List.mem_of_getElem? (i := 371) (by decide +kernel)⟩
theorem lw_p8 : lw_okq (⟨"OilWatch", "spreadPossible", "(LOilWatch$Ship;I)V"⟩, 14) := ⟨⟨by decide +kernel, by decide +kernel⟩, List.mem_of_getElem? (i := 14) (by decide +kernel), List.mem_of_getElem? (i := 391) (by decide +kernel), List.mem_of_getElem? (i := 392) (by decide +kernel)⟩
theorem lw_p9 : lw_okq (⟨"OilWatch", "harmAhead", "(II)I"⟩, 14) := ⟨⟨by decide +kernel, by decide +kernel⟩, List.mem_of_getElem? (i := 14) (by decide +kernel), List.mem_of_getElem? (i := 407) (by decide +kernel), List.mem_of_getElem? (i := 408) (by decide +kernel)⟩
theorem lw_p10 : lw_okq (⟨"OilWatch", "harmOf", "(LOilWatch$Slick;)I"⟩, 14) := ⟨⟨by decide +kernel, by decide +kernel⟩, List.mem_of_getElem? (i := 14) (by decide +kernel), List.mem_of_getElem? (i := 418) (by decide +kernel), List.mem_of_getElem? (i := 419) (by decide +kernel)⟩
theorem lw_p11 : lw_okq (⟨"OilWatch", "searchHour", "(III)V"⟩, 14) := ⟨⟨by decide +kernel, by decide +kernel⟩, List.mem_of_getElem? (i := 14) (by decide +kernel), List.mem_of_getElem? (i := 437) (by decide +kernel), List.mem_of_getElem? (i := 438) (by decide +kernel)⟩
theorem lw_p12 : lw_okq (⟨"OilWatch", "litersAfloat", "(LOilWatch$Slick;)I"⟩, 14) := ⟨⟨by decide +kernel, by decide +kernel⟩, List.mem_of_getElem? (i := 14) (by decide +kernel), List.mem_of_getElem? (i := 441) (by decide +kernel), List.mem_of_getElem? (i := 442) (by decide +kernel)⟩
theorem lw_p13 : lw_okq (⟨"OilWatch", "searchFrom", "(III)V"⟩, 14) := ⟨⟨by decide +kernel, by decide +kernel⟩, List.mem_of_getElem? (i := 14) (by decide +kernel), List.mem_of_getElem? (i := 447) (by decide +kernel), List.mem_of_getElem? (i := 448) (by decide +kernel)⟩
theorem lw_p14 : lw_okq (⟨"OilWatch", "isDoubtful", "(IIII)Z"⟩, 14) := ⟨⟨by decide +kernel, by decide +kernel⟩, List.mem_of_getElem? (i := 14) (by decide +kernel), List.mem_of_getElem? (i := 468) (by decide +kernel), List.mem_of_getElem? (i := 469) (by decide +kernel)⟩
theorem lw_p15 : lw_okq (⟨"OilWatch", "wholeBill", "()I"⟩, 14) := ⟨⟨by decide +kernel, by decide +kernel⟩, List.mem_of_getElem? (i := 14) (by decide +kernel), List.mem_of_getElem? (i := 480) (by decide +kernel), List.mem_of_getElem? (i := 481) (by decide +kernel)⟩
def lw_privs_1 : List (MethodName × Nat) := [(⟨"OilWatch", "shipLeftAt", "(I)Z"⟩, 14), (⟨"OilWatch$Booms", "limitBothSides", "(III)V"⟩, 4), (⟨"OilWatch", "passHour", "(LOilWatch$Slick;II)V"⟩, 14), (⟨"OilWatch", "driftAndLose", "(LOilWatch$Slick;II)V"⟩, 14), (⟨"OilWatch$Sky", "at", "(II)I"⟩, 1), (⟨"OilWatch", "driftAll", "(LOilWatch$Slick;II)V"⟩, 14), (⟨"OilWatch", "driftFrom", "(LOilWatch$Slick;III)V"⟩, 14), (⟨"OilWatch", "loseByAge", "(LOilWatch$Slick;I)V"⟩, 14), (⟨"OilWatch", "spreadPossible", "(LOilWatch$Ship;I)V"⟩, 14), (⟨"OilWatch", "harmAhead", "(II)I"⟩, 14), (⟨"OilWatch", "harmOf", "(LOilWatch$Slick;)I"⟩, 14), (⟨"OilWatch", "searchHour", "(III)V"⟩, 14), (⟨"OilWatch", "litersAfloat", "(LOilWatch$Slick;)I"⟩, 14), (⟨"OilWatch", "searchFrom", "(III)V"⟩, 14), (⟨"OilWatch", "isDoubtful", "(IIII)Z"⟩, 14), (⟨"OilWatch", "wholeBill", "()I"⟩, 14)]
theorem lw_r1 : ∀ q ∈ lw_privs_1, lw_okq q := List.forall_mem_cons.mpr ⟨lw_p0, List.forall_mem_cons.mpr ⟨lw_p1, List.forall_mem_cons.mpr ⟨lw_p2, List.forall_mem_cons.mpr ⟨lw_p3, List.forall_mem_cons.mpr ⟨lw_p4, List.forall_mem_cons.mpr ⟨lw_p5, List.forall_mem_cons.mpr ⟨lw_p6, List.forall_mem_cons.mpr ⟨lw_p7, List.forall_mem_cons.mpr ⟨lw_p8, List.forall_mem_cons.mpr ⟨lw_p9, List.forall_mem_cons.mpr ⟨lw_p10, List.forall_mem_cons.mpr ⟨lw_p11, List.forall_mem_cons.mpr ⟨lw_p12, List.forall_mem_cons.mpr ⟨lw_p13, List.forall_mem_cons.mpr ⟨lw_p14, List.forall_mem_cons.mpr ⟨lw_p15, fun _ h => absurd h List.not_mem_nil⟩⟩⟩⟩⟩⟩⟩⟩⟩⟩⟩⟩⟩⟩⟩⟩
theorem lw_p16 : lw_okq (⟨"OilWatch", "litersSkimmed", "()I"⟩, 14) := ⟨⟨by decide +kernel, by decide +kernel⟩, List.mem_of_getElem? (i := 14) (by decide +kernel), List.mem_of_getElem? (i := 484) (by decide +kernel), List.mem_of_getElem? (i := 485) (by decide +kernel)⟩
theorem lw_p17 : lw_okq (⟨"OilWatch", "shareOf", "(III)I"⟩, 14) := ⟨⟨by decide +kernel, by decide +kernel⟩, List.mem_of_getElem? (i := 14) (by decide +kernel), List.mem_of_getElem? (i := 488) (by decide +kernel), List.mem_of_getElem? (i := 489) (by decide +kernel)⟩
theorem lw_p18 : lw_okq (⟨"OilWatch", "litersAshore", "(LOilWatch$Slick;)I"⟩, 14) := ⟨⟨by decide +kernel, by decide +kernel⟩, List.mem_of_getElem? (i := 14) (by decide +kernel), List.mem_of_getElem? (i := 500) (by decide +kernel), List.mem_of_getElem? (i := 501) (by decide +kernel)⟩
theorem lw_p19 : lw_okq (⟨"OilWatchModel", "isSea", "(I)Z"⟩, 36) := ⟨⟨by decide +kernel, by decide +kernel⟩, List.mem_of_getElem? (i := 504) (by decide +kernel), List.mem_of_getElem? (i := 637) (by decide +kernel), List.mem_of_getElem? (i := 638) (by decide +kernel)⟩
theorem lw_p20 : lw_okq (⟨"OilWatchModel", "boomAt", "(II)I"⟩, 36) := ⟨⟨by decide +kernel, by decide +kernel⟩, List.mem_of_getElem? (i := 504) (by decide +kernel), List.mem_of_getElem? (i := 644) (by decide +kernel), List.mem_of_getElem? (i := 645) (by decide +kernel)⟩
theorem lw_p21 : lw_okq (⟨"OilWatchModel", "isSkimmer", "(I)Z"⟩, 36) := ⟨⟨by decide +kernel, by decide +kernel⟩, List.mem_of_getElem? (i := 504) (by decide +kernel), List.mem_of_getElem? (i := 666) (by decide +kernel), List.mem_of_getElem? (i := 667) (by decide +kernel)⟩
theorem lw_p22 : lw_okq (⟨"OilWatchModel", "canGo", "(III)Z"⟩, 36) := ⟨⟨by decide +kernel, by decide +kernel⟩, List.mem_of_getElem? (i := 504) (by decide +kernel), List.mem_of_getElem? (i := 670) (by decide +kernel), List.mem_of_getElem? (i := 671) (by decide +kernel)⟩
theorem lw_p23 : lw_okq (⟨"OilWatchModel", "nearBy", "(III)Z"⟩, 36) := ⟨⟨by decide +kernel, by decide +kernel⟩, List.mem_of_getElem? (i := 504) (by decide +kernel), List.mem_of_getElem? (i := 677) (by decide +kernel), List.mem_of_getElem? (i := 678) (by decide +kernel)⟩
theorem lw_p24 : lw_okq (⟨"OilWatchModel", "hour", "(I)V"⟩, 36) := ⟨⟨by decide +kernel, by decide +kernel⟩, List.mem_of_getElem? (i := 504) (by decide +kernel), List.mem_of_getElem? (i := 689) (by decide +kernel), List.mem_of_getElem? (i := 690) (by decide +kernel)⟩
theorem lw_p25 : lw_okq (⟨"OilWatchModel", "keeps", "(I)V"⟩, 36) := ⟨⟨by decide +kernel, by decide +kernel⟩, List.mem_of_getElem? (i := 504) (by decide +kernel), List.mem_of_getElem? (i := 698) (by decide +kernel), List.mem_of_getElem? (i := 699) (by decide +kernel)⟩
theorem lw_p26 : lw_okq (⟨"OilWatchModel", "harm", "()I"⟩, 36) := ⟨⟨by decide +kernel, by decide +kernel⟩, List.mem_of_getElem? (i := 504) (by decide +kernel), List.mem_of_getElem? (i := 702) (by decide +kernel), List.mem_of_getElem? (i := 703) (by decide +kernel)⟩
theorem lw_p27 : lw_okq (⟨"OilWatchModel", "back", "(I)V"⟩, 36) := ⟨⟨by decide +kernel, by decide +kernel⟩, List.mem_of_getElem? (i := 504) (by decide +kernel), List.mem_of_getElem? (i := 706) (by decide +kernel), List.mem_of_getElem? (i := 707) (by decide +kernel)⟩
theorem lw_p28 : lw_okq (⟨"OilWatchModel", "tries", "(III)Z"⟩, 36) := ⟨⟨by decide +kernel, by decide +kernel⟩, List.mem_of_getElem? (i := 504) (by decide +kernel), List.mem_of_getElem? (i := 719) (by decide +kernel), List.mem_of_getElem? (i := 720) (by decide +kernel)⟩
theorem lw_p29 : lw_okq (⟨"OilWatchModel", "meets", "(II)V"⟩, 36) := ⟨⟨by decide +kernel, by decide +kernel⟩, List.mem_of_getElem? (i := 504) (by decide +kernel), List.mem_of_getElem? (i := 723) (by decide +kernel), List.mem_of_getElem? (i := 724) (by decide +kernel)⟩
theorem lw_p30 : lw_okq (⟨"OilWatchModel", "billAll", "()I"⟩, 36) := ⟨⟨by decide +kernel, by decide +kernel⟩, List.mem_of_getElem? (i := 504) (by decide +kernel), List.mem_of_getElem? (i := 752) (by decide +kernel), List.mem_of_getElem? (i := 753) (by decide +kernel)⟩
def lw_privs_2 : List (MethodName × Nat) := [(⟨"OilWatch", "litersSkimmed", "()I"⟩, 14), (⟨"OilWatch", "shareOf", "(III)I"⟩, 14), (⟨"OilWatch", "litersAshore", "(LOilWatch$Slick;)I"⟩, 14), (⟨"OilWatchModel", "isSea", "(I)Z"⟩, 36), (⟨"OilWatchModel", "boomAt", "(II)I"⟩, 36), (⟨"OilWatchModel", "isSkimmer", "(I)Z"⟩, 36), (⟨"OilWatchModel", "canGo", "(III)Z"⟩, 36), (⟨"OilWatchModel", "nearBy", "(III)Z"⟩, 36), (⟨"OilWatchModel", "hour", "(I)V"⟩, 36), (⟨"OilWatchModel", "keeps", "(I)V"⟩, 36), (⟨"OilWatchModel", "harm", "()I"⟩, 36), (⟨"OilWatchModel", "back", "(I)V"⟩, 36), (⟨"OilWatchModel", "tries", "(III)Z"⟩, 36), (⟨"OilWatchModel", "meets", "(II)V"⟩, 36), (⟨"OilWatchModel", "billAll", "()I"⟩, 36)]
theorem lw_r2 : ∀ q ∈ lw_privs_2, lw_okq q := List.forall_mem_cons.mpr ⟨lw_p16, List.forall_mem_cons.mpr ⟨lw_p17, List.forall_mem_cons.mpr ⟨lw_p18, List.forall_mem_cons.mpr ⟨lw_p19, List.forall_mem_cons.mpr ⟨lw_p20, List.forall_mem_cons.mpr ⟨lw_p21, List.forall_mem_cons.mpr ⟨lw_p22, List.forall_mem_cons.mpr ⟨lw_p23, List.forall_mem_cons.mpr ⟨lw_p24, List.forall_mem_cons.mpr ⟨lw_p25, List.forall_mem_cons.mpr ⟨lw_p26, List.forall_mem_cons.mpr ⟨lw_p27, List.forall_mem_cons.mpr ⟨lw_p28, List.forall_mem_cons.mpr ⟨lw_p29, List.forall_mem_cons.mpr ⟨lw_p30, fun _ h => absurd h List.not_mem_nil⟩⟩⟩⟩⟩⟩⟩⟩⟩⟩⟩⟩⟩⟩⟩
def lw_privs : List (MethodName × Nat) := lw_privs_1 ++ (lw_privs_2)
def lw_tbl : List Cond := k2_sels lw_privs ++ tables_1
theorem lw_privs_ok : ∀ q ∈ lw_privs, lw_okq q := by
  show ∀ q ∈ lw_privs_1 ++ (lw_privs_2), lw_okq q
  exact List.forall_mem_append.mpr ⟨lw_r1, lw_r2⟩
end
section
def RX0 : String := "OilWatch$Booms"
def TX0 : u_T := fun k => match k with
  | 0 => ("OilWatch$Booms", "cells", "[I", true)
  | 1 => ("OilWatch$Booms", "ways", "[I", true)
  | 2 => ("OilWatch$Booms", "limits", "[I", true)
  | _ => ("OilWatch$Booms", "size", "I", false)
def tyX0 : Nat → FieldType := fun k => match k with
  | 0 => .array .int
  | 1 => .array .int
  | 2 => .array .int
  | _ => .int
abbrev wsX00 : List Cond := u_ws RX0 TX0 4
theorem nmX0 : ∀ a, a < 4 → ∀ b, b < 4 → a ≠ b → (TX0 a).2.1 ≠ (TX0 b).2.1 := by decide +kernel
theorem tyX0_ok : ∀ k, k < 4 → parseFieldDescriptor (TX0 k).2.2.1 = some (tyX0 k) := by decide +kernel
abbrev cX0_init : ByteArray := prog_2_method_1_code
def yX0_init : MethodName := ⟨RX0, "<init>", "()V"⟩
abbrev cX0_lay : ByteArray := prog_2_method_2_code
def yX0_lay : MethodName := ⟨RX0, "lay", "(III)I"⟩
abbrev cX0_takeUp : ByteArray := prog_2_method_3_code
def yX0_takeUp : MethodName := ⟨RX0, "takeUp", "(I)Z"⟩
abbrev cX0_limitBothSides : ByteArray := prog_2_method_4_code
def yX0_limitBothSides : MethodName := ⟨RX0, "limitBothSides", "(III)V"⟩
abbrev cX0_endAt : ByteArray := prog_2_method_5_code
def yX0_endAt : MethodName := ⟨RX0, "endAt", "(I)Z"⟩
abbrev cX0_hold : ByteArray := prog_2_method_6_code
def yX0_hold : MethodName := ⟨RX0, "hold", "(III)Z"⟩
def RX1 : String := "OilWatch$Fleet"
def TX1 : u_T := fun k => match k with
  | 0 => ("OilWatch$Fleet", "skimmers", "[LOilWatch$Skimmer;", true)
  | _ => ("OilWatch$Fleet", "size", "I", false)
def tyX1 : Nat → FieldType := fun k => match k with
  | 0 => .array (.object "OilWatch$Skimmer")
  | _ => .int
abbrev wsX10 : List Cond := u_ws RX1 TX1 2
theorem nmX1 : ∀ a, a < 2 → ∀ b, b < 2 → a ≠ b → (TX1 a).2.1 ≠ (TX1 b).2.1 := by decide +kernel
theorem tyX1_ok : ∀ k, k < 2 → parseFieldDescriptor (TX1 k).2.2.1 = some (tyX1 k) := by decide +kernel
abbrev cX1_init : ByteArray := prog_3_method_1_code
def yX1_init : MethodName := ⟨RX1, "<init>", "()V"⟩
abbrev cX1_has : ByteArray := prog_3_method_2_code
def yX1_has : MethodName := ⟨RX1, "has", "(I)Z"⟩
abbrev cX1_add : ByteArray := prog_3_method_3_code
def yX1_add : MethodName := ⟨RX1, "add", "(IIII)I"⟩
abbrev cX1_isAt : ByteArray := prog_3_method_4_code
def yX1_isAt : MethodName := ⟨RX1, "isAt", "(I)Z"⟩
abbrev cX1_beginHour : ByteArray := prog_3_method_5_code
def yX1_beginHour : MethodName := ⟨RX1, "beginHour", "()V"⟩
abbrev cX1_roomLeft : ByteArray := prog_3_method_6_code
def yX1_roomLeft : MethodName := ⟨RX1, "roomLeft", "(LOilWatch$Slick;I)I"⟩
abbrev cX1_canTake : ByteArray := prog_3_method_7_code
def yX1_canTake : MethodName := ⟨RX1, "canTake", "(LOilWatch$Slick;II)I"⟩
abbrev cX1_take : ByteArray := prog_3_method_8_code
def yX1_take : MethodName := ⟨RX1, "take", "(LOilWatch$Slick;II)V"⟩
abbrev cX1_skim : ByteArray := prog_3_method_9_code
def yX1_skim : MethodName := ⟨RX1, "skim", "(LOilWatch$Slick;II)V"⟩
def RX2 : String := "OilWatch$Net"
def TX2 : u_T := fun k => match k with
  | _ => ("OilWatch$Net", "ranks", "[I", true)
def tyX2 : Nat → FieldType := fun k => match k with
  | _ => .array .int
abbrev wsX20 : List Cond := u_ws RX2 TX2 1
theorem nmX2 : ∀ a, a < 1 → ∀ b, b < 1 → a ≠ b → (TX2 a).2.1 ≠ (TX2 b).2.1 := by decide +kernel
theorem tyX2_ok : ∀ k, k < 1 → parseFieldDescriptor (TX2 k).2.2.1 = some (tyX2 k) := by decide +kernel
abbrev cX2_init : ByteArray := prog_4_method_1_code
def yX2_init : MethodName := ⟨RX2, "<init>", "()V"⟩
abbrev cX2_isCell : ByteArray := prog_4_method_2_code
def yX2_isCell : MethodName := ⟨RX2, "isCell", "(I)Z"⟩
abbrev cX2_isSea : ByteArray := prog_4_method_3_code
def yX2_isSea : MethodName := ⟨RX2, "isSea", "(I)Z"⟩
abbrev cX2_ahead : ByteArray := prog_4_method_4_code
def yX2_ahead : MethodName := ⟨RX2, "ahead", "(II)I"⟩
abbrev cX2_opposite : ByteArray := prog_4_method_5_code
def yX2_opposite : MethodName := ⟨RX2, "opposite", "(I)I"⟩
abbrev cX2_wayBeside : ByteArray := prog_4_method_6_code
def yX2_wayBeside : MethodName := ⟨RX2, "wayBeside", "(II)I"⟩
abbrev cX2_distance : ByteArray := prog_4_method_7_code
def yX2_distance : MethodName := ⟨RX2, "distance", "(II)I"⟩
abbrev cX2_isWayOverSea : ByteArray := prog_4_method_8_code
def yX2_isWayOverSea : MethodName := ⟨RX2, "isWayOverSea", "(III)Z"⟩
def RX3 : String := "OilWatch$Outing"
def TX3 : u_T := fun k => match k with
  | 0 => ("OilWatch$Outing", "skimmer", "I", false)
  | 1 => ("OilWatch$Outing", "hours", "I", false)
  | 2 => ("OilWatch$Outing", "first", "I", false)
  | 3 => ("OilWatch$Outing", "most", "I", false)
  | _ => ("OilWatch$Outing", "firstOfMost", "I", false)
def tyX3 : Nat → FieldType := fun k => match k with
  | 0 => .int
  | 1 => .int
  | 2 => .int
  | 3 => .int
  | _ => .int
abbrev wsX30 : List Cond := u_ws RX3 TX3 5
theorem nmX3 : ∀ a, a < 5 → ∀ b, b < 5 → a ≠ b → (TX3 a).2.1 ≠ (TX3 b).2.1 := by decide +kernel
theorem tyX3_ok : ∀ k, k < 5 → parseFieldDescriptor (TX3 k).2.2.1 = some (tyX3 k) := by decide +kernel
abbrev cX3_init : ByteArray := prog_5_method_1_code
def yX3_init : MethodName := ⟨RX3, "<init>", "()V"⟩
abbrev cX3_begin : ByteArray := prog_5_method_2_code
def yX3_begin : MethodName := ⟨RX3, "begin", "(II)V"⟩
def RX4 : String := "OilWatch$Ship"
def TX4 : u_T := fun k => match k with
  | 0 => ("OilWatch$Ship", "mark", "I", false)
  | 1 => ("OilWatch$Ship", "cell", "I", false)
  | _ => ("OilWatch$Ship", "possible", "[Z", true)
def tyX4 : Nat → FieldType := fun k => match k with
  | 0 => .int
  | 1 => .int
  | _ => .array .boolean
abbrev wsX40 : List Cond := u_ws RX4 TX4 3
theorem nmX4 : ∀ a, a < 3 → ∀ b, b < 3 → a ≠ b → (TX4 a).2.1 ≠ (TX4 b).2.1 := by decide +kernel
theorem tyX4_ok : ∀ k, k < 3 → parseFieldDescriptor (TX4 k).2.2.1 = some (tyX4 k) := by decide +kernel
abbrev cX4_init : ByteArray := prog_6_method_1_code
def yX4_init : MethodName := ⟨RX4, "<init>", "()V"⟩
def RX5 : String := "OilWatch$Skimmer"
def TX5 : u_T := fun k => match k with
  | 0 => ("OilWatch$Skimmer", "cell", "I", false)
  | 1 => ("OilWatch$Skimmer", "rate", "I", false)
  | 2 => ("OilWatch$Skimmer", "room", "I", false)
  | 3 => ("OilWatch$Skimmer", "speed", "I", false)
  | 4 => ("OilWatch$Skimmer", "inDepot", "I", false)
  | _ => ("OilWatch$Skimmer", "went", "Z", false)
def tyX5 : Nat → FieldType := fun k => match k with
  | 0 => .int
  | 1 => .int
  | 2 => .int
  | 3 => .int
  | 4 => .int
  | _ => .boolean
abbrev wsX50 : List Cond := u_ws RX5 TX5 6
theorem nmX5 : ∀ a, a < 6 → ∀ b, b < 6 → a ≠ b → (TX5 a).2.1 ≠ (TX5 b).2.1 := by decide +kernel
theorem tyX5_ok : ∀ k, k < 6 → parseFieldDescriptor (TX5 k).2.2.1 = some (tyX5 k) := by decide +kernel
abbrev cX5_init : ByteArray := prog_7_method_1_code
def yX5_init : MethodName := ⟨RX5, "<init>", "()V"⟩
def RX6 : String := "OilWatch$Sky"
def TX6 : u_T := fun k => match k with
  | _ => ("OilWatch$Sky", "packed", "[I", true)
def tyX6 : Nat → FieldType := fun k => match k with
  | _ => .array .int
abbrev wsX60 : List Cond := u_ws RX6 TX6 1
theorem nmX6 : ∀ a, a < 1 → ∀ b, b < 1 → a ≠ b → (TX6 a).2.1 ≠ (TX6 b).2.1 := by decide +kernel
theorem tyX6_ok : ∀ k, k < 1 → parseFieldDescriptor (TX6 k).2.2.1 = some (tyX6 k) := by decide +kernel
abbrev cX6_init : ByteArray := prog_8_method_1_code
def yX6_init : MethodName := ⟨RX6, "<init>", "()V"⟩
abbrev cX6_tell : ByteArray := prog_8_method_2_code
def yX6_tell : MethodName := ⟨RX6, "tell", "(IIII)V"⟩
abbrev cX6_wayAt : ByteArray := prog_8_method_3_code
def yX6_wayAt : MethodName := ⟨RX6, "wayAt", "(II)I"⟩
abbrev cX6_forceAt : ByteArray := prog_8_method_4_code
def yX6_forceAt : MethodName := ⟨RX6, "forceAt", "(II)I"⟩
abbrev cX6_at : ByteArray := prog_8_method_5_code
def yX6_at : MethodName := ⟨RX6, "at", "(II)I"⟩
def RX7 : String := "OilWatch$Slick"
def TX7 : u_T := fun k => match k with
  | 0 => ("OilWatch$Slick", "liters", "[I", true)
  | 1 => ("OilWatch$Slick", "loads", "[I", true)
  | 2 => ("OilWatch$Slick", "lost", "I", false)
  | _ => ("OilWatch$Slick", "away", "I", false)
def tyX7 : Nat → FieldType := fun k => match k with
  | 0 => .array .int
  | 1 => .array .int
  | 2 => .int
  | _ => .int
abbrev wsX70 : List Cond := u_ws RX7 TX7 4
theorem nmX7 : ∀ a, a < 4 → ∀ b, b < 4 → a ≠ b → (TX7 a).2.1 ≠ (TX7 b).2.1 := by decide +kernel
theorem tyX7_ok : ∀ k, k < 4 → parseFieldDescriptor (TX7 k).2.2.1 = some (tyX7 k) := by decide +kernel
abbrev cX7_init : ByteArray := prog_9_method_1_code
def yX7_init : MethodName := ⟨RX7, "<init>", "()V"⟩
abbrev cX7_become : ByteArray := prog_9_method_2_code
def yX7_become : MethodName := ⟨RX7, "become", "(LOilWatch$Slick;)V"⟩
def RX8 : String := "OilWatch"
def TX8 : u_T := fun k => match k with
  | 0 => ("OilWatch", "net", "LOilWatch$Net;", true)
  | 1 => ("OilWatch", "booms", "LOilWatch$Booms;", true)
  | 2 => ("OilWatch", "sky", "LOilWatch$Sky;", true)
  | 3 => ("OilWatch", "fleet", "LOilWatch$Fleet;", true)
  | 4 => ("OilWatch", "sea", "LOilWatch$Slick;", true)
  | 5 => ("OilWatch", "trials", "[LOilWatch$Slick;", true)
  | 6 => ("OilWatch", "outing", "LOilWatch$Outing;", true)
  | 7 => ("OilWatch", "ships", "[LOilWatch$Ship;", true)
  | 8 => ("OilWatch", "partsOf", "[I", true)
  | 9 => ("OilWatch", "shipCount", "I", false)
  | 10 => ("OilWatch", "now", "I", false)
  | 11 => ("OilWatch", "spilled", "I", false)
  | 12 => ("OilWatch", "firstSpillHour", "I", false)
  | _ => ("OilWatch", "skimmerHours", "I", false)
def tyX8 : Nat → FieldType := fun k => match k with
  | 0 => .object "OilWatch$Net"
  | 1 => .object "OilWatch$Booms"
  | 2 => .object "OilWatch$Sky"
  | 3 => .object "OilWatch$Fleet"
  | 4 => .object "OilWatch$Slick"
  | 5 => .array (.object "OilWatch$Slick")
  | 6 => .object "OilWatch$Outing"
  | 7 => .array (.object "OilWatch$Ship")
  | 8 => .array .int
  | 9 => .int
  | 10 => .int
  | 11 => .int
  | 12 => .int
  | _ => .int
abbrev wsX80 : List Cond := u_ws RX8 TX8 14
theorem nmX8 : ∀ a, a < 14 → ∀ b, b < 14 → a ≠ b → (TX8 a).2.1 ≠ (TX8 b).2.1 := by decide +kernel
theorem tyX8_ok : ∀ k, k < 14 → parseFieldDescriptor (TX8 k).2.2.1 = some (tyX8 k) := by decide +kernel
abbrev cX8_init : ByteArray := prog_1_method_1_code
def yX8_init : MethodName := ⟨RX8, "<init>", "()V"⟩
abbrev cX8_shore : ByteArray := prog_1_method_2_code
def yX8_shore : MethodName := ⟨RX8, "shore", "(II)Z"⟩
abbrev cX8_weather : ByteArray := prog_1_method_3_code
def yX8_weather : MethodName := ⟨RX8, "weather", "(IIII)Z"⟩
abbrev cX8_boom : ByteArray := prog_1_method_4_code
def yX8_boom : MethodName := ⟨RX8, "boom", "(III)I"⟩
abbrev cX8_lift : ByteArray := prog_1_method_5_code
def yX8_lift : MethodName := ⟨RX8, "lift", "(I)Z"⟩
abbrev cX8_spill : ByteArray := prog_1_method_6_code
def yX8_spill : MethodName := ⟨RX8, "spill", "(II)I"⟩
abbrev cX8_skimmer : ByteArray := prog_1_method_7_code
def yX8_skimmer : MethodName := ⟨RX8, "skimmer", "(IIII)I"⟩
abbrev cX8_sail : ByteArray := prog_1_method_8_code
def yX8_sail : MethodName := ⟨RX8, "sail", "(II)Z"⟩
abbrev cX8_empty : ByteArray := prog_1_method_9_code
def yX8_empty : MethodName := ⟨RX8, "empty", "(I)I"⟩
abbrev cX8_go : ByteArray := prog_1_method_10_code
def yX8_go : MethodName := ⟨RX8, "go", "(I)I"⟩
abbrev cX8_oil : ByteArray := prog_1_method_11_code
def yX8_oil : MethodName := ⟨RX8, "oil", "(I)I"⟩
abbrev cX8_foretold : ByteArray := prog_1_method_12_code
def yX8_foretold : MethodName := ⟨RX8, "foretold", "(II)I"⟩
abbrev cX8_worst : ByteArray := prog_1_method_13_code
def yX8_worst : MethodName := ⟨RX8, "worst", "(I)I"⟩
abbrev cX8_best : ByteArray := prog_1_method_14_code
def yX8_best : MethodName := ⟨RX8, "best", "(III)I"⟩
abbrev cX8_ship : ByteArray := prog_1_method_15_code
def yX8_ship : MethodName := ⟨RX8, "ship", "(III)I"⟩
abbrev cX8_could : ByteArray := prog_1_method_16_code
def yX8_could : MethodName := ⟨RX8, "could", "(II)Z"⟩
abbrev cX8_sample : ByteArray := prog_1_method_17_code
def yX8_sample : MethodName := ⟨RX8, "sample", "(II)I"⟩
abbrev cX8_part : ByteArray := prog_1_method_18_code
def yX8_part : MethodName := ⟨RX8, "part", "(II)Z"⟩
abbrev cX8_bill : ByteArray := prog_1_method_19_code
def yX8_bill : MethodName := ⟨RX8, "bill", "(I)I"⟩
abbrev cX8_told : ByteArray := prog_1_method_20_code
def yX8_told : MethodName := ⟨RX8, "told", "(II)I"⟩
abbrev cX8_count : ByteArray := prog_1_method_21_code
def yX8_count : MethodName := ⟨RX8, "count", "(I)I"⟩
abbrev cX8_isWithin : ByteArray := prog_1_method_22_code
def yX8_isWithin : MethodName := ⟨RX8, "isWithin", "(III)Z"⟩
abbrev cX8_passHour : ByteArray := prog_1_method_23_code
def yX8_passHour : MethodName := ⟨RX8, "passHour", "(LOilWatch$Slick;II)V"⟩
abbrev cX8_driftAndLose : ByteArray := prog_1_method_24_code
def yX8_driftAndLose : MethodName := ⟨RX8, "driftAndLose", "(LOilWatch$Slick;II)V"⟩
abbrev cX8_driftAll : ByteArray := prog_1_method_25_code
def yX8_driftAll : MethodName := ⟨RX8, "driftAll", "(LOilWatch$Slick;II)V"⟩
abbrev cX8_cellAtTurn : ByteArray := prog_1_method_26_code
def yX8_cellAtTurn : MethodName := ⟨RX8, "cellAtTurn", "(II)I"⟩
abbrev cX8_driftFrom : ByteArray := prog_1_method_27_code
def yX8_driftFrom : MethodName := ⟨RX8, "driftFrom", "(LOilWatch$Slick;III)V"⟩
abbrev cX8_loseByAge : ByteArray := prog_1_method_28_code
def yX8_loseByAge : MethodName := ⟨RX8, "loseByAge", "(LOilWatch$Slick;I)V"⟩
abbrev cX8_litersAfloat : ByteArray := prog_1_method_29_code
def yX8_litersAfloat : MethodName := ⟨RX8, "litersAfloat", "(LOilWatch$Slick;)I"⟩
abbrev cX8_litersAshore : ByteArray := prog_1_method_30_code
def yX8_litersAshore : MethodName := ⟨RX8, "litersAshore", "(LOilWatch$Slick;)I"⟩
abbrev cX8_harmOf : ByteArray := prog_1_method_31_code
def yX8_harmOf : MethodName := ⟨RX8, "harmOf", "(LOilWatch$Slick;)I"⟩
abbrev cX8_harmAhead : ByteArray := prog_1_method_32_code
def yX8_harmAhead : MethodName := ⟨RX8, "harmAhead", "(II)I"⟩
abbrev cX8_searchHour : ByteArray := prog_1_method_33_code
def yX8_searchHour : MethodName := ⟨RX8, "searchHour", "(III)V"⟩
abbrev cX8_searchFrom : ByteArray := prog_1_method_34_code
def yX8_searchFrom : MethodName := ⟨RX8, "searchFrom", "(III)V"⟩
abbrev cX8_shipLeftAt : ByteArray := prog_1_method_35_code
def yX8_shipLeftAt : MethodName := ⟨RX8, "shipLeftAt", "(I)Z"⟩
abbrev cX8_spreadPossible : ByteArray := prog_1_method_36_code
def yX8_spreadPossible : MethodName := ⟨RX8, "spreadPossible", "(LOilWatch$Ship;I)V"⟩
abbrev cX8_isDoubtful : ByteArray := prog_1_method_37_code
def yX8_isDoubtful : MethodName := ⟨RX8, "isDoubtful", "(IIII)Z"⟩
abbrev cX8_markDifference : ByteArray := prog_1_method_38_code
def yX8_markDifference : MethodName := ⟨RX8, "markDifference", "(II)I"⟩
abbrev cX8_litersSkimmed : ByteArray := prog_1_method_39_code
def yX8_litersSkimmed : MethodName := ⟨RX8, "litersSkimmed", "()I"⟩
abbrev cX8_wholeBill : ByteArray := prog_1_method_40_code
def yX8_wholeBill : MethodName := ⟨RX8, "wholeBill", "()I"⟩
abbrev cX8_shareOf : ByteArray := prog_1_method_41_code
def yX8_shareOf : MethodName := ⟨RX8, "shareOf", "(III)I"⟩
def RX9 : String := "OilWatchModel"
def TX9 : u_T := fun k => match k with
  | 0 => ("OilWatchModel", "now", "I", false)
  | 1 => ("OilWatchModel", "rank", "[I", true)
  | 2 => ("OilWatchModel", "oil", "[I", true)
  | 3 => ("OilWatchModel", "way", "[I", true)
  | 4 => ("OilWatchModel", "force", "[I", true)
  | 5 => ("OilWatchModel", "isBoom", "[Z", true)
  | 6 => ("OilWatchModel", "boomA", "[I", true)
  | 7 => ("OilWatchModel", "boomB", "[I", true)
  | 8 => ("OilWatchModel", "boomLimit", "[I", true)
  | 9 => ("OilWatchModel", "spilled", "I", false)
  | 10 => ("OilWatchModel", "firstSpill", "I", false)
  | 11 => ("OilWatchModel", "lost", "I", false)
  | 12 => ("OilWatchModel", "away", "I", false)
  | 13 => ("OilWatchModel", "skimmed", "I", false)
  | 14 => ("OilWatchModel", "skimmers", "I", false)
  | 15 => ("OilWatchModel", "at", "[I", true)
  | 16 => ("OilWatchModel", "rate", "[I", true)
  | 17 => ("OilWatchModel", "room", "[I", true)
  | 18 => ("OilWatchModel", "speed", "[I", true)
  | 19 => ("OilWatchModel", "has", "[I", true)
  | 20 => ("OilWatchModel", "took", "[I", true)
  | 21 => ("OilWatchModel", "cameIn", "[I", true)
  | 22 => ("OilWatchModel", "wentNow", "[Z", true)
  | 23 => ("OilWatchModel", "ships", "I", false)
  | 24 => ("OilWatchModel", "shipMark", "[I", true)
  | 25 => ("OilWatchModel", "shipCell", "[I", true)
  | 26 => ("OilWatchModel", "shipHour", "[I", true)
  | 27 => ("OilWatchModel", "parts", "[I", true)
  | 28 => ("OilWatchModel", "comes", "[I", true)
  | 29 => ("OilWatchModel", "kept", "[I", true)
  | 30 => ("OilWatchModel", "bestLiters", "I", false)
  | 31 => ("OilWatchModel", "bestCell", "I", false)
  | 32 => ("OilWatchModel", "isThere", "[Z", true)
  | 33 => ("OilWatchModel", "isNext", "[Z", true)
  | 34 => ("OilWatchModel", "cut", "[I", true)
  | _ => ("OilWatchModel", "pays", "[I", true)
def tyX9 : Nat → FieldType := fun k => match k with
  | 0 => .int
  | 1 => .array .int
  | 2 => .array .int
  | 3 => .array .int
  | 4 => .array .int
  | 5 => .array .boolean
  | 6 => .array .int
  | 7 => .array .int
  | 8 => .array .int
  | 9 => .int
  | 10 => .int
  | 11 => .int
  | 12 => .int
  | 13 => .int
  | 14 => .int
  | 15 => .array .int
  | 16 => .array .int
  | 17 => .array .int
  | 18 => .array .int
  | 19 => .array .int
  | 20 => .array .int
  | 21 => .array .int
  | 22 => .array .boolean
  | 23 => .int
  | 24 => .array .int
  | 25 => .array .int
  | 26 => .array .int
  | 27 => .array .int
  | 28 => .array .int
  | 29 => .array .int
  | 30 => .int
  | 31 => .int
  | 32 => .array .boolean
  | 33 => .array .boolean
  | 34 => .array .int
  | _ => .array .int
abbrev wsX90 : List Cond := u_ws RX9 TX9 36
theorem nmX9 : ∀ a, a < 36 → ∀ b, b < 36 → a ≠ b → (TX9 a).2.1 ≠ (TX9 b).2.1 := by decide +kernel
theorem tyX9_ok : ∀ k, k < 36 → parseFieldDescriptor (TX9 k).2.2.1 = some (tyX9 k) := by decide +kernel
abbrev cX9_init : ByteArray := prog_11_method_1_code
def yX9_init : MethodName := ⟨RX9, "<init>", "()V"⟩
abbrev cX9_in : ByteArray := prog_11_method_2_code
def yX9_in : MethodName := ⟨RX9, "in", "(III)Z"⟩
abbrev cX9_isCell : ByteArray := prog_11_method_3_code
def yX9_isCell : MethodName := ⟨RX9, "isCell", "(I)Z"⟩
abbrev cX9_isSea : ByteArray := prog_11_method_4_code
def yX9_isSea : MethodName := ⟨RX9, "isSea", "(I)Z"⟩
abbrev cX9_isSkimmer : ByteArray := prog_11_method_5_code
def yX9_isSkimmer : MethodName := ⟨RX9, "isSkimmer", "(I)Z"⟩
abbrev cX9_shore : ByteArray := prog_11_method_6_code
def yX9_shore : MethodName := ⟨RX9, "shore", "(II)Z"⟩
abbrev cX9_weather : ByteArray := prog_11_method_7_code
def yX9_weather : MethodName := ⟨RX9, "weather", "(IIII)Z"⟩
abbrev cX9_areSide : ByteArray := prog_11_method_8_code
def yX9_areSide : MethodName := ⟨RX9, "areSide", "(II)Z"⟩
abbrev cX9_boomAt : ByteArray := prog_11_method_9_code
def yX9_boomAt : MethodName := ⟨RX9, "boomAt", "(II)I"⟩
abbrev cX9_boom : ByteArray := prog_11_method_10_code
def yX9_boom : MethodName := ⟨RX9, "boom", "(III)I"⟩
abbrev cX9_lift : ByteArray := prog_11_method_11_code
def yX9_lift : MethodName := ⟨RX9, "lift", "(I)Z"⟩
abbrev cX9_spill : ByteArray := prog_11_method_12_code
def yX9_spill : MethodName := ⟨RX9, "spill", "(II)I"⟩
abbrev cX9_skimmer : ByteArray := prog_11_method_13_code
def yX9_skimmer : MethodName := ⟨RX9, "skimmer", "(IIII)I"⟩
abbrev cX9_step : ByteArray := prog_11_method_14_code
def yX9_step : MethodName := ⟨RX9, "step", "(II)I"⟩
abbrev cX9_canGo : ByteArray := prog_11_method_15_code
def yX9_canGo : MethodName := ⟨RX9, "canGo", "(III)Z"⟩
abbrev cX9_nearBy : ByteArray := prog_11_method_16_code
def yX9_nearBy : MethodName := ⟨RX9, "nearBy", "(III)Z"⟩
abbrev cX9_sail : ByteArray := prog_11_method_17_code
def yX9_sail : MethodName := ⟨RX9, "sail", "(II)Z"⟩
abbrev cX9_empty : ByteArray := prog_11_method_18_code
def yX9_empty : MethodName := ⟨RX9, "empty", "(I)I"⟩
abbrev cX9_hour : ByteArray := prog_11_method_19_code
def yX9_hour : MethodName := ⟨RX9, "hour", "(I)V"⟩
abbrev cX9_go : ByteArray := prog_11_method_20_code
def yX9_go : MethodName := ⟨RX9, "go", "(I)I"⟩
abbrev cX9_harm : ByteArray := prog_11_method_21_code
def yX9_harm : MethodName := ⟨RX9, "harm", "()I"⟩
abbrev cX9_keeps : ByteArray := prog_11_method_22_code
def yX9_keeps : MethodName := ⟨RX9, "keeps", "(I)V"⟩
abbrev cX9_back : ByteArray := prog_11_method_23_code
def yX9_back : MethodName := ⟨RX9, "back", "(I)V"⟩
abbrev cX9_foretold : ByteArray := prog_11_method_24_code
def yX9_foretold : MethodName := ⟨RX9, "foretold", "(II)I"⟩
abbrev cX9_worst : ByteArray := prog_11_method_25_code
def yX9_worst : MethodName := ⟨RX9, "worst", "(I)I"⟩
abbrev cX9_tries : ByteArray := prog_11_method_26_code
def yX9_tries : MethodName := ⟨RX9, "tries", "(III)Z"⟩
abbrev cX9_meets : ByteArray := prog_11_method_27_code
def yX9_meets : MethodName := ⟨RX9, "meets", "(II)V"⟩
abbrev cX9_best : ByteArray := prog_11_method_28_code
def yX9_best : MethodName := ⟨RX9, "best", "(III)I"⟩
abbrev cX9_ship : ByteArray := prog_11_method_29_code
def yX9_ship : MethodName := ⟨RX9, "ship", "(III)I"⟩
abbrev cX9_could : ByteArray := prog_11_method_30_code
def yX9_could : MethodName := ⟨RX9, "could", "(II)Z"⟩
abbrev cX9_apart : ByteArray := prog_11_method_31_code
def yX9_apart : MethodName := ⟨RX9, "apart", "(II)I"⟩
abbrev cX9_sample : ByteArray := prog_11_method_32_code
def yX9_sample : MethodName := ⟨RX9, "sample", "(II)I"⟩
abbrev cX9_part : ByteArray := prog_11_method_33_code
def yX9_part : MethodName := ⟨RX9, "part", "(II)Z"⟩
abbrev cX9_billAll : ByteArray := prog_11_method_34_code
def yX9_billAll : MethodName := ⟨RX9, "billAll", "()I"⟩
abbrev cX9_bill : ByteArray := prog_11_method_35_code
def yX9_bill : MethodName := ⟨RX9, "bill", "(I)I"⟩
abbrev cX9_oil : ByteArray := prog_11_method_36_code
def yX9_oil : MethodName := ⟨RX9, "oil", "(I)I"⟩
abbrev cX9_told : ByteArray := prog_11_method_37_code
def yX9_told : MethodName := ⟨RX9, "told", "(II)I"⟩
abbrev cX9_count : ByteArray := prog_11_method_38_code
def yX9_count : MethodName := ⟨RX9, "count", "(I)I"⟩
def RJ9 : String := "java/lang/Math"
def TJ9 : u_T := fun k => match k with
  | _ => ("", "", "", false)
def tyJ9 : Nat → FieldType := fun k => match k with
  | _ => .int
abbrev wsJ90 : List Cond := u_ws RJ9 TJ9 0
theorem nmJ9 : ∀ a, a < 0 → ∀ b, b < 0 → a ≠ b → (TJ9 a).2.1 ≠ (TJ9 b).2.1 := by decide +kernel
theorem tyJ9_ok : ∀ k, k < 0 → parseFieldDescriptor (TJ9 k).2.2.1 = some (tyJ9 k) := by decide +kernel
abbrev cJ9_abs_0f7a4 : ByteArray := prog_12_method_59_code
def yJ9_abs_0f7a4 : MethodName := ⟨RJ9, "abs", "(I)I"⟩
abbrev cJ9_max_7cf53 : ByteArray := prog_12_method_65_code
def yJ9_max_7cf53 : MethodName := ⟨RJ9, "max", "(II)I"⟩
abbrev cJ9_min_7cf53 : ByteArray := prog_12_method_69_code
def yJ9_min_7cf53 : MethodName := ⟨RJ9, "min", "(II)I"⟩
def RJ10 : String := "java/lang/System"
def TJ10 : u_T := fun k => match k with
  | _ => ("", "", "", false)
def tyJ10 : Nat → FieldType := fun k => match k with
  | _ => .int
abbrev wsJ100 : List Cond := u_ws RJ10 TJ10 0
theorem nmJ10 : ∀ a, a < 0 → ∀ b, b < 0 → a ≠ b → (TJ10 a).2.1 ≠ (TJ10 b).2.1 := by decide +kernel
theorem tyJ10_ok : ∀ k, k < 0 → parseFieldDescriptor (TJ10 k).2.2.1 = some (tyJ10 k) := by decide +kernel
def RL : String := "OilWatchLaw"
abbrev cL_law : ByteArray := code
def yL_law : MethodName := ⟨RL, "law", "([I)Z"⟩
abbrev vwCl : List vw_C := [(RX0, TX0, 4), (RX1, TX1, 2), (RX2, TX2, 1), (RX3, TX3, 5), (RX4, TX4, 3), (RX5, TX5, 6), (RX6, TX6, 1), (RX7, TX7, 4), (RX8, TX8, 14), (RX9, TX9, 36)]
end
section
theorem dX0_init_0 : decode cX0_init 0 = .ok (.aload_n 0, 1) := by decide +kernel
theorem dX0_init_1 : decode cX0_init 1 = .ok (.invokespecial 3, 3) := by decide +kernel
theorem dX0_init_4 : decode cX0_init 4 = .ok (.aload_n 0, 1) := by decide +kernel
theorem dX0_init_5 : decode cX0_init 5 = .ok (.bipush 20, 2) := by decide +kernel
theorem dX0_init_7 : decode cX0_init 7 = .ok (.newarray .int, 2) := by decide +kernel
theorem dX0_init_9 : decode cX0_init 9 = .ok (.putfield 9, 3) := by decide +kernel
theorem dX0_init_12 : decode cX0_init 12 = .ok (.aload_n 0, 1) := by decide +kernel
theorem dX0_init_13 : decode cX0_init 13 = .ok (.bipush 20, 2) := by decide +kernel
theorem dX0_init_15 : decode cX0_init 15 = .ok (.newarray .int, 2) := by decide +kernel
theorem dX0_init_17 : decode cX0_init 17 = .ok (.putfield 15, 3) := by decide +kernel
theorem dX0_init_20 : decode cX0_init 20 = .ok (.aload_n 0, 1) := by decide +kernel
theorem dX0_init_21 : decode cX0_init 21 = .ok (.sipush 480, 3) := by decide +kernel
theorem dX0_init_24 : decode cX0_init 24 = .ok (.newarray .int, 2) := by decide +kernel
theorem dX0_init_26 : decode cX0_init 26 = .ok (.putfield 18, 3) := by decide +kernel
theorem dX0_init_29 : decode cX0_init 29 = .ok (.iconst 0, 1) := by decide +kernel
theorem dX0_init_30 : decode cX0_init 30 = .ok (.istore_n 1, 1) := by decide +kernel
theorem dX0_init_31 : decode cX0_init 31 = .ok (.iload_n 1, 1) := by decide +kernel
theorem dX0_init_32 : decode cX0_init 32 = .ok (.bipush 20, 2) := by decide +kernel
theorem dX0_init_34 : decode cX0_init 34 = .ok (.if_icmp .ge 16, 3) := by decide +kernel
theorem dX0_init_37 : decode cX0_init 37 = .ok (.aload_n 0, 1) := by decide +kernel
theorem dX0_init_38 : decode cX0_init 38 = .ok (.getfield 9, 3) := by decide +kernel
theorem dX0_init_41 : decode cX0_init 41 = .ok (.iload_n 1, 1) := by decide +kernel
theorem dX0_init_42 : decode cX0_init 42 = .ok (.iconst (-1), 1) := by decide +kernel
theorem dX0_init_43 : decode cX0_init 43 = .ok (.iastore, 1) := by decide +kernel
theorem dX0_init_44 : decode cX0_init 44 = .ok (.iinc 1 1, 3) := by decide +kernel
theorem dX0_init_47 : decode cX0_init 47 = .ok (.goto (-16), 3) := by decide +kernel
theorem dX0_init_50 : decode cX0_init 50 = .ok (.iconst 0, 1) := by decide +kernel
theorem dX0_init_51 : decode cX0_init 51 = .ok (.istore_n 1, 1) := by decide +kernel
theorem dX0_init_52 : decode cX0_init 52 = .ok (.iload_n 1, 1) := by decide +kernel
theorem dX0_init_53 : decode cX0_init 53 = .ok (.sipush 480, 3) := by decide +kernel
theorem dX0_init_56 : decode cX0_init 56 = .ok (.if_icmp .ge 16, 3) := by decide +kernel
theorem dX0_init_59 : decode cX0_init 59 = .ok (.aload_n 0, 1) := by decide +kernel
theorem dX0_init_60 : decode cX0_init 60 = .ok (.getfield 18, 3) := by decide +kernel
theorem dX0_init_63 : decode cX0_init 63 = .ok (.iload_n 1, 1) := by decide +kernel
theorem dX0_init_64 : decode cX0_init 64 = .ok (.iconst (-1), 1) := by decide +kernel
theorem dX0_init_65 : decode cX0_init 65 = .ok (.iastore, 1) := by decide +kernel
theorem dX0_init_66 : decode cX0_init 66 = .ok (.iinc 1 1, 3) := by decide +kernel
theorem dX0_init_69 : decode cX0_init 69 = .ok (.goto (-17), 3) := by decide +kernel
theorem dX0_init_72 : decode cX0_init 72 = .ok (.return_, 1) := by decide +kernel
theorem dX0_lay_0 : decode cX0_lay 0 = .ok (.aload_n 0, 1) := by decide +kernel
theorem dX0_lay_1 : decode cX0_lay 1 = .ok (.getfield 18, 3) := by decide +kernel
theorem dX0_lay_4 : decode cX0_lay 4 = .ok (.iload_n 1, 1) := by decide +kernel
theorem dX0_lay_5 : decode cX0_lay 5 = .ok (.iconst 5, 1) := by decide +kernel
theorem dX0_lay_6 : decode cX0_lay 6 = .ok (.imul, 1) := by decide +kernel
theorem dX0_lay_7 : decode cX0_lay 7 = .ok (.iload_n 2, 1) := by decide +kernel
theorem dX0_lay_8 : decode cX0_lay 8 = .ok (.iadd, 1) := by decide +kernel
theorem dX0_lay_9 : decode cX0_lay 9 = .ok (.iaload, 1) := by decide +kernel
theorem dX0_lay_10 : decode cX0_lay 10 = .ok (.iconst (-1), 1) := by decide +kernel
theorem dX0_lay_11 : decode cX0_lay 11 = .ok (.if_icmp .eq 5, 3) := by decide +kernel
theorem dX0_lay_14 : decode cX0_lay 14 = .ok (.iconst (-1), 1) := by decide +kernel
theorem dX0_lay_15 : decode cX0_lay 15 = .ok (.ireturn, 1) := by decide +kernel
theorem dX0_lay_16 : decode cX0_lay 16 = .ok (.iconst 0, 1) := by decide +kernel
theorem dX0_lay_17 : decode cX0_lay 17 = .ok (.istore 4, 2) := by decide +kernel
theorem dX0_lay_19 : decode cX0_lay 19 = .ok (.iload 4, 2) := by decide +kernel
theorem dX0_lay_21 : decode cX0_lay 21 = .ok (.bipush 20, 2) := by decide +kernel
theorem dX0_lay_23 : decode cX0_lay 23 = .ok (.if_icmp .ge 56, 3) := by decide +kernel
theorem dX0_lay_26 : decode cX0_lay 26 = .ok (.aload_n 0, 1) := by decide +kernel
theorem dX0_lay_27 : decode cX0_lay 27 = .ok (.getfield 9, 3) := by decide +kernel
theorem dX0_lay_30 : decode cX0_lay 30 = .ok (.iload 4, 2) := by decide +kernel
theorem dX0_lay_32 : decode cX0_lay 32 = .ok (.iaload, 1) := by decide +kernel
theorem dX0_lay_33 : decode cX0_lay 33 = .ok (.iconst (-1), 1) := by decide +kernel
theorem dX0_lay_34 : decode cX0_lay 34 = .ok (.if_icmp .ne 39, 3) := by decide +kernel
theorem dX0_lay_37 : decode cX0_lay 37 = .ok (.aload_n 0, 1) := by decide +kernel
theorem dX0_lay_38 : decode cX0_lay 38 = .ok (.getfield 9, 3) := by decide +kernel
theorem dX0_lay_41 : decode cX0_lay 41 = .ok (.iload 4, 2) := by decide +kernel
theorem dX0_lay_43 : decode cX0_lay 43 = .ok (.iload_n 1, 1) := by decide +kernel
theorem dX0_lay_44 : decode cX0_lay 44 = .ok (.iastore, 1) := by decide +kernel
theorem dX0_lay_45 : decode cX0_lay 45 = .ok (.aload_n 0, 1) := by decide +kernel
theorem dX0_lay_46 : decode cX0_lay 46 = .ok (.getfield 15, 3) := by decide +kernel
theorem dX0_lay_49 : decode cX0_lay 49 = .ok (.iload 4, 2) := by decide +kernel
theorem dX0_lay_51 : decode cX0_lay 51 = .ok (.iload_n 2, 1) := by decide +kernel
theorem dX0_lay_52 : decode cX0_lay 52 = .ok (.iastore, 1) := by decide +kernel
theorem dX0_lay_53 : decode cX0_lay 53 = .ok (.aload_n 0, 1) := by decide +kernel
theorem dX0_lay_54 : decode cX0_lay 54 = .ok (.iload_n 1, 1) := by decide +kernel
theorem dX0_lay_55 : decode cX0_lay 55 = .ok (.iload_n 2, 1) := by decide +kernel
theorem dX0_lay_56 : decode cX0_lay 56 = .ok (.iload_n 3, 1) := by decide +kernel
theorem dX0_lay_57 : decode cX0_lay 57 = .ok (.invokevirtual 21, 3) := by decide +kernel
theorem dX0_lay_60 : decode cX0_lay 60 = .ok (.aload_n 0, 1) := by decide +kernel
theorem dX0_lay_61 : decode cX0_lay 61 = .ok (.dup, 1) := by decide +kernel
theorem dX0_lay_62 : decode cX0_lay 62 = .ok (.getfield 25, 3) := by decide +kernel
theorem dX0_lay_65 : decode cX0_lay 65 = .ok (.iconst 1, 1) := by decide +kernel
theorem dX0_lay_66 : decode cX0_lay 66 = .ok (.iadd, 1) := by decide +kernel
theorem dX0_lay_67 : decode cX0_lay 67 = .ok (.putfield 25, 3) := by decide +kernel
theorem dX0_lay_70 : decode cX0_lay 70 = .ok (.iload 4, 2) := by decide +kernel
theorem dX0_lay_72 : decode cX0_lay 72 = .ok (.ireturn, 1) := by decide +kernel
theorem dX0_lay_73 : decode cX0_lay 73 = .ok (.iinc 4 1, 3) := by decide +kernel
theorem dX0_lay_76 : decode cX0_lay 76 = .ok (.goto (-57), 3) := by decide +kernel
theorem dX0_lay_79 : decode cX0_lay 79 = .ok (.iconst (-1), 1) := by decide +kernel
theorem dX0_lay_80 : decode cX0_lay 80 = .ok (.ireturn, 1) := by decide +kernel
theorem dX0_takeUp_0 : decode cX0_takeUp 0 = .ok (.iload_n 1, 1) := by decide +kernel
theorem dX0_takeUp_1 : decode cX0_takeUp 1 = .ok (.ifCond .lt 19, 3) := by decide +kernel
theorem dX0_takeUp_4 : decode cX0_takeUp 4 = .ok (.iload_n 1, 1) := by decide +kernel
theorem dX0_takeUp_5 : decode cX0_takeUp 5 = .ok (.bipush 20, 2) := by decide +kernel
theorem dX0_takeUp_7 : decode cX0_takeUp 7 = .ok (.if_icmp .ge 13, 3) := by decide +kernel
theorem dX0_takeUp_10 : decode cX0_takeUp 10 = .ok (.aload_n 0, 1) := by decide +kernel
theorem dX0_takeUp_11 : decode cX0_takeUp 11 = .ok (.getfield 9, 3) := by decide +kernel
theorem dX0_takeUp_14 : decode cX0_takeUp 14 = .ok (.iload_n 1, 1) := by decide +kernel
theorem dX0_takeUp_15 : decode cX0_takeUp 15 = .ok (.iaload, 1) := by decide +kernel
theorem dX0_takeUp_16 : decode cX0_takeUp 16 = .ok (.iconst (-1), 1) := by decide +kernel
theorem dX0_takeUp_17 : decode cX0_takeUp 17 = .ok (.if_icmp .ne 5, 3) := by decide +kernel
theorem dX0_takeUp_20 : decode cX0_takeUp 20 = .ok (.iconst 0, 1) := by decide +kernel
theorem dX0_takeUp_21 : decode cX0_takeUp 21 = .ok (.ireturn, 1) := by decide +kernel
theorem dX0_takeUp_22 : decode cX0_takeUp 22 = .ok (.aload_n 0, 1) := by decide +kernel
theorem dX0_takeUp_23 : decode cX0_takeUp 23 = .ok (.aload_n 0, 1) := by decide +kernel
theorem dX0_takeUp_24 : decode cX0_takeUp 24 = .ok (.getfield 9, 3) := by decide +kernel
theorem dX0_takeUp_27 : decode cX0_takeUp 27 = .ok (.iload_n 1, 1) := by decide +kernel
theorem dX0_takeUp_28 : decode cX0_takeUp 28 = .ok (.iaload, 1) := by decide +kernel
theorem dX0_takeUp_29 : decode cX0_takeUp 29 = .ok (.aload_n 0, 1) := by decide +kernel
theorem dX0_takeUp_30 : decode cX0_takeUp 30 = .ok (.getfield 15, 3) := by decide +kernel
theorem dX0_takeUp_33 : decode cX0_takeUp 33 = .ok (.iload_n 1, 1) := by decide +kernel
theorem dX0_takeUp_34 : decode cX0_takeUp 34 = .ok (.iaload, 1) := by decide +kernel
theorem dX0_takeUp_35 : decode cX0_takeUp 35 = .ok (.iconst (-1), 1) := by decide +kernel
theorem dX0_takeUp_36 : decode cX0_takeUp 36 = .ok (.invokevirtual 21, 3) := by decide +kernel
theorem dX0_takeUp_39 : decode cX0_takeUp 39 = .ok (.aload_n 0, 1) := by decide +kernel
theorem dX0_takeUp_40 : decode cX0_takeUp 40 = .ok (.getfield 9, 3) := by decide +kernel
theorem dX0_takeUp_43 : decode cX0_takeUp 43 = .ok (.iload_n 1, 1) := by decide +kernel
theorem dX0_takeUp_44 : decode cX0_takeUp 44 = .ok (.iconst (-1), 1) := by decide +kernel
theorem dX0_takeUp_45 : decode cX0_takeUp 45 = .ok (.iastore, 1) := by decide +kernel
theorem dX0_takeUp_46 : decode cX0_takeUp 46 = .ok (.aload_n 0, 1) := by decide +kernel
theorem dX0_takeUp_47 : decode cX0_takeUp 47 = .ok (.dup, 1) := by decide +kernel
theorem dX0_takeUp_48 : decode cX0_takeUp 48 = .ok (.getfield 25, 3) := by decide +kernel
theorem dX0_takeUp_51 : decode cX0_takeUp 51 = .ok (.iconst 1, 1) := by decide +kernel
theorem dX0_takeUp_52 : decode cX0_takeUp 52 = .ok (.isub, 1) := by decide +kernel
theorem dX0_takeUp_53 : decode cX0_takeUp 53 = .ok (.putfield 25, 3) := by decide +kernel
theorem dX0_takeUp_56 : decode cX0_takeUp 56 = .ok (.iconst 1, 1) := by decide +kernel
theorem dX0_takeUp_57 : decode cX0_takeUp 57 = .ok (.ireturn, 1) := by decide +kernel
theorem dX0_limitBothSides_0 : decode cX0_limitBothSides 0 = .ok (.iload_n 1, 1) := by decide +kernel
theorem dX0_limitBothSides_1 : decode cX0_limitBothSides 1 = .ok (.iload_n 2, 1) := by decide +kernel
theorem dX0_limitBothSides_2 : decode cX0_limitBothSides 2 = .ok (.invokestatic 29, 3) := by decide +kernel
theorem dX0_limitBothSides_5 : decode cX0_limitBothSides 5 = .ok (.istore 4, 2) := by decide +kernel
theorem dX0_limitBothSides_7 : decode cX0_limitBothSides 7 = .ok (.aload_n 0, 1) := by decide +kernel
theorem dX0_limitBothSides_8 : decode cX0_limitBothSides 8 = .ok (.getfield 18, 3) := by decide +kernel
theorem dX0_limitBothSides_11 : decode cX0_limitBothSides 11 = .ok (.iload_n 1, 1) := by decide +kernel
theorem dX0_limitBothSides_12 : decode cX0_limitBothSides 12 = .ok (.iconst 5, 1) := by decide +kernel
theorem dX0_limitBothSides_13 : decode cX0_limitBothSides 13 = .ok (.imul, 1) := by decide +kernel
theorem dX0_limitBothSides_14 : decode cX0_limitBothSides 14 = .ok (.iload_n 2, 1) := by decide +kernel
theorem dX0_limitBothSides_15 : decode cX0_limitBothSides 15 = .ok (.iadd, 1) := by decide +kernel
theorem dX0_limitBothSides_16 : decode cX0_limitBothSides 16 = .ok (.iload_n 3, 1) := by decide +kernel
theorem dX0_limitBothSides_17 : decode cX0_limitBothSides 17 = .ok (.iastore, 1) := by decide +kernel
theorem dX0_limitBothSides_18 : decode cX0_limitBothSides 18 = .ok (.iload 4, 2) := by decide +kernel
theorem dX0_limitBothSides_20 : decode cX0_limitBothSides 20 = .ok (.iconst (-1), 1) := by decide +kernel
theorem dX0_limitBothSides_21 : decode cX0_limitBothSides 21 = .ok (.if_icmp .eq 18, 3) := by decide +kernel
theorem dX0_limitBothSides_24 : decode cX0_limitBothSides 24 = .ok (.aload_n 0, 1) := by decide +kernel
theorem dX0_limitBothSides_25 : decode cX0_limitBothSides 25 = .ok (.getfield 18, 3) := by decide +kernel
theorem dX0_limitBothSides_28 : decode cX0_limitBothSides 28 = .ok (.iload 4, 2) := by decide +kernel
theorem dX0_limitBothSides_30 : decode cX0_limitBothSides 30 = .ok (.iconst 5, 1) := by decide +kernel
theorem dX0_limitBothSides_31 : decode cX0_limitBothSides 31 = .ok (.imul, 1) := by decide +kernel
theorem dX0_limitBothSides_32 : decode cX0_limitBothSides 32 = .ok (.iload_n 2, 1) := by decide +kernel
theorem dX0_limitBothSides_33 : decode cX0_limitBothSides 33 = .ok (.invokestatic 35, 3) := by decide +kernel
theorem dX0_limitBothSides_36 : decode cX0_limitBothSides 36 = .ok (.iadd, 1) := by decide +kernel
theorem dX0_limitBothSides_37 : decode cX0_limitBothSides 37 = .ok (.iload_n 3, 1) := by decide +kernel
theorem dX0_limitBothSides_38 : decode cX0_limitBothSides 38 = .ok (.iastore, 1) := by decide +kernel
theorem dX0_limitBothSides_39 : decode cX0_limitBothSides 39 = .ok (.return_, 1) := by decide +kernel
theorem dX0_endAt_0 : decode cX0_endAt 0 = .ok (.iconst 1, 1) := by decide +kernel
theorem dX0_endAt_1 : decode cX0_endAt 1 = .ok (.istore_n 2, 1) := by decide +kernel
theorem dX0_endAt_2 : decode cX0_endAt 2 = .ok (.iload_n 2, 1) := by decide +kernel
theorem dX0_endAt_3 : decode cX0_endAt 3 = .ok (.iconst 4, 1) := by decide +kernel
theorem dX0_endAt_4 : decode cX0_endAt 4 = .ok (.if_icmp .gt 25, 3) := by decide +kernel
theorem dX0_endAt_7 : decode cX0_endAt 7 = .ok (.aload_n 0, 1) := by decide +kernel
theorem dX0_endAt_8 : decode cX0_endAt 8 = .ok (.getfield 18, 3) := by decide +kernel
theorem dX0_endAt_11 : decode cX0_endAt 11 = .ok (.iload_n 1, 1) := by decide +kernel
theorem dX0_endAt_12 : decode cX0_endAt 12 = .ok (.iconst 5, 1) := by decide +kernel
theorem dX0_endAt_13 : decode cX0_endAt 13 = .ok (.imul, 1) := by decide +kernel
theorem dX0_endAt_14 : decode cX0_endAt 14 = .ok (.iload_n 2, 1) := by decide +kernel
theorem dX0_endAt_15 : decode cX0_endAt 15 = .ok (.iadd, 1) := by decide +kernel
theorem dX0_endAt_16 : decode cX0_endAt 16 = .ok (.iaload, 1) := by decide +kernel
theorem dX0_endAt_17 : decode cX0_endAt 17 = .ok (.iconst (-1), 1) := by decide +kernel
theorem dX0_endAt_18 : decode cX0_endAt 18 = .ok (.if_icmp .eq 5, 3) := by decide +kernel
theorem dX0_endAt_21 : decode cX0_endAt 21 = .ok (.iconst 1, 1) := by decide +kernel
theorem dX0_endAt_22 : decode cX0_endAt 22 = .ok (.ireturn, 1) := by decide +kernel
theorem dX0_endAt_23 : decode cX0_endAt 23 = .ok (.iinc 2 1, 3) := by decide +kernel
theorem dX0_endAt_26 : decode cX0_endAt 26 = .ok (.goto (-24), 3) := by decide +kernel
theorem dX0_endAt_29 : decode cX0_endAt 29 = .ok (.iconst 0, 1) := by decide +kernel
theorem dX0_endAt_30 : decode cX0_endAt 30 = .ok (.ireturn, 1) := by decide +kernel
theorem dX0_hold_0 : decode cX0_hold 0 = .ok (.iload_n 3, 1) := by decide +kernel
theorem dX0_hold_1 : decode cX0_hold 1 = .ok (.aload_n 0, 1) := by decide +kernel
theorem dX0_hold_2 : decode cX0_hold 2 = .ok (.getfield 18, 3) := by decide +kernel
theorem dX0_hold_5 : decode cX0_hold 5 = .ok (.iload_n 1, 1) := by decide +kernel
theorem dX0_hold_6 : decode cX0_hold 6 = .ok (.iconst 5, 1) := by decide +kernel
theorem dX0_hold_7 : decode cX0_hold 7 = .ok (.imul, 1) := by decide +kernel
theorem dX0_hold_8 : decode cX0_hold 8 = .ok (.iload_n 2, 1) := by decide +kernel
theorem dX0_hold_9 : decode cX0_hold 9 = .ok (.iadd, 1) := by decide +kernel
theorem dX0_hold_10 : decode cX0_hold 10 = .ok (.iaload, 1) := by decide +kernel
theorem dX0_hold_11 : decode cX0_hold 11 = .ok (.if_icmp .gt 7, 3) := by decide +kernel
theorem dX0_hold_14 : decode cX0_hold 14 = .ok (.iconst 1, 1) := by decide +kernel
theorem dX0_hold_15 : decode cX0_hold 15 = .ok (.goto 4, 3) := by decide +kernel
theorem dX0_hold_18 : decode cX0_hold 18 = .ok (.iconst 0, 1) := by decide +kernel
theorem dX0_hold_19 : decode cX0_hold 19 = .ok (.ireturn, 1) := by decide +kernel
theorem dX1_init_0 : decode cX1_init 0 = .ok (.aload_n 0, 1) := by decide +kernel
theorem dX1_init_1 : decode cX1_init 1 = .ok (.invokespecial 3, 3) := by decide +kernel
theorem dX1_init_4 : decode cX1_init 4 = .ok (.aload_n 0, 1) := by decide +kernel
theorem dX1_init_5 : decode cX1_init 5 = .ok (.iconst 4, 1) := by decide +kernel
theorem dX1_init_6 : decode cX1_init 6 = .ok (.anewarray 9, 3) := by decide +kernel
theorem dX1_init_9 : decode cX1_init 9 = .ok (.putfield 11, 3) := by decide +kernel
theorem dX1_init_12 : decode cX1_init 12 = .ok (.iconst 0, 1) := by decide +kernel
theorem dX1_init_13 : decode cX1_init 13 = .ok (.istore_n 1, 1) := by decide +kernel
theorem dX1_init_14 : decode cX1_init 14 = .ok (.iload_n 1, 1) := by decide +kernel
theorem dX1_init_15 : decode cX1_init 15 = .ok (.iconst 4, 1) := by decide +kernel
theorem dX1_init_16 : decode cX1_init 16 = .ok (.if_icmp .ge 22, 3) := by decide +kernel
theorem dX1_init_19 : decode cX1_init 19 = .ok (.aload_n 0, 1) := by decide +kernel
theorem dX1_init_20 : decode cX1_init 20 = .ok (.getfield 11, 3) := by decide +kernel
theorem dX1_init_23 : decode cX1_init 23 = .ok (.iload_n 1, 1) := by decide +kernel
theorem dX1_init_24 : decode cX1_init 24 = .ok (.new 9, 3) := by decide +kernel
theorem dX1_init_27 : decode cX1_init 27 = .ok (.dup, 1) := by decide +kernel
theorem dX1_init_28 : decode cX1_init 28 = .ok (.invokespecial 17, 3) := by decide +kernel
theorem dX1_init_31 : decode cX1_init 31 = .ok (.aastore, 1) := by decide +kernel
theorem dX1_init_32 : decode cX1_init 32 = .ok (.iinc 1 1, 3) := by decide +kernel
theorem dX1_init_35 : decode cX1_init 35 = .ok (.goto (-21), 3) := by decide +kernel
theorem dX1_init_38 : decode cX1_init 38 = .ok (.return_, 1) := by decide +kernel
theorem dX1_has_0 : decode cX1_has 0 = .ok (.iload_n 1, 1) := by decide +kernel
theorem dX1_has_1 : decode cX1_has 1 = .ok (.ifCond .lt 15, 3) := by decide +kernel
theorem dX1_has_4 : decode cX1_has 4 = .ok (.iload_n 1, 1) := by decide +kernel
theorem dX1_has_5 : decode cX1_has 5 = .ok (.aload_n 0, 1) := by decide +kernel
theorem dX1_has_6 : decode cX1_has 6 = .ok (.getfield 18, 3) := by decide +kernel
theorem dX1_has_9 : decode cX1_has 9 = .ok (.if_icmp .ge 7, 3) := by decide +kernel
theorem dX1_has_12 : decode cX1_has 12 = .ok (.iconst 1, 1) := by decide +kernel
theorem dX1_has_13 : decode cX1_has 13 = .ok (.goto 4, 3) := by decide +kernel
theorem dX1_has_16 : decode cX1_has 16 = .ok (.iconst 0, 1) := by decide +kernel
theorem dX1_has_17 : decode cX1_has 17 = .ok (.ireturn, 1) := by decide +kernel
theorem dX1_add_0 : decode cX1_add 0 = .ok (.aload_n 0, 1) := by decide +kernel
theorem dX1_add_1 : decode cX1_add 1 = .ok (.getfield 18, 3) := by decide +kernel
theorem dX1_add_4 : decode cX1_add 4 = .ok (.iconst 4, 1) := by decide +kernel
theorem dX1_add_5 : decode cX1_add 5 = .ok (.if_icmp .lt 5, 3) := by decide +kernel
theorem dX1_add_8 : decode cX1_add 8 = .ok (.iconst (-1), 1) := by decide +kernel
theorem dX1_add_9 : decode cX1_add 9 = .ok (.ireturn, 1) := by decide +kernel
theorem dX1_add_10 : decode cX1_add 10 = .ok (.aload_n 0, 1) := by decide +kernel
theorem dX1_add_11 : decode cX1_add 11 = .ok (.getfield 11, 3) := by decide +kernel
theorem dX1_add_14 : decode cX1_add 14 = .ok (.aload_n 0, 1) := by decide +kernel
theorem dX1_add_15 : decode cX1_add 15 = .ok (.getfield 18, 3) := by decide +kernel
theorem dX1_add_18 : decode cX1_add 18 = .ok (.aaload, 1) := by decide +kernel
theorem dX1_add_19 : decode cX1_add 19 = .ok (.astore 5, 2) := by decide +kernel
theorem dX1_add_21 : decode cX1_add 21 = .ok (.aload 5, 2) := by decide +kernel
theorem dX1_add_23 : decode cX1_add 23 = .ok (.iload_n 1, 1) := by decide +kernel
theorem dX1_add_24 : decode cX1_add 24 = .ok (.putfield 22, 3) := by decide +kernel
theorem dX1_add_27 : decode cX1_add 27 = .ok (.aload 5, 2) := by decide +kernel
theorem dX1_add_29 : decode cX1_add 29 = .ok (.iload_n 2, 1) := by decide +kernel
theorem dX1_add_30 : decode cX1_add 30 = .ok (.putfield 25, 3) := by decide +kernel
theorem dX1_add_33 : decode cX1_add 33 = .ok (.aload 5, 2) := by decide +kernel
theorem dX1_add_35 : decode cX1_add 35 = .ok (.iload_n 3, 1) := by decide +kernel
theorem dX1_add_36 : decode cX1_add 36 = .ok (.putfield 28, 3) := by decide +kernel
theorem dX1_add_39 : decode cX1_add 39 = .ok (.aload 5, 2) := by decide +kernel
theorem dX1_add_41 : decode cX1_add 41 = .ok (.iload 4, 2) := by decide +kernel
theorem dX1_add_43 : decode cX1_add 43 = .ok (.putfield 31, 3) := by decide +kernel
theorem dX1_add_46 : decode cX1_add 46 = .ok (.aload_n 0, 1) := by decide +kernel
theorem dX1_add_47 : decode cX1_add 47 = .ok (.dup, 1) := by decide +kernel
theorem dX1_add_48 : decode cX1_add 48 = .ok (.getfield 18, 3) := by decide +kernel
theorem dX1_add_51 : decode cX1_add 51 = .ok (.iconst 1, 1) := by decide +kernel
theorem dX1_add_52 : decode cX1_add 52 = .ok (.iadd, 1) := by decide +kernel
theorem dX1_add_53 : decode cX1_add 53 = .ok (.putfield 18, 3) := by decide +kernel
theorem dX1_add_56 : decode cX1_add 56 = .ok (.aload_n 0, 1) := by decide +kernel
theorem dX1_add_57 : decode cX1_add 57 = .ok (.getfield 18, 3) := by decide +kernel
theorem dX1_add_60 : decode cX1_add 60 = .ok (.iconst 1, 1) := by decide +kernel
theorem dX1_add_61 : decode cX1_add 61 = .ok (.isub, 1) := by decide +kernel
theorem dX1_add_62 : decode cX1_add 62 = .ok (.ireturn, 1) := by decide +kernel
theorem dX1_isAt_0 : decode cX1_isAt 0 = .ok (.iconst 0, 1) := by decide +kernel
theorem dX1_isAt_1 : decode cX1_isAt 1 = .ok (.istore_n 2, 1) := by decide +kernel
theorem dX1_isAt_2 : decode cX1_isAt 2 = .ok (.iload_n 2, 1) := by decide +kernel
theorem dX1_isAt_3 : decode cX1_isAt 3 = .ok (.aload_n 0, 1) := by decide +kernel
theorem dX1_isAt_4 : decode cX1_isAt 4 = .ok (.getfield 18, 3) := by decide +kernel
theorem dX1_isAt_7 : decode cX1_isAt 7 = .ok (.if_icmp .ge 24, 3) := by decide +kernel
theorem dX1_isAt_10 : decode cX1_isAt 10 = .ok (.aload_n 0, 1) := by decide +kernel
theorem dX1_isAt_11 : decode cX1_isAt 11 = .ok (.getfield 11, 3) := by decide +kernel
theorem dX1_isAt_14 : decode cX1_isAt 14 = .ok (.iload_n 2, 1) := by decide +kernel
theorem dX1_isAt_15 : decode cX1_isAt 15 = .ok (.aaload, 1) := by decide +kernel
theorem dX1_isAt_16 : decode cX1_isAt 16 = .ok (.getfield 22, 3) := by decide +kernel
theorem dX1_isAt_19 : decode cX1_isAt 19 = .ok (.iload_n 1, 1) := by decide +kernel
theorem dX1_isAt_20 : decode cX1_isAt 20 = .ok (.if_icmp .ne 5, 3) := by decide +kernel
theorem dX1_isAt_23 : decode cX1_isAt 23 = .ok (.iconst 1, 1) := by decide +kernel
theorem dX1_isAt_24 : decode cX1_isAt 24 = .ok (.ireturn, 1) := by decide +kernel
theorem dX1_isAt_25 : decode cX1_isAt 25 = .ok (.iinc 2 1, 3) := by decide +kernel
theorem dX1_isAt_28 : decode cX1_isAt 28 = .ok (.goto (-26), 3) := by decide +kernel
theorem dX1_isAt_31 : decode cX1_isAt 31 = .ok (.iconst 0, 1) := by decide +kernel
theorem dX1_isAt_32 : decode cX1_isAt 32 = .ok (.ireturn, 1) := by decide +kernel
theorem dX1_beginHour_0 : decode cX1_beginHour 0 = .ok (.iconst 0, 1) := by decide +kernel
theorem dX1_beginHour_1 : decode cX1_beginHour 1 = .ok (.istore_n 1, 1) := by decide +kernel
theorem dX1_beginHour_2 : decode cX1_beginHour 2 = .ok (.iload_n 1, 1) := by decide +kernel
theorem dX1_beginHour_3 : decode cX1_beginHour 3 = .ok (.aload_n 0, 1) := by decide +kernel
theorem dX1_beginHour_4 : decode cX1_beginHour 4 = .ok (.getfield 18, 3) := by decide +kernel
theorem dX1_beginHour_7 : decode cX1_beginHour 7 = .ok (.if_icmp .ge 19, 3) := by decide +kernel
theorem dX1_beginHour_10 : decode cX1_beginHour 10 = .ok (.aload_n 0, 1) := by decide +kernel
theorem dX1_beginHour_11 : decode cX1_beginHour 11 = .ok (.getfield 11, 3) := by decide +kernel
theorem dX1_beginHour_14 : decode cX1_beginHour 14 = .ok (.iload_n 1, 1) := by decide +kernel
theorem dX1_beginHour_15 : decode cX1_beginHour 15 = .ok (.aaload, 1) := by decide +kernel
theorem dX1_beginHour_16 : decode cX1_beginHour 16 = .ok (.iconst 0, 1) := by decide +kernel
theorem dX1_beginHour_17 : decode cX1_beginHour 17 = .ok (.putfield 34, 3) := by decide +kernel
theorem dX1_beginHour_20 : decode cX1_beginHour 20 = .ok (.iinc 1 1, 3) := by decide +kernel
theorem dX1_beginHour_23 : decode cX1_beginHour 23 = .ok (.goto (-21), 3) := by decide +kernel
theorem dX1_beginHour_26 : decode cX1_beginHour 26 = .ok (.return_, 1) := by decide +kernel
theorem dX1_roomLeft_0 : decode cX1_roomLeft 0 = .ok (.aload_n 0, 1) := by decide +kernel
theorem dX1_roomLeft_1 : decode cX1_roomLeft 1 = .ok (.getfield 11, 3) := by decide +kernel
theorem dX1_roomLeft_4 : decode cX1_roomLeft 4 = .ok (.iload_n 2, 1) := by decide +kernel
theorem dX1_roomLeft_5 : decode cX1_roomLeft 5 = .ok (.aaload, 1) := by decide +kernel
theorem dX1_roomLeft_6 : decode cX1_roomLeft 6 = .ok (.getfield 28, 3) := by decide +kernel
theorem dX1_roomLeft_9 : decode cX1_roomLeft 9 = .ok (.aload_n 1, 1) := by decide +kernel
theorem dX1_roomLeft_10 : decode cX1_roomLeft 10 = .ok (.getfield 38, 3) := by decide +kernel
theorem dX1_roomLeft_13 : decode cX1_roomLeft 13 = .ok (.iload_n 2, 1) := by decide +kernel
theorem dX1_roomLeft_14 : decode cX1_roomLeft 14 = .ok (.iaload, 1) := by decide +kernel
theorem dX1_roomLeft_15 : decode cX1_roomLeft 15 = .ok (.isub, 1) := by decide +kernel
theorem dX1_roomLeft_16 : decode cX1_roomLeft 16 = .ok (.ireturn, 1) := by decide +kernel
theorem dX1_canTake_0 : decode cX1_canTake 0 = .ok (.aload_n 0, 1) := by decide +kernel
theorem dX1_canTake_1 : decode cX1_canTake 1 = .ok (.getfield 11, 3) := by decide +kernel
theorem dX1_canTake_4 : decode cX1_canTake 4 = .ok (.iload_n 2, 1) := by decide +kernel
theorem dX1_canTake_5 : decode cX1_canTake 5 = .ok (.aaload, 1) := by decide +kernel
theorem dX1_canTake_6 : decode cX1_canTake 6 = .ok (.getfield 25, 3) := by decide +kernel
theorem dX1_canTake_9 : decode cX1_canTake 9 = .ok (.aload_n 0, 1) := by decide +kernel
theorem dX1_canTake_10 : decode cX1_canTake 10 = .ok (.aload_n 1, 1) := by decide +kernel
theorem dX1_canTake_11 : decode cX1_canTake 11 = .ok (.iload_n 2, 1) := by decide +kernel
theorem dX1_canTake_12 : decode cX1_canTake 12 = .ok (.invokevirtual 44, 3) := by decide +kernel
theorem dX1_canTake_15 : decode cX1_canTake 15 = .ok (.invokestatic 48, 3) := by decide +kernel
theorem dX1_canTake_18 : decode cX1_canTake 18 = .ok (.istore 4, 2) := by decide +kernel
theorem dX1_canTake_20 : decode cX1_canTake 20 = .ok (.iload 4, 2) := by decide +kernel
theorem dX1_canTake_22 : decode cX1_canTake 22 = .ok (.aload_n 1, 1) := by decide +kernel
theorem dX1_canTake_23 : decode cX1_canTake 23 = .ok (.getfield 54, 3) := by decide +kernel
theorem dX1_canTake_26 : decode cX1_canTake 26 = .ok (.iload_n 3, 1) := by decide +kernel
theorem dX1_canTake_27 : decode cX1_canTake 27 = .ok (.iaload, 1) := by decide +kernel
theorem dX1_canTake_28 : decode cX1_canTake 28 = .ok (.invokestatic 48, 3) := by decide +kernel
theorem dX1_canTake_31 : decode cX1_canTake 31 = .ok (.ireturn, 1) := by decide +kernel
theorem dX1_take_0 : decode cX1_take 0 = .ok (.aload_n 0, 1) := by decide +kernel
theorem dX1_take_1 : decode cX1_take 1 = .ok (.aload_n 1, 1) := by decide +kernel
theorem dX1_take_2 : decode cX1_take 2 = .ok (.iload_n 2, 1) := by decide +kernel
theorem dX1_take_3 : decode cX1_take 3 = .ok (.iload_n 3, 1) := by decide +kernel
theorem dX1_take_4 : decode cX1_take 4 = .ok (.invokevirtual 57, 3) := by decide +kernel
theorem dX1_take_7 : decode cX1_take 7 = .ok (.istore 4, 2) := by decide +kernel
theorem dX1_take_9 : decode cX1_take 9 = .ok (.aload_n 1, 1) := by decide +kernel
theorem dX1_take_10 : decode cX1_take 10 = .ok (.getfield 54, 3) := by decide +kernel
theorem dX1_take_13 : decode cX1_take 13 = .ok (.iload_n 3, 1) := by decide +kernel
theorem dX1_take_14 : decode cX1_take 14 = .ok (.dup2, 1) := by decide +kernel
theorem dX1_take_15 : decode cX1_take 15 = .ok (.iaload, 1) := by decide +kernel
theorem dX1_take_16 : decode cX1_take 16 = .ok (.iload 4, 2) := by decide +kernel
theorem dX1_take_18 : decode cX1_take 18 = .ok (.isub, 1) := by decide +kernel
theorem dX1_take_19 : decode cX1_take 19 = .ok (.iastore, 1) := by decide +kernel
theorem dX1_take_20 : decode cX1_take 20 = .ok (.aload_n 1, 1) := by decide +kernel
theorem dX1_take_21 : decode cX1_take 21 = .ok (.getfield 38, 3) := by decide +kernel
theorem dX1_take_24 : decode cX1_take 24 = .ok (.iload_n 2, 1) := by decide +kernel
theorem dX1_take_25 : decode cX1_take 25 = .ok (.dup2, 1) := by decide +kernel
theorem dX1_take_26 : decode cX1_take 26 = .ok (.iaload, 1) := by decide +kernel
theorem dX1_take_27 : decode cX1_take 27 = .ok (.iload 4, 2) := by decide +kernel
theorem dX1_take_29 : decode cX1_take 29 = .ok (.iadd, 1) := by decide +kernel
theorem dX1_take_30 : decode cX1_take 30 = .ok (.iastore, 1) := by decide +kernel
theorem dX1_take_31 : decode cX1_take 31 = .ok (.return_, 1) := by decide +kernel
theorem dX1_skim_0 : decode cX1_skim 0 = .ok (.iload_n 2, 1) := by decide +kernel
theorem dX1_skim_1 : decode cX1_skim 1 = .ok (.istore 4, 2) := by decide +kernel
theorem dX1_skim_3 : decode cX1_skim 3 = .ok (.iload 4, 2) := by decide +kernel
theorem dX1_skim_5 : decode cX1_skim 5 = .ok (.iload_n 3, 1) := by decide +kernel
theorem dX1_skim_6 : decode cX1_skim 6 = .ok (.if_icmp .ge 26, 3) := by decide +kernel
theorem dX1_skim_9 : decode cX1_skim 9 = .ok (.aload_n 0, 1) := by decide +kernel
theorem dX1_skim_10 : decode cX1_skim 10 = .ok (.aload_n 1, 1) := by decide +kernel
theorem dX1_skim_11 : decode cX1_skim 11 = .ok (.iload 4, 2) := by decide +kernel
theorem dX1_skim_13 : decode cX1_skim 13 = .ok (.aload_n 0, 1) := by decide +kernel
theorem dX1_skim_14 : decode cX1_skim 14 = .ok (.getfield 11, 3) := by decide +kernel
theorem dX1_skim_17 : decode cX1_skim 17 = .ok (.iload 4, 2) := by decide +kernel
theorem dX1_skim_19 : decode cX1_skim 19 = .ok (.aaload, 1) := by decide +kernel
theorem dX1_skim_20 : decode cX1_skim 20 = .ok (.getfield 22, 3) := by decide +kernel
theorem dX1_skim_23 : decode cX1_skim 23 = .ok (.invokevirtual 61, 3) := by decide +kernel
theorem dX1_skim_26 : decode cX1_skim 26 = .ok (.iinc 4 1, 3) := by decide +kernel
theorem dX1_skim_29 : decode cX1_skim 29 = .ok (.goto (-26), 3) := by decide +kernel
theorem dX1_skim_32 : decode cX1_skim 32 = .ok (.return_, 1) := by decide +kernel
theorem dX2_init_0 : decode cX2_init 0 = .ok (.aload_n 0, 1) := by decide +kernel
theorem dX2_init_1 : decode cX2_init 1 = .ok (.invokespecial 3, 3) := by decide +kernel
theorem dX2_init_4 : decode cX2_init 4 = .ok (.aload_n 0, 1) := by decide +kernel
theorem dX2_init_5 : decode cX2_init 5 = .ok (.bipush 96, 2) := by decide +kernel
theorem dX2_init_7 : decode cX2_init 7 = .ok (.newarray .int, 2) := by decide +kernel
theorem dX2_init_9 : decode cX2_init 9 = .ok (.putfield 9, 3) := by decide +kernel
theorem dX2_init_12 : decode cX2_init 12 = .ok (.return_, 1) := by decide +kernel
theorem dX2_isCell_0 : decode cX2_isCell 0 = .ok (.iload_n 0, 1) := by decide +kernel
theorem dX2_isCell_1 : decode cX2_isCell 1 = .ok (.ifCond .lt 13, 3) := by decide +kernel
theorem dX2_isCell_4 : decode cX2_isCell 4 = .ok (.iload_n 0, 1) := by decide +kernel
theorem dX2_isCell_5 : decode cX2_isCell 5 = .ok (.bipush 96, 2) := by decide +kernel
theorem dX2_isCell_7 : decode cX2_isCell 7 = .ok (.if_icmp .ge 7, 3) := by decide +kernel
theorem dX2_isCell_10 : decode cX2_isCell 10 = .ok (.iconst 1, 1) := by decide +kernel
theorem dX2_isCell_11 : decode cX2_isCell 11 = .ok (.goto 4, 3) := by decide +kernel
theorem dX2_isCell_14 : decode cX2_isCell 14 = .ok (.iconst 0, 1) := by decide +kernel
theorem dX2_isCell_15 : decode cX2_isCell 15 = .ok (.ireturn, 1) := by decide +kernel
theorem dX2_isSea_0 : decode cX2_isSea 0 = .ok (.iload_n 1, 1) := by decide +kernel
theorem dX2_isSea_1 : decode cX2_isSea 1 = .ok (.invokestatic 15, 3) := by decide +kernel
theorem dX2_isSea_4 : decode cX2_isSea 4 = .ok (.ifCond .eq 16, 3) := by decide +kernel
theorem dX2_isSea_7 : decode cX2_isSea 7 = .ok (.aload_n 0, 1) := by decide +kernel
theorem dX2_isSea_8 : decode cX2_isSea 8 = .ok (.getfield 9, 3) := by decide +kernel
theorem dX2_isSea_11 : decode cX2_isSea 11 = .ok (.iload_n 1, 1) := by decide +kernel
theorem dX2_isSea_12 : decode cX2_isSea 12 = .ok (.iaload, 1) := by decide +kernel
theorem dX2_isSea_13 : decode cX2_isSea 13 = .ok (.ifCond .ne 7, 3) := by decide +kernel
theorem dX2_isSea_16 : decode cX2_isSea 16 = .ok (.iconst 1, 1) := by decide +kernel
theorem dX2_isSea_17 : decode cX2_isSea 17 = .ok (.goto 4, 3) := by decide +kernel
theorem dX2_isSea_20 : decode cX2_isSea 20 = .ok (.iconst 0, 1) := by decide +kernel
theorem dX2_isSea_21 : decode cX2_isSea 21 = .ok (.ireturn, 1) := by decide +kernel
theorem dX2_ahead_0 : decode cX2_ahead 0 = .ok (.iload_n 0, 1) := by decide +kernel
theorem dX2_ahead_1 : decode cX2_ahead 1 = .ok (.bipush 12, 2) := by decide +kernel
theorem dX2_ahead_3 : decode cX2_ahead 3 = .ok (.irem, 1) := by decide +kernel
theorem dX2_ahead_4 : decode cX2_ahead 4 = .ok (.istore_n 2, 1) := by decide +kernel
theorem dX2_ahead_5 : decode cX2_ahead 5 = .ok (.iload_n 1, 1) := by decide +kernel
theorem dX2_ahead_6 : decode cX2_ahead 6 = .ok (.tableswitch 86 1 4 #[30, 45, 59, 74], 30) := by decide +kernel
theorem dX2_ahead_36 : decode cX2_ahead 36 = .ok (.iload_n 0, 1) := by decide +kernel
theorem dX2_ahead_37 : decode cX2_ahead 37 = .ok (.bipush 12, 2) := by decide +kernel
theorem dX2_ahead_39 : decode cX2_ahead 39 = .ok (.if_icmp .lt 10, 3) := by decide +kernel
theorem dX2_ahead_42 : decode cX2_ahead 42 = .ok (.iload_n 0, 1) := by decide +kernel
theorem dX2_ahead_43 : decode cX2_ahead 43 = .ok (.bipush 12, 2) := by decide +kernel
theorem dX2_ahead_45 : decode cX2_ahead 45 = .ok (.isub, 1) := by decide +kernel
theorem dX2_ahead_46 : decode cX2_ahead 46 = .ok (.goto 4, 3) := by decide +kernel
theorem dX2_ahead_49 : decode cX2_ahead 49 = .ok (.iconst (-1), 1) := by decide +kernel
theorem dX2_ahead_50 : decode cX2_ahead 50 = .ok (.ireturn, 1) := by decide +kernel
theorem dX2_ahead_51 : decode cX2_ahead 51 = .ok (.iload_n 2, 1) := by decide +kernel
theorem dX2_ahead_52 : decode cX2_ahead 52 = .ok (.bipush 11, 2) := by decide +kernel
theorem dX2_ahead_54 : decode cX2_ahead 54 = .ok (.if_icmp .ge 9, 3) := by decide +kernel
theorem dX2_ahead_57 : decode cX2_ahead 57 = .ok (.iload_n 0, 1) := by decide +kernel
theorem dX2_ahead_58 : decode cX2_ahead 58 = .ok (.iconst 1, 1) := by decide +kernel
theorem dX2_ahead_59 : decode cX2_ahead 59 = .ok (.iadd, 1) := by decide +kernel
theorem dX2_ahead_60 : decode cX2_ahead 60 = .ok (.goto 4, 3) := by decide +kernel
theorem dX2_ahead_63 : decode cX2_ahead 63 = .ok (.iconst (-1), 1) := by decide +kernel
theorem dX2_ahead_64 : decode cX2_ahead 64 = .ok (.ireturn, 1) := by decide +kernel
theorem dX2_ahead_65 : decode cX2_ahead 65 = .ok (.iload_n 0, 1) := by decide +kernel
theorem dX2_ahead_66 : decode cX2_ahead 66 = .ok (.bipush 84, 2) := by decide +kernel
theorem dX2_ahead_68 : decode cX2_ahead 68 = .ok (.if_icmp .ge 10, 3) := by decide +kernel
theorem dX2_ahead_71 : decode cX2_ahead 71 = .ok (.iload_n 0, 1) := by decide +kernel
theorem dX2_ahead_72 : decode cX2_ahead 72 = .ok (.bipush 12, 2) := by decide +kernel
theorem dX2_ahead_74 : decode cX2_ahead 74 = .ok (.iadd, 1) := by decide +kernel
theorem dX2_ahead_75 : decode cX2_ahead 75 = .ok (.goto 4, 3) := by decide +kernel
theorem dX2_ahead_78 : decode cX2_ahead 78 = .ok (.iconst (-1), 1) := by decide +kernel
theorem dX2_ahead_79 : decode cX2_ahead 79 = .ok (.ireturn, 1) := by decide +kernel
theorem dX2_ahead_80 : decode cX2_ahead 80 = .ok (.iload_n 2, 1) := by decide +kernel
theorem dX2_ahead_81 : decode cX2_ahead 81 = .ok (.ifCond .le 9, 3) := by decide +kernel
theorem dX2_ahead_84 : decode cX2_ahead 84 = .ok (.iload_n 0, 1) := by decide +kernel
theorem dX2_ahead_85 : decode cX2_ahead 85 = .ok (.iconst 1, 1) := by decide +kernel
theorem dX2_ahead_86 : decode cX2_ahead 86 = .ok (.isub, 1) := by decide +kernel
theorem dX2_ahead_87 : decode cX2_ahead 87 = .ok (.goto 4, 3) := by decide +kernel
theorem dX2_ahead_90 : decode cX2_ahead 90 = .ok (.iconst (-1), 1) := by decide +kernel
theorem dX2_ahead_91 : decode cX2_ahead 91 = .ok (.ireturn, 1) := by decide +kernel
theorem dX2_ahead_92 : decode cX2_ahead 92 = .ok (.iconst (-1), 1) := by decide +kernel
theorem dX2_ahead_93 : decode cX2_ahead 93 = .ok (.ireturn, 1) := by decide +kernel
theorem dX2_opposite_0 : decode cX2_opposite 0 = .ok (.iload_n 0, 1) := by decide +kernel
theorem dX2_opposite_1 : decode cX2_opposite 1 = .ok (.tableswitch 39 1 4 #[31, 33, 35, 37], 31) := by decide +kernel
theorem dX2_opposite_32 : decode cX2_opposite 32 = .ok (.iconst 3, 1) := by decide +kernel
theorem dX2_opposite_33 : decode cX2_opposite 33 = .ok (.ireturn, 1) := by decide +kernel
theorem dX2_opposite_34 : decode cX2_opposite 34 = .ok (.iconst 4, 1) := by decide +kernel
theorem dX2_opposite_35 : decode cX2_opposite 35 = .ok (.ireturn, 1) := by decide +kernel
theorem dX2_opposite_36 : decode cX2_opposite 36 = .ok (.iconst 1, 1) := by decide +kernel
theorem dX2_opposite_37 : decode cX2_opposite 37 = .ok (.ireturn, 1) := by decide +kernel
theorem dX2_opposite_38 : decode cX2_opposite 38 = .ok (.iconst 2, 1) := by decide +kernel
theorem dX2_opposite_39 : decode cX2_opposite 39 = .ok (.ireturn, 1) := by decide +kernel
theorem dX2_opposite_40 : decode cX2_opposite 40 = .ok (.iconst 0, 1) := by decide +kernel
theorem dX2_opposite_41 : decode cX2_opposite 41 = .ok (.ireturn, 1) := by decide +kernel
theorem dX2_wayBeside_0 : decode cX2_wayBeside 0 = .ok (.iconst 1, 1) := by decide +kernel
theorem dX2_wayBeside_1 : decode cX2_wayBeside 1 = .ok (.istore_n 2, 1) := by decide +kernel
theorem dX2_wayBeside_2 : decode cX2_wayBeside 2 = .ok (.iload_n 2, 1) := by decide +kernel
theorem dX2_wayBeside_3 : decode cX2_wayBeside 3 = .ok (.iconst 4, 1) := by decide +kernel
theorem dX2_wayBeside_4 : decode cX2_wayBeside 4 = .ok (.if_icmp .gt 20, 3) := by decide +kernel
theorem dX2_wayBeside_7 : decode cX2_wayBeside 7 = .ok (.iload_n 0, 1) := by decide +kernel
theorem dX2_wayBeside_8 : decode cX2_wayBeside 8 = .ok (.iload_n 2, 1) := by decide +kernel
theorem dX2_wayBeside_9 : decode cX2_wayBeside 9 = .ok (.invokestatic 19, 3) := by decide +kernel
theorem dX2_wayBeside_12 : decode cX2_wayBeside 12 = .ok (.iload_n 1, 1) := by decide +kernel
theorem dX2_wayBeside_13 : decode cX2_wayBeside 13 = .ok (.if_icmp .ne 5, 3) := by decide +kernel
theorem dX2_wayBeside_16 : decode cX2_wayBeside 16 = .ok (.iload_n 2, 1) := by decide +kernel
theorem dX2_wayBeside_17 : decode cX2_wayBeside 17 = .ok (.ireturn, 1) := by decide +kernel
theorem dX2_wayBeside_18 : decode cX2_wayBeside 18 = .ok (.iinc 2 1, 3) := by decide +kernel
theorem dX2_wayBeside_21 : decode cX2_wayBeside 21 = .ok (.goto (-19), 3) := by decide +kernel
theorem dX2_wayBeside_24 : decode cX2_wayBeside 24 = .ok (.iconst 0, 1) := by decide +kernel
theorem dX2_wayBeside_25 : decode cX2_wayBeside 25 = .ok (.ireturn, 1) := by decide +kernel
theorem dX2_distance_0 : decode cX2_distance 0 = .ok (.iload_n 0, 1) := by decide +kernel
theorem dX2_distance_1 : decode cX2_distance 1 = .ok (.bipush 12, 2) := by decide +kernel
theorem dX2_distance_3 : decode cX2_distance 3 = .ok (.idiv, 1) := by decide +kernel
theorem dX2_distance_4 : decode cX2_distance 4 = .ok (.iload_n 1, 1) := by decide +kernel
theorem dX2_distance_5 : decode cX2_distance 5 = .ok (.bipush 12, 2) := by decide +kernel
theorem dX2_distance_7 : decode cX2_distance 7 = .ok (.idiv, 1) := by decide +kernel
theorem dX2_distance_8 : decode cX2_distance 8 = .ok (.isub, 1) := by decide +kernel
theorem dX2_distance_9 : decode cX2_distance 9 = .ok (.invokestatic 23, 3) := by decide +kernel
theorem dX2_distance_12 : decode cX2_distance 12 = .ok (.iload_n 0, 1) := by decide +kernel
theorem dX2_distance_13 : decode cX2_distance 13 = .ok (.bipush 12, 2) := by decide +kernel
theorem dX2_distance_15 : decode cX2_distance 15 = .ok (.irem, 1) := by decide +kernel
theorem dX2_distance_16 : decode cX2_distance 16 = .ok (.iload_n 1, 1) := by decide +kernel
theorem dX2_distance_17 : decode cX2_distance 17 = .ok (.bipush 12, 2) := by decide +kernel
theorem dX2_distance_19 : decode cX2_distance 19 = .ok (.irem, 1) := by decide +kernel
theorem dX2_distance_20 : decode cX2_distance 20 = .ok (.isub, 1) := by decide +kernel
theorem dX2_distance_21 : decode cX2_distance 21 = .ok (.invokestatic 23, 3) := by decide +kernel
theorem dX2_distance_24 : decode cX2_distance 24 = .ok (.iadd, 1) := by decide +kernel
theorem dX2_distance_25 : decode cX2_distance 25 = .ok (.ireturn, 1) := by decide +kernel
theorem dX2_isWayOverSea_0 : decode cX2_isWayOverSea 0 = .ok (.aload_n 0, 1) := by decide +kernel
theorem dX2_isWayOverSea_1 : decode cX2_isWayOverSea 1 = .ok (.iload_n 1, 1) := by decide +kernel
theorem dX2_isWayOverSea_2 : decode cX2_isWayOverSea 2 = .ok (.invokevirtual 29, 3) := by decide +kernel
theorem dX2_isWayOverSea_5 : decode cX2_isWayOverSea 5 = .ok (.ifCond .eq 20, 3) := by decide +kernel
theorem dX2_isWayOverSea_8 : decode cX2_isWayOverSea 8 = .ok (.aload_n 0, 1) := by decide +kernel
theorem dX2_isWayOverSea_9 : decode cX2_isWayOverSea 9 = .ok (.iload_n 2, 1) := by decide +kernel
theorem dX2_isWayOverSea_10 : decode cX2_isWayOverSea 10 = .ok (.invokevirtual 29, 3) := by decide +kernel
theorem dX2_isWayOverSea_13 : decode cX2_isWayOverSea 13 = .ok (.ifCond .eq 12, 3) := by decide +kernel
theorem dX2_isWayOverSea_16 : decode cX2_isWayOverSea 16 = .ok (.iload_n 1, 1) := by decide +kernel
theorem dX2_isWayOverSea_17 : decode cX2_isWayOverSea 17 = .ok (.iload_n 2, 1) := by decide +kernel
theorem dX2_isWayOverSea_18 : decode cX2_isWayOverSea 18 = .ok (.invokestatic 32, 3) := by decide +kernel
theorem dX2_isWayOverSea_21 : decode cX2_isWayOverSea 21 = .ok (.iload_n 3, 1) := by decide +kernel
theorem dX2_isWayOverSea_22 : decode cX2_isWayOverSea 22 = .ok (.if_icmp .le 5, 3) := by decide +kernel
theorem dX2_isWayOverSea_25 : decode cX2_isWayOverSea 25 = .ok (.iconst 0, 1) := by decide +kernel
theorem dX2_isWayOverSea_26 : decode cX2_isWayOverSea 26 = .ok (.ireturn, 1) := by decide +kernel
theorem dX2_isWayOverSea_27 : decode cX2_isWayOverSea 27 = .ok (.iload_n 1, 1) := by decide +kernel
theorem dX2_isWayOverSea_28 : decode cX2_isWayOverSea 28 = .ok (.iload_n 2, 1) := by decide +kernel
theorem dX2_isWayOverSea_29 : decode cX2_isWayOverSea 29 = .ok (.if_icmp .ne 5, 3) := by decide +kernel
theorem dX2_isWayOverSea_32 : decode cX2_isWayOverSea 32 = .ok (.iconst 1, 1) := by decide +kernel
theorem dX2_isWayOverSea_33 : decode cX2_isWayOverSea 33 = .ok (.ireturn, 1) := by decide +kernel
theorem dX2_isWayOverSea_34 : decode cX2_isWayOverSea 34 = .ok (.iconst 1, 1) := by decide +kernel
theorem dX2_isWayOverSea_35 : decode cX2_isWayOverSea 35 = .ok (.istore 4, 2) := by decide +kernel
theorem dX2_isWayOverSea_37 : decode cX2_isWayOverSea 37 = .ok (.iload 4, 2) := by decide +kernel
theorem dX2_isWayOverSea_39 : decode cX2_isWayOverSea 39 = .ok (.iconst 4, 1) := by decide +kernel
theorem dX2_isWayOverSea_40 : decode cX2_isWayOverSea 40 = .ok (.if_icmp .gt 28, 3) := by decide +kernel
theorem dX2_isWayOverSea_43 : decode cX2_isWayOverSea 43 = .ok (.aload_n 0, 1) := by decide +kernel
theorem dX2_isWayOverSea_44 : decode cX2_isWayOverSea 44 = .ok (.iload_n 1, 1) := by decide +kernel
theorem dX2_isWayOverSea_45 : decode cX2_isWayOverSea 45 = .ok (.iload 4, 2) := by decide +kernel
theorem dX2_isWayOverSea_47 : decode cX2_isWayOverSea 47 = .ok (.invokestatic 19, 3) := by decide +kernel
theorem dX2_isWayOverSea_50 : decode cX2_isWayOverSea 50 = .ok (.iload_n 2, 1) := by decide +kernel
theorem dX2_isWayOverSea_51 : decode cX2_isWayOverSea 51 = .ok (.iload_n 3, 1) := by decide +kernel
theorem dX2_isWayOverSea_52 : decode cX2_isWayOverSea 52 = .ok (.iconst 1, 1) := by decide +kernel
theorem dX2_isWayOverSea_53 : decode cX2_isWayOverSea 53 = .ok (.isub, 1) := by decide +kernel
theorem dX2_isWayOverSea_54 : decode cX2_isWayOverSea 54 = .ok (.invokevirtual 35, 3) := by decide +kernel
theorem dX2_isWayOverSea_57 : decode cX2_isWayOverSea 57 = .ok (.ifCond .eq 5, 3) := by decide +kernel
theorem dX2_isWayOverSea_60 : decode cX2_isWayOverSea 60 = .ok (.iconst 1, 1) := by decide +kernel
theorem dX2_isWayOverSea_61 : decode cX2_isWayOverSea 61 = .ok (.ireturn, 1) := by decide +kernel
theorem dX2_isWayOverSea_62 : decode cX2_isWayOverSea 62 = .ok (.iinc 4 1, 3) := by decide +kernel
theorem dX2_isWayOverSea_65 : decode cX2_isWayOverSea 65 = .ok (.goto (-28), 3) := by decide +kernel
theorem dX2_isWayOverSea_68 : decode cX2_isWayOverSea 68 = .ok (.iconst 0, 1) := by decide +kernel
theorem dX2_isWayOverSea_69 : decode cX2_isWayOverSea 69 = .ok (.ireturn, 1) := by decide +kernel
theorem dX3_init_0 : decode cX3_init 0 = .ok (.aload_n 0, 1) := by decide +kernel
theorem dX3_init_1 : decode cX3_init 1 = .ok (.invokespecial 3, 3) := by decide +kernel
theorem dX3_init_4 : decode cX3_init 4 = .ok (.return_, 1) := by decide +kernel
theorem dX3_begin_0 : decode cX3_begin 0 = .ok (.aload_n 0, 1) := by decide +kernel
theorem dX3_begin_1 : decode cX3_begin 1 = .ok (.iload_n 1, 1) := by decide +kernel
theorem dX3_begin_2 : decode cX3_begin 2 = .ok (.putfield 9, 3) := by decide +kernel
theorem dX3_begin_5 : decode cX3_begin 5 = .ok (.aload_n 0, 1) := by decide +kernel
theorem dX3_begin_6 : decode cX3_begin 6 = .ok (.iload_n 2, 1) := by decide +kernel
theorem dX3_begin_7 : decode cX3_begin 7 = .ok (.putfield 15, 3) := by decide +kernel
theorem dX3_begin_10 : decode cX3_begin 10 = .ok (.aload_n 0, 1) := by decide +kernel
theorem dX3_begin_11 : decode cX3_begin 11 = .ok (.iconst (-1), 1) := by decide +kernel
theorem dX3_begin_12 : decode cX3_begin 12 = .ok (.putfield 18, 3) := by decide +kernel
theorem dX3_begin_15 : decode cX3_begin 15 = .ok (.aload_n 0, 1) := by decide +kernel
theorem dX3_begin_16 : decode cX3_begin 16 = .ok (.iconst (-1), 1) := by decide +kernel
theorem dX3_begin_17 : decode cX3_begin 17 = .ok (.putfield 21, 3) := by decide +kernel
theorem dX3_begin_20 : decode cX3_begin 20 = .ok (.aload_n 0, 1) := by decide +kernel
theorem dX3_begin_21 : decode cX3_begin 21 = .ok (.iconst (-1), 1) := by decide +kernel
theorem dX3_begin_22 : decode cX3_begin 22 = .ok (.putfield 24, 3) := by decide +kernel
theorem dX3_begin_25 : decode cX3_begin 25 = .ok (.return_, 1) := by decide +kernel
theorem dX4_init_0 : decode cX4_init 0 = .ok (.aload_n 0, 1) := by decide +kernel
theorem dX4_init_1 : decode cX4_init 1 = .ok (.invokespecial 3, 3) := by decide +kernel
theorem dX4_init_4 : decode cX4_init 4 = .ok (.aload_n 0, 1) := by decide +kernel
theorem dX4_init_5 : decode cX4_init 5 = .ok (.bipush 96, 2) := by decide +kernel
theorem dX4_init_7 : decode cX4_init 7 = .ok (.newarray .boolean, 2) := by decide +kernel
theorem dX4_init_9 : decode cX4_init 9 = .ok (.putfield 9, 3) := by decide +kernel
theorem dX4_init_12 : decode cX4_init 12 = .ok (.return_, 1) := by decide +kernel
theorem dX5_init_0 : decode cX5_init 0 = .ok (.aload_n 0, 1) := by decide +kernel
theorem dX5_init_1 : decode cX5_init 1 = .ok (.invokespecial 1, 3) := by decide +kernel
theorem dX5_init_4 : decode cX5_init 4 = .ok (.return_, 1) := by decide +kernel
theorem dX6_init_0 : decode cX6_init 0 = .ok (.aload_n 0, 1) := by decide +kernel
theorem dX6_init_1 : decode cX6_init 1 = .ok (.invokespecial 3, 3) := by decide +kernel
theorem dX6_init_4 : decode cX6_init 4 = .ok (.aload_n 0, 1) := by decide +kernel
theorem dX6_init_5 : decode cX6_init 5 = .ok (.sipush 1503, 3) := by decide +kernel
theorem dX6_init_8 : decode cX6_init 8 = .ok (.newarray .int, 2) := by decide +kernel
theorem dX6_init_10 : decode cX6_init 10 = .ok (.putfield 9, 3) := by decide +kernel
theorem dX6_init_13 : decode cX6_init 13 = .ok (.return_, 1) := by decide +kernel
theorem dX6_tell_0 : decode cX6_tell 0 = .ok (.aload_n 0, 1) := by decide +kernel
theorem dX6_tell_1 : decode cX6_tell 1 = .ok (.getfield 9, 3) := by decide +kernel
theorem dX6_tell_4 : decode cX6_tell 4 = .ok (.iload_n 1, 1) := by decide +kernel
theorem dX6_tell_5 : decode cX6_tell 5 = .ok (.sipush 501, 3) := by decide +kernel
theorem dX6_tell_8 : decode cX6_tell 8 = .ok (.imul, 1) := by decide +kernel
theorem dX6_tell_9 : decode cX6_tell 9 = .ok (.iload_n 2, 1) := by decide +kernel
theorem dX6_tell_10 : decode cX6_tell 10 = .ok (.iadd, 1) := by decide +kernel
theorem dX6_tell_11 : decode cX6_tell 11 = .ok (.iload_n 3, 1) := by decide +kernel
theorem dX6_tell_12 : decode cX6_tell 12 = .ok (.bipush 10, 2) := by decide +kernel
theorem dX6_tell_14 : decode cX6_tell 14 = .ok (.imul, 1) := by decide +kernel
theorem dX6_tell_15 : decode cX6_tell 15 = .ok (.iload 4, 2) := by decide +kernel
theorem dX6_tell_17 : decode cX6_tell 17 = .ok (.iadd, 1) := by decide +kernel
theorem dX6_tell_18 : decode cX6_tell 18 = .ok (.iastore, 1) := by decide +kernel
theorem dX6_tell_19 : decode cX6_tell 19 = .ok (.return_, 1) := by decide +kernel
theorem dX6_wayAt_0 : decode cX6_wayAt 0 = .ok (.aload_n 0, 1) := by decide +kernel
theorem dX6_wayAt_1 : decode cX6_wayAt 1 = .ok (.iload_n 1, 1) := by decide +kernel
theorem dX6_wayAt_2 : decode cX6_wayAt 2 = .ok (.iload_n 2, 1) := by decide +kernel
theorem dX6_wayAt_3 : decode cX6_wayAt 3 = .ok (.invokevirtual 15, 3) := by decide +kernel
theorem dX6_wayAt_6 : decode cX6_wayAt 6 = .ok (.bipush 10, 2) := by decide +kernel
theorem dX6_wayAt_8 : decode cX6_wayAt 8 = .ok (.idiv, 1) := by decide +kernel
theorem dX6_wayAt_9 : decode cX6_wayAt 9 = .ok (.ireturn, 1) := by decide +kernel
theorem dX6_forceAt_0 : decode cX6_forceAt 0 = .ok (.aload_n 0, 1) := by decide +kernel
theorem dX6_forceAt_1 : decode cX6_forceAt 1 = .ok (.iload_n 1, 1) := by decide +kernel
theorem dX6_forceAt_2 : decode cX6_forceAt 2 = .ok (.iload_n 2, 1) := by decide +kernel
theorem dX6_forceAt_3 : decode cX6_forceAt 3 = .ok (.invokevirtual 15, 3) := by decide +kernel
theorem dX6_forceAt_6 : decode cX6_forceAt 6 = .ok (.bipush 10, 2) := by decide +kernel
theorem dX6_forceAt_8 : decode cX6_forceAt 8 = .ok (.irem, 1) := by decide +kernel
theorem dX6_forceAt_9 : decode cX6_forceAt 9 = .ok (.ireturn, 1) := by decide +kernel
theorem dX6_at_0 : decode cX6_at 0 = .ok (.iload_n 2, 1) := by decide +kernel
theorem dX6_at_1 : decode cX6_at 1 = .ok (.sipush 500, 3) := by decide +kernel
theorem dX6_at_4 : decode cX6_at 4 = .ok (.if_icmp .le 7, 3) := by decide +kernel
theorem dX6_at_7 : decode cX6_at 7 = .ok (.iconst 0, 1) := by decide +kernel
theorem dX6_at_8 : decode cX6_at 8 = .ok (.goto 15, 3) := by decide +kernel
theorem dX6_at_11 : decode cX6_at 11 = .ok (.aload_n 0, 1) := by decide +kernel
theorem dX6_at_12 : decode cX6_at 12 = .ok (.getfield 9, 3) := by decide +kernel
theorem dX6_at_15 : decode cX6_at 15 = .ok (.iload_n 1, 1) := by decide +kernel
theorem dX6_at_16 : decode cX6_at 16 = .ok (.sipush 501, 3) := by decide +kernel
theorem dX6_at_19 : decode cX6_at 19 = .ok (.imul, 1) := by decide +kernel
theorem dX6_at_20 : decode cX6_at 20 = .ok (.iload_n 2, 1) := by decide +kernel
theorem dX6_at_21 : decode cX6_at 21 = .ok (.iadd, 1) := by decide +kernel
theorem dX6_at_22 : decode cX6_at 22 = .ok (.iaload, 1) := by decide +kernel
theorem dX6_at_23 : decode cX6_at 23 = .ok (.ireturn, 1) := by decide +kernel
theorem dX7_init_0 : decode cX7_init 0 = .ok (.aload_n 0, 1) := by decide +kernel
theorem dX7_init_1 : decode cX7_init 1 = .ok (.invokespecial 3, 3) := by decide +kernel
theorem dX7_init_4 : decode cX7_init 4 = .ok (.aload_n 0, 1) := by decide +kernel
theorem dX7_init_5 : decode cX7_init 5 = .ok (.bipush 96, 2) := by decide +kernel
theorem dX7_init_7 : decode cX7_init 7 = .ok (.newarray .int, 2) := by decide +kernel
theorem dX7_init_9 : decode cX7_init 9 = .ok (.putfield 9, 3) := by decide +kernel
theorem dX7_init_12 : decode cX7_init 12 = .ok (.aload_n 0, 1) := by decide +kernel
theorem dX7_init_13 : decode cX7_init 13 = .ok (.iconst 4, 1) := by decide +kernel
theorem dX7_init_14 : decode cX7_init 14 = .ok (.newarray .int, 2) := by decide +kernel
theorem dX7_init_16 : decode cX7_init 16 = .ok (.putfield 15, 3) := by decide +kernel
theorem dX7_init_19 : decode cX7_init 19 = .ok (.return_, 1) := by decide +kernel
theorem dX7_become_0 : decode cX7_become 0 = .ok (.aload_n 1, 1) := by decide +kernel
theorem dX7_become_1 : decode cX7_become 1 = .ok (.getfield 9, 3) := by decide +kernel
theorem dX7_become_4 : decode cX7_become 4 = .ok (.iconst 0, 1) := by decide +kernel
theorem dX7_become_5 : decode cX7_become 5 = .ok (.aload_n 0, 1) := by decide +kernel
theorem dX7_become_6 : decode cX7_become 6 = .ok (.getfield 9, 3) := by decide +kernel
theorem dX7_become_9 : decode cX7_become 9 = .ok (.iconst 0, 1) := by decide +kernel
theorem dX7_become_10 : decode cX7_become 10 = .ok (.bipush 96, 2) := by decide +kernel
theorem dX7_become_12 : decode cX7_become 12 = .ok (.invokestatic 18, 3) := by decide +kernel
theorem dX7_become_15 : decode cX7_become 15 = .ok (.aload_n 1, 1) := by decide +kernel
theorem dX7_become_16 : decode cX7_become 16 = .ok (.getfield 15, 3) := by decide +kernel
theorem dX7_become_19 : decode cX7_become 19 = .ok (.iconst 0, 1) := by decide +kernel
theorem dX7_become_20 : decode cX7_become 20 = .ok (.aload_n 0, 1) := by decide +kernel
theorem dX7_become_21 : decode cX7_become 21 = .ok (.getfield 15, 3) := by decide +kernel
theorem dX7_become_24 : decode cX7_become 24 = .ok (.iconst 0, 1) := by decide +kernel
theorem dX7_become_25 : decode cX7_become 25 = .ok (.iconst 4, 1) := by decide +kernel
theorem dX7_become_26 : decode cX7_become 26 = .ok (.invokestatic 18, 3) := by decide +kernel
theorem dX7_become_29 : decode cX7_become 29 = .ok (.aload_n 0, 1) := by decide +kernel
theorem dX7_become_30 : decode cX7_become 30 = .ok (.aload_n 1, 1) := by decide +kernel
theorem dX7_become_31 : decode cX7_become 31 = .ok (.getfield 24, 3) := by decide +kernel
theorem dX7_become_34 : decode cX7_become 34 = .ok (.putfield 24, 3) := by decide +kernel
theorem dX7_become_37 : decode cX7_become 37 = .ok (.aload_n 0, 1) := by decide +kernel
theorem dX7_become_38 : decode cX7_become 38 = .ok (.aload_n 1, 1) := by decide +kernel
theorem dX7_become_39 : decode cX7_become 39 = .ok (.getfield 28, 3) := by decide +kernel
theorem dX7_become_42 : decode cX7_become 42 = .ok (.putfield 28, 3) := by decide +kernel
theorem dX7_become_45 : decode cX7_become 45 = .ok (.return_, 1) := by decide +kernel
theorem dJ9_abs_0f7a4_0 : decode cJ9_abs_0f7a4 0 = .ok (.iload_n 0, 1) := by decide +kernel
theorem dJ9_abs_0f7a4_1 : decode cJ9_abs_0f7a4 1 = .ok (.ifCond .ge 8, 3) := by decide +kernel
theorem dJ9_abs_0f7a4_4 : decode cJ9_abs_0f7a4 4 = .ok (.iload_n 0, 1) := by decide +kernel
theorem dJ9_abs_0f7a4_5 : decode cJ9_abs_0f7a4 5 = .ok (.ineg, 1) := by decide +kernel
theorem dJ9_abs_0f7a4_6 : decode cJ9_abs_0f7a4 6 = .ok (.goto 4, 3) := by decide +kernel
theorem dJ9_abs_0f7a4_9 : decode cJ9_abs_0f7a4 9 = .ok (.iload_n 0, 1) := by decide +kernel
theorem dJ9_abs_0f7a4_10 : decode cJ9_abs_0f7a4 10 = .ok (.ireturn, 1) := by decide +kernel
theorem dJ9_max_7cf53_0 : decode cJ9_max_7cf53 0 = .ok (.iload_n 0, 1) := by decide +kernel
theorem dJ9_max_7cf53_1 : decode cJ9_max_7cf53 1 = .ok (.iload_n 1, 1) := by decide +kernel
theorem dJ9_max_7cf53_2 : decode cJ9_max_7cf53 2 = .ok (.if_icmp .lt 7, 3) := by decide +kernel
theorem dJ9_max_7cf53_5 : decode cJ9_max_7cf53 5 = .ok (.iload_n 0, 1) := by decide +kernel
theorem dJ9_max_7cf53_6 : decode cJ9_max_7cf53 6 = .ok (.goto 4, 3) := by decide +kernel
theorem dJ9_max_7cf53_9 : decode cJ9_max_7cf53 9 = .ok (.iload_n 1, 1) := by decide +kernel
theorem dJ9_max_7cf53_10 : decode cJ9_max_7cf53 10 = .ok (.ireturn, 1) := by decide +kernel
theorem dJ9_min_7cf53_0 : decode cJ9_min_7cf53 0 = .ok (.iload_n 0, 1) := by decide +kernel
theorem dJ9_min_7cf53_1 : decode cJ9_min_7cf53 1 = .ok (.iload_n 1, 1) := by decide +kernel
theorem dJ9_min_7cf53_2 : decode cJ9_min_7cf53 2 = .ok (.if_icmp .gt 7, 3) := by decide +kernel
theorem dJ9_min_7cf53_5 : decode cJ9_min_7cf53 5 = .ok (.iload_n 0, 1) := by decide +kernel
theorem dJ9_min_7cf53_6 : decode cJ9_min_7cf53 6 = .ok (.goto 4, 3) := by decide +kernel
theorem dJ9_min_7cf53_9 : decode cJ9_min_7cf53 9 = .ok (.iload_n 1, 1) := by decide +kernel
theorem dJ9_min_7cf53_10 : decode cJ9_min_7cf53 10 = .ok (.ireturn, 1) := by decide +kernel
end
section
theorem dX8_init_0 : decode cX8_init 0 = .ok (.aload_n 0, 1) := by decide +kernel
theorem dX8_init_1 : decode cX8_init 1 = .ok (.invokespecial 3, 3) := by decide +kernel
theorem dX8_init_4 : decode cX8_init 4 = .ok (.aload_n 0, 1) := by decide +kernel
theorem dX8_init_5 : decode cX8_init 5 = .ok (.new 9, 3) := by decide +kernel
theorem dX8_init_8 : decode cX8_init 8 = .ok (.dup, 1) := by decide +kernel
theorem dX8_init_9 : decode cX8_init 9 = .ok (.invokespecial 11, 3) := by decide +kernel
theorem dX8_init_12 : decode cX8_init 12 = .ok (.putfield 12, 3) := by decide +kernel
theorem dX8_init_15 : decode cX8_init 15 = .ok (.aload_n 0, 1) := by decide +kernel
theorem dX8_init_16 : decode cX8_init 16 = .ok (.new 16, 3) := by decide +kernel
theorem dX8_init_19 : decode cX8_init 19 = .ok (.dup, 1) := by decide +kernel
theorem dX8_init_20 : decode cX8_init 20 = .ok (.invokespecial 18, 3) := by decide +kernel
theorem dX8_init_23 : decode cX8_init 23 = .ok (.putfield 19, 3) := by decide +kernel
theorem dX8_init_26 : decode cX8_init 26 = .ok (.aload_n 0, 1) := by decide +kernel
theorem dX8_init_27 : decode cX8_init 27 = .ok (.new 23, 3) := by decide +kernel
theorem dX8_init_30 : decode cX8_init 30 = .ok (.dup, 1) := by decide +kernel
theorem dX8_init_31 : decode cX8_init 31 = .ok (.invokespecial 25, 3) := by decide +kernel
theorem dX8_init_34 : decode cX8_init 34 = .ok (.putfield 26, 3) := by decide +kernel
theorem dX8_init_37 : decode cX8_init 37 = .ok (.aload_n 0, 1) := by decide +kernel
theorem dX8_init_38 : decode cX8_init 38 = .ok (.new 30, 3) := by decide +kernel
theorem dX8_init_41 : decode cX8_init 41 = .ok (.dup, 1) := by decide +kernel
theorem dX8_init_42 : decode cX8_init 42 = .ok (.invokespecial 32, 3) := by decide +kernel
theorem dX8_init_45 : decode cX8_init 45 = .ok (.putfield 33, 3) := by decide +kernel
theorem dX8_init_48 : decode cX8_init 48 = .ok (.aload_n 0, 1) := by decide +kernel
theorem dX8_init_49 : decode cX8_init 49 = .ok (.new 37, 3) := by decide +kernel
theorem dX8_init_52 : decode cX8_init 52 = .ok (.dup, 1) := by decide +kernel
theorem dX8_init_53 : decode cX8_init 53 = .ok (.invokespecial 39, 3) := by decide +kernel
theorem dX8_init_56 : decode cX8_init 56 = .ok (.putfield 40, 3) := by decide +kernel
theorem dX8_init_59 : decode cX8_init 59 = .ok (.aload_n 0, 1) := by decide +kernel
theorem dX8_init_60 : decode cX8_init 60 = .ok (.iconst 3, 1) := by decide +kernel
theorem dX8_init_61 : decode cX8_init 61 = .ok (.anewarray 37, 3) := by decide +kernel
theorem dX8_init_64 : decode cX8_init 64 = .ok (.putfield 44, 3) := by decide +kernel
theorem dX8_init_67 : decode cX8_init 67 = .ok (.iconst 0, 1) := by decide +kernel
theorem dX8_init_68 : decode cX8_init 68 = .ok (.istore_n 1, 1) := by decide +kernel
theorem dX8_init_69 : decode cX8_init 69 = .ok (.iload_n 1, 1) := by decide +kernel
theorem dX8_init_70 : decode cX8_init 70 = .ok (.iconst 3, 1) := by decide +kernel
theorem dX8_init_71 : decode cX8_init 71 = .ok (.if_icmp .ge 22, 3) := by decide +kernel
theorem dX8_init_74 : decode cX8_init 74 = .ok (.aload_n 0, 1) := by decide +kernel
theorem dX8_init_75 : decode cX8_init 75 = .ok (.getfield 44, 3) := by decide +kernel
theorem dX8_init_78 : decode cX8_init 78 = .ok (.iload_n 1, 1) := by decide +kernel
theorem dX8_init_79 : decode cX8_init 79 = .ok (.new 37, 3) := by decide +kernel
theorem dX8_init_82 : decode cX8_init 82 = .ok (.dup, 1) := by decide +kernel
theorem dX8_init_83 : decode cX8_init 83 = .ok (.invokespecial 39, 3) := by decide +kernel
theorem dX8_init_86 : decode cX8_init 86 = .ok (.aastore, 1) := by decide +kernel
theorem dX8_init_87 : decode cX8_init 87 = .ok (.iinc 1 1, 3) := by decide +kernel
theorem dX8_init_90 : decode cX8_init 90 = .ok (.goto (-21), 3) := by decide +kernel
theorem dX8_init_93 : decode cX8_init 93 = .ok (.aload_n 0, 1) := by decide +kernel
theorem dX8_init_94 : decode cX8_init 94 = .ok (.new 48, 3) := by decide +kernel
theorem dX8_init_97 : decode cX8_init 97 = .ok (.dup, 1) := by decide +kernel
theorem dX8_init_98 : decode cX8_init 98 = .ok (.invokespecial 50, 3) := by decide +kernel
theorem dX8_init_101 : decode cX8_init 101 = .ok (.putfield 51, 3) := by decide +kernel
theorem dX8_init_104 : decode cX8_init 104 = .ok (.aload_n 0, 1) := by decide +kernel
theorem dX8_init_105 : decode cX8_init 105 = .ok (.bipush 8, 2) := by decide +kernel
theorem dX8_init_107 : decode cX8_init 107 = .ok (.anewarray 55, 3) := by decide +kernel
theorem dX8_init_110 : decode cX8_init 110 = .ok (.putfield 57, 3) := by decide +kernel
theorem dX8_init_113 : decode cX8_init 113 = .ok (.iconst 0, 1) := by decide +kernel
theorem dX8_init_114 : decode cX8_init 114 = .ok (.istore_n 1, 1) := by decide +kernel
theorem dX8_init_115 : decode cX8_init 115 = .ok (.iload_n 1, 1) := by decide +kernel
theorem dX8_init_116 : decode cX8_init 116 = .ok (.bipush 8, 2) := by decide +kernel
theorem dX8_init_118 : decode cX8_init 118 = .ok (.if_icmp .ge 22, 3) := by decide +kernel
theorem dX8_init_121 : decode cX8_init 121 = .ok (.aload_n 0, 1) := by decide +kernel
theorem dX8_init_122 : decode cX8_init 122 = .ok (.getfield 57, 3) := by decide +kernel
theorem dX8_init_125 : decode cX8_init 125 = .ok (.iload_n 1, 1) := by decide +kernel
theorem dX8_init_126 : decode cX8_init 126 = .ok (.new 55, 3) := by decide +kernel
theorem dX8_init_129 : decode cX8_init 129 = .ok (.dup, 1) := by decide +kernel
theorem dX8_init_130 : decode cX8_init 130 = .ok (.invokespecial 61, 3) := by decide +kernel
theorem dX8_init_133 : decode cX8_init 133 = .ok (.aastore, 1) := by decide +kernel
theorem dX8_init_134 : decode cX8_init 134 = .ok (.iinc 1 1, 3) := by decide +kernel
theorem dX8_init_137 : decode cX8_init 137 = .ok (.goto (-22), 3) := by decide +kernel
theorem dX8_init_140 : decode cX8_init 140 = .ok (.aload_n 0, 1) := by decide +kernel
theorem dX8_init_141 : decode cX8_init 141 = .ok (.iconst 4, 1) := by decide +kernel
theorem dX8_init_142 : decode cX8_init 142 = .ok (.newarray .int, 2) := by decide +kernel
theorem dX8_init_144 : decode cX8_init 144 = .ok (.putfield 62, 3) := by decide +kernel
theorem dX8_init_147 : decode cX8_init 147 = .ok (.return_, 1) := by decide +kernel
theorem dX8_shore_0 : decode cX8_shore 0 = .ok (.iload_n 1, 1) := by decide +kernel
theorem dX8_shore_1 : decode cX8_shore 1 = .ok (.invokestatic 66, 3) := by decide +kernel
theorem dX8_shore_4 : decode cX8_shore 4 = .ok (.ifCond .eq 20, 3) := by decide +kernel
theorem dX8_shore_7 : decode cX8_shore 7 = .ok (.iload_n 2, 1) := by decide +kernel
theorem dX8_shore_8 : decode cX8_shore 8 = .ok (.iconst 0, 1) := by decide +kernel
theorem dX8_shore_9 : decode cX8_shore 9 = .ok (.bipush 9, 2) := by decide +kernel
theorem dX8_shore_11 : decode cX8_shore 11 = .ok (.invokestatic 70, 3) := by decide +kernel
theorem dX8_shore_14 : decode cX8_shore 14 = .ok (.ifCond .eq 10, 3) := by decide +kernel
theorem dX8_shore_17 : decode cX8_shore 17 = .ok (.aload_n 0, 1) := by decide +kernel
theorem dX8_shore_18 : decode cX8_shore 18 = .ok (.getfield 74, 3) := by decide +kernel
theorem dX8_shore_21 : decode cX8_shore 21 = .ok (.ifCond .eq 5, 3) := by decide +kernel
theorem dX8_shore_24 : decode cX8_shore 24 = .ok (.iconst 0, 1) := by decide +kernel
theorem dX8_shore_25 : decode cX8_shore 25 = .ok (.ireturn, 1) := by decide +kernel
theorem dX8_shore_26 : decode cX8_shore 26 = .ok (.aload_n 0, 1) := by decide +kernel
theorem dX8_shore_27 : decode cX8_shore 27 = .ok (.getfield 40, 3) := by decide +kernel
theorem dX8_shore_30 : decode cX8_shore 30 = .ok (.getfield 78, 3) := by decide +kernel
theorem dX8_shore_33 : decode cX8_shore 33 = .ok (.iload_n 1, 1) := by decide +kernel
theorem dX8_shore_34 : decode cX8_shore 34 = .ok (.iaload, 1) := by decide +kernel
theorem dX8_shore_35 : decode cX8_shore 35 = .ok (.ifCond .gt 33, 3) := by decide +kernel
theorem dX8_shore_38 : decode cX8_shore 38 = .ok (.aload_n 0, 1) := by decide +kernel
theorem dX8_shore_39 : decode cX8_shore 39 = .ok (.getfield 33, 3) := by decide +kernel
theorem dX8_shore_42 : decode cX8_shore 42 = .ok (.iload_n 1, 1) := by decide +kernel
theorem dX8_shore_43 : decode cX8_shore 43 = .ok (.invokevirtual 81, 3) := by decide +kernel
theorem dX8_shore_46 : decode cX8_shore 46 = .ok (.ifCond .ne 22, 3) := by decide +kernel
theorem dX8_shore_49 : decode cX8_shore 49 = .ok (.aload_n 0, 1) := by decide +kernel
theorem dX8_shore_50 : decode cX8_shore 50 = .ok (.getfield 19, 3) := by decide +kernel
theorem dX8_shore_53 : decode cX8_shore 53 = .ok (.iload_n 1, 1) := by decide +kernel
theorem dX8_shore_54 : decode cX8_shore 54 = .ok (.invokevirtual 84, 3) := by decide +kernel
theorem dX8_shore_57 : decode cX8_shore 57 = .ok (.ifCond .ne 11, 3) := by decide +kernel
theorem dX8_shore_60 : decode cX8_shore 60 = .ok (.aload_n 0, 1) := by decide +kernel
theorem dX8_shore_61 : decode cX8_shore 61 = .ok (.iload_n 1, 1) := by decide +kernel
theorem dX8_shore_62 : decode cX8_shore 62 = .ok (.invokevirtual 87, 3) := by decide +kernel
theorem dX8_shore_65 : decode cX8_shore 65 = .ok (.ifCond .eq 5, 3) := by decide +kernel
theorem dX8_shore_68 : decode cX8_shore 68 = .ok (.iconst 0, 1) := by decide +kernel
theorem dX8_shore_69 : decode cX8_shore 69 = .ok (.ireturn, 1) := by decide +kernel
theorem dX8_shore_70 : decode cX8_shore 70 = .ok (.aload_n 0, 1) := by decide +kernel
theorem dX8_shore_71 : decode cX8_shore 71 = .ok (.getfield 12, 3) := by decide +kernel
theorem dX8_shore_74 : decode cX8_shore 74 = .ok (.getfield 90, 3) := by decide +kernel
theorem dX8_shore_77 : decode cX8_shore 77 = .ok (.iload_n 1, 1) := by decide +kernel
theorem dX8_shore_78 : decode cX8_shore 78 = .ok (.iload_n 2, 1) := by decide +kernel
theorem dX8_shore_79 : decode cX8_shore 79 = .ok (.iastore, 1) := by decide +kernel
theorem dX8_shore_80 : decode cX8_shore 80 = .ok (.iconst 1, 1) := by decide +kernel
theorem dX8_shore_81 : decode cX8_shore 81 = .ok (.ireturn, 1) := by decide +kernel
theorem dX8_weather_0 : decode cX8_weather 0 = .ok (.iload_n 1, 1) := by decide +kernel
theorem dX8_weather_1 : decode cX8_weather 1 = .ok (.iconst 0, 1) := by decide +kernel
theorem dX8_weather_2 : decode cX8_weather 2 = .ok (.iconst 2, 1) := by decide +kernel
theorem dX8_weather_3 : decode cX8_weather 3 = .ok (.invokestatic 70, 3) := by decide +kernel
theorem dX8_weather_6 : decode cX8_weather 6 = .ok (.ifCond .eq 37, 3) := by decide +kernel
theorem dX8_weather_9 : decode cX8_weather 9 = .ok (.iload_n 2, 1) := by decide +kernel
theorem dX8_weather_10 : decode cX8_weather 10 = .ok (.aload_n 0, 1) := by decide +kernel
theorem dX8_weather_11 : decode cX8_weather 11 = .ok (.getfield 74, 3) := by decide +kernel
theorem dX8_weather_14 : decode cX8_weather 14 = .ok (.sipush 500, 3) := by decide +kernel
theorem dX8_weather_17 : decode cX8_weather 17 = .ok (.invokestatic 70, 3) := by decide +kernel
theorem dX8_weather_20 : decode cX8_weather 20 = .ok (.ifCond .eq 23, 3) := by decide +kernel
theorem dX8_weather_23 : decode cX8_weather 23 = .ok (.iload_n 3, 1) := by decide +kernel
theorem dX8_weather_24 : decode cX8_weather 24 = .ok (.iconst 0, 1) := by decide +kernel
theorem dX8_weather_25 : decode cX8_weather 25 = .ok (.iconst 4, 1) := by decide +kernel
theorem dX8_weather_26 : decode cX8_weather 26 = .ok (.invokestatic 70, 3) := by decide +kernel
theorem dX8_weather_29 : decode cX8_weather 29 = .ok (.ifCond .eq 14, 3) := by decide +kernel
theorem dX8_weather_32 : decode cX8_weather 32 = .ok (.iload 4, 2) := by decide +kernel
theorem dX8_weather_34 : decode cX8_weather 34 = .ok (.iconst 0, 1) := by decide +kernel
theorem dX8_weather_35 : decode cX8_weather 35 = .ok (.bipush 9, 2) := by decide +kernel
theorem dX8_weather_37 : decode cX8_weather 37 = .ok (.invokestatic 70, 3) := by decide +kernel
theorem dX8_weather_40 : decode cX8_weather 40 = .ok (.ifCond .ne 5, 3) := by decide +kernel
theorem dX8_weather_43 : decode cX8_weather 43 = .ok (.iconst 0, 1) := by decide +kernel
theorem dX8_weather_44 : decode cX8_weather 44 = .ok (.ireturn, 1) := by decide +kernel
theorem dX8_weather_45 : decode cX8_weather 45 = .ok (.aload_n 0, 1) := by decide +kernel
theorem dX8_weather_46 : decode cX8_weather 46 = .ok (.getfield 26, 3) := by decide +kernel
theorem dX8_weather_49 : decode cX8_weather 49 = .ok (.iload_n 1, 1) := by decide +kernel
theorem dX8_weather_50 : decode cX8_weather 50 = .ok (.iload_n 2, 1) := by decide +kernel
theorem dX8_weather_51 : decode cX8_weather 51 = .ok (.iload_n 3, 1) := by decide +kernel
theorem dX8_weather_52 : decode cX8_weather 52 = .ok (.iload 4, 2) := by decide +kernel
theorem dX8_weather_54 : decode cX8_weather 54 = .ok (.invokevirtual 93, 3) := by decide +kernel
theorem dX8_weather_57 : decode cX8_weather 57 = .ok (.iconst 1, 1) := by decide +kernel
theorem dX8_weather_58 : decode cX8_weather 58 = .ok (.ireturn, 1) := by decide +kernel
theorem dX8_boom_0 : decode cX8_boom 0 = .ok (.aload_n 0, 1) := by decide +kernel
theorem dX8_boom_1 : decode cX8_boom 1 = .ok (.getfield 12, 3) := by decide +kernel
theorem dX8_boom_4 : decode cX8_boom 4 = .ok (.iload_n 1, 1) := by decide +kernel
theorem dX8_boom_5 : decode cX8_boom 5 = .ok (.invokevirtual 97, 3) := by decide +kernel
theorem dX8_boom_8 : decode cX8_boom 8 = .ok (.ifCond .eq 24, 3) := by decide +kernel
theorem dX8_boom_11 : decode cX8_boom 11 = .ok (.aload_n 0, 1) := by decide +kernel
theorem dX8_boom_12 : decode cX8_boom 12 = .ok (.getfield 12, 3) := by decide +kernel
theorem dX8_boom_15 : decode cX8_boom 15 = .ok (.iload_n 2, 1) := by decide +kernel
theorem dX8_boom_16 : decode cX8_boom 16 = .ok (.invokevirtual 97, 3) := by decide +kernel
theorem dX8_boom_19 : decode cX8_boom 19 = .ok (.ifCond .eq 13, 3) := by decide +kernel
theorem dX8_boom_22 : decode cX8_boom 22 = .ok (.iload_n 3, 1) := by decide +kernel
theorem dX8_boom_23 : decode cX8_boom 23 = .ok (.iconst 0, 1) := by decide +kernel
theorem dX8_boom_24 : decode cX8_boom 24 = .ok (.bipush 9, 2) := by decide +kernel
theorem dX8_boom_26 : decode cX8_boom 26 = .ok (.invokestatic 70, 3) := by decide +kernel
theorem dX8_boom_29 : decode cX8_boom 29 = .ok (.ifCond .ne 5, 3) := by decide +kernel
theorem dX8_boom_32 : decode cX8_boom 32 = .ok (.iconst (-1), 1) := by decide +kernel
theorem dX8_boom_33 : decode cX8_boom 33 = .ok (.ireturn, 1) := by decide +kernel
theorem dX8_boom_34 : decode cX8_boom 34 = .ok (.iload_n 1, 1) := by decide +kernel
theorem dX8_boom_35 : decode cX8_boom 35 = .ok (.iload_n 2, 1) := by decide +kernel
theorem dX8_boom_36 : decode cX8_boom 36 = .ok (.invokestatic 100, 3) := by decide +kernel
theorem dX8_boom_39 : decode cX8_boom 39 = .ok (.istore 4, 2) := by decide +kernel
theorem dX8_boom_41 : decode cX8_boom 41 = .ok (.iload 4, 2) := by decide +kernel
theorem dX8_boom_43 : decode cX8_boom 43 = .ok (.ifCond .ne 7, 3) := by decide +kernel
theorem dX8_boom_46 : decode cX8_boom 46 = .ok (.iconst (-1), 1) := by decide +kernel
theorem dX8_boom_47 : decode cX8_boom 47 = .ok (.goto 14, 3) := by decide +kernel
theorem dX8_boom_50 : decode cX8_boom 50 = .ok (.aload_n 0, 1) := by decide +kernel
theorem dX8_boom_51 : decode cX8_boom 51 = .ok (.getfield 19, 3) := by decide +kernel
theorem dX8_boom_54 : decode cX8_boom 54 = .ok (.iload_n 1, 1) := by decide +kernel
theorem dX8_boom_55 : decode cX8_boom 55 = .ok (.iload 4, 2) := by decide +kernel
theorem dX8_boom_57 : decode cX8_boom 57 = .ok (.iload_n 3, 1) := by decide +kernel
theorem dX8_boom_58 : decode cX8_boom 58 = .ok (.invokevirtual 104, 3) := by decide +kernel
theorem dX8_boom_61 : decode cX8_boom 61 = .ok (.ireturn, 1) := by decide +kernel
theorem dX8_lift_0 : decode cX8_lift 0 = .ok (.aload_n 0, 1) := by decide +kernel
theorem dX8_lift_1 : decode cX8_lift 1 = .ok (.getfield 19, 3) := by decide +kernel
theorem dX8_lift_4 : decode cX8_lift 4 = .ok (.iload_n 1, 1) := by decide +kernel
theorem dX8_lift_5 : decode cX8_lift 5 = .ok (.invokevirtual 108, 3) := by decide +kernel
theorem dX8_lift_8 : decode cX8_lift 8 = .ok (.ireturn, 1) := by decide +kernel
theorem dX8_spill_0 : decode cX8_spill 0 = .ok (.aload_n 0, 1) := by decide +kernel
theorem dX8_spill_1 : decode cX8_spill 1 = .ok (.getfield 12, 3) := by decide +kernel
theorem dX8_spill_4 : decode cX8_spill 4 = .ok (.iload_n 1, 1) := by decide +kernel
theorem dX8_spill_5 : decode cX8_spill 5 = .ok (.invokevirtual 97, 3) := by decide +kernel
theorem dX8_spill_8 : decode cX8_spill 8 = .ok (.ifCond .eq 24, 3) := by decide +kernel
theorem dX8_spill_11 : decode cX8_spill 11 = .ok (.iload_n 2, 1) := by decide +kernel
theorem dX8_spill_12 : decode cX8_spill 12 = .ok (.iconst 1, 1) := by decide +kernel
theorem dX8_spill_13 : decode cX8_spill 13 = .ok (.ldc 111, 2) := by decide +kernel
theorem dX8_spill_15 : decode cX8_spill 15 = .ok (.invokestatic 70, 3) := by decide +kernel
theorem dX8_spill_18 : decode cX8_spill 18 = .ok (.ifCond .eq 14, 3) := by decide +kernel
theorem dX8_spill_21 : decode cX8_spill 21 = .ok (.aload_n 0, 1) := by decide +kernel
theorem dX8_spill_22 : decode cX8_spill 22 = .ok (.getfield 112, 3) := by decide +kernel
theorem dX8_spill_25 : decode cX8_spill 25 = .ok (.iload_n 2, 1) := by decide +kernel
theorem dX8_spill_26 : decode cX8_spill 26 = .ok (.iadd, 1) := by decide +kernel
theorem dX8_spill_27 : decode cX8_spill 27 = .ok (.ldc 115, 2) := by decide +kernel
theorem dX8_spill_29 : decode cX8_spill 29 = .ok (.if_icmp .le 5, 3) := by decide +kernel
theorem dX8_spill_32 : decode cX8_spill 32 = .ok (.iconst (-1), 1) := by decide +kernel
theorem dX8_spill_33 : decode cX8_spill 33 = .ok (.ireturn, 1) := by decide +kernel
theorem dX8_spill_34 : decode cX8_spill 34 = .ok (.aload_n 0, 1) := by decide +kernel
theorem dX8_spill_35 : decode cX8_spill 35 = .ok (.getfield 112, 3) := by decide +kernel
theorem dX8_spill_38 : decode cX8_spill 38 = .ok (.ifCond .ne 11, 3) := by decide +kernel
theorem dX8_spill_41 : decode cX8_spill 41 = .ok (.aload_n 0, 1) := by decide +kernel
theorem dX8_spill_42 : decode cX8_spill 42 = .ok (.aload_n 0, 1) := by decide +kernel
theorem dX8_spill_43 : decode cX8_spill 43 = .ok (.getfield 74, 3) := by decide +kernel
theorem dX8_spill_46 : decode cX8_spill 46 = .ok (.putfield 116, 3) := by decide +kernel
theorem dX8_spill_49 : decode cX8_spill 49 = .ok (.aload_n 0, 1) := by decide +kernel
theorem dX8_spill_50 : decode cX8_spill 50 = .ok (.dup, 1) := by decide +kernel
theorem dX8_spill_51 : decode cX8_spill 51 = .ok (.getfield 112, 3) := by decide +kernel
theorem dX8_spill_54 : decode cX8_spill 54 = .ok (.iload_n 2, 1) := by decide +kernel
theorem dX8_spill_55 : decode cX8_spill 55 = .ok (.iadd, 1) := by decide +kernel
theorem dX8_spill_56 : decode cX8_spill 56 = .ok (.putfield 112, 3) := by decide +kernel
theorem dX8_spill_59 : decode cX8_spill 59 = .ok (.aload_n 0, 1) := by decide +kernel
theorem dX8_spill_60 : decode cX8_spill 60 = .ok (.getfield 40, 3) := by decide +kernel
theorem dX8_spill_63 : decode cX8_spill 63 = .ok (.getfield 78, 3) := by decide +kernel
theorem dX8_spill_66 : decode cX8_spill 66 = .ok (.iload_n 1, 1) := by decide +kernel
theorem dX8_spill_67 : decode cX8_spill 67 = .ok (.dup2, 1) := by decide +kernel
theorem dX8_spill_68 : decode cX8_spill 68 = .ok (.iaload, 1) := by decide +kernel
theorem dX8_spill_69 : decode cX8_spill 69 = .ok (.iload_n 2, 1) := by decide +kernel
theorem dX8_spill_70 : decode cX8_spill 70 = .ok (.iadd, 1) := by decide +kernel
theorem dX8_spill_71 : decode cX8_spill 71 = .ok (.iastore, 1) := by decide +kernel
theorem dX8_spill_72 : decode cX8_spill 72 = .ok (.aload_n 0, 1) := by decide +kernel
theorem dX8_spill_73 : decode cX8_spill 73 = .ok (.getfield 40, 3) := by decide +kernel
theorem dX8_spill_76 : decode cX8_spill 76 = .ok (.getfield 78, 3) := by decide +kernel
theorem dX8_spill_79 : decode cX8_spill 79 = .ok (.iload_n 1, 1) := by decide +kernel
theorem dX8_spill_80 : decode cX8_spill 80 = .ok (.iaload, 1) := by decide +kernel
theorem dX8_spill_81 : decode cX8_spill 81 = .ok (.ireturn, 1) := by decide +kernel
theorem dX8_skimmer_0 : decode cX8_skimmer 0 = .ok (.aload_n 0, 1) := by decide +kernel
theorem dX8_skimmer_1 : decode cX8_skimmer 1 = .ok (.getfield 12, 3) := by decide +kernel
theorem dX8_skimmer_4 : decode cX8_skimmer 4 = .ok (.iload_n 1, 1) := by decide +kernel
theorem dX8_skimmer_5 : decode cX8_skimmer 5 = .ok (.invokevirtual 97, 3) := by decide +kernel
theorem dX8_skimmer_8 : decode cX8_skimmer 8 = .ok (.ifCond .eq 34, 3) := by decide +kernel
theorem dX8_skimmer_11 : decode cX8_skimmer 11 = .ok (.iload_n 2, 1) := by decide +kernel
theorem dX8_skimmer_12 : decode cX8_skimmer 12 = .ok (.iconst 1, 1) := by decide +kernel
theorem dX8_skimmer_13 : decode cX8_skimmer 13 = .ok (.sipush 5000, 3) := by decide +kernel
theorem dX8_skimmer_16 : decode cX8_skimmer 16 = .ok (.invokestatic 70, 3) := by decide +kernel
theorem dX8_skimmer_19 : decode cX8_skimmer 19 = .ok (.ifCond .eq 23, 3) := by decide +kernel
theorem dX8_skimmer_22 : decode cX8_skimmer 22 = .ok (.iload_n 3, 1) := by decide +kernel
theorem dX8_skimmer_23 : decode cX8_skimmer 23 = .ok (.iconst 0, 1) := by decide +kernel
theorem dX8_skimmer_24 : decode cX8_skimmer 24 = .ok (.ldc 111, 2) := by decide +kernel
theorem dX8_skimmer_26 : decode cX8_skimmer 26 = .ok (.invokestatic 70, 3) := by decide +kernel
theorem dX8_skimmer_29 : decode cX8_skimmer 29 = .ok (.ifCond .eq 13, 3) := by decide +kernel
theorem dX8_skimmer_32 : decode cX8_skimmer 32 = .ok (.iload 4, 2) := by decide +kernel
theorem dX8_skimmer_34 : decode cX8_skimmer 34 = .ok (.iconst 1, 1) := by decide +kernel
theorem dX8_skimmer_35 : decode cX8_skimmer 35 = .ok (.iconst 3, 1) := by decide +kernel
theorem dX8_skimmer_36 : decode cX8_skimmer 36 = .ok (.invokestatic 70, 3) := by decide +kernel
theorem dX8_skimmer_39 : decode cX8_skimmer 39 = .ok (.ifCond .ne 5, 3) := by decide +kernel
theorem dX8_skimmer_42 : decode cX8_skimmer 42 = .ok (.iconst (-1), 1) := by decide +kernel
theorem dX8_skimmer_43 : decode cX8_skimmer 43 = .ok (.ireturn, 1) := by decide +kernel
theorem dX8_skimmer_44 : decode cX8_skimmer 44 = .ok (.aload_n 0, 1) := by decide +kernel
theorem dX8_skimmer_45 : decode cX8_skimmer 45 = .ok (.getfield 33, 3) := by decide +kernel
theorem dX8_skimmer_48 : decode cX8_skimmer 48 = .ok (.iload_n 1, 1) := by decide +kernel
theorem dX8_skimmer_49 : decode cX8_skimmer 49 = .ok (.iload_n 2, 1) := by decide +kernel
theorem dX8_skimmer_50 : decode cX8_skimmer 50 = .ok (.iload_n 3, 1) := by decide +kernel
theorem dX8_skimmer_51 : decode cX8_skimmer 51 = .ok (.iload 4, 2) := by decide +kernel
theorem dX8_skimmer_53 : decode cX8_skimmer 53 = .ok (.invokevirtual 119, 3) := by decide +kernel
theorem dX8_skimmer_56 : decode cX8_skimmer 56 = .ok (.ireturn, 1) := by decide +kernel
theorem dX8_sail_0 : decode cX8_sail 0 = .ok (.aload_n 0, 1) := by decide +kernel
theorem dX8_sail_1 : decode cX8_sail 1 = .ok (.getfield 33, 3) := by decide +kernel
theorem dX8_sail_4 : decode cX8_sail 4 = .ok (.iload_n 1, 1) := by decide +kernel
theorem dX8_sail_5 : decode cX8_sail 5 = .ok (.invokevirtual 123, 3) := by decide +kernel
theorem dX8_sail_8 : decode cX8_sail 8 = .ok (.ifCond .ne 5, 3) := by decide +kernel
theorem dX8_sail_11 : decode cX8_sail 11 = .ok (.iconst 0, 1) := by decide +kernel
theorem dX8_sail_12 : decode cX8_sail 12 = .ok (.ireturn, 1) := by decide +kernel
theorem dX8_sail_13 : decode cX8_sail 13 = .ok (.aload_n 0, 1) := by decide +kernel
theorem dX8_sail_14 : decode cX8_sail 14 = .ok (.getfield 33, 3) := by decide +kernel
theorem dX8_sail_17 : decode cX8_sail 17 = .ok (.getfield 126, 3) := by decide +kernel
theorem dX8_sail_20 : decode cX8_sail 20 = .ok (.iload_n 1, 1) := by decide +kernel
theorem dX8_sail_21 : decode cX8_sail 21 = .ok (.aaload, 1) := by decide +kernel
theorem dX8_sail_22 : decode cX8_sail 22 = .ok (.astore_n 3, 1) := by decide +kernel
theorem dX8_sail_23 : decode cX8_sail 23 = .ok (.aload_n 3, 1) := by decide +kernel
theorem dX8_sail_24 : decode cX8_sail 24 = .ok (.getfield 130, 3) := by decide +kernel
theorem dX8_sail_27 : decode cX8_sail 27 = .ok (.ifCond .ne 22, 3) := by decide +kernel
theorem dX8_sail_30 : decode cX8_sail 30 = .ok (.aload_n 0, 1) := by decide +kernel
theorem dX8_sail_31 : decode cX8_sail 31 = .ok (.getfield 12, 3) := by decide +kernel
theorem dX8_sail_34 : decode cX8_sail 34 = .ok (.aload_n 3, 1) := by decide +kernel
theorem dX8_sail_35 : decode cX8_sail 35 = .ok (.getfield 136, 3) := by decide +kernel
theorem dX8_sail_38 : decode cX8_sail 38 = .ok (.iload_n 2, 1) := by decide +kernel
theorem dX8_sail_39 : decode cX8_sail 39 = .ok (.aload_n 3, 1) := by decide +kernel
theorem dX8_sail_40 : decode cX8_sail 40 = .ok (.getfield 139, 3) := by decide +kernel
theorem dX8_sail_43 : decode cX8_sail 43 = .ok (.invokevirtual 142, 3) := by decide +kernel
theorem dX8_sail_46 : decode cX8_sail 46 = .ok (.ifCond .ne 5, 3) := by decide +kernel
theorem dX8_sail_49 : decode cX8_sail 49 = .ok (.iconst 0, 1) := by decide +kernel
theorem dX8_sail_50 : decode cX8_sail 50 = .ok (.ireturn, 1) := by decide +kernel
theorem dX8_sail_51 : decode cX8_sail 51 = .ok (.aload_n 3, 1) := by decide +kernel
theorem dX8_sail_52 : decode cX8_sail 52 = .ok (.iload_n 2, 1) := by decide +kernel
theorem dX8_sail_53 : decode cX8_sail 53 = .ok (.putfield 136, 3) := by decide +kernel
theorem dX8_sail_56 : decode cX8_sail 56 = .ok (.aload_n 3, 1) := by decide +kernel
theorem dX8_sail_57 : decode cX8_sail 57 = .ok (.iconst 1, 1) := by decide +kernel
theorem dX8_sail_58 : decode cX8_sail 58 = .ok (.putfield 130, 3) := by decide +kernel
theorem dX8_sail_61 : decode cX8_sail 61 = .ok (.iconst 1, 1) := by decide +kernel
theorem dX8_sail_62 : decode cX8_sail 62 = .ok (.ireturn, 1) := by decide +kernel
theorem dX8_empty_0 : decode cX8_empty 0 = .ok (.aload_n 0, 1) := by decide +kernel
theorem dX8_empty_1 : decode cX8_empty 1 = .ok (.getfield 33, 3) := by decide +kernel
theorem dX8_empty_4 : decode cX8_empty 4 = .ok (.iload_n 1, 1) := by decide +kernel
theorem dX8_empty_5 : decode cX8_empty 5 = .ok (.invokevirtual 123, 3) := by decide +kernel
theorem dX8_empty_8 : decode cX8_empty 8 = .ok (.ifCond .ne 5, 3) := by decide +kernel
theorem dX8_empty_11 : decode cX8_empty 11 = .ok (.iconst (-1), 1) := by decide +kernel
theorem dX8_empty_12 : decode cX8_empty 12 = .ok (.ireturn, 1) := by decide +kernel
theorem dX8_empty_13 : decode cX8_empty 13 = .ok (.aload_n 0, 1) := by decide +kernel
theorem dX8_empty_14 : decode cX8_empty 14 = .ok (.getfield 40, 3) := by decide +kernel
theorem dX8_empty_17 : decode cX8_empty 17 = .ok (.getfield 145, 3) := by decide +kernel
theorem dX8_empty_20 : decode cX8_empty 20 = .ok (.iload_n 1, 1) := by decide +kernel
theorem dX8_empty_21 : decode cX8_empty 21 = .ok (.iaload, 1) := by decide +kernel
theorem dX8_empty_22 : decode cX8_empty 22 = .ok (.istore_n 2, 1) := by decide +kernel
theorem dX8_empty_23 : decode cX8_empty 23 = .ok (.aload_n 0, 1) := by decide +kernel
theorem dX8_empty_24 : decode cX8_empty 24 = .ok (.getfield 33, 3) := by decide +kernel
theorem dX8_empty_27 : decode cX8_empty 27 = .ok (.getfield 126, 3) := by decide +kernel
theorem dX8_empty_30 : decode cX8_empty 30 = .ok (.iload_n 1, 1) := by decide +kernel
theorem dX8_empty_31 : decode cX8_empty 31 = .ok (.aaload, 1) := by decide +kernel
theorem dX8_empty_32 : decode cX8_empty 32 = .ok (.dup, 1) := by decide +kernel
theorem dX8_empty_33 : decode cX8_empty 33 = .ok (.getfield 148, 3) := by decide +kernel
theorem dX8_empty_36 : decode cX8_empty 36 = .ok (.iload_n 2, 1) := by decide +kernel
theorem dX8_empty_37 : decode cX8_empty 37 = .ok (.iadd, 1) := by decide +kernel
theorem dX8_empty_38 : decode cX8_empty 38 = .ok (.putfield 148, 3) := by decide +kernel
theorem dX8_empty_41 : decode cX8_empty 41 = .ok (.aload_n 0, 1) := by decide +kernel
theorem dX8_empty_42 : decode cX8_empty 42 = .ok (.getfield 40, 3) := by decide +kernel
theorem dX8_empty_45 : decode cX8_empty 45 = .ok (.getfield 145, 3) := by decide +kernel
theorem dX8_empty_48 : decode cX8_empty 48 = .ok (.iload_n 1, 1) := by decide +kernel
theorem dX8_empty_49 : decode cX8_empty 49 = .ok (.iconst 0, 1) := by decide +kernel
theorem dX8_empty_50 : decode cX8_empty 50 = .ok (.iastore, 1) := by decide +kernel
theorem dX8_empty_51 : decode cX8_empty 51 = .ok (.iload_n 2, 1) := by decide +kernel
theorem dX8_empty_52 : decode cX8_empty 52 = .ok (.ireturn, 1) := by decide +kernel
theorem dX8_go_0 : decode cX8_go 0 = .ok (.iload_n 1, 1) := by decide +kernel
theorem dX8_go_1 : decode cX8_go 1 = .ok (.iconst 0, 1) := by decide +kernel
theorem dX8_go_2 : decode cX8_go 2 = .ok (.bipush 48, 2) := by decide +kernel
theorem dX8_go_4 : decode cX8_go 4 = .ok (.invokestatic 70, 3) := by decide +kernel
theorem dX8_go_7 : decode cX8_go 7 = .ok (.ifCond .ne 5, 3) := by decide +kernel
theorem dX8_go_10 : decode cX8_go 10 = .ok (.iconst (-1), 1) := by decide +kernel
theorem dX8_go_11 : decode cX8_go 11 = .ok (.ireturn, 1) := by decide +kernel
theorem dX8_go_12 : decode cX8_go 12 = .ok (.aload_n 0, 1) := by decide +kernel
theorem dX8_go_13 : decode cX8_go 13 = .ok (.getfield 74, 3) := by decide +kernel
theorem dX8_go_16 : decode cX8_go 16 = .ok (.iload_n 1, 1) := by decide +kernel
theorem dX8_go_17 : decode cX8_go 17 = .ok (.iadd, 1) := by decide +kernel
theorem dX8_go_18 : decode cX8_go 18 = .ok (.sipush 500, 3) := by decide +kernel
theorem dX8_go_21 : decode cX8_go 21 = .ok (.invokestatic 151, 3) := by decide +kernel
theorem dX8_go_24 : decode cX8_go 24 = .ok (.istore_n 2, 1) := by decide +kernel
theorem dX8_go_25 : decode cX8_go 25 = .ok (.aload_n 0, 1) := by decide +kernel
theorem dX8_go_26 : decode cX8_go 26 = .ok (.getfield 74, 3) := by decide +kernel
theorem dX8_go_29 : decode cX8_go 29 = .ok (.iload_n 2, 1) := by decide +kernel
theorem dX8_go_30 : decode cX8_go 30 = .ok (.if_icmp .ge 82, 3) := by decide +kernel
theorem dX8_go_33 : decode cX8_go 33 = .ok (.aload_n 0, 1) := by decide +kernel
theorem dX8_go_34 : decode cX8_go 34 = .ok (.aload_n 0, 1) := by decide +kernel
theorem dX8_go_35 : decode cX8_go 35 = .ok (.getfield 40, 3) := by decide +kernel
theorem dX8_go_38 : decode cX8_go 38 = .ok (.iconst 0, 1) := by decide +kernel
theorem dX8_go_39 : decode cX8_go 39 = .ok (.aload_n 0, 1) := by decide +kernel
theorem dX8_go_40 : decode cX8_go 40 = .ok (.getfield 74, 3) := by decide +kernel
theorem dX8_go_43 : decode cX8_go 43 = .ok (.invokevirtual 156, 3) := by decide +kernel
theorem dX8_go_46 : decode cX8_go 46 = .ok (.iconst 0, 1) := by decide +kernel
theorem dX8_go_47 : decode cX8_go 47 = .ok (.istore_n 3, 1) := by decide +kernel
theorem dX8_go_48 : decode cX8_go 48 = .ok (.iload_n 3, 1) := by decide +kernel
theorem dX8_go_49 : decode cX8_go 49 = .ok (.aload_n 0, 1) := by decide +kernel
theorem dX8_go_50 : decode cX8_go 50 = .ok (.getfield 160, 3) := by decide +kernel
theorem dX8_go_53 : decode cX8_go 53 = .ok (.if_icmp .ge 23, 3) := by decide +kernel
theorem dX8_go_56 : decode cX8_go 56 = .ok (.aload_n 0, 1) := by decide +kernel
theorem dX8_go_57 : decode cX8_go 57 = .ok (.aload_n 0, 1) := by decide +kernel
theorem dX8_go_58 : decode cX8_go 58 = .ok (.getfield 57, 3) := by decide +kernel
theorem dX8_go_61 : decode cX8_go 61 = .ok (.iload_n 3, 1) := by decide +kernel
theorem dX8_go_62 : decode cX8_go 62 = .ok (.aaload, 1) := by decide +kernel
theorem dX8_go_63 : decode cX8_go 63 = .ok (.aload_n 0, 1) := by decide +kernel
theorem dX8_go_64 : decode cX8_go 64 = .ok (.getfield 74, 3) := by decide +kernel
theorem dX8_go_67 : decode cX8_go 67 = .ok (.invokevirtual 163, 3) := by decide +kernel
theorem dX8_go_70 : decode cX8_go 70 = .ok (.iinc 3 1, 3) := by decide +kernel
theorem dX8_go_73 : decode cX8_go 73 = .ok (.goto (-25), 3) := by decide +kernel
theorem dX8_go_76 : decode cX8_go 76 = .ok (.aload_n 0, 1) := by decide +kernel
theorem dX8_go_77 : decode cX8_go 77 = .ok (.dup, 1) := by decide +kernel
theorem dX8_go_78 : decode cX8_go 78 = .ok (.getfield 167, 3) := by decide +kernel
theorem dX8_go_81 : decode cX8_go 81 = .ok (.aload_n 0, 1) := by decide +kernel
theorem dX8_go_82 : decode cX8_go 82 = .ok (.getfield 33, 3) := by decide +kernel
theorem dX8_go_85 : decode cX8_go 85 = .ok (.getfield 170, 3) := by decide +kernel
theorem dX8_go_88 : decode cX8_go 88 = .ok (.iadd, 1) := by decide +kernel
theorem dX8_go_89 : decode cX8_go 89 = .ok (.putfield 167, 3) := by decide +kernel
theorem dX8_go_92 : decode cX8_go 92 = .ok (.aload_n 0, 1) := by decide +kernel
theorem dX8_go_93 : decode cX8_go 93 = .ok (.getfield 33, 3) := by decide +kernel
theorem dX8_go_96 : decode cX8_go 96 = .ok (.invokevirtual 173, 3) := by decide +kernel
theorem dX8_go_99 : decode cX8_go 99 = .ok (.aload_n 0, 1) := by decide +kernel
theorem dX8_go_100 : decode cX8_go 100 = .ok (.dup, 1) := by decide +kernel
theorem dX8_go_101 : decode cX8_go 101 = .ok (.getfield 74, 3) := by decide +kernel
theorem dX8_go_104 : decode cX8_go 104 = .ok (.iconst 1, 1) := by decide +kernel
theorem dX8_go_105 : decode cX8_go 105 = .ok (.iadd, 1) := by decide +kernel
theorem dX8_go_106 : decode cX8_go 106 = .ok (.putfield 74, 3) := by decide +kernel
theorem dX8_go_109 : decode cX8_go 109 = .ok (.goto (-84), 3) := by decide +kernel
theorem dX8_go_112 : decode cX8_go 112 = .ok (.aload_n 0, 1) := by decide +kernel
theorem dX8_go_113 : decode cX8_go 113 = .ok (.getfield 74, 3) := by decide +kernel
theorem dX8_go_116 : decode cX8_go 116 = .ok (.ireturn, 1) := by decide +kernel
theorem dX8_oil_0 : decode cX8_oil 0 = .ok (.iload_n 1, 1) := by decide +kernel
theorem dX8_oil_1 : decode cX8_oil 1 = .ok (.invokestatic 66, 3) := by decide +kernel
theorem dX8_oil_4 : decode cX8_oil 4 = .ok (.ifCond .eq 15, 3) := by decide +kernel
theorem dX8_oil_7 : decode cX8_oil 7 = .ok (.aload_n 0, 1) := by decide +kernel
theorem dX8_oil_8 : decode cX8_oil 8 = .ok (.getfield 40, 3) := by decide +kernel
theorem dX8_oil_11 : decode cX8_oil 11 = .ok (.getfield 78, 3) := by decide +kernel
theorem dX8_oil_14 : decode cX8_oil 14 = .ok (.iload_n 1, 1) := by decide +kernel
theorem dX8_oil_15 : decode cX8_oil 15 = .ok (.iaload, 1) := by decide +kernel
theorem dX8_oil_16 : decode cX8_oil 16 = .ok (.goto 4, 3) := by decide +kernel
theorem dX8_oil_19 : decode cX8_oil 19 = .ok (.iconst (-1), 1) := by decide +kernel
theorem dX8_oil_20 : decode cX8_oil 20 = .ok (.ireturn, 1) := by decide +kernel
theorem dX8_foretold_0 : decode cX8_foretold 0 = .ok (.iload_n 1, 1) := by decide +kernel
theorem dX8_foretold_1 : decode cX8_foretold 1 = .ok (.iconst 0, 1) := by decide +kernel
theorem dX8_foretold_2 : decode cX8_foretold 2 = .ok (.iconst 2, 1) := by decide +kernel
theorem dX8_foretold_3 : decode cX8_foretold 3 = .ok (.invokestatic 70, 3) := by decide +kernel
theorem dX8_foretold_6 : decode cX8_foretold 6 = .ok (.ifCond .eq 13, 3) := by decide +kernel
theorem dX8_foretold_9 : decode cX8_foretold 9 = .ok (.iload_n 2, 1) := by decide +kernel
theorem dX8_foretold_10 : decode cX8_foretold 10 = .ok (.iconst 0, 1) := by decide +kernel
theorem dX8_foretold_11 : decode cX8_foretold 11 = .ok (.bipush 48, 2) := by decide +kernel
theorem dX8_foretold_13 : decode cX8_foretold 13 = .ok (.invokestatic 70, 3) := by decide +kernel
theorem dX8_foretold_16 : decode cX8_foretold 16 = .ok (.ifCond .ne 5, 3) := by decide +kernel
theorem dX8_foretold_19 : decode cX8_foretold 19 = .ok (.iconst (-1), 1) := by decide +kernel
theorem dX8_foretold_20 : decode cX8_foretold 20 = .ok (.ireturn, 1) := by decide +kernel
theorem dX8_foretold_21 : decode cX8_foretold 21 = .ok (.aload_n 0, 1) := by decide +kernel
theorem dX8_foretold_22 : decode cX8_foretold 22 = .ok (.iload_n 1, 1) := by decide +kernel
theorem dX8_foretold_23 : decode cX8_foretold 23 = .ok (.iload_n 2, 1) := by decide +kernel
theorem dX8_foretold_24 : decode cX8_foretold 24 = .ok (.invokevirtual 176, 3) := by decide +kernel
theorem dX8_foretold_27 : decode cX8_foretold 27 = .ok (.ireturn, 1) := by decide +kernel
theorem dX8_worst_0 : decode cX8_worst 0 = .ok (.iload_n 1, 1) := by decide +kernel
theorem dX8_worst_1 : decode cX8_worst 1 = .ok (.iconst 0, 1) := by decide +kernel
theorem dX8_worst_2 : decode cX8_worst 2 = .ok (.bipush 48, 2) := by decide +kernel
theorem dX8_worst_4 : decode cX8_worst 4 = .ok (.invokestatic 70, 3) := by decide +kernel
theorem dX8_worst_7 : decode cX8_worst 7 = .ok (.ifCond .ne 5, 3) := by decide +kernel
theorem dX8_worst_10 : decode cX8_worst 10 = .ok (.iconst (-1), 1) := by decide +kernel
theorem dX8_worst_11 : decode cX8_worst 11 = .ok (.ireturn, 1) := by decide +kernel
theorem dX8_worst_12 : decode cX8_worst 12 = .ok (.iconst 0, 1) := by decide +kernel
theorem dX8_worst_13 : decode cX8_worst 13 = .ok (.istore_n 2, 1) := by decide +kernel
theorem dX8_worst_14 : decode cX8_worst 14 = .ok (.iconst 0, 1) := by decide +kernel
theorem dX8_worst_15 : decode cX8_worst 15 = .ok (.istore_n 3, 1) := by decide +kernel
theorem dX8_worst_16 : decode cX8_worst 16 = .ok (.iload_n 3, 1) := by decide +kernel
theorem dX8_worst_17 : decode cX8_worst 17 = .ok (.iconst 3, 1) := by decide +kernel
theorem dX8_worst_18 : decode cX8_worst 18 = .ok (.if_icmp .ge 20, 3) := by decide +kernel
theorem dX8_worst_21 : decode cX8_worst 21 = .ok (.iload_n 2, 1) := by decide +kernel
theorem dX8_worst_22 : decode cX8_worst 22 = .ok (.aload_n 0, 1) := by decide +kernel
theorem dX8_worst_23 : decode cX8_worst 23 = .ok (.iload_n 3, 1) := by decide +kernel
theorem dX8_worst_24 : decode cX8_worst 24 = .ok (.iload_n 1, 1) := by decide +kernel
theorem dX8_worst_25 : decode cX8_worst 25 = .ok (.invokevirtual 176, 3) := by decide +kernel
theorem dX8_worst_28 : decode cX8_worst 28 = .ok (.invokestatic 179, 3) := by decide +kernel
theorem dX8_worst_31 : decode cX8_worst 31 = .ok (.istore_n 2, 1) := by decide +kernel
theorem dX8_worst_32 : decode cX8_worst 32 = .ok (.iinc 3 1, 3) := by decide +kernel
theorem dX8_worst_35 : decode cX8_worst 35 = .ok (.goto (-19), 3) := by decide +kernel
theorem dX8_worst_38 : decode cX8_worst 38 = .ok (.iload_n 2, 1) := by decide +kernel
theorem dX8_worst_39 : decode cX8_worst 39 = .ok (.ireturn, 1) := by decide +kernel
theorem dX8_best_0 : decode cX8_best 0 = .ok (.aload_n 0, 1) := by decide +kernel
theorem dX8_best_1 : decode cX8_best 1 = .ok (.getfield 33, 3) := by decide +kernel
theorem dX8_best_4 : decode cX8_best 4 = .ok (.iload_n 1, 1) := by decide +kernel
theorem dX8_best_5 : decode cX8_best 5 = .ok (.invokevirtual 123, 3) := by decide +kernel
theorem dX8_best_8 : decode cX8_best 8 = .ok (.ifCond .eq 21, 3) := by decide +kernel
theorem dX8_best_11 : decode cX8_best 11 = .ok (.iload_n 2, 1) := by decide +kernel
theorem dX8_best_12 : decode cX8_best 12 = .ok (.iconst 1, 1) := by decide +kernel
theorem dX8_best_13 : decode cX8_best 13 = .ok (.iconst 3, 1) := by decide +kernel
theorem dX8_best_14 : decode cX8_best 14 = .ok (.invokestatic 70, 3) := by decide +kernel
theorem dX8_best_17 : decode cX8_best 17 = .ok (.ifCond .eq 12, 3) := by decide +kernel
theorem dX8_best_20 : decode cX8_best 20 = .ok (.iload_n 3, 1) := by decide +kernel
theorem dX8_best_21 : decode cX8_best 21 = .ok (.iconst 0, 1) := by decide +kernel
theorem dX8_best_22 : decode cX8_best 22 = .ok (.iconst 1, 1) := by decide +kernel
theorem dX8_best_23 : decode cX8_best 23 = .ok (.invokestatic 70, 3) := by decide +kernel
theorem dX8_best_26 : decode cX8_best 26 = .ok (.ifCond .ne 5, 3) := by decide +kernel
theorem dX8_best_29 : decode cX8_best 29 = .ok (.iconst (-1), 1) := by decide +kernel
theorem dX8_best_30 : decode cX8_best 30 = .ok (.ireturn, 1) := by decide +kernel
theorem dX8_best_31 : decode cX8_best 31 = .ok (.aload_n 0, 1) := by decide +kernel
theorem dX8_best_32 : decode cX8_best 32 = .ok (.getfield 33, 3) := by decide +kernel
theorem dX8_best_35 : decode cX8_best 35 = .ok (.getfield 126, 3) := by decide +kernel
theorem dX8_best_38 : decode cX8_best 38 = .ok (.iload_n 1, 1) := by decide +kernel
theorem dX8_best_39 : decode cX8_best 39 = .ok (.aaload, 1) := by decide +kernel
theorem dX8_best_40 : decode cX8_best 40 = .ok (.getfield 130, 3) := by decide +kernel
theorem dX8_best_43 : decode cX8_best 43 = .ok (.ifCond .eq 5, 3) := by decide +kernel
theorem dX8_best_46 : decode cX8_best 46 = .ok (.iconst (-1), 1) := by decide +kernel
theorem dX8_best_47 : decode cX8_best 47 = .ok (.ireturn, 1) := by decide +kernel
theorem dX8_best_48 : decode cX8_best 48 = .ok (.aload_n 0, 1) := by decide +kernel
theorem dX8_best_49 : decode cX8_best 49 = .ok (.getfield 51, 3) := by decide +kernel
theorem dX8_best_52 : decode cX8_best 52 = .ok (.iload_n 1, 1) := by decide +kernel
theorem dX8_best_53 : decode cX8_best 53 = .ok (.iload_n 2, 1) := by decide +kernel
theorem dX8_best_54 : decode cX8_best 54 = .ok (.invokevirtual 182, 3) := by decide +kernel
theorem dX8_best_57 : decode cX8_best 57 = .ok (.aload_n 0, 1) := by decide +kernel
theorem dX8_best_58 : decode cX8_best 58 = .ok (.getfield 44, 3) := by decide +kernel
theorem dX8_best_61 : decode cX8_best 61 = .ok (.iconst 0, 1) := by decide +kernel
theorem dX8_best_62 : decode cX8_best 62 = .ok (.aaload, 1) := by decide +kernel
theorem dX8_best_63 : decode cX8_best 63 = .ok (.aload_n 0, 1) := by decide +kernel
theorem dX8_best_64 : decode cX8_best 64 = .ok (.getfield 40, 3) := by decide +kernel
theorem dX8_best_67 : decode cX8_best 67 = .ok (.invokevirtual 186, 3) := by decide +kernel
theorem dX8_best_70 : decode cX8_best 70 = .ok (.aload_n 0, 1) := by decide +kernel
theorem dX8_best_71 : decode cX8_best 71 = .ok (.iconst 0, 1) := by decide +kernel
theorem dX8_best_72 : decode cX8_best 72 = .ok (.aload_n 0, 1) := by decide +kernel
theorem dX8_best_73 : decode cX8_best 73 = .ok (.getfield 33, 3) := by decide +kernel
theorem dX8_best_76 : decode cX8_best 76 = .ok (.getfield 126, 3) := by decide +kernel
theorem dX8_best_79 : decode cX8_best 79 = .ok (.iload_n 1, 1) := by decide +kernel
theorem dX8_best_80 : decode cX8_best 80 = .ok (.aaload, 1) := by decide +kernel
theorem dX8_best_81 : decode cX8_best 81 = .ok (.getfield 136, 3) := by decide +kernel
theorem dX8_best_84 : decode cX8_best 84 = .ok (.iconst 0, 1) := by decide +kernel
theorem dX8_best_85 : decode cX8_best 85 = .ok (.invokevirtual 190, 3) := by decide +kernel
theorem dX8_best_88 : decode cX8_best 88 = .ok (.iload_n 3, 1) := by decide +kernel
theorem dX8_best_89 : decode cX8_best 89 = .ok (.ifCond .ne 13, 3) := by decide +kernel
theorem dX8_best_92 : decode cX8_best 92 = .ok (.aload_n 0, 1) := by decide +kernel
theorem dX8_best_93 : decode cX8_best 93 = .ok (.getfield 51, 3) := by decide +kernel
theorem dX8_best_96 : decode cX8_best 96 = .ok (.getfield 194, 3) := by decide +kernel
theorem dX8_best_99 : decode cX8_best 99 = .ok (.goto 10, 3) := by decide +kernel
theorem dX8_best_102 : decode cX8_best 102 = .ok (.aload_n 0, 1) := by decide +kernel
theorem dX8_best_103 : decode cX8_best 103 = .ok (.getfield 51, 3) := by decide +kernel
theorem dX8_best_106 : decode cX8_best 106 = .ok (.getfield 197, 3) := by decide +kernel
theorem dX8_best_109 : decode cX8_best 109 = .ok (.ireturn, 1) := by decide +kernel
theorem dX8_ship_0 : decode cX8_ship 0 = .ok (.iload_n 1, 1) := by decide +kernel
theorem dX8_ship_1 : decode cX8_ship 1 = .ok (.iconst 0, 1) := by decide +kernel
theorem dX8_ship_2 : decode cX8_ship 2 = .ok (.ldc 200, 2) := by decide +kernel
theorem dX8_ship_4 : decode cX8_ship 4 = .ok (.invokestatic 70, 3) := by decide +kernel
theorem dX8_ship_7 : decode cX8_ship 7 = .ok (.ifCond .eq 35, 3) := by decide +kernel
theorem dX8_ship_10 : decode cX8_ship 10 = .ok (.aload_n 0, 1) := by decide +kernel
theorem dX8_ship_11 : decode cX8_ship 11 = .ok (.getfield 12, 3) := by decide +kernel
theorem dX8_ship_14 : decode cX8_ship 14 = .ok (.iload_n 2, 1) := by decide +kernel
theorem dX8_ship_15 : decode cX8_ship 15 = .ok (.invokevirtual 97, 3) := by decide +kernel
theorem dX8_ship_18 : decode cX8_ship 18 = .ok (.ifCond .eq 24, 3) := by decide +kernel
theorem dX8_ship_21 : decode cX8_ship 21 = .ok (.iload_n 3, 1) := by decide +kernel
theorem dX8_ship_22 : decode cX8_ship 22 = .ok (.iconst 0, 1) := by decide +kernel
theorem dX8_ship_23 : decode cX8_ship 23 = .ok (.aload_n 0, 1) := by decide +kernel
theorem dX8_ship_24 : decode cX8_ship 24 = .ok (.getfield 74, 3) := by decide +kernel
theorem dX8_ship_27 : decode cX8_ship 27 = .ok (.invokestatic 70, 3) := by decide +kernel
theorem dX8_ship_30 : decode cX8_ship 30 = .ok (.ifCond .eq 12, 3) := by decide +kernel
theorem dX8_ship_33 : decode cX8_ship 33 = .ok (.aload_n 0, 1) := by decide +kernel
theorem dX8_ship_34 : decode cX8_ship 34 = .ok (.getfield 160, 3) := by decide +kernel
theorem dX8_ship_37 : decode cX8_ship 37 = .ok (.bipush 8, 2) := by decide +kernel
theorem dX8_ship_39 : decode cX8_ship 39 = .ok (.if_icmp .lt 5, 3) := by decide +kernel
theorem dX8_ship_42 : decode cX8_ship 42 = .ok (.iconst (-1), 1) := by decide +kernel
theorem dX8_ship_43 : decode cX8_ship 43 = .ok (.ireturn, 1) := by decide +kernel
theorem dX8_ship_44 : decode cX8_ship 44 = .ok (.aload_n 0, 1) := by decide +kernel
theorem dX8_ship_45 : decode cX8_ship 45 = .ok (.getfield 57, 3) := by decide +kernel
theorem dX8_ship_48 : decode cX8_ship 48 = .ok (.aload_n 0, 1) := by decide +kernel
theorem dX8_ship_49 : decode cX8_ship 49 = .ok (.getfield 160, 3) := by decide +kernel
theorem dX8_ship_52 : decode cX8_ship 52 = .ok (.aaload, 1) := by decide +kernel
theorem dX8_ship_53 : decode cX8_ship 53 = .ok (.astore 4, 2) := by decide +kernel
theorem dX8_ship_55 : decode cX8_ship 55 = .ok (.aload 4, 2) := by decide +kernel
theorem dX8_ship_57 : decode cX8_ship 57 = .ok (.iload_n 1, 1) := by decide +kernel
theorem dX8_ship_58 : decode cX8_ship 58 = .ok (.putfield 201, 3) := by decide +kernel
theorem dX8_ship_61 : decode cX8_ship 61 = .ok (.aload 4, 2) := by decide +kernel
theorem dX8_ship_63 : decode cX8_ship 63 = .ok (.iload_n 2, 1) := by decide +kernel
theorem dX8_ship_64 : decode cX8_ship 64 = .ok (.putfield 204, 3) := by decide +kernel
theorem dX8_ship_67 : decode cX8_ship 67 = .ok (.aload 4, 2) := by decide +kernel
theorem dX8_ship_69 : decode cX8_ship 69 = .ok (.getfield 205, 3) := by decide +kernel
theorem dX8_ship_72 : decode cX8_ship 72 = .ok (.iload_n 2, 1) := by decide +kernel
theorem dX8_ship_73 : decode cX8_ship 73 = .ok (.iconst 1, 1) := by decide +kernel
theorem dX8_ship_74 : decode cX8_ship 74 = .ok (.bastore, 1) := by decide +kernel
theorem dX8_ship_75 : decode cX8_ship 75 = .ok (.iload_n 3, 1) := by decide +kernel
theorem dX8_ship_76 : decode cX8_ship 76 = .ok (.istore 5, 2) := by decide +kernel
theorem dX8_ship_78 : decode cX8_ship 78 = .ok (.iload 5, 2) := by decide +kernel
theorem dX8_ship_80 : decode cX8_ship 80 = .ok (.aload_n 0, 1) := by decide +kernel
theorem dX8_ship_81 : decode cX8_ship 81 = .ok (.getfield 74, 3) := by decide +kernel
theorem dX8_ship_84 : decode cX8_ship 84 = .ok (.if_icmp .ge 17, 3) := by decide +kernel
theorem dX8_ship_87 : decode cX8_ship 87 = .ok (.aload_n 0, 1) := by decide +kernel
theorem dX8_ship_88 : decode cX8_ship 88 = .ok (.aload 4, 2) := by decide +kernel
theorem dX8_ship_90 : decode cX8_ship 90 = .ok (.iload 5, 2) := by decide +kernel
theorem dX8_ship_92 : decode cX8_ship 92 = .ok (.invokevirtual 163, 3) := by decide +kernel
theorem dX8_ship_95 : decode cX8_ship 95 = .ok (.iinc 5 1, 3) := by decide +kernel
theorem dX8_ship_98 : decode cX8_ship 98 = .ok (.goto (-20), 3) := by decide +kernel
theorem dX8_ship_101 : decode cX8_ship 101 = .ok (.aload_n 0, 1) := by decide +kernel
theorem dX8_ship_102 : decode cX8_ship 102 = .ok (.dup, 1) := by decide +kernel
theorem dX8_ship_103 : decode cX8_ship 103 = .ok (.getfield 160, 3) := by decide +kernel
theorem dX8_ship_106 : decode cX8_ship 106 = .ok (.iconst 1, 1) := by decide +kernel
theorem dX8_ship_107 : decode cX8_ship 107 = .ok (.iadd, 1) := by decide +kernel
theorem dX8_ship_108 : decode cX8_ship 108 = .ok (.putfield 160, 3) := by decide +kernel
theorem dX8_ship_111 : decode cX8_ship 111 = .ok (.aload_n 0, 1) := by decide +kernel
theorem dX8_ship_112 : decode cX8_ship 112 = .ok (.getfield 160, 3) := by decide +kernel
theorem dX8_ship_115 : decode cX8_ship 115 = .ok (.iconst 1, 1) := by decide +kernel
theorem dX8_ship_116 : decode cX8_ship 116 = .ok (.isub, 1) := by decide +kernel
theorem dX8_ship_117 : decode cX8_ship 117 = .ok (.ireturn, 1) := by decide +kernel
theorem dX8_could_0 : decode cX8_could 0 = .ok (.iload_n 1, 1) := by decide +kernel
theorem dX8_could_1 : decode cX8_could 1 = .ok (.iconst 0, 1) := by decide +kernel
theorem dX8_could_2 : decode cX8_could 2 = .ok (.aload_n 0, 1) := by decide +kernel
theorem dX8_could_3 : decode cX8_could 3 = .ok (.getfield 160, 3) := by decide +kernel
theorem dX8_could_6 : decode cX8_could 6 = .ok (.iconst 1, 1) := by decide +kernel
theorem dX8_could_7 : decode cX8_could 7 = .ok (.isub, 1) := by decide +kernel
theorem dX8_could_8 : decode cX8_could 8 = .ok (.invokestatic 70, 3) := by decide +kernel
theorem dX8_could_11 : decode cX8_could 11 = .ok (.ifCond .eq 32, 3) := by decide +kernel
theorem dX8_could_14 : decode cX8_could 14 = .ok (.aload_n 0, 1) := by decide +kernel
theorem dX8_could_15 : decode cX8_could 15 = .ok (.getfield 12, 3) := by decide +kernel
theorem dX8_could_18 : decode cX8_could 18 = .ok (.iload_n 2, 1) := by decide +kernel
theorem dX8_could_19 : decode cX8_could 19 = .ok (.invokevirtual 97, 3) := by decide +kernel
theorem dX8_could_22 : decode cX8_could 22 = .ok (.ifCond .eq 21, 3) := by decide +kernel
theorem dX8_could_25 : decode cX8_could 25 = .ok (.aload_n 0, 1) := by decide +kernel
theorem dX8_could_26 : decode cX8_could 26 = .ok (.getfield 57, 3) := by decide +kernel
theorem dX8_could_29 : decode cX8_could 29 = .ok (.iload_n 1, 1) := by decide +kernel
theorem dX8_could_30 : decode cX8_could 30 = .ok (.aaload, 1) := by decide +kernel
theorem dX8_could_31 : decode cX8_could 31 = .ok (.getfield 205, 3) := by decide +kernel
theorem dX8_could_34 : decode cX8_could 34 = .ok (.iload_n 2, 1) := by decide +kernel
theorem dX8_could_35 : decode cX8_could 35 = .ok (.baload, 1) := by decide +kernel
theorem dX8_could_36 : decode cX8_could 36 = .ok (.ifCond .eq 7, 3) := by decide +kernel
theorem dX8_could_39 : decode cX8_could 39 = .ok (.iconst 1, 1) := by decide +kernel
theorem dX8_could_40 : decode cX8_could 40 = .ok (.goto 4, 3) := by decide +kernel
theorem dX8_could_43 : decode cX8_could 43 = .ok (.iconst 0, 1) := by decide +kernel
theorem dX8_could_44 : decode cX8_could 44 = .ok (.ireturn, 1) := by decide +kernel
theorem dX8_sample_0 : decode cX8_sample 0 = .ok (.aload_n 0, 1) := by decide +kernel
theorem dX8_sample_1 : decode cX8_sample 1 = .ok (.getfield 12, 3) := by decide +kernel
theorem dX8_sample_4 : decode cX8_sample 4 = .ok (.iload_n 1, 1) := by decide +kernel
theorem dX8_sample_5 : decode cX8_sample 5 = .ok (.invokevirtual 97, 3) := by decide +kernel
theorem dX8_sample_8 : decode cX8_sample 8 = .ok (.ifCond .eq 13, 3) := by decide +kernel
theorem dX8_sample_11 : decode cX8_sample 11 = .ok (.iload_n 2, 1) := by decide +kernel
theorem dX8_sample_12 : decode cX8_sample 12 = .ok (.iconst 0, 1) := by decide +kernel
theorem dX8_sample_13 : decode cX8_sample 13 = .ok (.ldc 200, 2) := by decide +kernel
theorem dX8_sample_15 : decode cX8_sample 15 = .ok (.invokestatic 70, 3) := by decide +kernel
theorem dX8_sample_18 : decode cX8_sample 18 = .ok (.ifCond .ne 5, 3) := by decide +kernel
theorem dX8_sample_21 : decode cX8_sample 21 = .ok (.iconst (-1), 1) := by decide +kernel
theorem dX8_sample_22 : decode cX8_sample 22 = .ok (.ireturn, 1) := by decide +kernel
theorem dX8_sample_23 : decode cX8_sample 23 = .ok (.iconst (-1), 1) := by decide +kernel
theorem dX8_sample_24 : decode cX8_sample 24 = .ok (.istore_n 3, 1) := by decide +kernel
theorem dX8_sample_25 : decode cX8_sample 25 = .ok (.iconst 0, 1) := by decide +kernel
theorem dX8_sample_26 : decode cX8_sample 26 = .ok (.istore 4, 2) := by decide +kernel
theorem dX8_sample_28 : decode cX8_sample 28 = .ok (.iconst 0, 1) := by decide +kernel
theorem dX8_sample_29 : decode cX8_sample 29 = .ok (.istore 5, 2) := by decide +kernel
theorem dX8_sample_31 : decode cX8_sample 31 = .ok (.iload 5, 2) := by decide +kernel
theorem dX8_sample_33 : decode cX8_sample 33 = .ok (.aload_n 0, 1) := by decide +kernel
theorem dX8_sample_34 : decode cX8_sample 34 = .ok (.getfield 160, 3) := by decide +kernel
theorem dX8_sample_37 : decode cX8_sample 37 = .ok (.if_icmp .ge 59, 3) := by decide +kernel
theorem dX8_sample_40 : decode cX8_sample 40 = .ok (.aload_n 0, 1) := by decide +kernel
theorem dX8_sample_41 : decode cX8_sample 41 = .ok (.getfield 57, 3) := by decide +kernel
theorem dX8_sample_44 : decode cX8_sample 44 = .ok (.iload 5, 2) := by decide +kernel
theorem dX8_sample_46 : decode cX8_sample 46 = .ok (.aaload, 1) := by decide +kernel
theorem dX8_sample_47 : decode cX8_sample 47 = .ok (.getfield 201, 3) := by decide +kernel
theorem dX8_sample_50 : decode cX8_sample 50 = .ok (.iload_n 2, 1) := by decide +kernel
theorem dX8_sample_51 : decode cX8_sample 51 = .ok (.invokestatic 209, 3) := by decide +kernel
theorem dX8_sample_54 : decode cX8_sample 54 = .ok (.istore 6, 2) := by decide +kernel
theorem dX8_sample_56 : decode cX8_sample 56 = .ok (.aload_n 0, 1) := by decide +kernel
theorem dX8_sample_57 : decode cX8_sample 57 = .ok (.getfield 57, 3) := by decide +kernel
theorem dX8_sample_60 : decode cX8_sample 60 = .ok (.iload 5, 2) := by decide +kernel
theorem dX8_sample_62 : decode cX8_sample 62 = .ok (.aaload, 1) := by decide +kernel
theorem dX8_sample_63 : decode cX8_sample 63 = .ok (.getfield 205, 3) := by decide +kernel
theorem dX8_sample_66 : decode cX8_sample 66 = .ok (.iload_n 1, 1) := by decide +kernel
theorem dX8_sample_67 : decode cX8_sample 67 = .ok (.baload, 1) := by decide +kernel
theorem dX8_sample_68 : decode cX8_sample 68 = .ok (.ifCond .eq 22, 3) := by decide +kernel
theorem dX8_sample_71 : decode cX8_sample 71 = .ok (.iload_n 3, 1) := by decide +kernel
theorem dX8_sample_72 : decode cX8_sample 72 = .ok (.iconst (-1), 1) := by decide +kernel
theorem dX8_sample_73 : decode cX8_sample 73 = .ok (.if_icmp .eq 10, 3) := by decide +kernel
theorem dX8_sample_76 : decode cX8_sample 76 = .ok (.iload 6, 2) := by decide +kernel
theorem dX8_sample_78 : decode cX8_sample 78 = .ok (.iload 4, 2) := by decide +kernel
theorem dX8_sample_80 : decode cX8_sample 80 = .ok (.if_icmp .ge 10, 3) := by decide +kernel
theorem dX8_sample_83 : decode cX8_sample 83 = .ok (.iload 5, 2) := by decide +kernel
theorem dX8_sample_85 : decode cX8_sample 85 = .ok (.istore_n 3, 1) := by decide +kernel
theorem dX8_sample_86 : decode cX8_sample 86 = .ok (.iload 6, 2) := by decide +kernel
theorem dX8_sample_88 : decode cX8_sample 88 = .ok (.istore 4, 2) := by decide +kernel
theorem dX8_sample_90 : decode cX8_sample 90 = .ok (.iinc 5 1, 3) := by decide +kernel
theorem dX8_sample_93 : decode cX8_sample 93 = .ok (.goto (-62), 3) := by decide +kernel
theorem dX8_sample_96 : decode cX8_sample 96 = .ok (.aload_n 0, 1) := by decide +kernel
theorem dX8_sample_97 : decode cX8_sample 97 = .ok (.iload_n 3, 1) := by decide +kernel
theorem dX8_sample_98 : decode cX8_sample 98 = .ok (.iload 4, 2) := by decide +kernel
theorem dX8_sample_100 : decode cX8_sample 100 = .ok (.iconst 5, 1) := by decide +kernel
theorem dX8_sample_101 : decode cX8_sample 101 = .ok (.iadd, 1) := by decide +kernel
theorem dX8_sample_102 : decode cX8_sample 102 = .ok (.iload_n 1, 1) := by decide +kernel
theorem dX8_sample_103 : decode cX8_sample 103 = .ok (.iload_n 2, 1) := by decide +kernel
theorem dX8_sample_104 : decode cX8_sample 104 = .ok (.invokevirtual 212, 3) := by decide +kernel
theorem dX8_sample_107 : decode cX8_sample 107 = .ok (.ifCond .eq 8, 3) := by decide +kernel
theorem dX8_sample_110 : decode cX8_sample 110 = .ok (.bipush (-2), 2) := by decide +kernel
theorem dX8_sample_112 : decode cX8_sample 112 = .ok (.goto 4, 3) := by decide +kernel
theorem dX8_sample_115 : decode cX8_sample 115 = .ok (.iload_n 3, 1) := by decide +kernel
theorem dX8_sample_116 : decode cX8_sample 116 = .ok (.ireturn, 1) := by decide +kernel
theorem dX8_part_0 : decode cX8_part 0 = .ok (.iload_n 1, 1) := by decide +kernel
theorem dX8_part_1 : decode cX8_part 1 = .ok (.iconst 0, 1) := by decide +kernel
theorem dX8_part_2 : decode cX8_part 2 = .ok (.iconst 3, 1) := by decide +kernel
theorem dX8_part_3 : decode cX8_part 3 = .ok (.invokestatic 70, 3) := by decide +kernel
theorem dX8_part_6 : decode cX8_part 6 = .ok (.ifCond .eq 13, 3) := by decide +kernel
theorem dX8_part_9 : decode cX8_part 9 = .ok (.iload_n 2, 1) := by decide +kernel
theorem dX8_part_10 : decode cX8_part 10 = .ok (.iconst 0, 1) := by decide +kernel
theorem dX8_part_11 : decode cX8_part 11 = .ok (.bipush 100, 2) := by decide +kernel
theorem dX8_part_13 : decode cX8_part 13 = .ok (.invokestatic 70, 3) := by decide +kernel
theorem dX8_part_16 : decode cX8_part 16 = .ok (.ifCond .ne 5, 3) := by decide +kernel
theorem dX8_part_19 : decode cX8_part 19 = .ok (.iconst 0, 1) := by decide +kernel
theorem dX8_part_20 : decode cX8_part 20 = .ok (.ireturn, 1) := by decide +kernel
theorem dX8_part_21 : decode cX8_part 21 = .ok (.aload_n 0, 1) := by decide +kernel
theorem dX8_part_22 : decode cX8_part 22 = .ok (.getfield 62, 3) := by decide +kernel
theorem dX8_part_25 : decode cX8_part 25 = .ok (.iload_n 1, 1) := by decide +kernel
theorem dX8_part_26 : decode cX8_part 26 = .ok (.iload_n 2, 1) := by decide +kernel
theorem dX8_part_27 : decode cX8_part 27 = .ok (.iastore, 1) := by decide +kernel
theorem dX8_part_28 : decode cX8_part 28 = .ok (.iconst 1, 1) := by decide +kernel
theorem dX8_part_29 : decode cX8_part 29 = .ok (.ireturn, 1) := by decide +kernel
theorem dX8_bill_0 : decode cX8_bill 0 = .ok (.iload_n 1, 1) := by decide +kernel
theorem dX8_bill_1 : decode cX8_bill 1 = .ok (.iconst 0, 1) := by decide +kernel
theorem dX8_bill_2 : decode cX8_bill 2 = .ok (.iconst 3, 1) := by decide +kernel
theorem dX8_bill_3 : decode cX8_bill 3 = .ok (.invokestatic 70, 3) := by decide +kernel
theorem dX8_bill_6 : decode cX8_bill 6 = .ok (.ifCond .ne 5, 3) := by decide +kernel
theorem dX8_bill_9 : decode cX8_bill 9 = .ok (.iconst (-1), 1) := by decide +kernel
theorem dX8_bill_10 : decode cX8_bill 10 = .ok (.ireturn, 1) := by decide +kernel
theorem dX8_bill_11 : decode cX8_bill 11 = .ok (.iconst 0, 1) := by decide +kernel
theorem dX8_bill_12 : decode cX8_bill 12 = .ok (.istore_n 2, 1) := by decide +kernel
theorem dX8_bill_13 : decode cX8_bill 13 = .ok (.iconst 0, 1) := by decide +kernel
theorem dX8_bill_14 : decode cX8_bill 14 = .ok (.istore_n 3, 1) := by decide +kernel
theorem dX8_bill_15 : decode cX8_bill 15 = .ok (.iload_n 3, 1) := by decide +kernel
theorem dX8_bill_16 : decode cX8_bill 16 = .ok (.iconst 4, 1) := by decide +kernel
theorem dX8_bill_17 : decode cX8_bill 17 = .ok (.if_icmp .ge 18, 3) := by decide +kernel
theorem dX8_bill_20 : decode cX8_bill 20 = .ok (.iload_n 2, 1) := by decide +kernel
theorem dX8_bill_21 : decode cX8_bill 21 = .ok (.aload_n 0, 1) := by decide +kernel
theorem dX8_bill_22 : decode cX8_bill 22 = .ok (.getfield 62, 3) := by decide +kernel
theorem dX8_bill_25 : decode cX8_bill 25 = .ok (.iload_n 3, 1) := by decide +kernel
theorem dX8_bill_26 : decode cX8_bill 26 = .ok (.iaload, 1) := by decide +kernel
theorem dX8_bill_27 : decode cX8_bill 27 = .ok (.iadd, 1) := by decide +kernel
theorem dX8_bill_28 : decode cX8_bill 28 = .ok (.istore_n 2, 1) := by decide +kernel
theorem dX8_bill_29 : decode cX8_bill 29 = .ok (.iinc 3 1, 3) := by decide +kernel
theorem dX8_bill_32 : decode cX8_bill 32 = .ok (.goto (-17), 3) := by decide +kernel
theorem dX8_bill_35 : decode cX8_bill 35 = .ok (.aload_n 0, 1) := by decide +kernel
theorem dX8_bill_36 : decode cX8_bill 36 = .ok (.iload_n 1, 1) := by decide +kernel
theorem dX8_bill_37 : decode cX8_bill 37 = .ok (.aload_n 0, 1) := by decide +kernel
theorem dX8_bill_38 : decode cX8_bill 38 = .ok (.invokevirtual 216, 3) := by decide +kernel
theorem dX8_bill_41 : decode cX8_bill 41 = .ok (.iload_n 2, 1) := by decide +kernel
theorem dX8_bill_42 : decode cX8_bill 42 = .ok (.invokevirtual 220, 3) := by decide +kernel
theorem dX8_bill_45 : decode cX8_bill 45 = .ok (.ireturn, 1) := by decide +kernel
theorem dX8_told_0 : decode cX8_told 0 = .ok (.aload_n 0, 1) := by decide +kernel
theorem dX8_told_1 : decode cX8_told 1 = .ok (.getfield 33, 3) := by decide +kernel
theorem dX8_told_4 : decode cX8_told 4 = .ok (.iload_n 1, 1) := by decide +kernel
theorem dX8_told_5 : decode cX8_told 5 = .ok (.invokevirtual 123, 3) := by decide +kernel
theorem dX8_told_8 : decode cX8_told 8 = .ok (.ifCond .ne 5, 3) := by decide +kernel
theorem dX8_told_11 : decode cX8_told 11 = .ok (.iconst (-1), 1) := by decide +kernel
theorem dX8_told_12 : decode cX8_told 12 = .ok (.ireturn, 1) := by decide +kernel
theorem dX8_told_13 : decode cX8_told 13 = .ok (.aload_n 0, 1) := by decide +kernel
theorem dX8_told_14 : decode cX8_told 14 = .ok (.getfield 33, 3) := by decide +kernel
theorem dX8_told_17 : decode cX8_told 17 = .ok (.getfield 126, 3) := by decide +kernel
theorem dX8_told_20 : decode cX8_told 20 = .ok (.iload_n 1, 1) := by decide +kernel
theorem dX8_told_21 : decode cX8_told 21 = .ok (.aaload, 1) := by decide +kernel
theorem dX8_told_22 : decode cX8_told 22 = .ok (.astore_n 3, 1) := by decide +kernel
theorem dX8_told_23 : decode cX8_told 23 = .ok (.iload_n 2, 1) := by decide +kernel
theorem dX8_told_24 : decode cX8_told 24 = .ok (.tableswitch 75 0 3 #[32, 37, 47, 62], 32) := by decide +kernel
theorem dX8_told_56 : decode cX8_told 56 = .ok (.aload_n 3, 1) := by decide +kernel
theorem dX8_told_57 : decode cX8_told 57 = .ok (.getfield 136, 3) := by decide +kernel
theorem dX8_told_60 : decode cX8_told 60 = .ok (.ireturn, 1) := by decide +kernel
theorem dX8_told_61 : decode cX8_told 61 = .ok (.aload_n 0, 1) := by decide +kernel
theorem dX8_told_62 : decode cX8_told 62 = .ok (.getfield 40, 3) := by decide +kernel
theorem dX8_told_65 : decode cX8_told 65 = .ok (.getfield 145, 3) := by decide +kernel
theorem dX8_told_68 : decode cX8_told 68 = .ok (.iload_n 1, 1) := by decide +kernel
theorem dX8_told_69 : decode cX8_told 69 = .ok (.iaload, 1) := by decide +kernel
theorem dX8_told_70 : decode cX8_told 70 = .ok (.ireturn, 1) := by decide +kernel
theorem dX8_told_71 : decode cX8_told 71 = .ok (.aload_n 3, 1) := by decide +kernel
theorem dX8_told_72 : decode cX8_told 72 = .ok (.getfield 148, 3) := by decide +kernel
theorem dX8_told_75 : decode cX8_told 75 = .ok (.aload_n 0, 1) := by decide +kernel
theorem dX8_told_76 : decode cX8_told 76 = .ok (.getfield 40, 3) := by decide +kernel
theorem dX8_told_79 : decode cX8_told 79 = .ok (.getfield 145, 3) := by decide +kernel
theorem dX8_told_82 : decode cX8_told 82 = .ok (.iload_n 1, 1) := by decide +kernel
theorem dX8_told_83 : decode cX8_told 83 = .ok (.iaload, 1) := by decide +kernel
theorem dX8_told_84 : decode cX8_told 84 = .ok (.iadd, 1) := by decide +kernel
theorem dX8_told_85 : decode cX8_told 85 = .ok (.ireturn, 1) := by decide +kernel
theorem dX8_told_86 : decode cX8_told 86 = .ok (.aload_n 3, 1) := by decide +kernel
theorem dX8_told_87 : decode cX8_told 87 = .ok (.getfield 130, 3) := by decide +kernel
theorem dX8_told_90 : decode cX8_told 90 = .ok (.ifCond .eq 7, 3) := by decide +kernel
theorem dX8_told_93 : decode cX8_told 93 = .ok (.iconst 1, 1) := by decide +kernel
theorem dX8_told_94 : decode cX8_told 94 = .ok (.goto 4, 3) := by decide +kernel
theorem dX8_told_97 : decode cX8_told 97 = .ok (.iconst 0, 1) := by decide +kernel
theorem dX8_told_98 : decode cX8_told 98 = .ok (.ireturn, 1) := by decide +kernel
theorem dX8_told_99 : decode cX8_told 99 = .ok (.iconst (-1), 1) := by decide +kernel
theorem dX8_told_100 : decode cX8_told 100 = .ok (.ireturn, 1) := by decide +kernel
theorem dX8_count_0 : decode cX8_count 0 = .ok (.iload_n 1, 1) := by decide +kernel
theorem dX8_count_1 : decode cX8_count 1 = .ok (.tableswitch 135 0 10 #[59, 64, 69, 78, 86, 95, 103, 108, 117, 122, 130], 59) := by decide +kernel
theorem dX8_count_60 : decode cX8_count 60 = .ok (.aload_n 0, 1) := by decide +kernel
theorem dX8_count_61 : decode cX8_count 61 = .ok (.getfield 74, 3) := by decide +kernel
theorem dX8_count_64 : decode cX8_count 64 = .ok (.ireturn, 1) := by decide +kernel
theorem dX8_count_65 : decode cX8_count 65 = .ok (.aload_n 0, 1) := by decide +kernel
theorem dX8_count_66 : decode cX8_count 66 = .ok (.getfield 112, 3) := by decide +kernel
theorem dX8_count_69 : decode cX8_count 69 = .ok (.ireturn, 1) := by decide +kernel
theorem dX8_count_70 : decode cX8_count 70 = .ok (.aload_n 0, 1) := by decide +kernel
theorem dX8_count_71 : decode cX8_count 71 = .ok (.aload_n 0, 1) := by decide +kernel
theorem dX8_count_72 : decode cX8_count 72 = .ok (.getfield 40, 3) := by decide +kernel
theorem dX8_count_75 : decode cX8_count 75 = .ok (.invokevirtual 223, 3) := by decide +kernel
theorem dX8_count_78 : decode cX8_count 78 = .ok (.ireturn, 1) := by decide +kernel
theorem dX8_count_79 : decode cX8_count 79 = .ok (.aload_n 0, 1) := by decide +kernel
theorem dX8_count_80 : decode cX8_count 80 = .ok (.getfield 40, 3) := by decide +kernel
theorem dX8_count_83 : decode cX8_count 83 = .ok (.getfield 227, 3) := by decide +kernel
theorem dX8_count_86 : decode cX8_count 86 = .ok (.ireturn, 1) := by decide +kernel
theorem dX8_count_87 : decode cX8_count 87 = .ok (.aload_n 0, 1) := by decide +kernel
theorem dX8_count_88 : decode cX8_count 88 = .ok (.aload_n 0, 1) := by decide +kernel
theorem dX8_count_89 : decode cX8_count 89 = .ok (.getfield 40, 3) := by decide +kernel
theorem dX8_count_92 : decode cX8_count 92 = .ok (.invokevirtual 230, 3) := by decide +kernel
theorem dX8_count_95 : decode cX8_count 95 = .ok (.ireturn, 1) := by decide +kernel
theorem dX8_count_96 : decode cX8_count 96 = .ok (.aload_n 0, 1) := by decide +kernel
theorem dX8_count_97 : decode cX8_count 97 = .ok (.getfield 40, 3) := by decide +kernel
theorem dX8_count_100 : decode cX8_count 100 = .ok (.getfield 233, 3) := by decide +kernel
theorem dX8_count_103 : decode cX8_count 103 = .ok (.ireturn, 1) := by decide +kernel
theorem dX8_count_104 : decode cX8_count 104 = .ok (.aload_n 0, 1) := by decide +kernel
theorem dX8_count_105 : decode cX8_count 105 = .ok (.invokevirtual 236, 3) := by decide +kernel
theorem dX8_count_108 : decode cX8_count 108 = .ok (.ireturn, 1) := by decide +kernel
theorem dX8_count_109 : decode cX8_count 109 = .ok (.aload_n 0, 1) := by decide +kernel
theorem dX8_count_110 : decode cX8_count 110 = .ok (.aload_n 0, 1) := by decide +kernel
theorem dX8_count_111 : decode cX8_count 111 = .ok (.getfield 40, 3) := by decide +kernel
theorem dX8_count_114 : decode cX8_count 114 = .ok (.invokevirtual 239, 3) := by decide +kernel
theorem dX8_count_117 : decode cX8_count 117 = .ok (.ireturn, 1) := by decide +kernel
theorem dX8_count_118 : decode cX8_count 118 = .ok (.aload_n 0, 1) := by decide +kernel
theorem dX8_count_119 : decode cX8_count 119 = .ok (.invokevirtual 216, 3) := by decide +kernel
theorem dX8_count_122 : decode cX8_count 122 = .ok (.ireturn, 1) := by decide +kernel
theorem dX8_count_123 : decode cX8_count 123 = .ok (.aload_n 0, 1) := by decide +kernel
theorem dX8_count_124 : decode cX8_count 124 = .ok (.getfield 19, 3) := by decide +kernel
theorem dX8_count_127 : decode cX8_count 127 = .ok (.getfield 242, 3) := by decide +kernel
theorem dX8_count_130 : decode cX8_count 130 = .ok (.ireturn, 1) := by decide +kernel
theorem dX8_count_131 : decode cX8_count 131 = .ok (.aload_n 0, 1) := by decide +kernel
theorem dX8_count_132 : decode cX8_count 132 = .ok (.getfield 160, 3) := by decide +kernel
theorem dX8_count_135 : decode cX8_count 135 = .ok (.ireturn, 1) := by decide +kernel
theorem dX8_count_136 : decode cX8_count 136 = .ok (.iconst (-1), 1) := by decide +kernel
theorem dX8_count_137 : decode cX8_count 137 = .ok (.ireturn, 1) := by decide +kernel
theorem dX8_isWithin_0 : decode cX8_isWithin 0 = .ok (.iload_n 0, 1) := by decide +kernel
theorem dX8_isWithin_1 : decode cX8_isWithin 1 = .ok (.iload_n 1, 1) := by decide +kernel
theorem dX8_isWithin_2 : decode cX8_isWithin 2 = .ok (.if_icmp .lt 12, 3) := by decide +kernel
theorem dX8_isWithin_5 : decode cX8_isWithin 5 = .ok (.iload_n 0, 1) := by decide +kernel
theorem dX8_isWithin_6 : decode cX8_isWithin 6 = .ok (.iload_n 2, 1) := by decide +kernel
theorem dX8_isWithin_7 : decode cX8_isWithin 7 = .ok (.if_icmp .gt 7, 3) := by decide +kernel
theorem dX8_isWithin_10 : decode cX8_isWithin 10 = .ok (.iconst 1, 1) := by decide +kernel
theorem dX8_isWithin_11 : decode cX8_isWithin 11 = .ok (.goto 4, 3) := by decide +kernel
theorem dX8_isWithin_14 : decode cX8_isWithin 14 = .ok (.iconst 0, 1) := by decide +kernel
theorem dX8_isWithin_15 : decode cX8_isWithin 15 = .ok (.ireturn, 1) := by decide +kernel
theorem dX8_passHour_0 : decode cX8_passHour 0 = .ok (.aload_n 0, 1) := by decide +kernel
theorem dX8_passHour_1 : decode cX8_passHour 1 = .ok (.aload_n 1, 1) := by decide +kernel
theorem dX8_passHour_2 : decode cX8_passHour 2 = .ok (.iload_n 2, 1) := by decide +kernel
theorem dX8_passHour_3 : decode cX8_passHour 3 = .ok (.iload_n 3, 1) := by decide +kernel
theorem dX8_passHour_4 : decode cX8_passHour 4 = .ok (.invokevirtual 243, 3) := by decide +kernel
theorem dX8_passHour_7 : decode cX8_passHour 7 = .ok (.aload_n 0, 1) := by decide +kernel
theorem dX8_passHour_8 : decode cX8_passHour 8 = .ok (.getfield 33, 3) := by decide +kernel
theorem dX8_passHour_11 : decode cX8_passHour 11 = .ok (.aload_n 1, 1) := by decide +kernel
theorem dX8_passHour_12 : decode cX8_passHour 12 = .ok (.iconst 0, 1) := by decide +kernel
theorem dX8_passHour_13 : decode cX8_passHour 13 = .ok (.aload_n 0, 1) := by decide +kernel
theorem dX8_passHour_14 : decode cX8_passHour 14 = .ok (.getfield 33, 3) := by decide +kernel
theorem dX8_passHour_17 : decode cX8_passHour 17 = .ok (.getfield 170, 3) := by decide +kernel
theorem dX8_passHour_20 : decode cX8_passHour 20 = .ok (.invokevirtual 246, 3) := by decide +kernel
theorem dX8_passHour_23 : decode cX8_passHour 23 = .ok (.return_, 1) := by decide +kernel
theorem dX8_driftAndLose_0 : decode cX8_driftAndLose 0 = .ok (.aload_n 0, 1) := by decide +kernel
theorem dX8_driftAndLose_1 : decode cX8_driftAndLose 1 = .ok (.getfield 26, 3) := by decide +kernel
theorem dX8_driftAndLose_4 : decode cX8_driftAndLose 4 = .ok (.iload_n 2, 1) := by decide +kernel
theorem dX8_driftAndLose_5 : decode cX8_driftAndLose 5 = .ok (.iload_n 3, 1) := by decide +kernel
theorem dX8_driftAndLose_6 : decode cX8_driftAndLose 6 = .ok (.invokevirtual 249, 3) := by decide +kernel
theorem dX8_driftAndLose_9 : decode cX8_driftAndLose 9 = .ok (.istore 4, 2) := by decide +kernel
theorem dX8_driftAndLose_11 : decode cX8_driftAndLose 11 = .ok (.iload 4, 2) := by decide +kernel
theorem dX8_driftAndLose_13 : decode cX8_driftAndLose 13 = .ok (.ifCond .eq 19, 3) := by decide +kernel
theorem dX8_driftAndLose_16 : decode cX8_driftAndLose 16 = .ok (.aload_n 0, 1) := by decide +kernel
theorem dX8_driftAndLose_17 : decode cX8_driftAndLose 17 = .ok (.aload_n 1, 1) := by decide +kernel
theorem dX8_driftAndLose_18 : decode cX8_driftAndLose 18 = .ok (.iload 4, 2) := by decide +kernel
theorem dX8_driftAndLose_20 : decode cX8_driftAndLose 20 = .ok (.aload_n 0, 1) := by decide +kernel
theorem dX8_driftAndLose_21 : decode cX8_driftAndLose 21 = .ok (.getfield 26, 3) := by decide +kernel
theorem dX8_driftAndLose_24 : decode cX8_driftAndLose 24 = .ok (.iload_n 2, 1) := by decide +kernel
theorem dX8_driftAndLose_25 : decode cX8_driftAndLose 25 = .ok (.iload_n 3, 1) := by decide +kernel
theorem dX8_driftAndLose_26 : decode cX8_driftAndLose 26 = .ok (.invokevirtual 252, 3) := by decide +kernel
theorem dX8_driftAndLose_29 : decode cX8_driftAndLose 29 = .ok (.invokevirtual 255, 3) := by decide +kernel
theorem dX8_driftAndLose_32 : decode cX8_driftAndLose 32 = .ok (.aload_n 0, 1) := by decide +kernel
theorem dX8_driftAndLose_33 : decode cX8_driftAndLose 33 = .ok (.aload_n 1, 1) := by decide +kernel
theorem dX8_driftAndLose_34 : decode cX8_driftAndLose 34 = .ok (.iload_n 3, 1) := by decide +kernel
theorem dX8_driftAndLose_35 : decode cX8_driftAndLose 35 = .ok (.aload_n 0, 1) := by decide +kernel
theorem dX8_driftAndLose_36 : decode cX8_driftAndLose 36 = .ok (.getfield 116, 3) := by decide +kernel
theorem dX8_driftAndLose_39 : decode cX8_driftAndLose 39 = .ok (.isub, 1) := by decide +kernel
theorem dX8_driftAndLose_40 : decode cX8_driftAndLose 40 = .ok (.invokevirtual 258, 3) := by decide +kernel
theorem dX8_driftAndLose_43 : decode cX8_driftAndLose 43 = .ok (.return_, 1) := by decide +kernel
theorem dX8_driftAll_0 : decode cX8_driftAll 0 = .ok (.iconst 0, 1) := by decide +kernel
theorem dX8_driftAll_1 : decode cX8_driftAll 1 = .ok (.istore 4, 2) := by decide +kernel
theorem dX8_driftAll_3 : decode cX8_driftAll 3 = .ok (.iload 4, 2) := by decide +kernel
theorem dX8_driftAll_5 : decode cX8_driftAll 5 = .ok (.bipush 96, 2) := by decide +kernel
theorem dX8_driftAll_7 : decode cX8_driftAll 7 = .ok (.if_icmp .ge 38, 3) := by decide +kernel
theorem dX8_driftAll_10 : decode cX8_driftAll 10 = .ok (.iload 4, 2) := by decide +kernel
theorem dX8_driftAll_12 : decode cX8_driftAll 12 = .ok (.iload_n 2, 1) := by decide +kernel
theorem dX8_driftAll_13 : decode cX8_driftAll 13 = .ok (.invokestatic 262, 3) := by decide +kernel
theorem dX8_driftAll_16 : decode cX8_driftAll 16 = .ok (.istore 5, 2) := by decide +kernel
theorem dX8_driftAll_18 : decode cX8_driftAll 18 = .ok (.aload_n 0, 1) := by decide +kernel
theorem dX8_driftAll_19 : decode cX8_driftAll 19 = .ok (.getfield 12, 3) := by decide +kernel
theorem dX8_driftAll_22 : decode cX8_driftAll 22 = .ok (.iload 5, 2) := by decide +kernel
theorem dX8_driftAll_24 : decode cX8_driftAll 24 = .ok (.invokevirtual 97, 3) := by decide +kernel
theorem dX8_driftAll_27 : decode cX8_driftAll 27 = .ok (.ifCond .eq 12, 3) := by decide +kernel
theorem dX8_driftAll_30 : decode cX8_driftAll 30 = .ok (.aload_n 0, 1) := by decide +kernel
theorem dX8_driftAll_31 : decode cX8_driftAll 31 = .ok (.aload_n 1, 1) := by decide +kernel
theorem dX8_driftAll_32 : decode cX8_driftAll 32 = .ok (.iload 5, 2) := by decide +kernel
theorem dX8_driftAll_34 : decode cX8_driftAll 34 = .ok (.iload_n 2, 1) := by decide +kernel
theorem dX8_driftAll_35 : decode cX8_driftAll 35 = .ok (.iload_n 3, 1) := by decide +kernel
theorem dX8_driftAll_36 : decode cX8_driftAll 36 = .ok (.invokevirtual 265, 3) := by decide +kernel
theorem dX8_driftAll_39 : decode cX8_driftAll 39 = .ok (.iinc 4 1, 3) := by decide +kernel
theorem dX8_driftAll_42 : decode cX8_driftAll 42 = .ok (.goto (-39), 3) := by decide +kernel
theorem dX8_driftAll_45 : decode cX8_driftAll 45 = .ok (.return_, 1) := by decide +kernel
theorem dX8_cellAtTurn_0 : decode cX8_cellAtTurn 0 = .ok (.iload_n 1, 1) := by decide +kernel
theorem dX8_cellAtTurn_1 : decode cX8_cellAtTurn 1 = .ok (.iconst 2, 1) := by decide +kernel
theorem dX8_cellAtTurn_2 : decode cX8_cellAtTurn 2 = .ok (.if_icmp .eq 8, 3) := by decide +kernel
theorem dX8_cellAtTurn_5 : decode cX8_cellAtTurn 5 = .ok (.iload_n 1, 1) := by decide +kernel
theorem dX8_cellAtTurn_6 : decode cX8_cellAtTurn 6 = .ok (.iconst 3, 1) := by decide +kernel
theorem dX8_cellAtTurn_7 : decode cX8_cellAtTurn 7 = .ok (.if_icmp .ne 10, 3) := by decide +kernel
theorem dX8_cellAtTurn_10 : decode cX8_cellAtTurn 10 = .ok (.bipush 95, 2) := by decide +kernel
theorem dX8_cellAtTurn_12 : decode cX8_cellAtTurn 12 = .ok (.iload_n 0, 1) := by decide +kernel
theorem dX8_cellAtTurn_13 : decode cX8_cellAtTurn 13 = .ok (.isub, 1) := by decide +kernel
theorem dX8_cellAtTurn_14 : decode cX8_cellAtTurn 14 = .ok (.goto 4, 3) := by decide +kernel
theorem dX8_cellAtTurn_17 : decode cX8_cellAtTurn 17 = .ok (.iload_n 0, 1) := by decide +kernel
theorem dX8_cellAtTurn_18 : decode cX8_cellAtTurn 18 = .ok (.ireturn, 1) := by decide +kernel
theorem dX8_driftFrom_0 : decode cX8_driftFrom 0 = .ok (.aload_n 1, 1) := by decide +kernel
theorem dX8_driftFrom_1 : decode cX8_driftFrom 1 = .ok (.getfield 78, 3) := by decide +kernel
theorem dX8_driftFrom_4 : decode cX8_driftFrom 4 = .ok (.iload_n 2, 1) := by decide +kernel
theorem dX8_driftFrom_5 : decode cX8_driftFrom 5 = .ok (.iaload, 1) := by decide +kernel
theorem dX8_driftFrom_6 : decode cX8_driftFrom 6 = .ok (.iconst 2, 1) := by decide +kernel
theorem dX8_driftFrom_7 : decode cX8_driftFrom 7 = .ok (.idiv, 1) := by decide +kernel
theorem dX8_driftFrom_8 : decode cX8_driftFrom 8 = .ok (.istore 5, 2) := by decide +kernel
theorem dX8_driftFrom_10 : decode cX8_driftFrom 10 = .ok (.iload 5, 2) := by decide +kernel
theorem dX8_driftFrom_12 : decode cX8_driftFrom 12 = .ok (.ifCond .ne 4, 3) := by decide +kernel
theorem dX8_driftFrom_15 : decode cX8_driftFrom 15 = .ok (.return_, 1) := by decide +kernel
theorem dX8_driftFrom_16 : decode cX8_driftFrom 16 = .ok (.iload_n 2, 1) := by decide +kernel
theorem dX8_driftFrom_17 : decode cX8_driftFrom 17 = .ok (.iload_n 3, 1) := by decide +kernel
theorem dX8_driftFrom_18 : decode cX8_driftFrom 18 = .ok (.invokestatic 269, 3) := by decide +kernel
theorem dX8_driftFrom_21 : decode cX8_driftFrom 21 = .ok (.istore 6, 2) := by decide +kernel
theorem dX8_driftFrom_23 : decode cX8_driftFrom 23 = .ok (.iload 6, 2) := by decide +kernel
theorem dX8_driftFrom_25 : decode cX8_driftFrom 25 = .ok (.iconst (-1), 1) := by decide +kernel
theorem dX8_driftFrom_26 : decode cX8_driftFrom 26 = .ok (.if_icmp .ne 17, 3) := by decide +kernel
theorem dX8_driftFrom_29 : decode cX8_driftFrom 29 = .ok (.aload_n 1, 1) := by decide +kernel
theorem dX8_driftFrom_30 : decode cX8_driftFrom 30 = .ok (.dup, 1) := by decide +kernel
theorem dX8_driftFrom_31 : decode cX8_driftFrom 31 = .ok (.getfield 233, 3) := by decide +kernel
theorem dX8_driftFrom_34 : decode cX8_driftFrom 34 = .ok (.iload 5, 2) := by decide +kernel
theorem dX8_driftFrom_36 : decode cX8_driftFrom 36 = .ok (.iadd, 1) := by decide +kernel
theorem dX8_driftFrom_37 : decode cX8_driftFrom 37 = .ok (.putfield 233, 3) := by decide +kernel
theorem dX8_driftFrom_40 : decode cX8_driftFrom 40 = .ok (.goto 36, 3) := by decide +kernel
theorem dX8_driftFrom_43 : decode cX8_driftFrom 43 = .ok (.aload_n 0, 1) := by decide +kernel
theorem dX8_driftFrom_44 : decode cX8_driftFrom 44 = .ok (.getfield 19, 3) := by decide +kernel
theorem dX8_driftFrom_47 : decode cX8_driftFrom 47 = .ok (.iload_n 2, 1) := by decide +kernel
theorem dX8_driftFrom_48 : decode cX8_driftFrom 48 = .ok (.iload_n 3, 1) := by decide +kernel
theorem dX8_driftFrom_49 : decode cX8_driftFrom 49 = .ok (.iload 4, 2) := by decide +kernel
theorem dX8_driftFrom_51 : decode cX8_driftFrom 51 = .ok (.invokevirtual 272, 3) := by decide +kernel
theorem dX8_driftFrom_54 : decode cX8_driftFrom 54 = .ok (.ifCond .eq 10, 3) := by decide +kernel
theorem dX8_driftFrom_57 : decode cX8_driftFrom 57 = .ok (.iload 5, 2) := by decide +kernel
theorem dX8_driftFrom_59 : decode cX8_driftFrom 59 = .ok (.bipush 10, 2) := by decide +kernel
theorem dX8_driftFrom_61 : decode cX8_driftFrom 61 = .ok (.idiv, 1) := by decide +kernel
theorem dX8_driftFrom_62 : decode cX8_driftFrom 62 = .ok (.istore 5, 2) := by decide +kernel
theorem dX8_driftFrom_64 : decode cX8_driftFrom 64 = .ok (.aload_n 1, 1) := by decide +kernel
theorem dX8_driftFrom_65 : decode cX8_driftFrom 65 = .ok (.getfield 78, 3) := by decide +kernel
theorem dX8_driftFrom_68 : decode cX8_driftFrom 68 = .ok (.iload 6, 2) := by decide +kernel
theorem dX8_driftFrom_70 : decode cX8_driftFrom 70 = .ok (.dup2, 1) := by decide +kernel
theorem dX8_driftFrom_71 : decode cX8_driftFrom 71 = .ok (.iaload, 1) := by decide +kernel
theorem dX8_driftFrom_72 : decode cX8_driftFrom 72 = .ok (.iload 5, 2) := by decide +kernel
theorem dX8_driftFrom_74 : decode cX8_driftFrom 74 = .ok (.iadd, 1) := by decide +kernel
theorem dX8_driftFrom_75 : decode cX8_driftFrom 75 = .ok (.iastore, 1) := by decide +kernel
theorem dX8_driftFrom_76 : decode cX8_driftFrom 76 = .ok (.aload_n 1, 1) := by decide +kernel
theorem dX8_driftFrom_77 : decode cX8_driftFrom 77 = .ok (.getfield 78, 3) := by decide +kernel
theorem dX8_driftFrom_80 : decode cX8_driftFrom 80 = .ok (.iload_n 2, 1) := by decide +kernel
theorem dX8_driftFrom_81 : decode cX8_driftFrom 81 = .ok (.dup2, 1) := by decide +kernel
theorem dX8_driftFrom_82 : decode cX8_driftFrom 82 = .ok (.iaload, 1) := by decide +kernel
theorem dX8_driftFrom_83 : decode cX8_driftFrom 83 = .ok (.iload 5, 2) := by decide +kernel
theorem dX8_driftFrom_85 : decode cX8_driftFrom 85 = .ok (.isub, 1) := by decide +kernel
theorem dX8_driftFrom_86 : decode cX8_driftFrom 86 = .ok (.iastore, 1) := by decide +kernel
theorem dX8_driftFrom_87 : decode cX8_driftFrom 87 = .ok (.return_, 1) := by decide +kernel
theorem dX8_loseByAge_0 : decode cX8_loseByAge 0 = .ok (.iload_n 2, 1) := by decide +kernel
theorem dX8_loseByAge_1 : decode cX8_loseByAge 1 = .ok (.bipush 12, 2) := by decide +kernel
theorem dX8_loseByAge_3 : decode cX8_loseByAge 3 = .ok (.if_icmp .ge 8, 3) := by decide +kernel
theorem dX8_loseByAge_6 : decode cX8_loseByAge 6 = .ok (.bipush 30, 2) := by decide +kernel
theorem dX8_loseByAge_8 : decode cX8_loseByAge 8 = .ok (.goto 15, 3) := by decide +kernel
theorem dX8_loseByAge_11 : decode cX8_loseByAge 11 = .ok (.iload_n 2, 1) := by decide +kernel
theorem dX8_loseByAge_12 : decode cX8_loseByAge 12 = .ok (.bipush 48, 2) := by decide +kernel
theorem dX8_loseByAge_14 : decode cX8_loseByAge 14 = .ok (.if_icmp .ge 8, 3) := by decide +kernel
theorem dX8_loseByAge_17 : decode cX8_loseByAge 17 = .ok (.bipush 10, 2) := by decide +kernel
theorem dX8_loseByAge_19 : decode cX8_loseByAge 19 = .ok (.goto 4, 3) := by decide +kernel
theorem dX8_loseByAge_22 : decode cX8_loseByAge 22 = .ok (.iconst 2, 1) := by decide +kernel
theorem dX8_loseByAge_23 : decode cX8_loseByAge 23 = .ok (.istore_n 3, 1) := by decide +kernel
theorem dX8_loseByAge_24 : decode cX8_loseByAge 24 = .ok (.iconst 0, 1) := by decide +kernel
theorem dX8_loseByAge_25 : decode cX8_loseByAge 25 = .ok (.istore 4, 2) := by decide +kernel
theorem dX8_loseByAge_27 : decode cX8_loseByAge 27 = .ok (.iload 4, 2) := by decide +kernel
theorem dX8_loseByAge_29 : decode cX8_loseByAge 29 = .ok (.bipush 96, 2) := by decide +kernel
theorem dX8_loseByAge_31 : decode cX8_loseByAge 31 = .ok (.if_icmp .ge 59, 3) := by decide +kernel
theorem dX8_loseByAge_34 : decode cX8_loseByAge 34 = .ok (.aload_n 0, 1) := by decide +kernel
theorem dX8_loseByAge_35 : decode cX8_loseByAge 35 = .ok (.getfield 12, 3) := by decide +kernel
theorem dX8_loseByAge_38 : decode cX8_loseByAge 38 = .ok (.iload 4, 2) := by decide +kernel
theorem dX8_loseByAge_40 : decode cX8_loseByAge 40 = .ok (.invokevirtual 97, 3) := by decide +kernel
theorem dX8_loseByAge_43 : decode cX8_loseByAge 43 = .ok (.ifCond .eq 41, 3) := by decide +kernel
theorem dX8_loseByAge_46 : decode cX8_loseByAge 46 = .ok (.aload_n 1, 1) := by decide +kernel
theorem dX8_loseByAge_47 : decode cX8_loseByAge 47 = .ok (.getfield 78, 3) := by decide +kernel
theorem dX8_loseByAge_50 : decode cX8_loseByAge 50 = .ok (.iload 4, 2) := by decide +kernel
theorem dX8_loseByAge_52 : decode cX8_loseByAge 52 = .ok (.iaload, 1) := by decide +kernel
theorem dX8_loseByAge_53 : decode cX8_loseByAge 53 = .ok (.iload_n 3, 1) := by decide +kernel
theorem dX8_loseByAge_54 : decode cX8_loseByAge 54 = .ok (.imul, 1) := by decide +kernel
theorem dX8_loseByAge_55 : decode cX8_loseByAge 55 = .ok (.sipush 1000, 3) := by decide +kernel
theorem dX8_loseByAge_58 : decode cX8_loseByAge 58 = .ok (.idiv, 1) := by decide +kernel
theorem dX8_loseByAge_59 : decode cX8_loseByAge 59 = .ok (.istore 5, 2) := by decide +kernel
theorem dX8_loseByAge_61 : decode cX8_loseByAge 61 = .ok (.aload_n 1, 1) := by decide +kernel
theorem dX8_loseByAge_62 : decode cX8_loseByAge 62 = .ok (.getfield 78, 3) := by decide +kernel
theorem dX8_loseByAge_65 : decode cX8_loseByAge 65 = .ok (.iload 4, 2) := by decide +kernel
theorem dX8_loseByAge_67 : decode cX8_loseByAge 67 = .ok (.dup2, 1) := by decide +kernel
theorem dX8_loseByAge_68 : decode cX8_loseByAge 68 = .ok (.iaload, 1) := by decide +kernel
theorem dX8_loseByAge_69 : decode cX8_loseByAge 69 = .ok (.iload 5, 2) := by decide +kernel
theorem dX8_loseByAge_71 : decode cX8_loseByAge 71 = .ok (.isub, 1) := by decide +kernel
theorem dX8_loseByAge_72 : decode cX8_loseByAge 72 = .ok (.iastore, 1) := by decide +kernel
theorem dX8_loseByAge_73 : decode cX8_loseByAge 73 = .ok (.aload_n 1, 1) := by decide +kernel
theorem dX8_loseByAge_74 : decode cX8_loseByAge 74 = .ok (.dup, 1) := by decide +kernel
theorem dX8_loseByAge_75 : decode cX8_loseByAge 75 = .ok (.getfield 227, 3) := by decide +kernel
theorem dX8_loseByAge_78 : decode cX8_loseByAge 78 = .ok (.iload 5, 2) := by decide +kernel
theorem dX8_loseByAge_80 : decode cX8_loseByAge 80 = .ok (.iadd, 1) := by decide +kernel
theorem dX8_loseByAge_81 : decode cX8_loseByAge 81 = .ok (.putfield 227, 3) := by decide +kernel
theorem dX8_loseByAge_84 : decode cX8_loseByAge 84 = .ok (.iinc 4 1, 3) := by decide +kernel
theorem dX8_loseByAge_87 : decode cX8_loseByAge 87 = .ok (.goto (-60), 3) := by decide +kernel
theorem dX8_loseByAge_90 : decode cX8_loseByAge 90 = .ok (.return_, 1) := by decide +kernel
theorem dX8_litersAfloat_0 : decode cX8_litersAfloat 0 = .ok (.iconst 0, 1) := by decide +kernel
theorem dX8_litersAfloat_1 : decode cX8_litersAfloat 1 = .ok (.istore_n 2, 1) := by decide +kernel
theorem dX8_litersAfloat_2 : decode cX8_litersAfloat 2 = .ok (.iconst 0, 1) := by decide +kernel
theorem dX8_litersAfloat_3 : decode cX8_litersAfloat 3 = .ok (.istore_n 3, 1) := by decide +kernel
theorem dX8_litersAfloat_4 : decode cX8_litersAfloat 4 = .ok (.iload_n 3, 1) := by decide +kernel
theorem dX8_litersAfloat_5 : decode cX8_litersAfloat 5 = .ok (.bipush 96, 2) := by decide +kernel
theorem dX8_litersAfloat_7 : decode cX8_litersAfloat 7 = .ok (.if_icmp .ge 33, 3) := by decide +kernel
theorem dX8_litersAfloat_10 : decode cX8_litersAfloat 10 = .ok (.iload_n 2, 1) := by decide +kernel
theorem dX8_litersAfloat_11 : decode cX8_litersAfloat 11 = .ok (.aload_n 0, 1) := by decide +kernel
theorem dX8_litersAfloat_12 : decode cX8_litersAfloat 12 = .ok (.getfield 12, 3) := by decide +kernel
theorem dX8_litersAfloat_15 : decode cX8_litersAfloat 15 = .ok (.iload_n 3, 1) := by decide +kernel
theorem dX8_litersAfloat_16 : decode cX8_litersAfloat 16 = .ok (.invokevirtual 97, 3) := by decide +kernel
theorem dX8_litersAfloat_19 : decode cX8_litersAfloat 19 = .ok (.ifCond .eq 12, 3) := by decide +kernel
theorem dX8_litersAfloat_22 : decode cX8_litersAfloat 22 = .ok (.aload_n 1, 1) := by decide +kernel
theorem dX8_litersAfloat_23 : decode cX8_litersAfloat 23 = .ok (.getfield 78, 3) := by decide +kernel
theorem dX8_litersAfloat_26 : decode cX8_litersAfloat 26 = .ok (.iload_n 3, 1) := by decide +kernel
theorem dX8_litersAfloat_27 : decode cX8_litersAfloat 27 = .ok (.iaload, 1) := by decide +kernel
theorem dX8_litersAfloat_28 : decode cX8_litersAfloat 28 = .ok (.goto 4, 3) := by decide +kernel
theorem dX8_litersAfloat_31 : decode cX8_litersAfloat 31 = .ok (.iconst 0, 1) := by decide +kernel
theorem dX8_litersAfloat_32 : decode cX8_litersAfloat 32 = .ok (.iadd, 1) := by decide +kernel
theorem dX8_litersAfloat_33 : decode cX8_litersAfloat 33 = .ok (.istore_n 2, 1) := by decide +kernel
theorem dX8_litersAfloat_34 : decode cX8_litersAfloat 34 = .ok (.iinc 3 1, 3) := by decide +kernel
theorem dX8_litersAfloat_37 : decode cX8_litersAfloat 37 = .ok (.goto (-33), 3) := by decide +kernel
theorem dX8_litersAfloat_40 : decode cX8_litersAfloat 40 = .ok (.iload_n 2, 1) := by decide +kernel
theorem dX8_litersAfloat_41 : decode cX8_litersAfloat 41 = .ok (.ireturn, 1) := by decide +kernel
theorem dX8_litersAshore_0 : decode cX8_litersAshore 0 = .ok (.iconst 0, 1) := by decide +kernel
theorem dX8_litersAshore_1 : decode cX8_litersAshore 1 = .ok (.istore_n 2, 1) := by decide +kernel
theorem dX8_litersAshore_2 : decode cX8_litersAshore 2 = .ok (.iconst 0, 1) := by decide +kernel
theorem dX8_litersAshore_3 : decode cX8_litersAshore 3 = .ok (.istore_n 3, 1) := by decide +kernel
theorem dX8_litersAshore_4 : decode cX8_litersAshore 4 = .ok (.iload_n 3, 1) := by decide +kernel
theorem dX8_litersAshore_5 : decode cX8_litersAshore 5 = .ok (.bipush 96, 2) := by decide +kernel
theorem dX8_litersAshore_7 : decode cX8_litersAshore 7 = .ok (.if_icmp .ge 33, 3) := by decide +kernel
theorem dX8_litersAshore_10 : decode cX8_litersAshore 10 = .ok (.iload_n 2, 1) := by decide +kernel
theorem dX8_litersAshore_11 : decode cX8_litersAshore 11 = .ok (.aload_n 0, 1) := by decide +kernel
theorem dX8_litersAshore_12 : decode cX8_litersAshore 12 = .ok (.getfield 12, 3) := by decide +kernel
theorem dX8_litersAshore_15 : decode cX8_litersAshore 15 = .ok (.iload_n 3, 1) := by decide +kernel
theorem dX8_litersAshore_16 : decode cX8_litersAshore 16 = .ok (.invokevirtual 97, 3) := by decide +kernel
theorem dX8_litersAshore_19 : decode cX8_litersAshore 19 = .ok (.ifCond .eq 7, 3) := by decide +kernel
theorem dX8_litersAshore_22 : decode cX8_litersAshore 22 = .ok (.iconst 0, 1) := by decide +kernel
theorem dX8_litersAshore_23 : decode cX8_litersAshore 23 = .ok (.goto 9, 3) := by decide +kernel
theorem dX8_litersAshore_26 : decode cX8_litersAshore 26 = .ok (.aload_n 1, 1) := by decide +kernel
theorem dX8_litersAshore_27 : decode cX8_litersAshore 27 = .ok (.getfield 78, 3) := by decide +kernel
theorem dX8_litersAshore_30 : decode cX8_litersAshore 30 = .ok (.iload_n 3, 1) := by decide +kernel
theorem dX8_litersAshore_31 : decode cX8_litersAshore 31 = .ok (.iaload, 1) := by decide +kernel
theorem dX8_litersAshore_32 : decode cX8_litersAshore 32 = .ok (.iadd, 1) := by decide +kernel
theorem dX8_litersAshore_33 : decode cX8_litersAshore 33 = .ok (.istore_n 2, 1) := by decide +kernel
theorem dX8_litersAshore_34 : decode cX8_litersAshore 34 = .ok (.iinc 3 1, 3) := by decide +kernel
theorem dX8_litersAshore_37 : decode cX8_litersAshore 37 = .ok (.goto (-33), 3) := by decide +kernel
theorem dX8_litersAshore_40 : decode cX8_litersAshore 40 = .ok (.iload_n 2, 1) := by decide +kernel
theorem dX8_litersAshore_41 : decode cX8_litersAshore 41 = .ok (.ireturn, 1) := by decide +kernel
theorem dX8_harmOf_0 : decode cX8_harmOf 0 = .ok (.iconst 0, 1) := by decide +kernel
theorem dX8_harmOf_1 : decode cX8_harmOf 1 = .ok (.istore_n 2, 1) := by decide +kernel
theorem dX8_harmOf_2 : decode cX8_harmOf 2 = .ok (.iconst 0, 1) := by decide +kernel
theorem dX8_harmOf_3 : decode cX8_harmOf 3 = .ok (.istore_n 3, 1) := by decide +kernel
theorem dX8_harmOf_4 : decode cX8_harmOf 4 = .ok (.iload_n 3, 1) := by decide +kernel
theorem dX8_harmOf_5 : decode cX8_harmOf 5 = .ok (.bipush 96, 2) := by decide +kernel
theorem dX8_harmOf_7 : decode cX8_harmOf 7 = .ok (.if_icmp .ge 28, 3) := by decide +kernel
theorem dX8_harmOf_10 : decode cX8_harmOf 10 = .ok (.iload_n 2, 1) := by decide +kernel
theorem dX8_harmOf_11 : decode cX8_harmOf 11 = .ok (.aload_n 1, 1) := by decide +kernel
theorem dX8_harmOf_12 : decode cX8_harmOf 12 = .ok (.getfield 78, 3) := by decide +kernel
theorem dX8_harmOf_15 : decode cX8_harmOf 15 = .ok (.iload_n 3, 1) := by decide +kernel
theorem dX8_harmOf_16 : decode cX8_harmOf 16 = .ok (.iaload, 1) := by decide +kernel
theorem dX8_harmOf_17 : decode cX8_harmOf 17 = .ok (.aload_n 0, 1) := by decide +kernel
theorem dX8_harmOf_18 : decode cX8_harmOf 18 = .ok (.getfield 12, 3) := by decide +kernel
theorem dX8_harmOf_21 : decode cX8_harmOf 21 = .ok (.getfield 90, 3) := by decide +kernel
theorem dX8_harmOf_24 : decode cX8_harmOf 24 = .ok (.iload_n 3, 1) := by decide +kernel
theorem dX8_harmOf_25 : decode cX8_harmOf 25 = .ok (.iaload, 1) := by decide +kernel
theorem dX8_harmOf_26 : decode cX8_harmOf 26 = .ok (.imul, 1) := by decide +kernel
theorem dX8_harmOf_27 : decode cX8_harmOf 27 = .ok (.iadd, 1) := by decide +kernel
theorem dX8_harmOf_28 : decode cX8_harmOf 28 = .ok (.istore_n 2, 1) := by decide +kernel
theorem dX8_harmOf_29 : decode cX8_harmOf 29 = .ok (.iinc 3 1, 3) := by decide +kernel
theorem dX8_harmOf_32 : decode cX8_harmOf 32 = .ok (.goto (-28), 3) := by decide +kernel
theorem dX8_harmOf_35 : decode cX8_harmOf 35 = .ok (.iload_n 2, 1) := by decide +kernel
theorem dX8_harmOf_36 : decode cX8_harmOf 36 = .ok (.sipush 1000, 3) := by decide +kernel
theorem dX8_harmOf_39 : decode cX8_harmOf 39 = .ok (.idiv, 1) := by decide +kernel
theorem dX8_harmOf_40 : decode cX8_harmOf 40 = .ok (.ireturn, 1) := by decide +kernel
theorem dX8_harmAhead_0 : decode cX8_harmAhead 0 = .ok (.aload_n 0, 1) := by decide +kernel
theorem dX8_harmAhead_1 : decode cX8_harmAhead 1 = .ok (.getfield 44, 3) := by decide +kernel
theorem dX8_harmAhead_4 : decode cX8_harmAhead 4 = .ok (.iconst 0, 1) := by decide +kernel
theorem dX8_harmAhead_5 : decode cX8_harmAhead 5 = .ok (.aaload, 1) := by decide +kernel
theorem dX8_harmAhead_6 : decode cX8_harmAhead 6 = .ok (.astore_n 3, 1) := by decide +kernel
theorem dX8_harmAhead_7 : decode cX8_harmAhead 7 = .ok (.aload_n 3, 1) := by decide +kernel
theorem dX8_harmAhead_8 : decode cX8_harmAhead 8 = .ok (.aload_n 0, 1) := by decide +kernel
theorem dX8_harmAhead_9 : decode cX8_harmAhead 9 = .ok (.getfield 40, 3) := by decide +kernel
theorem dX8_harmAhead_12 : decode cX8_harmAhead 12 = .ok (.invokevirtual 186, 3) := by decide +kernel
theorem dX8_harmAhead_15 : decode cX8_harmAhead 15 = .ok (.iconst 0, 1) := by decide +kernel
theorem dX8_harmAhead_16 : decode cX8_harmAhead 16 = .ok (.istore 4, 2) := by decide +kernel
theorem dX8_harmAhead_18 : decode cX8_harmAhead 18 = .ok (.iload 4, 2) := by decide +kernel
theorem dX8_harmAhead_20 : decode cX8_harmAhead 20 = .ok (.iload_n 2, 1) := by decide +kernel
theorem dX8_harmAhead_21 : decode cX8_harmAhead 21 = .ok (.if_icmp .ge 22, 3) := by decide +kernel
theorem dX8_harmAhead_24 : decode cX8_harmAhead 24 = .ok (.aload_n 0, 1) := by decide +kernel
theorem dX8_harmAhead_25 : decode cX8_harmAhead 25 = .ok (.aload_n 3, 1) := by decide +kernel
theorem dX8_harmAhead_26 : decode cX8_harmAhead 26 = .ok (.iload_n 1, 1) := by decide +kernel
theorem dX8_harmAhead_27 : decode cX8_harmAhead 27 = .ok (.aload_n 0, 1) := by decide +kernel
theorem dX8_harmAhead_28 : decode cX8_harmAhead 28 = .ok (.getfield 74, 3) := by decide +kernel
theorem dX8_harmAhead_31 : decode cX8_harmAhead 31 = .ok (.iload 4, 2) := by decide +kernel
theorem dX8_harmAhead_33 : decode cX8_harmAhead 33 = .ok (.iadd, 1) := by decide +kernel
theorem dX8_harmAhead_34 : decode cX8_harmAhead 34 = .ok (.invokevirtual 156, 3) := by decide +kernel
theorem dX8_harmAhead_37 : decode cX8_harmAhead 37 = .ok (.iinc 4 1, 3) := by decide +kernel
theorem dX8_harmAhead_40 : decode cX8_harmAhead 40 = .ok (.goto (-22), 3) := by decide +kernel
theorem dX8_harmAhead_43 : decode cX8_harmAhead 43 = .ok (.aload_n 0, 1) := by decide +kernel
theorem dX8_harmAhead_44 : decode cX8_harmAhead 44 = .ok (.aload_n 3, 1) := by decide +kernel
theorem dX8_harmAhead_45 : decode cX8_harmAhead 45 = .ok (.invokevirtual 239, 3) := by decide +kernel
theorem dX8_harmAhead_48 : decode cX8_harmAhead 48 = .ok (.ireturn, 1) := by decide +kernel
theorem dX8_searchHour_0 : decode cX8_searchHour 0 = .ok (.iload_n 1, 1) := by decide +kernel
theorem dX8_searchHour_1 : decode cX8_searchHour 1 = .ok (.ifCond .lt 8, 3) := by decide +kernel
theorem dX8_searchHour_4 : decode cX8_searchHour 4 = .ok (.iload_n 1, 1) := by decide +kernel
theorem dX8_searchHour_5 : decode cX8_searchHour 5 = .ok (.iconst 3, 1) := by decide +kernel
theorem dX8_searchHour_6 : decode cX8_searchHour 6 = .ok (.if_icmp .lt 4, 3) := by decide +kernel
theorem dX8_searchHour_9 : decode cX8_searchHour 9 = .ok (.return_, 1) := by decide +kernel
theorem dX8_searchHour_10 : decode cX8_searchHour 10 = .ok (.aload_n 0, 1) := by decide +kernel
theorem dX8_searchHour_11 : decode cX8_searchHour 11 = .ok (.getfield 44, 3) := by decide +kernel
theorem dX8_searchHour_14 : decode cX8_searchHour 14 = .ok (.iload_n 1, 1) := by decide +kernel
theorem dX8_searchHour_15 : decode cX8_searchHour 15 = .ok (.aaload, 1) := by decide +kernel
theorem dX8_searchHour_16 : decode cX8_searchHour 16 = .ok (.astore 4, 2) := by decide +kernel
theorem dX8_searchHour_18 : decode cX8_searchHour 18 = .ok (.aload_n 0, 1) := by decide +kernel
theorem dX8_searchHour_19 : decode cX8_searchHour 19 = .ok (.aload 4, 2) := by decide +kernel
theorem dX8_searchHour_21 : decode cX8_searchHour 21 = .ok (.iconst 0, 1) := by decide +kernel
theorem dX8_searchHour_22 : decode cX8_searchHour 22 = .ok (.aload_n 0, 1) := by decide +kernel
theorem dX8_searchHour_23 : decode cX8_searchHour 23 = .ok (.getfield 74, 3) := by decide +kernel
theorem dX8_searchHour_26 : decode cX8_searchHour 26 = .ok (.iload_n 1, 1) := by decide +kernel
theorem dX8_searchHour_27 : decode cX8_searchHour 27 = .ok (.iadd, 1) := by decide +kernel
theorem dX8_searchHour_28 : decode cX8_searchHour 28 = .ok (.invokevirtual 243, 3) := by decide +kernel
theorem dX8_searchHour_31 : decode cX8_searchHour 31 = .ok (.aload_n 0, 1) := by decide +kernel
theorem dX8_searchHour_32 : decode cX8_searchHour 32 = .ok (.getfield 33, 3) := by decide +kernel
theorem dX8_searchHour_35 : decode cX8_searchHour 35 = .ok (.aload 4, 2) := by decide +kernel
theorem dX8_searchHour_37 : decode cX8_searchHour 37 = .ok (.iconst 0, 1) := by decide +kernel
theorem dX8_searchHour_38 : decode cX8_searchHour 38 = .ok (.aload_n 0, 1) := by decide +kernel
theorem dX8_searchHour_39 : decode cX8_searchHour 39 = .ok (.getfield 51, 3) := by decide +kernel
theorem dX8_searchHour_42 : decode cX8_searchHour 42 = .ok (.getfield 275, 3) := by decide +kernel
theorem dX8_searchHour_45 : decode cX8_searchHour 45 = .ok (.invokevirtual 246, 3) := by decide +kernel
theorem dX8_searchHour_48 : decode cX8_searchHour 48 = .ok (.aload_n 0, 1) := by decide +kernel
theorem dX8_searchHour_49 : decode cX8_searchHour 49 = .ok (.getfield 33, 3) := by decide +kernel
theorem dX8_searchHour_52 : decode cX8_searchHour 52 = .ok (.getfield 126, 3) := by decide +kernel
theorem dX8_searchHour_55 : decode cX8_searchHour 55 = .ok (.aload_n 0, 1) := by decide +kernel
theorem dX8_searchHour_56 : decode cX8_searchHour 56 = .ok (.getfield 51, 3) := by decide +kernel
theorem dX8_searchHour_59 : decode cX8_searchHour 59 = .ok (.getfield 275, 3) := by decide +kernel
theorem dX8_searchHour_62 : decode cX8_searchHour 62 = .ok (.aaload, 1) := by decide +kernel
theorem dX8_searchHour_63 : decode cX8_searchHour 63 = .ok (.astore 5, 2) := by decide +kernel
theorem dX8_searchHour_65 : decode cX8_searchHour 65 = .ok (.aload 5, 2) := by decide +kernel
theorem dX8_searchHour_67 : decode cX8_searchHour 67 = .ok (.getfield 278, 3) := by decide +kernel
theorem dX8_searchHour_70 : decode cX8_searchHour 70 = .ok (.aload_n 0, 1) := by decide +kernel
theorem dX8_searchHour_71 : decode cX8_searchHour 71 = .ok (.getfield 51, 3) := by decide +kernel
theorem dX8_searchHour_74 : decode cX8_searchHour 74 = .ok (.getfield 281, 3) := by decide +kernel
theorem dX8_searchHour_77 : decode cX8_searchHour 77 = .ok (.iload_n 1, 1) := by decide +kernel
theorem dX8_searchHour_78 : decode cX8_searchHour 78 = .ok (.isub, 1) := by decide +kernel
theorem dX8_searchHour_79 : decode cX8_searchHour 79 = .ok (.iconst 1, 1) := by decide +kernel
theorem dX8_searchHour_80 : decode cX8_searchHour 80 = .ok (.isub, 1) := by decide +kernel
theorem dX8_searchHour_81 : decode cX8_searchHour 81 = .ok (.imul, 1) := by decide +kernel
theorem dX8_searchHour_82 : decode cX8_searchHour 82 = .ok (.istore 6, 2) := by decide +kernel
theorem dX8_searchHour_84 : decode cX8_searchHour 84 = .ok (.aload_n 0, 1) := by decide +kernel
theorem dX8_searchHour_85 : decode cX8_searchHour 85 = .ok (.aload 4, 2) := by decide +kernel
theorem dX8_searchHour_87 : decode cX8_searchHour 87 = .ok (.invokevirtual 223, 3) := by decide +kernel
theorem dX8_searchHour_90 : decode cX8_searchHour 90 = .ok (.aload_n 0, 1) := by decide +kernel
theorem dX8_searchHour_91 : decode cX8_searchHour 91 = .ok (.getfield 33, 3) := by decide +kernel
theorem dX8_searchHour_94 : decode cX8_searchHour 94 = .ok (.aload 4, 2) := by decide +kernel
theorem dX8_searchHour_96 : decode cX8_searchHour 96 = .ok (.aload_n 0, 1) := by decide +kernel
theorem dX8_searchHour_97 : decode cX8_searchHour 97 = .ok (.getfield 51, 3) := by decide +kernel
theorem dX8_searchHour_100 : decode cX8_searchHour 100 = .ok (.getfield 275, 3) := by decide +kernel
theorem dX8_searchHour_103 : decode cX8_searchHour 103 = .ok (.invokevirtual 284, 3) := by decide +kernel
theorem dX8_searchHour_106 : decode cX8_searchHour 106 = .ok (.invokestatic 151, 3) := by decide +kernel
theorem dX8_searchHour_109 : decode cX8_searchHour 109 = .ok (.istore 7, 2) := by decide +kernel
theorem dX8_searchHour_111 : decode cX8_searchHour 111 = .ok (.iconst 0, 1) := by decide +kernel
theorem dX8_searchHour_112 : decode cX8_searchHour 112 = .ok (.istore 8, 2) := by decide +kernel
theorem dX8_searchHour_114 : decode cX8_searchHour 114 = .ok (.iload 8, 2) := by decide +kernel
theorem dX8_searchHour_116 : decode cX8_searchHour 116 = .ok (.bipush 96, 2) := by decide +kernel
theorem dX8_searchHour_118 : decode cX8_searchHour 118 = .ok (.if_icmp .ge 83, 3) := by decide +kernel
theorem dX8_searchHour_121 : decode cX8_searchHour 121 = .ok (.aload_n 0, 1) := by decide +kernel
theorem dX8_searchHour_122 : decode cX8_searchHour 122 = .ok (.getfield 12, 3) := by decide +kernel
theorem dX8_searchHour_125 : decode cX8_searchHour 125 = .ok (.iload_n 2, 1) := by decide +kernel
theorem dX8_searchHour_126 : decode cX8_searchHour 126 = .ok (.iload 8, 2) := by decide +kernel
theorem dX8_searchHour_128 : decode cX8_searchHour 128 = .ok (.aload 5, 2) := by decide +kernel
theorem dX8_searchHour_130 : decode cX8_searchHour 130 = .ok (.getfield 139, 3) := by decide +kernel
theorem dX8_searchHour_133 : decode cX8_searchHour 133 = .ok (.invokevirtual 142, 3) := by decide +kernel
theorem dX8_searchHour_136 : decode cX8_searchHour 136 = .ok (.ifCond .ne 6, 3) := by decide +kernel
theorem dX8_searchHour_139 : decode cX8_searchHour 139 = .ok (.goto 56, 3) := by decide +kernel
theorem dX8_searchHour_142 : decode cX8_searchHour 142 = .ok (.aload_n 0, 1) := by decide +kernel
theorem dX8_searchHour_143 : decode cX8_searchHour 143 = .ok (.getfield 33, 3) := by decide +kernel
theorem dX8_searchHour_146 : decode cX8_searchHour 146 = .ok (.aload 4, 2) := by decide +kernel
theorem dX8_searchHour_148 : decode cX8_searchHour 148 = .ok (.aload_n 0, 1) := by decide +kernel
theorem dX8_searchHour_149 : decode cX8_searchHour 149 = .ok (.getfield 51, 3) := by decide +kernel
theorem dX8_searchHour_152 : decode cX8_searchHour 152 = .ok (.getfield 275, 3) := by decide +kernel
theorem dX8_searchHour_155 : decode cX8_searchHour 155 = .ok (.iload 8, 2) := by decide +kernel
theorem dX8_searchHour_157 : decode cX8_searchHour 157 = .ok (.invokevirtual 288, 3) := by decide +kernel
theorem dX8_searchHour_160 : decode cX8_searchHour 160 = .ok (.istore 9, 2) := by decide +kernel
theorem dX8_searchHour_162 : decode cX8_searchHour 162 = .ok (.iload_n 3, 1) := by decide +kernel
theorem dX8_searchHour_163 : decode cX8_searchHour 163 = .ok (.iload 9, 2) := by decide +kernel
theorem dX8_searchHour_165 : decode cX8_searchHour 165 = .ok (.iload 6, 2) := by decide +kernel
theorem dX8_searchHour_167 : decode cX8_searchHour 167 = .ok (.iadd, 1) := by decide +kernel
theorem dX8_searchHour_168 : decode cX8_searchHour 168 = .ok (.iload 7, 2) := by decide +kernel
theorem dX8_searchHour_170 : decode cX8_searchHour 170 = .ok (.invokestatic 151, 3) := by decide +kernel
theorem dX8_searchHour_173 : decode cX8_searchHour 173 = .ok (.iadd, 1) := by decide +kernel
theorem dX8_searchHour_174 : decode cX8_searchHour 174 = .ok (.aload_n 0, 1) := by decide +kernel
theorem dX8_searchHour_175 : decode cX8_searchHour 175 = .ok (.getfield 51, 3) := by decide +kernel
theorem dX8_searchHour_178 : decode cX8_searchHour 178 = .ok (.getfield 194, 3) := by decide +kernel
theorem dX8_searchHour_181 : decode cX8_searchHour 181 = .ok (.if_icmp .le 14, 3) := by decide +kernel
theorem dX8_searchHour_184 : decode cX8_searchHour 184 = .ok (.aload_n 0, 1) := by decide +kernel
theorem dX8_searchHour_185 : decode cX8_searchHour 185 = .ok (.iload_n 1, 1) := by decide +kernel
theorem dX8_searchHour_186 : decode cX8_searchHour 186 = .ok (.iload 8, 2) := by decide +kernel
theorem dX8_searchHour_188 : decode cX8_searchHour 188 = .ok (.iload_n 3, 1) := by decide +kernel
theorem dX8_searchHour_189 : decode cX8_searchHour 189 = .ok (.iload 9, 2) := by decide +kernel
theorem dX8_searchHour_191 : decode cX8_searchHour 191 = .ok (.iadd, 1) := by decide +kernel
theorem dX8_searchHour_192 : decode cX8_searchHour 192 = .ok (.invokevirtual 292, 3) := by decide +kernel
theorem dX8_searchHour_195 : decode cX8_searchHour 195 = .ok (.iinc 8 1, 3) := by decide +kernel
theorem dX8_searchHour_198 : decode cX8_searchHour 198 = .ok (.goto (-84), 3) := by decide +kernel
theorem dX8_searchHour_201 : decode cX8_searchHour 201 = .ok (.return_, 1) := by decide +kernel
theorem dX8_searchFrom_0 : decode cX8_searchFrom 0 = .ok (.iload_n 1, 1) := by decide +kernel
theorem dX8_searchFrom_1 : decode cX8_searchFrom 1 = .ok (.ifCond .ne 11, 3) := by decide +kernel
theorem dX8_searchFrom_4 : decode cX8_searchFrom 4 = .ok (.aload_n 0, 1) := by decide +kernel
theorem dX8_searchFrom_5 : decode cX8_searchFrom 5 = .ok (.getfield 51, 3) := by decide +kernel
theorem dX8_searchFrom_8 : decode cX8_searchFrom 8 = .ok (.iload_n 2, 1) := by decide +kernel
theorem dX8_searchFrom_9 : decode cX8_searchFrom 9 = .ok (.putfield 295, 3) := by decide +kernel
theorem dX8_searchFrom_12 : decode cX8_searchFrom 12 = .ok (.iload_n 1, 1) := by decide +kernel
theorem dX8_searchFrom_13 : decode cX8_searchFrom 13 = .ok (.iconst 1, 1) := by decide +kernel
theorem dX8_searchFrom_14 : decode cX8_searchFrom 14 = .ok (.iadd, 1) := by decide +kernel
theorem dX8_searchFrom_15 : decode cX8_searchFrom 15 = .ok (.istore 4, 2) := by decide +kernel
theorem dX8_searchFrom_17 : decode cX8_searchFrom 17 = .ok (.iload 4, 2) := by decide +kernel
theorem dX8_searchFrom_19 : decode cX8_searchFrom 19 = .ok (.aload_n 0, 1) := by decide +kernel
theorem dX8_searchFrom_20 : decode cX8_searchFrom 20 = .ok (.getfield 51, 3) := by decide +kernel
theorem dX8_searchFrom_23 : decode cX8_searchFrom 23 = .ok (.getfield 281, 3) := by decide +kernel
theorem dX8_searchFrom_26 : decode cX8_searchFrom 26 = .ok (.if_icmp .ge 9, 3) := by decide +kernel
theorem dX8_searchFrom_29 : decode cX8_searchFrom 29 = .ok (.iload 4, 2) := by decide +kernel
theorem dX8_searchFrom_31 : decode cX8_searchFrom 31 = .ok (.iconst 3, 1) := by decide +kernel
theorem dX8_searchFrom_32 : decode cX8_searchFrom 32 = .ok (.if_icmp .lt 26, 3) := by decide +kernel
theorem dX8_searchFrom_35 : decode cX8_searchFrom 35 = .ok (.aload_n 0, 1) := by decide +kernel
theorem dX8_searchFrom_36 : decode cX8_searchFrom 36 = .ok (.getfield 51, 3) := by decide +kernel
theorem dX8_searchFrom_39 : decode cX8_searchFrom 39 = .ok (.iload_n 3, 1) := by decide +kernel
theorem dX8_searchFrom_40 : decode cX8_searchFrom 40 = .ok (.putfield 194, 3) := by decide +kernel
theorem dX8_searchFrom_43 : decode cX8_searchFrom 43 = .ok (.aload_n 0, 1) := by decide +kernel
theorem dX8_searchFrom_44 : decode cX8_searchFrom 44 = .ok (.getfield 51, 3) := by decide +kernel
theorem dX8_searchFrom_47 : decode cX8_searchFrom 47 = .ok (.aload_n 0, 1) := by decide +kernel
theorem dX8_searchFrom_48 : decode cX8_searchFrom 48 = .ok (.getfield 51, 3) := by decide +kernel
theorem dX8_searchFrom_51 : decode cX8_searchFrom 51 = .ok (.getfield 295, 3) := by decide +kernel
theorem dX8_searchFrom_54 : decode cX8_searchFrom 54 = .ok (.putfield 197, 3) := by decide +kernel
theorem dX8_searchFrom_57 : decode cX8_searchFrom 57 = .ok (.return_, 1) := by decide +kernel
theorem dX8_searchFrom_58 : decode cX8_searchFrom 58 = .ok (.aload_n 0, 1) := by decide +kernel
theorem dX8_searchFrom_59 : decode cX8_searchFrom 59 = .ok (.getfield 44, 3) := by decide +kernel
theorem dX8_searchFrom_62 : decode cX8_searchFrom 62 = .ok (.iload 4, 2) := by decide +kernel
theorem dX8_searchFrom_64 : decode cX8_searchFrom 64 = .ok (.aaload, 1) := by decide +kernel
theorem dX8_searchFrom_65 : decode cX8_searchFrom 65 = .ok (.aload_n 0, 1) := by decide +kernel
theorem dX8_searchFrom_66 : decode cX8_searchFrom 66 = .ok (.getfield 44, 3) := by decide +kernel
theorem dX8_searchFrom_69 : decode cX8_searchFrom 69 = .ok (.iload_n 1, 1) := by decide +kernel
theorem dX8_searchFrom_70 : decode cX8_searchFrom 70 = .ok (.aaload, 1) := by decide +kernel
theorem dX8_searchFrom_71 : decode cX8_searchFrom 71 = .ok (.invokevirtual 186, 3) := by decide +kernel
theorem dX8_searchFrom_74 : decode cX8_searchFrom 74 = .ok (.aload_n 0, 1) := by decide +kernel
theorem dX8_searchFrom_75 : decode cX8_searchFrom 75 = .ok (.getfield 33, 3) := by decide +kernel
theorem dX8_searchFrom_78 : decode cX8_searchFrom 78 = .ok (.aload_n 0, 1) := by decide +kernel
theorem dX8_searchFrom_79 : decode cX8_searchFrom 79 = .ok (.getfield 44, 3) := by decide +kernel
theorem dX8_searchFrom_82 : decode cX8_searchFrom 82 = .ok (.iload 4, 2) := by decide +kernel
theorem dX8_searchFrom_84 : decode cX8_searchFrom 84 = .ok (.aaload, 1) := by decide +kernel
theorem dX8_searchFrom_85 : decode cX8_searchFrom 85 = .ok (.aload_n 0, 1) := by decide +kernel
theorem dX8_searchFrom_86 : decode cX8_searchFrom 86 = .ok (.getfield 51, 3) := by decide +kernel
theorem dX8_searchFrom_89 : decode cX8_searchFrom 89 = .ok (.getfield 275, 3) := by decide +kernel
theorem dX8_searchFrom_92 : decode cX8_searchFrom 92 = .ok (.iload_n 2, 1) := by decide +kernel
theorem dX8_searchFrom_93 : decode cX8_searchFrom 93 = .ok (.invokevirtual 298, 3) := by decide +kernel
theorem dX8_searchFrom_96 : decode cX8_searchFrom 96 = .ok (.aload_n 0, 1) := by decide +kernel
theorem dX8_searchFrom_97 : decode cX8_searchFrom 97 = .ok (.getfield 33, 3) := by decide +kernel
theorem dX8_searchFrom_100 : decode cX8_searchFrom 100 = .ok (.aload_n 0, 1) := by decide +kernel
theorem dX8_searchFrom_101 : decode cX8_searchFrom 101 = .ok (.getfield 44, 3) := by decide +kernel
theorem dX8_searchFrom_104 : decode cX8_searchFrom 104 = .ok (.iload 4, 2) := by decide +kernel
theorem dX8_searchFrom_106 : decode cX8_searchFrom 106 = .ok (.aaload, 1) := by decide +kernel
theorem dX8_searchFrom_107 : decode cX8_searchFrom 107 = .ok (.aload_n 0, 1) := by decide +kernel
theorem dX8_searchFrom_108 : decode cX8_searchFrom 108 = .ok (.getfield 51, 3) := by decide +kernel
theorem dX8_searchFrom_111 : decode cX8_searchFrom 111 = .ok (.getfield 275, 3) := by decide +kernel
theorem dX8_searchFrom_114 : decode cX8_searchFrom 114 = .ok (.iconst 1, 1) := by decide +kernel
theorem dX8_searchFrom_115 : decode cX8_searchFrom 115 = .ok (.iadd, 1) := by decide +kernel
theorem dX8_searchFrom_116 : decode cX8_searchFrom 116 = .ok (.aload_n 0, 1) := by decide +kernel
theorem dX8_searchFrom_117 : decode cX8_searchFrom 117 = .ok (.getfield 33, 3) := by decide +kernel
theorem dX8_searchFrom_120 : decode cX8_searchFrom 120 = .ok (.getfield 170, 3) := by decide +kernel
theorem dX8_searchFrom_123 : decode cX8_searchFrom 123 = .ok (.invokevirtual 246, 3) := by decide +kernel
theorem dX8_searchFrom_126 : decode cX8_searchFrom 126 = .ok (.aload_n 0, 1) := by decide +kernel
theorem dX8_searchFrom_127 : decode cX8_searchFrom 127 = .ok (.iload 4, 2) := by decide +kernel
theorem dX8_searchFrom_129 : decode cX8_searchFrom 129 = .ok (.iload_n 2, 1) := by decide +kernel
theorem dX8_searchFrom_130 : decode cX8_searchFrom 130 = .ok (.iload_n 3, 1) := by decide +kernel
theorem dX8_searchFrom_131 : decode cX8_searchFrom 131 = .ok (.invokevirtual 190, 3) := by decide +kernel
theorem dX8_searchFrom_134 : decode cX8_searchFrom 134 = .ok (.return_, 1) := by decide +kernel
theorem dX8_shipLeftAt_0 : decode cX8_shipLeftAt 0 = .ok (.iconst 0, 1) := by decide +kernel
theorem dX8_shipLeftAt_1 : decode cX8_shipLeftAt 1 = .ok (.istore_n 2, 1) := by decide +kernel
theorem dX8_shipLeftAt_2 : decode cX8_shipLeftAt 2 = .ok (.iload_n 2, 1) := by decide +kernel
theorem dX8_shipLeftAt_3 : decode cX8_shipLeftAt 3 = .ok (.aload_n 0, 1) := by decide +kernel
theorem dX8_shipLeftAt_4 : decode cX8_shipLeftAt 4 = .ok (.getfield 160, 3) := by decide +kernel
theorem dX8_shipLeftAt_7 : decode cX8_shipLeftAt 7 = .ok (.if_icmp .ge 24, 3) := by decide +kernel
theorem dX8_shipLeftAt_10 : decode cX8_shipLeftAt 10 = .ok (.aload_n 0, 1) := by decide +kernel
theorem dX8_shipLeftAt_11 : decode cX8_shipLeftAt 11 = .ok (.getfield 57, 3) := by decide +kernel
theorem dX8_shipLeftAt_14 : decode cX8_shipLeftAt 14 = .ok (.iload_n 2, 1) := by decide +kernel
theorem dX8_shipLeftAt_15 : decode cX8_shipLeftAt 15 = .ok (.aaload, 1) := by decide +kernel
theorem dX8_shipLeftAt_16 : decode cX8_shipLeftAt 16 = .ok (.getfield 204, 3) := by decide +kernel
theorem dX8_shipLeftAt_19 : decode cX8_shipLeftAt 19 = .ok (.iload_n 1, 1) := by decide +kernel
theorem dX8_shipLeftAt_20 : decode cX8_shipLeftAt 20 = .ok (.if_icmp .ne 5, 3) := by decide +kernel
theorem dX8_shipLeftAt_23 : decode cX8_shipLeftAt 23 = .ok (.iconst 1, 1) := by decide +kernel
theorem dX8_shipLeftAt_24 : decode cX8_shipLeftAt 24 = .ok (.ireturn, 1) := by decide +kernel
theorem dX8_shipLeftAt_25 : decode cX8_shipLeftAt 25 = .ok (.iinc 2 1, 3) := by decide +kernel
theorem dX8_shipLeftAt_28 : decode cX8_shipLeftAt 28 = .ok (.goto (-26), 3) := by decide +kernel
theorem dX8_shipLeftAt_31 : decode cX8_shipLeftAt 31 = .ok (.iconst 0, 1) := by decide +kernel
theorem dX8_shipLeftAt_32 : decode cX8_shipLeftAt 32 = .ok (.ireturn, 1) := by decide +kernel
theorem dX8_spreadPossible_0 : decode cX8_spreadPossible 0 = .ok (.aload_n 0, 1) := by decide +kernel
theorem dX8_spreadPossible_1 : decode cX8_spreadPossible 1 = .ok (.getfield 26, 3) := by decide +kernel
theorem dX8_spreadPossible_4 : decode cX8_spreadPossible 4 = .ok (.iconst 0, 1) := by decide +kernel
theorem dX8_spreadPossible_5 : decode cX8_spreadPossible 5 = .ok (.iload_n 2, 1) := by decide +kernel
theorem dX8_spreadPossible_6 : decode cX8_spreadPossible 6 = .ok (.invokevirtual 249, 3) := by decide +kernel
theorem dX8_spreadPossible_9 : decode cX8_spreadPossible 9 = .ok (.istore_n 3, 1) := by decide +kernel
theorem dX8_spreadPossible_10 : decode cX8_spreadPossible 10 = .ok (.iconst 0, 1) := by decide +kernel
theorem dX8_spreadPossible_11 : decode cX8_spreadPossible 11 = .ok (.istore 4, 2) := by decide +kernel
theorem dX8_spreadPossible_13 : decode cX8_spreadPossible 13 = .ok (.iload 4, 2) := by decide +kernel
theorem dX8_spreadPossible_15 : decode cX8_spreadPossible 15 = .ok (.bipush 96, 2) := by decide +kernel
theorem dX8_spreadPossible_17 : decode cX8_spreadPossible 17 = .ok (.if_icmp .ge 59, 3) := by decide +kernel
theorem dX8_spreadPossible_20 : decode cX8_spreadPossible 20 = .ok (.iload_n 3, 1) := by decide +kernel
theorem dX8_spreadPossible_21 : decode cX8_spreadPossible 21 = .ok (.ifCond .eq 55, 3) := by decide +kernel
theorem dX8_spreadPossible_24 : decode cX8_spreadPossible 24 = .ok (.iload 4, 2) := by decide +kernel
theorem dX8_spreadPossible_26 : decode cX8_spreadPossible 26 = .ok (.iload_n 3, 1) := by decide +kernel
theorem dX8_spreadPossible_27 : decode cX8_spreadPossible 27 = .ok (.invokestatic 262, 3) := by decide +kernel
theorem dX8_spreadPossible_30 : decode cX8_spreadPossible 30 = .ok (.istore 5, 2) := by decide +kernel
theorem dX8_spreadPossible_32 : decode cX8_spreadPossible 32 = .ok (.iload 5, 2) := by decide +kernel
theorem dX8_spreadPossible_34 : decode cX8_spreadPossible 34 = .ok (.iload_n 3, 1) := by decide +kernel
theorem dX8_spreadPossible_35 : decode cX8_spreadPossible 35 = .ok (.invokestatic 269, 3) := by decide +kernel
theorem dX8_spreadPossible_38 : decode cX8_spreadPossible 38 = .ok (.istore 6, 2) := by decide +kernel
theorem dX8_spreadPossible_40 : decode cX8_spreadPossible 40 = .ok (.aload_n 1, 1) := by decide +kernel
theorem dX8_spreadPossible_41 : decode cX8_spreadPossible 41 = .ok (.getfield 205, 3) := by decide +kernel
theorem dX8_spreadPossible_44 : decode cX8_spreadPossible 44 = .ok (.iload 5, 2) := by decide +kernel
theorem dX8_spreadPossible_46 : decode cX8_spreadPossible 46 = .ok (.baload, 1) := by decide +kernel
theorem dX8_spreadPossible_47 : decode cX8_spreadPossible 47 = .ok (.ifCond .eq 23, 3) := by decide +kernel
theorem dX8_spreadPossible_50 : decode cX8_spreadPossible 50 = .ok (.aload_n 0, 1) := by decide +kernel
theorem dX8_spreadPossible_51 : decode cX8_spreadPossible 51 = .ok (.getfield 12, 3) := by decide +kernel
theorem dX8_spreadPossible_54 : decode cX8_spreadPossible 54 = .ok (.iload 6, 2) := by decide +kernel
theorem dX8_spreadPossible_56 : decode cX8_spreadPossible 56 = .ok (.invokevirtual 97, 3) := by decide +kernel
theorem dX8_spreadPossible_59 : decode cX8_spreadPossible 59 = .ok (.ifCond .eq 11, 3) := by decide +kernel
theorem dX8_spreadPossible_62 : decode cX8_spreadPossible 62 = .ok (.aload_n 1, 1) := by decide +kernel
theorem dX8_spreadPossible_63 : decode cX8_spreadPossible 63 = .ok (.getfield 205, 3) := by decide +kernel
theorem dX8_spreadPossible_66 : decode cX8_spreadPossible 66 = .ok (.iload 6, 2) := by decide +kernel
theorem dX8_spreadPossible_68 : decode cX8_spreadPossible 68 = .ok (.iconst 1, 1) := by decide +kernel
theorem dX8_spreadPossible_69 : decode cX8_spreadPossible 69 = .ok (.bastore, 1) := by decide +kernel
theorem dX8_spreadPossible_70 : decode cX8_spreadPossible 70 = .ok (.iinc 4 1, 3) := by decide +kernel
theorem dX8_spreadPossible_73 : decode cX8_spreadPossible 73 = .ok (.goto (-60), 3) := by decide +kernel
theorem dX8_spreadPossible_76 : decode cX8_spreadPossible 76 = .ok (.return_, 1) := by decide +kernel
theorem dX8_isDoubtful_0 : decode cX8_isDoubtful 0 = .ok (.iconst 0, 1) := by decide +kernel
theorem dX8_isDoubtful_1 : decode cX8_isDoubtful 1 = .ok (.istore 5, 2) := by decide +kernel
theorem dX8_isDoubtful_3 : decode cX8_isDoubtful 3 = .ok (.iload 5, 2) := by decide +kernel
theorem dX8_isDoubtful_5 : decode cX8_isDoubtful 5 = .ok (.aload_n 0, 1) := by decide +kernel
theorem dX8_isDoubtful_6 : decode cX8_isDoubtful 6 = .ok (.getfield 160, 3) := by decide +kernel
theorem dX8_isDoubtful_9 : decode cX8_isDoubtful 9 = .ok (.if_icmp .ge 51, 3) := by decide +kernel
theorem dX8_isDoubtful_12 : decode cX8_isDoubtful 12 = .ok (.iload 5, 2) := by decide +kernel
theorem dX8_isDoubtful_14 : decode cX8_isDoubtful 14 = .ok (.iload_n 1, 1) := by decide +kernel
theorem dX8_isDoubtful_15 : decode cX8_isDoubtful 15 = .ok (.if_icmp .eq 39, 3) := by decide +kernel
theorem dX8_isDoubtful_18 : decode cX8_isDoubtful 18 = .ok (.aload_n 0, 1) := by decide +kernel
theorem dX8_isDoubtful_19 : decode cX8_isDoubtful 19 = .ok (.getfield 57, 3) := by decide +kernel
theorem dX8_isDoubtful_22 : decode cX8_isDoubtful 22 = .ok (.iload 5, 2) := by decide +kernel
theorem dX8_isDoubtful_24 : decode cX8_isDoubtful 24 = .ok (.aaload, 1) := by decide +kernel
theorem dX8_isDoubtful_25 : decode cX8_isDoubtful 25 = .ok (.getfield 205, 3) := by decide +kernel
theorem dX8_isDoubtful_28 : decode cX8_isDoubtful 28 = .ok (.iload_n 3, 1) := by decide +kernel
theorem dX8_isDoubtful_29 : decode cX8_isDoubtful 29 = .ok (.baload, 1) := by decide +kernel
theorem dX8_isDoubtful_30 : decode cX8_isDoubtful 30 = .ok (.ifCond .eq 24, 3) := by decide +kernel
theorem dX8_isDoubtful_33 : decode cX8_isDoubtful 33 = .ok (.aload_n 0, 1) := by decide +kernel
theorem dX8_isDoubtful_34 : decode cX8_isDoubtful 34 = .ok (.getfield 57, 3) := by decide +kernel
theorem dX8_isDoubtful_37 : decode cX8_isDoubtful 37 = .ok (.iload 5, 2) := by decide +kernel
theorem dX8_isDoubtful_39 : decode cX8_isDoubtful 39 = .ok (.aaload, 1) := by decide +kernel
theorem dX8_isDoubtful_40 : decode cX8_isDoubtful 40 = .ok (.getfield 201, 3) := by decide +kernel
theorem dX8_isDoubtful_43 : decode cX8_isDoubtful 43 = .ok (.iload 4, 2) := by decide +kernel
theorem dX8_isDoubtful_45 : decode cX8_isDoubtful 45 = .ok (.invokestatic 209, 3) := by decide +kernel
theorem dX8_isDoubtful_48 : decode cX8_isDoubtful 48 = .ok (.iload_n 2, 1) := by decide +kernel
theorem dX8_isDoubtful_49 : decode cX8_isDoubtful 49 = .ok (.if_icmp .ge 5, 3) := by decide +kernel
theorem dX8_isDoubtful_52 : decode cX8_isDoubtful 52 = .ok (.iconst 1, 1) := by decide +kernel
theorem dX8_isDoubtful_53 : decode cX8_isDoubtful 53 = .ok (.ireturn, 1) := by decide +kernel
theorem dX8_isDoubtful_54 : decode cX8_isDoubtful 54 = .ok (.iinc 5 1, 3) := by decide +kernel
theorem dX8_isDoubtful_57 : decode cX8_isDoubtful 57 = .ok (.goto (-54), 3) := by decide +kernel
theorem dX8_isDoubtful_60 : decode cX8_isDoubtful 60 = .ok (.iconst 0, 1) := by decide +kernel
theorem dX8_isDoubtful_61 : decode cX8_isDoubtful 61 = .ok (.ireturn, 1) := by decide +kernel
theorem dX8_markDifference_0 : decode cX8_markDifference 0 = .ok (.iconst 0, 1) := by decide +kernel
theorem dX8_markDifference_1 : decode cX8_markDifference 1 = .ok (.istore_n 2, 1) := by decide +kernel
theorem dX8_markDifference_2 : decode cX8_markDifference 2 = .ok (.iload_n 0, 1) := by decide +kernel
theorem dX8_markDifference_3 : decode cX8_markDifference 3 = .ok (.istore_n 3, 1) := by decide +kernel
theorem dX8_markDifference_4 : decode cX8_markDifference 4 = .ok (.iload_n 1, 1) := by decide +kernel
theorem dX8_markDifference_5 : decode cX8_markDifference 5 = .ok (.istore 4, 2) := by decide +kernel
theorem dX8_markDifference_7 : decode cX8_markDifference 7 = .ok (.iconst 0, 1) := by decide +kernel
theorem dX8_markDifference_8 : decode cX8_markDifference 8 = .ok (.istore 5, 2) := by decide +kernel
theorem dX8_markDifference_10 : decode cX8_markDifference 10 = .ok (.iload 5, 2) := by decide +kernel
theorem dX8_markDifference_12 : decode cX8_markDifference 12 = .ok (.bipush 6, 2) := by decide +kernel
theorem dX8_markDifference_14 : decode cX8_markDifference 14 = .ok (.if_icmp .ge 41, 3) := by decide +kernel
theorem dX8_markDifference_17 : decode cX8_markDifference 17 = .ok (.iload_n 3, 1) := by decide +kernel
theorem dX8_markDifference_18 : decode cX8_markDifference 18 = .ok (.bipush 10, 2) := by decide +kernel
theorem dX8_markDifference_20 : decode cX8_markDifference 20 = .ok (.irem, 1) := by decide +kernel
theorem dX8_markDifference_21 : decode cX8_markDifference 21 = .ok (.iload 4, 2) := by decide +kernel
theorem dX8_markDifference_23 : decode cX8_markDifference 23 = .ok (.bipush 10, 2) := by decide +kernel
theorem dX8_markDifference_25 : decode cX8_markDifference 25 = .ok (.irem, 1) := by decide +kernel
theorem dX8_markDifference_26 : decode cX8_markDifference 26 = .ok (.isub, 1) := by decide +kernel
theorem dX8_markDifference_27 : decode cX8_markDifference 27 = .ok (.istore 6, 2) := by decide +kernel
theorem dX8_markDifference_29 : decode cX8_markDifference 29 = .ok (.iload_n 2, 1) := by decide +kernel
theorem dX8_markDifference_30 : decode cX8_markDifference 30 = .ok (.iload 6, 2) := by decide +kernel
theorem dX8_markDifference_32 : decode cX8_markDifference 32 = .ok (.iload 6, 2) := by decide +kernel
theorem dX8_markDifference_34 : decode cX8_markDifference 34 = .ok (.imul, 1) := by decide +kernel
theorem dX8_markDifference_35 : decode cX8_markDifference 35 = .ok (.iadd, 1) := by decide +kernel
theorem dX8_markDifference_36 : decode cX8_markDifference 36 = .ok (.istore_n 2, 1) := by decide +kernel
theorem dX8_markDifference_37 : decode cX8_markDifference 37 = .ok (.iload_n 3, 1) := by decide +kernel
theorem dX8_markDifference_38 : decode cX8_markDifference 38 = .ok (.bipush 10, 2) := by decide +kernel
theorem dX8_markDifference_40 : decode cX8_markDifference 40 = .ok (.idiv, 1) := by decide +kernel
theorem dX8_markDifference_41 : decode cX8_markDifference 41 = .ok (.istore_n 3, 1) := by decide +kernel
theorem dX8_markDifference_42 : decode cX8_markDifference 42 = .ok (.iload 4, 2) := by decide +kernel
theorem dX8_markDifference_44 : decode cX8_markDifference 44 = .ok (.bipush 10, 2) := by decide +kernel
theorem dX8_markDifference_46 : decode cX8_markDifference 46 = .ok (.idiv, 1) := by decide +kernel
theorem dX8_markDifference_47 : decode cX8_markDifference 47 = .ok (.istore 4, 2) := by decide +kernel
theorem dX8_markDifference_49 : decode cX8_markDifference 49 = .ok (.iinc 5 1, 3) := by decide +kernel
theorem dX8_markDifference_52 : decode cX8_markDifference 52 = .ok (.goto (-42), 3) := by decide +kernel
theorem dX8_markDifference_55 : decode cX8_markDifference 55 = .ok (.iload_n 2, 1) := by decide +kernel
theorem dX8_markDifference_56 : decode cX8_markDifference 56 = .ok (.ireturn, 1) := by decide +kernel
theorem dX8_litersSkimmed_0 : decode cX8_litersSkimmed 0 = .ok (.iconst 0, 1) := by decide +kernel
theorem dX8_litersSkimmed_1 : decode cX8_litersSkimmed 1 = .ok (.istore_n 1, 1) := by decide +kernel
theorem dX8_litersSkimmed_2 : decode cX8_litersSkimmed 2 = .ok (.iconst 0, 1) := by decide +kernel
theorem dX8_litersSkimmed_3 : decode cX8_litersSkimmed 3 = .ok (.istore_n 2, 1) := by decide +kernel
theorem dX8_litersSkimmed_4 : decode cX8_litersSkimmed 4 = .ok (.iload_n 2, 1) := by decide +kernel
theorem dX8_litersSkimmed_5 : decode cX8_litersSkimmed 5 = .ok (.aload_n 0, 1) := by decide +kernel
theorem dX8_litersSkimmed_6 : decode cX8_litersSkimmed 6 = .ok (.getfield 33, 3) := by decide +kernel
theorem dX8_litersSkimmed_9 : decode cX8_litersSkimmed 9 = .ok (.getfield 170, 3) := by decide +kernel
theorem dX8_litersSkimmed_12 : decode cX8_litersSkimmed 12 = .ok (.if_icmp .ge 34, 3) := by decide +kernel
theorem dX8_litersSkimmed_15 : decode cX8_litersSkimmed 15 = .ok (.iload_n 1, 1) := by decide +kernel
theorem dX8_litersSkimmed_16 : decode cX8_litersSkimmed 16 = .ok (.aload_n 0, 1) := by decide +kernel
theorem dX8_litersSkimmed_17 : decode cX8_litersSkimmed 17 = .ok (.getfield 33, 3) := by decide +kernel
theorem dX8_litersSkimmed_20 : decode cX8_litersSkimmed 20 = .ok (.getfield 126, 3) := by decide +kernel
theorem dX8_litersSkimmed_23 : decode cX8_litersSkimmed 23 = .ok (.iload_n 2, 1) := by decide +kernel
theorem dX8_litersSkimmed_24 : decode cX8_litersSkimmed 24 = .ok (.aaload, 1) := by decide +kernel
theorem dX8_litersSkimmed_25 : decode cX8_litersSkimmed 25 = .ok (.getfield 148, 3) := by decide +kernel
theorem dX8_litersSkimmed_28 : decode cX8_litersSkimmed 28 = .ok (.aload_n 0, 1) := by decide +kernel
theorem dX8_litersSkimmed_29 : decode cX8_litersSkimmed 29 = .ok (.getfield 40, 3) := by decide +kernel
theorem dX8_litersSkimmed_32 : decode cX8_litersSkimmed 32 = .ok (.getfield 145, 3) := by decide +kernel
theorem dX8_litersSkimmed_35 : decode cX8_litersSkimmed 35 = .ok (.iload_n 2, 1) := by decide +kernel
theorem dX8_litersSkimmed_36 : decode cX8_litersSkimmed 36 = .ok (.iaload, 1) := by decide +kernel
theorem dX8_litersSkimmed_37 : decode cX8_litersSkimmed 37 = .ok (.iadd, 1) := by decide +kernel
theorem dX8_litersSkimmed_38 : decode cX8_litersSkimmed 38 = .ok (.iadd, 1) := by decide +kernel
theorem dX8_litersSkimmed_39 : decode cX8_litersSkimmed 39 = .ok (.istore_n 1, 1) := by decide +kernel
theorem dX8_litersSkimmed_40 : decode cX8_litersSkimmed 40 = .ok (.iinc 2 1, 3) := by decide +kernel
theorem dX8_litersSkimmed_43 : decode cX8_litersSkimmed 43 = .ok (.goto (-39), 3) := by decide +kernel
theorem dX8_litersSkimmed_46 : decode cX8_litersSkimmed 46 = .ok (.iload_n 1, 1) := by decide +kernel
theorem dX8_litersSkimmed_47 : decode cX8_litersSkimmed 47 = .ok (.ireturn, 1) := by decide +kernel
theorem dX8_wholeBill_0 : decode cX8_wholeBill 0 = .ok (.iconst 2, 1) := by decide +kernel
theorem dX8_wholeBill_1 : decode cX8_wholeBill 1 = .ok (.aload_n 0, 1) := by decide +kernel
theorem dX8_wholeBill_2 : decode cX8_wholeBill 2 = .ok (.invokevirtual 236, 3) := by decide +kernel
theorem dX8_wholeBill_5 : decode cX8_wholeBill 5 = .ok (.imul, 1) := by decide +kernel
theorem dX8_wholeBill_6 : decode cX8_wholeBill 6 = .ok (.bipush 50, 2) := by decide +kernel
theorem dX8_wholeBill_8 : decode cX8_wholeBill 8 = .ok (.aload_n 0, 1) := by decide +kernel
theorem dX8_wholeBill_9 : decode cX8_wholeBill 9 = .ok (.getfield 167, 3) := by decide +kernel
theorem dX8_wholeBill_12 : decode cX8_wholeBill 12 = .ok (.imul, 1) := by decide +kernel
theorem dX8_wholeBill_13 : decode cX8_wholeBill 13 = .ok (.iadd, 1) := by decide +kernel
theorem dX8_wholeBill_14 : decode cX8_wholeBill 14 = .ok (.bipush 10, 2) := by decide +kernel
theorem dX8_wholeBill_16 : decode cX8_wholeBill 16 = .ok (.aload_n 0, 1) := by decide +kernel
theorem dX8_wholeBill_17 : decode cX8_wholeBill 17 = .ok (.aload_n 0, 1) := by decide +kernel
theorem dX8_wholeBill_18 : decode cX8_wholeBill 18 = .ok (.getfield 40, 3) := by decide +kernel
theorem dX8_wholeBill_21 : decode cX8_wholeBill 21 = .ok (.invokevirtual 239, 3) := by decide +kernel
theorem dX8_wholeBill_24 : decode cX8_wholeBill 24 = .ok (.imul, 1) := by decide +kernel
theorem dX8_wholeBill_25 : decode cX8_wholeBill 25 = .ok (.iadd, 1) := by decide +kernel
theorem dX8_wholeBill_26 : decode cX8_wholeBill 26 = .ok (.ireturn, 1) := by decide +kernel
theorem dX8_shareOf_0 : decode cX8_shareOf 0 = .ok (.iload_n 3, 1) := by decide +kernel
theorem dX8_shareOf_1 : decode cX8_shareOf 1 = .ok (.ifCond .ne 5, 3) := by decide +kernel
theorem dX8_shareOf_4 : decode cX8_shareOf 4 = .ok (.iconst 0, 1) := by decide +kernel
theorem dX8_shareOf_5 : decode cX8_shareOf 5 = .ok (.ireturn, 1) := by decide +kernel
theorem dX8_shareOf_6 : decode cX8_shareOf 6 = .ok (.iload_n 2, 1) := by decide +kernel
theorem dX8_shareOf_7 : decode cX8_shareOf 7 = .ok (.istore 4, 2) := by decide +kernel
theorem dX8_shareOf_9 : decode cX8_shareOf 9 = .ok (.iconst 0, 1) := by decide +kernel
theorem dX8_shareOf_10 : decode cX8_shareOf 10 = .ok (.istore 5, 2) := by decide +kernel
theorem dX8_shareOf_12 : decode cX8_shareOf 12 = .ok (.iload_n 2, 1) := by decide +kernel
theorem dX8_shareOf_13 : decode cX8_shareOf 13 = .ok (.aload_n 0, 1) := by decide +kernel
theorem dX8_shareOf_14 : decode cX8_shareOf 14 = .ok (.getfield 62, 3) := by decide +kernel
theorem dX8_shareOf_17 : decode cX8_shareOf 17 = .ok (.iload_n 1, 1) := by decide +kernel
theorem dX8_shareOf_18 : decode cX8_shareOf 18 = .ok (.iaload, 1) := by decide +kernel
theorem dX8_shareOf_19 : decode cX8_shareOf 19 = .ok (.imul, 1) := by decide +kernel
theorem dX8_shareOf_20 : decode cX8_shareOf 20 = .ok (.iload_n 3, 1) := by decide +kernel
theorem dX8_shareOf_21 : decode cX8_shareOf 21 = .ok (.irem, 1) := by decide +kernel
theorem dX8_shareOf_22 : decode cX8_shareOf 22 = .ok (.istore 6, 2) := by decide +kernel
theorem dX8_shareOf_24 : decode cX8_shareOf 24 = .ok (.iconst 0, 1) := by decide +kernel
theorem dX8_shareOf_25 : decode cX8_shareOf 25 = .ok (.istore 7, 2) := by decide +kernel
theorem dX8_shareOf_27 : decode cX8_shareOf 27 = .ok (.iload 7, 2) := by decide +kernel
theorem dX8_shareOf_29 : decode cX8_shareOf 29 = .ok (.iconst 4, 1) := by decide +kernel
theorem dX8_shareOf_30 : decode cX8_shareOf 30 = .ok (.if_icmp .ge 61, 3) := by decide +kernel
theorem dX8_shareOf_33 : decode cX8_shareOf 33 = .ok (.iload 4, 2) := by decide +kernel
theorem dX8_shareOf_35 : decode cX8_shareOf 35 = .ok (.iload_n 2, 1) := by decide +kernel
theorem dX8_shareOf_36 : decode cX8_shareOf 36 = .ok (.aload_n 0, 1) := by decide +kernel
theorem dX8_shareOf_37 : decode cX8_shareOf 37 = .ok (.getfield 62, 3) := by decide +kernel
theorem dX8_shareOf_40 : decode cX8_shareOf 40 = .ok (.iload 7, 2) := by decide +kernel
theorem dX8_shareOf_42 : decode cX8_shareOf 42 = .ok (.iaload, 1) := by decide +kernel
theorem dX8_shareOf_43 : decode cX8_shareOf 43 = .ok (.imul, 1) := by decide +kernel
theorem dX8_shareOf_44 : decode cX8_shareOf 44 = .ok (.iload_n 3, 1) := by decide +kernel
theorem dX8_shareOf_45 : decode cX8_shareOf 45 = .ok (.idiv, 1) := by decide +kernel
theorem dX8_shareOf_46 : decode cX8_shareOf 46 = .ok (.isub, 1) := by decide +kernel
theorem dX8_shareOf_47 : decode cX8_shareOf 47 = .ok (.istore 4, 2) := by decide +kernel
theorem dX8_shareOf_49 : decode cX8_shareOf 49 = .ok (.iload_n 2, 1) := by decide +kernel
theorem dX8_shareOf_50 : decode cX8_shareOf 50 = .ok (.aload_n 0, 1) := by decide +kernel
theorem dX8_shareOf_51 : decode cX8_shareOf 51 = .ok (.getfield 62, 3) := by decide +kernel
theorem dX8_shareOf_54 : decode cX8_shareOf 54 = .ok (.iload 7, 2) := by decide +kernel
theorem dX8_shareOf_56 : decode cX8_shareOf 56 = .ok (.iaload, 1) := by decide +kernel
theorem dX8_shareOf_57 : decode cX8_shareOf 57 = .ok (.imul, 1) := by decide +kernel
theorem dX8_shareOf_58 : decode cX8_shareOf 58 = .ok (.iload_n 3, 1) := by decide +kernel
theorem dX8_shareOf_59 : decode cX8_shareOf 59 = .ok (.irem, 1) := by decide +kernel
theorem dX8_shareOf_60 : decode cX8_shareOf 60 = .ok (.istore 8, 2) := by decide +kernel
theorem dX8_shareOf_62 : decode cX8_shareOf 62 = .ok (.iload 8, 2) := by decide +kernel
theorem dX8_shareOf_64 : decode cX8_shareOf 64 = .ok (.iload 6, 2) := by decide +kernel
theorem dX8_shareOf_66 : decode cX8_shareOf 66 = .ok (.if_icmp .gt 16, 3) := by decide +kernel
theorem dX8_shareOf_69 : decode cX8_shareOf 69 = .ok (.iload 8, 2) := by decide +kernel
theorem dX8_shareOf_71 : decode cX8_shareOf 71 = .ok (.iload 6, 2) := by decide +kernel
theorem dX8_shareOf_73 : decode cX8_shareOf 73 = .ok (.if_icmp .ne 12, 3) := by decide +kernel
theorem dX8_shareOf_76 : decode cX8_shareOf 76 = .ok (.iload 7, 2) := by decide +kernel
theorem dX8_shareOf_78 : decode cX8_shareOf 78 = .ok (.iload_n 1, 1) := by decide +kernel
theorem dX8_shareOf_79 : decode cX8_shareOf 79 = .ok (.if_icmp .ge 6, 3) := by decide +kernel
theorem dX8_shareOf_82 : decode cX8_shareOf 82 = .ok (.iinc 5 1, 3) := by decide +kernel
theorem dX8_shareOf_85 : decode cX8_shareOf 85 = .ok (.iinc 7 1, 3) := by decide +kernel
theorem dX8_shareOf_88 : decode cX8_shareOf 88 = .ok (.goto (-61), 3) := by decide +kernel
theorem dX8_shareOf_91 : decode cX8_shareOf 91 = .ok (.iload_n 2, 1) := by decide +kernel
theorem dX8_shareOf_92 : decode cX8_shareOf 92 = .ok (.aload_n 0, 1) := by decide +kernel
theorem dX8_shareOf_93 : decode cX8_shareOf 93 = .ok (.getfield 62, 3) := by decide +kernel
theorem dX8_shareOf_96 : decode cX8_shareOf 96 = .ok (.iload_n 1, 1) := by decide +kernel
theorem dX8_shareOf_97 : decode cX8_shareOf 97 = .ok (.iaload, 1) := by decide +kernel
theorem dX8_shareOf_98 : decode cX8_shareOf 98 = .ok (.imul, 1) := by decide +kernel
theorem dX8_shareOf_99 : decode cX8_shareOf 99 = .ok (.iload_n 3, 1) := by decide +kernel
theorem dX8_shareOf_100 : decode cX8_shareOf 100 = .ok (.idiv, 1) := by decide +kernel
theorem dX8_shareOf_101 : decode cX8_shareOf 101 = .ok (.iload 5, 2) := by decide +kernel
theorem dX8_shareOf_103 : decode cX8_shareOf 103 = .ok (.iload 4, 2) := by decide +kernel
theorem dX8_shareOf_105 : decode cX8_shareOf 105 = .ok (.if_icmp .ge 7, 3) := by decide +kernel
theorem dX8_shareOf_108 : decode cX8_shareOf 108 = .ok (.iconst 1, 1) := by decide +kernel
theorem dX8_shareOf_109 : decode cX8_shareOf 109 = .ok (.goto 4, 3) := by decide +kernel
theorem dX8_shareOf_112 : decode cX8_shareOf 112 = .ok (.iconst 0, 1) := by decide +kernel
theorem dX8_shareOf_113 : decode cX8_shareOf 113 = .ok (.iadd, 1) := by decide +kernel
theorem dX8_shareOf_114 : decode cX8_shareOf 114 = .ok (.ireturn, 1) := by decide +kernel
end
section
theorem dX9_init_0 : decode cX9_init 0 = .ok (.aload_n 0, 1) := by decide +kernel
theorem dX9_init_1 : decode cX9_init 1 = .ok (.invokespecial 3, 3) := by decide +kernel
theorem dX9_init_4 : decode cX9_init 4 = .ok (.aload_n 0, 1) := by decide +kernel
theorem dX9_init_5 : decode cX9_init 5 = .ok (.bipush 96, 2) := by decide +kernel
theorem dX9_init_7 : decode cX9_init 7 = .ok (.newarray .int, 2) := by decide +kernel
theorem dX9_init_9 : decode cX9_init 9 = .ok (.putfield 9, 3) := by decide +kernel
theorem dX9_init_12 : decode cX9_init 12 = .ok (.aload_n 0, 1) := by decide +kernel
theorem dX9_init_13 : decode cX9_init 13 = .ok (.bipush 96, 2) := by decide +kernel
theorem dX9_init_15 : decode cX9_init 15 = .ok (.newarray .int, 2) := by decide +kernel
theorem dX9_init_17 : decode cX9_init 17 = .ok (.putfield 13, 3) := by decide +kernel
theorem dX9_init_20 : decode cX9_init 20 = .ok (.aload_n 0, 1) := by decide +kernel
theorem dX9_init_21 : decode cX9_init 21 = .ok (.sipush 1503, 3) := by decide +kernel
theorem dX9_init_24 : decode cX9_init 24 = .ok (.newarray .int, 2) := by decide +kernel
theorem dX9_init_26 : decode cX9_init 26 = .ok (.putfield 16, 3) := by decide +kernel
theorem dX9_init_29 : decode cX9_init 29 = .ok (.aload_n 0, 1) := by decide +kernel
theorem dX9_init_30 : decode cX9_init 30 = .ok (.sipush 1503, 3) := by decide +kernel
theorem dX9_init_33 : decode cX9_init 33 = .ok (.newarray .int, 2) := by decide +kernel
theorem dX9_init_35 : decode cX9_init 35 = .ok (.putfield 19, 3) := by decide +kernel
theorem dX9_init_38 : decode cX9_init 38 = .ok (.aload_n 0, 1) := by decide +kernel
theorem dX9_init_39 : decode cX9_init 39 = .ok (.bipush 20, 2) := by decide +kernel
theorem dX9_init_41 : decode cX9_init 41 = .ok (.newarray .boolean, 2) := by decide +kernel
theorem dX9_init_43 : decode cX9_init 43 = .ok (.putfield 22, 3) := by decide +kernel
theorem dX9_init_46 : decode cX9_init 46 = .ok (.aload_n 0, 1) := by decide +kernel
theorem dX9_init_47 : decode cX9_init 47 = .ok (.bipush 20, 2) := by decide +kernel
theorem dX9_init_49 : decode cX9_init 49 = .ok (.newarray .int, 2) := by decide +kernel
theorem dX9_init_51 : decode cX9_init 51 = .ok (.putfield 26, 3) := by decide +kernel
theorem dX9_init_54 : decode cX9_init 54 = .ok (.aload_n 0, 1) := by decide +kernel
theorem dX9_init_55 : decode cX9_init 55 = .ok (.bipush 20, 2) := by decide +kernel
theorem dX9_init_57 : decode cX9_init 57 = .ok (.newarray .int, 2) := by decide +kernel
theorem dX9_init_59 : decode cX9_init 59 = .ok (.putfield 29, 3) := by decide +kernel
theorem dX9_init_62 : decode cX9_init 62 = .ok (.aload_n 0, 1) := by decide +kernel
theorem dX9_init_63 : decode cX9_init 63 = .ok (.bipush 20, 2) := by decide +kernel
theorem dX9_init_65 : decode cX9_init 65 = .ok (.newarray .int, 2) := by decide +kernel
theorem dX9_init_67 : decode cX9_init 67 = .ok (.putfield 32, 3) := by decide +kernel
theorem dX9_init_70 : decode cX9_init 70 = .ok (.aload_n 0, 1) := by decide +kernel
theorem dX9_init_71 : decode cX9_init 71 = .ok (.iconst (-1), 1) := by decide +kernel
theorem dX9_init_72 : decode cX9_init 72 = .ok (.putfield 35, 3) := by decide +kernel
theorem dX9_init_75 : decode cX9_init 75 = .ok (.aload_n 0, 1) := by decide +kernel
theorem dX9_init_76 : decode cX9_init 76 = .ok (.iconst 4, 1) := by decide +kernel
theorem dX9_init_77 : decode cX9_init 77 = .ok (.newarray .int, 2) := by decide +kernel
theorem dX9_init_79 : decode cX9_init 79 = .ok (.putfield 39, 3) := by decide +kernel
theorem dX9_init_82 : decode cX9_init 82 = .ok (.aload_n 0, 1) := by decide +kernel
theorem dX9_init_83 : decode cX9_init 83 = .ok (.iconst 4, 1) := by decide +kernel
theorem dX9_init_84 : decode cX9_init 84 = .ok (.newarray .int, 2) := by decide +kernel
theorem dX9_init_86 : decode cX9_init 86 = .ok (.putfield 42, 3) := by decide +kernel
theorem dX9_init_89 : decode cX9_init 89 = .ok (.aload_n 0, 1) := by decide +kernel
theorem dX9_init_90 : decode cX9_init 90 = .ok (.iconst 4, 1) := by decide +kernel
theorem dX9_init_91 : decode cX9_init 91 = .ok (.newarray .int, 2) := by decide +kernel
theorem dX9_init_93 : decode cX9_init 93 = .ok (.putfield 45, 3) := by decide +kernel
theorem dX9_init_96 : decode cX9_init 96 = .ok (.aload_n 0, 1) := by decide +kernel
theorem dX9_init_97 : decode cX9_init 97 = .ok (.iconst 4, 1) := by decide +kernel
theorem dX9_init_98 : decode cX9_init 98 = .ok (.newarray .int, 2) := by decide +kernel
theorem dX9_init_100 : decode cX9_init 100 = .ok (.putfield 48, 3) := by decide +kernel
theorem dX9_init_103 : decode cX9_init 103 = .ok (.aload_n 0, 1) := by decide +kernel
theorem dX9_init_104 : decode cX9_init 104 = .ok (.iconst 4, 1) := by decide +kernel
theorem dX9_init_105 : decode cX9_init 105 = .ok (.newarray .int, 2) := by decide +kernel
theorem dX9_init_107 : decode cX9_init 107 = .ok (.putfield 51, 3) := by decide +kernel
theorem dX9_init_110 : decode cX9_init 110 = .ok (.aload_n 0, 1) := by decide +kernel
theorem dX9_init_111 : decode cX9_init 111 = .ok (.iconst 4, 1) := by decide +kernel
theorem dX9_init_112 : decode cX9_init 112 = .ok (.newarray .int, 2) := by decide +kernel
theorem dX9_init_114 : decode cX9_init 114 = .ok (.putfield 54, 3) := by decide +kernel
theorem dX9_init_117 : decode cX9_init 117 = .ok (.aload_n 0, 1) := by decide +kernel
theorem dX9_init_118 : decode cX9_init 118 = .ok (.iconst 4, 1) := by decide +kernel
theorem dX9_init_119 : decode cX9_init 119 = .ok (.newarray .int, 2) := by decide +kernel
theorem dX9_init_121 : decode cX9_init 121 = .ok (.putfield 57, 3) := by decide +kernel
theorem dX9_init_124 : decode cX9_init 124 = .ok (.aload_n 0, 1) := by decide +kernel
theorem dX9_init_125 : decode cX9_init 125 = .ok (.iconst 4, 1) := by decide +kernel
theorem dX9_init_126 : decode cX9_init 126 = .ok (.newarray .boolean, 2) := by decide +kernel
theorem dX9_init_128 : decode cX9_init 128 = .ok (.putfield 60, 3) := by decide +kernel
theorem dX9_init_131 : decode cX9_init 131 = .ok (.aload_n 0, 1) := by decide +kernel
theorem dX9_init_132 : decode cX9_init 132 = .ok (.bipush 8, 2) := by decide +kernel
theorem dX9_init_134 : decode cX9_init 134 = .ok (.newarray .int, 2) := by decide +kernel
theorem dX9_init_136 : decode cX9_init 136 = .ok (.putfield 63, 3) := by decide +kernel
theorem dX9_init_139 : decode cX9_init 139 = .ok (.aload_n 0, 1) := by decide +kernel
theorem dX9_init_140 : decode cX9_init 140 = .ok (.bipush 8, 2) := by decide +kernel
theorem dX9_init_142 : decode cX9_init 142 = .ok (.newarray .int, 2) := by decide +kernel
theorem dX9_init_144 : decode cX9_init 144 = .ok (.putfield 66, 3) := by decide +kernel
theorem dX9_init_147 : decode cX9_init 147 = .ok (.aload_n 0, 1) := by decide +kernel
theorem dX9_init_148 : decode cX9_init 148 = .ok (.bipush 8, 2) := by decide +kernel
theorem dX9_init_150 : decode cX9_init 150 = .ok (.newarray .int, 2) := by decide +kernel
theorem dX9_init_152 : decode cX9_init 152 = .ok (.putfield 69, 3) := by decide +kernel
theorem dX9_init_155 : decode cX9_init 155 = .ok (.aload_n 0, 1) := by decide +kernel
theorem dX9_init_156 : decode cX9_init 156 = .ok (.iconst 4, 1) := by decide +kernel
theorem dX9_init_157 : decode cX9_init 157 = .ok (.newarray .int, 2) := by decide +kernel
theorem dX9_init_159 : decode cX9_init 159 = .ok (.putfield 72, 3) := by decide +kernel
theorem dX9_init_162 : decode cX9_init 162 = .ok (.aload_n 0, 1) := by decide +kernel
theorem dX9_init_163 : decode cX9_init 163 = .ok (.bipush 96, 2) := by decide +kernel
theorem dX9_init_165 : decode cX9_init 165 = .ok (.newarray .int, 2) := by decide +kernel
theorem dX9_init_167 : decode cX9_init 167 = .ok (.putfield 75, 3) := by decide +kernel
theorem dX9_init_170 : decode cX9_init 170 = .ok (.aload_n 0, 1) := by decide +kernel
theorem dX9_init_171 : decode cX9_init 171 = .ok (.sipush 448, 3) := by decide +kernel
theorem dX9_init_174 : decode cX9_init 174 = .ok (.newarray .int, 2) := by decide +kernel
theorem dX9_init_176 : decode cX9_init 176 = .ok (.putfield 78, 3) := by decide +kernel
theorem dX9_init_179 : decode cX9_init 179 = .ok (.aload_n 0, 1) := by decide +kernel
theorem dX9_init_180 : decode cX9_init 180 = .ok (.bipush 96, 2) := by decide +kernel
theorem dX9_init_182 : decode cX9_init 182 = .ok (.newarray .boolean, 2) := by decide +kernel
theorem dX9_init_184 : decode cX9_init 184 = .ok (.putfield 81, 3) := by decide +kernel
theorem dX9_init_187 : decode cX9_init 187 = .ok (.aload_n 0, 1) := by decide +kernel
theorem dX9_init_188 : decode cX9_init 188 = .ok (.bipush 96, 2) := by decide +kernel
theorem dX9_init_190 : decode cX9_init 190 = .ok (.newarray .boolean, 2) := by decide +kernel
theorem dX9_init_192 : decode cX9_init 192 = .ok (.putfield 84, 3) := by decide +kernel
theorem dX9_init_195 : decode cX9_init 195 = .ok (.aload_n 0, 1) := by decide +kernel
theorem dX9_init_196 : decode cX9_init 196 = .ok (.iconst 4, 1) := by decide +kernel
theorem dX9_init_197 : decode cX9_init 197 = .ok (.newarray .int, 2) := by decide +kernel
theorem dX9_init_199 : decode cX9_init 199 = .ok (.putfield 87, 3) := by decide +kernel
theorem dX9_init_202 : decode cX9_init 202 = .ok (.aload_n 0, 1) := by decide +kernel
theorem dX9_init_203 : decode cX9_init 203 = .ok (.iconst 4, 1) := by decide +kernel
theorem dX9_init_204 : decode cX9_init 204 = .ok (.newarray .int, 2) := by decide +kernel
theorem dX9_init_206 : decode cX9_init 206 = .ok (.putfield 90, 3) := by decide +kernel
theorem dX9_init_209 : decode cX9_init 209 = .ok (.return_, 1) := by decide +kernel
theorem dX9_in_0 : decode cX9_in 0 = .ok (.iload_n 0, 1) := by decide +kernel
theorem dX9_in_1 : decode cX9_in 1 = .ok (.iload_n 1, 1) := by decide +kernel
theorem dX9_in_2 : decode cX9_in 2 = .ok (.if_icmp .lt 12, 3) := by decide +kernel
theorem dX9_in_5 : decode cX9_in 5 = .ok (.iload_n 0, 1) := by decide +kernel
theorem dX9_in_6 : decode cX9_in 6 = .ok (.iload_n 2, 1) := by decide +kernel
theorem dX9_in_7 : decode cX9_in 7 = .ok (.if_icmp .gt 7, 3) := by decide +kernel
theorem dX9_in_10 : decode cX9_in 10 = .ok (.iconst 1, 1) := by decide +kernel
theorem dX9_in_11 : decode cX9_in 11 = .ok (.goto 4, 3) := by decide +kernel
theorem dX9_in_14 : decode cX9_in 14 = .ok (.iconst 0, 1) := by decide +kernel
theorem dX9_in_15 : decode cX9_in 15 = .ok (.ireturn, 1) := by decide +kernel
theorem dX9_isCell_0 : decode cX9_isCell 0 = .ok (.iload_n 0, 1) := by decide +kernel
theorem dX9_isCell_1 : decode cX9_isCell 1 = .ok (.iconst 0, 1) := by decide +kernel
theorem dX9_isCell_2 : decode cX9_isCell 2 = .ok (.bipush 95, 2) := by decide +kernel
theorem dX9_isCell_4 : decode cX9_isCell 4 = .ok (.invokestatic 93, 3) := by decide +kernel
theorem dX9_isCell_7 : decode cX9_isCell 7 = .ok (.ireturn, 1) := by decide +kernel
theorem dX9_isSea_0 : decode cX9_isSea 0 = .ok (.iload_n 1, 1) := by decide +kernel
theorem dX9_isSea_1 : decode cX9_isSea 1 = .ok (.invokestatic 97, 3) := by decide +kernel
theorem dX9_isSea_4 : decode cX9_isSea 4 = .ok (.ifCond .eq 16, 3) := by decide +kernel
theorem dX9_isSea_7 : decode cX9_isSea 7 = .ok (.aload_n 0, 1) := by decide +kernel
theorem dX9_isSea_8 : decode cX9_isSea 8 = .ok (.getfield 9, 3) := by decide +kernel
theorem dX9_isSea_11 : decode cX9_isSea 11 = .ok (.iload_n 1, 1) := by decide +kernel
theorem dX9_isSea_12 : decode cX9_isSea 12 = .ok (.iaload, 1) := by decide +kernel
theorem dX9_isSea_13 : decode cX9_isSea 13 = .ok (.ifCond .ne 7, 3) := by decide +kernel
theorem dX9_isSea_16 : decode cX9_isSea 16 = .ok (.iconst 1, 1) := by decide +kernel
theorem dX9_isSea_17 : decode cX9_isSea 17 = .ok (.goto 4, 3) := by decide +kernel
theorem dX9_isSea_20 : decode cX9_isSea 20 = .ok (.iconst 0, 1) := by decide +kernel
theorem dX9_isSea_21 : decode cX9_isSea 21 = .ok (.ireturn, 1) := by decide +kernel
theorem dX9_isSkimmer_0 : decode cX9_isSkimmer 0 = .ok (.iload_n 1, 1) := by decide +kernel
theorem dX9_isSkimmer_1 : decode cX9_isSkimmer 1 = .ok (.iconst 0, 1) := by decide +kernel
theorem dX9_isSkimmer_2 : decode cX9_isSkimmer 2 = .ok (.aload_n 0, 1) := by decide +kernel
theorem dX9_isSkimmer_3 : decode cX9_isSkimmer 3 = .ok (.getfield 101, 3) := by decide +kernel
theorem dX9_isSkimmer_6 : decode cX9_isSkimmer 6 = .ok (.iconst 1, 1) := by decide +kernel
theorem dX9_isSkimmer_7 : decode cX9_isSkimmer 7 = .ok (.isub, 1) := by decide +kernel
theorem dX9_isSkimmer_8 : decode cX9_isSkimmer 8 = .ok (.invokestatic 93, 3) := by decide +kernel
theorem dX9_isSkimmer_11 : decode cX9_isSkimmer 11 = .ok (.ireturn, 1) := by decide +kernel
theorem dX9_shore_0 : decode cX9_shore 0 = .ok (.iload_n 1, 1) := by decide +kernel
theorem dX9_shore_1 : decode cX9_shore 1 = .ok (.invokestatic 97, 3) := by decide +kernel
theorem dX9_shore_4 : decode cX9_shore 4 = .ok (.ifCond .eq 29, 3) := by decide +kernel
theorem dX9_shore_7 : decode cX9_shore 7 = .ok (.iload_n 2, 1) := by decide +kernel
theorem dX9_shore_8 : decode cX9_shore 8 = .ok (.iconst 0, 1) := by decide +kernel
theorem dX9_shore_9 : decode cX9_shore 9 = .ok (.bipush 9, 2) := by decide +kernel
theorem dX9_shore_11 : decode cX9_shore 11 = .ok (.invokestatic 93, 3) := by decide +kernel
theorem dX9_shore_14 : decode cX9_shore 14 = .ok (.ifCond .eq 19, 3) := by decide +kernel
theorem dX9_shore_17 : decode cX9_shore 17 = .ok (.aload_n 0, 1) := by decide +kernel
theorem dX9_shore_18 : decode cX9_shore 18 = .ok (.getfield 104, 3) := by decide +kernel
theorem dX9_shore_21 : decode cX9_shore 21 = .ok (.ifCond .gt 12, 3) := by decide +kernel
theorem dX9_shore_24 : decode cX9_shore 24 = .ok (.aload_n 0, 1) := by decide +kernel
theorem dX9_shore_25 : decode cX9_shore 25 = .ok (.getfield 13, 3) := by decide +kernel
theorem dX9_shore_28 : decode cX9_shore 28 = .ok (.iload_n 1, 1) := by decide +kernel
theorem dX9_shore_29 : decode cX9_shore 29 = .ok (.iaload, 1) := by decide +kernel
theorem dX9_shore_30 : decode cX9_shore 30 = .ok (.ifCond .le 5, 3) := by decide +kernel
theorem dX9_shore_33 : decode cX9_shore 33 = .ok (.iconst 0, 1) := by decide +kernel
theorem dX9_shore_34 : decode cX9_shore 34 = .ok (.ireturn, 1) := by decide +kernel
theorem dX9_shore_35 : decode cX9_shore 35 = .ok (.iconst 0, 1) := by decide +kernel
theorem dX9_shore_36 : decode cX9_shore 36 = .ok (.istore_n 3, 1) := by decide +kernel
theorem dX9_shore_37 : decode cX9_shore 37 = .ok (.iload_n 3, 1) := by decide +kernel
theorem dX9_shore_38 : decode cX9_shore 38 = .ok (.aload_n 0, 1) := by decide +kernel
theorem dX9_shore_39 : decode cX9_shore 39 = .ok (.getfield 101, 3) := by decide +kernel
theorem dX9_shore_42 : decode cX9_shore 42 = .ok (.if_icmp .ge 21, 3) := by decide +kernel
theorem dX9_shore_45 : decode cX9_shore 45 = .ok (.aload_n 0, 1) := by decide +kernel
theorem dX9_shore_46 : decode cX9_shore 46 = .ok (.getfield 39, 3) := by decide +kernel
theorem dX9_shore_49 : decode cX9_shore 49 = .ok (.iload_n 3, 1) := by decide +kernel
theorem dX9_shore_50 : decode cX9_shore 50 = .ok (.iaload, 1) := by decide +kernel
theorem dX9_shore_51 : decode cX9_shore 51 = .ok (.iload_n 1, 1) := by decide +kernel
theorem dX9_shore_52 : decode cX9_shore 52 = .ok (.if_icmp .ne 5, 3) := by decide +kernel
theorem dX9_shore_55 : decode cX9_shore 55 = .ok (.iconst 0, 1) := by decide +kernel
theorem dX9_shore_56 : decode cX9_shore 56 = .ok (.ireturn, 1) := by decide +kernel
theorem dX9_shore_57 : decode cX9_shore 57 = .ok (.iinc 3 1, 3) := by decide +kernel
theorem dX9_shore_60 : decode cX9_shore 60 = .ok (.goto (-23), 3) := by decide +kernel
theorem dX9_shore_63 : decode cX9_shore 63 = .ok (.iconst 0, 1) := by decide +kernel
theorem dX9_shore_64 : decode cX9_shore 64 = .ok (.istore_n 3, 1) := by decide +kernel
theorem dX9_shore_65 : decode cX9_shore 65 = .ok (.iload_n 3, 1) := by decide +kernel
theorem dX9_shore_66 : decode cX9_shore 66 = .ok (.aload_n 0, 1) := by decide +kernel
theorem dX9_shore_67 : decode cX9_shore 67 = .ok (.getfield 107, 3) := by decide +kernel
theorem dX9_shore_70 : decode cX9_shore 70 = .ok (.if_icmp .ge 21, 3) := by decide +kernel
theorem dX9_shore_73 : decode cX9_shore 73 = .ok (.aload_n 0, 1) := by decide +kernel
theorem dX9_shore_74 : decode cX9_shore 74 = .ok (.getfield 66, 3) := by decide +kernel
theorem dX9_shore_77 : decode cX9_shore 77 = .ok (.iload_n 3, 1) := by decide +kernel
theorem dX9_shore_78 : decode cX9_shore 78 = .ok (.iaload, 1) := by decide +kernel
theorem dX9_shore_79 : decode cX9_shore 79 = .ok (.iload_n 1, 1) := by decide +kernel
theorem dX9_shore_80 : decode cX9_shore 80 = .ok (.if_icmp .ne 5, 3) := by decide +kernel
theorem dX9_shore_83 : decode cX9_shore 83 = .ok (.iconst 0, 1) := by decide +kernel
theorem dX9_shore_84 : decode cX9_shore 84 = .ok (.ireturn, 1) := by decide +kernel
theorem dX9_shore_85 : decode cX9_shore 85 = .ok (.iinc 3 1, 3) := by decide +kernel
theorem dX9_shore_88 : decode cX9_shore 88 = .ok (.goto (-23), 3) := by decide +kernel
theorem dX9_shore_91 : decode cX9_shore 91 = .ok (.iconst 0, 1) := by decide +kernel
theorem dX9_shore_92 : decode cX9_shore 92 = .ok (.istore_n 3, 1) := by decide +kernel
theorem dX9_shore_93 : decode cX9_shore 93 = .ok (.iload_n 3, 1) := by decide +kernel
theorem dX9_shore_94 : decode cX9_shore 94 = .ok (.bipush 20, 2) := by decide +kernel
theorem dX9_shore_96 : decode cX9_shore 96 = .ok (.if_icmp .ge 40, 3) := by decide +kernel
theorem dX9_shore_99 : decode cX9_shore 99 = .ok (.aload_n 0, 1) := by decide +kernel
theorem dX9_shore_100 : decode cX9_shore 100 = .ok (.getfield 22, 3) := by decide +kernel
theorem dX9_shore_103 : decode cX9_shore 103 = .ok (.iload_n 3, 1) := by decide +kernel
theorem dX9_shore_104 : decode cX9_shore 104 = .ok (.baload, 1) := by decide +kernel
theorem dX9_shore_105 : decode cX9_shore 105 = .ok (.ifCond .eq 25, 3) := by decide +kernel
theorem dX9_shore_108 : decode cX9_shore 108 = .ok (.aload_n 0, 1) := by decide +kernel
theorem dX9_shore_109 : decode cX9_shore 109 = .ok (.getfield 26, 3) := by decide +kernel
theorem dX9_shore_112 : decode cX9_shore 112 = .ok (.iload_n 3, 1) := by decide +kernel
theorem dX9_shore_113 : decode cX9_shore 113 = .ok (.iaload, 1) := by decide +kernel
theorem dX9_shore_114 : decode cX9_shore 114 = .ok (.iload_n 1, 1) := by decide +kernel
theorem dX9_shore_115 : decode cX9_shore 115 = .ok (.if_icmp .eq 13, 3) := by decide +kernel
theorem dX9_shore_118 : decode cX9_shore 118 = .ok (.aload_n 0, 1) := by decide +kernel
theorem dX9_shore_119 : decode cX9_shore 119 = .ok (.getfield 29, 3) := by decide +kernel
theorem dX9_shore_122 : decode cX9_shore 122 = .ok (.iload_n 3, 1) := by decide +kernel
theorem dX9_shore_123 : decode cX9_shore 123 = .ok (.iaload, 1) := by decide +kernel
theorem dX9_shore_124 : decode cX9_shore 124 = .ok (.iload_n 1, 1) := by decide +kernel
theorem dX9_shore_125 : decode cX9_shore 125 = .ok (.if_icmp .ne 5, 3) := by decide +kernel
theorem dX9_shore_128 : decode cX9_shore 128 = .ok (.iconst 0, 1) := by decide +kernel
theorem dX9_shore_129 : decode cX9_shore 129 = .ok (.ireturn, 1) := by decide +kernel
theorem dX9_shore_130 : decode cX9_shore 130 = .ok (.iinc 3 1, 3) := by decide +kernel
theorem dX9_shore_133 : decode cX9_shore 133 = .ok (.goto (-40), 3) := by decide +kernel
theorem dX9_shore_136 : decode cX9_shore 136 = .ok (.aload_n 0, 1) := by decide +kernel
theorem dX9_shore_137 : decode cX9_shore 137 = .ok (.getfield 9, 3) := by decide +kernel
theorem dX9_shore_140 : decode cX9_shore 140 = .ok (.iload_n 1, 1) := by decide +kernel
theorem dX9_shore_141 : decode cX9_shore 141 = .ok (.iload_n 2, 1) := by decide +kernel
theorem dX9_shore_142 : decode cX9_shore 142 = .ok (.iastore, 1) := by decide +kernel
theorem dX9_shore_143 : decode cX9_shore 143 = .ok (.iconst 1, 1) := by decide +kernel
theorem dX9_shore_144 : decode cX9_shore 144 = .ok (.ireturn, 1) := by decide +kernel
theorem dX9_weather_0 : decode cX9_weather 0 = .ok (.iload_n 1, 1) := by decide +kernel
theorem dX9_weather_1 : decode cX9_weather 1 = .ok (.iconst 0, 1) := by decide +kernel
theorem dX9_weather_2 : decode cX9_weather 2 = .ok (.iconst 2, 1) := by decide +kernel
theorem dX9_weather_3 : decode cX9_weather 3 = .ok (.invokestatic 93, 3) := by decide +kernel
theorem dX9_weather_6 : decode cX9_weather 6 = .ok (.ifCond .eq 37, 3) := by decide +kernel
theorem dX9_weather_9 : decode cX9_weather 9 = .ok (.iload_n 2, 1) := by decide +kernel
theorem dX9_weather_10 : decode cX9_weather 10 = .ok (.aload_n 0, 1) := by decide +kernel
theorem dX9_weather_11 : decode cX9_weather 11 = .ok (.getfield 104, 3) := by decide +kernel
theorem dX9_weather_14 : decode cX9_weather 14 = .ok (.sipush 500, 3) := by decide +kernel
theorem dX9_weather_17 : decode cX9_weather 17 = .ok (.invokestatic 93, 3) := by decide +kernel
theorem dX9_weather_20 : decode cX9_weather 20 = .ok (.ifCond .eq 23, 3) := by decide +kernel
theorem dX9_weather_23 : decode cX9_weather 23 = .ok (.iload_n 3, 1) := by decide +kernel
theorem dX9_weather_24 : decode cX9_weather 24 = .ok (.iconst 0, 1) := by decide +kernel
theorem dX9_weather_25 : decode cX9_weather 25 = .ok (.iconst 4, 1) := by decide +kernel
theorem dX9_weather_26 : decode cX9_weather 26 = .ok (.invokestatic 93, 3) := by decide +kernel
theorem dX9_weather_29 : decode cX9_weather 29 = .ok (.ifCond .eq 14, 3) := by decide +kernel
theorem dX9_weather_32 : decode cX9_weather 32 = .ok (.iload 4, 2) := by decide +kernel
theorem dX9_weather_34 : decode cX9_weather 34 = .ok (.iconst 0, 1) := by decide +kernel
theorem dX9_weather_35 : decode cX9_weather 35 = .ok (.bipush 9, 2) := by decide +kernel
theorem dX9_weather_37 : decode cX9_weather 37 = .ok (.invokestatic 93, 3) := by decide +kernel
theorem dX9_weather_40 : decode cX9_weather 40 = .ok (.ifCond .ne 5, 3) := by decide +kernel
theorem dX9_weather_43 : decode cX9_weather 43 = .ok (.iconst 0, 1) := by decide +kernel
theorem dX9_weather_44 : decode cX9_weather 44 = .ok (.ireturn, 1) := by decide +kernel
theorem dX9_weather_45 : decode cX9_weather 45 = .ok (.aload_n 0, 1) := by decide +kernel
theorem dX9_weather_46 : decode cX9_weather 46 = .ok (.getfield 16, 3) := by decide +kernel
theorem dX9_weather_49 : decode cX9_weather 49 = .ok (.sipush 501, 3) := by decide +kernel
theorem dX9_weather_52 : decode cX9_weather 52 = .ok (.iload_n 1, 1) := by decide +kernel
theorem dX9_weather_53 : decode cX9_weather 53 = .ok (.imul, 1) := by decide +kernel
theorem dX9_weather_54 : decode cX9_weather 54 = .ok (.iload_n 2, 1) := by decide +kernel
theorem dX9_weather_55 : decode cX9_weather 55 = .ok (.iadd, 1) := by decide +kernel
theorem dX9_weather_56 : decode cX9_weather 56 = .ok (.iload_n 3, 1) := by decide +kernel
theorem dX9_weather_57 : decode cX9_weather 57 = .ok (.iastore, 1) := by decide +kernel
theorem dX9_weather_58 : decode cX9_weather 58 = .ok (.aload_n 0, 1) := by decide +kernel
theorem dX9_weather_59 : decode cX9_weather 59 = .ok (.getfield 19, 3) := by decide +kernel
theorem dX9_weather_62 : decode cX9_weather 62 = .ok (.sipush 501, 3) := by decide +kernel
theorem dX9_weather_65 : decode cX9_weather 65 = .ok (.iload_n 1, 1) := by decide +kernel
theorem dX9_weather_66 : decode cX9_weather 66 = .ok (.imul, 1) := by decide +kernel
theorem dX9_weather_67 : decode cX9_weather 67 = .ok (.iload_n 2, 1) := by decide +kernel
theorem dX9_weather_68 : decode cX9_weather 68 = .ok (.iadd, 1) := by decide +kernel
theorem dX9_weather_69 : decode cX9_weather 69 = .ok (.iload 4, 2) := by decide +kernel
theorem dX9_weather_71 : decode cX9_weather 71 = .ok (.iastore, 1) := by decide +kernel
theorem dX9_weather_72 : decode cX9_weather 72 = .ok (.iconst 1, 1) := by decide +kernel
theorem dX9_weather_73 : decode cX9_weather 73 = .ok (.ireturn, 1) := by decide +kernel
theorem dX9_areSide_0 : decode cX9_areSide 0 = .ok (.iload_n 0, 1) := by decide +kernel
theorem dX9_areSide_1 : decode cX9_areSide 1 = .ok (.bipush 12, 2) := by decide +kernel
theorem dX9_areSide_3 : decode cX9_areSide 3 = .ok (.idiv, 1) := by decide +kernel
theorem dX9_areSide_4 : decode cX9_areSide 4 = .ok (.iload_n 1, 1) := by decide +kernel
theorem dX9_areSide_5 : decode cX9_areSide 5 = .ok (.bipush 12, 2) := by decide +kernel
theorem dX9_areSide_7 : decode cX9_areSide 7 = .ok (.idiv, 1) := by decide +kernel
theorem dX9_areSide_8 : decode cX9_areSide 8 = .ok (.isub, 1) := by decide +kernel
theorem dX9_areSide_9 : decode cX9_areSide 9 = .ok (.istore_n 2, 1) := by decide +kernel
theorem dX9_areSide_10 : decode cX9_areSide 10 = .ok (.iload_n 0, 1) := by decide +kernel
theorem dX9_areSide_11 : decode cX9_areSide 11 = .ok (.bipush 12, 2) := by decide +kernel
theorem dX9_areSide_13 : decode cX9_areSide 13 = .ok (.irem, 1) := by decide +kernel
theorem dX9_areSide_14 : decode cX9_areSide 14 = .ok (.iload_n 1, 1) := by decide +kernel
theorem dX9_areSide_15 : decode cX9_areSide 15 = .ok (.bipush 12, 2) := by decide +kernel
theorem dX9_areSide_17 : decode cX9_areSide 17 = .ok (.irem, 1) := by decide +kernel
theorem dX9_areSide_18 : decode cX9_areSide 18 = .ok (.isub, 1) := by decide +kernel
theorem dX9_areSide_19 : decode cX9_areSide 19 = .ok (.istore_n 3, 1) := by decide +kernel
theorem dX9_areSide_20 : decode cX9_areSide 20 = .ok (.iload_n 2, 1) := by decide +kernel
theorem dX9_areSide_21 : decode cX9_areSide 21 = .ok (.iload_n 2, 1) := by decide +kernel
theorem dX9_areSide_22 : decode cX9_areSide 22 = .ok (.imul, 1) := by decide +kernel
theorem dX9_areSide_23 : decode cX9_areSide 23 = .ok (.iload_n 3, 1) := by decide +kernel
theorem dX9_areSide_24 : decode cX9_areSide 24 = .ok (.iload_n 3, 1) := by decide +kernel
theorem dX9_areSide_25 : decode cX9_areSide 25 = .ok (.imul, 1) := by decide +kernel
theorem dX9_areSide_26 : decode cX9_areSide 26 = .ok (.iadd, 1) := by decide +kernel
theorem dX9_areSide_27 : decode cX9_areSide 27 = .ok (.iconst 1, 1) := by decide +kernel
theorem dX9_areSide_28 : decode cX9_areSide 28 = .ok (.if_icmp .ne 7, 3) := by decide +kernel
theorem dX9_areSide_31 : decode cX9_areSide 31 = .ok (.iconst 1, 1) := by decide +kernel
theorem dX9_areSide_32 : decode cX9_areSide 32 = .ok (.goto 4, 3) := by decide +kernel
theorem dX9_areSide_35 : decode cX9_areSide 35 = .ok (.iconst 0, 1) := by decide +kernel
theorem dX9_areSide_36 : decode cX9_areSide 36 = .ok (.ireturn, 1) := by decide +kernel
theorem dX9_boomAt_0 : decode cX9_boomAt 0 = .ok (.iconst 0, 1) := by decide +kernel
theorem dX9_boomAt_1 : decode cX9_boomAt 1 = .ok (.istore_n 3, 1) := by decide +kernel
theorem dX9_boomAt_2 : decode cX9_boomAt 2 = .ok (.iload_n 3, 1) := by decide +kernel
theorem dX9_boomAt_3 : decode cX9_boomAt 3 = .ok (.bipush 20, 2) := by decide +kernel
theorem dX9_boomAt_5 : decode cX9_boomAt 5 = .ok (.if_icmp .ge 60, 3) := by decide +kernel
theorem dX9_boomAt_8 : decode cX9_boomAt 8 = .ok (.aload_n 0, 1) := by decide +kernel
theorem dX9_boomAt_9 : decode cX9_boomAt 9 = .ok (.getfield 22, 3) := by decide +kernel
theorem dX9_boomAt_12 : decode cX9_boomAt 12 = .ok (.iload_n 3, 1) := by decide +kernel
theorem dX9_boomAt_13 : decode cX9_boomAt 13 = .ok (.baload, 1) := by decide +kernel
theorem dX9_boomAt_14 : decode cX9_boomAt 14 = .ok (.ifCond .eq 45, 3) := by decide +kernel
theorem dX9_boomAt_17 : decode cX9_boomAt 17 = .ok (.aload_n 0, 1) := by decide +kernel
theorem dX9_boomAt_18 : decode cX9_boomAt 18 = .ok (.getfield 26, 3) := by decide +kernel
theorem dX9_boomAt_21 : decode cX9_boomAt 21 = .ok (.iload_n 3, 1) := by decide +kernel
theorem dX9_boomAt_22 : decode cX9_boomAt 22 = .ok (.iaload, 1) := by decide +kernel
theorem dX9_boomAt_23 : decode cX9_boomAt 23 = .ok (.iload_n 1, 1) := by decide +kernel
theorem dX9_boomAt_24 : decode cX9_boomAt 24 = .ok (.if_icmp .ne 13, 3) := by decide +kernel
theorem dX9_boomAt_27 : decode cX9_boomAt 27 = .ok (.aload_n 0, 1) := by decide +kernel
theorem dX9_boomAt_28 : decode cX9_boomAt 28 = .ok (.getfield 29, 3) := by decide +kernel
theorem dX9_boomAt_31 : decode cX9_boomAt 31 = .ok (.iload_n 3, 1) := by decide +kernel
theorem dX9_boomAt_32 : decode cX9_boomAt 32 = .ok (.iaload, 1) := by decide +kernel
theorem dX9_boomAt_33 : decode cX9_boomAt 33 = .ok (.iload_n 2, 1) := by decide +kernel
theorem dX9_boomAt_34 : decode cX9_boomAt 34 = .ok (.if_icmp .eq 23, 3) := by decide +kernel
theorem dX9_boomAt_37 : decode cX9_boomAt 37 = .ok (.aload_n 0, 1) := by decide +kernel
theorem dX9_boomAt_38 : decode cX9_boomAt 38 = .ok (.getfield 26, 3) := by decide +kernel
theorem dX9_boomAt_41 : decode cX9_boomAt 41 = .ok (.iload_n 3, 1) := by decide +kernel
theorem dX9_boomAt_42 : decode cX9_boomAt 42 = .ok (.iaload, 1) := by decide +kernel
theorem dX9_boomAt_43 : decode cX9_boomAt 43 = .ok (.iload_n 2, 1) := by decide +kernel
theorem dX9_boomAt_44 : decode cX9_boomAt 44 = .ok (.if_icmp .ne 15, 3) := by decide +kernel
theorem dX9_boomAt_47 : decode cX9_boomAt 47 = .ok (.aload_n 0, 1) := by decide +kernel
theorem dX9_boomAt_48 : decode cX9_boomAt 48 = .ok (.getfield 29, 3) := by decide +kernel
theorem dX9_boomAt_51 : decode cX9_boomAt 51 = .ok (.iload_n 3, 1) := by decide +kernel
theorem dX9_boomAt_52 : decode cX9_boomAt 52 = .ok (.iaload, 1) := by decide +kernel
theorem dX9_boomAt_53 : decode cX9_boomAt 53 = .ok (.iload_n 1, 1) := by decide +kernel
theorem dX9_boomAt_54 : decode cX9_boomAt 54 = .ok (.if_icmp .ne 5, 3) := by decide +kernel
theorem dX9_boomAt_57 : decode cX9_boomAt 57 = .ok (.iload_n 3, 1) := by decide +kernel
theorem dX9_boomAt_58 : decode cX9_boomAt 58 = .ok (.ireturn, 1) := by decide +kernel
theorem dX9_boomAt_59 : decode cX9_boomAt 59 = .ok (.iinc 3 1, 3) := by decide +kernel
theorem dX9_boomAt_62 : decode cX9_boomAt 62 = .ok (.goto (-60), 3) := by decide +kernel
theorem dX9_boomAt_65 : decode cX9_boomAt 65 = .ok (.iconst (-1), 1) := by decide +kernel
theorem dX9_boomAt_66 : decode cX9_boomAt 66 = .ok (.ireturn, 1) := by decide +kernel
theorem dX9_boom_0 : decode cX9_boom 0 = .ok (.aload_n 0, 1) := by decide +kernel
theorem dX9_boom_1 : decode cX9_boom 1 = .ok (.iload_n 1, 1) := by decide +kernel
theorem dX9_boom_2 : decode cX9_boom 2 = .ok (.invokevirtual 110, 3) := by decide +kernel
theorem dX9_boom_5 : decode cX9_boom 5 = .ok (.ifCond .eq 39, 3) := by decide +kernel
theorem dX9_boom_8 : decode cX9_boom 8 = .ok (.aload_n 0, 1) := by decide +kernel
theorem dX9_boom_9 : decode cX9_boom 9 = .ok (.iload_n 2, 1) := by decide +kernel
theorem dX9_boom_10 : decode cX9_boom 10 = .ok (.invokevirtual 110, 3) := by decide +kernel
theorem dX9_boom_13 : decode cX9_boom 13 = .ok (.ifCond .eq 31, 3) := by decide +kernel
theorem dX9_boom_16 : decode cX9_boom 16 = .ok (.iload_n 1, 1) := by decide +kernel
theorem dX9_boom_17 : decode cX9_boom 17 = .ok (.iload_n 2, 1) := by decide +kernel
theorem dX9_boom_18 : decode cX9_boom 18 = .ok (.invokestatic 113, 3) := by decide +kernel
theorem dX9_boom_21 : decode cX9_boom 21 = .ok (.ifCond .eq 23, 3) := by decide +kernel
theorem dX9_boom_24 : decode cX9_boom 24 = .ok (.aload_n 0, 1) := by decide +kernel
theorem dX9_boom_25 : decode cX9_boom 25 = .ok (.iload_n 1, 1) := by decide +kernel
theorem dX9_boom_26 : decode cX9_boom 26 = .ok (.iload_n 2, 1) := by decide +kernel
theorem dX9_boom_27 : decode cX9_boom 27 = .ok (.invokevirtual 117, 3) := by decide +kernel
theorem dX9_boom_30 : decode cX9_boom 30 = .ok (.iconst (-1), 1) := by decide +kernel
theorem dX9_boom_31 : decode cX9_boom 31 = .ok (.if_icmp .ne 13, 3) := by decide +kernel
theorem dX9_boom_34 : decode cX9_boom 34 = .ok (.iload_n 3, 1) := by decide +kernel
theorem dX9_boom_35 : decode cX9_boom 35 = .ok (.iconst 0, 1) := by decide +kernel
theorem dX9_boom_36 : decode cX9_boom 36 = .ok (.bipush 9, 2) := by decide +kernel
theorem dX9_boom_38 : decode cX9_boom 38 = .ok (.invokestatic 93, 3) := by decide +kernel
theorem dX9_boom_41 : decode cX9_boom 41 = .ok (.ifCond .ne 5, 3) := by decide +kernel
theorem dX9_boom_44 : decode cX9_boom 44 = .ok (.iconst (-1), 1) := by decide +kernel
theorem dX9_boom_45 : decode cX9_boom 45 = .ok (.ireturn, 1) := by decide +kernel
theorem dX9_boom_46 : decode cX9_boom 46 = .ok (.iconst 0, 1) := by decide +kernel
theorem dX9_boom_47 : decode cX9_boom 47 = .ok (.istore 4, 2) := by decide +kernel
theorem dX9_boom_49 : decode cX9_boom 49 = .ok (.iload 4, 2) := by decide +kernel
theorem dX9_boom_51 : decode cX9_boom 51 = .ok (.bipush 20, 2) := by decide +kernel
theorem dX9_boom_53 : decode cX9_boom 53 = .ok (.if_icmp .ge 57, 3) := by decide +kernel
theorem dX9_boom_56 : decode cX9_boom 56 = .ok (.aload_n 0, 1) := by decide +kernel
theorem dX9_boom_57 : decode cX9_boom 57 = .ok (.getfield 22, 3) := by decide +kernel
theorem dX9_boom_60 : decode cX9_boom 60 = .ok (.iload 4, 2) := by decide +kernel
theorem dX9_boom_62 : decode cX9_boom 62 = .ok (.baload, 1) := by decide +kernel
theorem dX9_boom_63 : decode cX9_boom 63 = .ok (.ifCond .eq 6, 3) := by decide +kernel
theorem dX9_boom_66 : decode cX9_boom 66 = .ok (.goto 38, 3) := by decide +kernel
theorem dX9_boom_69 : decode cX9_boom 69 = .ok (.aload_n 0, 1) := by decide +kernel
theorem dX9_boom_70 : decode cX9_boom 70 = .ok (.getfield 22, 3) := by decide +kernel
theorem dX9_boom_73 : decode cX9_boom 73 = .ok (.iload 4, 2) := by decide +kernel
theorem dX9_boom_75 : decode cX9_boom 75 = .ok (.iconst 1, 1) := by decide +kernel
theorem dX9_boom_76 : decode cX9_boom 76 = .ok (.bastore, 1) := by decide +kernel
theorem dX9_boom_77 : decode cX9_boom 77 = .ok (.aload_n 0, 1) := by decide +kernel
theorem dX9_boom_78 : decode cX9_boom 78 = .ok (.getfield 26, 3) := by decide +kernel
theorem dX9_boom_81 : decode cX9_boom 81 = .ok (.iload 4, 2) := by decide +kernel
theorem dX9_boom_83 : decode cX9_boom 83 = .ok (.iload_n 1, 1) := by decide +kernel
theorem dX9_boom_84 : decode cX9_boom 84 = .ok (.iastore, 1) := by decide +kernel
theorem dX9_boom_85 : decode cX9_boom 85 = .ok (.aload_n 0, 1) := by decide +kernel
theorem dX9_boom_86 : decode cX9_boom 86 = .ok (.getfield 29, 3) := by decide +kernel
theorem dX9_boom_89 : decode cX9_boom 89 = .ok (.iload 4, 2) := by decide +kernel
theorem dX9_boom_91 : decode cX9_boom 91 = .ok (.iload_n 2, 1) := by decide +kernel
theorem dX9_boom_92 : decode cX9_boom 92 = .ok (.iastore, 1) := by decide +kernel
theorem dX9_boom_93 : decode cX9_boom 93 = .ok (.aload_n 0, 1) := by decide +kernel
theorem dX9_boom_94 : decode cX9_boom 94 = .ok (.getfield 32, 3) := by decide +kernel
theorem dX9_boom_97 : decode cX9_boom 97 = .ok (.iload 4, 2) := by decide +kernel
theorem dX9_boom_99 : decode cX9_boom 99 = .ok (.iload_n 3, 1) := by decide +kernel
theorem dX9_boom_100 : decode cX9_boom 100 = .ok (.iastore, 1) := by decide +kernel
theorem dX9_boom_101 : decode cX9_boom 101 = .ok (.iload 4, 2) := by decide +kernel
theorem dX9_boom_103 : decode cX9_boom 103 = .ok (.ireturn, 1) := by decide +kernel
theorem dX9_boom_104 : decode cX9_boom 104 = .ok (.iinc 4 1, 3) := by decide +kernel
theorem dX9_boom_107 : decode cX9_boom 107 = .ok (.goto (-58), 3) := by decide +kernel
theorem dX9_boom_110 : decode cX9_boom 110 = .ok (.iconst (-1), 1) := by decide +kernel
theorem dX9_boom_111 : decode cX9_boom 111 = .ok (.ireturn, 1) := by decide +kernel
theorem dX9_lift_0 : decode cX9_lift 0 = .ok (.iload_n 1, 1) := by decide +kernel
theorem dX9_lift_1 : decode cX9_lift 1 = .ok (.iconst 0, 1) := by decide +kernel
theorem dX9_lift_2 : decode cX9_lift 2 = .ok (.bipush 19, 2) := by decide +kernel
theorem dX9_lift_4 : decode cX9_lift 4 = .ok (.invokestatic 93, 3) := by decide +kernel
theorem dX9_lift_7 : decode cX9_lift 7 = .ok (.ifCond .eq 12, 3) := by decide +kernel
theorem dX9_lift_10 : decode cX9_lift 10 = .ok (.aload_n 0, 1) := by decide +kernel
theorem dX9_lift_11 : decode cX9_lift 11 = .ok (.getfield 22, 3) := by decide +kernel
theorem dX9_lift_14 : decode cX9_lift 14 = .ok (.iload_n 1, 1) := by decide +kernel
theorem dX9_lift_15 : decode cX9_lift 15 = .ok (.baload, 1) := by decide +kernel
theorem dX9_lift_16 : decode cX9_lift 16 = .ok (.ifCond .ne 5, 3) := by decide +kernel
theorem dX9_lift_19 : decode cX9_lift 19 = .ok (.iconst 0, 1) := by decide +kernel
theorem dX9_lift_20 : decode cX9_lift 20 = .ok (.ireturn, 1) := by decide +kernel
theorem dX9_lift_21 : decode cX9_lift 21 = .ok (.aload_n 0, 1) := by decide +kernel
theorem dX9_lift_22 : decode cX9_lift 22 = .ok (.getfield 22, 3) := by decide +kernel
theorem dX9_lift_25 : decode cX9_lift 25 = .ok (.iload_n 1, 1) := by decide +kernel
theorem dX9_lift_26 : decode cX9_lift 26 = .ok (.iconst 0, 1) := by decide +kernel
theorem dX9_lift_27 : decode cX9_lift 27 = .ok (.bastore, 1) := by decide +kernel
theorem dX9_lift_28 : decode cX9_lift 28 = .ok (.iconst 1, 1) := by decide +kernel
theorem dX9_lift_29 : decode cX9_lift 29 = .ok (.ireturn, 1) := by decide +kernel
theorem dX9_spill_0 : decode cX9_spill 0 = .ok (.aload_n 0, 1) := by decide +kernel
theorem dX9_spill_1 : decode cX9_spill 1 = .ok (.iload_n 1, 1) := by decide +kernel
theorem dX9_spill_2 : decode cX9_spill 2 = .ok (.invokevirtual 110, 3) := by decide +kernel
theorem dX9_spill_5 : decode cX9_spill 5 = .ok (.ifCond .eq 24, 3) := by decide +kernel
theorem dX9_spill_8 : decode cX9_spill 8 = .ok (.iload_n 2, 1) := by decide +kernel
theorem dX9_spill_9 : decode cX9_spill 9 = .ok (.iconst 1, 1) := by decide +kernel
theorem dX9_spill_10 : decode cX9_spill 10 = .ok (.ldc 121, 2) := by decide +kernel
theorem dX9_spill_12 : decode cX9_spill 12 = .ok (.invokestatic 93, 3) := by decide +kernel
theorem dX9_spill_15 : decode cX9_spill 15 = .ok (.ifCond .eq 14, 3) := by decide +kernel
theorem dX9_spill_18 : decode cX9_spill 18 = .ok (.aload_n 0, 1) := by decide +kernel
theorem dX9_spill_19 : decode cX9_spill 19 = .ok (.getfield 122, 3) := by decide +kernel
theorem dX9_spill_22 : decode cX9_spill 22 = .ok (.iload_n 2, 1) := by decide +kernel
theorem dX9_spill_23 : decode cX9_spill 23 = .ok (.iadd, 1) := by decide +kernel
theorem dX9_spill_24 : decode cX9_spill 24 = .ok (.ldc 125, 2) := by decide +kernel
theorem dX9_spill_26 : decode cX9_spill 26 = .ok (.if_icmp .le 5, 3) := by decide +kernel
theorem dX9_spill_29 : decode cX9_spill 29 = .ok (.iconst (-1), 1) := by decide +kernel
theorem dX9_spill_30 : decode cX9_spill 30 = .ok (.ireturn, 1) := by decide +kernel
theorem dX9_spill_31 : decode cX9_spill 31 = .ok (.aload_n 0, 1) := by decide +kernel
theorem dX9_spill_32 : decode cX9_spill 32 = .ok (.getfield 35, 3) := by decide +kernel
theorem dX9_spill_35 : decode cX9_spill 35 = .ok (.iconst (-1), 1) := by decide +kernel
theorem dX9_spill_36 : decode cX9_spill 36 = .ok (.if_icmp .ne 11, 3) := by decide +kernel
theorem dX9_spill_39 : decode cX9_spill 39 = .ok (.aload_n 0, 1) := by decide +kernel
theorem dX9_spill_40 : decode cX9_spill 40 = .ok (.aload_n 0, 1) := by decide +kernel
theorem dX9_spill_41 : decode cX9_spill 41 = .ok (.getfield 104, 3) := by decide +kernel
theorem dX9_spill_44 : decode cX9_spill 44 = .ok (.putfield 35, 3) := by decide +kernel
theorem dX9_spill_47 : decode cX9_spill 47 = .ok (.aload_n 0, 1) := by decide +kernel
theorem dX9_spill_48 : decode cX9_spill 48 = .ok (.dup, 1) := by decide +kernel
theorem dX9_spill_49 : decode cX9_spill 49 = .ok (.getfield 122, 3) := by decide +kernel
theorem dX9_spill_52 : decode cX9_spill 52 = .ok (.iload_n 2, 1) := by decide +kernel
theorem dX9_spill_53 : decode cX9_spill 53 = .ok (.iadd, 1) := by decide +kernel
theorem dX9_spill_54 : decode cX9_spill 54 = .ok (.putfield 122, 3) := by decide +kernel
theorem dX9_spill_57 : decode cX9_spill 57 = .ok (.aload_n 0, 1) := by decide +kernel
theorem dX9_spill_58 : decode cX9_spill 58 = .ok (.getfield 13, 3) := by decide +kernel
theorem dX9_spill_61 : decode cX9_spill 61 = .ok (.iload_n 1, 1) := by decide +kernel
theorem dX9_spill_62 : decode cX9_spill 62 = .ok (.dup2, 1) := by decide +kernel
theorem dX9_spill_63 : decode cX9_spill 63 = .ok (.iaload, 1) := by decide +kernel
theorem dX9_spill_64 : decode cX9_spill 64 = .ok (.iload_n 2, 1) := by decide +kernel
theorem dX9_spill_65 : decode cX9_spill 65 = .ok (.iadd, 1) := by decide +kernel
theorem dX9_spill_66 : decode cX9_spill 66 = .ok (.iastore, 1) := by decide +kernel
theorem dX9_spill_67 : decode cX9_spill 67 = .ok (.aload_n 0, 1) := by decide +kernel
theorem dX9_spill_68 : decode cX9_spill 68 = .ok (.getfield 13, 3) := by decide +kernel
theorem dX9_spill_71 : decode cX9_spill 71 = .ok (.iload_n 1, 1) := by decide +kernel
theorem dX9_spill_72 : decode cX9_spill 72 = .ok (.iaload, 1) := by decide +kernel
theorem dX9_spill_73 : decode cX9_spill 73 = .ok (.ireturn, 1) := by decide +kernel
theorem dX9_skimmer_0 : decode cX9_skimmer 0 = .ok (.aload_n 0, 1) := by decide +kernel
theorem dX9_skimmer_1 : decode cX9_skimmer 1 = .ok (.iload_n 1, 1) := by decide +kernel
theorem dX9_skimmer_2 : decode cX9_skimmer 2 = .ok (.invokevirtual 110, 3) := by decide +kernel
theorem dX9_skimmer_5 : decode cX9_skimmer 5 = .ok (.ifCond .eq 42, 3) := by decide +kernel
theorem dX9_skimmer_8 : decode cX9_skimmer 8 = .ok (.iload_n 2, 1) := by decide +kernel
theorem dX9_skimmer_9 : decode cX9_skimmer 9 = .ok (.iconst 1, 1) := by decide +kernel
theorem dX9_skimmer_10 : decode cX9_skimmer 10 = .ok (.sipush 5000, 3) := by decide +kernel
theorem dX9_skimmer_13 : decode cX9_skimmer 13 = .ok (.invokestatic 93, 3) := by decide +kernel
theorem dX9_skimmer_16 : decode cX9_skimmer 16 = .ok (.ifCond .eq 31, 3) := by decide +kernel
theorem dX9_skimmer_19 : decode cX9_skimmer 19 = .ok (.iload_n 3, 1) := by decide +kernel
theorem dX9_skimmer_20 : decode cX9_skimmer 20 = .ok (.iconst 0, 1) := by decide +kernel
theorem dX9_skimmer_21 : decode cX9_skimmer 21 = .ok (.ldc 121, 2) := by decide +kernel
theorem dX9_skimmer_23 : decode cX9_skimmer 23 = .ok (.invokestatic 93, 3) := by decide +kernel
theorem dX9_skimmer_26 : decode cX9_skimmer 26 = .ok (.ifCond .eq 21, 3) := by decide +kernel
theorem dX9_skimmer_29 : decode cX9_skimmer 29 = .ok (.iload 4, 2) := by decide +kernel
theorem dX9_skimmer_31 : decode cX9_skimmer 31 = .ok (.iconst 1, 1) := by decide +kernel
theorem dX9_skimmer_32 : decode cX9_skimmer 32 = .ok (.iconst 3, 1) := by decide +kernel
theorem dX9_skimmer_33 : decode cX9_skimmer 33 = .ok (.invokestatic 93, 3) := by decide +kernel
theorem dX9_skimmer_36 : decode cX9_skimmer 36 = .ok (.ifCond .eq 11, 3) := by decide +kernel
theorem dX9_skimmer_39 : decode cX9_skimmer 39 = .ok (.aload_n 0, 1) := by decide +kernel
theorem dX9_skimmer_40 : decode cX9_skimmer 40 = .ok (.getfield 101, 3) := by decide +kernel
theorem dX9_skimmer_43 : decode cX9_skimmer 43 = .ok (.iconst 4, 1) := by decide +kernel
theorem dX9_skimmer_44 : decode cX9_skimmer 44 = .ok (.if_icmp .ne 5, 3) := by decide +kernel
theorem dX9_skimmer_47 : decode cX9_skimmer 47 = .ok (.iconst (-1), 1) := by decide +kernel
theorem dX9_skimmer_48 : decode cX9_skimmer 48 = .ok (.ireturn, 1) := by decide +kernel
theorem dX9_skimmer_49 : decode cX9_skimmer 49 = .ok (.aload_n 0, 1) := by decide +kernel
theorem dX9_skimmer_50 : decode cX9_skimmer 50 = .ok (.getfield 39, 3) := by decide +kernel
theorem dX9_skimmer_53 : decode cX9_skimmer 53 = .ok (.aload_n 0, 1) := by decide +kernel
theorem dX9_skimmer_54 : decode cX9_skimmer 54 = .ok (.getfield 101, 3) := by decide +kernel
theorem dX9_skimmer_57 : decode cX9_skimmer 57 = .ok (.iload_n 1, 1) := by decide +kernel
theorem dX9_skimmer_58 : decode cX9_skimmer 58 = .ok (.iastore, 1) := by decide +kernel
theorem dX9_skimmer_59 : decode cX9_skimmer 59 = .ok (.aload_n 0, 1) := by decide +kernel
theorem dX9_skimmer_60 : decode cX9_skimmer 60 = .ok (.getfield 42, 3) := by decide +kernel
theorem dX9_skimmer_63 : decode cX9_skimmer 63 = .ok (.aload_n 0, 1) := by decide +kernel
theorem dX9_skimmer_64 : decode cX9_skimmer 64 = .ok (.getfield 101, 3) := by decide +kernel
theorem dX9_skimmer_67 : decode cX9_skimmer 67 = .ok (.iload_n 2, 1) := by decide +kernel
theorem dX9_skimmer_68 : decode cX9_skimmer 68 = .ok (.iastore, 1) := by decide +kernel
theorem dX9_skimmer_69 : decode cX9_skimmer 69 = .ok (.aload_n 0, 1) := by decide +kernel
theorem dX9_skimmer_70 : decode cX9_skimmer 70 = .ok (.getfield 45, 3) := by decide +kernel
theorem dX9_skimmer_73 : decode cX9_skimmer 73 = .ok (.aload_n 0, 1) := by decide +kernel
theorem dX9_skimmer_74 : decode cX9_skimmer 74 = .ok (.getfield 101, 3) := by decide +kernel
theorem dX9_skimmer_77 : decode cX9_skimmer 77 = .ok (.iload_n 3, 1) := by decide +kernel
theorem dX9_skimmer_78 : decode cX9_skimmer 78 = .ok (.iastore, 1) := by decide +kernel
theorem dX9_skimmer_79 : decode cX9_skimmer 79 = .ok (.aload_n 0, 1) := by decide +kernel
theorem dX9_skimmer_80 : decode cX9_skimmer 80 = .ok (.getfield 48, 3) := by decide +kernel
theorem dX9_skimmer_83 : decode cX9_skimmer 83 = .ok (.aload_n 0, 1) := by decide +kernel
theorem dX9_skimmer_84 : decode cX9_skimmer 84 = .ok (.getfield 101, 3) := by decide +kernel
theorem dX9_skimmer_87 : decode cX9_skimmer 87 = .ok (.iload 4, 2) := by decide +kernel
theorem dX9_skimmer_89 : decode cX9_skimmer 89 = .ok (.iastore, 1) := by decide +kernel
theorem dX9_skimmer_90 : decode cX9_skimmer 90 = .ok (.aload_n 0, 1) := by decide +kernel
theorem dX9_skimmer_91 : decode cX9_skimmer 91 = .ok (.getfield 57, 3) := by decide +kernel
theorem dX9_skimmer_94 : decode cX9_skimmer 94 = .ok (.aload_n 0, 1) := by decide +kernel
theorem dX9_skimmer_95 : decode cX9_skimmer 95 = .ok (.getfield 101, 3) := by decide +kernel
theorem dX9_skimmer_98 : decode cX9_skimmer 98 = .ok (.aload_n 0, 1) := by decide +kernel
theorem dX9_skimmer_99 : decode cX9_skimmer 99 = .ok (.getfield 104, 3) := by decide +kernel
theorem dX9_skimmer_102 : decode cX9_skimmer 102 = .ok (.iastore, 1) := by decide +kernel
theorem dX9_skimmer_103 : decode cX9_skimmer 103 = .ok (.aload_n 0, 1) := by decide +kernel
theorem dX9_skimmer_104 : decode cX9_skimmer 104 = .ok (.dup, 1) := by decide +kernel
theorem dX9_skimmer_105 : decode cX9_skimmer 105 = .ok (.getfield 101, 3) := by decide +kernel
theorem dX9_skimmer_108 : decode cX9_skimmer 108 = .ok (.iconst 1, 1) := by decide +kernel
theorem dX9_skimmer_109 : decode cX9_skimmer 109 = .ok (.iadd, 1) := by decide +kernel
theorem dX9_skimmer_110 : decode cX9_skimmer 110 = .ok (.putfield 101, 3) := by decide +kernel
theorem dX9_skimmer_113 : decode cX9_skimmer 113 = .ok (.aload_n 0, 1) := by decide +kernel
theorem dX9_skimmer_114 : decode cX9_skimmer 114 = .ok (.getfield 101, 3) := by decide +kernel
theorem dX9_skimmer_117 : decode cX9_skimmer 117 = .ok (.iconst 1, 1) := by decide +kernel
theorem dX9_skimmer_118 : decode cX9_skimmer 118 = .ok (.isub, 1) := by decide +kernel
theorem dX9_skimmer_119 : decode cX9_skimmer 119 = .ok (.ireturn, 1) := by decide +kernel
theorem dX9_step_0 : decode cX9_step 0 = .ok (.iload_n 0, 1) := by decide +kernel
theorem dX9_step_1 : decode cX9_step 1 = .ok (.bipush 12, 2) := by decide +kernel
theorem dX9_step_3 : decode cX9_step 3 = .ok (.idiv, 1) := by decide +kernel
theorem dX9_step_4 : decode cX9_step 4 = .ok (.iload_n 1, 1) := by decide +kernel
theorem dX9_step_5 : decode cX9_step 5 = .ok (.iconst 1, 1) := by decide +kernel
theorem dX9_step_6 : decode cX9_step 6 = .ok (.if_icmp .ne 7, 3) := by decide +kernel
theorem dX9_step_9 : decode cX9_step 9 = .ok (.iconst (-1), 1) := by decide +kernel
theorem dX9_step_10 : decode cX9_step 10 = .ok (.goto 13, 3) := by decide +kernel
theorem dX9_step_13 : decode cX9_step 13 = .ok (.iload_n 1, 1) := by decide +kernel
theorem dX9_step_14 : decode cX9_step 14 = .ok (.iconst 3, 1) := by decide +kernel
theorem dX9_step_15 : decode cX9_step 15 = .ok (.if_icmp .ne 7, 3) := by decide +kernel
theorem dX9_step_18 : decode cX9_step 18 = .ok (.iconst 1, 1) := by decide +kernel
theorem dX9_step_19 : decode cX9_step 19 = .ok (.goto 4, 3) := by decide +kernel
theorem dX9_step_22 : decode cX9_step 22 = .ok (.iconst 0, 1) := by decide +kernel
theorem dX9_step_23 : decode cX9_step 23 = .ok (.iadd, 1) := by decide +kernel
theorem dX9_step_24 : decode cX9_step 24 = .ok (.istore_n 2, 1) := by decide +kernel
theorem dX9_step_25 : decode cX9_step 25 = .ok (.iload_n 0, 1) := by decide +kernel
theorem dX9_step_26 : decode cX9_step 26 = .ok (.bipush 12, 2) := by decide +kernel
theorem dX9_step_28 : decode cX9_step 28 = .ok (.irem, 1) := by decide +kernel
theorem dX9_step_29 : decode cX9_step 29 = .ok (.iload_n 1, 1) := by decide +kernel
theorem dX9_step_30 : decode cX9_step 30 = .ok (.iconst 2, 1) := by decide +kernel
theorem dX9_step_31 : decode cX9_step 31 = .ok (.if_icmp .ne 7, 3) := by decide +kernel
theorem dX9_step_34 : decode cX9_step 34 = .ok (.iconst 1, 1) := by decide +kernel
theorem dX9_step_35 : decode cX9_step 35 = .ok (.goto 13, 3) := by decide +kernel
theorem dX9_step_38 : decode cX9_step 38 = .ok (.iload_n 1, 1) := by decide +kernel
theorem dX9_step_39 : decode cX9_step 39 = .ok (.iconst 4, 1) := by decide +kernel
theorem dX9_step_40 : decode cX9_step 40 = .ok (.if_icmp .ne 7, 3) := by decide +kernel
theorem dX9_step_43 : decode cX9_step 43 = .ok (.iconst (-1), 1) := by decide +kernel
theorem dX9_step_44 : decode cX9_step 44 = .ok (.goto 4, 3) := by decide +kernel
theorem dX9_step_47 : decode cX9_step 47 = .ok (.iconst 0, 1) := by decide +kernel
theorem dX9_step_48 : decode cX9_step 48 = .ok (.iadd, 1) := by decide +kernel
theorem dX9_step_49 : decode cX9_step 49 = .ok (.istore_n 3, 1) := by decide +kernel
theorem dX9_step_50 : decode cX9_step 50 = .ok (.iload_n 2, 1) := by decide +kernel
theorem dX9_step_51 : decode cX9_step 51 = .ok (.iconst 0, 1) := by decide +kernel
theorem dX9_step_52 : decode cX9_step 52 = .ok (.bipush 7, 2) := by decide +kernel
theorem dX9_step_54 : decode cX9_step 54 = .ok (.invokestatic 93, 3) := by decide +kernel
theorem dX9_step_57 : decode cX9_step 57 = .ok (.ifCond .eq 22, 3) := by decide +kernel
theorem dX9_step_60 : decode cX9_step 60 = .ok (.iload_n 3, 1) := by decide +kernel
theorem dX9_step_61 : decode cX9_step 61 = .ok (.iconst 0, 1) := by decide +kernel
theorem dX9_step_62 : decode cX9_step 62 = .ok (.bipush 11, 2) := by decide +kernel
theorem dX9_step_64 : decode cX9_step 64 = .ok (.invokestatic 93, 3) := by decide +kernel
theorem dX9_step_67 : decode cX9_step 67 = .ok (.ifCond .eq 12, 3) := by decide +kernel
theorem dX9_step_70 : decode cX9_step 70 = .ok (.bipush 12, 2) := by decide +kernel
theorem dX9_step_72 : decode cX9_step 72 = .ok (.iload_n 2, 1) := by decide +kernel
theorem dX9_step_73 : decode cX9_step 73 = .ok (.imul, 1) := by decide +kernel
theorem dX9_step_74 : decode cX9_step 74 = .ok (.iload_n 3, 1) := by decide +kernel
theorem dX9_step_75 : decode cX9_step 75 = .ok (.iadd, 1) := by decide +kernel
theorem dX9_step_76 : decode cX9_step 76 = .ok (.goto 4, 3) := by decide +kernel
theorem dX9_step_79 : decode cX9_step 79 = .ok (.iconst (-1), 1) := by decide +kernel
theorem dX9_step_80 : decode cX9_step 80 = .ok (.ireturn, 1) := by decide +kernel
theorem dX9_canGo_0 : decode cX9_canGo 0 = .ok (.iload_n 1, 1) := by decide +kernel
theorem dX9_canGo_1 : decode cX9_canGo 1 = .ok (.iload_n 2, 1) := by decide +kernel
theorem dX9_canGo_2 : decode cX9_canGo 2 = .ok (.if_icmp .ne 5, 3) := by decide +kernel
theorem dX9_canGo_5 : decode cX9_canGo 5 = .ok (.iconst 1, 1) := by decide +kernel
theorem dX9_canGo_6 : decode cX9_canGo 6 = .ok (.ireturn, 1) := by decide +kernel
theorem dX9_canGo_7 : decode cX9_canGo 7 = .ok (.iconst 1, 1) := by decide +kernel
theorem dX9_canGo_8 : decode cX9_canGo 8 = .ok (.istore 4, 2) := by decide +kernel
theorem dX9_canGo_10 : decode cX9_canGo 10 = .ok (.iload 4, 2) := by decide +kernel
theorem dX9_canGo_12 : decode cX9_canGo 12 = .ok (.iconst 4, 1) := by decide +kernel
theorem dX9_canGo_13 : decode cX9_canGo 13 = .ok (.if_icmp .gt 65, 3) := by decide +kernel
theorem dX9_canGo_16 : decode cX9_canGo 16 = .ok (.iload_n 3, 1) := by decide +kernel
theorem dX9_canGo_17 : decode cX9_canGo 17 = .ok (.ifCond .le 61, 3) := by decide +kernel
theorem dX9_canGo_20 : decode cX9_canGo 20 = .ok (.iload_n 1, 1) := by decide +kernel
theorem dX9_canGo_21 : decode cX9_canGo 21 = .ok (.iload 4, 2) := by decide +kernel
theorem dX9_canGo_23 : decode cX9_canGo 23 = .ok (.invokestatic 126, 3) := by decide +kernel
theorem dX9_canGo_26 : decode cX9_canGo 26 = .ok (.istore 5, 2) := by decide +kernel
theorem dX9_canGo_28 : decode cX9_canGo 28 = .ok (.iload 5, 2) := by decide +kernel
theorem dX9_canGo_30 : decode cX9_canGo 30 = .ok (.iconst (-1), 1) := by decide +kernel
theorem dX9_canGo_31 : decode cX9_canGo 31 = .ok (.if_icmp .eq 41, 3) := by decide +kernel
theorem dX9_canGo_34 : decode cX9_canGo 34 = .ok (.aload_n 0, 1) := by decide +kernel
theorem dX9_canGo_35 : decode cX9_canGo 35 = .ok (.iload 5, 2) := by decide +kernel
theorem dX9_canGo_37 : decode cX9_canGo 37 = .ok (.invokevirtual 110, 3) := by decide +kernel
theorem dX9_canGo_40 : decode cX9_canGo 40 = .ok (.ifCond .ne 6, 3) := by decide +kernel
theorem dX9_canGo_43 : decode cX9_canGo 43 = .ok (.goto 29, 3) := by decide +kernel
theorem dX9_canGo_46 : decode cX9_canGo 46 = .ok (.iload 5, 2) := by decide +kernel
theorem dX9_canGo_48 : decode cX9_canGo 48 = .ok (.iload_n 2, 1) := by decide +kernel
theorem dX9_canGo_49 : decode cX9_canGo 49 = .ok (.if_icmp .eq 21, 3) := by decide +kernel
theorem dX9_canGo_52 : decode cX9_canGo 52 = .ok (.iload_n 3, 1) := by decide +kernel
theorem dX9_canGo_53 : decode cX9_canGo 53 = .ok (.iconst 1, 1) := by decide +kernel
theorem dX9_canGo_54 : decode cX9_canGo 54 = .ok (.if_icmp .le 18, 3) := by decide +kernel
theorem dX9_canGo_57 : decode cX9_canGo 57 = .ok (.aload_n 0, 1) := by decide +kernel
theorem dX9_canGo_58 : decode cX9_canGo 58 = .ok (.iload 5, 2) := by decide +kernel
theorem dX9_canGo_60 : decode cX9_canGo 60 = .ok (.iload_n 2, 1) := by decide +kernel
theorem dX9_canGo_61 : decode cX9_canGo 61 = .ok (.iload_n 3, 1) := by decide +kernel
theorem dX9_canGo_62 : decode cX9_canGo 62 = .ok (.iconst 1, 1) := by decide +kernel
theorem dX9_canGo_63 : decode cX9_canGo 63 = .ok (.isub, 1) := by decide +kernel
theorem dX9_canGo_64 : decode cX9_canGo 64 = .ok (.invokevirtual 129, 3) := by decide +kernel
theorem dX9_canGo_67 : decode cX9_canGo 67 = .ok (.ifCond .eq 5, 3) := by decide +kernel
theorem dX9_canGo_70 : decode cX9_canGo 70 = .ok (.iconst 1, 1) := by decide +kernel
theorem dX9_canGo_71 : decode cX9_canGo 71 = .ok (.ireturn, 1) := by decide +kernel
theorem dX9_canGo_72 : decode cX9_canGo 72 = .ok (.iinc 4 1, 3) := by decide +kernel
theorem dX9_canGo_75 : decode cX9_canGo 75 = .ok (.goto (-65), 3) := by decide +kernel
theorem dX9_canGo_78 : decode cX9_canGo 78 = .ok (.iconst 0, 1) := by decide +kernel
theorem dX9_canGo_79 : decode cX9_canGo 79 = .ok (.ireturn, 1) := by decide +kernel
theorem dX9_nearBy_0 : decode cX9_nearBy 0 = .ok (.iconst 1, 1) := by decide +kernel
theorem dX9_nearBy_1 : decode cX9_nearBy 1 = .ok (.istore 4, 2) := by decide +kernel
theorem dX9_nearBy_3 : decode cX9_nearBy 3 = .ok (.iload 4, 2) := by decide +kernel
theorem dX9_nearBy_5 : decode cX9_nearBy 5 = .ok (.iconst 4, 1) := by decide +kernel
theorem dX9_nearBy_6 : decode cX9_nearBy 6 = .ok (.if_icmp .gt 76, 3) := by decide +kernel
theorem dX9_nearBy_9 : decode cX9_nearBy 9 = .ok (.iload_n 1, 1) := by decide +kernel
theorem dX9_nearBy_10 : decode cX9_nearBy 10 = .ok (.iload 4, 2) := by decide +kernel
theorem dX9_nearBy_12 : decode cX9_nearBy 12 = .ok (.invokestatic 126, 3) := by decide +kernel
theorem dX9_nearBy_15 : decode cX9_nearBy 15 = .ok (.istore 5, 2) := by decide +kernel
theorem dX9_nearBy_17 : decode cX9_nearBy 17 = .ok (.iload 5, 2) := by decide +kernel
theorem dX9_nearBy_19 : decode cX9_nearBy 19 = .ok (.iconst (-1), 1) := by decide +kernel
theorem dX9_nearBy_20 : decode cX9_nearBy 20 = .ok (.if_icmp .eq 56, 3) := by decide +kernel
theorem dX9_nearBy_23 : decode cX9_nearBy 23 = .ok (.aload_n 0, 1) := by decide +kernel
theorem dX9_nearBy_24 : decode cX9_nearBy 24 = .ok (.iload 5, 2) := by decide +kernel
theorem dX9_nearBy_26 : decode cX9_nearBy 26 = .ok (.invokevirtual 110, 3) := by decide +kernel
theorem dX9_nearBy_29 : decode cX9_nearBy 29 = .ok (.ifCond .ne 6, 3) := by decide +kernel
theorem dX9_nearBy_32 : decode cX9_nearBy 32 = .ok (.goto 44, 3) := by decide +kernel
theorem dX9_nearBy_35 : decode cX9_nearBy 35 = .ok (.iload 5, 2) := by decide +kernel
theorem dX9_nearBy_37 : decode cX9_nearBy 37 = .ok (.iload_n 2, 1) := by decide +kernel
theorem dX9_nearBy_38 : decode cX9_nearBy 38 = .ok (.if_icmp .ne 5, 3) := by decide +kernel
theorem dX9_nearBy_41 : decode cX9_nearBy 41 = .ok (.iconst 1, 1) := by decide +kernel
theorem dX9_nearBy_42 : decode cX9_nearBy 42 = .ok (.ireturn, 1) := by decide +kernel
theorem dX9_nearBy_43 : decode cX9_nearBy 43 = .ok (.iconst 1, 1) := by decide +kernel
theorem dX9_nearBy_44 : decode cX9_nearBy 44 = .ok (.istore 6, 2) := by decide +kernel
theorem dX9_nearBy_46 : decode cX9_nearBy 46 = .ok (.iload 6, 2) := by decide +kernel
theorem dX9_nearBy_48 : decode cX9_nearBy 48 = .ok (.iconst 4, 1) := by decide +kernel
theorem dX9_nearBy_49 : decode cX9_nearBy 49 = .ok (.if_icmp .gt 27, 3) := by decide +kernel
theorem dX9_nearBy_52 : decode cX9_nearBy 52 = .ok (.iload_n 3, 1) := by decide +kernel
theorem dX9_nearBy_53 : decode cX9_nearBy 53 = .ok (.iconst 1, 1) := by decide +kernel
theorem dX9_nearBy_54 : decode cX9_nearBy 54 = .ok (.if_icmp .le 22, 3) := by decide +kernel
theorem dX9_nearBy_57 : decode cX9_nearBy 57 = .ok (.iload 5, 2) := by decide +kernel
theorem dX9_nearBy_59 : decode cX9_nearBy 59 = .ok (.iload 6, 2) := by decide +kernel
theorem dX9_nearBy_61 : decode cX9_nearBy 61 = .ok (.invokestatic 126, 3) := by decide +kernel
theorem dX9_nearBy_64 : decode cX9_nearBy 64 = .ok (.iload_n 2, 1) := by decide +kernel
theorem dX9_nearBy_65 : decode cX9_nearBy 65 = .ok (.if_icmp .ne 5, 3) := by decide +kernel
theorem dX9_nearBy_68 : decode cX9_nearBy 68 = .ok (.iconst 1, 1) := by decide +kernel
theorem dX9_nearBy_69 : decode cX9_nearBy 69 = .ok (.ireturn, 1) := by decide +kernel
theorem dX9_nearBy_70 : decode cX9_nearBy 70 = .ok (.iinc 6 1, 3) := by decide +kernel
theorem dX9_nearBy_73 : decode cX9_nearBy 73 = .ok (.goto (-27), 3) := by decide +kernel
theorem dX9_nearBy_76 : decode cX9_nearBy 76 = .ok (.iinc 4 1, 3) := by decide +kernel
theorem dX9_nearBy_79 : decode cX9_nearBy 79 = .ok (.goto (-76), 3) := by decide +kernel
theorem dX9_nearBy_82 : decode cX9_nearBy 82 = .ok (.iconst 0, 1) := by decide +kernel
theorem dX9_nearBy_83 : decode cX9_nearBy 83 = .ok (.ireturn, 1) := by decide +kernel
theorem dX9_sail_0 : decode cX9_sail 0 = .ok (.aload_n 0, 1) := by decide +kernel
theorem dX9_sail_1 : decode cX9_sail 1 = .ok (.iload_n 1, 1) := by decide +kernel
theorem dX9_sail_2 : decode cX9_sail 2 = .ok (.invokevirtual 132, 3) := by decide +kernel
theorem dX9_sail_5 : decode cX9_sail 5 = .ok (.ifCond .eq 40, 3) := by decide +kernel
theorem dX9_sail_8 : decode cX9_sail 8 = .ok (.aload_n 0, 1) := by decide +kernel
theorem dX9_sail_9 : decode cX9_sail 9 = .ok (.getfield 60, 3) := by decide +kernel
theorem dX9_sail_12 : decode cX9_sail 12 = .ok (.iload_n 1, 1) := by decide +kernel
theorem dX9_sail_13 : decode cX9_sail 13 = .ok (.baload, 1) := by decide +kernel
theorem dX9_sail_14 : decode cX9_sail 14 = .ok (.ifCond .ne 31, 3) := by decide +kernel
theorem dX9_sail_17 : decode cX9_sail 17 = .ok (.aload_n 0, 1) := by decide +kernel
theorem dX9_sail_18 : decode cX9_sail 18 = .ok (.iload_n 2, 1) := by decide +kernel
theorem dX9_sail_19 : decode cX9_sail 19 = .ok (.invokevirtual 110, 3) := by decide +kernel
theorem dX9_sail_22 : decode cX9_sail 22 = .ok (.ifCond .eq 23, 3) := by decide +kernel
theorem dX9_sail_25 : decode cX9_sail 25 = .ok (.aload_n 0, 1) := by decide +kernel
theorem dX9_sail_26 : decode cX9_sail 26 = .ok (.aload_n 0, 1) := by decide +kernel
theorem dX9_sail_27 : decode cX9_sail 27 = .ok (.getfield 39, 3) := by decide +kernel
theorem dX9_sail_30 : decode cX9_sail 30 = .ok (.iload_n 1, 1) := by decide +kernel
theorem dX9_sail_31 : decode cX9_sail 31 = .ok (.iaload, 1) := by decide +kernel
theorem dX9_sail_32 : decode cX9_sail 32 = .ok (.iload_n 2, 1) := by decide +kernel
theorem dX9_sail_33 : decode cX9_sail 33 = .ok (.aload_n 0, 1) := by decide +kernel
theorem dX9_sail_34 : decode cX9_sail 34 = .ok (.getfield 48, 3) := by decide +kernel
theorem dX9_sail_37 : decode cX9_sail 37 = .ok (.iload_n 1, 1) := by decide +kernel
theorem dX9_sail_38 : decode cX9_sail 38 = .ok (.iaload, 1) := by decide +kernel
theorem dX9_sail_39 : decode cX9_sail 39 = .ok (.invokevirtual 135, 3) := by decide +kernel
theorem dX9_sail_42 : decode cX9_sail 42 = .ok (.ifCond .ne 5, 3) := by decide +kernel
theorem dX9_sail_45 : decode cX9_sail 45 = .ok (.iconst 0, 1) := by decide +kernel
theorem dX9_sail_46 : decode cX9_sail 46 = .ok (.ireturn, 1) := by decide +kernel
theorem dX9_sail_47 : decode cX9_sail 47 = .ok (.aload_n 0, 1) := by decide +kernel
theorem dX9_sail_48 : decode cX9_sail 48 = .ok (.getfield 39, 3) := by decide +kernel
theorem dX9_sail_51 : decode cX9_sail 51 = .ok (.iload_n 1, 1) := by decide +kernel
theorem dX9_sail_52 : decode cX9_sail 52 = .ok (.iload_n 2, 1) := by decide +kernel
theorem dX9_sail_53 : decode cX9_sail 53 = .ok (.iastore, 1) := by decide +kernel
theorem dX9_sail_54 : decode cX9_sail 54 = .ok (.aload_n 0, 1) := by decide +kernel
theorem dX9_sail_55 : decode cX9_sail 55 = .ok (.getfield 60, 3) := by decide +kernel
theorem dX9_sail_58 : decode cX9_sail 58 = .ok (.iload_n 1, 1) := by decide +kernel
theorem dX9_sail_59 : decode cX9_sail 59 = .ok (.iconst 1, 1) := by decide +kernel
theorem dX9_sail_60 : decode cX9_sail 60 = .ok (.bastore, 1) := by decide +kernel
theorem dX9_sail_61 : decode cX9_sail 61 = .ok (.iconst 1, 1) := by decide +kernel
theorem dX9_sail_62 : decode cX9_sail 62 = .ok (.ireturn, 1) := by decide +kernel
theorem dX9_empty_0 : decode cX9_empty 0 = .ok (.aload_n 0, 1) := by decide +kernel
theorem dX9_empty_1 : decode cX9_empty 1 = .ok (.iload_n 1, 1) := by decide +kernel
theorem dX9_empty_2 : decode cX9_empty 2 = .ok (.invokevirtual 132, 3) := by decide +kernel
theorem dX9_empty_5 : decode cX9_empty 5 = .ok (.ifCond .ne 5, 3) := by decide +kernel
theorem dX9_empty_8 : decode cX9_empty 8 = .ok (.iconst (-1), 1) := by decide +kernel
theorem dX9_empty_9 : decode cX9_empty 9 = .ok (.ireturn, 1) := by decide +kernel
theorem dX9_empty_10 : decode cX9_empty 10 = .ok (.aload_n 0, 1) := by decide +kernel
theorem dX9_empty_11 : decode cX9_empty 11 = .ok (.getfield 51, 3) := by decide +kernel
theorem dX9_empty_14 : decode cX9_empty 14 = .ok (.iload_n 1, 1) := by decide +kernel
theorem dX9_empty_15 : decode cX9_empty 15 = .ok (.iaload, 1) := by decide +kernel
theorem dX9_empty_16 : decode cX9_empty 16 = .ok (.istore_n 2, 1) := by decide +kernel
theorem dX9_empty_17 : decode cX9_empty 17 = .ok (.aload_n 0, 1) := by decide +kernel
theorem dX9_empty_18 : decode cX9_empty 18 = .ok (.getfield 51, 3) := by decide +kernel
theorem dX9_empty_21 : decode cX9_empty 21 = .ok (.iload_n 1, 1) := by decide +kernel
theorem dX9_empty_22 : decode cX9_empty 22 = .ok (.iconst 0, 1) := by decide +kernel
theorem dX9_empty_23 : decode cX9_empty 23 = .ok (.iastore, 1) := by decide +kernel
theorem dX9_empty_24 : decode cX9_empty 24 = .ok (.iload_n 2, 1) := by decide +kernel
theorem dX9_empty_25 : decode cX9_empty 25 = .ok (.ireturn, 1) := by decide +kernel
theorem dX9_hour_0 : decode cX9_hour 0 = .ok (.aload_n 0, 1) := by decide +kernel
theorem dX9_hour_1 : decode cX9_hour 1 = .ok (.getfield 104, 3) := by decide +kernel
theorem dX9_hour_4 : decode cX9_hour 4 = .ok (.sipush 500, 3) := by decide +kernel
theorem dX9_hour_7 : decode cX9_hour 7 = .ok (.if_icmp .le 7, 3) := by decide +kernel
theorem dX9_hour_10 : decode cX9_hour 10 = .ok (.iconst 0, 1) := by decide +kernel
theorem dX9_hour_11 : decode cX9_hour 11 = .ok (.goto 18, 3) := by decide +kernel
theorem dX9_hour_14 : decode cX9_hour 14 = .ok (.aload_n 0, 1) := by decide +kernel
theorem dX9_hour_15 : decode cX9_hour 15 = .ok (.getfield 16, 3) := by decide +kernel
theorem dX9_hour_18 : decode cX9_hour 18 = .ok (.sipush 501, 3) := by decide +kernel
theorem dX9_hour_21 : decode cX9_hour 21 = .ok (.iload_n 1, 1) := by decide +kernel
theorem dX9_hour_22 : decode cX9_hour 22 = .ok (.imul, 1) := by decide +kernel
theorem dX9_hour_23 : decode cX9_hour 23 = .ok (.aload_n 0, 1) := by decide +kernel
theorem dX9_hour_24 : decode cX9_hour 24 = .ok (.getfield 104, 3) := by decide +kernel
theorem dX9_hour_27 : decode cX9_hour 27 = .ok (.iadd, 1) := by decide +kernel
theorem dX9_hour_28 : decode cX9_hour 28 = .ok (.iaload, 1) := by decide +kernel
theorem dX9_hour_29 : decode cX9_hour 29 = .ok (.istore_n 2, 1) := by decide +kernel
theorem dX9_hour_30 : decode cX9_hour 30 = .ok (.aload_n 0, 1) := by decide +kernel
theorem dX9_hour_31 : decode cX9_hour 31 = .ok (.getfield 104, 3) := by decide +kernel
theorem dX9_hour_34 : decode cX9_hour 34 = .ok (.sipush 500, 3) := by decide +kernel
theorem dX9_hour_37 : decode cX9_hour 37 = .ok (.if_icmp .le 7, 3) := by decide +kernel
theorem dX9_hour_40 : decode cX9_hour 40 = .ok (.iconst 0, 1) := by decide +kernel
theorem dX9_hour_41 : decode cX9_hour 41 = .ok (.goto 18, 3) := by decide +kernel
theorem dX9_hour_44 : decode cX9_hour 44 = .ok (.aload_n 0, 1) := by decide +kernel
theorem dX9_hour_45 : decode cX9_hour 45 = .ok (.getfield 19, 3) := by decide +kernel
theorem dX9_hour_48 : decode cX9_hour 48 = .ok (.sipush 501, 3) := by decide +kernel
theorem dX9_hour_51 : decode cX9_hour 51 = .ok (.iload_n 1, 1) := by decide +kernel
theorem dX9_hour_52 : decode cX9_hour 52 = .ok (.imul, 1) := by decide +kernel
theorem dX9_hour_53 : decode cX9_hour 53 = .ok (.aload_n 0, 1) := by decide +kernel
theorem dX9_hour_54 : decode cX9_hour 54 = .ok (.getfield 104, 3) := by decide +kernel
theorem dX9_hour_57 : decode cX9_hour 57 = .ok (.iadd, 1) := by decide +kernel
theorem dX9_hour_58 : decode cX9_hour 58 = .ok (.iaload, 1) := by decide +kernel
theorem dX9_hour_59 : decode cX9_hour 59 = .ok (.istore_n 3, 1) := by decide +kernel
theorem dX9_hour_60 : decode cX9_hour 60 = .ok (.iconst 0, 1) := by decide +kernel
theorem dX9_hour_61 : decode cX9_hour 61 = .ok (.istore 4, 2) := by decide +kernel
theorem dX9_hour_63 : decode cX9_hour 63 = .ok (.iload 4, 2) := by decide +kernel
theorem dX9_hour_65 : decode cX9_hour 65 = .ok (.bipush 96, 2) := by decide +kernel
theorem dX9_hour_67 : decode cX9_hour 67 = .ok (.if_icmp .ge 17, 3) := by decide +kernel
theorem dX9_hour_70 : decode cX9_hour 70 = .ok (.aload_n 0, 1) := by decide +kernel
theorem dX9_hour_71 : decode cX9_hour 71 = .ok (.getfield 75, 3) := by decide +kernel
theorem dX9_hour_74 : decode cX9_hour 74 = .ok (.iload 4, 2) := by decide +kernel
theorem dX9_hour_76 : decode cX9_hour 76 = .ok (.iconst 0, 1) := by decide +kernel
theorem dX9_hour_77 : decode cX9_hour 77 = .ok (.iastore, 1) := by decide +kernel
theorem dX9_hour_78 : decode cX9_hour 78 = .ok (.iinc 4 1, 3) := by decide +kernel
theorem dX9_hour_81 : decode cX9_hour 81 = .ok (.goto (-18), 3) := by decide +kernel
theorem dX9_hour_84 : decode cX9_hour 84 = .ok (.iconst 0, 1) := by decide +kernel
theorem dX9_hour_85 : decode cX9_hour 85 = .ok (.istore 4, 2) := by decide +kernel
theorem dX9_hour_87 : decode cX9_hour 87 = .ok (.iload 4, 2) := by decide +kernel
theorem dX9_hour_89 : decode cX9_hour 89 = .ok (.bipush 96, 2) := by decide +kernel
theorem dX9_hour_91 : decode cX9_hour 91 = .ok (.if_icmp .ge 135, 3) := by decide +kernel
theorem dX9_hour_94 : decode cX9_hour 94 = .ok (.iload_n 2, 1) := by decide +kernel
theorem dX9_hour_95 : decode cX9_hour 95 = .ok (.ifCond .le 131, 3) := by decide +kernel
theorem dX9_hour_98 : decode cX9_hour 98 = .ok (.aload_n 0, 1) := by decide +kernel
theorem dX9_hour_99 : decode cX9_hour 99 = .ok (.getfield 9, 3) := by decide +kernel
theorem dX9_hour_102 : decode cX9_hour 102 = .ok (.iload 4, 2) := by decide +kernel
theorem dX9_hour_104 : decode cX9_hour 104 = .ok (.iaload, 1) := by decide +kernel
theorem dX9_hour_105 : decode cX9_hour 105 = .ok (.ifCond .le 6, 3) := by decide +kernel
theorem dX9_hour_108 : decode cX9_hour 108 = .ok (.goto 112, 3) := by decide +kernel
theorem dX9_hour_111 : decode cX9_hour 111 = .ok (.aload_n 0, 1) := by decide +kernel
theorem dX9_hour_112 : decode cX9_hour 112 = .ok (.getfield 13, 3) := by decide +kernel
theorem dX9_hour_115 : decode cX9_hour 115 = .ok (.iload 4, 2) := by decide +kernel
theorem dX9_hour_117 : decode cX9_hour 117 = .ok (.iaload, 1) := by decide +kernel
theorem dX9_hour_118 : decode cX9_hour 118 = .ok (.iconst 2, 1) := by decide +kernel
theorem dX9_hour_119 : decode cX9_hour 119 = .ok (.idiv, 1) := by decide +kernel
theorem dX9_hour_120 : decode cX9_hour 120 = .ok (.istore 5, 2) := by decide +kernel
theorem dX9_hour_122 : decode cX9_hour 122 = .ok (.iload 4, 2) := by decide +kernel
theorem dX9_hour_124 : decode cX9_hour 124 = .ok (.iload_n 2, 1) := by decide +kernel
theorem dX9_hour_125 : decode cX9_hour 125 = .ok (.invokestatic 126, 3) := by decide +kernel
theorem dX9_hour_128 : decode cX9_hour 128 = .ok (.istore 6, 2) := by decide +kernel
theorem dX9_hour_130 : decode cX9_hour 130 = .ok (.iload 6, 2) := by decide +kernel
theorem dX9_hour_132 : decode cX9_hour 132 = .ok (.iconst (-1), 1) := by decide +kernel
theorem dX9_hour_133 : decode cX9_hour 133 = .ok (.if_icmp .ne 29, 3) := by decide +kernel
theorem dX9_hour_136 : decode cX9_hour 136 = .ok (.aload_n 0, 1) := by decide +kernel
theorem dX9_hour_137 : decode cX9_hour 137 = .ok (.dup, 1) := by decide +kernel
theorem dX9_hour_138 : decode cX9_hour 138 = .ok (.getfield 138, 3) := by decide +kernel
theorem dX9_hour_141 : decode cX9_hour 141 = .ok (.iload 5, 2) := by decide +kernel
theorem dX9_hour_143 : decode cX9_hour 143 = .ok (.iadd, 1) := by decide +kernel
theorem dX9_hour_144 : decode cX9_hour 144 = .ok (.putfield 138, 3) := by decide +kernel
theorem dX9_hour_147 : decode cX9_hour 147 = .ok (.aload_n 0, 1) := by decide +kernel
theorem dX9_hour_148 : decode cX9_hour 148 = .ok (.getfield 75, 3) := by decide +kernel
theorem dX9_hour_151 : decode cX9_hour 151 = .ok (.iload 4, 2) := by decide +kernel
theorem dX9_hour_153 : decode cX9_hour 153 = .ok (.dup2, 1) := by decide +kernel
theorem dX9_hour_154 : decode cX9_hour 154 = .ok (.iaload, 1) := by decide +kernel
theorem dX9_hour_155 : decode cX9_hour 155 = .ok (.iload 5, 2) := by decide +kernel
theorem dX9_hour_157 : decode cX9_hour 157 = .ok (.isub, 1) := by decide +kernel
theorem dX9_hour_158 : decode cX9_hour 158 = .ok (.iastore, 1) := by decide +kernel
theorem dX9_hour_159 : decode cX9_hour 159 = .ok (.goto 61, 3) := by decide +kernel
theorem dX9_hour_162 : decode cX9_hour 162 = .ok (.aload_n 0, 1) := by decide +kernel
theorem dX9_hour_163 : decode cX9_hour 163 = .ok (.iload 4, 2) := by decide +kernel
theorem dX9_hour_165 : decode cX9_hour 165 = .ok (.iload 6, 2) := by decide +kernel
theorem dX9_hour_167 : decode cX9_hour 167 = .ok (.invokevirtual 117, 3) := by decide +kernel
theorem dX9_hour_170 : decode cX9_hour 170 = .ok (.istore 7, 2) := by decide +kernel
theorem dX9_hour_172 : decode cX9_hour 172 = .ok (.iload 7, 2) := by decide +kernel
theorem dX9_hour_174 : decode cX9_hour 174 = .ok (.iconst (-1), 1) := by decide +kernel
theorem dX9_hour_175 : decode cX9_hour 175 = .ok (.if_icmp .eq 21, 3) := by decide +kernel
theorem dX9_hour_178 : decode cX9_hour 178 = .ok (.iload_n 3, 1) := by decide +kernel
theorem dX9_hour_179 : decode cX9_hour 179 = .ok (.aload_n 0, 1) := by decide +kernel
theorem dX9_hour_180 : decode cX9_hour 180 = .ok (.getfield 32, 3) := by decide +kernel
theorem dX9_hour_183 : decode cX9_hour 183 = .ok (.iload 7, 2) := by decide +kernel
theorem dX9_hour_185 : decode cX9_hour 185 = .ok (.iaload, 1) := by decide +kernel
theorem dX9_hour_186 : decode cX9_hour 186 = .ok (.if_icmp .gt 10, 3) := by decide +kernel
theorem dX9_hour_189 : decode cX9_hour 189 = .ok (.iload 5, 2) := by decide +kernel
theorem dX9_hour_191 : decode cX9_hour 191 = .ok (.bipush 10, 2) := by decide +kernel
theorem dX9_hour_193 : decode cX9_hour 193 = .ok (.idiv, 1) := by decide +kernel
theorem dX9_hour_194 : decode cX9_hour 194 = .ok (.istore 5, 2) := by decide +kernel
theorem dX9_hour_196 : decode cX9_hour 196 = .ok (.aload_n 0, 1) := by decide +kernel
theorem dX9_hour_197 : decode cX9_hour 197 = .ok (.getfield 75, 3) := by decide +kernel
theorem dX9_hour_200 : decode cX9_hour 200 = .ok (.iload 4, 2) := by decide +kernel
theorem dX9_hour_202 : decode cX9_hour 202 = .ok (.dup2, 1) := by decide +kernel
theorem dX9_hour_203 : decode cX9_hour 203 = .ok (.iaload, 1) := by decide +kernel
theorem dX9_hour_204 : decode cX9_hour 204 = .ok (.iload 5, 2) := by decide +kernel
theorem dX9_hour_206 : decode cX9_hour 206 = .ok (.isub, 1) := by decide +kernel
theorem dX9_hour_207 : decode cX9_hour 207 = .ok (.iastore, 1) := by decide +kernel
theorem dX9_hour_208 : decode cX9_hour 208 = .ok (.aload_n 0, 1) := by decide +kernel
theorem dX9_hour_209 : decode cX9_hour 209 = .ok (.getfield 75, 3) := by decide +kernel
theorem dX9_hour_212 : decode cX9_hour 212 = .ok (.iload 6, 2) := by decide +kernel
theorem dX9_hour_214 : decode cX9_hour 214 = .ok (.dup2, 1) := by decide +kernel
theorem dX9_hour_215 : decode cX9_hour 215 = .ok (.iaload, 1) := by decide +kernel
theorem dX9_hour_216 : decode cX9_hour 216 = .ok (.iload 5, 2) := by decide +kernel
theorem dX9_hour_218 : decode cX9_hour 218 = .ok (.iadd, 1) := by decide +kernel
theorem dX9_hour_219 : decode cX9_hour 219 = .ok (.iastore, 1) := by decide +kernel
theorem dX9_hour_220 : decode cX9_hour 220 = .ok (.iinc 4 1, 3) := by decide +kernel
theorem dX9_hour_223 : decode cX9_hour 223 = .ok (.goto (-136), 3) := by decide +kernel
theorem dX9_hour_226 : decode cX9_hour 226 = .ok (.aload_n 0, 1) := by decide +kernel
theorem dX9_hour_227 : decode cX9_hour 227 = .ok (.getfield 104, 3) := by decide +kernel
theorem dX9_hour_230 : decode cX9_hour 230 = .ok (.aload_n 0, 1) := by decide +kernel
theorem dX9_hour_231 : decode cX9_hour 231 = .ok (.getfield 35, 3) := by decide +kernel
theorem dX9_hour_234 : decode cX9_hour 234 = .ok (.isub, 1) := by decide +kernel
theorem dX9_hour_235 : decode cX9_hour 235 = .ok (.istore 4, 2) := by decide +kernel
theorem dX9_hour_237 : decode cX9_hour 237 = .ok (.iload 4, 2) := by decide +kernel
theorem dX9_hour_239 : decode cX9_hour 239 = .ok (.bipush 12, 2) := by decide +kernel
theorem dX9_hour_241 : decode cX9_hour 241 = .ok (.if_icmp .ge 8, 3) := by decide +kernel
theorem dX9_hour_244 : decode cX9_hour 244 = .ok (.bipush 30, 2) := by decide +kernel
theorem dX9_hour_246 : decode cX9_hour 246 = .ok (.goto 16, 3) := by decide +kernel
theorem dX9_hour_249 : decode cX9_hour 249 = .ok (.iload 4, 2) := by decide +kernel
theorem dX9_hour_251 : decode cX9_hour 251 = .ok (.bipush 48, 2) := by decide +kernel
theorem dX9_hour_253 : decode cX9_hour 253 = .ok (.if_icmp .ge 8, 3) := by decide +kernel
theorem dX9_hour_256 : decode cX9_hour 256 = .ok (.bipush 10, 2) := by decide +kernel
theorem dX9_hour_258 : decode cX9_hour 258 = .ok (.goto 4, 3) := by decide +kernel
theorem dX9_hour_261 : decode cX9_hour 261 = .ok (.iconst 2, 1) := by decide +kernel
theorem dX9_hour_262 : decode cX9_hour 262 = .ok (.istore 5, 2) := by decide +kernel
theorem dX9_hour_264 : decode cX9_hour 264 = .ok (.iconst 0, 1) := by decide +kernel
theorem dX9_hour_265 : decode cX9_hour 265 = .ok (.istore 6, 2) := by decide +kernel
theorem dX9_hour_267 : decode cX9_hour 267 = .ok (.iload 6, 2) := by decide +kernel
theorem dX9_hour_269 : decode cX9_hour 269 = .ok (.bipush 96, 2) := by decide +kernel
theorem dX9_hour_271 : decode cX9_hour 271 = .ok (.if_icmp .ge 81, 3) := by decide +kernel
theorem dX9_hour_274 : decode cX9_hour 274 = .ok (.aload_n 0, 1) := by decide +kernel
theorem dX9_hour_275 : decode cX9_hour 275 = .ok (.getfield 13, 3) := by decide +kernel
theorem dX9_hour_278 : decode cX9_hour 278 = .ok (.iload 6, 2) := by decide +kernel
theorem dX9_hour_280 : decode cX9_hour 280 = .ok (.dup2, 1) := by decide +kernel
theorem dX9_hour_281 : decode cX9_hour 281 = .ok (.iaload, 1) := by decide +kernel
theorem dX9_hour_282 : decode cX9_hour 282 = .ok (.aload_n 0, 1) := by decide +kernel
theorem dX9_hour_283 : decode cX9_hour 283 = .ok (.getfield 75, 3) := by decide +kernel
theorem dX9_hour_286 : decode cX9_hour 286 = .ok (.iload 6, 2) := by decide +kernel
theorem dX9_hour_288 : decode cX9_hour 288 = .ok (.iaload, 1) := by decide +kernel
theorem dX9_hour_289 : decode cX9_hour 289 = .ok (.iadd, 1) := by decide +kernel
theorem dX9_hour_290 : decode cX9_hour 290 = .ok (.iastore, 1) := by decide +kernel
theorem dX9_hour_291 : decode cX9_hour 291 = .ok (.aload_n 0, 1) := by decide +kernel
theorem dX9_hour_292 : decode cX9_hour 292 = .ok (.getfield 9, 3) := by decide +kernel
theorem dX9_hour_295 : decode cX9_hour 295 = .ok (.iload 6, 2) := by decide +kernel
theorem dX9_hour_297 : decode cX9_hour 297 = .ok (.iaload, 1) := by decide +kernel
theorem dX9_hour_298 : decode cX9_hour 298 = .ok (.ifCond .le 6, 3) := by decide +kernel
theorem dX9_hour_301 : decode cX9_hour 301 = .ok (.goto 45, 3) := by decide +kernel
theorem dX9_hour_304 : decode cX9_hour 304 = .ok (.aload_n 0, 1) := by decide +kernel
theorem dX9_hour_305 : decode cX9_hour 305 = .ok (.getfield 13, 3) := by decide +kernel
theorem dX9_hour_308 : decode cX9_hour 308 = .ok (.iload 6, 2) := by decide +kernel
theorem dX9_hour_310 : decode cX9_hour 310 = .ok (.iaload, 1) := by decide +kernel
theorem dX9_hour_311 : decode cX9_hour 311 = .ok (.i2l, 1) := by decide +kernel
theorem dX9_hour_312 : decode cX9_hour 312 = .ok (.iload 5, 2) := by decide +kernel
theorem dX9_hour_314 : decode cX9_hour 314 = .ok (.i2l, 1) := by decide +kernel
theorem dX9_hour_315 : decode cX9_hour 315 = .ok (.lmul, 1) := by decide +kernel
theorem dX9_hour_316 : decode cX9_hour 316 = .ok (.ldc2_w 141, 3) := by decide +kernel
theorem dX9_hour_319 : decode cX9_hour 319 = .ok (.ldiv, 1) := by decide +kernel
theorem dX9_hour_320 : decode cX9_hour 320 = .ok (.l2i, 1) := by decide +kernel
theorem dX9_hour_321 : decode cX9_hour 321 = .ok (.istore 7, 2) := by decide +kernel
theorem dX9_hour_323 : decode cX9_hour 323 = .ok (.aload_n 0, 1) := by decide +kernel
theorem dX9_hour_324 : decode cX9_hour 324 = .ok (.getfield 13, 3) := by decide +kernel
theorem dX9_hour_327 : decode cX9_hour 327 = .ok (.iload 6, 2) := by decide +kernel
theorem dX9_hour_329 : decode cX9_hour 329 = .ok (.dup2, 1) := by decide +kernel
theorem dX9_hour_330 : decode cX9_hour 330 = .ok (.iaload, 1) := by decide +kernel
theorem dX9_hour_331 : decode cX9_hour 331 = .ok (.iload 7, 2) := by decide +kernel
theorem dX9_hour_333 : decode cX9_hour 333 = .ok (.isub, 1) := by decide +kernel
theorem dX9_hour_334 : decode cX9_hour 334 = .ok (.iastore, 1) := by decide +kernel
theorem dX9_hour_335 : decode cX9_hour 335 = .ok (.aload_n 0, 1) := by decide +kernel
theorem dX9_hour_336 : decode cX9_hour 336 = .ok (.dup, 1) := by decide +kernel
theorem dX9_hour_337 : decode cX9_hour 337 = .ok (.getfield 143, 3) := by decide +kernel
theorem dX9_hour_340 : decode cX9_hour 340 = .ok (.iload 7, 2) := by decide +kernel
theorem dX9_hour_342 : decode cX9_hour 342 = .ok (.iadd, 1) := by decide +kernel
theorem dX9_hour_343 : decode cX9_hour 343 = .ok (.putfield 143, 3) := by decide +kernel
theorem dX9_hour_346 : decode cX9_hour 346 = .ok (.iinc 6 1, 3) := by decide +kernel
theorem dX9_hour_349 : decode cX9_hour 349 = .ok (.goto (-82), 3) := by decide +kernel
theorem dX9_hour_352 : decode cX9_hour 352 = .ok (.iconst 0, 1) := by decide +kernel
theorem dX9_hour_353 : decode cX9_hour 353 = .ok (.istore 6, 2) := by decide +kernel
theorem dX9_hour_355 : decode cX9_hour 355 = .ok (.iload 6, 2) := by decide +kernel
theorem dX9_hour_357 : decode cX9_hour 357 = .ok (.aload_n 0, 1) := by decide +kernel
theorem dX9_hour_358 : decode cX9_hour 358 = .ok (.getfield 101, 3) := by decide +kernel
theorem dX9_hour_361 : decode cX9_hour 361 = .ok (.if_icmp .ge 149, 3) := by decide +kernel
theorem dX9_hour_364 : decode cX9_hour 364 = .ok (.aload_n 0, 1) := by decide +kernel
theorem dX9_hour_365 : decode cX9_hour 365 = .ok (.getfield 13, 3) := by decide +kernel
theorem dX9_hour_368 : decode cX9_hour 368 = .ok (.aload_n 0, 1) := by decide +kernel
theorem dX9_hour_369 : decode cX9_hour 369 = .ok (.getfield 39, 3) := by decide +kernel
theorem dX9_hour_372 : decode cX9_hour 372 = .ok (.iload 6, 2) := by decide +kernel
theorem dX9_hour_374 : decode cX9_hour 374 = .ok (.iaload, 1) := by decide +kernel
theorem dX9_hour_375 : decode cX9_hour 375 = .ok (.iaload, 1) := by decide +kernel
theorem dX9_hour_376 : decode cX9_hour 376 = .ok (.aload_n 0, 1) := by decide +kernel
theorem dX9_hour_377 : decode cX9_hour 377 = .ok (.getfield 42, 3) := by decide +kernel
theorem dX9_hour_380 : decode cX9_hour 380 = .ok (.iload 6, 2) := by decide +kernel
theorem dX9_hour_382 : decode cX9_hour 382 = .ok (.iaload, 1) := by decide +kernel
theorem dX9_hour_383 : decode cX9_hour 383 = .ok (.if_icmp .ge 18, 3) := by decide +kernel
theorem dX9_hour_386 : decode cX9_hour 386 = .ok (.aload_n 0, 1) := by decide +kernel
theorem dX9_hour_387 : decode cX9_hour 387 = .ok (.getfield 13, 3) := by decide +kernel
theorem dX9_hour_390 : decode cX9_hour 390 = .ok (.aload_n 0, 1) := by decide +kernel
theorem dX9_hour_391 : decode cX9_hour 391 = .ok (.getfield 39, 3) := by decide +kernel
theorem dX9_hour_394 : decode cX9_hour 394 = .ok (.iload 6, 2) := by decide +kernel
theorem dX9_hour_396 : decode cX9_hour 396 = .ok (.iaload, 1) := by decide +kernel
theorem dX9_hour_397 : decode cX9_hour 397 = .ok (.iaload, 1) := by decide +kernel
theorem dX9_hour_398 : decode cX9_hour 398 = .ok (.goto 10, 3) := by decide +kernel
theorem dX9_hour_401 : decode cX9_hour 401 = .ok (.aload_n 0, 1) := by decide +kernel
theorem dX9_hour_402 : decode cX9_hour 402 = .ok (.getfield 42, 3) := by decide +kernel
theorem dX9_hour_405 : decode cX9_hour 405 = .ok (.iload 6, 2) := by decide +kernel
theorem dX9_hour_407 : decode cX9_hour 407 = .ok (.iaload, 1) := by decide +kernel
theorem dX9_hour_408 : decode cX9_hour 408 = .ok (.istore 7, 2) := by decide +kernel
theorem dX9_hour_410 : decode cX9_hour 410 = .ok (.iload 7, 2) := by decide +kernel
theorem dX9_hour_412 : decode cX9_hour 412 = .ok (.aload_n 0, 1) := by decide +kernel
theorem dX9_hour_413 : decode cX9_hour 413 = .ok (.getfield 45, 3) := by decide +kernel
theorem dX9_hour_416 : decode cX9_hour 416 = .ok (.iload 6, 2) := by decide +kernel
theorem dX9_hour_418 : decode cX9_hour 418 = .ok (.iaload, 1) := by decide +kernel
theorem dX9_hour_419 : decode cX9_hour 419 = .ok (.aload_n 0, 1) := by decide +kernel
theorem dX9_hour_420 : decode cX9_hour 420 = .ok (.getfield 51, 3) := by decide +kernel
theorem dX9_hour_423 : decode cX9_hour 423 = .ok (.iload 6, 2) := by decide +kernel
theorem dX9_hour_425 : decode cX9_hour 425 = .ok (.iaload, 1) := by decide +kernel
theorem dX9_hour_426 : decode cX9_hour 426 = .ok (.isub, 1) := by decide +kernel
theorem dX9_hour_427 : decode cX9_hour 427 = .ok (.if_icmp .ge 8, 3) := by decide +kernel
theorem dX9_hour_430 : decode cX9_hour 430 = .ok (.iload 7, 2) := by decide +kernel
theorem dX9_hour_432 : decode cX9_hour 432 = .ok (.goto 18, 3) := by decide +kernel
theorem dX9_hour_435 : decode cX9_hour 435 = .ok (.aload_n 0, 1) := by decide +kernel
theorem dX9_hour_436 : decode cX9_hour 436 = .ok (.getfield 45, 3) := by decide +kernel
theorem dX9_hour_439 : decode cX9_hour 439 = .ok (.iload 6, 2) := by decide +kernel
theorem dX9_hour_441 : decode cX9_hour 441 = .ok (.iaload, 1) := by decide +kernel
theorem dX9_hour_442 : decode cX9_hour 442 = .ok (.aload_n 0, 1) := by decide +kernel
theorem dX9_hour_443 : decode cX9_hour 443 = .ok (.getfield 51, 3) := by decide +kernel
theorem dX9_hour_446 : decode cX9_hour 446 = .ok (.iload 6, 2) := by decide +kernel
theorem dX9_hour_448 : decode cX9_hour 448 = .ok (.iaload, 1) := by decide +kernel
theorem dX9_hour_449 : decode cX9_hour 449 = .ok (.isub, 1) := by decide +kernel
theorem dX9_hour_450 : decode cX9_hour 450 = .ok (.istore 7, 2) := by decide +kernel
theorem dX9_hour_452 : decode cX9_hour 452 = .ok (.aload_n 0, 1) := by decide +kernel
theorem dX9_hour_453 : decode cX9_hour 453 = .ok (.getfield 13, 3) := by decide +kernel
theorem dX9_hour_456 : decode cX9_hour 456 = .ok (.aload_n 0, 1) := by decide +kernel
theorem dX9_hour_457 : decode cX9_hour 457 = .ok (.getfield 39, 3) := by decide +kernel
theorem dX9_hour_460 : decode cX9_hour 460 = .ok (.iload 6, 2) := by decide +kernel
theorem dX9_hour_462 : decode cX9_hour 462 = .ok (.iaload, 1) := by decide +kernel
theorem dX9_hour_463 : decode cX9_hour 463 = .ok (.dup2, 1) := by decide +kernel
theorem dX9_hour_464 : decode cX9_hour 464 = .ok (.iaload, 1) := by decide +kernel
theorem dX9_hour_465 : decode cX9_hour 465 = .ok (.iload 7, 2) := by decide +kernel
theorem dX9_hour_467 : decode cX9_hour 467 = .ok (.isub, 1) := by decide +kernel
theorem dX9_hour_468 : decode cX9_hour 468 = .ok (.iastore, 1) := by decide +kernel
theorem dX9_hour_469 : decode cX9_hour 469 = .ok (.aload_n 0, 1) := by decide +kernel
theorem dX9_hour_470 : decode cX9_hour 470 = .ok (.getfield 51, 3) := by decide +kernel
theorem dX9_hour_473 : decode cX9_hour 473 = .ok (.iload 6, 2) := by decide +kernel
theorem dX9_hour_475 : decode cX9_hour 475 = .ok (.dup2, 1) := by decide +kernel
theorem dX9_hour_476 : decode cX9_hour 476 = .ok (.iaload, 1) := by decide +kernel
theorem dX9_hour_477 : decode cX9_hour 477 = .ok (.iload 7, 2) := by decide +kernel
theorem dX9_hour_479 : decode cX9_hour 479 = .ok (.iadd, 1) := by decide +kernel
theorem dX9_hour_480 : decode cX9_hour 480 = .ok (.iastore, 1) := by decide +kernel
theorem dX9_hour_481 : decode cX9_hour 481 = .ok (.aload_n 0, 1) := by decide +kernel
theorem dX9_hour_482 : decode cX9_hour 482 = .ok (.getfield 54, 3) := by decide +kernel
theorem dX9_hour_485 : decode cX9_hour 485 = .ok (.iload 6, 2) := by decide +kernel
theorem dX9_hour_487 : decode cX9_hour 487 = .ok (.dup2, 1) := by decide +kernel
theorem dX9_hour_488 : decode cX9_hour 488 = .ok (.iaload, 1) := by decide +kernel
theorem dX9_hour_489 : decode cX9_hour 489 = .ok (.iload 7, 2) := by decide +kernel
theorem dX9_hour_491 : decode cX9_hour 491 = .ok (.iadd, 1) := by decide +kernel
theorem dX9_hour_492 : decode cX9_hour 492 = .ok (.iastore, 1) := by decide +kernel
theorem dX9_hour_493 : decode cX9_hour 493 = .ok (.aload_n 0, 1) := by decide +kernel
theorem dX9_hour_494 : decode cX9_hour 494 = .ok (.dup, 1) := by decide +kernel
theorem dX9_hour_495 : decode cX9_hour 495 = .ok (.getfield 146, 3) := by decide +kernel
theorem dX9_hour_498 : decode cX9_hour 498 = .ok (.iload 7, 2) := by decide +kernel
theorem dX9_hour_500 : decode cX9_hour 500 = .ok (.iadd, 1) := by decide +kernel
theorem dX9_hour_501 : decode cX9_hour 501 = .ok (.putfield 146, 3) := by decide +kernel
theorem dX9_hour_504 : decode cX9_hour 504 = .ok (.iinc 6 1, 3) := by decide +kernel
theorem dX9_hour_507 : decode cX9_hour 507 = .ok (.goto (-152), 3) := by decide +kernel
theorem dX9_hour_510 : decode cX9_hour 510 = .ok (.aload_n 0, 1) := by decide +kernel
theorem dX9_hour_511 : decode cX9_hour 511 = .ok (.dup, 1) := by decide +kernel
theorem dX9_hour_512 : decode cX9_hour 512 = .ok (.getfield 104, 3) := by decide +kernel
theorem dX9_hour_515 : decode cX9_hour 515 = .ok (.iconst 1, 1) := by decide +kernel
theorem dX9_hour_516 : decode cX9_hour 516 = .ok (.iadd, 1) := by decide +kernel
theorem dX9_hour_517 : decode cX9_hour 517 = .ok (.putfield 104, 3) := by decide +kernel
theorem dX9_hour_520 : decode cX9_hour 520 = .ok (.return_, 1) := by decide +kernel
theorem dX9_go_0 : decode cX9_go 0 = .ok (.iload_n 1, 1) := by decide +kernel
theorem dX9_go_1 : decode cX9_go 1 = .ok (.iconst 0, 1) := by decide +kernel
theorem dX9_go_2 : decode cX9_go 2 = .ok (.bipush 48, 2) := by decide +kernel
theorem dX9_go_4 : decode cX9_go 4 = .ok (.invokestatic 93, 3) := by decide +kernel
theorem dX9_go_7 : decode cX9_go 7 = .ok (.ifCond .ne 5, 3) := by decide +kernel
theorem dX9_go_10 : decode cX9_go 10 = .ok (.iconst (-1), 1) := by decide +kernel
theorem dX9_go_11 : decode cX9_go 11 = .ok (.ireturn, 1) := by decide +kernel
theorem dX9_go_12 : decode cX9_go 12 = .ok (.iconst 0, 1) := by decide +kernel
theorem dX9_go_13 : decode cX9_go 13 = .ok (.istore_n 2, 1) := by decide +kernel
theorem dX9_go_14 : decode cX9_go 14 = .ok (.iload_n 2, 1) := by decide +kernel
theorem dX9_go_15 : decode cX9_go 15 = .ok (.iload_n 1, 1) := by decide +kernel
theorem dX9_go_16 : decode cX9_go 16 = .ok (.if_icmp .ge 47, 3) := by decide +kernel
theorem dX9_go_19 : decode cX9_go 19 = .ok (.aload_n 0, 1) := by decide +kernel
theorem dX9_go_20 : decode cX9_go 20 = .ok (.getfield 104, 3) := by decide +kernel
theorem dX9_go_23 : decode cX9_go 23 = .ok (.sipush 500, 3) := by decide +kernel
theorem dX9_go_26 : decode cX9_go 26 = .ok (.if_icmp .ge 37, 3) := by decide +kernel
theorem dX9_go_29 : decode cX9_go 29 = .ok (.aload_n 0, 1) := by decide +kernel
theorem dX9_go_30 : decode cX9_go 30 = .ok (.iconst 0, 1) := by decide +kernel
theorem dX9_go_31 : decode cX9_go 31 = .ok (.invokevirtual 149, 3) := by decide +kernel
theorem dX9_go_34 : decode cX9_go 34 = .ok (.iconst 0, 1) := by decide +kernel
theorem dX9_go_35 : decode cX9_go 35 = .ok (.istore_n 3, 1) := by decide +kernel
theorem dX9_go_36 : decode cX9_go 36 = .ok (.iload_n 3, 1) := by decide +kernel
theorem dX9_go_37 : decode cX9_go 37 = .ok (.aload_n 0, 1) := by decide +kernel
theorem dX9_go_38 : decode cX9_go 38 = .ok (.getfield 101, 3) := by decide +kernel
theorem dX9_go_41 : decode cX9_go 41 = .ok (.if_icmp .ge 16, 3) := by decide +kernel
theorem dX9_go_44 : decode cX9_go 44 = .ok (.aload_n 0, 1) := by decide +kernel
theorem dX9_go_45 : decode cX9_go 45 = .ok (.getfield 60, 3) := by decide +kernel
theorem dX9_go_48 : decode cX9_go 48 = .ok (.iload_n 3, 1) := by decide +kernel
theorem dX9_go_49 : decode cX9_go 49 = .ok (.iconst 0, 1) := by decide +kernel
theorem dX9_go_50 : decode cX9_go 50 = .ok (.bastore, 1) := by decide +kernel
theorem dX9_go_51 : decode cX9_go 51 = .ok (.iinc 3 1, 3) := by decide +kernel
theorem dX9_go_54 : decode cX9_go 54 = .ok (.goto (-18), 3) := by decide +kernel
theorem dX9_go_57 : decode cX9_go 57 = .ok (.iinc 2 1, 3) := by decide +kernel
theorem dX9_go_60 : decode cX9_go 60 = .ok (.goto (-46), 3) := by decide +kernel
theorem dX9_go_63 : decode cX9_go 63 = .ok (.aload_n 0, 1) := by decide +kernel
theorem dX9_go_64 : decode cX9_go 64 = .ok (.getfield 104, 3) := by decide +kernel
theorem dX9_go_67 : decode cX9_go 67 = .ok (.ireturn, 1) := by decide +kernel
theorem dX9_harm_0 : decode cX9_harm 0 = .ok (.iconst 0, 1) := by decide +kernel
theorem dX9_harm_1 : decode cX9_harm 1 = .ok (.istore_n 1, 1) := by decide +kernel
theorem dX9_harm_2 : decode cX9_harm 2 = .ok (.iconst 0, 1) := by decide +kernel
theorem dX9_harm_3 : decode cX9_harm 3 = .ok (.istore_n 2, 1) := by decide +kernel
theorem dX9_harm_4 : decode cX9_harm 4 = .ok (.iload_n 2, 1) := by decide +kernel
theorem dX9_harm_5 : decode cX9_harm 5 = .ok (.bipush 96, 2) := by decide +kernel
theorem dX9_harm_7 : decode cX9_harm 7 = .ok (.if_icmp .ge 25, 3) := by decide +kernel
theorem dX9_harm_10 : decode cX9_harm 10 = .ok (.iload_n 1, 1) := by decide +kernel
theorem dX9_harm_11 : decode cX9_harm 11 = .ok (.aload_n 0, 1) := by decide +kernel
theorem dX9_harm_12 : decode cX9_harm 12 = .ok (.getfield 13, 3) := by decide +kernel
theorem dX9_harm_15 : decode cX9_harm 15 = .ok (.iload_n 2, 1) := by decide +kernel
theorem dX9_harm_16 : decode cX9_harm 16 = .ok (.iaload, 1) := by decide +kernel
theorem dX9_harm_17 : decode cX9_harm 17 = .ok (.aload_n 0, 1) := by decide +kernel
theorem dX9_harm_18 : decode cX9_harm 18 = .ok (.getfield 9, 3) := by decide +kernel
theorem dX9_harm_21 : decode cX9_harm 21 = .ok (.iload_n 2, 1) := by decide +kernel
theorem dX9_harm_22 : decode cX9_harm 22 = .ok (.iaload, 1) := by decide +kernel
theorem dX9_harm_23 : decode cX9_harm 23 = .ok (.imul, 1) := by decide +kernel
theorem dX9_harm_24 : decode cX9_harm 24 = .ok (.iadd, 1) := by decide +kernel
theorem dX9_harm_25 : decode cX9_harm 25 = .ok (.istore_n 1, 1) := by decide +kernel
theorem dX9_harm_26 : decode cX9_harm 26 = .ok (.iinc 2 1, 3) := by decide +kernel
theorem dX9_harm_29 : decode cX9_harm 29 = .ok (.goto (-25), 3) := by decide +kernel
theorem dX9_harm_32 : decode cX9_harm 32 = .ok (.iload_n 1, 1) := by decide +kernel
theorem dX9_harm_33 : decode cX9_harm 33 = .ok (.sipush 1000, 3) := by decide +kernel
theorem dX9_harm_36 : decode cX9_harm 36 = .ok (.idiv, 1) := by decide +kernel
theorem dX9_harm_37 : decode cX9_harm 37 = .ok (.ireturn, 1) := by decide +kernel
theorem dX9_keeps_0 : decode cX9_keeps 0 = .ok (.bipush 112, 2) := by decide +kernel
theorem dX9_keeps_2 : decode cX9_keeps 2 = .ok (.iload_n 1, 1) := by decide +kernel
theorem dX9_keeps_3 : decode cX9_keeps 3 = .ok (.imul, 1) := by decide +kernel
theorem dX9_keeps_4 : decode cX9_keeps 4 = .ok (.istore_n 2, 1) := by decide +kernel
theorem dX9_keeps_5 : decode cX9_keeps 5 = .ok (.iconst 0, 1) := by decide +kernel
theorem dX9_keeps_6 : decode cX9_keeps 6 = .ok (.istore_n 3, 1) := by decide +kernel
theorem dX9_keeps_7 : decode cX9_keeps 7 = .ok (.iload_n 3, 1) := by decide +kernel
theorem dX9_keeps_8 : decode cX9_keeps 8 = .ok (.bipush 96, 2) := by decide +kernel
theorem dX9_keeps_10 : decode cX9_keeps 10 = .ok (.if_icmp .ge 23, 3) := by decide +kernel
theorem dX9_keeps_13 : decode cX9_keeps 13 = .ok (.aload_n 0, 1) := by decide +kernel
theorem dX9_keeps_14 : decode cX9_keeps 14 = .ok (.getfield 78, 3) := by decide +kernel
theorem dX9_keeps_17 : decode cX9_keeps 17 = .ok (.iload_n 2, 1) := by decide +kernel
theorem dX9_keeps_18 : decode cX9_keeps 18 = .ok (.iload_n 3, 1) := by decide +kernel
theorem dX9_keeps_19 : decode cX9_keeps 19 = .ok (.iadd, 1) := by decide +kernel
theorem dX9_keeps_20 : decode cX9_keeps 20 = .ok (.aload_n 0, 1) := by decide +kernel
theorem dX9_keeps_21 : decode cX9_keeps 21 = .ok (.getfield 13, 3) := by decide +kernel
theorem dX9_keeps_24 : decode cX9_keeps 24 = .ok (.iload_n 3, 1) := by decide +kernel
theorem dX9_keeps_25 : decode cX9_keeps 25 = .ok (.iaload, 1) := by decide +kernel
theorem dX9_keeps_26 : decode cX9_keeps 26 = .ok (.iastore, 1) := by decide +kernel
theorem dX9_keeps_27 : decode cX9_keeps 27 = .ok (.iinc 3 1, 3) := by decide +kernel
theorem dX9_keeps_30 : decode cX9_keeps 30 = .ok (.goto (-23), 3) := by decide +kernel
theorem dX9_keeps_33 : decode cX9_keeps 33 = .ok (.iinc 2 96, 3) := by decide +kernel
theorem dX9_keeps_36 : decode cX9_keeps 36 = .ok (.iconst 0, 1) := by decide +kernel
theorem dX9_keeps_37 : decode cX9_keeps 37 = .ok (.istore_n 3, 1) := by decide +kernel
theorem dX9_keeps_38 : decode cX9_keeps 38 = .ok (.iload_n 3, 1) := by decide +kernel
theorem dX9_keeps_39 : decode cX9_keeps 39 = .ok (.iconst 4, 1) := by decide +kernel
theorem dX9_keeps_40 : decode cX9_keeps 40 = .ok (.if_icmp .ge 61, 3) := by decide +kernel
theorem dX9_keeps_43 : decode cX9_keeps 43 = .ok (.aload_n 0, 1) := by decide +kernel
theorem dX9_keeps_44 : decode cX9_keeps 44 = .ok (.getfield 78, 3) := by decide +kernel
theorem dX9_keeps_47 : decode cX9_keeps 47 = .ok (.iload_n 2, 1) := by decide +kernel
theorem dX9_keeps_48 : decode cX9_keeps 48 = .ok (.iconst 3, 1) := by decide +kernel
theorem dX9_keeps_49 : decode cX9_keeps 49 = .ok (.iload_n 3, 1) := by decide +kernel
theorem dX9_keeps_50 : decode cX9_keeps 50 = .ok (.imul, 1) := by decide +kernel
theorem dX9_keeps_51 : decode cX9_keeps 51 = .ok (.iadd, 1) := by decide +kernel
theorem dX9_keeps_52 : decode cX9_keeps 52 = .ok (.aload_n 0, 1) := by decide +kernel
theorem dX9_keeps_53 : decode cX9_keeps 53 = .ok (.getfield 39, 3) := by decide +kernel
theorem dX9_keeps_56 : decode cX9_keeps 56 = .ok (.iload_n 3, 1) := by decide +kernel
theorem dX9_keeps_57 : decode cX9_keeps 57 = .ok (.iaload, 1) := by decide +kernel
theorem dX9_keeps_58 : decode cX9_keeps 58 = .ok (.iastore, 1) := by decide +kernel
theorem dX9_keeps_59 : decode cX9_keeps 59 = .ok (.aload_n 0, 1) := by decide +kernel
theorem dX9_keeps_60 : decode cX9_keeps 60 = .ok (.getfield 78, 3) := by decide +kernel
theorem dX9_keeps_63 : decode cX9_keeps 63 = .ok (.iload_n 2, 1) := by decide +kernel
theorem dX9_keeps_64 : decode cX9_keeps 64 = .ok (.iconst 3, 1) := by decide +kernel
theorem dX9_keeps_65 : decode cX9_keeps 65 = .ok (.iload_n 3, 1) := by decide +kernel
theorem dX9_keeps_66 : decode cX9_keeps 66 = .ok (.imul, 1) := by decide +kernel
theorem dX9_keeps_67 : decode cX9_keeps 67 = .ok (.iadd, 1) := by decide +kernel
theorem dX9_keeps_68 : decode cX9_keeps 68 = .ok (.iconst 1, 1) := by decide +kernel
theorem dX9_keeps_69 : decode cX9_keeps 69 = .ok (.iadd, 1) := by decide +kernel
theorem dX9_keeps_70 : decode cX9_keeps 70 = .ok (.aload_n 0, 1) := by decide +kernel
theorem dX9_keeps_71 : decode cX9_keeps 71 = .ok (.getfield 51, 3) := by decide +kernel
theorem dX9_keeps_74 : decode cX9_keeps 74 = .ok (.iload_n 3, 1) := by decide +kernel
theorem dX9_keeps_75 : decode cX9_keeps 75 = .ok (.iaload, 1) := by decide +kernel
theorem dX9_keeps_76 : decode cX9_keeps 76 = .ok (.iastore, 1) := by decide +kernel
theorem dX9_keeps_77 : decode cX9_keeps 77 = .ok (.aload_n 0, 1) := by decide +kernel
theorem dX9_keeps_78 : decode cX9_keeps 78 = .ok (.getfield 78, 3) := by decide +kernel
theorem dX9_keeps_81 : decode cX9_keeps 81 = .ok (.iload_n 2, 1) := by decide +kernel
theorem dX9_keeps_82 : decode cX9_keeps 82 = .ok (.iconst 3, 1) := by decide +kernel
theorem dX9_keeps_83 : decode cX9_keeps 83 = .ok (.iload_n 3, 1) := by decide +kernel
theorem dX9_keeps_84 : decode cX9_keeps 84 = .ok (.imul, 1) := by decide +kernel
theorem dX9_keeps_85 : decode cX9_keeps 85 = .ok (.iadd, 1) := by decide +kernel
theorem dX9_keeps_86 : decode cX9_keeps 86 = .ok (.iconst 2, 1) := by decide +kernel
theorem dX9_keeps_87 : decode cX9_keeps 87 = .ok (.iadd, 1) := by decide +kernel
theorem dX9_keeps_88 : decode cX9_keeps 88 = .ok (.aload_n 0, 1) := by decide +kernel
theorem dX9_keeps_89 : decode cX9_keeps 89 = .ok (.getfield 54, 3) := by decide +kernel
theorem dX9_keeps_92 : decode cX9_keeps 92 = .ok (.iload_n 3, 1) := by decide +kernel
theorem dX9_keeps_93 : decode cX9_keeps 93 = .ok (.iaload, 1) := by decide +kernel
theorem dX9_keeps_94 : decode cX9_keeps 94 = .ok (.iastore, 1) := by decide +kernel
theorem dX9_keeps_95 : decode cX9_keeps 95 = .ok (.iinc 3 1, 3) := by decide +kernel
theorem dX9_keeps_98 : decode cX9_keeps 98 = .ok (.goto (-60), 3) := by decide +kernel
theorem dX9_keeps_101 : decode cX9_keeps 101 = .ok (.iinc 2 12, 3) := by decide +kernel
theorem dX9_keeps_104 : decode cX9_keeps 104 = .ok (.aload_n 0, 1) := by decide +kernel
theorem dX9_keeps_105 : decode cX9_keeps 105 = .ok (.getfield 78, 3) := by decide +kernel
theorem dX9_keeps_108 : decode cX9_keeps 108 = .ok (.iload_n 2, 1) := by decide +kernel
theorem dX9_keeps_109 : decode cX9_keeps 109 = .ok (.aload_n 0, 1) := by decide +kernel
theorem dX9_keeps_110 : decode cX9_keeps 110 = .ok (.getfield 104, 3) := by decide +kernel
theorem dX9_keeps_113 : decode cX9_keeps 113 = .ok (.iastore, 1) := by decide +kernel
theorem dX9_keeps_114 : decode cX9_keeps 114 = .ok (.aload_n 0, 1) := by decide +kernel
theorem dX9_keeps_115 : decode cX9_keeps 115 = .ok (.getfield 78, 3) := by decide +kernel
theorem dX9_keeps_118 : decode cX9_keeps 118 = .ok (.iload_n 2, 1) := by decide +kernel
theorem dX9_keeps_119 : decode cX9_keeps 119 = .ok (.iconst 1, 1) := by decide +kernel
theorem dX9_keeps_120 : decode cX9_keeps 120 = .ok (.iadd, 1) := by decide +kernel
theorem dX9_keeps_121 : decode cX9_keeps 121 = .ok (.aload_n 0, 1) := by decide +kernel
theorem dX9_keeps_122 : decode cX9_keeps 122 = .ok (.getfield 143, 3) := by decide +kernel
theorem dX9_keeps_125 : decode cX9_keeps 125 = .ok (.iastore, 1) := by decide +kernel
theorem dX9_keeps_126 : decode cX9_keeps 126 = .ok (.aload_n 0, 1) := by decide +kernel
theorem dX9_keeps_127 : decode cX9_keeps 127 = .ok (.getfield 78, 3) := by decide +kernel
theorem dX9_keeps_130 : decode cX9_keeps 130 = .ok (.iload_n 2, 1) := by decide +kernel
theorem dX9_keeps_131 : decode cX9_keeps 131 = .ok (.iconst 2, 1) := by decide +kernel
theorem dX9_keeps_132 : decode cX9_keeps 132 = .ok (.iadd, 1) := by decide +kernel
theorem dX9_keeps_133 : decode cX9_keeps 133 = .ok (.aload_n 0, 1) := by decide +kernel
theorem dX9_keeps_134 : decode cX9_keeps 134 = .ok (.getfield 138, 3) := by decide +kernel
theorem dX9_keeps_137 : decode cX9_keeps 137 = .ok (.iastore, 1) := by decide +kernel
theorem dX9_keeps_138 : decode cX9_keeps 138 = .ok (.aload_n 0, 1) := by decide +kernel
theorem dX9_keeps_139 : decode cX9_keeps 139 = .ok (.getfield 78, 3) := by decide +kernel
theorem dX9_keeps_142 : decode cX9_keeps 142 = .ok (.iload_n 2, 1) := by decide +kernel
theorem dX9_keeps_143 : decode cX9_keeps 143 = .ok (.iconst 3, 1) := by decide +kernel
theorem dX9_keeps_144 : decode cX9_keeps 144 = .ok (.iadd, 1) := by decide +kernel
theorem dX9_keeps_145 : decode cX9_keeps 145 = .ok (.aload_n 0, 1) := by decide +kernel
theorem dX9_keeps_146 : decode cX9_keeps 146 = .ok (.getfield 146, 3) := by decide +kernel
theorem dX9_keeps_149 : decode cX9_keeps 149 = .ok (.iastore, 1) := by decide +kernel
theorem dX9_keeps_150 : decode cX9_keeps 150 = .ok (.return_, 1) := by decide +kernel
theorem dX9_back_0 : decode cX9_back 0 = .ok (.bipush 112, 2) := by decide +kernel
theorem dX9_back_2 : decode cX9_back 2 = .ok (.iload_n 1, 1) := by decide +kernel
theorem dX9_back_3 : decode cX9_back 3 = .ok (.imul, 1) := by decide +kernel
theorem dX9_back_4 : decode cX9_back 4 = .ok (.istore_n 2, 1) := by decide +kernel
theorem dX9_back_5 : decode cX9_back 5 = .ok (.iconst 0, 1) := by decide +kernel
theorem dX9_back_6 : decode cX9_back 6 = .ok (.istore_n 3, 1) := by decide +kernel
theorem dX9_back_7 : decode cX9_back 7 = .ok (.iload_n 3, 1) := by decide +kernel
theorem dX9_back_8 : decode cX9_back 8 = .ok (.bipush 96, 2) := by decide +kernel
theorem dX9_back_10 : decode cX9_back 10 = .ok (.if_icmp .ge 23, 3) := by decide +kernel
theorem dX9_back_13 : decode cX9_back 13 = .ok (.aload_n 0, 1) := by decide +kernel
theorem dX9_back_14 : decode cX9_back 14 = .ok (.getfield 13, 3) := by decide +kernel
theorem dX9_back_17 : decode cX9_back 17 = .ok (.iload_n 3, 1) := by decide +kernel
theorem dX9_back_18 : decode cX9_back 18 = .ok (.aload_n 0, 1) := by decide +kernel
theorem dX9_back_19 : decode cX9_back 19 = .ok (.getfield 78, 3) := by decide +kernel
theorem dX9_back_22 : decode cX9_back 22 = .ok (.iload_n 2, 1) := by decide +kernel
theorem dX9_back_23 : decode cX9_back 23 = .ok (.iload_n 3, 1) := by decide +kernel
theorem dX9_back_24 : decode cX9_back 24 = .ok (.iadd, 1) := by decide +kernel
theorem dX9_back_25 : decode cX9_back 25 = .ok (.iaload, 1) := by decide +kernel
theorem dX9_back_26 : decode cX9_back 26 = .ok (.iastore, 1) := by decide +kernel
theorem dX9_back_27 : decode cX9_back 27 = .ok (.iinc 3 1, 3) := by decide +kernel
theorem dX9_back_30 : decode cX9_back 30 = .ok (.goto (-23), 3) := by decide +kernel
theorem dX9_back_33 : decode cX9_back 33 = .ok (.iinc 2 96, 3) := by decide +kernel
theorem dX9_back_36 : decode cX9_back 36 = .ok (.iconst 0, 1) := by decide +kernel
theorem dX9_back_37 : decode cX9_back 37 = .ok (.istore_n 3, 1) := by decide +kernel
theorem dX9_back_38 : decode cX9_back 38 = .ok (.iload_n 3, 1) := by decide +kernel
theorem dX9_back_39 : decode cX9_back 39 = .ok (.iconst 4, 1) := by decide +kernel
theorem dX9_back_40 : decode cX9_back 40 = .ok (.if_icmp .ge 61, 3) := by decide +kernel
theorem dX9_back_43 : decode cX9_back 43 = .ok (.aload_n 0, 1) := by decide +kernel
theorem dX9_back_44 : decode cX9_back 44 = .ok (.getfield 39, 3) := by decide +kernel
theorem dX9_back_47 : decode cX9_back 47 = .ok (.iload_n 3, 1) := by decide +kernel
theorem dX9_back_48 : decode cX9_back 48 = .ok (.aload_n 0, 1) := by decide +kernel
theorem dX9_back_49 : decode cX9_back 49 = .ok (.getfield 78, 3) := by decide +kernel
theorem dX9_back_52 : decode cX9_back 52 = .ok (.iload_n 2, 1) := by decide +kernel
theorem dX9_back_53 : decode cX9_back 53 = .ok (.iconst 3, 1) := by decide +kernel
theorem dX9_back_54 : decode cX9_back 54 = .ok (.iload_n 3, 1) := by decide +kernel
theorem dX9_back_55 : decode cX9_back 55 = .ok (.imul, 1) := by decide +kernel
theorem dX9_back_56 : decode cX9_back 56 = .ok (.iadd, 1) := by decide +kernel
theorem dX9_back_57 : decode cX9_back 57 = .ok (.iaload, 1) := by decide +kernel
theorem dX9_back_58 : decode cX9_back 58 = .ok (.iastore, 1) := by decide +kernel
theorem dX9_back_59 : decode cX9_back 59 = .ok (.aload_n 0, 1) := by decide +kernel
theorem dX9_back_60 : decode cX9_back 60 = .ok (.getfield 51, 3) := by decide +kernel
theorem dX9_back_63 : decode cX9_back 63 = .ok (.iload_n 3, 1) := by decide +kernel
theorem dX9_back_64 : decode cX9_back 64 = .ok (.aload_n 0, 1) := by decide +kernel
theorem dX9_back_65 : decode cX9_back 65 = .ok (.getfield 78, 3) := by decide +kernel
theorem dX9_back_68 : decode cX9_back 68 = .ok (.iload_n 2, 1) := by decide +kernel
theorem dX9_back_69 : decode cX9_back 69 = .ok (.iconst 3, 1) := by decide +kernel
theorem dX9_back_70 : decode cX9_back 70 = .ok (.iload_n 3, 1) := by decide +kernel
theorem dX9_back_71 : decode cX9_back 71 = .ok (.imul, 1) := by decide +kernel
theorem dX9_back_72 : decode cX9_back 72 = .ok (.iadd, 1) := by decide +kernel
theorem dX9_back_73 : decode cX9_back 73 = .ok (.iconst 1, 1) := by decide +kernel
theorem dX9_back_74 : decode cX9_back 74 = .ok (.iadd, 1) := by decide +kernel
theorem dX9_back_75 : decode cX9_back 75 = .ok (.iaload, 1) := by decide +kernel
theorem dX9_back_76 : decode cX9_back 76 = .ok (.iastore, 1) := by decide +kernel
theorem dX9_back_77 : decode cX9_back 77 = .ok (.aload_n 0, 1) := by decide +kernel
theorem dX9_back_78 : decode cX9_back 78 = .ok (.getfield 54, 3) := by decide +kernel
theorem dX9_back_81 : decode cX9_back 81 = .ok (.iload_n 3, 1) := by decide +kernel
theorem dX9_back_82 : decode cX9_back 82 = .ok (.aload_n 0, 1) := by decide +kernel
theorem dX9_back_83 : decode cX9_back 83 = .ok (.getfield 78, 3) := by decide +kernel
theorem dX9_back_86 : decode cX9_back 86 = .ok (.iload_n 2, 1) := by decide +kernel
theorem dX9_back_87 : decode cX9_back 87 = .ok (.iconst 3, 1) := by decide +kernel
theorem dX9_back_88 : decode cX9_back 88 = .ok (.iload_n 3, 1) := by decide +kernel
theorem dX9_back_89 : decode cX9_back 89 = .ok (.imul, 1) := by decide +kernel
theorem dX9_back_90 : decode cX9_back 90 = .ok (.iadd, 1) := by decide +kernel
theorem dX9_back_91 : decode cX9_back 91 = .ok (.iconst 2, 1) := by decide +kernel
theorem dX9_back_92 : decode cX9_back 92 = .ok (.iadd, 1) := by decide +kernel
theorem dX9_back_93 : decode cX9_back 93 = .ok (.iaload, 1) := by decide +kernel
theorem dX9_back_94 : decode cX9_back 94 = .ok (.iastore, 1) := by decide +kernel
theorem dX9_back_95 : decode cX9_back 95 = .ok (.iinc 3 1, 3) := by decide +kernel
theorem dX9_back_98 : decode cX9_back 98 = .ok (.goto (-60), 3) := by decide +kernel
theorem dX9_back_101 : decode cX9_back 101 = .ok (.iinc 2 12, 3) := by decide +kernel
theorem dX9_back_104 : decode cX9_back 104 = .ok (.aload_n 0, 1) := by decide +kernel
theorem dX9_back_105 : decode cX9_back 105 = .ok (.aload_n 0, 1) := by decide +kernel
theorem dX9_back_106 : decode cX9_back 106 = .ok (.getfield 78, 3) := by decide +kernel
theorem dX9_back_109 : decode cX9_back 109 = .ok (.iload_n 2, 1) := by decide +kernel
theorem dX9_back_110 : decode cX9_back 110 = .ok (.iaload, 1) := by decide +kernel
theorem dX9_back_111 : decode cX9_back 111 = .ok (.putfield 104, 3) := by decide +kernel
theorem dX9_back_114 : decode cX9_back 114 = .ok (.aload_n 0, 1) := by decide +kernel
theorem dX9_back_115 : decode cX9_back 115 = .ok (.aload_n 0, 1) := by decide +kernel
theorem dX9_back_116 : decode cX9_back 116 = .ok (.getfield 78, 3) := by decide +kernel
theorem dX9_back_119 : decode cX9_back 119 = .ok (.iload_n 2, 1) := by decide +kernel
theorem dX9_back_120 : decode cX9_back 120 = .ok (.iconst 1, 1) := by decide +kernel
theorem dX9_back_121 : decode cX9_back 121 = .ok (.iadd, 1) := by decide +kernel
theorem dX9_back_122 : decode cX9_back 122 = .ok (.iaload, 1) := by decide +kernel
theorem dX9_back_123 : decode cX9_back 123 = .ok (.putfield 143, 3) := by decide +kernel
theorem dX9_back_126 : decode cX9_back 126 = .ok (.aload_n 0, 1) := by decide +kernel
theorem dX9_back_127 : decode cX9_back 127 = .ok (.aload_n 0, 1) := by decide +kernel
theorem dX9_back_128 : decode cX9_back 128 = .ok (.getfield 78, 3) := by decide +kernel
theorem dX9_back_131 : decode cX9_back 131 = .ok (.iload_n 2, 1) := by decide +kernel
theorem dX9_back_132 : decode cX9_back 132 = .ok (.iconst 2, 1) := by decide +kernel
theorem dX9_back_133 : decode cX9_back 133 = .ok (.iadd, 1) := by decide +kernel
theorem dX9_back_134 : decode cX9_back 134 = .ok (.iaload, 1) := by decide +kernel
theorem dX9_back_135 : decode cX9_back 135 = .ok (.putfield 138, 3) := by decide +kernel
theorem dX9_back_138 : decode cX9_back 138 = .ok (.aload_n 0, 1) := by decide +kernel
theorem dX9_back_139 : decode cX9_back 139 = .ok (.aload_n 0, 1) := by decide +kernel
theorem dX9_back_140 : decode cX9_back 140 = .ok (.getfield 78, 3) := by decide +kernel
theorem dX9_back_143 : decode cX9_back 143 = .ok (.iload_n 2, 1) := by decide +kernel
theorem dX9_back_144 : decode cX9_back 144 = .ok (.iconst 3, 1) := by decide +kernel
theorem dX9_back_145 : decode cX9_back 145 = .ok (.iadd, 1) := by decide +kernel
theorem dX9_back_146 : decode cX9_back 146 = .ok (.iaload, 1) := by decide +kernel
theorem dX9_back_147 : decode cX9_back 147 = .ok (.putfield 146, 3) := by decide +kernel
theorem dX9_back_150 : decode cX9_back 150 = .ok (.return_, 1) := by decide +kernel
theorem dX9_foretold_0 : decode cX9_foretold 0 = .ok (.iload_n 1, 1) := by decide +kernel
theorem dX9_foretold_1 : decode cX9_foretold 1 = .ok (.iconst 0, 1) := by decide +kernel
theorem dX9_foretold_2 : decode cX9_foretold 2 = .ok (.iconst 2, 1) := by decide +kernel
theorem dX9_foretold_3 : decode cX9_foretold 3 = .ok (.invokestatic 93, 3) := by decide +kernel
theorem dX9_foretold_6 : decode cX9_foretold 6 = .ok (.ifCond .eq 13, 3) := by decide +kernel
theorem dX9_foretold_9 : decode cX9_foretold 9 = .ok (.iload_n 2, 1) := by decide +kernel
theorem dX9_foretold_10 : decode cX9_foretold 10 = .ok (.iconst 0, 1) := by decide +kernel
theorem dX9_foretold_11 : decode cX9_foretold 11 = .ok (.bipush 48, 2) := by decide +kernel
theorem dX9_foretold_13 : decode cX9_foretold 13 = .ok (.invokestatic 93, 3) := by decide +kernel
theorem dX9_foretold_16 : decode cX9_foretold 16 = .ok (.ifCond .ne 5, 3) := by decide +kernel
theorem dX9_foretold_19 : decode cX9_foretold 19 = .ok (.iconst (-1), 1) := by decide +kernel
theorem dX9_foretold_20 : decode cX9_foretold 20 = .ok (.ireturn, 1) := by decide +kernel
theorem dX9_foretold_21 : decode cX9_foretold 21 = .ok (.aload_n 0, 1) := by decide +kernel
theorem dX9_foretold_22 : decode cX9_foretold 22 = .ok (.iconst 0, 1) := by decide +kernel
theorem dX9_foretold_23 : decode cX9_foretold 23 = .ok (.invokevirtual 153, 3) := by decide +kernel
theorem dX9_foretold_26 : decode cX9_foretold 26 = .ok (.iconst 0, 1) := by decide +kernel
theorem dX9_foretold_27 : decode cX9_foretold 27 = .ok (.istore_n 3, 1) := by decide +kernel
theorem dX9_foretold_28 : decode cX9_foretold 28 = .ok (.iload_n 3, 1) := by decide +kernel
theorem dX9_foretold_29 : decode cX9_foretold 29 = .ok (.iload_n 2, 1) := by decide +kernel
theorem dX9_foretold_30 : decode cX9_foretold 30 = .ok (.if_icmp .ge 14, 3) := by decide +kernel
theorem dX9_foretold_33 : decode cX9_foretold 33 = .ok (.aload_n 0, 1) := by decide +kernel
theorem dX9_foretold_34 : decode cX9_foretold 34 = .ok (.iload_n 1, 1) := by decide +kernel
theorem dX9_foretold_35 : decode cX9_foretold 35 = .ok (.invokevirtual 149, 3) := by decide +kernel
theorem dX9_foretold_38 : decode cX9_foretold 38 = .ok (.iinc 3 1, 3) := by decide +kernel
theorem dX9_foretold_41 : decode cX9_foretold 41 = .ok (.goto (-13), 3) := by decide +kernel
theorem dX9_foretold_44 : decode cX9_foretold 44 = .ok (.aload_n 0, 1) := by decide +kernel
theorem dX9_foretold_45 : decode cX9_foretold 45 = .ok (.invokevirtual 156, 3) := by decide +kernel
theorem dX9_foretold_48 : decode cX9_foretold 48 = .ok (.istore_n 3, 1) := by decide +kernel
theorem dX9_foretold_49 : decode cX9_foretold 49 = .ok (.aload_n 0, 1) := by decide +kernel
theorem dX9_foretold_50 : decode cX9_foretold 50 = .ok (.iconst 0, 1) := by decide +kernel
theorem dX9_foretold_51 : decode cX9_foretold 51 = .ok (.invokevirtual 160, 3) := by decide +kernel
theorem dX9_foretold_54 : decode cX9_foretold 54 = .ok (.iload_n 3, 1) := by decide +kernel
theorem dX9_foretold_55 : decode cX9_foretold 55 = .ok (.ireturn, 1) := by decide +kernel
theorem dX9_worst_0 : decode cX9_worst 0 = .ok (.iconst (-1), 1) := by decide +kernel
theorem dX9_worst_1 : decode cX9_worst 1 = .ok (.istore_n 2, 1) := by decide +kernel
theorem dX9_worst_2 : decode cX9_worst 2 = .ok (.iconst 0, 1) := by decide +kernel
theorem dX9_worst_3 : decode cX9_worst 3 = .ok (.istore_n 3, 1) := by decide +kernel
theorem dX9_worst_4 : decode cX9_worst 4 = .ok (.iload_n 3, 1) := by decide +kernel
theorem dX9_worst_5 : decode cX9_worst 5 = .ok (.iconst 3, 1) := by decide +kernel
theorem dX9_worst_6 : decode cX9_worst 6 = .ok (.if_icmp .ge 40, 3) := by decide +kernel
theorem dX9_worst_9 : decode cX9_worst 9 = .ok (.iload_n 1, 1) := by decide +kernel
theorem dX9_worst_10 : decode cX9_worst 10 = .ok (.iconst 0, 1) := by decide +kernel
theorem dX9_worst_11 : decode cX9_worst 11 = .ok (.bipush 48, 2) := by decide +kernel
theorem dX9_worst_13 : decode cX9_worst 13 = .ok (.invokestatic 93, 3) := by decide +kernel
theorem dX9_worst_16 : decode cX9_worst 16 = .ok (.ifCond .eq 30, 3) := by decide +kernel
theorem dX9_worst_19 : decode cX9_worst 19 = .ok (.aload_n 0, 1) := by decide +kernel
theorem dX9_worst_20 : decode cX9_worst 20 = .ok (.iload_n 3, 1) := by decide +kernel
theorem dX9_worst_21 : decode cX9_worst 21 = .ok (.iload_n 1, 1) := by decide +kernel
theorem dX9_worst_22 : decode cX9_worst 22 = .ok (.invokevirtual 163, 3) := by decide +kernel
theorem dX9_worst_25 : decode cX9_worst 25 = .ok (.iload_n 2, 1) := by decide +kernel
theorem dX9_worst_26 : decode cX9_worst 26 = .ok (.if_icmp .le 12, 3) := by decide +kernel
theorem dX9_worst_29 : decode cX9_worst 29 = .ok (.aload_n 0, 1) := by decide +kernel
theorem dX9_worst_30 : decode cX9_worst 30 = .ok (.iload_n 3, 1) := by decide +kernel
theorem dX9_worst_31 : decode cX9_worst 31 = .ok (.iload_n 1, 1) := by decide +kernel
theorem dX9_worst_32 : decode cX9_worst 32 = .ok (.invokevirtual 163, 3) := by decide +kernel
theorem dX9_worst_35 : decode cX9_worst 35 = .ok (.goto 4, 3) := by decide +kernel
theorem dX9_worst_38 : decode cX9_worst 38 = .ok (.iload_n 2, 1) := by decide +kernel
theorem dX9_worst_39 : decode cX9_worst 39 = .ok (.istore_n 2, 1) := by decide +kernel
theorem dX9_worst_40 : decode cX9_worst 40 = .ok (.iinc 3 1, 3) := by decide +kernel
theorem dX9_worst_43 : decode cX9_worst 43 = .ok (.goto (-39), 3) := by decide +kernel
theorem dX9_worst_46 : decode cX9_worst 46 = .ok (.iload_n 2, 1) := by decide +kernel
theorem dX9_worst_47 : decode cX9_worst 47 = .ok (.ireturn, 1) := by decide +kernel
theorem dX9_tries_0 : decode cX9_tries 0 = .ok (.aload_n 0, 1) := by decide +kernel
theorem dX9_tries_1 : decode cX9_tries 1 = .ok (.iload_n 2, 1) := by decide +kernel
theorem dX9_tries_2 : decode cX9_tries 2 = .ok (.invokevirtual 110, 3) := by decide +kernel
theorem dX9_tries_5 : decode cX9_tries 5 = .ok (.ifCond .eq 23, 3) := by decide +kernel
theorem dX9_tries_8 : decode cX9_tries 8 = .ok (.aload_n 0, 1) := by decide +kernel
theorem dX9_tries_9 : decode cX9_tries 9 = .ok (.aload_n 0, 1) := by decide +kernel
theorem dX9_tries_10 : decode cX9_tries 10 = .ok (.getfield 39, 3) := by decide +kernel
theorem dX9_tries_13 : decode cX9_tries 13 = .ok (.iload_n 1, 1) := by decide +kernel
theorem dX9_tries_14 : decode cX9_tries 14 = .ok (.iaload, 1) := by decide +kernel
theorem dX9_tries_15 : decode cX9_tries 15 = .ok (.iload_n 2, 1) := by decide +kernel
theorem dX9_tries_16 : decode cX9_tries 16 = .ok (.aload_n 0, 1) := by decide +kernel
theorem dX9_tries_17 : decode cX9_tries 17 = .ok (.getfield 48, 3) := by decide +kernel
theorem dX9_tries_20 : decode cX9_tries 20 = .ok (.iload_n 1, 1) := by decide +kernel
theorem dX9_tries_21 : decode cX9_tries 21 = .ok (.iaload, 1) := by decide +kernel
theorem dX9_tries_22 : decode cX9_tries 22 = .ok (.invokevirtual 135, 3) := by decide +kernel
theorem dX9_tries_25 : decode cX9_tries 25 = .ok (.ifCond .ne 5, 3) := by decide +kernel
theorem dX9_tries_28 : decode cX9_tries 28 = .ok (.iconst 0, 1) := by decide +kernel
theorem dX9_tries_29 : decode cX9_tries 29 = .ok (.ireturn, 1) := by decide +kernel
theorem dX9_tries_30 : decode cX9_tries 30 = .ok (.aload_n 0, 1) := by decide +kernel
theorem dX9_tries_31 : decode cX9_tries 31 = .ok (.iload_n 3, 1) := by decide +kernel
theorem dX9_tries_32 : decode cX9_tries 32 = .ok (.invokevirtual 153, 3) := by decide +kernel
theorem dX9_tries_35 : decode cX9_tries 35 = .ok (.aload_n 0, 1) := by decide +kernel
theorem dX9_tries_36 : decode cX9_tries 36 = .ok (.getfield 39, 3) := by decide +kernel
theorem dX9_tries_39 : decode cX9_tries 39 = .ok (.iload_n 1, 1) := by decide +kernel
theorem dX9_tries_40 : decode cX9_tries 40 = .ok (.iload_n 2, 1) := by decide +kernel
theorem dX9_tries_41 : decode cX9_tries 41 = .ok (.iastore, 1) := by decide +kernel
theorem dX9_tries_42 : decode cX9_tries 42 = .ok (.aload_n 0, 1) := by decide +kernel
theorem dX9_tries_43 : decode cX9_tries 43 = .ok (.iconst 0, 1) := by decide +kernel
theorem dX9_tries_44 : decode cX9_tries 44 = .ok (.invokevirtual 149, 3) := by decide +kernel
theorem dX9_tries_47 : decode cX9_tries 47 = .ok (.iconst 1, 1) := by decide +kernel
theorem dX9_tries_48 : decode cX9_tries 48 = .ok (.ireturn, 1) := by decide +kernel
theorem dX9_meets_0 : decode cX9_meets 0 = .ok (.iload_n 1, 1) := by decide +kernel
theorem dX9_meets_1 : decode cX9_meets 1 = .ok (.aload_n 0, 1) := by decide +kernel
theorem dX9_meets_2 : decode cX9_meets 2 = .ok (.getfield 166, 3) := by decide +kernel
theorem dX9_meets_5 : decode cX9_meets 5 = .ok (.if_icmp .gt 4, 3) := by decide +kernel
theorem dX9_meets_8 : decode cX9_meets 8 = .ok (.return_, 1) := by decide +kernel
theorem dX9_meets_9 : decode cX9_meets 9 = .ok (.aload_n 0, 1) := by decide +kernel
theorem dX9_meets_10 : decode cX9_meets 10 = .ok (.iload_n 1, 1) := by decide +kernel
theorem dX9_meets_11 : decode cX9_meets 11 = .ok (.putfield 166, 3) := by decide +kernel
theorem dX9_meets_14 : decode cX9_meets 14 = .ok (.aload_n 0, 1) := by decide +kernel
theorem dX9_meets_15 : decode cX9_meets 15 = .ok (.iload_n 2, 1) := by decide +kernel
theorem dX9_meets_16 : decode cX9_meets 16 = .ok (.putfield 169, 3) := by decide +kernel
theorem dX9_meets_19 : decode cX9_meets 19 = .ok (.return_, 1) := by decide +kernel
theorem dX9_best_0 : decode cX9_best 0 = .ok (.aload_n 0, 1) := by decide +kernel
theorem dX9_best_1 : decode cX9_best 1 = .ok (.iload_n 1, 1) := by decide +kernel
theorem dX9_best_2 : decode cX9_best 2 = .ok (.invokevirtual 132, 3) := by decide +kernel
theorem dX9_best_5 : decode cX9_best 5 = .ok (.ifCond .eq 30, 3) := by decide +kernel
theorem dX9_best_8 : decode cX9_best 8 = .ok (.aload_n 0, 1) := by decide +kernel
theorem dX9_best_9 : decode cX9_best 9 = .ok (.getfield 60, 3) := by decide +kernel
theorem dX9_best_12 : decode cX9_best 12 = .ok (.iload_n 1, 1) := by decide +kernel
theorem dX9_best_13 : decode cX9_best 13 = .ok (.baload, 1) := by decide +kernel
theorem dX9_best_14 : decode cX9_best 14 = .ok (.ifCond .ne 21, 3) := by decide +kernel
theorem dX9_best_17 : decode cX9_best 17 = .ok (.iload_n 2, 1) := by decide +kernel
theorem dX9_best_18 : decode cX9_best 18 = .ok (.iconst 1, 1) := by decide +kernel
theorem dX9_best_19 : decode cX9_best 19 = .ok (.iconst 3, 1) := by decide +kernel
theorem dX9_best_20 : decode cX9_best 20 = .ok (.invokestatic 93, 3) := by decide +kernel
theorem dX9_best_23 : decode cX9_best 23 = .ok (.ifCond .eq 12, 3) := by decide +kernel
theorem dX9_best_26 : decode cX9_best 26 = .ok (.iload_n 3, 1) := by decide +kernel
theorem dX9_best_27 : decode cX9_best 27 = .ok (.iconst 0, 1) := by decide +kernel
theorem dX9_best_28 : decode cX9_best 28 = .ok (.iconst 1, 1) := by decide +kernel
theorem dX9_best_29 : decode cX9_best 29 = .ok (.invokestatic 93, 3) := by decide +kernel
theorem dX9_best_32 : decode cX9_best 32 = .ok (.ifCond .ne 5, 3) := by decide +kernel
theorem dX9_best_35 : decode cX9_best 35 = .ok (.iconst (-1), 1) := by decide +kernel
theorem dX9_best_36 : decode cX9_best 36 = .ok (.ireturn, 1) := by decide +kernel
theorem dX9_best_37 : decode cX9_best 37 = .ok (.aload_n 0, 1) := by decide +kernel
theorem dX9_best_38 : decode cX9_best 38 = .ok (.iconst (-1), 1) := by decide +kernel
theorem dX9_best_39 : decode cX9_best 39 = .ok (.putfield 166, 3) := by decide +kernel
theorem dX9_best_42 : decode cX9_best 42 = .ok (.aload_n 0, 1) := by decide +kernel
theorem dX9_best_43 : decode cX9_best 43 = .ok (.getfield 54, 3) := by decide +kernel
theorem dX9_best_46 : decode cX9_best 46 = .ok (.iload_n 1, 1) := by decide +kernel
theorem dX9_best_47 : decode cX9_best 47 = .ok (.iaload, 1) := by decide +kernel
theorem dX9_best_48 : decode cX9_best 48 = .ok (.istore 4, 2) := by decide +kernel
theorem dX9_best_50 : decode cX9_best 50 = .ok (.iconst 0, 1) := by decide +kernel
theorem dX9_best_51 : decode cX9_best 51 = .ok (.istore 5, 2) := by decide +kernel
theorem dX9_best_53 : decode cX9_best 53 = .ok (.iload 5, 2) := by decide +kernel
theorem dX9_best_55 : decode cX9_best 55 = .ok (.bipush 96, 2) := by decide +kernel
theorem dX9_best_57 : decode cX9_best 57 = .ok (.if_icmp .ge 163, 3) := by decide +kernel
theorem dX9_best_60 : decode cX9_best 60 = .ok (.aload_n 0, 1) := by decide +kernel
theorem dX9_best_61 : decode cX9_best 61 = .ok (.iload_n 1, 1) := by decide +kernel
theorem dX9_best_62 : decode cX9_best 62 = .ok (.iload 5, 2) := by decide +kernel
theorem dX9_best_64 : decode cX9_best 64 = .ok (.iconst 1, 1) := by decide +kernel
theorem dX9_best_65 : decode cX9_best 65 = .ok (.invokevirtual 172, 3) := by decide +kernel
theorem dX9_best_68 : decode cX9_best 68 = .ok (.ifCond .ne 6, 3) := by decide +kernel
theorem dX9_best_71 : decode cX9_best 71 = .ok (.goto 143, 3) := by decide +kernel
theorem dX9_best_74 : decode cX9_best 74 = .ok (.iconst 0, 1) := by decide +kernel
theorem dX9_best_75 : decode cX9_best 75 = .ok (.istore 6, 2) := by decide +kernel
theorem dX9_best_77 : decode cX9_best 77 = .ok (.iload 6, 2) := by decide +kernel
theorem dX9_best_79 : decode cX9_best 79 = .ok (.bipush 96, 2) := by decide +kernel
theorem dX9_best_81 : decode cX9_best 81 = .ok (.if_icmp .ge 108, 3) := by decide +kernel
theorem dX9_best_84 : decode cX9_best 84 = .ok (.iload_n 2, 1) := by decide +kernel
theorem dX9_best_85 : decode cX9_best 85 = .ok (.iconst 1, 1) := by decide +kernel
theorem dX9_best_86 : decode cX9_best 86 = .ok (.if_icmp .le 103, 3) := by decide +kernel
theorem dX9_best_89 : decode cX9_best 89 = .ok (.aload_n 0, 1) := by decide +kernel
theorem dX9_best_90 : decode cX9_best 90 = .ok (.iload_n 1, 1) := by decide +kernel
theorem dX9_best_91 : decode cX9_best 91 = .ok (.iload 6, 2) := by decide +kernel
theorem dX9_best_93 : decode cX9_best 93 = .ok (.iconst 2, 1) := by decide +kernel
theorem dX9_best_94 : decode cX9_best 94 = .ok (.invokevirtual 172, 3) := by decide +kernel
theorem dX9_best_97 : decode cX9_best 97 = .ok (.ifCond .ne 6, 3) := by decide +kernel
theorem dX9_best_100 : decode cX9_best 100 = .ok (.goto 83, 3) := by decide +kernel
theorem dX9_best_103 : decode cX9_best 103 = .ok (.iconst 0, 1) := by decide +kernel
theorem dX9_best_104 : decode cX9_best 104 = .ok (.istore 7, 2) := by decide +kernel
theorem dX9_best_106 : decode cX9_best 106 = .ok (.iload 7, 2) := by decide +kernel
theorem dX9_best_108 : decode cX9_best 108 = .ok (.bipush 96, 2) := by decide +kernel
theorem dX9_best_110 : decode cX9_best 110 = .ok (.if_icmp .ge 48, 3) := by decide +kernel
theorem dX9_best_113 : decode cX9_best 113 = .ok (.iload_n 2, 1) := by decide +kernel
theorem dX9_best_114 : decode cX9_best 114 = .ok (.iconst 2, 1) := by decide +kernel
theorem dX9_best_115 : decode cX9_best 115 = .ok (.if_icmp .le 43, 3) := by decide +kernel
theorem dX9_best_118 : decode cX9_best 118 = .ok (.aload_n 0, 1) := by decide +kernel
theorem dX9_best_119 : decode cX9_best 119 = .ok (.iload_n 1, 1) := by decide +kernel
theorem dX9_best_120 : decode cX9_best 120 = .ok (.iload 7, 2) := by decide +kernel
theorem dX9_best_122 : decode cX9_best 122 = .ok (.iconst 3, 1) := by decide +kernel
theorem dX9_best_123 : decode cX9_best 123 = .ok (.invokevirtual 172, 3) := by decide +kernel
theorem dX9_best_126 : decode cX9_best 126 = .ok (.ifCond .ne 6, 3) := by decide +kernel
theorem dX9_best_129 : decode cX9_best 129 = .ok (.goto 23, 3) := by decide +kernel
theorem dX9_best_132 : decode cX9_best 132 = .ok (.aload_n 0, 1) := by decide +kernel
theorem dX9_best_133 : decode cX9_best 133 = .ok (.aload_n 0, 1) := by decide +kernel
theorem dX9_best_134 : decode cX9_best 134 = .ok (.getfield 54, 3) := by decide +kernel
theorem dX9_best_137 : decode cX9_best 137 = .ok (.iload_n 1, 1) := by decide +kernel
theorem dX9_best_138 : decode cX9_best 138 = .ok (.iaload, 1) := by decide +kernel
theorem dX9_best_139 : decode cX9_best 139 = .ok (.iload 4, 2) := by decide +kernel
theorem dX9_best_141 : decode cX9_best 141 = .ok (.isub, 1) := by decide +kernel
theorem dX9_best_142 : decode cX9_best 142 = .ok (.iload 5, 2) := by decide +kernel
theorem dX9_best_144 : decode cX9_best 144 = .ok (.invokevirtual 175, 3) := by decide +kernel
theorem dX9_best_147 : decode cX9_best 147 = .ok (.aload_n 0, 1) := by decide +kernel
theorem dX9_best_148 : decode cX9_best 148 = .ok (.iconst 3, 1) := by decide +kernel
theorem dX9_best_149 : decode cX9_best 149 = .ok (.invokevirtual 160, 3) := by decide +kernel
theorem dX9_best_152 : decode cX9_best 152 = .ok (.iinc 7 1, 3) := by decide +kernel
theorem dX9_best_155 : decode cX9_best 155 = .ok (.goto (-49), 3) := by decide +kernel
theorem dX9_best_158 : decode cX9_best 158 = .ok (.iload_n 2, 1) := by decide +kernel
theorem dX9_best_159 : decode cX9_best 159 = .ok (.iconst 2, 1) := by decide +kernel
theorem dX9_best_160 : decode cX9_best 160 = .ok (.if_icmp .ne 18, 3) := by decide +kernel
theorem dX9_best_163 : decode cX9_best 163 = .ok (.aload_n 0, 1) := by decide +kernel
theorem dX9_best_164 : decode cX9_best 164 = .ok (.aload_n 0, 1) := by decide +kernel
theorem dX9_best_165 : decode cX9_best 165 = .ok (.getfield 54, 3) := by decide +kernel
theorem dX9_best_168 : decode cX9_best 168 = .ok (.iload_n 1, 1) := by decide +kernel
theorem dX9_best_169 : decode cX9_best 169 = .ok (.iaload, 1) := by decide +kernel
theorem dX9_best_170 : decode cX9_best 170 = .ok (.iload 4, 2) := by decide +kernel
theorem dX9_best_172 : decode cX9_best 172 = .ok (.isub, 1) := by decide +kernel
theorem dX9_best_173 : decode cX9_best 173 = .ok (.iload 5, 2) := by decide +kernel
theorem dX9_best_175 : decode cX9_best 175 = .ok (.invokevirtual 175, 3) := by decide +kernel
theorem dX9_best_178 : decode cX9_best 178 = .ok (.aload_n 0, 1) := by decide +kernel
theorem dX9_best_179 : decode cX9_best 179 = .ok (.iconst 2, 1) := by decide +kernel
theorem dX9_best_180 : decode cX9_best 180 = .ok (.invokevirtual 160, 3) := by decide +kernel
theorem dX9_best_183 : decode cX9_best 183 = .ok (.iinc 6 1, 3) := by decide +kernel
theorem dX9_best_186 : decode cX9_best 186 = .ok (.goto (-109), 3) := by decide +kernel
theorem dX9_best_189 : decode cX9_best 189 = .ok (.iload_n 2, 1) := by decide +kernel
theorem dX9_best_190 : decode cX9_best 190 = .ok (.iconst 1, 1) := by decide +kernel
theorem dX9_best_191 : decode cX9_best 191 = .ok (.if_icmp .ne 18, 3) := by decide +kernel
theorem dX9_best_194 : decode cX9_best 194 = .ok (.aload_n 0, 1) := by decide +kernel
theorem dX9_best_195 : decode cX9_best 195 = .ok (.aload_n 0, 1) := by decide +kernel
theorem dX9_best_196 : decode cX9_best 196 = .ok (.getfield 54, 3) := by decide +kernel
theorem dX9_best_199 : decode cX9_best 199 = .ok (.iload_n 1, 1) := by decide +kernel
theorem dX9_best_200 : decode cX9_best 200 = .ok (.iaload, 1) := by decide +kernel
theorem dX9_best_201 : decode cX9_best 201 = .ok (.iload 4, 2) := by decide +kernel
theorem dX9_best_203 : decode cX9_best 203 = .ok (.isub, 1) := by decide +kernel
theorem dX9_best_204 : decode cX9_best 204 = .ok (.iload 5, 2) := by decide +kernel
theorem dX9_best_206 : decode cX9_best 206 = .ok (.invokevirtual 175, 3) := by decide +kernel
theorem dX9_best_209 : decode cX9_best 209 = .ok (.aload_n 0, 1) := by decide +kernel
theorem dX9_best_210 : decode cX9_best 210 = .ok (.iconst 1, 1) := by decide +kernel
theorem dX9_best_211 : decode cX9_best 211 = .ok (.invokevirtual 160, 3) := by decide +kernel
theorem dX9_best_214 : decode cX9_best 214 = .ok (.iinc 5 1, 3) := by decide +kernel
theorem dX9_best_217 : decode cX9_best 217 = .ok (.goto (-164), 3) := by decide +kernel
theorem dX9_best_220 : decode cX9_best 220 = .ok (.iload_n 3, 1) := by decide +kernel
theorem dX9_best_221 : decode cX9_best 221 = .ok (.ifCond .ne 10, 3) := by decide +kernel
theorem dX9_best_224 : decode cX9_best 224 = .ok (.aload_n 0, 1) := by decide +kernel
theorem dX9_best_225 : decode cX9_best 225 = .ok (.getfield 166, 3) := by decide +kernel
theorem dX9_best_228 : decode cX9_best 228 = .ok (.goto 7, 3) := by decide +kernel
theorem dX9_best_231 : decode cX9_best 231 = .ok (.aload_n 0, 1) := by decide +kernel
theorem dX9_best_232 : decode cX9_best 232 = .ok (.getfield 169, 3) := by decide +kernel
theorem dX9_best_235 : decode cX9_best 235 = .ok (.ireturn, 1) := by decide +kernel
theorem dX9_ship_0 : decode cX9_ship 0 = .ok (.iload_n 1, 1) := by decide +kernel
theorem dX9_ship_1 : decode cX9_ship 1 = .ok (.iconst 0, 1) := by decide +kernel
theorem dX9_ship_2 : decode cX9_ship 2 = .ok (.ldc 179, 2) := by decide +kernel
theorem dX9_ship_4 : decode cX9_ship 4 = .ok (.invokestatic 93, 3) := by decide +kernel
theorem dX9_ship_7 : decode cX9_ship 7 = .ok (.ifCond .eq 32, 3) := by decide +kernel
theorem dX9_ship_10 : decode cX9_ship 10 = .ok (.aload_n 0, 1) := by decide +kernel
theorem dX9_ship_11 : decode cX9_ship 11 = .ok (.iload_n 2, 1) := by decide +kernel
theorem dX9_ship_12 : decode cX9_ship 12 = .ok (.invokevirtual 110, 3) := by decide +kernel
theorem dX9_ship_15 : decode cX9_ship 15 = .ok (.ifCond .eq 24, 3) := by decide +kernel
theorem dX9_ship_18 : decode cX9_ship 18 = .ok (.iload_n 3, 1) := by decide +kernel
theorem dX9_ship_19 : decode cX9_ship 19 = .ok (.iconst 0, 1) := by decide +kernel
theorem dX9_ship_20 : decode cX9_ship 20 = .ok (.aload_n 0, 1) := by decide +kernel
theorem dX9_ship_21 : decode cX9_ship 21 = .ok (.getfield 104, 3) := by decide +kernel
theorem dX9_ship_24 : decode cX9_ship 24 = .ok (.invokestatic 93, 3) := by decide +kernel
theorem dX9_ship_27 : decode cX9_ship 27 = .ok (.ifCond .eq 12, 3) := by decide +kernel
theorem dX9_ship_30 : decode cX9_ship 30 = .ok (.aload_n 0, 1) := by decide +kernel
theorem dX9_ship_31 : decode cX9_ship 31 = .ok (.getfield 107, 3) := by decide +kernel
theorem dX9_ship_34 : decode cX9_ship 34 = .ok (.bipush 8, 2) := by decide +kernel
theorem dX9_ship_36 : decode cX9_ship 36 = .ok (.if_icmp .ne 5, 3) := by decide +kernel
theorem dX9_ship_39 : decode cX9_ship 39 = .ok (.iconst (-1), 1) := by decide +kernel
theorem dX9_ship_40 : decode cX9_ship 40 = .ok (.ireturn, 1) := by decide +kernel
theorem dX9_ship_41 : decode cX9_ship 41 = .ok (.aload_n 0, 1) := by decide +kernel
theorem dX9_ship_42 : decode cX9_ship 42 = .ok (.getfield 63, 3) := by decide +kernel
theorem dX9_ship_45 : decode cX9_ship 45 = .ok (.aload_n 0, 1) := by decide +kernel
theorem dX9_ship_46 : decode cX9_ship 46 = .ok (.getfield 107, 3) := by decide +kernel
theorem dX9_ship_49 : decode cX9_ship 49 = .ok (.iload_n 1, 1) := by decide +kernel
theorem dX9_ship_50 : decode cX9_ship 50 = .ok (.iastore, 1) := by decide +kernel
theorem dX9_ship_51 : decode cX9_ship 51 = .ok (.aload_n 0, 1) := by decide +kernel
theorem dX9_ship_52 : decode cX9_ship 52 = .ok (.getfield 66, 3) := by decide +kernel
theorem dX9_ship_55 : decode cX9_ship 55 = .ok (.aload_n 0, 1) := by decide +kernel
theorem dX9_ship_56 : decode cX9_ship 56 = .ok (.getfield 107, 3) := by decide +kernel
theorem dX9_ship_59 : decode cX9_ship 59 = .ok (.iload_n 2, 1) := by decide +kernel
theorem dX9_ship_60 : decode cX9_ship 60 = .ok (.iastore, 1) := by decide +kernel
theorem dX9_ship_61 : decode cX9_ship 61 = .ok (.aload_n 0, 1) := by decide +kernel
theorem dX9_ship_62 : decode cX9_ship 62 = .ok (.getfield 69, 3) := by decide +kernel
theorem dX9_ship_65 : decode cX9_ship 65 = .ok (.aload_n 0, 1) := by decide +kernel
theorem dX9_ship_66 : decode cX9_ship 66 = .ok (.getfield 107, 3) := by decide +kernel
theorem dX9_ship_69 : decode cX9_ship 69 = .ok (.iload_n 3, 1) := by decide +kernel
theorem dX9_ship_70 : decode cX9_ship 70 = .ok (.iastore, 1) := by decide +kernel
theorem dX9_ship_71 : decode cX9_ship 71 = .ok (.aload_n 0, 1) := by decide +kernel
theorem dX9_ship_72 : decode cX9_ship 72 = .ok (.dup, 1) := by decide +kernel
theorem dX9_ship_73 : decode cX9_ship 73 = .ok (.getfield 107, 3) := by decide +kernel
theorem dX9_ship_76 : decode cX9_ship 76 = .ok (.iconst 1, 1) := by decide +kernel
theorem dX9_ship_77 : decode cX9_ship 77 = .ok (.iadd, 1) := by decide +kernel
theorem dX9_ship_78 : decode cX9_ship 78 = .ok (.putfield 107, 3) := by decide +kernel
theorem dX9_ship_81 : decode cX9_ship 81 = .ok (.aload_n 0, 1) := by decide +kernel
theorem dX9_ship_82 : decode cX9_ship 82 = .ok (.getfield 107, 3) := by decide +kernel
theorem dX9_ship_85 : decode cX9_ship 85 = .ok (.iconst 1, 1) := by decide +kernel
theorem dX9_ship_86 : decode cX9_ship 86 = .ok (.isub, 1) := by decide +kernel
theorem dX9_ship_87 : decode cX9_ship 87 = .ok (.ireturn, 1) := by decide +kernel
theorem dX9_could_0 : decode cX9_could 0 = .ok (.iload_n 1, 1) := by decide +kernel
theorem dX9_could_1 : decode cX9_could 1 = .ok (.iconst 0, 1) := by decide +kernel
theorem dX9_could_2 : decode cX9_could 2 = .ok (.aload_n 0, 1) := by decide +kernel
theorem dX9_could_3 : decode cX9_could 3 = .ok (.getfield 107, 3) := by decide +kernel
theorem dX9_could_6 : decode cX9_could 6 = .ok (.iconst 1, 1) := by decide +kernel
theorem dX9_could_7 : decode cX9_could 7 = .ok (.isub, 1) := by decide +kernel
theorem dX9_could_8 : decode cX9_could 8 = .ok (.invokestatic 93, 3) := by decide +kernel
theorem dX9_could_11 : decode cX9_could 11 = .ok (.ifCond .eq 11, 3) := by decide +kernel
theorem dX9_could_14 : decode cX9_could 14 = .ok (.aload_n 0, 1) := by decide +kernel
theorem dX9_could_15 : decode cX9_could 15 = .ok (.iload_n 2, 1) := by decide +kernel
theorem dX9_could_16 : decode cX9_could 16 = .ok (.invokevirtual 110, 3) := by decide +kernel
theorem dX9_could_19 : decode cX9_could 19 = .ok (.ifCond .ne 5, 3) := by decide +kernel
theorem dX9_could_22 : decode cX9_could 22 = .ok (.iconst 0, 1) := by decide +kernel
theorem dX9_could_23 : decode cX9_could 23 = .ok (.ireturn, 1) := by decide +kernel
theorem dX9_could_24 : decode cX9_could 24 = .ok (.iconst 0, 1) := by decide +kernel
theorem dX9_could_25 : decode cX9_could 25 = .ok (.istore_n 3, 1) := by decide +kernel
theorem dX9_could_26 : decode cX9_could 26 = .ok (.iload_n 3, 1) := by decide +kernel
theorem dX9_could_27 : decode cX9_could 27 = .ok (.bipush 96, 2) := by decide +kernel
theorem dX9_could_29 : decode cX9_could 29 = .ok (.if_icmp .ge 30, 3) := by decide +kernel
theorem dX9_could_32 : decode cX9_could 32 = .ok (.aload_n 0, 1) := by decide +kernel
theorem dX9_could_33 : decode cX9_could 33 = .ok (.getfield 81, 3) := by decide +kernel
theorem dX9_could_36 : decode cX9_could 36 = .ok (.iload_n 3, 1) := by decide +kernel
theorem dX9_could_37 : decode cX9_could 37 = .ok (.iload_n 3, 1) := by decide +kernel
theorem dX9_could_38 : decode cX9_could 38 = .ok (.aload_n 0, 1) := by decide +kernel
theorem dX9_could_39 : decode cX9_could 39 = .ok (.getfield 66, 3) := by decide +kernel
theorem dX9_could_42 : decode cX9_could 42 = .ok (.iload_n 1, 1) := by decide +kernel
theorem dX9_could_43 : decode cX9_could 43 = .ok (.iaload, 1) := by decide +kernel
theorem dX9_could_44 : decode cX9_could 44 = .ok (.if_icmp .ne 7, 3) := by decide +kernel
theorem dX9_could_47 : decode cX9_could 47 = .ok (.iconst 1, 1) := by decide +kernel
theorem dX9_could_48 : decode cX9_could 48 = .ok (.goto 4, 3) := by decide +kernel
theorem dX9_could_51 : decode cX9_could 51 = .ok (.iconst 0, 1) := by decide +kernel
theorem dX9_could_52 : decode cX9_could 52 = .ok (.bastore, 1) := by decide +kernel
theorem dX9_could_53 : decode cX9_could 53 = .ok (.iinc 3 1, 3) := by decide +kernel
theorem dX9_could_56 : decode cX9_could 56 = .ok (.goto (-30), 3) := by decide +kernel
theorem dX9_could_59 : decode cX9_could 59 = .ok (.aload_n 0, 1) := by decide +kernel
theorem dX9_could_60 : decode cX9_could 60 = .ok (.getfield 69, 3) := by decide +kernel
theorem dX9_could_63 : decode cX9_could 63 = .ok (.iload_n 1, 1) := by decide +kernel
theorem dX9_could_64 : decode cX9_could 64 = .ok (.iaload, 1) := by decide +kernel
theorem dX9_could_65 : decode cX9_could 65 = .ok (.istore_n 3, 1) := by decide +kernel
theorem dX9_could_66 : decode cX9_could 66 = .ok (.iload_n 3, 1) := by decide +kernel
theorem dX9_could_67 : decode cX9_could 67 = .ok (.aload_n 0, 1) := by decide +kernel
theorem dX9_could_68 : decode cX9_could 68 = .ok (.getfield 104, 3) := by decide +kernel
theorem dX9_could_71 : decode cX9_could 71 = .ok (.if_icmp .ge 139, 3) := by decide +kernel
theorem dX9_could_74 : decode cX9_could 74 = .ok (.iconst 0, 1) := by decide +kernel
theorem dX9_could_75 : decode cX9_could 75 = .ok (.istore 4, 2) := by decide +kernel
theorem dX9_could_77 : decode cX9_could 77 = .ok (.iload 4, 2) := by decide +kernel
theorem dX9_could_79 : decode cX9_could 79 = .ok (.bipush 96, 2) := by decide +kernel
theorem dX9_could_81 : decode cX9_could 81 = .ok (.if_icmp .ge 23, 3) := by decide +kernel
theorem dX9_could_84 : decode cX9_could 84 = .ok (.aload_n 0, 1) := by decide +kernel
theorem dX9_could_85 : decode cX9_could 85 = .ok (.getfield 84, 3) := by decide +kernel
theorem dX9_could_88 : decode cX9_could 88 = .ok (.iload 4, 2) := by decide +kernel
theorem dX9_could_90 : decode cX9_could 90 = .ok (.aload_n 0, 1) := by decide +kernel
theorem dX9_could_91 : decode cX9_could 91 = .ok (.getfield 81, 3) := by decide +kernel
theorem dX9_could_94 : decode cX9_could 94 = .ok (.iload 4, 2) := by decide +kernel
theorem dX9_could_96 : decode cX9_could 96 = .ok (.baload, 1) := by decide +kernel
theorem dX9_could_97 : decode cX9_could 97 = .ok (.bastore, 1) := by decide +kernel
theorem dX9_could_98 : decode cX9_could 98 = .ok (.iinc 4 1, 3) := by decide +kernel
theorem dX9_could_101 : decode cX9_could 101 = .ok (.goto (-24), 3) := by decide +kernel
theorem dX9_could_104 : decode cX9_could 104 = .ok (.iconst 0, 1) := by decide +kernel
theorem dX9_could_105 : decode cX9_could 105 = .ok (.istore 4, 2) := by decide +kernel
theorem dX9_could_107 : decode cX9_could 107 = .ok (.iload 4, 2) := by decide +kernel
theorem dX9_could_109 : decode cX9_could 109 = .ok (.bipush 96, 2) := by decide +kernel
theorem dX9_could_111 : decode cX9_could 111 = .ok (.if_icmp .ge 63, 3) := by decide +kernel
theorem dX9_could_114 : decode cX9_could 114 = .ok (.aload_n 0, 1) := by decide +kernel
theorem dX9_could_115 : decode cX9_could 115 = .ok (.getfield 16, 3) := by decide +kernel
theorem dX9_could_118 : decode cX9_could 118 = .ok (.iload_n 3, 1) := by decide +kernel
theorem dX9_could_119 : decode cX9_could 119 = .ok (.iaload, 1) := by decide +kernel
theorem dX9_could_120 : decode cX9_could 120 = .ok (.ifCond .le 54, 3) := by decide +kernel
theorem dX9_could_123 : decode cX9_could 123 = .ok (.aload_n 0, 1) := by decide +kernel
theorem dX9_could_124 : decode cX9_could 124 = .ok (.getfield 81, 3) := by decide +kernel
theorem dX9_could_127 : decode cX9_could 127 = .ok (.iload 4, 2) := by decide +kernel
theorem dX9_could_129 : decode cX9_could 129 = .ok (.baload, 1) := by decide +kernel
theorem dX9_could_130 : decode cX9_could 130 = .ok (.ifCond .eq 38, 3) := by decide +kernel
theorem dX9_could_133 : decode cX9_could 133 = .ok (.aload_n 0, 1) := by decide +kernel
theorem dX9_could_134 : decode cX9_could 134 = .ok (.iload 4, 2) := by decide +kernel
theorem dX9_could_136 : decode cX9_could 136 = .ok (.aload_n 0, 1) := by decide +kernel
theorem dX9_could_137 : decode cX9_could 137 = .ok (.getfield 16, 3) := by decide +kernel
theorem dX9_could_140 : decode cX9_could 140 = .ok (.iload_n 3, 1) := by decide +kernel
theorem dX9_could_141 : decode cX9_could 141 = .ok (.iaload, 1) := by decide +kernel
theorem dX9_could_142 : decode cX9_could 142 = .ok (.invokestatic 126, 3) := by decide +kernel
theorem dX9_could_145 : decode cX9_could 145 = .ok (.invokevirtual 110, 3) := by decide +kernel
theorem dX9_could_148 : decode cX9_could 148 = .ok (.ifCond .eq 20, 3) := by decide +kernel
theorem dX9_could_151 : decode cX9_could 151 = .ok (.aload_n 0, 1) := by decide +kernel
theorem dX9_could_152 : decode cX9_could 152 = .ok (.getfield 84, 3) := by decide +kernel
theorem dX9_could_155 : decode cX9_could 155 = .ok (.iload 4, 2) := by decide +kernel
theorem dX9_could_157 : decode cX9_could 157 = .ok (.aload_n 0, 1) := by decide +kernel
theorem dX9_could_158 : decode cX9_could 158 = .ok (.getfield 16, 3) := by decide +kernel
theorem dX9_could_161 : decode cX9_could 161 = .ok (.iload_n 3, 1) := by decide +kernel
theorem dX9_could_162 : decode cX9_could 162 = .ok (.iaload, 1) := by decide +kernel
theorem dX9_could_163 : decode cX9_could 163 = .ok (.invokestatic 126, 3) := by decide +kernel
theorem dX9_could_166 : decode cX9_could 166 = .ok (.iconst 1, 1) := by decide +kernel
theorem dX9_could_167 : decode cX9_could 167 = .ok (.bastore, 1) := by decide +kernel
theorem dX9_could_168 : decode cX9_could 168 = .ok (.iinc 4 1, 3) := by decide +kernel
theorem dX9_could_171 : decode cX9_could 171 = .ok (.goto (-64), 3) := by decide +kernel
theorem dX9_could_174 : decode cX9_could 174 = .ok (.iconst 0, 1) := by decide +kernel
theorem dX9_could_175 : decode cX9_could 175 = .ok (.istore 4, 2) := by decide +kernel
theorem dX9_could_177 : decode cX9_could 177 = .ok (.iload 4, 2) := by decide +kernel
theorem dX9_could_179 : decode cX9_could 179 = .ok (.bipush 96, 2) := by decide +kernel
theorem dX9_could_181 : decode cX9_could 181 = .ok (.if_icmp .ge 23, 3) := by decide +kernel
theorem dX9_could_184 : decode cX9_could 184 = .ok (.aload_n 0, 1) := by decide +kernel
theorem dX9_could_185 : decode cX9_could 185 = .ok (.getfield 81, 3) := by decide +kernel
theorem dX9_could_188 : decode cX9_could 188 = .ok (.iload 4, 2) := by decide +kernel
theorem dX9_could_190 : decode cX9_could 190 = .ok (.aload_n 0, 1) := by decide +kernel
theorem dX9_could_191 : decode cX9_could 191 = .ok (.getfield 84, 3) := by decide +kernel
theorem dX9_could_194 : decode cX9_could 194 = .ok (.iload 4, 2) := by decide +kernel
theorem dX9_could_196 : decode cX9_could 196 = .ok (.baload, 1) := by decide +kernel
theorem dX9_could_197 : decode cX9_could 197 = .ok (.bastore, 1) := by decide +kernel
theorem dX9_could_198 : decode cX9_could 198 = .ok (.iinc 4 1, 3) := by decide +kernel
theorem dX9_could_201 : decode cX9_could 201 = .ok (.goto (-24), 3) := by decide +kernel
theorem dX9_could_204 : decode cX9_could 204 = .ok (.iinc 3 1, 3) := by decide +kernel
theorem dX9_could_207 : decode cX9_could 207 = .ok (.goto (-141), 3) := by decide +kernel
theorem dX9_could_210 : decode cX9_could 210 = .ok (.aload_n 0, 1) := by decide +kernel
theorem dX9_could_211 : decode cX9_could 211 = .ok (.getfield 81, 3) := by decide +kernel
theorem dX9_could_214 : decode cX9_could 214 = .ok (.iload_n 2, 1) := by decide +kernel
theorem dX9_could_215 : decode cX9_could 215 = .ok (.baload, 1) := by decide +kernel
theorem dX9_could_216 : decode cX9_could 216 = .ok (.ireturn, 1) := by decide +kernel
theorem dX9_apart_0 : decode cX9_apart 0 = .ok (.iconst 0, 1) := by decide +kernel
theorem dX9_apart_1 : decode cX9_apart 1 = .ok (.istore_n 2, 1) := by decide +kernel
theorem dX9_apart_2 : decode cX9_apart 2 = .ok (.iload_n 0, 1) := by decide +kernel
theorem dX9_apart_3 : decode cX9_apart 3 = .ok (.istore_n 3, 1) := by decide +kernel
theorem dX9_apart_4 : decode cX9_apart 4 = .ok (.iload_n 1, 1) := by decide +kernel
theorem dX9_apart_5 : decode cX9_apart 5 = .ok (.istore 4, 2) := by decide +kernel
theorem dX9_apart_7 : decode cX9_apart 7 = .ok (.iconst 0, 1) := by decide +kernel
theorem dX9_apart_8 : decode cX9_apart 8 = .ok (.istore 5, 2) := by decide +kernel
theorem dX9_apart_10 : decode cX9_apart 10 = .ok (.iload 5, 2) := by decide +kernel
theorem dX9_apart_12 : decode cX9_apart 12 = .ok (.bipush 6, 2) := by decide +kernel
theorem dX9_apart_14 : decode cX9_apart 14 = .ok (.if_icmp .ge 45, 3) := by decide +kernel
theorem dX9_apart_17 : decode cX9_apart 17 = .ok (.iload_n 2, 1) := by decide +kernel
theorem dX9_apart_18 : decode cX9_apart 18 = .ok (.iload_n 3, 1) := by decide +kernel
theorem dX9_apart_19 : decode cX9_apart 19 = .ok (.bipush 10, 2) := by decide +kernel
theorem dX9_apart_21 : decode cX9_apart 21 = .ok (.irem, 1) := by decide +kernel
theorem dX9_apart_22 : decode cX9_apart 22 = .ok (.iload 4, 2) := by decide +kernel
theorem dX9_apart_24 : decode cX9_apart 24 = .ok (.bipush 10, 2) := by decide +kernel
theorem dX9_apart_26 : decode cX9_apart 26 = .ok (.irem, 1) := by decide +kernel
theorem dX9_apart_27 : decode cX9_apart 27 = .ok (.isub, 1) := by decide +kernel
theorem dX9_apart_28 : decode cX9_apart 28 = .ok (.iload_n 3, 1) := by decide +kernel
theorem dX9_apart_29 : decode cX9_apart 29 = .ok (.bipush 10, 2) := by decide +kernel
theorem dX9_apart_31 : decode cX9_apart 31 = .ok (.irem, 1) := by decide +kernel
theorem dX9_apart_32 : decode cX9_apart 32 = .ok (.iload 4, 2) := by decide +kernel
theorem dX9_apart_34 : decode cX9_apart 34 = .ok (.bipush 10, 2) := by decide +kernel
theorem dX9_apart_36 : decode cX9_apart 36 = .ok (.irem, 1) := by decide +kernel
theorem dX9_apart_37 : decode cX9_apart 37 = .ok (.isub, 1) := by decide +kernel
theorem dX9_apart_38 : decode cX9_apart 38 = .ok (.imul, 1) := by decide +kernel
theorem dX9_apart_39 : decode cX9_apart 39 = .ok (.iadd, 1) := by decide +kernel
theorem dX9_apart_40 : decode cX9_apart 40 = .ok (.istore_n 2, 1) := by decide +kernel
theorem dX9_apart_41 : decode cX9_apart 41 = .ok (.iload_n 3, 1) := by decide +kernel
theorem dX9_apart_42 : decode cX9_apart 42 = .ok (.bipush 10, 2) := by decide +kernel
theorem dX9_apart_44 : decode cX9_apart 44 = .ok (.idiv, 1) := by decide +kernel
theorem dX9_apart_45 : decode cX9_apart 45 = .ok (.istore_n 3, 1) := by decide +kernel
theorem dX9_apart_46 : decode cX9_apart 46 = .ok (.iload 4, 2) := by decide +kernel
theorem dX9_apart_48 : decode cX9_apart 48 = .ok (.bipush 10, 2) := by decide +kernel
theorem dX9_apart_50 : decode cX9_apart 50 = .ok (.idiv, 1) := by decide +kernel
theorem dX9_apart_51 : decode cX9_apart 51 = .ok (.istore 4, 2) := by decide +kernel
theorem dX9_apart_53 : decode cX9_apart 53 = .ok (.iinc 5 1, 3) := by decide +kernel
theorem dX9_apart_56 : decode cX9_apart 56 = .ok (.goto (-46), 3) := by decide +kernel
theorem dX9_apart_59 : decode cX9_apart 59 = .ok (.iload_n 2, 1) := by decide +kernel
theorem dX9_apart_60 : decode cX9_apart 60 = .ok (.ireturn, 1) := by decide +kernel
theorem dX9_sample_0 : decode cX9_sample 0 = .ok (.iload_n 2, 1) := by decide +kernel
theorem dX9_sample_1 : decode cX9_sample 1 = .ok (.iconst 0, 1) := by decide +kernel
theorem dX9_sample_2 : decode cX9_sample 2 = .ok (.ldc 179, 2) := by decide +kernel
theorem dX9_sample_4 : decode cX9_sample 4 = .ok (.invokestatic 93, 3) := by decide +kernel
theorem dX9_sample_7 : decode cX9_sample 7 = .ok (.ifCond .ne 5, 3) := by decide +kernel
theorem dX9_sample_10 : decode cX9_sample 10 = .ok (.iconst (-1), 1) := by decide +kernel
theorem dX9_sample_11 : decode cX9_sample 11 = .ok (.ireturn, 1) := by decide +kernel
theorem dX9_sample_12 : decode cX9_sample 12 = .ok (.iconst (-1), 1) := by decide +kernel
theorem dX9_sample_13 : decode cX9_sample 13 = .ok (.istore_n 3, 1) := by decide +kernel
theorem dX9_sample_14 : decode cX9_sample 14 = .ok (.iconst 0, 1) := by decide +kernel
theorem dX9_sample_15 : decode cX9_sample 15 = .ok (.istore 4, 2) := by decide +kernel
theorem dX9_sample_17 : decode cX9_sample 17 = .ok (.iload 4, 2) := by decide +kernel
theorem dX9_sample_19 : decode cX9_sample 19 = .ok (.aload_n 0, 1) := by decide +kernel
theorem dX9_sample_20 : decode cX9_sample 20 = .ok (.getfield 107, 3) := by decide +kernel
theorem dX9_sample_23 : decode cX9_sample 23 = .ok (.if_icmp .ge 51, 3) := by decide +kernel
theorem dX9_sample_26 : decode cX9_sample 26 = .ok (.aload_n 0, 1) := by decide +kernel
theorem dX9_sample_27 : decode cX9_sample 27 = .ok (.iload 4, 2) := by decide +kernel
theorem dX9_sample_29 : decode cX9_sample 29 = .ok (.iload_n 1, 1) := by decide +kernel
theorem dX9_sample_30 : decode cX9_sample 30 = .ok (.invokevirtual 180, 3) := by decide +kernel
theorem dX9_sample_33 : decode cX9_sample 33 = .ok (.ifCond .eq 35, 3) := by decide +kernel
theorem dX9_sample_36 : decode cX9_sample 36 = .ok (.iload_n 3, 1) := by decide +kernel
theorem dX9_sample_37 : decode cX9_sample 37 = .ok (.iconst (-1), 1) := by decide +kernel
theorem dX9_sample_38 : decode cX9_sample 38 = .ok (.if_icmp .eq 27, 3) := by decide +kernel
theorem dX9_sample_41 : decode cX9_sample 41 = .ok (.aload_n 0, 1) := by decide +kernel
theorem dX9_sample_42 : decode cX9_sample 42 = .ok (.getfield 63, 3) := by decide +kernel
theorem dX9_sample_45 : decode cX9_sample 45 = .ok (.iload 4, 2) := by decide +kernel
theorem dX9_sample_47 : decode cX9_sample 47 = .ok (.iaload, 1) := by decide +kernel
theorem dX9_sample_48 : decode cX9_sample 48 = .ok (.iload_n 2, 1) := by decide +kernel
theorem dX9_sample_49 : decode cX9_sample 49 = .ok (.invokestatic 183, 3) := by decide +kernel
theorem dX9_sample_52 : decode cX9_sample 52 = .ok (.aload_n 0, 1) := by decide +kernel
theorem dX9_sample_53 : decode cX9_sample 53 = .ok (.getfield 63, 3) := by decide +kernel
theorem dX9_sample_56 : decode cX9_sample 56 = .ok (.iload_n 3, 1) := by decide +kernel
theorem dX9_sample_57 : decode cX9_sample 57 = .ok (.iaload, 1) := by decide +kernel
theorem dX9_sample_58 : decode cX9_sample 58 = .ok (.iload_n 2, 1) := by decide +kernel
theorem dX9_sample_59 : decode cX9_sample 59 = .ok (.invokestatic 183, 3) := by decide +kernel
theorem dX9_sample_62 : decode cX9_sample 62 = .ok (.if_icmp .ge 6, 3) := by decide +kernel
theorem dX9_sample_65 : decode cX9_sample 65 = .ok (.iload 4, 2) := by decide +kernel
theorem dX9_sample_67 : decode cX9_sample 67 = .ok (.istore_n 3, 1) := by decide +kernel
theorem dX9_sample_68 : decode cX9_sample 68 = .ok (.iinc 4 1, 3) := by decide +kernel
theorem dX9_sample_71 : decode cX9_sample 71 = .ok (.goto (-54), 3) := by decide +kernel
theorem dX9_sample_74 : decode cX9_sample 74 = .ok (.iconst 0, 1) := by decide +kernel
theorem dX9_sample_75 : decode cX9_sample 75 = .ok (.istore 4, 2) := by decide +kernel
theorem dX9_sample_77 : decode cX9_sample 77 = .ok (.iload 4, 2) := by decide +kernel
theorem dX9_sample_79 : decode cX9_sample 79 = .ok (.aload_n 0, 1) := by decide +kernel
theorem dX9_sample_80 : decode cX9_sample 80 = .ok (.getfield 107, 3) := by decide +kernel
theorem dX9_sample_83 : decode cX9_sample 83 = .ok (.if_icmp .ge 54, 3) := by decide +kernel
theorem dX9_sample_86 : decode cX9_sample 86 = .ok (.iload 4, 2) := by decide +kernel
theorem dX9_sample_88 : decode cX9_sample 88 = .ok (.iload_n 3, 1) := by decide +kernel
theorem dX9_sample_89 : decode cX9_sample 89 = .ok (.if_icmp .eq 42, 3) := by decide +kernel
theorem dX9_sample_92 : decode cX9_sample 92 = .ok (.aload_n 0, 1) := by decide +kernel
theorem dX9_sample_93 : decode cX9_sample 93 = .ok (.iload 4, 2) := by decide +kernel
theorem dX9_sample_95 : decode cX9_sample 95 = .ok (.iload_n 1, 1) := by decide +kernel
theorem dX9_sample_96 : decode cX9_sample 96 = .ok (.invokevirtual 180, 3) := by decide +kernel
theorem dX9_sample_99 : decode cX9_sample 99 = .ok (.ifCond .eq 32, 3) := by decide +kernel
theorem dX9_sample_102 : decode cX9_sample 102 = .ok (.aload_n 0, 1) := by decide +kernel
theorem dX9_sample_103 : decode cX9_sample 103 = .ok (.getfield 63, 3) := by decide +kernel
theorem dX9_sample_106 : decode cX9_sample 106 = .ok (.iload 4, 2) := by decide +kernel
theorem dX9_sample_108 : decode cX9_sample 108 = .ok (.iaload, 1) := by decide +kernel
theorem dX9_sample_109 : decode cX9_sample 109 = .ok (.iload_n 2, 1) := by decide +kernel
theorem dX9_sample_110 : decode cX9_sample 110 = .ok (.invokestatic 183, 3) := by decide +kernel
theorem dX9_sample_113 : decode cX9_sample 113 = .ok (.aload_n 0, 1) := by decide +kernel
theorem dX9_sample_114 : decode cX9_sample 114 = .ok (.getfield 63, 3) := by decide +kernel
theorem dX9_sample_117 : decode cX9_sample 117 = .ok (.iload_n 3, 1) := by decide +kernel
theorem dX9_sample_118 : decode cX9_sample 118 = .ok (.iaload, 1) := by decide +kernel
theorem dX9_sample_119 : decode cX9_sample 119 = .ok (.iload_n 2, 1) := by decide +kernel
theorem dX9_sample_120 : decode cX9_sample 120 = .ok (.invokestatic 183, 3) := by decide +kernel
theorem dX9_sample_123 : decode cX9_sample 123 = .ok (.iconst 5, 1) := by decide +kernel
theorem dX9_sample_124 : decode cX9_sample 124 = .ok (.iadd, 1) := by decide +kernel
theorem dX9_sample_125 : decode cX9_sample 125 = .ok (.if_icmp .ge 6, 3) := by decide +kernel
theorem dX9_sample_128 : decode cX9_sample 128 = .ok (.bipush (-2), 2) := by decide +kernel
theorem dX9_sample_130 : decode cX9_sample 130 = .ok (.ireturn, 1) := by decide +kernel
theorem dX9_sample_131 : decode cX9_sample 131 = .ok (.iinc 4 1, 3) := by decide +kernel
theorem dX9_sample_134 : decode cX9_sample 134 = .ok (.goto (-57), 3) := by decide +kernel
theorem dX9_sample_137 : decode cX9_sample 137 = .ok (.iload_n 3, 1) := by decide +kernel
theorem dX9_sample_138 : decode cX9_sample 138 = .ok (.ireturn, 1) := by decide +kernel
theorem dX9_part_0 : decode cX9_part 0 = .ok (.iload_n 1, 1) := by decide +kernel
theorem dX9_part_1 : decode cX9_part 1 = .ok (.iconst 0, 1) := by decide +kernel
theorem dX9_part_2 : decode cX9_part 2 = .ok (.iconst 3, 1) := by decide +kernel
theorem dX9_part_3 : decode cX9_part 3 = .ok (.invokestatic 93, 3) := by decide +kernel
theorem dX9_part_6 : decode cX9_part 6 = .ok (.ifCond .eq 13, 3) := by decide +kernel
theorem dX9_part_9 : decode cX9_part 9 = .ok (.iload_n 2, 1) := by decide +kernel
theorem dX9_part_10 : decode cX9_part 10 = .ok (.iconst 0, 1) := by decide +kernel
theorem dX9_part_11 : decode cX9_part 11 = .ok (.bipush 100, 2) := by decide +kernel
theorem dX9_part_13 : decode cX9_part 13 = .ok (.invokestatic 93, 3) := by decide +kernel
theorem dX9_part_16 : decode cX9_part 16 = .ok (.ifCond .ne 5, 3) := by decide +kernel
theorem dX9_part_19 : decode cX9_part 19 = .ok (.iconst 0, 1) := by decide +kernel
theorem dX9_part_20 : decode cX9_part 20 = .ok (.ireturn, 1) := by decide +kernel
theorem dX9_part_21 : decode cX9_part 21 = .ok (.aload_n 0, 1) := by decide +kernel
theorem dX9_part_22 : decode cX9_part 22 = .ok (.getfield 72, 3) := by decide +kernel
theorem dX9_part_25 : decode cX9_part 25 = .ok (.iload_n 1, 1) := by decide +kernel
theorem dX9_part_26 : decode cX9_part 26 = .ok (.iload_n 2, 1) := by decide +kernel
theorem dX9_part_27 : decode cX9_part 27 = .ok (.iastore, 1) := by decide +kernel
theorem dX9_part_28 : decode cX9_part 28 = .ok (.iconst 1, 1) := by decide +kernel
theorem dX9_part_29 : decode cX9_part 29 = .ok (.ireturn, 1) := by decide +kernel
theorem dX9_billAll_0 : decode cX9_billAll 0 = .ok (.iconst 2, 1) := by decide +kernel
theorem dX9_billAll_1 : decode cX9_billAll 1 = .ok (.aload_n 0, 1) := by decide +kernel
theorem dX9_billAll_2 : decode cX9_billAll 2 = .ok (.getfield 146, 3) := by decide +kernel
theorem dX9_billAll_5 : decode cX9_billAll 5 = .ok (.imul, 1) := by decide +kernel
theorem dX9_billAll_6 : decode cX9_billAll 6 = .ok (.bipush 10, 2) := by decide +kernel
theorem dX9_billAll_8 : decode cX9_billAll 8 = .ok (.aload_n 0, 1) := by decide +kernel
theorem dX9_billAll_9 : decode cX9_billAll 9 = .ok (.invokevirtual 156, 3) := by decide +kernel
theorem dX9_billAll_12 : decode cX9_billAll 12 = .ok (.imul, 1) := by decide +kernel
theorem dX9_billAll_13 : decode cX9_billAll 13 = .ok (.iadd, 1) := by decide +kernel
theorem dX9_billAll_14 : decode cX9_billAll 14 = .ok (.istore_n 1, 1) := by decide +kernel
theorem dX9_billAll_15 : decode cX9_billAll 15 = .ok (.iconst 0, 1) := by decide +kernel
theorem dX9_billAll_16 : decode cX9_billAll 16 = .ok (.istore_n 2, 1) := by decide +kernel
theorem dX9_billAll_17 : decode cX9_billAll 17 = .ok (.iload_n 2, 1) := by decide +kernel
theorem dX9_billAll_18 : decode cX9_billAll 18 = .ok (.aload_n 0, 1) := by decide +kernel
theorem dX9_billAll_19 : decode cX9_billAll 19 = .ok (.getfield 101, 3) := by decide +kernel
theorem dX9_billAll_22 : decode cX9_billAll 22 = .ok (.if_icmp .ge 26, 3) := by decide +kernel
theorem dX9_billAll_25 : decode cX9_billAll 25 = .ok (.iload_n 1, 1) := by decide +kernel
theorem dX9_billAll_26 : decode cX9_billAll 26 = .ok (.bipush 50, 2) := by decide +kernel
theorem dX9_billAll_28 : decode cX9_billAll 28 = .ok (.aload_n 0, 1) := by decide +kernel
theorem dX9_billAll_29 : decode cX9_billAll 29 = .ok (.getfield 104, 3) := by decide +kernel
theorem dX9_billAll_32 : decode cX9_billAll 32 = .ok (.aload_n 0, 1) := by decide +kernel
theorem dX9_billAll_33 : decode cX9_billAll 33 = .ok (.getfield 57, 3) := by decide +kernel
theorem dX9_billAll_36 : decode cX9_billAll 36 = .ok (.iload_n 2, 1) := by decide +kernel
theorem dX9_billAll_37 : decode cX9_billAll 37 = .ok (.iaload, 1) := by decide +kernel
theorem dX9_billAll_38 : decode cX9_billAll 38 = .ok (.isub, 1) := by decide +kernel
theorem dX9_billAll_39 : decode cX9_billAll 39 = .ok (.imul, 1) := by decide +kernel
theorem dX9_billAll_40 : decode cX9_billAll 40 = .ok (.iadd, 1) := by decide +kernel
theorem dX9_billAll_41 : decode cX9_billAll 41 = .ok (.istore_n 1, 1) := by decide +kernel
theorem dX9_billAll_42 : decode cX9_billAll 42 = .ok (.iinc 2 1, 3) := by decide +kernel
theorem dX9_billAll_45 : decode cX9_billAll 45 = .ok (.goto (-28), 3) := by decide +kernel
theorem dX9_billAll_48 : decode cX9_billAll 48 = .ok (.iload_n 1, 1) := by decide +kernel
theorem dX9_billAll_49 : decode cX9_billAll 49 = .ok (.ireturn, 1) := by decide +kernel
theorem dX9_bill_0 : decode cX9_bill 0 = .ok (.iload_n 1, 1) := by decide +kernel
theorem dX9_bill_1 : decode cX9_bill 1 = .ok (.iconst 0, 1) := by decide +kernel
theorem dX9_bill_2 : decode cX9_bill 2 = .ok (.iconst 3, 1) := by decide +kernel
theorem dX9_bill_3 : decode cX9_bill 3 = .ok (.invokestatic 93, 3) := by decide +kernel
theorem dX9_bill_6 : decode cX9_bill 6 = .ok (.ifCond .ne 5, 3) := by decide +kernel
theorem dX9_bill_9 : decode cX9_bill 9 = .ok (.iconst (-1), 1) := by decide +kernel
theorem dX9_bill_10 : decode cX9_bill 10 = .ok (.ireturn, 1) := by decide +kernel
theorem dX9_bill_11 : decode cX9_bill 11 = .ok (.iconst 0, 1) := by decide +kernel
theorem dX9_bill_12 : decode cX9_bill 12 = .ok (.istore_n 2, 1) := by decide +kernel
theorem dX9_bill_13 : decode cX9_bill 13 = .ok (.iconst 0, 1) := by decide +kernel
theorem dX9_bill_14 : decode cX9_bill 14 = .ok (.istore_n 3, 1) := by decide +kernel
theorem dX9_bill_15 : decode cX9_bill 15 = .ok (.iload_n 3, 1) := by decide +kernel
theorem dX9_bill_16 : decode cX9_bill 16 = .ok (.iconst 4, 1) := by decide +kernel
theorem dX9_bill_17 : decode cX9_bill 17 = .ok (.if_icmp .ge 18, 3) := by decide +kernel
theorem dX9_bill_20 : decode cX9_bill 20 = .ok (.iload_n 2, 1) := by decide +kernel
theorem dX9_bill_21 : decode cX9_bill 21 = .ok (.aload_n 0, 1) := by decide +kernel
theorem dX9_bill_22 : decode cX9_bill 22 = .ok (.getfield 72, 3) := by decide +kernel
theorem dX9_bill_25 : decode cX9_bill 25 = .ok (.iload_n 3, 1) := by decide +kernel
theorem dX9_bill_26 : decode cX9_bill 26 = .ok (.iaload, 1) := by decide +kernel
theorem dX9_bill_27 : decode cX9_bill 27 = .ok (.iadd, 1) := by decide +kernel
theorem dX9_bill_28 : decode cX9_bill 28 = .ok (.istore_n 2, 1) := by decide +kernel
theorem dX9_bill_29 : decode cX9_bill 29 = .ok (.iinc 3 1, 3) := by decide +kernel
theorem dX9_bill_32 : decode cX9_bill 32 = .ok (.goto (-17), 3) := by decide +kernel
theorem dX9_bill_35 : decode cX9_bill 35 = .ok (.iload_n 2, 1) := by decide +kernel
theorem dX9_bill_36 : decode cX9_bill 36 = .ok (.ifCond .ne 5, 3) := by decide +kernel
theorem dX9_bill_39 : decode cX9_bill 39 = .ok (.iconst 0, 1) := by decide +kernel
theorem dX9_bill_40 : decode cX9_bill 40 = .ok (.ireturn, 1) := by decide +kernel
theorem dX9_bill_41 : decode cX9_bill 41 = .ok (.aload_n 0, 1) := by decide +kernel
theorem dX9_bill_42 : decode cX9_bill 42 = .ok (.invokevirtual 186, 3) := by decide +kernel
theorem dX9_bill_45 : decode cX9_bill 45 = .ok (.istore_n 3, 1) := by decide +kernel
theorem dX9_bill_46 : decode cX9_bill 46 = .ok (.iload_n 3, 1) := by decide +kernel
theorem dX9_bill_47 : decode cX9_bill 47 = .ok (.i2l, 1) := by decide +kernel
theorem dX9_bill_48 : decode cX9_bill 48 = .ok (.lstore 4, 2) := by decide +kernel
theorem dX9_bill_50 : decode cX9_bill 50 = .ok (.iconst 0, 1) := by decide +kernel
theorem dX9_bill_51 : decode cX9_bill 51 = .ok (.istore 6, 2) := by decide +kernel
theorem dX9_bill_53 : decode cX9_bill 53 = .ok (.iload 6, 2) := by decide +kernel
theorem dX9_bill_55 : decode cX9_bill 55 = .ok (.iconst 4, 1) := by decide +kernel
theorem dX9_bill_56 : decode cX9_bill 56 = .ok (.if_icmp .ge 63, 3) := by decide +kernel
theorem dX9_bill_59 : decode cX9_bill 59 = .ok (.aload_n 0, 1) := by decide +kernel
theorem dX9_bill_60 : decode cX9_bill 60 = .ok (.getfield 90, 3) := by decide +kernel
theorem dX9_bill_63 : decode cX9_bill 63 = .ok (.iload 6, 2) := by decide +kernel
theorem dX9_bill_65 : decode cX9_bill 65 = .ok (.lload 4, 2) := by decide +kernel
theorem dX9_bill_67 : decode cX9_bill 67 = .ok (.aload_n 0, 1) := by decide +kernel
theorem dX9_bill_68 : decode cX9_bill 68 = .ok (.getfield 72, 3) := by decide +kernel
theorem dX9_bill_71 : decode cX9_bill 71 = .ok (.iload 6, 2) := by decide +kernel
theorem dX9_bill_73 : decode cX9_bill 73 = .ok (.iaload, 1) := by decide +kernel
theorem dX9_bill_74 : decode cX9_bill 74 = .ok (.i2l, 1) := by decide +kernel
theorem dX9_bill_75 : decode cX9_bill 75 = .ok (.lmul, 1) := by decide +kernel
theorem dX9_bill_76 : decode cX9_bill 76 = .ok (.iload_n 2, 1) := by decide +kernel
theorem dX9_bill_77 : decode cX9_bill 77 = .ok (.i2l, 1) := by decide +kernel
theorem dX9_bill_78 : decode cX9_bill 78 = .ok (.ldiv, 1) := by decide +kernel
theorem dX9_bill_79 : decode cX9_bill 79 = .ok (.l2i, 1) := by decide +kernel
theorem dX9_bill_80 : decode cX9_bill 80 = .ok (.iastore, 1) := by decide +kernel
theorem dX9_bill_81 : decode cX9_bill 81 = .ok (.aload_n 0, 1) := by decide +kernel
theorem dX9_bill_82 : decode cX9_bill 82 = .ok (.getfield 87, 3) := by decide +kernel
theorem dX9_bill_85 : decode cX9_bill 85 = .ok (.iload 6, 2) := by decide +kernel
theorem dX9_bill_87 : decode cX9_bill 87 = .ok (.lload 4, 2) := by decide +kernel
theorem dX9_bill_89 : decode cX9_bill 89 = .ok (.aload_n 0, 1) := by decide +kernel
theorem dX9_bill_90 : decode cX9_bill 90 = .ok (.getfield 72, 3) := by decide +kernel
theorem dX9_bill_93 : decode cX9_bill 93 = .ok (.iload 6, 2) := by decide +kernel
theorem dX9_bill_95 : decode cX9_bill 95 = .ok (.iaload, 1) := by decide +kernel
theorem dX9_bill_96 : decode cX9_bill 96 = .ok (.i2l, 1) := by decide +kernel
theorem dX9_bill_97 : decode cX9_bill 97 = .ok (.lmul, 1) := by decide +kernel
theorem dX9_bill_98 : decode cX9_bill 98 = .ok (.iload_n 2, 1) := by decide +kernel
theorem dX9_bill_99 : decode cX9_bill 99 = .ok (.i2l, 1) := by decide +kernel
theorem dX9_bill_100 : decode cX9_bill 100 = .ok (.lrem, 1) := by decide +kernel
theorem dX9_bill_101 : decode cX9_bill 101 = .ok (.l2i, 1) := by decide +kernel
theorem dX9_bill_102 : decode cX9_bill 102 = .ok (.iastore, 1) := by decide +kernel
theorem dX9_bill_103 : decode cX9_bill 103 = .ok (.iload_n 3, 1) := by decide +kernel
theorem dX9_bill_104 : decode cX9_bill 104 = .ok (.aload_n 0, 1) := by decide +kernel
theorem dX9_bill_105 : decode cX9_bill 105 = .ok (.getfield 90, 3) := by decide +kernel
theorem dX9_bill_108 : decode cX9_bill 108 = .ok (.iload 6, 2) := by decide +kernel
theorem dX9_bill_110 : decode cX9_bill 110 = .ok (.iaload, 1) := by decide +kernel
theorem dX9_bill_111 : decode cX9_bill 111 = .ok (.isub, 1) := by decide +kernel
theorem dX9_bill_112 : decode cX9_bill 112 = .ok (.istore_n 3, 1) := by decide +kernel
theorem dX9_bill_113 : decode cX9_bill 113 = .ok (.iinc 6 1, 3) := by decide +kernel
theorem dX9_bill_116 : decode cX9_bill 116 = .ok (.goto (-63), 3) := by decide +kernel
theorem dX9_bill_119 : decode cX9_bill 119 = .ok (.iload_n 3, 1) := by decide +kernel
theorem dX9_bill_120 : decode cX9_bill 120 = .ok (.ifCond .le 67, 3) := by decide +kernel
theorem dX9_bill_123 : decode cX9_bill 123 = .ok (.iconst 0, 1) := by decide +kernel
theorem dX9_bill_124 : decode cX9_bill 124 = .ok (.istore 6, 2) := by decide +kernel
theorem dX9_bill_126 : decode cX9_bill 126 = .ok (.iconst 1, 1) := by decide +kernel
theorem dX9_bill_127 : decode cX9_bill 127 = .ok (.istore 7, 2) := by decide +kernel
theorem dX9_bill_129 : decode cX9_bill 129 = .ok (.iload 7, 2) := by decide +kernel
theorem dX9_bill_131 : decode cX9_bill 131 = .ok (.iconst 4, 1) := by decide +kernel
theorem dX9_bill_132 : decode cX9_bill 132 = .ok (.if_icmp .ge 30, 3) := by decide +kernel
theorem dX9_bill_135 : decode cX9_bill 135 = .ok (.aload_n 0, 1) := by decide +kernel
theorem dX9_bill_136 : decode cX9_bill 136 = .ok (.getfield 87, 3) := by decide +kernel
theorem dX9_bill_139 : decode cX9_bill 139 = .ok (.iload 7, 2) := by decide +kernel
theorem dX9_bill_141 : decode cX9_bill 141 = .ok (.iaload, 1) := by decide +kernel
theorem dX9_bill_142 : decode cX9_bill 142 = .ok (.aload_n 0, 1) := by decide +kernel
theorem dX9_bill_143 : decode cX9_bill 143 = .ok (.getfield 87, 3) := by decide +kernel
theorem dX9_bill_146 : decode cX9_bill 146 = .ok (.iload 6, 2) := by decide +kernel
theorem dX9_bill_148 : decode cX9_bill 148 = .ok (.iaload, 1) := by decide +kernel
theorem dX9_bill_149 : decode cX9_bill 149 = .ok (.if_icmp .le 7, 3) := by decide +kernel
theorem dX9_bill_152 : decode cX9_bill 152 = .ok (.iload 7, 2) := by decide +kernel
theorem dX9_bill_154 : decode cX9_bill 154 = .ok (.istore 6, 2) := by decide +kernel
theorem dX9_bill_156 : decode cX9_bill 156 = .ok (.iinc 7 1, 3) := by decide +kernel
theorem dX9_bill_159 : decode cX9_bill 159 = .ok (.goto (-30), 3) := by decide +kernel
theorem dX9_bill_162 : decode cX9_bill 162 = .ok (.aload_n 0, 1) := by decide +kernel
theorem dX9_bill_163 : decode cX9_bill 163 = .ok (.getfield 90, 3) := by decide +kernel
theorem dX9_bill_166 : decode cX9_bill 166 = .ok (.iload 6, 2) := by decide +kernel
theorem dX9_bill_168 : decode cX9_bill 168 = .ok (.dup2, 1) := by decide +kernel
theorem dX9_bill_169 : decode cX9_bill 169 = .ok (.iaload, 1) := by decide +kernel
theorem dX9_bill_170 : decode cX9_bill 170 = .ok (.iconst 1, 1) := by decide +kernel
theorem dX9_bill_171 : decode cX9_bill 171 = .ok (.iadd, 1) := by decide +kernel
theorem dX9_bill_172 : decode cX9_bill 172 = .ok (.iastore, 1) := by decide +kernel
theorem dX9_bill_173 : decode cX9_bill 173 = .ok (.aload_n 0, 1) := by decide +kernel
theorem dX9_bill_174 : decode cX9_bill 174 = .ok (.getfield 87, 3) := by decide +kernel
theorem dX9_bill_177 : decode cX9_bill 177 = .ok (.iload 6, 2) := by decide +kernel
theorem dX9_bill_179 : decode cX9_bill 179 = .ok (.iconst (-1), 1) := by decide +kernel
theorem dX9_bill_180 : decode cX9_bill 180 = .ok (.iastore, 1) := by decide +kernel
theorem dX9_bill_181 : decode cX9_bill 181 = .ok (.iinc 3 (-1), 3) := by decide +kernel
theorem dX9_bill_184 : decode cX9_bill 184 = .ok (.goto (-65), 3) := by decide +kernel
theorem dX9_bill_187 : decode cX9_bill 187 = .ok (.aload_n 0, 1) := by decide +kernel
theorem dX9_bill_188 : decode cX9_bill 188 = .ok (.getfield 90, 3) := by decide +kernel
theorem dX9_bill_191 : decode cX9_bill 191 = .ok (.iload_n 1, 1) := by decide +kernel
theorem dX9_bill_192 : decode cX9_bill 192 = .ok (.iaload, 1) := by decide +kernel
theorem dX9_bill_193 : decode cX9_bill 193 = .ok (.ireturn, 1) := by decide +kernel
theorem dX9_oil_0 : decode cX9_oil 0 = .ok (.iload_n 1, 1) := by decide +kernel
theorem dX9_oil_1 : decode cX9_oil 1 = .ok (.invokestatic 97, 3) := by decide +kernel
theorem dX9_oil_4 : decode cX9_oil 4 = .ok (.ifCond .eq 12, 3) := by decide +kernel
theorem dX9_oil_7 : decode cX9_oil 7 = .ok (.aload_n 0, 1) := by decide +kernel
theorem dX9_oil_8 : decode cX9_oil 8 = .ok (.getfield 13, 3) := by decide +kernel
theorem dX9_oil_11 : decode cX9_oil 11 = .ok (.iload_n 1, 1) := by decide +kernel
theorem dX9_oil_12 : decode cX9_oil 12 = .ok (.iaload, 1) := by decide +kernel
theorem dX9_oil_13 : decode cX9_oil 13 = .ok (.goto 4, 3) := by decide +kernel
theorem dX9_oil_16 : decode cX9_oil 16 = .ok (.iconst (-1), 1) := by decide +kernel
theorem dX9_oil_17 : decode cX9_oil 17 = .ok (.ireturn, 1) := by decide +kernel
theorem dX9_told_0 : decode cX9_told 0 = .ok (.aload_n 0, 1) := by decide +kernel
theorem dX9_told_1 : decode cX9_told 1 = .ok (.iload_n 1, 1) := by decide +kernel
theorem dX9_told_2 : decode cX9_told 2 = .ok (.invokevirtual 132, 3) := by decide +kernel
theorem dX9_told_5 : decode cX9_told 5 = .ok (.ifCond .ne 5, 3) := by decide +kernel
theorem dX9_told_8 : decode cX9_told 8 = .ok (.iconst (-1), 1) := by decide +kernel
theorem dX9_told_9 : decode cX9_told 9 = .ok (.ireturn, 1) := by decide +kernel
theorem dX9_told_10 : decode cX9_told 10 = .ok (.iload_n 2, 1) := by decide +kernel
theorem dX9_told_11 : decode cX9_told 11 = .ok (.tableswitch 65 0 3 #[29, 36, 43, 50], 29) := by decide +kernel
theorem dX9_told_40 : decode cX9_told 40 = .ok (.aload_n 0, 1) := by decide +kernel
theorem dX9_told_41 : decode cX9_told 41 = .ok (.getfield 39, 3) := by decide +kernel
theorem dX9_told_44 : decode cX9_told 44 = .ok (.iload_n 1, 1) := by decide +kernel
theorem dX9_told_45 : decode cX9_told 45 = .ok (.iaload, 1) := by decide +kernel
theorem dX9_told_46 : decode cX9_told 46 = .ok (.ireturn, 1) := by decide +kernel
theorem dX9_told_47 : decode cX9_told 47 = .ok (.aload_n 0, 1) := by decide +kernel
theorem dX9_told_48 : decode cX9_told 48 = .ok (.getfield 51, 3) := by decide +kernel
theorem dX9_told_51 : decode cX9_told 51 = .ok (.iload_n 1, 1) := by decide +kernel
theorem dX9_told_52 : decode cX9_told 52 = .ok (.iaload, 1) := by decide +kernel
theorem dX9_told_53 : decode cX9_told 53 = .ok (.ireturn, 1) := by decide +kernel
theorem dX9_told_54 : decode cX9_told 54 = .ok (.aload_n 0, 1) := by decide +kernel
theorem dX9_told_55 : decode cX9_told 55 = .ok (.getfield 54, 3) := by decide +kernel
theorem dX9_told_58 : decode cX9_told 58 = .ok (.iload_n 1, 1) := by decide +kernel
theorem dX9_told_59 : decode cX9_told 59 = .ok (.iaload, 1) := by decide +kernel
theorem dX9_told_60 : decode cX9_told 60 = .ok (.ireturn, 1) := by decide +kernel
theorem dX9_told_61 : decode cX9_told 61 = .ok (.aload_n 0, 1) := by decide +kernel
theorem dX9_told_62 : decode cX9_told 62 = .ok (.getfield 60, 3) := by decide +kernel
theorem dX9_told_65 : decode cX9_told 65 = .ok (.iload_n 1, 1) := by decide +kernel
theorem dX9_told_66 : decode cX9_told 66 = .ok (.baload, 1) := by decide +kernel
theorem dX9_told_67 : decode cX9_told 67 = .ok (.ifCond .eq 7, 3) := by decide +kernel
theorem dX9_told_70 : decode cX9_told 70 = .ok (.iconst 1, 1) := by decide +kernel
theorem dX9_told_71 : decode cX9_told 71 = .ok (.goto 4, 3) := by decide +kernel
theorem dX9_told_74 : decode cX9_told 74 = .ok (.iconst 0, 1) := by decide +kernel
theorem dX9_told_75 : decode cX9_told 75 = .ok (.ireturn, 1) := by decide +kernel
theorem dX9_told_76 : decode cX9_told 76 = .ok (.iconst (-1), 1) := by decide +kernel
theorem dX9_told_77 : decode cX9_told 77 = .ok (.ireturn, 1) := by decide +kernel
theorem dX9_count_0 : decode cX9_count 0 = .ok (.iconst 0, 1) := by decide +kernel
theorem dX9_count_1 : decode cX9_count 1 = .ok (.istore_n 2, 1) := by decide +kernel
theorem dX9_count_2 : decode cX9_count 2 = .ok (.iload_n 1, 1) := by decide +kernel
theorem dX9_count_3 : decode cX9_count 3 = .ok (.tableswitch 206 0 10 #[57, 62, 67, 105, 110, 148, 153, 158, 163, 168, 201], 57) := by decide +kernel
theorem dX9_count_60 : decode cX9_count 60 = .ok (.aload_n 0, 1) := by decide +kernel
theorem dX9_count_61 : decode cX9_count 61 = .ok (.getfield 104, 3) := by decide +kernel
theorem dX9_count_64 : decode cX9_count 64 = .ok (.ireturn, 1) := by decide +kernel
theorem dX9_count_65 : decode cX9_count 65 = .ok (.aload_n 0, 1) := by decide +kernel
theorem dX9_count_66 : decode cX9_count 66 = .ok (.getfield 122, 3) := by decide +kernel
theorem dX9_count_69 : decode cX9_count 69 = .ok (.ireturn, 1) := by decide +kernel
theorem dX9_count_70 : decode cX9_count 70 = .ok (.iconst 0, 1) := by decide +kernel
theorem dX9_count_71 : decode cX9_count 71 = .ok (.istore_n 3, 1) := by decide +kernel
theorem dX9_count_72 : decode cX9_count 72 = .ok (.iload_n 3, 1) := by decide +kernel
theorem dX9_count_73 : decode cX9_count 73 = .ok (.bipush 96, 2) := by decide +kernel
theorem dX9_count_75 : decode cX9_count 75 = .ok (.if_icmp .ge 31, 3) := by decide +kernel
theorem dX9_count_78 : decode cX9_count 78 = .ok (.iload_n 2, 1) := by decide +kernel
theorem dX9_count_79 : decode cX9_count 79 = .ok (.aload_n 0, 1) := by decide +kernel
theorem dX9_count_80 : decode cX9_count 80 = .ok (.getfield 9, 3) := by decide +kernel
theorem dX9_count_83 : decode cX9_count 83 = .ok (.iload_n 3, 1) := by decide +kernel
theorem dX9_count_84 : decode cX9_count 84 = .ok (.iaload, 1) := by decide +kernel
theorem dX9_count_85 : decode cX9_count 85 = .ok (.ifCond .ne 12, 3) := by decide +kernel
theorem dX9_count_88 : decode cX9_count 88 = .ok (.aload_n 0, 1) := by decide +kernel
theorem dX9_count_89 : decode cX9_count 89 = .ok (.getfield 13, 3) := by decide +kernel
theorem dX9_count_92 : decode cX9_count 92 = .ok (.iload_n 3, 1) := by decide +kernel
theorem dX9_count_93 : decode cX9_count 93 = .ok (.iaload, 1) := by decide +kernel
theorem dX9_count_94 : decode cX9_count 94 = .ok (.goto 4, 3) := by decide +kernel
theorem dX9_count_97 : decode cX9_count 97 = .ok (.iconst 0, 1) := by decide +kernel
theorem dX9_count_98 : decode cX9_count 98 = .ok (.iadd, 1) := by decide +kernel
theorem dX9_count_99 : decode cX9_count 99 = .ok (.istore_n 2, 1) := by decide +kernel
theorem dX9_count_100 : decode cX9_count 100 = .ok (.iinc 3 1, 3) := by decide +kernel
theorem dX9_count_103 : decode cX9_count 103 = .ok (.goto (-31), 3) := by decide +kernel
theorem dX9_count_106 : decode cX9_count 106 = .ok (.iload_n 2, 1) := by decide +kernel
theorem dX9_count_107 : decode cX9_count 107 = .ok (.ireturn, 1) := by decide +kernel
theorem dX9_count_108 : decode cX9_count 108 = .ok (.aload_n 0, 1) := by decide +kernel
theorem dX9_count_109 : decode cX9_count 109 = .ok (.getfield 143, 3) := by decide +kernel
theorem dX9_count_112 : decode cX9_count 112 = .ok (.ireturn, 1) := by decide +kernel
theorem dX9_count_113 : decode cX9_count 113 = .ok (.iconst 0, 1) := by decide +kernel
theorem dX9_count_114 : decode cX9_count 114 = .ok (.istore_n 3, 1) := by decide +kernel
theorem dX9_count_115 : decode cX9_count 115 = .ok (.iload_n 3, 1) := by decide +kernel
theorem dX9_count_116 : decode cX9_count 116 = .ok (.bipush 96, 2) := by decide +kernel
theorem dX9_count_118 : decode cX9_count 118 = .ok (.if_icmp .ge 31, 3) := by decide +kernel
theorem dX9_count_121 : decode cX9_count 121 = .ok (.iload_n 2, 1) := by decide +kernel
theorem dX9_count_122 : decode cX9_count 122 = .ok (.aload_n 0, 1) := by decide +kernel
theorem dX9_count_123 : decode cX9_count 123 = .ok (.getfield 9, 3) := by decide +kernel
theorem dX9_count_126 : decode cX9_count 126 = .ok (.iload_n 3, 1) := by decide +kernel
theorem dX9_count_127 : decode cX9_count 127 = .ok (.iaload, 1) := by decide +kernel
theorem dX9_count_128 : decode cX9_count 128 = .ok (.ifCond .le 12, 3) := by decide +kernel
theorem dX9_count_131 : decode cX9_count 131 = .ok (.aload_n 0, 1) := by decide +kernel
theorem dX9_count_132 : decode cX9_count 132 = .ok (.getfield 13, 3) := by decide +kernel
theorem dX9_count_135 : decode cX9_count 135 = .ok (.iload_n 3, 1) := by decide +kernel
theorem dX9_count_136 : decode cX9_count 136 = .ok (.iaload, 1) := by decide +kernel
theorem dX9_count_137 : decode cX9_count 137 = .ok (.goto 4, 3) := by decide +kernel
theorem dX9_count_140 : decode cX9_count 140 = .ok (.iconst 0, 1) := by decide +kernel
theorem dX9_count_141 : decode cX9_count 141 = .ok (.iadd, 1) := by decide +kernel
theorem dX9_count_142 : decode cX9_count 142 = .ok (.istore_n 2, 1) := by decide +kernel
theorem dX9_count_143 : decode cX9_count 143 = .ok (.iinc 3 1, 3) := by decide +kernel
theorem dX9_count_146 : decode cX9_count 146 = .ok (.goto (-31), 3) := by decide +kernel
theorem dX9_count_149 : decode cX9_count 149 = .ok (.iload_n 2, 1) := by decide +kernel
theorem dX9_count_150 : decode cX9_count 150 = .ok (.ireturn, 1) := by decide +kernel
theorem dX9_count_151 : decode cX9_count 151 = .ok (.aload_n 0, 1) := by decide +kernel
theorem dX9_count_152 : decode cX9_count 152 = .ok (.getfield 138, 3) := by decide +kernel
theorem dX9_count_155 : decode cX9_count 155 = .ok (.ireturn, 1) := by decide +kernel
theorem dX9_count_156 : decode cX9_count 156 = .ok (.aload_n 0, 1) := by decide +kernel
theorem dX9_count_157 : decode cX9_count 157 = .ok (.getfield 146, 3) := by decide +kernel
theorem dX9_count_160 : decode cX9_count 160 = .ok (.ireturn, 1) := by decide +kernel
theorem dX9_count_161 : decode cX9_count 161 = .ok (.aload_n 0, 1) := by decide +kernel
theorem dX9_count_162 : decode cX9_count 162 = .ok (.invokevirtual 156, 3) := by decide +kernel
theorem dX9_count_165 : decode cX9_count 165 = .ok (.ireturn, 1) := by decide +kernel
theorem dX9_count_166 : decode cX9_count 166 = .ok (.aload_n 0, 1) := by decide +kernel
theorem dX9_count_167 : decode cX9_count 167 = .ok (.invokevirtual 186, 3) := by decide +kernel
theorem dX9_count_170 : decode cX9_count 170 = .ok (.ireturn, 1) := by decide +kernel
theorem dX9_count_171 : decode cX9_count 171 = .ok (.iconst 0, 1) := by decide +kernel
theorem dX9_count_172 : decode cX9_count 172 = .ok (.istore_n 3, 1) := by decide +kernel
theorem dX9_count_173 : decode cX9_count 173 = .ok (.iload_n 3, 1) := by decide +kernel
theorem dX9_count_174 : decode cX9_count 174 = .ok (.bipush 20, 2) := by decide +kernel
theorem dX9_count_176 : decode cX9_count 176 = .ok (.if_icmp .ge 26, 3) := by decide +kernel
theorem dX9_count_179 : decode cX9_count 179 = .ok (.iload_n 2, 1) := by decide +kernel
theorem dX9_count_180 : decode cX9_count 180 = .ok (.aload_n 0, 1) := by decide +kernel
theorem dX9_count_181 : decode cX9_count 181 = .ok (.getfield 22, 3) := by decide +kernel
theorem dX9_count_184 : decode cX9_count 184 = .ok (.iload_n 3, 1) := by decide +kernel
theorem dX9_count_185 : decode cX9_count 185 = .ok (.baload, 1) := by decide +kernel
theorem dX9_count_186 : decode cX9_count 186 = .ok (.ifCond .eq 7, 3) := by decide +kernel
theorem dX9_count_189 : decode cX9_count 189 = .ok (.iconst 1, 1) := by decide +kernel
theorem dX9_count_190 : decode cX9_count 190 = .ok (.goto 4, 3) := by decide +kernel
theorem dX9_count_193 : decode cX9_count 193 = .ok (.iconst 0, 1) := by decide +kernel
theorem dX9_count_194 : decode cX9_count 194 = .ok (.iadd, 1) := by decide +kernel
theorem dX9_count_195 : decode cX9_count 195 = .ok (.istore_n 2, 1) := by decide +kernel
theorem dX9_count_196 : decode cX9_count 196 = .ok (.iinc 3 1, 3) := by decide +kernel
theorem dX9_count_199 : decode cX9_count 199 = .ok (.goto (-26), 3) := by decide +kernel
theorem dX9_count_202 : decode cX9_count 202 = .ok (.iload_n 2, 1) := by decide +kernel
theorem dX9_count_203 : decode cX9_count 203 = .ok (.ireturn, 1) := by decide +kernel
theorem dX9_count_204 : decode cX9_count 204 = .ok (.aload_n 0, 1) := by decide +kernel
theorem dX9_count_205 : decode cX9_count 205 = .ok (.getfield 107, 3) := by decide +kernel
theorem dX9_count_208 : decode cX9_count 208 = .ok (.ireturn, 1) := by decide +kernel
theorem dX9_count_209 : decode cX9_count 209 = .ok (.iconst (-1), 1) := by decide +kernel
theorem dX9_count_210 : decode cX9_count 210 = .ok (.ireturn, 1) := by decide +kernel
end
section
theorem dL_law_0 : decode cL_law 0 = .ok (.new 7, 3) := by decide +kernel
theorem dL_law_3 : decode cL_law 3 = .ok (.dup, 1) := by decide +kernel
theorem dL_law_4 : decode cL_law 4 = .ok (.invokespecial 9, 3) := by decide +kernel
theorem dL_law_7 : decode cL_law 7 = .ok (.astore_n 1, 1) := by decide +kernel
theorem dL_law_8 : decode cL_law 8 = .ok (.new 10, 3) := by decide +kernel
theorem dL_law_11 : decode cL_law 11 = .ok (.dup, 1) := by decide +kernel
theorem dL_law_12 : decode cL_law 12 = .ok (.invokespecial 12, 3) := by decide +kernel
theorem dL_law_15 : decode cL_law 15 = .ok (.astore_n 2, 1) := by decide +kernel
theorem dL_law_16 : decode cL_law 16 = .ok (.iconst 0, 1) := by decide +kernel
theorem dL_law_17 : decode cL_law 17 = .ok (.istore_n 3, 1) := by decide +kernel
theorem dL_law_18 : decode cL_law 18 = .ok (.iload_n 3, 1) := by decide +kernel
theorem dL_law_19 : decode cL_law 19 = .ok (.aload_n 0, 1) := by decide +kernel
theorem dL_law_20 : decode cL_law 20 = .ok (.arraylength, 1) := by decide +kernel
theorem dL_law_21 : decode cL_law 21 = .ok (.iconst 5, 1) := by decide +kernel
theorem dL_law_22 : decode cL_law 22 = .ok (.isub, 1) := by decide +kernel
theorem dL_law_23 : decode cL_law 23 = .ok (.if_icmp .gt 771, 3) := by decide +kernel
theorem dL_law_26 : decode cL_law 26 = .ok (.aload_n 0, 1) := by decide +kernel
theorem dL_law_27 : decode cL_law 27 = .ok (.iload_n 3, 1) := by decide +kernel
theorem dL_law_28 : decode cL_law 28 = .ok (.iaload, 1) := by decide +kernel
theorem dL_law_29 : decode cL_law 29 = .ok (.bipush 31, 2) := by decide +kernel
theorem dL_law_31 : decode cL_law 31 = .ok (.iand, 1) := by decide +kernel
theorem dL_law_32 : decode cL_law 32 = .ok (.tableswitch 756 0 19 #[96, 129, 182, 225, 248, 281, 334, 367, 390, 413, 436, 469, 492, 535, 578, 611, 644, 677, 700, 733], 96) := by decide +kernel
theorem dL_law_128 : decode cL_law 128 = .ok (.aload_n 1, 1) := by decide +kernel
theorem dL_law_129 : decode cL_law 129 = .ok (.aload_n 0, 1) := by decide +kernel
theorem dL_law_130 : decode cL_law 130 = .ok (.iload_n 3, 1) := by decide +kernel
theorem dL_law_131 : decode cL_law 131 = .ok (.iconst 1, 1) := by decide +kernel
theorem dL_law_132 : decode cL_law 132 = .ok (.iadd, 1) := by decide +kernel
theorem dL_law_133 : decode cL_law 133 = .ok (.iaload, 1) := by decide +kernel
theorem dL_law_134 : decode cL_law 134 = .ok (.aload_n 0, 1) := by decide +kernel
theorem dL_law_135 : decode cL_law 135 = .ok (.iload_n 3, 1) := by decide +kernel
theorem dL_law_136 : decode cL_law 136 = .ok (.iconst 2, 1) := by decide +kernel
theorem dL_law_137 : decode cL_law 137 = .ok (.iadd, 1) := by decide +kernel
theorem dL_law_138 : decode cL_law 138 = .ok (.iaload, 1) := by decide +kernel
theorem dL_law_139 : decode cL_law 139 = .ok (.invokevirtual 13, 3) := by decide +kernel
theorem dL_law_142 : decode cL_law 142 = .ok (.aload_n 2, 1) := by decide +kernel
theorem dL_law_143 : decode cL_law 143 = .ok (.aload_n 0, 1) := by decide +kernel
theorem dL_law_144 : decode cL_law 144 = .ok (.iload_n 3, 1) := by decide +kernel
theorem dL_law_145 : decode cL_law 145 = .ok (.iconst 1, 1) := by decide +kernel
theorem dL_law_146 : decode cL_law 146 = .ok (.iadd, 1) := by decide +kernel
theorem dL_law_147 : decode cL_law 147 = .ok (.iaload, 1) := by decide +kernel
theorem dL_law_148 : decode cL_law 148 = .ok (.aload_n 0, 1) := by decide +kernel
theorem dL_law_149 : decode cL_law 149 = .ok (.iload_n 3, 1) := by decide +kernel
theorem dL_law_150 : decode cL_law 150 = .ok (.iconst 2, 1) := by decide +kernel
theorem dL_law_151 : decode cL_law 151 = .ok (.iadd, 1) := by decide +kernel
theorem dL_law_152 : decode cL_law 152 = .ok (.iaload, 1) := by decide +kernel
theorem dL_law_153 : decode cL_law 153 = .ok (.invokevirtual 17, 3) := by decide +kernel
theorem dL_law_156 : decode cL_law 156 = .ok (.if_icmp .eq 632, 3) := by decide +kernel
theorem dL_law_159 : decode cL_law 159 = .ok (.iconst 0, 1) := by decide +kernel
theorem dL_law_160 : decode cL_law 160 = .ok (.ireturn, 1) := by decide +kernel
theorem dL_law_161 : decode cL_law 161 = .ok (.aload_n 1, 1) := by decide +kernel
theorem dL_law_162 : decode cL_law 162 = .ok (.aload_n 0, 1) := by decide +kernel
theorem dL_law_163 : decode cL_law 163 = .ok (.iload_n 3, 1) := by decide +kernel
theorem dL_law_164 : decode cL_law 164 = .ok (.iconst 1, 1) := by decide +kernel
theorem dL_law_165 : decode cL_law 165 = .ok (.iadd, 1) := by decide +kernel
theorem dL_law_166 : decode cL_law 166 = .ok (.iaload, 1) := by decide +kernel
theorem dL_law_167 : decode cL_law 167 = .ok (.aload_n 0, 1) := by decide +kernel
theorem dL_law_168 : decode cL_law 168 = .ok (.iload_n 3, 1) := by decide +kernel
theorem dL_law_169 : decode cL_law 169 = .ok (.iconst 2, 1) := by decide +kernel
theorem dL_law_170 : decode cL_law 170 = .ok (.iadd, 1) := by decide +kernel
theorem dL_law_171 : decode cL_law 171 = .ok (.iaload, 1) := by decide +kernel
theorem dL_law_172 : decode cL_law 172 = .ok (.aload_n 0, 1) := by decide +kernel
theorem dL_law_173 : decode cL_law 173 = .ok (.iload_n 3, 1) := by decide +kernel
theorem dL_law_174 : decode cL_law 174 = .ok (.iconst 3, 1) := by decide +kernel
theorem dL_law_175 : decode cL_law 175 = .ok (.iadd, 1) := by decide +kernel
theorem dL_law_176 : decode cL_law 176 = .ok (.iaload, 1) := by decide +kernel
theorem dL_law_177 : decode cL_law 177 = .ok (.aload_n 0, 1) := by decide +kernel
theorem dL_law_178 : decode cL_law 178 = .ok (.iload_n 3, 1) := by decide +kernel
theorem dL_law_179 : decode cL_law 179 = .ok (.iconst 4, 1) := by decide +kernel
theorem dL_law_180 : decode cL_law 180 = .ok (.iadd, 1) := by decide +kernel
theorem dL_law_181 : decode cL_law 181 = .ok (.iaload, 1) := by decide +kernel
theorem dL_law_182 : decode cL_law 182 = .ok (.invokevirtual 18, 3) := by decide +kernel
theorem dL_law_185 : decode cL_law 185 = .ok (.aload_n 2, 1) := by decide +kernel
theorem dL_law_186 : decode cL_law 186 = .ok (.aload_n 0, 1) := by decide +kernel
theorem dL_law_187 : decode cL_law 187 = .ok (.iload_n 3, 1) := by decide +kernel
theorem dL_law_188 : decode cL_law 188 = .ok (.iconst 1, 1) := by decide +kernel
theorem dL_law_189 : decode cL_law 189 = .ok (.iadd, 1) := by decide +kernel
theorem dL_law_190 : decode cL_law 190 = .ok (.iaload, 1) := by decide +kernel
theorem dL_law_191 : decode cL_law 191 = .ok (.aload_n 0, 1) := by decide +kernel
theorem dL_law_192 : decode cL_law 192 = .ok (.iload_n 3, 1) := by decide +kernel
theorem dL_law_193 : decode cL_law 193 = .ok (.iconst 2, 1) := by decide +kernel
theorem dL_law_194 : decode cL_law 194 = .ok (.iadd, 1) := by decide +kernel
theorem dL_law_195 : decode cL_law 195 = .ok (.iaload, 1) := by decide +kernel
theorem dL_law_196 : decode cL_law 196 = .ok (.aload_n 0, 1) := by decide +kernel
theorem dL_law_197 : decode cL_law 197 = .ok (.iload_n 3, 1) := by decide +kernel
theorem dL_law_198 : decode cL_law 198 = .ok (.iconst 3, 1) := by decide +kernel
theorem dL_law_199 : decode cL_law 199 = .ok (.iadd, 1) := by decide +kernel
theorem dL_law_200 : decode cL_law 200 = .ok (.iaload, 1) := by decide +kernel
theorem dL_law_201 : decode cL_law 201 = .ok (.aload_n 0, 1) := by decide +kernel
theorem dL_law_202 : decode cL_law 202 = .ok (.iload_n 3, 1) := by decide +kernel
theorem dL_law_203 : decode cL_law 203 = .ok (.iconst 4, 1) := by decide +kernel
theorem dL_law_204 : decode cL_law 204 = .ok (.iadd, 1) := by decide +kernel
theorem dL_law_205 : decode cL_law 205 = .ok (.iaload, 1) := by decide +kernel
theorem dL_law_206 : decode cL_law 206 = .ok (.invokevirtual 22, 3) := by decide +kernel
theorem dL_law_209 : decode cL_law 209 = .ok (.if_icmp .eq 579, 3) := by decide +kernel
theorem dL_law_212 : decode cL_law 212 = .ok (.iconst 0, 1) := by decide +kernel
theorem dL_law_213 : decode cL_law 213 = .ok (.ireturn, 1) := by decide +kernel
theorem dL_law_214 : decode cL_law 214 = .ok (.aload_n 1, 1) := by decide +kernel
theorem dL_law_215 : decode cL_law 215 = .ok (.aload_n 0, 1) := by decide +kernel
theorem dL_law_216 : decode cL_law 216 = .ok (.iload_n 3, 1) := by decide +kernel
theorem dL_law_217 : decode cL_law 217 = .ok (.iconst 1, 1) := by decide +kernel
theorem dL_law_218 : decode cL_law 218 = .ok (.iadd, 1) := by decide +kernel
theorem dL_law_219 : decode cL_law 219 = .ok (.iaload, 1) := by decide +kernel
theorem dL_law_220 : decode cL_law 220 = .ok (.aload_n 0, 1) := by decide +kernel
theorem dL_law_221 : decode cL_law 221 = .ok (.iload_n 3, 1) := by decide +kernel
theorem dL_law_222 : decode cL_law 222 = .ok (.iconst 2, 1) := by decide +kernel
theorem dL_law_223 : decode cL_law 223 = .ok (.iadd, 1) := by decide +kernel
theorem dL_law_224 : decode cL_law 224 = .ok (.iaload, 1) := by decide +kernel
theorem dL_law_225 : decode cL_law 225 = .ok (.aload_n 0, 1) := by decide +kernel
theorem dL_law_226 : decode cL_law 226 = .ok (.iload_n 3, 1) := by decide +kernel
theorem dL_law_227 : decode cL_law 227 = .ok (.iconst 3, 1) := by decide +kernel
theorem dL_law_228 : decode cL_law 228 = .ok (.iadd, 1) := by decide +kernel
theorem dL_law_229 : decode cL_law 229 = .ok (.iaload, 1) := by decide +kernel
theorem dL_law_230 : decode cL_law 230 = .ok (.invokevirtual 23, 3) := by decide +kernel
theorem dL_law_233 : decode cL_law 233 = .ok (.aload_n 2, 1) := by decide +kernel
theorem dL_law_234 : decode cL_law 234 = .ok (.aload_n 0, 1) := by decide +kernel
theorem dL_law_235 : decode cL_law 235 = .ok (.iload_n 3, 1) := by decide +kernel
theorem dL_law_236 : decode cL_law 236 = .ok (.iconst 1, 1) := by decide +kernel
theorem dL_law_237 : decode cL_law 237 = .ok (.iadd, 1) := by decide +kernel
theorem dL_law_238 : decode cL_law 238 = .ok (.iaload, 1) := by decide +kernel
theorem dL_law_239 : decode cL_law 239 = .ok (.aload_n 0, 1) := by decide +kernel
theorem dL_law_240 : decode cL_law 240 = .ok (.iload_n 3, 1) := by decide +kernel
theorem dL_law_241 : decode cL_law 241 = .ok (.iconst 2, 1) := by decide +kernel
theorem dL_law_242 : decode cL_law 242 = .ok (.iadd, 1) := by decide +kernel
theorem dL_law_243 : decode cL_law 243 = .ok (.iaload, 1) := by decide +kernel
theorem dL_law_244 : decode cL_law 244 = .ok (.aload_n 0, 1) := by decide +kernel
theorem dL_law_245 : decode cL_law 245 = .ok (.iload_n 3, 1) := by decide +kernel
theorem dL_law_246 : decode cL_law 246 = .ok (.iconst 3, 1) := by decide +kernel
theorem dL_law_247 : decode cL_law 247 = .ok (.iadd, 1) := by decide +kernel
theorem dL_law_248 : decode cL_law 248 = .ok (.iaload, 1) := by decide +kernel
theorem dL_law_249 : decode cL_law 249 = .ok (.invokevirtual 27, 3) := by decide +kernel
theorem dL_law_252 : decode cL_law 252 = .ok (.if_icmp .eq 536, 3) := by decide +kernel
theorem dL_law_255 : decode cL_law 255 = .ok (.iconst 0, 1) := by decide +kernel
theorem dL_law_256 : decode cL_law 256 = .ok (.ireturn, 1) := by decide +kernel
theorem dL_law_257 : decode cL_law 257 = .ok (.aload_n 1, 1) := by decide +kernel
theorem dL_law_258 : decode cL_law 258 = .ok (.aload_n 0, 1) := by decide +kernel
theorem dL_law_259 : decode cL_law 259 = .ok (.iload_n 3, 1) := by decide +kernel
theorem dL_law_260 : decode cL_law 260 = .ok (.iconst 1, 1) := by decide +kernel
theorem dL_law_261 : decode cL_law 261 = .ok (.iadd, 1) := by decide +kernel
theorem dL_law_262 : decode cL_law 262 = .ok (.iaload, 1) := by decide +kernel
theorem dL_law_263 : decode cL_law 263 = .ok (.invokevirtual 28, 3) := by decide +kernel
theorem dL_law_266 : decode cL_law 266 = .ok (.aload_n 2, 1) := by decide +kernel
theorem dL_law_267 : decode cL_law 267 = .ok (.aload_n 0, 1) := by decide +kernel
theorem dL_law_268 : decode cL_law 268 = .ok (.iload_n 3, 1) := by decide +kernel
theorem dL_law_269 : decode cL_law 269 = .ok (.iconst 1, 1) := by decide +kernel
theorem dL_law_270 : decode cL_law 270 = .ok (.iadd, 1) := by decide +kernel
theorem dL_law_271 : decode cL_law 271 = .ok (.iaload, 1) := by decide +kernel
theorem dL_law_272 : decode cL_law 272 = .ok (.invokevirtual 32, 3) := by decide +kernel
theorem dL_law_275 : decode cL_law 275 = .ok (.if_icmp .eq 513, 3) := by decide +kernel
theorem dL_law_278 : decode cL_law 278 = .ok (.iconst 0, 1) := by decide +kernel
theorem dL_law_279 : decode cL_law 279 = .ok (.ireturn, 1) := by decide +kernel
theorem dL_law_280 : decode cL_law 280 = .ok (.aload_n 1, 1) := by decide +kernel
theorem dL_law_281 : decode cL_law 281 = .ok (.aload_n 0, 1) := by decide +kernel
theorem dL_law_282 : decode cL_law 282 = .ok (.iload_n 3, 1) := by decide +kernel
theorem dL_law_283 : decode cL_law 283 = .ok (.iconst 1, 1) := by decide +kernel
theorem dL_law_284 : decode cL_law 284 = .ok (.iadd, 1) := by decide +kernel
theorem dL_law_285 : decode cL_law 285 = .ok (.iaload, 1) := by decide +kernel
theorem dL_law_286 : decode cL_law 286 = .ok (.aload_n 0, 1) := by decide +kernel
theorem dL_law_287 : decode cL_law 287 = .ok (.iload_n 3, 1) := by decide +kernel
theorem dL_law_288 : decode cL_law 288 = .ok (.iconst 2, 1) := by decide +kernel
theorem dL_law_289 : decode cL_law 289 = .ok (.iadd, 1) := by decide +kernel
theorem dL_law_290 : decode cL_law 290 = .ok (.iaload, 1) := by decide +kernel
theorem dL_law_291 : decode cL_law 291 = .ok (.invokevirtual 33, 3) := by decide +kernel
theorem dL_law_294 : decode cL_law 294 = .ok (.aload_n 2, 1) := by decide +kernel
theorem dL_law_295 : decode cL_law 295 = .ok (.aload_n 0, 1) := by decide +kernel
theorem dL_law_296 : decode cL_law 296 = .ok (.iload_n 3, 1) := by decide +kernel
theorem dL_law_297 : decode cL_law 297 = .ok (.iconst 1, 1) := by decide +kernel
theorem dL_law_298 : decode cL_law 298 = .ok (.iadd, 1) := by decide +kernel
theorem dL_law_299 : decode cL_law 299 = .ok (.iaload, 1) := by decide +kernel
theorem dL_law_300 : decode cL_law 300 = .ok (.aload_n 0, 1) := by decide +kernel
theorem dL_law_301 : decode cL_law 301 = .ok (.iload_n 3, 1) := by decide +kernel
theorem dL_law_302 : decode cL_law 302 = .ok (.iconst 2, 1) := by decide +kernel
theorem dL_law_303 : decode cL_law 303 = .ok (.iadd, 1) := by decide +kernel
theorem dL_law_304 : decode cL_law 304 = .ok (.iaload, 1) := by decide +kernel
theorem dL_law_305 : decode cL_law 305 = .ok (.invokevirtual 37, 3) := by decide +kernel
theorem dL_law_308 : decode cL_law 308 = .ok (.if_icmp .eq 480, 3) := by decide +kernel
theorem dL_law_311 : decode cL_law 311 = .ok (.iconst 0, 1) := by decide +kernel
theorem dL_law_312 : decode cL_law 312 = .ok (.ireturn, 1) := by decide +kernel
theorem dL_law_313 : decode cL_law 313 = .ok (.aload_n 1, 1) := by decide +kernel
theorem dL_law_314 : decode cL_law 314 = .ok (.aload_n 0, 1) := by decide +kernel
theorem dL_law_315 : decode cL_law 315 = .ok (.iload_n 3, 1) := by decide +kernel
theorem dL_law_316 : decode cL_law 316 = .ok (.iconst 1, 1) := by decide +kernel
theorem dL_law_317 : decode cL_law 317 = .ok (.iadd, 1) := by decide +kernel
theorem dL_law_318 : decode cL_law 318 = .ok (.iaload, 1) := by decide +kernel
theorem dL_law_319 : decode cL_law 319 = .ok (.aload_n 0, 1) := by decide +kernel
theorem dL_law_320 : decode cL_law 320 = .ok (.iload_n 3, 1) := by decide +kernel
theorem dL_law_321 : decode cL_law 321 = .ok (.iconst 2, 1) := by decide +kernel
theorem dL_law_322 : decode cL_law 322 = .ok (.iadd, 1) := by decide +kernel
theorem dL_law_323 : decode cL_law 323 = .ok (.iaload, 1) := by decide +kernel
theorem dL_law_324 : decode cL_law 324 = .ok (.aload_n 0, 1) := by decide +kernel
theorem dL_law_325 : decode cL_law 325 = .ok (.iload_n 3, 1) := by decide +kernel
theorem dL_law_326 : decode cL_law 326 = .ok (.iconst 3, 1) := by decide +kernel
theorem dL_law_327 : decode cL_law 327 = .ok (.iadd, 1) := by decide +kernel
theorem dL_law_328 : decode cL_law 328 = .ok (.iaload, 1) := by decide +kernel
theorem dL_law_329 : decode cL_law 329 = .ok (.aload_n 0, 1) := by decide +kernel
theorem dL_law_330 : decode cL_law 330 = .ok (.iload_n 3, 1) := by decide +kernel
theorem dL_law_331 : decode cL_law 331 = .ok (.iconst 4, 1) := by decide +kernel
theorem dL_law_332 : decode cL_law 332 = .ok (.iadd, 1) := by decide +kernel
theorem dL_law_333 : decode cL_law 333 = .ok (.iaload, 1) := by decide +kernel
theorem dL_law_334 : decode cL_law 334 = .ok (.invokevirtual 38, 3) := by decide +kernel
theorem dL_law_337 : decode cL_law 337 = .ok (.aload_n 2, 1) := by decide +kernel
theorem dL_law_338 : decode cL_law 338 = .ok (.aload_n 0, 1) := by decide +kernel
theorem dL_law_339 : decode cL_law 339 = .ok (.iload_n 3, 1) := by decide +kernel
theorem dL_law_340 : decode cL_law 340 = .ok (.iconst 1, 1) := by decide +kernel
theorem dL_law_341 : decode cL_law 341 = .ok (.iadd, 1) := by decide +kernel
theorem dL_law_342 : decode cL_law 342 = .ok (.iaload, 1) := by decide +kernel
theorem dL_law_343 : decode cL_law 343 = .ok (.aload_n 0, 1) := by decide +kernel
theorem dL_law_344 : decode cL_law 344 = .ok (.iload_n 3, 1) := by decide +kernel
theorem dL_law_345 : decode cL_law 345 = .ok (.iconst 2, 1) := by decide +kernel
theorem dL_law_346 : decode cL_law 346 = .ok (.iadd, 1) := by decide +kernel
theorem dL_law_347 : decode cL_law 347 = .ok (.iaload, 1) := by decide +kernel
theorem dL_law_348 : decode cL_law 348 = .ok (.aload_n 0, 1) := by decide +kernel
theorem dL_law_349 : decode cL_law 349 = .ok (.iload_n 3, 1) := by decide +kernel
theorem dL_law_350 : decode cL_law 350 = .ok (.iconst 3, 1) := by decide +kernel
theorem dL_law_351 : decode cL_law 351 = .ok (.iadd, 1) := by decide +kernel
theorem dL_law_352 : decode cL_law 352 = .ok (.iaload, 1) := by decide +kernel
theorem dL_law_353 : decode cL_law 353 = .ok (.aload_n 0, 1) := by decide +kernel
theorem dL_law_354 : decode cL_law 354 = .ok (.iload_n 3, 1) := by decide +kernel
theorem dL_law_355 : decode cL_law 355 = .ok (.iconst 4, 1) := by decide +kernel
theorem dL_law_356 : decode cL_law 356 = .ok (.iadd, 1) := by decide +kernel
theorem dL_law_357 : decode cL_law 357 = .ok (.iaload, 1) := by decide +kernel
theorem dL_law_358 : decode cL_law 358 = .ok (.invokevirtual 42, 3) := by decide +kernel
theorem dL_law_361 : decode cL_law 361 = .ok (.if_icmp .eq 427, 3) := by decide +kernel
theorem dL_law_364 : decode cL_law 364 = .ok (.iconst 0, 1) := by decide +kernel
theorem dL_law_365 : decode cL_law 365 = .ok (.ireturn, 1) := by decide +kernel
theorem dL_law_366 : decode cL_law 366 = .ok (.aload_n 1, 1) := by decide +kernel
theorem dL_law_367 : decode cL_law 367 = .ok (.aload_n 0, 1) := by decide +kernel
theorem dL_law_368 : decode cL_law 368 = .ok (.iload_n 3, 1) := by decide +kernel
theorem dL_law_369 : decode cL_law 369 = .ok (.iconst 1, 1) := by decide +kernel
theorem dL_law_370 : decode cL_law 370 = .ok (.iadd, 1) := by decide +kernel
theorem dL_law_371 : decode cL_law 371 = .ok (.iaload, 1) := by decide +kernel
theorem dL_law_372 : decode cL_law 372 = .ok (.aload_n 0, 1) := by decide +kernel
theorem dL_law_373 : decode cL_law 373 = .ok (.iload_n 3, 1) := by decide +kernel
theorem dL_law_374 : decode cL_law 374 = .ok (.iconst 2, 1) := by decide +kernel
theorem dL_law_375 : decode cL_law 375 = .ok (.iadd, 1) := by decide +kernel
theorem dL_law_376 : decode cL_law 376 = .ok (.iaload, 1) := by decide +kernel
theorem dL_law_377 : decode cL_law 377 = .ok (.invokevirtual 43, 3) := by decide +kernel
theorem dL_law_380 : decode cL_law 380 = .ok (.aload_n 2, 1) := by decide +kernel
theorem dL_law_381 : decode cL_law 381 = .ok (.aload_n 0, 1) := by decide +kernel
theorem dL_law_382 : decode cL_law 382 = .ok (.iload_n 3, 1) := by decide +kernel
theorem dL_law_383 : decode cL_law 383 = .ok (.iconst 1, 1) := by decide +kernel
theorem dL_law_384 : decode cL_law 384 = .ok (.iadd, 1) := by decide +kernel
theorem dL_law_385 : decode cL_law 385 = .ok (.iaload, 1) := by decide +kernel
theorem dL_law_386 : decode cL_law 386 = .ok (.aload_n 0, 1) := by decide +kernel
theorem dL_law_387 : decode cL_law 387 = .ok (.iload_n 3, 1) := by decide +kernel
theorem dL_law_388 : decode cL_law 388 = .ok (.iconst 2, 1) := by decide +kernel
theorem dL_law_389 : decode cL_law 389 = .ok (.iadd, 1) := by decide +kernel
theorem dL_law_390 : decode cL_law 390 = .ok (.iaload, 1) := by decide +kernel
theorem dL_law_391 : decode cL_law 391 = .ok (.invokevirtual 46, 3) := by decide +kernel
theorem dL_law_394 : decode cL_law 394 = .ok (.if_icmp .eq 394, 3) := by decide +kernel
theorem dL_law_397 : decode cL_law 397 = .ok (.iconst 0, 1) := by decide +kernel
theorem dL_law_398 : decode cL_law 398 = .ok (.ireturn, 1) := by decide +kernel
theorem dL_law_399 : decode cL_law 399 = .ok (.aload_n 1, 1) := by decide +kernel
theorem dL_law_400 : decode cL_law 400 = .ok (.aload_n 0, 1) := by decide +kernel
theorem dL_law_401 : decode cL_law 401 = .ok (.iload_n 3, 1) := by decide +kernel
theorem dL_law_402 : decode cL_law 402 = .ok (.iconst 1, 1) := by decide +kernel
theorem dL_law_403 : decode cL_law 403 = .ok (.iadd, 1) := by decide +kernel
theorem dL_law_404 : decode cL_law 404 = .ok (.iaload, 1) := by decide +kernel
theorem dL_law_405 : decode cL_law 405 = .ok (.invokevirtual 47, 3) := by decide +kernel
theorem dL_law_408 : decode cL_law 408 = .ok (.aload_n 2, 1) := by decide +kernel
theorem dL_law_409 : decode cL_law 409 = .ok (.aload_n 0, 1) := by decide +kernel
theorem dL_law_410 : decode cL_law 410 = .ok (.iload_n 3, 1) := by decide +kernel
theorem dL_law_411 : decode cL_law 411 = .ok (.iconst 1, 1) := by decide +kernel
theorem dL_law_412 : decode cL_law 412 = .ok (.iadd, 1) := by decide +kernel
theorem dL_law_413 : decode cL_law 413 = .ok (.iaload, 1) := by decide +kernel
theorem dL_law_414 : decode cL_law 414 = .ok (.invokevirtual 51, 3) := by decide +kernel
theorem dL_law_417 : decode cL_law 417 = .ok (.if_icmp .eq 371, 3) := by decide +kernel
theorem dL_law_420 : decode cL_law 420 = .ok (.iconst 0, 1) := by decide +kernel
theorem dL_law_421 : decode cL_law 421 = .ok (.ireturn, 1) := by decide +kernel
theorem dL_law_422 : decode cL_law 422 = .ok (.aload_n 1, 1) := by decide +kernel
theorem dL_law_423 : decode cL_law 423 = .ok (.aload_n 0, 1) := by decide +kernel
theorem dL_law_424 : decode cL_law 424 = .ok (.iload_n 3, 1) := by decide +kernel
theorem dL_law_425 : decode cL_law 425 = .ok (.iconst 1, 1) := by decide +kernel
theorem dL_law_426 : decode cL_law 426 = .ok (.iadd, 1) := by decide +kernel
theorem dL_law_427 : decode cL_law 427 = .ok (.iaload, 1) := by decide +kernel
theorem dL_law_428 : decode cL_law 428 = .ok (.invokevirtual 52, 3) := by decide +kernel
theorem dL_law_431 : decode cL_law 431 = .ok (.aload_n 2, 1) := by decide +kernel
theorem dL_law_432 : decode cL_law 432 = .ok (.aload_n 0, 1) := by decide +kernel
theorem dL_law_433 : decode cL_law 433 = .ok (.iload_n 3, 1) := by decide +kernel
theorem dL_law_434 : decode cL_law 434 = .ok (.iconst 1, 1) := by decide +kernel
theorem dL_law_435 : decode cL_law 435 = .ok (.iadd, 1) := by decide +kernel
theorem dL_law_436 : decode cL_law 436 = .ok (.iaload, 1) := by decide +kernel
theorem dL_law_437 : decode cL_law 437 = .ok (.invokevirtual 55, 3) := by decide +kernel
theorem dL_law_440 : decode cL_law 440 = .ok (.if_icmp .eq 348, 3) := by decide +kernel
theorem dL_law_443 : decode cL_law 443 = .ok (.iconst 0, 1) := by decide +kernel
theorem dL_law_444 : decode cL_law 444 = .ok (.ireturn, 1) := by decide +kernel
theorem dL_law_445 : decode cL_law 445 = .ok (.aload_n 1, 1) := by decide +kernel
theorem dL_law_446 : decode cL_law 446 = .ok (.aload_n 0, 1) := by decide +kernel
theorem dL_law_447 : decode cL_law 447 = .ok (.iload_n 3, 1) := by decide +kernel
theorem dL_law_448 : decode cL_law 448 = .ok (.iconst 1, 1) := by decide +kernel
theorem dL_law_449 : decode cL_law 449 = .ok (.iadd, 1) := by decide +kernel
theorem dL_law_450 : decode cL_law 450 = .ok (.iaload, 1) := by decide +kernel
theorem dL_law_451 : decode cL_law 451 = .ok (.invokevirtual 56, 3) := by decide +kernel
theorem dL_law_454 : decode cL_law 454 = .ok (.aload_n 2, 1) := by decide +kernel
theorem dL_law_455 : decode cL_law 455 = .ok (.aload_n 0, 1) := by decide +kernel
theorem dL_law_456 : decode cL_law 456 = .ok (.iload_n 3, 1) := by decide +kernel
theorem dL_law_457 : decode cL_law 457 = .ok (.iconst 1, 1) := by decide +kernel
theorem dL_law_458 : decode cL_law 458 = .ok (.iadd, 1) := by decide +kernel
theorem dL_law_459 : decode cL_law 459 = .ok (.iaload, 1) := by decide +kernel
theorem dL_law_460 : decode cL_law 460 = .ok (.invokevirtual 59, 3) := by decide +kernel
theorem dL_law_463 : decode cL_law 463 = .ok (.if_icmp .eq 325, 3) := by decide +kernel
theorem dL_law_466 : decode cL_law 466 = .ok (.iconst 0, 1) := by decide +kernel
theorem dL_law_467 : decode cL_law 467 = .ok (.ireturn, 1) := by decide +kernel
theorem dL_law_468 : decode cL_law 468 = .ok (.aload_n 1, 1) := by decide +kernel
theorem dL_law_469 : decode cL_law 469 = .ok (.aload_n 0, 1) := by decide +kernel
theorem dL_law_470 : decode cL_law 470 = .ok (.iload_n 3, 1) := by decide +kernel
theorem dL_law_471 : decode cL_law 471 = .ok (.iconst 1, 1) := by decide +kernel
theorem dL_law_472 : decode cL_law 472 = .ok (.iadd, 1) := by decide +kernel
theorem dL_law_473 : decode cL_law 473 = .ok (.iaload, 1) := by decide +kernel
theorem dL_law_474 : decode cL_law 474 = .ok (.aload_n 0, 1) := by decide +kernel
theorem dL_law_475 : decode cL_law 475 = .ok (.iload_n 3, 1) := by decide +kernel
theorem dL_law_476 : decode cL_law 476 = .ok (.iconst 2, 1) := by decide +kernel
theorem dL_law_477 : decode cL_law 477 = .ok (.iadd, 1) := by decide +kernel
theorem dL_law_478 : decode cL_law 478 = .ok (.iaload, 1) := by decide +kernel
theorem dL_law_479 : decode cL_law 479 = .ok (.invokevirtual 60, 3) := by decide +kernel
theorem dL_law_482 : decode cL_law 482 = .ok (.aload_n 2, 1) := by decide +kernel
theorem dL_law_483 : decode cL_law 483 = .ok (.aload_n 0, 1) := by decide +kernel
theorem dL_law_484 : decode cL_law 484 = .ok (.iload_n 3, 1) := by decide +kernel
theorem dL_law_485 : decode cL_law 485 = .ok (.iconst 1, 1) := by decide +kernel
theorem dL_law_486 : decode cL_law 486 = .ok (.iadd, 1) := by decide +kernel
theorem dL_law_487 : decode cL_law 487 = .ok (.iaload, 1) := by decide +kernel
theorem dL_law_488 : decode cL_law 488 = .ok (.aload_n 0, 1) := by decide +kernel
theorem dL_law_489 : decode cL_law 489 = .ok (.iload_n 3, 1) := by decide +kernel
theorem dL_law_490 : decode cL_law 490 = .ok (.iconst 2, 1) := by decide +kernel
theorem dL_law_491 : decode cL_law 491 = .ok (.iadd, 1) := by decide +kernel
theorem dL_law_492 : decode cL_law 492 = .ok (.iaload, 1) := by decide +kernel
theorem dL_law_493 : decode cL_law 493 = .ok (.invokevirtual 63, 3) := by decide +kernel
theorem dL_law_496 : decode cL_law 496 = .ok (.if_icmp .eq 292, 3) := by decide +kernel
theorem dL_law_499 : decode cL_law 499 = .ok (.iconst 0, 1) := by decide +kernel
theorem dL_law_500 : decode cL_law 500 = .ok (.ireturn, 1) := by decide +kernel
theorem dL_law_501 : decode cL_law 501 = .ok (.aload_n 1, 1) := by decide +kernel
theorem dL_law_502 : decode cL_law 502 = .ok (.aload_n 0, 1) := by decide +kernel
theorem dL_law_503 : decode cL_law 503 = .ok (.iload_n 3, 1) := by decide +kernel
theorem dL_law_504 : decode cL_law 504 = .ok (.iconst 1, 1) := by decide +kernel
theorem dL_law_505 : decode cL_law 505 = .ok (.iadd, 1) := by decide +kernel
theorem dL_law_506 : decode cL_law 506 = .ok (.iaload, 1) := by decide +kernel
theorem dL_law_507 : decode cL_law 507 = .ok (.invokevirtual 64, 3) := by decide +kernel
theorem dL_law_510 : decode cL_law 510 = .ok (.aload_n 2, 1) := by decide +kernel
theorem dL_law_511 : decode cL_law 511 = .ok (.aload_n 0, 1) := by decide +kernel
theorem dL_law_512 : decode cL_law 512 = .ok (.iload_n 3, 1) := by decide +kernel
theorem dL_law_513 : decode cL_law 513 = .ok (.iconst 1, 1) := by decide +kernel
theorem dL_law_514 : decode cL_law 514 = .ok (.iadd, 1) := by decide +kernel
theorem dL_law_515 : decode cL_law 515 = .ok (.iaload, 1) := by decide +kernel
theorem dL_law_516 : decode cL_law 516 = .ok (.invokevirtual 67, 3) := by decide +kernel
theorem dL_law_519 : decode cL_law 519 = .ok (.if_icmp .eq 269, 3) := by decide +kernel
theorem dL_law_522 : decode cL_law 522 = .ok (.iconst 0, 1) := by decide +kernel
theorem dL_law_523 : decode cL_law 523 = .ok (.ireturn, 1) := by decide +kernel
theorem dL_law_524 : decode cL_law 524 = .ok (.aload_n 1, 1) := by decide +kernel
theorem dL_law_525 : decode cL_law 525 = .ok (.aload_n 0, 1) := by decide +kernel
theorem dL_law_526 : decode cL_law 526 = .ok (.iload_n 3, 1) := by decide +kernel
theorem dL_law_527 : decode cL_law 527 = .ok (.iconst 1, 1) := by decide +kernel
theorem dL_law_528 : decode cL_law 528 = .ok (.iadd, 1) := by decide +kernel
theorem dL_law_529 : decode cL_law 529 = .ok (.iaload, 1) := by decide +kernel
theorem dL_law_530 : decode cL_law 530 = .ok (.aload_n 0, 1) := by decide +kernel
theorem dL_law_531 : decode cL_law 531 = .ok (.iload_n 3, 1) := by decide +kernel
theorem dL_law_532 : decode cL_law 532 = .ok (.iconst 2, 1) := by decide +kernel
theorem dL_law_533 : decode cL_law 533 = .ok (.iadd, 1) := by decide +kernel
theorem dL_law_534 : decode cL_law 534 = .ok (.iaload, 1) := by decide +kernel
theorem dL_law_535 : decode cL_law 535 = .ok (.aload_n 0, 1) := by decide +kernel
theorem dL_law_536 : decode cL_law 536 = .ok (.iload_n 3, 1) := by decide +kernel
theorem dL_law_537 : decode cL_law 537 = .ok (.iconst 3, 1) := by decide +kernel
theorem dL_law_538 : decode cL_law 538 = .ok (.iadd, 1) := by decide +kernel
theorem dL_law_539 : decode cL_law 539 = .ok (.iaload, 1) := by decide +kernel
theorem dL_law_540 : decode cL_law 540 = .ok (.invokevirtual 68, 3) := by decide +kernel
theorem dL_law_543 : decode cL_law 543 = .ok (.aload_n 2, 1) := by decide +kernel
theorem dL_law_544 : decode cL_law 544 = .ok (.aload_n 0, 1) := by decide +kernel
theorem dL_law_545 : decode cL_law 545 = .ok (.iload_n 3, 1) := by decide +kernel
theorem dL_law_546 : decode cL_law 546 = .ok (.iconst 1, 1) := by decide +kernel
theorem dL_law_547 : decode cL_law 547 = .ok (.iadd, 1) := by decide +kernel
theorem dL_law_548 : decode cL_law 548 = .ok (.iaload, 1) := by decide +kernel
theorem dL_law_549 : decode cL_law 549 = .ok (.aload_n 0, 1) := by decide +kernel
theorem dL_law_550 : decode cL_law 550 = .ok (.iload_n 3, 1) := by decide +kernel
theorem dL_law_551 : decode cL_law 551 = .ok (.iconst 2, 1) := by decide +kernel
theorem dL_law_552 : decode cL_law 552 = .ok (.iadd, 1) := by decide +kernel
theorem dL_law_553 : decode cL_law 553 = .ok (.iaload, 1) := by decide +kernel
theorem dL_law_554 : decode cL_law 554 = .ok (.aload_n 0, 1) := by decide +kernel
theorem dL_law_555 : decode cL_law 555 = .ok (.iload_n 3, 1) := by decide +kernel
theorem dL_law_556 : decode cL_law 556 = .ok (.iconst 3, 1) := by decide +kernel
theorem dL_law_557 : decode cL_law 557 = .ok (.iadd, 1) := by decide +kernel
theorem dL_law_558 : decode cL_law 558 = .ok (.iaload, 1) := by decide +kernel
theorem dL_law_559 : decode cL_law 559 = .ok (.invokevirtual 71, 3) := by decide +kernel
theorem dL_law_562 : decode cL_law 562 = .ok (.if_icmp .eq 226, 3) := by decide +kernel
theorem dL_law_565 : decode cL_law 565 = .ok (.iconst 0, 1) := by decide +kernel
theorem dL_law_566 : decode cL_law 566 = .ok (.ireturn, 1) := by decide +kernel
theorem dL_law_567 : decode cL_law 567 = .ok (.aload_n 1, 1) := by decide +kernel
theorem dL_law_568 : decode cL_law 568 = .ok (.aload_n 0, 1) := by decide +kernel
theorem dL_law_569 : decode cL_law 569 = .ok (.iload_n 3, 1) := by decide +kernel
theorem dL_law_570 : decode cL_law 570 = .ok (.iconst 1, 1) := by decide +kernel
theorem dL_law_571 : decode cL_law 571 = .ok (.iadd, 1) := by decide +kernel
theorem dL_law_572 : decode cL_law 572 = .ok (.iaload, 1) := by decide +kernel
theorem dL_law_573 : decode cL_law 573 = .ok (.aload_n 0, 1) := by decide +kernel
theorem dL_law_574 : decode cL_law 574 = .ok (.iload_n 3, 1) := by decide +kernel
theorem dL_law_575 : decode cL_law 575 = .ok (.iconst 2, 1) := by decide +kernel
theorem dL_law_576 : decode cL_law 576 = .ok (.iadd, 1) := by decide +kernel
theorem dL_law_577 : decode cL_law 577 = .ok (.iaload, 1) := by decide +kernel
theorem dL_law_578 : decode cL_law 578 = .ok (.aload_n 0, 1) := by decide +kernel
theorem dL_law_579 : decode cL_law 579 = .ok (.iload_n 3, 1) := by decide +kernel
theorem dL_law_580 : decode cL_law 580 = .ok (.iconst 3, 1) := by decide +kernel
theorem dL_law_581 : decode cL_law 581 = .ok (.iadd, 1) := by decide +kernel
theorem dL_law_582 : decode cL_law 582 = .ok (.iaload, 1) := by decide +kernel
theorem dL_law_583 : decode cL_law 583 = .ok (.invokevirtual 72, 3) := by decide +kernel
theorem dL_law_586 : decode cL_law 586 = .ok (.aload_n 2, 1) := by decide +kernel
theorem dL_law_587 : decode cL_law 587 = .ok (.aload_n 0, 1) := by decide +kernel
theorem dL_law_588 : decode cL_law 588 = .ok (.iload_n 3, 1) := by decide +kernel
theorem dL_law_589 : decode cL_law 589 = .ok (.iconst 1, 1) := by decide +kernel
theorem dL_law_590 : decode cL_law 590 = .ok (.iadd, 1) := by decide +kernel
theorem dL_law_591 : decode cL_law 591 = .ok (.iaload, 1) := by decide +kernel
theorem dL_law_592 : decode cL_law 592 = .ok (.aload_n 0, 1) := by decide +kernel
theorem dL_law_593 : decode cL_law 593 = .ok (.iload_n 3, 1) := by decide +kernel
theorem dL_law_594 : decode cL_law 594 = .ok (.iconst 2, 1) := by decide +kernel
theorem dL_law_595 : decode cL_law 595 = .ok (.iadd, 1) := by decide +kernel
theorem dL_law_596 : decode cL_law 596 = .ok (.iaload, 1) := by decide +kernel
theorem dL_law_597 : decode cL_law 597 = .ok (.aload_n 0, 1) := by decide +kernel
theorem dL_law_598 : decode cL_law 598 = .ok (.iload_n 3, 1) := by decide +kernel
theorem dL_law_599 : decode cL_law 599 = .ok (.iconst 3, 1) := by decide +kernel
theorem dL_law_600 : decode cL_law 600 = .ok (.iadd, 1) := by decide +kernel
theorem dL_law_601 : decode cL_law 601 = .ok (.iaload, 1) := by decide +kernel
theorem dL_law_602 : decode cL_law 602 = .ok (.invokevirtual 75, 3) := by decide +kernel
theorem dL_law_605 : decode cL_law 605 = .ok (.if_icmp .eq 183, 3) := by decide +kernel
theorem dL_law_608 : decode cL_law 608 = .ok (.iconst 0, 1) := by decide +kernel
theorem dL_law_609 : decode cL_law 609 = .ok (.ireturn, 1) := by decide +kernel
theorem dL_law_610 : decode cL_law 610 = .ok (.aload_n 1, 1) := by decide +kernel
theorem dL_law_611 : decode cL_law 611 = .ok (.aload_n 0, 1) := by decide +kernel
theorem dL_law_612 : decode cL_law 612 = .ok (.iload_n 3, 1) := by decide +kernel
theorem dL_law_613 : decode cL_law 613 = .ok (.iconst 1, 1) := by decide +kernel
theorem dL_law_614 : decode cL_law 614 = .ok (.iadd, 1) := by decide +kernel
theorem dL_law_615 : decode cL_law 615 = .ok (.iaload, 1) := by decide +kernel
theorem dL_law_616 : decode cL_law 616 = .ok (.aload_n 0, 1) := by decide +kernel
theorem dL_law_617 : decode cL_law 617 = .ok (.iload_n 3, 1) := by decide +kernel
theorem dL_law_618 : decode cL_law 618 = .ok (.iconst 2, 1) := by decide +kernel
theorem dL_law_619 : decode cL_law 619 = .ok (.iadd, 1) := by decide +kernel
theorem dL_law_620 : decode cL_law 620 = .ok (.iaload, 1) := by decide +kernel
theorem dL_law_621 : decode cL_law 621 = .ok (.invokevirtual 76, 3) := by decide +kernel
theorem dL_law_624 : decode cL_law 624 = .ok (.aload_n 2, 1) := by decide +kernel
theorem dL_law_625 : decode cL_law 625 = .ok (.aload_n 0, 1) := by decide +kernel
theorem dL_law_626 : decode cL_law 626 = .ok (.iload_n 3, 1) := by decide +kernel
theorem dL_law_627 : decode cL_law 627 = .ok (.iconst 1, 1) := by decide +kernel
theorem dL_law_628 : decode cL_law 628 = .ok (.iadd, 1) := by decide +kernel
theorem dL_law_629 : decode cL_law 629 = .ok (.iaload, 1) := by decide +kernel
theorem dL_law_630 : decode cL_law 630 = .ok (.aload_n 0, 1) := by decide +kernel
theorem dL_law_631 : decode cL_law 631 = .ok (.iload_n 3, 1) := by decide +kernel
theorem dL_law_632 : decode cL_law 632 = .ok (.iconst 2, 1) := by decide +kernel
theorem dL_law_633 : decode cL_law 633 = .ok (.iadd, 1) := by decide +kernel
theorem dL_law_634 : decode cL_law 634 = .ok (.iaload, 1) := by decide +kernel
theorem dL_law_635 : decode cL_law 635 = .ok (.invokevirtual 79, 3) := by decide +kernel
theorem dL_law_638 : decode cL_law 638 = .ok (.if_icmp .eq 150, 3) := by decide +kernel
theorem dL_law_641 : decode cL_law 641 = .ok (.iconst 0, 1) := by decide +kernel
theorem dL_law_642 : decode cL_law 642 = .ok (.ireturn, 1) := by decide +kernel
theorem dL_law_643 : decode cL_law 643 = .ok (.aload_n 1, 1) := by decide +kernel
theorem dL_law_644 : decode cL_law 644 = .ok (.aload_n 0, 1) := by decide +kernel
theorem dL_law_645 : decode cL_law 645 = .ok (.iload_n 3, 1) := by decide +kernel
theorem dL_law_646 : decode cL_law 646 = .ok (.iconst 1, 1) := by decide +kernel
theorem dL_law_647 : decode cL_law 647 = .ok (.iadd, 1) := by decide +kernel
theorem dL_law_648 : decode cL_law 648 = .ok (.iaload, 1) := by decide +kernel
theorem dL_law_649 : decode cL_law 649 = .ok (.aload_n 0, 1) := by decide +kernel
theorem dL_law_650 : decode cL_law 650 = .ok (.iload_n 3, 1) := by decide +kernel
theorem dL_law_651 : decode cL_law 651 = .ok (.iconst 2, 1) := by decide +kernel
theorem dL_law_652 : decode cL_law 652 = .ok (.iadd, 1) := by decide +kernel
theorem dL_law_653 : decode cL_law 653 = .ok (.iaload, 1) := by decide +kernel
theorem dL_law_654 : decode cL_law 654 = .ok (.invokevirtual 80, 3) := by decide +kernel
theorem dL_law_657 : decode cL_law 657 = .ok (.aload_n 2, 1) := by decide +kernel
theorem dL_law_658 : decode cL_law 658 = .ok (.aload_n 0, 1) := by decide +kernel
theorem dL_law_659 : decode cL_law 659 = .ok (.iload_n 3, 1) := by decide +kernel
theorem dL_law_660 : decode cL_law 660 = .ok (.iconst 1, 1) := by decide +kernel
theorem dL_law_661 : decode cL_law 661 = .ok (.iadd, 1) := by decide +kernel
theorem dL_law_662 : decode cL_law 662 = .ok (.iaload, 1) := by decide +kernel
theorem dL_law_663 : decode cL_law 663 = .ok (.aload_n 0, 1) := by decide +kernel
theorem dL_law_664 : decode cL_law 664 = .ok (.iload_n 3, 1) := by decide +kernel
theorem dL_law_665 : decode cL_law 665 = .ok (.iconst 2, 1) := by decide +kernel
theorem dL_law_666 : decode cL_law 666 = .ok (.iadd, 1) := by decide +kernel
theorem dL_law_667 : decode cL_law 667 = .ok (.iaload, 1) := by decide +kernel
theorem dL_law_668 : decode cL_law 668 = .ok (.invokevirtual 83, 3) := by decide +kernel
theorem dL_law_671 : decode cL_law 671 = .ok (.if_icmp .eq 117, 3) := by decide +kernel
theorem dL_law_674 : decode cL_law 674 = .ok (.iconst 0, 1) := by decide +kernel
theorem dL_law_675 : decode cL_law 675 = .ok (.ireturn, 1) := by decide +kernel
theorem dL_law_676 : decode cL_law 676 = .ok (.aload_n 1, 1) := by decide +kernel
theorem dL_law_677 : decode cL_law 677 = .ok (.aload_n 0, 1) := by decide +kernel
theorem dL_law_678 : decode cL_law 678 = .ok (.iload_n 3, 1) := by decide +kernel
theorem dL_law_679 : decode cL_law 679 = .ok (.iconst 1, 1) := by decide +kernel
theorem dL_law_680 : decode cL_law 680 = .ok (.iadd, 1) := by decide +kernel
theorem dL_law_681 : decode cL_law 681 = .ok (.iaload, 1) := by decide +kernel
theorem dL_law_682 : decode cL_law 682 = .ok (.aload_n 0, 1) := by decide +kernel
theorem dL_law_683 : decode cL_law 683 = .ok (.iload_n 3, 1) := by decide +kernel
theorem dL_law_684 : decode cL_law 684 = .ok (.iconst 2, 1) := by decide +kernel
theorem dL_law_685 : decode cL_law 685 = .ok (.iadd, 1) := by decide +kernel
theorem dL_law_686 : decode cL_law 686 = .ok (.iaload, 1) := by decide +kernel
theorem dL_law_687 : decode cL_law 687 = .ok (.invokevirtual 84, 3) := by decide +kernel
theorem dL_law_690 : decode cL_law 690 = .ok (.aload_n 2, 1) := by decide +kernel
theorem dL_law_691 : decode cL_law 691 = .ok (.aload_n 0, 1) := by decide +kernel
theorem dL_law_692 : decode cL_law 692 = .ok (.iload_n 3, 1) := by decide +kernel
theorem dL_law_693 : decode cL_law 693 = .ok (.iconst 1, 1) := by decide +kernel
theorem dL_law_694 : decode cL_law 694 = .ok (.iadd, 1) := by decide +kernel
theorem dL_law_695 : decode cL_law 695 = .ok (.iaload, 1) := by decide +kernel
theorem dL_law_696 : decode cL_law 696 = .ok (.aload_n 0, 1) := by decide +kernel
theorem dL_law_697 : decode cL_law 697 = .ok (.iload_n 3, 1) := by decide +kernel
theorem dL_law_698 : decode cL_law 698 = .ok (.iconst 2, 1) := by decide +kernel
theorem dL_law_699 : decode cL_law 699 = .ok (.iadd, 1) := by decide +kernel
theorem dL_law_700 : decode cL_law 700 = .ok (.iaload, 1) := by decide +kernel
theorem dL_law_701 : decode cL_law 701 = .ok (.invokevirtual 87, 3) := by decide +kernel
theorem dL_law_704 : decode cL_law 704 = .ok (.if_icmp .eq 84, 3) := by decide +kernel
theorem dL_law_707 : decode cL_law 707 = .ok (.iconst 0, 1) := by decide +kernel
theorem dL_law_708 : decode cL_law 708 = .ok (.ireturn, 1) := by decide +kernel
theorem dL_law_709 : decode cL_law 709 = .ok (.aload_n 1, 1) := by decide +kernel
theorem dL_law_710 : decode cL_law 710 = .ok (.aload_n 0, 1) := by decide +kernel
theorem dL_law_711 : decode cL_law 711 = .ok (.iload_n 3, 1) := by decide +kernel
theorem dL_law_712 : decode cL_law 712 = .ok (.iconst 1, 1) := by decide +kernel
theorem dL_law_713 : decode cL_law 713 = .ok (.iadd, 1) := by decide +kernel
theorem dL_law_714 : decode cL_law 714 = .ok (.iaload, 1) := by decide +kernel
theorem dL_law_715 : decode cL_law 715 = .ok (.invokevirtual 88, 3) := by decide +kernel
theorem dL_law_718 : decode cL_law 718 = .ok (.aload_n 2, 1) := by decide +kernel
theorem dL_law_719 : decode cL_law 719 = .ok (.aload_n 0, 1) := by decide +kernel
theorem dL_law_720 : decode cL_law 720 = .ok (.iload_n 3, 1) := by decide +kernel
theorem dL_law_721 : decode cL_law 721 = .ok (.iconst 1, 1) := by decide +kernel
theorem dL_law_722 : decode cL_law 722 = .ok (.iadd, 1) := by decide +kernel
theorem dL_law_723 : decode cL_law 723 = .ok (.iaload, 1) := by decide +kernel
theorem dL_law_724 : decode cL_law 724 = .ok (.invokevirtual 91, 3) := by decide +kernel
theorem dL_law_727 : decode cL_law 727 = .ok (.if_icmp .eq 61, 3) := by decide +kernel
theorem dL_law_730 : decode cL_law 730 = .ok (.iconst 0, 1) := by decide +kernel
theorem dL_law_731 : decode cL_law 731 = .ok (.ireturn, 1) := by decide +kernel
theorem dL_law_732 : decode cL_law 732 = .ok (.aload_n 1, 1) := by decide +kernel
theorem dL_law_733 : decode cL_law 733 = .ok (.aload_n 0, 1) := by decide +kernel
theorem dL_law_734 : decode cL_law 734 = .ok (.iload_n 3, 1) := by decide +kernel
theorem dL_law_735 : decode cL_law 735 = .ok (.iconst 1, 1) := by decide +kernel
theorem dL_law_736 : decode cL_law 736 = .ok (.iadd, 1) := by decide +kernel
theorem dL_law_737 : decode cL_law 737 = .ok (.iaload, 1) := by decide +kernel
theorem dL_law_738 : decode cL_law 738 = .ok (.aload_n 0, 1) := by decide +kernel
theorem dL_law_739 : decode cL_law 739 = .ok (.iload_n 3, 1) := by decide +kernel
theorem dL_law_740 : decode cL_law 740 = .ok (.iconst 2, 1) := by decide +kernel
theorem dL_law_741 : decode cL_law 741 = .ok (.iadd, 1) := by decide +kernel
theorem dL_law_742 : decode cL_law 742 = .ok (.iaload, 1) := by decide +kernel
theorem dL_law_743 : decode cL_law 743 = .ok (.invokevirtual 92, 3) := by decide +kernel
theorem dL_law_746 : decode cL_law 746 = .ok (.aload_n 2, 1) := by decide +kernel
theorem dL_law_747 : decode cL_law 747 = .ok (.aload_n 0, 1) := by decide +kernel
theorem dL_law_748 : decode cL_law 748 = .ok (.iload_n 3, 1) := by decide +kernel
theorem dL_law_749 : decode cL_law 749 = .ok (.iconst 1, 1) := by decide +kernel
theorem dL_law_750 : decode cL_law 750 = .ok (.iadd, 1) := by decide +kernel
theorem dL_law_751 : decode cL_law 751 = .ok (.iaload, 1) := by decide +kernel
theorem dL_law_752 : decode cL_law 752 = .ok (.aload_n 0, 1) := by decide +kernel
theorem dL_law_753 : decode cL_law 753 = .ok (.iload_n 3, 1) := by decide +kernel
theorem dL_law_754 : decode cL_law 754 = .ok (.iconst 2, 1) := by decide +kernel
theorem dL_law_755 : decode cL_law 755 = .ok (.iadd, 1) := by decide +kernel
theorem dL_law_756 : decode cL_law 756 = .ok (.iaload, 1) := by decide +kernel
theorem dL_law_757 : decode cL_law 757 = .ok (.invokevirtual 95, 3) := by decide +kernel
theorem dL_law_760 : decode cL_law 760 = .ok (.if_icmp .eq 28, 3) := by decide +kernel
theorem dL_law_763 : decode cL_law 763 = .ok (.iconst 0, 1) := by decide +kernel
theorem dL_law_764 : decode cL_law 764 = .ok (.ireturn, 1) := by decide +kernel
theorem dL_law_765 : decode cL_law 765 = .ok (.aload_n 1, 1) := by decide +kernel
theorem dL_law_766 : decode cL_law 766 = .ok (.aload_n 0, 1) := by decide +kernel
theorem dL_law_767 : decode cL_law 767 = .ok (.iload_n 3, 1) := by decide +kernel
theorem dL_law_768 : decode cL_law 768 = .ok (.iconst 1, 1) := by decide +kernel
theorem dL_law_769 : decode cL_law 769 = .ok (.iadd, 1) := by decide +kernel
theorem dL_law_770 : decode cL_law 770 = .ok (.iaload, 1) := by decide +kernel
theorem dL_law_771 : decode cL_law 771 = .ok (.invokevirtual 96, 3) := by decide +kernel
theorem dL_law_774 : decode cL_law 774 = .ok (.aload_n 2, 1) := by decide +kernel
theorem dL_law_775 : decode cL_law 775 = .ok (.aload_n 0, 1) := by decide +kernel
theorem dL_law_776 : decode cL_law 776 = .ok (.iload_n 3, 1) := by decide +kernel
theorem dL_law_777 : decode cL_law 777 = .ok (.iconst 1, 1) := by decide +kernel
theorem dL_law_778 : decode cL_law 778 = .ok (.iadd, 1) := by decide +kernel
theorem dL_law_779 : decode cL_law 779 = .ok (.iaload, 1) := by decide +kernel
theorem dL_law_780 : decode cL_law 780 = .ok (.invokevirtual 99, 3) := by decide +kernel
theorem dL_law_783 : decode cL_law 783 = .ok (.if_icmp .eq 5, 3) := by decide +kernel
theorem dL_law_786 : decode cL_law 786 = .ok (.iconst 0, 1) := by decide +kernel
theorem dL_law_787 : decode cL_law 787 = .ok (.ireturn, 1) := by decide +kernel
theorem dL_law_788 : decode cL_law 788 = .ok (.iinc 3 5, 3) := by decide +kernel
theorem dL_law_791 : decode cL_law 791 = .ok (.goto (-773), 3) := by decide +kernel
theorem dL_law_794 : decode cL_law 794 = .ok (.iconst 1, 1) := by decide +kernel
theorem dL_law_795 : decode cL_law 795 = .ok (.ireturn, 1) := by decide +kernel
end
section
/-! the calculus: a pure text x (an Option) that the code at pc computes, over worlds of ints -/
def ojT : List Cond := lw_tbl.filter goodWord
theorem ojT_in {w : Cond} (h : w ∈ lw_tbl) (g : goodWord w = true) : w ∈ ojT := List.mem_filter.mpr ⟨h, g⟩
theorem ojT_good {w : Cond} (h : w ∈ ojT) : (w.onTables && w.keeps) = true ∨ ∃ ty, w = .arrayClass ty := good_of_word (List.mem_filter.mp h).2
theorem ojT_sub {args : Array Value} {s : State} (h : ∀ w ∈ lw_tbl, w.before args s = true) : ∀ w ∈ ojT, w.before args s = true := fun w hw => h w (List.mem_filter.mp hw).1
abbrev ojS : Type := Nat → Nat → Int32
def ojW (σ : ojS) (k : Nat) (f : Nat → Int32) : ojS := fun k' => if k' = k then f else σ k'
def ojU (σ : ojS) (k j : Nat) (v : Int32) : ojS := ojW σ k (upd (σ k) j v)
def ojChk {α : Type} (i : Int32) (n : Nat) (x : Option α) : Option α := if i < 0 ∨ n ≤ i.toNatClampNeg then none else x
def ojNz {α : Type} (y : Int32) (x : Option α) : Option α := if y = 0 then none else x
def ojNzL {α : Type} (y : Int64) (x : Option α) : Option α := if y = 0 then none else x
def ojBl {α : Type} (v : Int32) (x : Option α) : Option α := if v = 0 ∨ v = 1 then x else none
def ojLet {α β : Type} (v : β) (k : β → Option α) : Option α := k v
def ojB1 {α : Type} (g : Option Int32) (k : Int32 → Option α) : Option α := match g with
  | none => none
  | some r => k r
def ojB2 {α : Type} (g : Option (Int32 × ojS)) (k : Int32 → ojS → Option α) : Option α := match g with
  | none => none
  | some q => k q.1 q.2
def ojBv {α : Type} (g : Option ojS) (k : ojS → Option α) : Option α := match g with
  | none => none
  | some q => k q
def ojFix {γ : Type} (bot : γ) : Nat → (γ → γ) → γ
  | 0, _ => bot
  | n + 1, F => F (ojFix bot n F)
def ojJoin {α γ : Type} (k : γ) (b : γ → Option α) : Option α := b k
def ojMin (x y : Int32) : Int32 := if y < x then y else x
def ojMax (x y : Int32) : Int32 := if x < y then y else x
def ojAbs (x : Int32) : Int32 := if 0 ≤ x then x else 0 - x
def ojRem (x y : Int32) : Int32 := x - x / y * y
def ojRemL (x y : Int64) : Int64 := x - x / y * y
def ojRm (L : Nat) : Room := { frames := L, cells := 0, slots := 0, locals := 60 * L }
abbrev ojV : Type := Launch × va_G × List (ClassId × FieldType) × (ojS → va_W)
abbrev ojX : Type := Program × Env × Room × State × MethodId × Array Value × List Frame × Method × Code × (Nat → Prop) × Nat
abbrev ojWW (X : ojX) (V : ojV) (H : Heap) (locs : List Loc) (Q : State → Prop) (g : JFrame) : Prop :=
  W X.1 V.1 X.2.1 X.2.2.1 X.2.2.2.1 X.2.2.2.2.1 X.2.2.2.2.2.1 X.2.2.2.2.2.2.1 X.2.2.2.2.2.2.2.1 X.2.2.2.2.2.2.2.2.1 H locs 0 0 Q g
def ojG (X : ojX) (V : ojV) (σ : ojS) (lv : List (Nat × Value)) (ls : Array Slot) (H : Heap) (locs : List Loc) : Prop :=
  lv_has ls X.2.2.2.2.2.2.2.2.2.2 lv ∧ va_P V.2.1 vwCl (V.2.2.2 σ) H ∧ va_D X.2.2.2.2.2.2.2.2.2.1 (V.2.2.2 σ) ∧ va_S X.2.2.2.2.2.2.2.2.2.1 X.2.2.2.1.heap H locs
def ojJ {α : Type} (X : ojX) (V : ojV) (Q : α → State → Prop) (x : Option α) (σ : ojS) (pc : Nat) (lv : List (Nat × Value)) (st : List Value) : Prop :=
  ∀ o, x = some o → ∀ (ls : Array Slot) (H : Heap) (locs : List Loc), ojG X V σ lv ls H locs → ojWW X V H locs (Q o) (F0 X.2.2.2.2.1 pc ls st)
def ojC (X : ojX) (V : ojV) (own : String) (cc : ByteArray) (nL L : Nat) : Prop :=
  X.1.tables.exec = Jvm.exec ∧ X.2.2.2.2.2.2.2.2.1.code = cc ∧ X.2.2.2.2.2.2.2.2.1.maxLocals = nL ∧ X.2.2.2.1.vm.findClass own = some X.2.2.2.2.1.cls ∧ (∀ w ∈ ojT, w.before X.2.2.2.2.2.1 X.2.2.2.1 = true) ∧ va_K V.2.1 vwCl V.2.2.1 X.2.2.2.1 ∧ X.2.2.2.2.2.2.2.2.2.2 = nL ∧ X.2.2.1 = ojRm L ∧ ∀ q, X.2.2.2.1.heap.size ≤ q → X.2.2.2.2.2.2.2.2.2.1 q
def ojIns (x : Nat × Value) : List (Nat × Value) → List (Nat × Value)
  | [] => [x]
  | y :: t => if x.1 < y.1 then x :: y :: t else y :: ojIns x t
def ojSt (lv : List (Nat × Value)) (i : Nat) (v : Value) : List (Nat × Value) := ojIns (i, v) (lv.filter (fun q => !(q.1 == i) && !(q.1 + 1 == i && q.2.category == 2)))
def ojStL (lv : List (Nat × Value)) (i : Nat) (v : Value) : List (Nat × Value) := ojIns (i, v) (lv.filter (fun q => !(q.1 == i) && (!(q.1 == i + 1) && !(q.1 + 1 == i && q.2.category == 2))))
theorem ojIns_mem {x q : Nat × Value} : ∀ {t : List (Nat × Value)}, q ∈ ojIns x t → q ∈ x :: t
  | [], h => h
  | y :: t, h => by
    unfold ojIns at h
    split at h
    · exact h
    · rcases List.mem_cons.mp h with h | h
      · exact List.mem_cons_of_mem _ (List.mem_cons.mpr (Or.inl h))
      · rcases List.mem_cons.mp (ojIns_mem h) with h | h
        · exact List.mem_cons.mpr (Or.inl h)
        · exact List.mem_cons_of_mem _ (List.mem_cons_of_mem _ h)
theorem oj_has {ls : Array Slot} {n : Nat} {l l' : List (Nat × Value)} (h : lv_has ls n l) (hs : ∀ q ∈ l', q ∈ l) : lv_has ls n l' := ⟨h.1, h.2.1, fun q hq => h.2.2 q (hs q hq)⟩
theorem oj_get {ls : Array Slot} {n : Nat} {l : List (Nat × Value)} (h : lv_has ls n l) {k i : Nat} {v : Value} (hk : l[k]? = some (i, v)) : ls[i]? = some (.val v) := lv_at h k hk
section ojR
variable {α : Type} {X : ojX} {V : ojV} {Q : α → State → Prop} {x x2 : Option α} {σ : ojS} {pc : Nat} {lv : List (Nat × Value)} {rest : List Value} {own : String} {cc : ByteArray} {nL L : Nat}
theorem oj_none : ojJ X V Q none σ pc lv rest := fun o h => by cases h
theorem oj_iload_n (hc : ojC X V own cc nL L) {k : Fin 4} {i : Nat} {v : Int32} (hd : decode cc pc = .ok (.iload_n k, 1)) (hi : (k : Nat) = i) (n : Nat) (hl : lv[n]? = some (i, .int v)) (kk : ojJ X V Q x σ (pc + 1) lv (.int v :: rest)) : ojJ X V Q x σ pc lv rest :=
  fun o ho ls H locs g => lv_iload_n hc.1 hc.2.1 hd hi (oj_get g.1 hl) (kk o ho ls H locs g)
theorem oj_iload (hc : ojC X V own cc nL L) {i : Nat} {v : Int32} (hd : decode cc pc = .ok (.iload i, 2)) (n : Nat) (hl : lv[n]? = some (i, .int v)) (kk : ojJ X V Q x σ (pc + 2) lv (.int v :: rest)) : ojJ X V Q x σ pc lv rest :=
  fun o ho ls H locs g => lv_iload hc.1 hc.2.1 hd (oj_get g.1 hl) (kk o ho ls H locs g)
theorem oj_aload_n (hc : ojC X V own cc nL L) {k : Fin 4} {i : Nat} {v : Nat} (hd : decode cc pc = .ok (.aload_n k, 1)) (hi : (k : Nat) = i) (n : Nat) (hl : lv[n]? = some (i, .ref v)) (kk : ojJ X V Q x σ (pc + 1) lv (.ref v :: rest)) : ojJ X V Q x σ pc lv rest :=
  fun o ho ls H locs g => lv_aload_n hc.1 hc.2.1 hd hi (oj_get g.1 hl) (kk o ho ls H locs g)
theorem oj_aload (hc : ojC X V own cc nL L) {i : Nat} {v : Nat} (hd : decode cc pc = .ok (.aload i, 2)) (n : Nat) (hl : lv[n]? = some (i, .ref v)) (kk : ojJ X V Q x σ (pc + 2) lv (.ref v :: rest)) : ojJ X V Q x σ pc lv rest :=
  fun o ho ls H locs g => lv_aload hc.1 hc.2.1 hd (oj_get g.1 hl) (kk o ho ls H locs g)
theorem oj_lload (hc : ojC X V own cc nL L) {i : Nat} {v : Int64} (hd : decode cc pc = .ok (.lload i, 2)) (n : Nat) (hl : lv[n]? = some (i, .long v)) (kk : ojJ X V Q x σ (pc + 2) lv (.long v :: rest)) : ojJ X V Q x σ pc lv rest :=
  fun o ho ls H locs g => lv_lload hc.1 hc.2.1 hd (oj_get g.1 hl) (kk o ho ls H locs g)
theorem oj_iconst (hc : ojC X V own cc nL L) {n : Int} (v : Int32) (hd : decode cc pc = .ok (.iconst n, 1)) (hv : Int32.ofInt n = v) (kk : ojJ X V Q x σ (pc + 1) lv (.int v :: rest)) : ojJ X V Q x σ pc lv rest :=
  fun o ho ls H locs g => lv_iconst hc.1 hc.2.1 hd hv (kk o ho ls H locs g)
theorem oj_bipush (hc : ojC X V own cc nL L) {n : Int} (v : Int32) (hd : decode cc pc = .ok (.bipush n, 2)) (hv : (Int8.ofInt n).toInt32 = v) (kk : ojJ X V Q x σ (pc + 2) lv (.int v :: rest)) : ojJ X V Q x σ pc lv rest :=
  fun o ho ls H locs g => lv_bipush hc.1 hc.2.1 hd hv (kk o ho ls H locs g)
theorem oj_sipush (hc : ojC X V own cc nL L) {n : Int} (v : Int32) (hd : decode cc pc = .ok (.sipush n, 3)) (hv : (Int16.ofInt n).toInt32 = v) (kk : ojJ X V Q x σ (pc + 3) lv (.int v :: rest)) : ojJ X V Q x σ pc lv rest :=
  fun o ho ls H locs g => lv_sipush hc.1 hc.2.1 hd hv (kk o ho ls H locs g)
theorem oj_ldc (hc : ojC X V own cc nL L) {ix : Nat} {v : Int32} (hk : Cond.constant own ix v ∈ ojT) (hd : decode cc pc = .ok (.ldc ix, 2)) (kk : ojJ X V Q x σ (pc + 2) lv (.int v :: rest)) : ojJ X V Q x σ pc lv rest :=
  fun o ho ls H locs g => lv_ldc hc.1 hc.2.1 hc.2.2.2.1 (hc.2.2.2.2.1 _ hk) hd (kk o ho ls H locs g)
theorem oj_ldc2 (hc : ojC X V own cc nL L) {ix : Nat} {v : Int64} (hk : Cond.constantLong own ix v ∈ ojT) (hd : decode cc pc = .ok (.ldc2_w ix, 3)) (kk : ojJ X V Q x σ (pc + 3) lv (.long v :: rest)) : ojJ X V Q x σ pc lv rest :=
  fun o ho ls H locs g => lv_ldc2 hc.1 hc.2.1 hc.2.2.2.1 (hc.2.2.2.2.1 _ hk) hd (kk o ho ls H locs g)
theorem oj_dup (hc : ojC X V own cc nL L) {v : Value} (hd : decode cc pc = .ok (.dup, 1)) (hv : v.category = 1) (kk : ojJ X V Q x σ (pc + 1) lv (v :: v :: rest)) : ojJ X V Q x σ pc lv (v :: rest) :=
  fun o ho ls H locs g => lv_dup hc.1 hc.2.1 hd hv (kk o ho ls H locs g)
theorem oj_dup2 (hc : ojC X V own cc nL L) {v u : Value} (hd : decode cc pc = .ok (.dup2, 1)) (hv : v.category = 1) (hu : u.category = 1) (kk : ojJ X V Q x σ (pc + 1) lv (v :: u :: v :: u :: rest)) : ojJ X V Q x σ pc lv (v :: u :: rest) :=
  fun o ho ls H locs g => lv_dup2_11 hc.1 hc.2.1 hd hv hu (kk o ho ls H locs g)
theorem oj_iadd (hc : ojC X V own cc nL L) {a b : Int32} (hd : decode cc pc = .ok (.iadd, 1)) (kk : ojJ X V Q x σ (pc + 1) lv (.int (a + b) :: rest)) : ojJ X V Q x σ pc lv (.int b :: .int a :: rest) :=
  fun o ho ls H locs g => lv_iadd hc.1 hc.2.1 hd (kk o ho ls H locs g)
theorem oj_isub (hc : ojC X V own cc nL L) {a b : Int32} (hd : decode cc pc = .ok (.isub, 1)) (kk : ojJ X V Q x σ (pc + 1) lv (.int (a - b) :: rest)) : ojJ X V Q x σ pc lv (.int b :: .int a :: rest) :=
  fun o ho ls H locs g => lv_isub hc.1 hc.2.1 hd (kk o ho ls H locs g)
theorem oj_imul (hc : ojC X V own cc nL L) {a b : Int32} (hd : decode cc pc = .ok (.imul, 1)) (kk : ojJ X V Q x σ (pc + 1) lv (.int (a * b) :: rest)) : ojJ X V Q x σ pc lv (.int b :: .int a :: rest) :=
  fun o ho ls H locs g => lv_imul hc.1 hc.2.1 hd (kk o ho ls H locs g)
theorem oj_iand (hc : ojC X V own cc nL L) {a b : Int32} (hd : decode cc pc = .ok (.iand, 1)) (kk : ojJ X V Q x σ (pc + 1) lv (.int (a &&& b) :: rest)) : ojJ X V Q x σ pc lv (.int b :: .int a :: rest) :=
  fun o ho ls H locs g => lv_iand hc.1 hc.2.1 hd (kk o ho ls H locs g)
theorem oj_idiv (hc : ojC X V own cc nL L) {a b : Int32} (hd : decode cc pc = .ok (.idiv, 1)) (hne : ¬ b = 0) (kk : ojJ X V Q x σ (pc + 1) lv (.int (a / b) :: rest)) : ojJ X V Q x σ pc lv (.int b :: .int a :: rest) :=
  fun o ho ls H locs g => lv_idiv hc.1 hc.2.1 hd hne (kk o ho ls H locs g)
theorem oj_irem (hc : ojC X V own cc nL L) {a b : Int32} (hd : decode cc pc = .ok (.irem, 1)) (hne : ¬ b = 0) (kk : ojJ X V Q x σ (pc + 1) lv (.int (ojRem a b) :: rest)) : ojJ X V Q x σ pc lv (.int b :: .int a :: rest) :=
  fun o ho ls H locs g => lv_irem hc.1 hc.2.1 hd hne (kk o ho ls H locs g)
theorem oj_nz {b : Int32} (kk : ¬ b = 0 → ojJ X V Q x σ pc lv rest) : ojJ X V Q (ojNz b x) σ pc lv rest := fun o ho => by
  unfold ojNz at ho
  by_cases h : b = 0
  · rw [if_pos h] at ho; cases ho
  · rw [if_neg h] at ho; exact kk h o ho
theorem oj_nzL {b : Int64} (kk : ¬ b = 0 → ojJ X V Q x σ pc lv rest) : ojJ X V Q (ojNzL b x) σ pc lv rest := fun o ho => by
  unfold ojNzL at ho
  by_cases h : b = 0
  · rw [if_pos h] at ho; cases ho
  · rw [if_neg h] at ho; exact kk h o ho
theorem oj_chk {i : Int32} {n : Nat} (kk : vp_in i n → ojJ X V Q x σ pc lv rest) : ojJ X V Q (ojChk i n x) σ pc lv rest := fun o ho => by
  unfold ojChk at ho
  by_cases h : i < 0 ∨ n ≤ i.toNatClampNeg
  · rw [if_pos h] at ho; cases ho
  · rw [if_neg h] at ho; exact kk h o ho
theorem oj_bl {v : Int32} (kk : (v = 0 ∨ v = 1) → ojJ X V Q x σ pc lv rest) : ojJ X V Q (ojBl v x) σ pc lv rest := fun o ho => by
  unfold ojBl at ho
  by_cases h : v = 0 ∨ v = 1
  · rw [if_pos h] at ho; exact kk h o ho
  · rw [if_neg h] at ho; cases ho
theorem oj_nm {v : Int32} {K : Int32 → Option α} (kk : ∀ y : Int32, ojJ X V Q (K y) σ pc lv (.int y :: rest)) : ojJ X V Q (ojLet v K) σ pc lv (.int v :: rest) := kk v
theorem oj_nmL {v : Int64} {K : Int64 → Option α} (kk : ∀ y : Int64, ojJ X V Q (K y) σ pc lv (.long y :: rest)) : ojJ X V Q (ojLet v K) σ pc lv (.long v :: rest) := kk v
theorem oj_i2l (hc : ojC X V own cc nL L) {a : Int32} (hd : decode cc pc = .ok (.i2l, 1)) (kk : ojJ X V Q x σ (pc + 1) lv (.long a.toInt64 :: rest)) : ojJ X V Q x σ pc lv (.int a :: rest) :=
  fun o ho ls H locs g => lv_i2l hc.1 hc.2.1 hd rfl (kk o ho ls H locs g)
theorem oj_l2i (hc : ojC X V own cc nL L) {a : Int64} (hd : decode cc pc = .ok (.l2i, 1)) (kk : ojJ X V Q x σ (pc + 1) lv (.int a.toInt32 :: rest)) : ojJ X V Q x σ pc lv (.long a :: rest) :=
  fun o ho ls H locs g => lv_l2i hc.1 hc.2.1 hd rfl (kk o ho ls H locs g)
theorem oj_lmul (hc : ojC X V own cc nL L) {a b : Int64} (hd : decode cc pc = .ok (.lmul, 1)) (kk : ojJ X V Q x σ (pc + 1) lv (.long (a * b) :: rest)) : ojJ X V Q x σ pc lv (.long b :: .long a :: rest) :=
  fun o ho ls H locs g => lv_lmul hc.1 hc.2.1 hd (kk o ho ls H locs g)
theorem oj_ldiv (hc : ojC X V own cc nL L) {a b : Int64} (hd : decode cc pc = .ok (.ldiv, 1)) (hne : ¬ b = 0) (kk : ojJ X V Q x σ (pc + 1) lv (.long (a / b) :: rest)) : ojJ X V Q x σ pc lv (.long b :: .long a :: rest) :=
  fun o ho ls H locs g => lv_ldiv hc.1 hc.2.1 hd hne (kk o ho ls H locs g)
theorem oj_lrem (hc : ojC X V own cc nL L) {a b : Int64} (hd : decode cc pc = .ok (.lrem, 1)) (hne : ¬ b = 0) (kk : ojJ X V Q x σ (pc + 1) lv (.long (ojRemL a b) :: rest)) : ojJ X V Q x σ pc lv (.long b :: .long a :: rest) :=
  fun o ho ls H locs g => lv_lrem hc.1 hc.2.1 hd hne (kk o ho ls H locs g)
theorem oj_st_ok {i n : Nat} {v : Value} {ls : Array Slot} {lv lv' : List (Nat × Value)} (hs : ojSt lv i v = lv') (h : lv_has ls n ((i, v) :: lv.filter (fun q => !(q.1 == i) && !(q.1 + 1 == i && q.2.category == 2)))) : lv_has ls n lv' := by
  rw [← hs]
  exact oj_has h (fun q hq => ojIns_mem hq)
theorem oj_istore (hc : ojC X V own cc nL L) {i : Nat} {v : Int32} (lv' : List (Nat × Value)) (hs : ojSt lv i (.int v) = lv') (hn : i < nL) (hd : decode cc pc = .ok (.istore i, 2)) (kk : ojJ X V Q x σ (pc + 2) lv' rest) : ojJ X V Q x σ pc lv (.int v :: rest) :=
  fun o ho ls H locs g => lv_istore hc.1 hc.2.1 hd g.1 (by rw [hc.2.2.2.2.2.2.1]; exact hn) rfl (fun ls' hl' => kk o ho ls' H locs ⟨oj_st_ok hs hl', g.2⟩)
theorem oj_istore_n (hc : ojC X V own cc nL L) {k : Fin 4} {i : Nat} {v : Int32} (lv' : List (Nat × Value)) (hs : ojSt lv i (.int v) = lv') (hn : i < nL) (hd : decode cc pc = .ok (.istore_n k, 1)) (hi : (k : Nat) = i) (kk : ojJ X V Q x σ (pc + 1) lv' rest) : ojJ X V Q x σ pc lv (.int v :: rest) :=
  fun o ho ls H locs g => lv_istore_n hc.1 hc.2.1 hd hi g.1 (by rw [hc.2.2.2.2.2.2.1]; exact hn) rfl (fun ls' hl' => kk o ho ls' H locs ⟨oj_st_ok hs hl', g.2⟩)
theorem oj_astore (hc : ojC X V own cc nL L) {i : Nat} {v : Nat} (lv' : List (Nat × Value)) (hs : ojSt lv i (.ref v) = lv') (hn : i < nL) (hd : decode cc pc = .ok (.astore i, 2)) (kk : ojJ X V Q x σ (pc + 2) lv' rest) : ojJ X V Q x σ pc lv (.ref v :: rest) :=
  fun o ho ls H locs g => lv_astore hc.1 hc.2.1 hd g.1 (by rw [hc.2.2.2.2.2.2.1]; exact hn) rfl (fun ls' hl' => kk o ho ls' H locs ⟨oj_st_ok hs hl', g.2⟩)
theorem oj_astore_n (hc : ojC X V own cc nL L) {k : Fin 4} {i : Nat} {v : Nat} (lv' : List (Nat × Value)) (hs : ojSt lv i (.ref v) = lv') (hn : i < nL) (hd : decode cc pc = .ok (.astore_n k, 1)) (hi : (k : Nat) = i) (kk : ojJ X V Q x σ (pc + 1) lv' rest) : ojJ X V Q x σ pc lv (.ref v :: rest) :=
  fun o ho ls H locs g => lv_astore_n hc.1 hc.2.1 hd hi g.1 (by rw [hc.2.2.2.2.2.2.1]; exact hn) rfl (fun ls' hl' => kk o ho ls' H locs ⟨oj_st_ok hs hl', g.2⟩)
theorem oj_lstore (hc : ojC X V own cc nL L) {i : Nat} {v : Int64} (lv' : List (Nat × Value)) (hs : ojStL lv i (.long v) = lv') (hn : i + 1 < nL) (hd : decode cc pc = .ok (.lstore i, 2)) (kk : ojJ X V Q x σ (pc + 2) lv' rest) : ojJ X V Q x σ pc lv (.long v :: rest) :=
  fun o ho ls H locs g => lv_lstore hc.1 hc.2.1 hd g.1 (by rw [hc.2.2.2.2.2.2.1]; exact hn) rfl (fun ls' hl' => kk o ho ls' H locs ⟨by rw [← hs]; exact oj_has hl' (fun q hq => ojIns_mem hq), g.2⟩)
theorem oj_iinc (hc : ojC X V own cc nL L) {i : Nat} {n : Int} {v : Int32} (d : Int32) (lv' : Int32 → List (Nat × Value)) {K : Int32 → Option α} (k : Nat) (hk : lv[k]? = some (i, .int v)) (hv : Int32.ofInt n = d) (hs : ∀ u : Int32, ojSt lv i (.int u) = lv' u) (hn : i < nL) (hd : decode cc pc = .ok (.iinc i n, 3)) (kk : ∀ u : Int32, ojJ X V Q (K u) σ (pc + 3) (lv' u) rest) : ojJ X V Q (ojLet (v + d) K) σ pc lv rest :=
  fun o ho ls H locs g => lv_iinc (v := v + d) hc.1 hc.2.1 hd g.1 hk (by rw [hv]) (by rw [hc.2.2.2.2.2.2.1]; exact hn) rfl (fun ls' hl' => kk (v + d) o ho ls' H locs ⟨oj_st_ok (hs _) hl', g.2⟩)
theorem oj_goto (hc : ojC X V own cc nL L) {off : Int} (tgt : Nat) (hd : decode cc pc = .ok (.goto off, 3)) (ht : (pc : Int) + off = (tgt : Int)) (kk : ojJ X V Q x σ tgt lv rest) : ojJ X V Q x σ pc lv rest :=
  fun o ho ls H locs g => lv_goto hc.1 hc.2.1 hd ht (kk o ho ls H locs g)
theorem oj_mmin (hc : ojC X V own cc nL L) {ix : Nat} {a b : Int32} (hL : 1 ≤ L) (hlink : Cond.methodLink own ix Lib.Math.min.name ∈ ojT) (hstat : Cond.static Lib.Math.min.name ∈ ojT) (hini : Cond.initialized "java/lang/Math" ∈ ojT) (hcode : Cond.code Lib.Math.min.name Lib.Math.min.code 2 (some .int) ∈ ojT) (hrest : (rest.map fun v => v.category).sum + 13 ≤ 60) (hd : decode cc pc = .ok (.invokestatic ix, 3)) (kk : ojJ X V Q x σ (pc + 3) lv (.int (ojMin a b) :: rest)) : ojJ X V Q x σ pc lv (.int b :: .int a :: rest) :=
  fun o ho ls H locs g => va_mmin hc.1 hc.2.1 (by rw [hc.2.2.1, g.1.1, hc.2.2.2.2.2.2.1]) hc.2.2.2.1 (hc.2.2.2.2.1 _ hlink) (hc.2.2.2.2.1 _ hstat) (hc.2.2.2.2.1 _ hini) (hc.2.2.2.2.1 _ hcode) (by rw [hc.2.2.2.2.2.2.2.1]; exact hL) (by rw [hc.2.2.2.2.2.2.2.1]; exact Nat.le_trans hrest (by show 60 ≤ 60 * L; omega)) (Nat.zero_le _) (Nat.zero_le _) hd (kk o ho ls H locs g)
theorem oj_mmax (hc : ojC X V own cc nL L) {ix : Nat} {a b : Int32} (hL : 1 ≤ L) (hlink : Cond.methodLink own ix Lib.Math.max.name ∈ ojT) (hstat : Cond.static Lib.Math.max.name ∈ ojT) (hini : Cond.initialized "java/lang/Math" ∈ ojT) (hcode : Cond.code Lib.Math.max.name Lib.Math.max.code 2 (some .int) ∈ ojT) (hrest : (rest.map fun v => v.category).sum + 13 ≤ 60) (hd : decode cc pc = .ok (.invokestatic ix, 3)) (kk : ojJ X V Q x σ (pc + 3) lv (.int (ojMax a b) :: rest)) : ojJ X V Q x σ pc lv (.int b :: .int a :: rest) :=
  fun o ho ls H locs g => va_mmax hc.1 hc.2.1 (by rw [hc.2.2.1, g.1.1, hc.2.2.2.2.2.2.1]) hc.2.2.2.1 (hc.2.2.2.2.1 _ hlink) (hc.2.2.2.2.1 _ hstat) (hc.2.2.2.2.1 _ hini) (hc.2.2.2.2.1 _ hcode) (by rw [hc.2.2.2.2.2.2.2.1]; exact hL) (by rw [hc.2.2.2.2.2.2.2.1]; exact Nat.le_trans hrest (by show 60 ≤ 60 * L; omega)) (Nat.zero_le _) (Nat.zero_le _) hd (kk o ho ls H locs g)
theorem oj_mabs (hc : ojC X V own cc nL L) {ix : Nat} {a : Int32} (hL : 1 ≤ L) (hlink : Cond.methodLink own ix Lib.Math.abs.name ∈ ojT) (hstat : Cond.static Lib.Math.abs.name ∈ ojT) (hini : Cond.initialized "java/lang/Math" ∈ ojT) (hcode : Cond.code Lib.Math.abs.name Lib.Math.abs.code 1 (some .int) ∈ ojT) (hrest : (rest.map fun v => v.category).sum + 13 ≤ 60) (hd : decode cc pc = .ok (.invokestatic ix, 3)) (kk : ojJ X V Q x σ (pc + 3) lv (.int (ojAbs a) :: rest)) : ojJ X V Q x σ pc lv (.int a :: rest) :=
  fun o ho ls H locs g => va_mabs hc.1 hc.2.1 (by rw [hc.2.2.1, g.1.1, hc.2.2.2.2.2.2.1]) hc.2.2.2.1 (hc.2.2.2.2.1 _ hlink) (hc.2.2.2.2.1 _ hstat) (hc.2.2.2.2.1 _ hini) (hc.2.2.2.2.1 _ hcode) (by rw [hc.2.2.2.2.2.2.2.1]; exact hL) (by rw [hc.2.2.2.2.2.2.2.1]; exact Nat.le_trans hrest (by show 60 ≤ 60 * L; omega)) (Nat.zero_le _) (Nat.zero_le _) hd (kk o ho ls H locs g)
end ojR
section ojBr
variable {α : Type} {X : ojX} {V : ojV} {Q : α → State → Prop} {x x2 : Option α} {σ : ojS} {pc : Nat} {lv : List (Nat × Value)} {rest : List Value} {own : String} {cc : ByteArray} {nL L : Nat}
theorem oj_icmp_eq (hc : ojC X V own cc nL L) {a b : Int32} {off : Int} (tgt : Nat) (hd : decode cc pc = .ok (.if_icmp .eq off, 3)) (ht : (pc : Int) + off = (tgt : Int)) (kt : a = b → ojJ X V Q x σ tgt lv rest) (kf : ojJ X V Q x2 σ (pc + 3) lv rest) : ojJ X V Q (if a = b then x else x2) σ pc lv (.int b :: .int a :: rest) :=
  fun o ho ls H locs g => lv_icmp_eq hc.1 hc.2.1 hd ht (fun h => kt h o (by rwa [if_pos h] at ho) ls H locs g) (fun h => kf o (by rwa [if_neg h] at ho) ls H locs g)
theorem oj_if_eq (hc : ojC X V own cc nL L) {a : Int32} {off : Int} (tgt : Nat) (hd : decode cc pc = .ok (.ifCond .eq off, 3)) (ht : (pc : Int) + off = (tgt : Int)) (kt : a = 0 → ojJ X V Q x σ tgt lv rest) (kf : ojJ X V Q x2 σ (pc + 3) lv rest) : ojJ X V Q (if a = 0 then x else x2) σ pc lv (.int a :: rest) :=
  fun o ho ls H locs g => lv_if_eq hc.1 hc.2.1 hd ht (fun h => kt h o (by rwa [if_pos h] at ho) ls H locs g) (fun h => kf o (by rwa [if_neg h] at ho) ls H locs g)
theorem oj_icmp_ne (hc : ojC X V own cc nL L) {a b : Int32} {off : Int} (tgt : Nat) (hd : decode cc pc = .ok (.if_icmp .ne off, 3)) (ht : (pc : Int) + off = (tgt : Int)) (kt : ojJ X V Q x2 σ tgt lv rest) (kf : a = b → ojJ X V Q x σ (pc + 3) lv rest) : ojJ X V Q (if a = b then x else x2) σ pc lv (.int b :: .int a :: rest) :=
  fun o ho ls H locs g => lv_icmp_ne hc.1 hc.2.1 hd ht (fun h => kt o (by rwa [if_neg h] at ho) ls H locs g) (fun h => kf h o (by rwa [if_pos h] at ho) ls H locs g)
theorem oj_if_ne (hc : ojC X V own cc nL L) {a : Int32} {off : Int} (tgt : Nat) (hd : decode cc pc = .ok (.ifCond .ne off, 3)) (ht : (pc : Int) + off = (tgt : Int)) (kt : ojJ X V Q x2 σ tgt lv rest) (kf : a = 0 → ojJ X V Q x σ (pc + 3) lv rest) : ojJ X V Q (if a = 0 then x else x2) σ pc lv (.int a :: rest) :=
  fun o ho ls H locs g => lv_if_ne hc.1 hc.2.1 hd ht (fun h => kt o (by rwa [if_neg h] at ho) ls H locs g) (fun h => kf h o (by rwa [if_pos h] at ho) ls H locs g)
theorem oj_icmp_lt (hc : ojC X V own cc nL L) {a b : Int32} {off : Int} (tgt : Nat) (hd : decode cc pc = .ok (.if_icmp .lt off, 3)) (ht : (pc : Int) + off = (tgt : Int)) (kt : a < b → ojJ X V Q x σ tgt lv rest) (kf : ojJ X V Q x2 σ (pc + 3) lv rest) : ojJ X V Q (if a < b then x else x2) σ pc lv (.int b :: .int a :: rest) :=
  fun o ho ls H locs g => lv_icmp_lt hc.1 hc.2.1 hd ht (fun h => kt h o (by rwa [if_pos h] at ho) ls H locs g) (fun h => kf o (by rwa [if_neg h] at ho) ls H locs g)
theorem oj_if_lt (hc : ojC X V own cc nL L) {a : Int32} {off : Int} (tgt : Nat) (hd : decode cc pc = .ok (.ifCond .lt off, 3)) (ht : (pc : Int) + off = (tgt : Int)) (kt : a < 0 → ojJ X V Q x σ tgt lv rest) (kf : ojJ X V Q x2 σ (pc + 3) lv rest) : ojJ X V Q (if a < 0 then x else x2) σ pc lv (.int a :: rest) :=
  fun o ho ls H locs g => lv_if_lt hc.1 hc.2.1 hd ht (fun h => kt h o (by rwa [if_pos h] at ho) ls H locs g) (fun h => kf o (by rwa [if_neg h] at ho) ls H locs g)
theorem oj_icmp_ge (hc : ojC X V own cc nL L) {a b : Int32} {off : Int} (tgt : Nat) (hd : decode cc pc = .ok (.if_icmp .ge off, 3)) (ht : (pc : Int) + off = (tgt : Int)) (kt : b ≤ a → ojJ X V Q x σ tgt lv rest) (kf : ojJ X V Q x2 σ (pc + 3) lv rest) : ojJ X V Q (if b ≤ a then x else x2) σ pc lv (.int b :: .int a :: rest) :=
  fun o ho ls H locs g => lv_icmp_ge hc.1 hc.2.1 hd ht (fun h => kt h o (by rwa [if_pos h] at ho) ls H locs g) (fun h => kf o (by rwa [if_neg h] at ho) ls H locs g)
theorem oj_if_ge (hc : ojC X V own cc nL L) {a : Int32} {off : Int} (tgt : Nat) (hd : decode cc pc = .ok (.ifCond .ge off, 3)) (ht : (pc : Int) + off = (tgt : Int)) (kt : 0 ≤ a → ojJ X V Q x σ tgt lv rest) (kf : ojJ X V Q x2 σ (pc + 3) lv rest) : ojJ X V Q (if 0 ≤ a then x else x2) σ pc lv (.int a :: rest) :=
  fun o ho ls H locs g => lv_if_ge hc.1 hc.2.1 hd ht (fun h => kt h o (by rwa [if_pos h] at ho) ls H locs g) (fun h => kf o (by rwa [if_neg h] at ho) ls H locs g)
theorem oj_icmp_gt (hc : ojC X V own cc nL L) {a b : Int32} {off : Int} (tgt : Nat) (hd : decode cc pc = .ok (.if_icmp .gt off, 3)) (ht : (pc : Int) + off = (tgt : Int)) (kt : b < a → ojJ X V Q x σ tgt lv rest) (kf : ojJ X V Q x2 σ (pc + 3) lv rest) : ojJ X V Q (if b < a then x else x2) σ pc lv (.int b :: .int a :: rest) :=
  fun o ho ls H locs g => lv_icmp_gt hc.1 hc.2.1 hd ht (fun h => kt h o (by rwa [if_pos h] at ho) ls H locs g) (fun h => kf o (by rwa [if_neg h] at ho) ls H locs g)
theorem oj_if_gt (hc : ojC X V own cc nL L) {a : Int32} {off : Int} (tgt : Nat) (hd : decode cc pc = .ok (.ifCond .gt off, 3)) (ht : (pc : Int) + off = (tgt : Int)) (kt : 0 < a → ojJ X V Q x σ tgt lv rest) (kf : ojJ X V Q x2 σ (pc + 3) lv rest) : ojJ X V Q (if 0 < a then x else x2) σ pc lv (.int a :: rest) :=
  fun o ho ls H locs g => lv_if_gt hc.1 hc.2.1 hd ht (fun h => kt h o (by rwa [if_pos h] at ho) ls H locs g) (fun h => kf o (by rwa [if_neg h] at ho) ls H locs g)
theorem oj_icmp_le (hc : ojC X V own cc nL L) {a b : Int32} {off : Int} (tgt : Nat) (hd : decode cc pc = .ok (.if_icmp .le off, 3)) (ht : (pc : Int) + off = (tgt : Int)) (kt : a ≤ b → ojJ X V Q x σ tgt lv rest) (kf : ojJ X V Q x2 σ (pc + 3) lv rest) : ojJ X V Q (if a ≤ b then x else x2) σ pc lv (.int b :: .int a :: rest) :=
  fun o ho ls H locs g => lv_icmp_le hc.1 hc.2.1 hd ht (fun h => kt h o (by rwa [if_pos h] at ho) ls H locs g) (fun h => kf o (by rwa [if_neg h] at ho) ls H locs g)
theorem oj_if_le (hc : ojC X V own cc nL L) {a : Int32} {off : Int} (tgt : Nat) (hd : decode cc pc = .ok (.ifCond .le off, 3)) (ht : (pc : Int) + off = (tgt : Int)) (kt : a ≤ 0 → ojJ X V Q x σ tgt lv rest) (kf : ojJ X V Q x2 σ (pc + 3) lv rest) : ojJ X V Q (if a ≤ 0 then x else x2) σ pc lv (.int a :: rest) :=
  fun o ho ls H locs g => lv_if_le hc.1 hc.2.1 hd ht (fun h => kt h o (by rwa [if_pos h] at ho) ls H locs g) (fun h => kf o (by rwa [if_neg h] at ho) ls H locs g)
end ojBr
end
section
/-! fields, arrays, calls, contracts -/
def ojF (own : String) (ix ci j : Nat) : Prop := ∃ (C : String) (T : u_T) (N : Nat), vwCl[ci]? = some (C, T, N) ∧ (∀ w ∈ u_ws C T N, w ∈ ojT) ∧ j < N ∧ Cond.fieldLink own ix (T j).1 (T j).2.1 (T j).2.2.1 ∈ ojT
def ojFp (own : String) (ix ci j : Nat) (ty : FieldType) : Prop := ∃ (C : String) (T : u_T) (N : Nat) (tt : Nat → FieldType), vwCl[ci]? = some (C, T, N) ∧ (∀ w ∈ u_ws C T N, w ∈ ojT) ∧ j < N ∧ Cond.fieldLink own ix (T j).1 (T j).2.1 (T j).2.2.1 ∈ ojT ∧ (∀ k, k < N → parseFieldDescriptor (T k).2.2.1 = some (tt k)) ∧ (∀ a, a < N → ∀ b, b < N → a ≠ b → (T a).2.1 ≠ (T b).2.1) ∧ (T j).2.2.2 = false ∧ parseFieldDescriptor (T j).2.2.1 = some ty
section ojH
variable {α : Type} {X : ojX} {V : ojV} {Q : α → State → Prop} {x x2 : Option α} {σ : ojS} {pc : Nat} {lv : List (Nat × Value)} {rest : List Value} {own : String} {cc : ByteArray} {nL L : Nat}
theorem oj_getf (hc : ojC X V own cc nL L) {ix ci j k a : Nat} {fs : List Value} {v : Value} (hf : ojF own ix ci j) (he : (V.2.2.2 σ)[k]? = some (a, .inr (ci, fs))) (hv : fs[j]? = some v) (hd : decode cc pc = .ok (.getfield ix, 3)) (kk : ojJ X V Q x σ (pc + 3) lv (v :: rest)) : ojJ X V Q x σ pc lv (.ref a :: rest) := by
  intro o ho ls H locs g
  obtain ⟨C, T, N, h1, h2, h3, h4⟩ := hf
  exact va_get (D := V.2.1) (ci := ci) (v := v) (C := C) (T := T) (N := N) hc.1 hc.2.1 hc.2.2.2.2.1 h2 hc.2.2.2.1 hc.2.2.2.2.2.1 g.2.1 k he h1 j h3 (hc.2.2.2.2.1 _ h4) (fun _ h9 => h9) hv hd (kk o ho ls H locs g)
theorem oj_putf (hc : ojC X V own cc nL L) {ix ci j k a : Nat} {fs : List Value} {ty : FieldType} {v : Int32} {K : ojS → Option α} (hf : ojFp own ix ci j ty) (he : (V.2.2.2 σ)[k]? = some (a, .inr (ci, fs))) (hset : ∀ v : Int32, (V.2.2.2 σ).set k (a, .inr (ci, fs.set j (.int v))) = V.2.2.2 (ojU σ k j v)) (hn : narrow ty (.int v) = .int v) (hft : fits ty (.int v) = true) (hl : j < fs.length) (hd : decode cc pc = .ok (.putfield ix, 3)) (kk : ∀ σ1 : ojS, ojJ X V Q (K σ1) σ1 (pc + 3) lv rest) : ojJ X V Q (ojLet (ojU σ k j v) K) σ pc lv (.int v :: .ref a :: rest) := by
  intro o ho ls H locs g
  obtain ⟨C, T, N, tt, h1, h2, h3, h4, h5, h6, h7, h8⟩ := hf
  exact va_put (D := V.2.1) (ci := ci) (v := .int v) (ty := ty) (C := C) (T := T) (N := N) hc.1 hc.2.1 hc.2.2.2.2.1 h2 tt h5 h6 hc.2.2.2.1 hc.2.2.2.2.2.1 g.2.1 g.2.2.1 g.2.2.2 k he h1 j h3 (hc.2.2.2.2.1 _ h4) (fun _ h9 => h9) h7 h8 hn hft hl hd (fun H1 locs1 hP hD hS => kk _ o ho ls H1 locs1 ⟨g.1, by rw [← hset]; exact hP, by rw [← hset]; exact hD, hS⟩)
theorem oj_iald (hc : ojC X V own cc nL L) {k a n : Nat} (t0 : Nat) {cA : ClassId} {f : Nat → Int32} {i : Int32} (he : (V.2.2.2 σ)[k]? = some (a, .inl (cA, n, .inl f))) (ht : V.2.2.1[t0]? = some (cA, .int)) (hd : decode cc pc = .ok (.iaload, 1)) (kk : ojJ X V Q x σ (pc + 1) lv (.int (f i.toNatClampNeg) :: rest)) : ojJ X V Q (ojChk i n x) σ pc lv (.int i :: .ref a :: rest) :=
  oj_chk (fun h o ho ls H locs g => va_iald hc.1 hc.2.1 hc.2.2.2.2.2.1 g.2.1 k t0 he ht h hd (kk o ho ls H locs g))
theorem oj_zald (hc : ojC X V own cc nL L) {k a n : Nat} (t0 : Nat) {cA : ClassId} {f : Nat → Int32} {i : Int32} (he : (V.2.2.2 σ)[k]? = some (a, .inl (cA, n, .inl f))) (ht : V.2.2.1[t0]? = some (cA, .boolean)) (hd : decode cc pc = .ok (.baload, 1)) (kk : ojJ X V Q x σ (pc + 1) lv (.int (f i.toNatClampNeg) :: rest)) : ojJ X V Q (ojChk i n x) σ pc lv (.int i :: .ref a :: rest) :=
  oj_chk (fun h o ho ls H locs g => va_zald hc.1 hc.2.1 hc.2.2.2.2.2.1 g.2.1 k t0 he ht h hd (kk o ho ls H locs g))
theorem oj_aald (hc : ojC X V own cc nL L) {k a n : Nat} (t0 : Nat) {cA : ClassId} {C : String} {f : Nat → Nat} {i : Int32} (he : (V.2.2.2 σ)[k]? = some (a, .inl (cA, n, .inr (.inr (.inr (.inr (fun j => some (f j)))))))) (ht : V.2.2.1[t0]? = some (cA, .object C)) (hd : decode cc pc = .ok (.aaload, 1)) (kk : i.toNatClampNeg < n → ojJ X V Q x σ (pc + 1) lv (.ref (f i.toNatClampNeg) :: rest)) : ojJ X V Q (ojChk i n x) σ pc lv (.int i :: .ref a :: rest) :=
  oj_chk (fun h o ho ls H locs g => va_aldq hc.1 hc.2.1 hc.2.2.2.2.2.1 g.2.1 k t0 he ht h hd (kk (Nat.not_le.mp fun q => h (Or.inr q)) o ho ls H locs g))
theorem oj_iast (hc : ojC X V own cc nL L) {k a n : Nat} (t0 : Nat) {cA : ClassId} {f : Nat → Int32} {i v : Int32} {K : ojS → Option α} (he : (V.2.2.2 σ)[k]? = some (a, .inl (cA, n, .inl f))) (hset : ∀ f', (V.2.2.2 σ).set k (a, .inl (cA, n, .inl f')) = V.2.2.2 (ojW σ k f')) (hf : f = σ k) (ht : V.2.2.1[t0]? = some (cA, .int)) (hd : decode cc pc = .ok (.iastore, 1)) (kk : ∀ σ1 : ojS, ojJ X V Q (K σ1) σ1 (pc + 1) lv rest) : ojJ X V Q (ojChk i n (ojLet (ojU σ k i.toNatClampNeg v) K)) σ pc lv (.int v :: .int i :: .ref a :: rest) :=
  oj_chk (fun h o ho ls H locs g => va_iast hc.1 hc.2.1 hc.2.2.2.2.2.1 g.2.1 g.2.2.1 g.2.2.2 k t0 he ht h hd (fun H1 locs1 hP hD hS => by
    rw [hset, hf] at hP hD
    exact kk _ o ho ls H1 locs1 ⟨g.1, hP, hD, hS⟩))
theorem oj_zast (hc : ojC X V own cc nL L) {k a n : Nat} (t0 : Nat) {cA : ClassId} {f : Nat → Int32} {i v : Int32} {K : ojS → Option α} (he : (V.2.2.2 σ)[k]? = some (a, .inl (cA, n, .inl f))) (hset : ∀ f', (V.2.2.2 σ).set k (a, .inl (cA, n, .inl f')) = V.2.2.2 (ojW σ k f')) (hf : f = σ k) (ht : V.2.2.1[t0]? = some (cA, .boolean)) (hd : decode cc pc = .ok (.bastore, 1)) (kk : ∀ σ1 : ojS, ojJ X V Q (K σ1) σ1 (pc + 1) lv rest) : ojJ X V Q (ojChk i n (ojLet (ojU σ k i.toNatClampNeg (vp_nar .boolean v)) K)) σ pc lv (.int v :: .int i :: .ref a :: rest) :=
  oj_chk (fun h o ho ls H locs g => va_zast hc.1 hc.2.1 hc.2.2.2.2.2.1 g.2.1 g.2.2.1 g.2.2.2 k t0 he ht h hd (fun H1 locs1 hP hD hS => by
    rw [hset, hf] at hP hD
    exact kk _ o ho ls H1 locs1 ⟨g.1, hP, hD, hS⟩))
theorem oj_tableOut (hc : ojC X V own cc nL L) {dflt lo hi : Int} {offs : Array Int} {len : Nat} {v : Int32} (tgt : Nat) (hd : decode cc pc = .ok (.tableswitch dflt lo hi offs, len)) (h : v.toInt < lo ∨ hi < v.toInt) (ht : (pc : Int) + dflt = (tgt : Int)) (kk : ojJ X V Q x σ tgt lv rest) : ojJ X V Q x σ pc lv (.int v :: rest) :=
  fun o ho ls H locs g => lv_tableOut hc.1 hc.2.1 hd h ht (kk o ho ls H locs g)
theorem oj_tableIn (hc : ojC X V own cc nL L) {dflt lo hi : Int} {offs : Array Int} {len : Nat} {v : Int32} {off : Int} (tgt : Nat) (hd : decode cc pc = .ok (.tableswitch dflt lo hi offs, len)) (h1 : ¬ v.toInt < lo) (h2 : ¬ hi < v.toInt) (hof : offs[(v.toInt - lo).toNat]? = some off) (ht : (pc : Int) + off = (tgt : Int)) (kk : ojJ X V Q x σ tgt lv rest) : ojJ X V Q x σ pc lv (.int v :: rest) :=
  fun o ho ls H locs g => lv_tableIn hc.1 hc.2.1 hd h1 h2 hof ht (kk o ho ls H locs g)
theorem oj_ite {p : Prop} [Decidable p] {st : List Value} (h1 : p → ojJ X V Q x σ pc lv st) (h2 : ¬ p → ojJ X V Q x2 σ pc lv st) : ojJ X V Q (if p then x else x2) σ pc lv st := by
  by_cases h : p
  · rw [if_pos h]; exact h1 h
  · rw [if_neg h]; exact h2 h
theorem oj_fix {γ : Type} {bot : γ} (P : γ → Prop) (F : γ → γ) (h0 : P bot) (hs : ∀ r, P r → P (F r)) : ∀ n, P (ojFix bot n F)
  | 0 => h0
  | n + 1 => hs _ (oj_fix P F h0 hs n)
theorem oj_join {γ : Type} {k : γ} {b : γ → Option α} {st : List Value} (P : γ → Prop) (hk : P k) (hb : ∀ k', P k' → ojJ X V Q (b k') σ pc lv st) : ojJ X V Q (ojJoin k b) σ pc lv st := hb k hk
end ojH
/-! contracts -/
def ojPc (V : ojV) (av : List Value) (σ : ojS) (sz : Nat) : Array Value → State → Prop := va_Pc av (fun U => U.heap.size = sz ∧ va_P V.2.1 vwCl (V.2.2.2 σ) U.heap ∧ va_K V.2.1 vwCl V.2.2.1 U ∧ va_D (fun _ => True) (V.2.2.2 σ))
def ojB (V : ojV) (A : Nat → Prop) (σ : ojS) (t : State) : Prop := va_P V.2.1 vwCl (V.2.2.2 σ) t.heap ∧ va_K V.2.1 vwCl V.2.2.1 t ∧ va_D A (V.2.2.2 σ)
abbrev ojWs (y : MethodName) (cc : ByteArray) (maxL : Nat) (ret : Option FieldType) : List Cond := Cond.code y cc maxL ret :: ojT
def ojMi (V : ojV) (y : MethodName) (cc : ByteArray) (maxL : Nat) (ret : Option FieldType) (L : Nat) (av : List Value) (σ : ojS) (r : Int32) (σ' : ojS) : Prop :=
  ∀ sz : Nat, Met V.1 y (ojWs y cc maxL ret) (ojRm L) (ojPc V av σ sz) (va_Qi (fun r' u => r' = r ∧ u = σ') (ojB V (va_A (V.2.2.2 σ) sz)) (va_A (V.2.2.2 σ) sz)) 0 0 (va_A (V.2.2.2 σ) sz)
def ojMv (V : ojV) (y : MethodName) (cc : ByteArray) (maxL : Nat) (ret : Option FieldType) (L : Nat) (av : List Value) (σ : ojS) (σ' : ojS) : Prop :=
  ∀ sz : Nat, Met V.1 y (ojWs y cc maxL ret) (ojRm L) (ojPc V av σ sz) (va_Qv (fun u => u = σ') (ojB V (va_A (V.2.2.2 σ) sz)) (va_A (V.2.2.2 σ) sz)) 0 0 (va_A (V.2.2.2 σ) sz)
theorem ojPc_blind {V : ojV} {av : List Value} {σ : ojS} {sz : Nat} : FrameBlind (ojPc V av σ sz) := fun a U g mk q => by
  obtain ⟨q0, q1, qP, qK, qD⟩ := q
  exact ⟨q0, q1, qP, va_K.moved (u := U) (U := U.calling g mk a) (Vm.Alike.refl U.vm) qK, qD⟩
section ojM
variable {V : ojV} {y : MethodName} {cc : ByteArray} {maxL L : Nat} {own : String} {ret : Option FieldType} {av : List Value} {σ : ojS} {lv0 : List (Nat × Value)}
theorem ojMi_W {x : Option (Int32 × ojS)} (hy : plainName y.cls = true) (hown : y.cls = own) (ty : FieldType) (hret : ret = some ty) (hlen : (lg_sl av).length ≤ maxL) (hlv : lv_args 0 av = lv0)
    (body : ∀ (X : ojX) (Q : Int32 × ojS → State → Prop), ojC X V own cc maxL L → (∀ (v : Int32) (σ1 : ojS) (pc : Nat) (lv : List (Nat × Value)), narrow ty (.int v) = .int v → decode cc pc = .ok (.ireturn, 1) → ojJ X V Q (some (v, σ1)) σ1 pc lv [.int v]) → ojJ X V Q x σ 0 lv0 []) :
    ∀ (r : Int32) (σ' : ojS), x = some (r, σ') → ojMi V y cc maxL ret L av σ r σ' := by
  intro r σ' hxx sz
  refine Met.ofW (cc := cc) (maxL := maxL) (ret := ret) hy rfl ?_
  intro p e s m args below meth c s₁ B hml hv
  obtain ⟨rfl, hsz, hP, hK, hD0⟩ := hv
  have hx := B.exec
  have hb := B.bytes
  have hr := B.returns
  have hts := atoms_spec (ws := ojWs y cc maxL ret) B.pre
  have hcl : s.vm.findClass own = some m.cls := by rw [← hown]; exact findClass_of_methodNamed B.named
  have hlocks := B.notSynchronized
  subst hsz
  have hD := hD0.self (sz := s.heap.size)
  have hl := lv_entry av hlen
  rw [lg_entry_eq]
  rw [hlv] at hl
  refine body (p, e, (headSpec (ojWs y cc maxL ret) (ojRm L)).room, s, m, av.toArray, below, meth, c, va_A (V.2.2.2 σ) s.heap.size, maxL) (fun o => MQ below (va_Qi (fun r' u => r' = o.1 ∧ u = o.2) (ojB V (va_A (V.2.2.2 σ) s.heap.size)) (va_A (V.2.2.2 σ) s.heap.size)) av.toArray s 0 0 (va_A (V.2.2.2 σ) s.heap.size)) ⟨hx, hb, hml, hcl, fun w hw => hts w (List.mem_cons_of_mem _ hw), hK, rfl, rfl, fun q h => Or.inr h⟩ ?_ (r, σ') hxx _ _ _ ⟨hl, hP, hD, va_S.rf⟩
  intro v σ1 pc lv hn hd o ho ls H locs g
  cases ho
  obtain ⟨g1, g2, g3, g4⟩ := g
  exact W.zret (ty := ty) (v := v) hx hb (by rw [hr, hret]) hn (fun t ht hW => ⟨⟨v, σ1, rfl, ⟨rfl, rfl⟩, by rw [ht]; exact g2, va_K.moved hW.alike hK, g3⟩, g4.F ht⟩) g4.2.2 hd
theorem ojMi_R {x : Option Int32} (hy : plainName y.cls = true) (hown : y.cls = own) (ty : FieldType) (hret : ret = some ty) (hlen : (lg_sl av).length ≤ maxL) (hlv : lv_args 0 av = lv0)
    (body : ∀ (X : ojX) (Q : Int32 → State → Prop), ojC X V own cc maxL L → (∀ (v : Int32) (pc : Nat) (lv : List (Nat × Value)), narrow ty (.int v) = .int v → decode cc pc = .ok (.ireturn, 1) → ojJ X V Q (some v) σ pc lv [.int v]) → ojJ X V Q x σ 0 lv0 []) :
    ∀ (r : Int32), x = some r → ojMi V y cc maxL ret L av σ r σ := by
  intro r hxx
  refine ojMi_W (x := some (r, σ)) hy hown ty hret hlen hlv (fun X Q hc hq => ?_) r σ rfl
  intro o ho
  cases ho
  exact body X (fun v => Q (v, σ)) hc (fun v pc lv hn hd o ho ls H locs g => by cases ho; exact hq v σ pc lv hn hd (v, σ) rfl ls H locs g) r hxx
theorem ojMv_W {x : Option ojS} (hy : plainName y.cls = true) (hown : y.cls = own) (hret : ret = none) (hlen : (lg_sl av).length ≤ maxL) (hlv : lv_args 0 av = lv0)
    (body : ∀ (X : ojX) (Q : ojS → State → Prop), ojC X V own cc maxL L → (∀ (σ1 : ojS) (pc : Nat) (lv : List (Nat × Value)), decode cc pc = .ok (.return_, 1) → ojJ X V Q (some σ1) σ1 pc lv []) → ojJ X V Q x σ 0 lv0 []) :
    ∀ (σ' : ojS), x = some σ' → ojMv V y cc maxL ret L av σ σ' := by
  intro σ' hxx sz
  refine Met.ofW (cc := cc) (maxL := maxL) (ret := ret) hy rfl ?_
  intro p e s m args below meth c s₁ B hml hv
  obtain ⟨rfl, hsz, hP, hK, hD0⟩ := hv
  have hx := B.exec
  have hb := B.bytes
  have hr := B.returns
  have hts := atoms_spec (ws := ojWs y cc maxL ret) B.pre
  have hcl : s.vm.findClass own = some m.cls := by rw [← hown]; exact findClass_of_methodNamed B.named
  have hlocks := B.notSynchronized
  subst hsz
  have hD := hD0.self (sz := s.heap.size)
  have hl := lv_entry av hlen
  rw [lg_entry_eq]
  rw [hlv] at hl
  refine body (p, e, (headSpec (ojWs y cc maxL ret) (ojRm L)).room, s, m, av.toArray, below, meth, c, va_A (V.2.2.2 σ) s.heap.size, maxL) (fun o => MQ below (va_Qv (fun u => u = o) (ojB V (va_A (V.2.2.2 σ) s.heap.size)) (va_A (V.2.2.2 σ) s.heap.size)) av.toArray s 0 0 (va_A (V.2.2.2 σ) s.heap.size)) ⟨hx, hb, hml, hcl, fun w hw => hts w (List.mem_cons_of_mem _ hw), hK, rfl, rfl, fun q h => Or.inr h⟩ ?_ σ' hxx _ _ _ ⟨hl, hP, hD, va_S.rf⟩
  intro σ1 pc lv hd o ho ls H locs g
  cases ho
  obtain ⟨g1, g2, g3, g4⟩ := g
  exact W.vret hx hb (by rw [hr, hret]) (fun t ht hW => ⟨⟨σ1, rfl, rfl, by rw [ht]; exact g2, va_K.moved hW.alike hK, g3⟩, g4.F ht⟩) g4.2.2 hd
end ojM
/-! calls -/
def ojCW (own : String) (ix : Nat) (y : MethodName) (cc : ByteArray) (maxL : Nat) (ret : Option FieldType) (n : Nat) : Prop :=
  Cond.methodLink own ix y ∈ ojT ∧ Cond.initialized y.cls ∈ ojT ∧ Cond.code y cc maxL ret ∈ ojT ∧ (y.cls ≠ "java/lang/invoke/MethodHandle" ∧ y.cls ≠ "java/lang/invoke/VarHandle" ∧ (parseMethodDescriptor y.desc).map (fun d => d.parameters.length) = some n) ∧ maxL ≤ 41
theorem oj_callB {R : Room} {s : State} {args : Array Value} {own : String} {ix : Nat} {y : MethodName} {cc : ByteArray} {maxL n L Lc : Nat} {ret : Option FieldType} (ht : ∀ w ∈ ojT, w.before args s = true) (h : ojCW own ix y cc maxL ret n) (hR : R = ojRm L) (hL : Lc + 1 ≤ L) : CallB R s args own ix y cc maxL ret (ojWs y cc maxL ret) (ojRm Lc) 0 0 n := by
  obtain ⟨h1, h2, h3, h4, h5⟩ := h
  refine callB_of n ht (fun w hw => ?_) rfl rfl rfl (ht _ h2) (ht _ h1) h4 ?_
  · rcases List.mem_cons.mp hw with rfl | hw
    · exact ⟨h3, ojT_good h3⟩
    · exact ⟨hw, ojT_good hw⟩
  · subst hR
    exact ⟨hL, by show 8 + (maxL + 11) + 60 * Lc ≤ 60 * L; omega⟩
section ojK
variable {α : Type} {X : ojX} {V : ojV} {Q : α → State → Prop} {σ : ojS} {pc : Nat} {lv : List (Nat × Value)} {rest st : List Value} {own : String} {cc bytes : ByteArray} {nL L maxL n ix Lc : Nat} {y : MethodName} {ret : Option FieldType}
theorem oj_free {A : Nat → Prop} {ws : va_W} {H0 H : Heap} {locs : List Loc} (hD : va_D A ws) (hS : va_S A H0 H locs) (hA : ∀ q, H0.size ≤ q → A q) : ∀ q, va_A ws H.size q → A q := by
  intro q h
  rcases h with ⟨k, e, h⟩ | h
  · exact hD.2 k (q, e) h
  · exact hA q (Nat.le_trans hS.1 h)
theorem oj_calli {g : Option (Int32 × ojS)} {K : Int32 → ojS → Option α} {av : List Value} (hc : ojC X V own cc nL L)
    (hrun : ∀ (r : Int32) (σ1 : ojS) (ls : Array Slot) (H : Heap) (locs : List Loc), g = some (r, σ1) → ojG X V σ lv ls H locs → va_Run X.1 V.1 X.2.1 X.2.2.1 X.2.2.2.1 X.2.2.2.2.1 X.2.2.2.2.2.1 X.2.2.2.2.2.2.1 X.2.2.2.2.2.2.2.1 X.2.2.2.2.2.2.2.2.1 H locs 0 0 0 0 (F0 X.2.2.2.2.1 pc ls st) rest (va_Qi (fun r' u => r' = r ∧ u = σ1) (ojB V (va_A (V.2.2.2 σ) H.size)) (va_A (V.2.2.2 σ) H.size) av.toArray) (va_A (V.2.2.2 σ) H.size))
    (kk : ∀ (r : Int32) (σ1 : ojS), ojJ X V Q (K r σ1) σ1 (pc + 3) lv (.int r :: rest)) : ojJ X V Q (ojB2 g K) σ pc lv st := by
  intro o ho ls H locs G
  cases hg : g with
  | none => rw [hg] at ho; cases ho
  | some q =>
    obtain ⟨r, σ1⟩ := q
    rw [hg] at ho
    have hF := oj_free G.2.2.1 G.2.2.2 hc.2.2.2.2.2.2.2.2
    refine va_calli (hrun r σ1 ls H locs hg G) G.2.2.2 (fun q _ h => hF q h) hF (fun r2 u t H1 locs1 ht hvm hw hB hz1 hk1 hS => ?_)
    obtain ⟨rfl, rfl⟩ := hw
    obtain ⟨hP1, hK1, hD1⟩ := hB
    rw [ht] at hP1
    exact kk r2 u o ho ls H1 locs1 ⟨G.1, hP1, hD1.weaken (fun _ q _ h => hF q.1 h), hS⟩
theorem oj_callv {g : Option ojS} {K : ojS → Option α} {av : List Value} (hc : ojC X V own cc nL L)
    (hrun : ∀ (σ1 : ojS) (ls : Array Slot) (H : Heap) (locs : List Loc), g = some σ1 → ojG X V σ lv ls H locs → va_Run X.1 V.1 X.2.1 X.2.2.1 X.2.2.2.1 X.2.2.2.2.1 X.2.2.2.2.2.1 X.2.2.2.2.2.2.1 X.2.2.2.2.2.2.2.1 X.2.2.2.2.2.2.2.2.1 H locs 0 0 0 0 (F0 X.2.2.2.2.1 pc ls st) rest (va_Qv (fun u => u = σ1) (ojB V (va_A (V.2.2.2 σ) H.size)) (va_A (V.2.2.2 σ) H.size) av.toArray) (va_A (V.2.2.2 σ) H.size))
    (kk : ∀ (σ1 : ojS), ojJ X V Q (K σ1) σ1 (pc + 3) lv rest) : ojJ X V Q (ojBv g K) σ pc lv st := by
  intro o ho ls H locs G
  cases hg : g with
  | none => rw [hg] at ho; cases ho
  | some σ1 =>
    rw [hg] at ho
    have hF := oj_free G.2.2.1 G.2.2.2 hc.2.2.2.2.2.2.2.2
    refine va_callv (hrun σ1 ls H locs hg G) G.2.2.2 (fun q _ h => hF q h) hF (fun u t H1 locs1 ht hvm hw hB hz1 hk1 hS => ?_)
    subst hw
    obtain ⟨hP1, hK1, hD1⟩ := hB
    rw [ht] at hP1
    exact kk u o ho ls H1 locs1 ⟨G.1, hP1, hD1.weaken (fun _ q _ h => hF q.1 h), hS⟩
theorem oj_pre {S : State} {H : Heap} {A : Nat → Prop} {H0 : Heap} {locs : List Loc} {av : List Value} (hK : va_K V.2.1 vwCl V.2.2.1 S) (hP : va_P V.2.1 vwCl (V.2.2.2 σ) H) (hD : va_D A (V.2.2.2 σ)) : ∀ U : State, U.heap = H → S.WarmedH U.vm → ojPc V av σ H.size av.toArray U :=
  fun U hU hW => ⟨rfl, by rw [hU], by rw [hU]; exact hP, va_K.moved hW.alike hK, hD.weaken (fun _ _ _ _ => trivial)⟩
def ojCV (own : String) (ix : Nat) (y : MethodName) (cc : ByteArray) (maxL : Nat) (ret : Option FieldType) (n ci : Nat) : Prop :=
  ojCW own ix y cc maxL ret n ∧ Cond.instanceMethod y ∈ ojT ∧ Cond.selects y.cls y y ∈ ojT ∧ ∃ q : vw_C, vwCl[ci]? = some q ∧ q.1 = y.cls
def ojCS (own : String) (ix : Nat) (y : MethodName) (cc : ByteArray) (maxL : Nat) (ret : Option FieldType) (n : Nat) : Prop :=
  ojCW own ix y cc maxL ret n ∧ Cond.static y ∈ ojT
theorem oj_cV2 {g : Option (Int32 × ojS)} {K : Int32 → ojS → Option α} {k b ci : Nat} {fs : List Value} (hc : ojC X V own cc nL L) (hw : ojCV own ix y bytes maxL ret n ci) (hL : Lc + 1 ≤ L) (he : (V.2.2.2 σ)[k]? = some (b, .inr (ci, fs))) (As rest : List Value) (hn : As.length = n) (hst : st = As.reverse ++ .ref b :: rest) (hrs : (rest.map fun v => v.category).sum ≤ 8) (hd : decode cc pc = .ok (.invokevirtual ix, 3))
    (hM : ∀ (r : Int32) (σ1 : ojS), g = some (r, σ1) → ojMi V y bytes maxL ret Lc (.ref b :: As) σ r σ1)
    (kk : ∀ (r : Int32) (σ1 : ojS), ojJ X V Q (K r σ1) σ1 (pc + 3) lv (.int r :: rest)) : ojJ X V Q (ojB2 g K) σ pc lv st := by
  obtain ⟨hw1, hw2, hw3, q, hq, hqc⟩ := hw
  refine oj_calli (av := .ref b :: As) hc (fun r σ1 ls H locs hg G => ?_) kk
  have hcc := hc
  obtain ⟨h1, h2, h3, h4, h5, h6, h7, h8, h9⟩ := hcc
  have hrec := va_recv h6 G.2.1 hq he
  rw [hqc] at hrec
  exact va_runV (As := As) (rest := rest) (C := y.cls) ⟨h1, h2, h3, h4, h5⟩ (hM r σ1 hg H.size) ⟨oj_callB h5 hw1 h8 hL, h5 _ hw2, h5 _ hw3⟩ ⟨ojPc_blind, hrec, oj_pre (locs := locs) (H0 := X.2.2.2.1.heap) h6 G.2.1 G.2.2.1⟩ rfl hn (G.1.1.trans h7) hst (lv_room hrs) hd ⟨Nat.zero_le _, Nat.zero_le _⟩
theorem oj_cV1 {g : Option Int32} {K : Int32 → Option α} {k b ci : Nat} {fs : List Value} (hc : ojC X V own cc nL L) (hw : ojCV own ix y bytes maxL ret n ci) (hL : Lc + 1 ≤ L) (he : (V.2.2.2 σ)[k]? = some (b, .inr (ci, fs))) (As rest : List Value) (hn : As.length = n) (hst : st = As.reverse ++ .ref b :: rest) (hrs : (rest.map fun v => v.category).sum ≤ 8) (hd : decode cc pc = .ok (.invokevirtual ix, 3))
    (hM : ∀ (r : Int32), g = some r → ojMi V y bytes maxL ret Lc (.ref b :: As) σ r σ)
    (kk : ∀ (r : Int32), ojJ X V Q (K r) σ (pc + 3) lv (.int r :: rest)) : ojJ X V Q (ojB1 g K) σ pc lv st := by
  classical
  intro o ho
  cases hg : g with
  | none => rw [hg] at ho; cases ho
  | some r =>
    rw [hg] at ho
    refine oj_cV2 (g := some (r, σ)) (K := fun r1 σ1 => if σ1 = σ ∧ r1 = r then K r else none) hc hw hL he As rest hn hst hrs hd (fun r' σ' h => by cases h; exact hM r hg) (fun r1 σ1 => ?_) o (by
      show (if σ = σ ∧ r = r then K r else none) = some o
      rw [if_pos ⟨rfl, rfl⟩]; exact ho)
    by_cases hq : σ1 = σ ∧ r1 = r
    · rw [if_pos hq, hq.1, hq.2]; exact kk r
    · rw [if_neg hq]; exact oj_none
theorem oj_cVv {g : Option ojS} {K : ojS → Option α} {k b ci : Nat} {fs : List Value} (hc : ojC X V own cc nL L) (hw : ojCV own ix y bytes maxL ret n ci) (hL : Lc + 1 ≤ L) (he : (V.2.2.2 σ)[k]? = some (b, .inr (ci, fs))) (As rest : List Value) (hn : As.length = n) (hst : st = As.reverse ++ .ref b :: rest) (hrs : (rest.map fun v => v.category).sum ≤ 8) (hd : decode cc pc = .ok (.invokevirtual ix, 3))
    (hM : ∀ (σ1 : ojS), g = some σ1 → ojMv V y bytes maxL ret Lc (.ref b :: As) σ σ1)
    (kk : ∀ (σ1 : ojS), ojJ X V Q (K σ1) σ1 (pc + 3) lv rest) : ojJ X V Q (ojBv g K) σ pc lv st := by
  obtain ⟨hw1, hw2, hw3, q, hq, hqc⟩ := hw
  refine oj_callv (av := .ref b :: As) hc (fun σ1 ls H locs hg G => ?_) kk
  have hcc := hc
  obtain ⟨h1, h2, h3, h4, h5, h6, h7, h8, h9⟩ := hcc
  have hrec := va_recv h6 G.2.1 hq he
  rw [hqc] at hrec
  exact va_runV (As := As) (rest := rest) (C := y.cls) ⟨h1, h2, h3, h4, h5⟩ (hM σ1 hg H.size) ⟨oj_callB h5 hw1 h8 hL, h5 _ hw2, h5 _ hw3⟩ ⟨ojPc_blind, hrec, oj_pre (locs := locs) (H0 := X.2.2.2.1.heap) h6 G.2.1 G.2.2.1⟩ rfl hn (G.1.1.trans h7) hst (lv_room hrs) hd ⟨Nat.zero_le _, Nat.zero_le _⟩
theorem oj_cS1 {g : Option Int32} {K : Int32 → Option α} (hc : ojC X V own cc nL L) (hw : ojCS own ix y bytes maxL ret n) (hL : Lc + 1 ≤ L) (As rest : List Value) (hn : As.length = n) (hst : st = As.reverse ++ rest) (hrs : (rest.map fun v => v.category).sum ≤ 8) (hd : decode cc pc = .ok (.invokestatic ix, 3))
    (hM : ∀ (r : Int32), g = some r → ojMi V y bytes maxL ret Lc As σ r σ)
    (kk : ∀ (r : Int32), ojJ X V Q (K r) σ (pc + 3) lv (.int r :: rest)) : ojJ X V Q (ojB1 g K) σ pc lv st := by
  classical
  intro o ho
  cases hg : g with
  | none => rw [hg] at ho; cases ho
  | some r =>
    rw [hg] at ho
    refine oj_calli (av := As) (rest := rest) (g := some (r, σ)) (K := fun r1 σ1 => if σ1 = σ ∧ r1 = r then K r else none) hc (fun r' σ' ls H locs h G => ?_) (fun r1 σ1 => ?_) o (by
      show (if σ = σ ∧ r = r then K r else none) = some o
      rw [if_pos ⟨rfl, rfl⟩]; exact ho)
    · cases h
      have hcc := hc
      obtain ⟨h1, h2, h3, h4, h5, h6, h7, h8, h9⟩ := hcc
      exact va_runS (As := As) (rest := rest) ⟨h1, h2, h3, h4, h5⟩ (hM r hg H.size) ⟨oj_callB h5 hw.1 h8 hL, h5 _ hw.2⟩ ⟨ojPc_blind, oj_pre (locs := locs) (H0 := X.2.2.2.1.heap) h6 G.2.1 G.2.2.1⟩ rfl hn (G.1.1.trans h7) hst (lv_room hrs) hd ⟨Nat.zero_le _, Nat.zero_le _⟩
    · by_cases hq : σ1 = σ ∧ r1 = r
      · rw [if_pos hq, hq.1, hq.2]; exact kk r
      · rw [if_neg hq]; exact oj_none
end ojK
end
section
section ojN
variable {α : Type} {X : ojX} {V : ojV} {Q : α → State → Prop} {x x2 : Option α} {σ : ojS} {pc : Nat} {lv : List (Nat × Value)} {rest : List Value} {own : String} {cc : ByteArray} {nL L : Nat}
theorem oj_sub (ks : List Nat) {lv' : List (Nat × Value)} (h : lv_pick lv ks = lv') (kk : ojJ X V Q x σ pc lv' rest) : ojJ X V Q x σ pc lv rest :=
  fun o ho ls H locs g => kk o ho ls H locs ⟨lv_sub g.1 ks h, g.2⟩
theorem oj_nbl {v : Int32} (h : v = 0 ∨ v = 1) : narrow .boolean (.int v) = .int v := by
  rcases h with rfl | rfl <;> rfl
theorem oj_sw {v : Int32} (lo hi : Int) (n : Nat) (e : lo + n = hi + 1) (h : ∀ k, k < n → ¬ v = Int32.ofInt (lo + (k : Nat))) : v.toInt < lo ∨ hi < v.toInt := by
  by_cases h1 : v.toInt < lo
  · exact Or.inl h1
  · by_cases h2 : hi < v.toInt
    · exact Or.inr h2
    · refine absurd ?_ (h (v.toInt - lo).toNat (by omega))
      rw [show lo + (((v.toInt - lo).toNat : Nat) : Int) = v.toInt by omega]
      exact (Int32.ofInt_toInt v).symm
theorem oj_copyi (hc : ojC X V own cc nL L) {ix : Nat} (hL : 1 ≤ L) (hlink : Cond.methodLink own ix arraycopyName ∈ ojT) (hnat : Cond.native arraycopyName ∈ ojT) (hstat : Cond.static arraycopyName ∈ ojT) (hini : Cond.initialized "java/lang/System" ∈ ojT) {ks kd a0 a n : Nat} {cA : ClassId} {f g0 : Nat → Int32} {K : ojS → Option α} (he0 : (V.2.2.2 σ)[ks]? = some (a0, .inl (cA, n, .inl f))) (he1 : (V.2.2.2 σ)[kd]? = some (a, .inl (cA, n, .inl g0))) (hset : ∀ f', (V.2.2.2 σ).set kd (a, .inl (cA, n, .inl f')) = V.2.2.2 (ojW σ kd f')) (ht : V.2.2.1[0]? = some (cA, .int)) (ln : Int32) (h3 : ¬ ln < 0) (h4 : (0 : Int32).toNatClampNeg + ln.toNatClampNeg ≤ n) (hrest : (rest.map fun v => v.category).sum + (nativeFrameWords "java/lang/System" "arraycopy" 5 + 11) ≤ 60) (hd : decode cc pc = .ok (.invokestatic ix, 3)) (kk : ∀ σ1 : ojS, ojJ X V Q (K σ1) σ1 (pc + 3) lv rest) : ojJ X V Q (ojLet (ojW σ kd (va_cpy f g0 (0 : Int32).toNatClampNeg (0 : Int32).toNatClampNeg ln.toNatClampNeg)) K) σ pc lv (.int ln :: .int 0 :: .ref a :: .int 0 :: .ref a0 :: rest) :=
  fun o ho ls H locs g => va_copyi hc.1 hc.2.1 (by rw [hc.2.2.1, g.1.1, hc.2.2.2.2.2.2.1]) hc.2.2.2.1 (hc.2.2.2.2.1 _ hlink) (hc.2.2.2.2.1 _ hnat) (hc.2.2.2.2.1 _ hstat) (hc.2.2.2.2.1 _ hini) hc.2.2.2.2.2.1 g.2.1 g.2.2.1 g.2.2.2 ks kd 0 0 he0 he1 ht ht rfl (by decide) (by decide) h3 h4 h4 (fun _ _ => rfl) (by rw [hc.2.2.2.2.2.2.2.1]; exact hL) (by rw [hc.2.2.2.2.2.2.2.1]; exact Nat.le_trans hrest (by show 60 ≤ 60 * L; omega)) hd (fun H1 locs1 hP hD hS => by
    rw [hset] at hP hD
    exact kk _ o ho ls H1 locs1 ⟨g.1, hP, hD, hS⟩)
end ojN
abbrev ojRi (X : ojX) (V : ojV) (Q : Int32 × ojS → State → Prop) (cc : ByteArray) (ty : FieldType) : Prop := ∀ (v : Int32) (σ1 : ojS) (pc : Nat) (lv : List (Nat × Value)), narrow ty (.int v) = .int v → decode cc pc = .ok (.ireturn, 1) → ojJ X V Q (some (v, σ1)) σ1 pc lv [.int v]
abbrev ojRr (X : ojX) (V : ojV) (Q : Int32 → State → Prop) (cc : ByteArray) (ty : FieldType) (σ : ojS) : Prop := ∀ (v : Int32) (pc : Nat) (lv : List (Nat × Value)), narrow ty (.int v) = .int v → decode cc pc = .ok (.ireturn, 1) → ojJ X V Q (some v) σ pc lv [.int v]
abbrev ojRv (X : ojX) (V : ojV) (Q : ojS → State → Prop) (cc : ByteArray) : Prop := ∀ (σ1 : ojS) (pc : Nat) (lv : List (Nat × Value)), decode cc pc = .ok (.return_, 1) → ojJ X V Q (some σ1) σ1 pc lv []
end
section
abbrev ojE : Type := ClassId × ClassId × ClassId × ClassId × ClassId
def ojTy (E : ojE) : List (ClassId × FieldType) := [(E.1, .int), (E.2.1, .boolean), (E.2.2.1, .object "OilWatch$Ship"), (E.2.2.2.1, .object "OilWatch$Skimmer"), (E.2.2.2.2, .object "OilWatch$Slick")]
theorem oj_range {β : Type} (g g2 : Nat → β) (N k : Nat) (y : β) (h1 : g2 k = y) (h2 : ∀ i, i ≠ k → g2 i = g i) : ((List.range N).map g).set k y = (List.range N).map g2 := by
  apply List.ext_getElem?
  intro i
  rw [List.getElem?_set]
  simp only [List.length_map, List.length_range, List.getElem?_map]
  by_cases hi : k = i
  · subst hi
    by_cases hk : k < N
    · simp [hk, h1]
    · simp [hk]
  · rw [if_neg hi]
    by_cases hk : i < N
    · simp [hk, h2 i (fun h => hi h.symm)]
    · simp [hk]
def eO_cell (E : ojE) (ad : Nat → Nat) (k : Nat) (f : Nat → Int32) : va_E := match k with
  | 0 => .inr (8, [.ref (ad 1), .ref (ad 3), .ref (ad 7), .ref (ad 9), .ref (ad (19 + 0)), .ref (ad 11), .ref (ad 12), .ref (ad 13), .ref (ad 14), .int (f 9), .int (f 10), .int (f 11), .int (f 12), .int (f 13)])
  | 1 => .inr (2, [.ref (ad 2)])
  | 2 => .inl (E.1, 96, .inl (f))
  | 3 => .inr (0, [.ref (ad 4), .ref (ad 5), .ref (ad 6), .int (f 3)])
  | 4 => .inl (E.1, 20, .inl (f))
  | 5 => .inl (E.1, 20, .inl (f))
  | 6 => .inl (E.1, 480, .inl (f))
  | 7 => .inr (6, [.ref (ad 8)])
  | 8 => .inl (E.1, 1503, .inl (f))
  | 9 => .inr (1, [.ref (ad 10), .int (f 1)])
  | 10 => .inl (E.2.2.2.1, 4, .inr (.inr (.inr (.inr (fun j => some (ad (15 + j)))))))
  | 11 => .inl (E.2.2.2.2, 3, .inr (.inr (.inr (.inr (fun j => some (ad (19 + (1 + j))))))))
  | 12 => .inr (3, [.int (f 0), .int (f 1), .int (f 2), .int (f 3), .int (f 4)])
  | 13 => .inl (E.2.2.1, 8, .inr (.inr (.inr (.inr (fun j => some (ad (31 + j)))))))
  | 14 => .inl (E.1, 4, .inl (f))
  | k => if k < 19 then .inr (5, [.int (f 0), .int (f 1), .int (f 2), .int (f 3), .int (f 4), .int (f 5)]) else if k < 23 then .inr (7, [.ref (ad (23 + (k - 19))), .ref (ad (27 + (k - 19))), .int (f 2), .int (f 3)]) else if k < 27 then .inl (E.1, 96, .inl (f)) else if k < 31 then .inl (E.1, 4, .inl (f)) else if k < 39 then .inr (4, [.int (f 0), .int (f 1), .ref (ad (39 + (k - 31)))]) else .inl (E.2.1, 96, .inl (f))
def wO_ (E : ojE) (ad : Nat → Nat) (σ : ojS) : va_W := (List.range 47).map (fun k => (ad k, eO_cell E ad k (σ k)))
def vO_ (l : Launch) (D : va_G) (E : ojE) (ad : Nat → Nat) : ojV := (l, D, ojTy E, wO_ E ad)
theorem wO_at {E : ojE} {ad : Nat → Nat} {σ : ojS} {k : Nat} (h : k < 47) : (wO_ E ad σ)[k]? = some (ad k, eO_cell E ad k (σ k)) := by simp [wO_, h]
theorem wO_set {E : ojE} {ad : Nat → Nat} {σ : ojS} (k : Nat) (f : Nat → Int32) : (wO_ E ad σ).set k (ad k, eO_cell E ad k f) = wO_ E ad (ojW σ k f) := oj_range _ _ 47 k _ (by simp [ojW]) (fun i hi => by simp [ojW, hi])
theorem oC_OilWatch {l : Launch} {D : va_G} {E : ojE} {ad : Nat → Nat} {σ : ojS} : ((vO_ l D E ad).2.2.2 σ)[0]? = some (ad 0, .inr (8, [.ref (ad 1), .ref (ad 3), .ref (ad 7), .ref (ad 9), .ref (ad (19 + 0)), .ref (ad 11), .ref (ad 12), .ref (ad 13), .ref (ad 14), .int (σ 0 9), .int (σ 0 10), .int (σ 0 11), .int (σ 0 12), .int (σ 0 13)])) := wO_at (by decide)
theorem oC_OilWatch_s9 {l : Launch} {D : va_G} {E : ojE} {ad : Nat → Nat} {σ : ojS} (v : Int32) : ((vO_ l D E ad).2.2.2 σ).set 0 (ad 0, .inr (8, ([.ref (ad 1), .ref (ad 3), .ref (ad 7), .ref (ad 9), .ref (ad (19 + 0)), .ref (ad 11), .ref (ad 12), .ref (ad 13), .ref (ad 14), .int (σ 0 9), .int (σ 0 10), .int (σ 0 11), .int (σ 0 12), .int (σ 0 13)] : List Value).set 9 (.int v))) = (vO_ l D E ad).2.2.2 (ojU σ 0 9 v) := wO_set 0 (upd (σ 0) 9 v)
theorem oC_OilWatch_s10 {l : Launch} {D : va_G} {E : ojE} {ad : Nat → Nat} {σ : ojS} (v : Int32) : ((vO_ l D E ad).2.2.2 σ).set 0 (ad 0, .inr (8, ([.ref (ad 1), .ref (ad 3), .ref (ad 7), .ref (ad 9), .ref (ad (19 + 0)), .ref (ad 11), .ref (ad 12), .ref (ad 13), .ref (ad 14), .int (σ 0 9), .int (σ 0 10), .int (σ 0 11), .int (σ 0 12), .int (σ 0 13)] : List Value).set 10 (.int v))) = (vO_ l D E ad).2.2.2 (ojU σ 0 10 v) := wO_set 0 (upd (σ 0) 10 v)
theorem oC_OilWatch_s11 {l : Launch} {D : va_G} {E : ojE} {ad : Nat → Nat} {σ : ojS} (v : Int32) : ((vO_ l D E ad).2.2.2 σ).set 0 (ad 0, .inr (8, ([.ref (ad 1), .ref (ad 3), .ref (ad 7), .ref (ad 9), .ref (ad (19 + 0)), .ref (ad 11), .ref (ad 12), .ref (ad 13), .ref (ad 14), .int (σ 0 9), .int (σ 0 10), .int (σ 0 11), .int (σ 0 12), .int (σ 0 13)] : List Value).set 11 (.int v))) = (vO_ l D E ad).2.2.2 (ojU σ 0 11 v) := wO_set 0 (upd (σ 0) 11 v)
theorem oC_OilWatch_s12 {l : Launch} {D : va_G} {E : ojE} {ad : Nat → Nat} {σ : ojS} (v : Int32) : ((vO_ l D E ad).2.2.2 σ).set 0 (ad 0, .inr (8, ([.ref (ad 1), .ref (ad 3), .ref (ad 7), .ref (ad 9), .ref (ad (19 + 0)), .ref (ad 11), .ref (ad 12), .ref (ad 13), .ref (ad 14), .int (σ 0 9), .int (σ 0 10), .int (σ 0 11), .int (σ 0 12), .int (σ 0 13)] : List Value).set 12 (.int v))) = (vO_ l D E ad).2.2.2 (ojU σ 0 12 v) := wO_set 0 (upd (σ 0) 12 v)
theorem oC_OilWatch_s13 {l : Launch} {D : va_G} {E : ojE} {ad : Nat → Nat} {σ : ojS} (v : Int32) : ((vO_ l D E ad).2.2.2 σ).set 0 (ad 0, .inr (8, ([.ref (ad 1), .ref (ad 3), .ref (ad 7), .ref (ad 9), .ref (ad (19 + 0)), .ref (ad 11), .ref (ad 12), .ref (ad 13), .ref (ad 14), .int (σ 0 9), .int (σ 0 10), .int (σ 0 11), .int (σ 0 12), .int (σ 0 13)] : List Value).set 13 (.int v))) = (vO_ l D E ad).2.2.2 (ojU σ 0 13 v) := wO_set 0 (upd (σ 0) 13 v)
theorem oC_Net {l : Launch} {D : va_G} {E : ojE} {ad : Nat → Nat} {σ : ojS} : ((vO_ l D E ad).2.2.2 σ)[1]? = some (ad 1, .inr (2, [.ref (ad 2)])) := wO_at (by decide)
theorem oC_ranks {l : Launch} {D : va_G} {E : ojE} {ad : Nat → Nat} {σ : ojS} : ((vO_ l D E ad).2.2.2 σ)[2]? = some (ad 2, .inl (E.1, 96, .inl (σ 2))) := wO_at (by decide)
theorem oC_ranks_s {l : Launch} {D : va_G} {E : ojE} {ad : Nat → Nat} {σ : ojS} (f : Nat → Int32) : ((vO_ l D E ad).2.2.2 σ).set 2 (ad 2, .inl (E.1, 96, .inl f)) = (vO_ l D E ad).2.2.2 (ojW σ 2 f) := wO_set 2 f
theorem oC_Booms {l : Launch} {D : va_G} {E : ojE} {ad : Nat → Nat} {σ : ojS} : ((vO_ l D E ad).2.2.2 σ)[3]? = some (ad 3, .inr (0, [.ref (ad 4), .ref (ad 5), .ref (ad 6), .int (σ 3 3)])) := wO_at (by decide)
theorem oC_Booms_s3 {l : Launch} {D : va_G} {E : ojE} {ad : Nat → Nat} {σ : ojS} (v : Int32) : ((vO_ l D E ad).2.2.2 σ).set 3 (ad 3, .inr (0, ([.ref (ad 4), .ref (ad 5), .ref (ad 6), .int (σ 3 3)] : List Value).set 3 (.int v))) = (vO_ l D E ad).2.2.2 (ojU σ 3 3 v) := wO_set 3 (upd (σ 3) 3 v)
theorem oC_bcells {l : Launch} {D : va_G} {E : ojE} {ad : Nat → Nat} {σ : ojS} : ((vO_ l D E ad).2.2.2 σ)[4]? = some (ad 4, .inl (E.1, 20, .inl (σ 4))) := wO_at (by decide)
theorem oC_bcells_s {l : Launch} {D : va_G} {E : ojE} {ad : Nat → Nat} {σ : ojS} (f : Nat → Int32) : ((vO_ l D E ad).2.2.2 σ).set 4 (ad 4, .inl (E.1, 20, .inl f)) = (vO_ l D E ad).2.2.2 (ojW σ 4 f) := wO_set 4 f
theorem oC_bways {l : Launch} {D : va_G} {E : ojE} {ad : Nat → Nat} {σ : ojS} : ((vO_ l D E ad).2.2.2 σ)[5]? = some (ad 5, .inl (E.1, 20, .inl (σ 5))) := wO_at (by decide)
theorem oC_bways_s {l : Launch} {D : va_G} {E : ojE} {ad : Nat → Nat} {σ : ojS} (f : Nat → Int32) : ((vO_ l D E ad).2.2.2 σ).set 5 (ad 5, .inl (E.1, 20, .inl f)) = (vO_ l D E ad).2.2.2 (ojW σ 5 f) := wO_set 5 f
theorem oC_blimits {l : Launch} {D : va_G} {E : ojE} {ad : Nat → Nat} {σ : ojS} : ((vO_ l D E ad).2.2.2 σ)[6]? = some (ad 6, .inl (E.1, 480, .inl (σ 6))) := wO_at (by decide)
theorem oC_blimits_s {l : Launch} {D : va_G} {E : ojE} {ad : Nat → Nat} {σ : ojS} (f : Nat → Int32) : ((vO_ l D E ad).2.2.2 σ).set 6 (ad 6, .inl (E.1, 480, .inl f)) = (vO_ l D E ad).2.2.2 (ojW σ 6 f) := wO_set 6 f
theorem oC_Sky {l : Launch} {D : va_G} {E : ojE} {ad : Nat → Nat} {σ : ojS} : ((vO_ l D E ad).2.2.2 σ)[7]? = some (ad 7, .inr (6, [.ref (ad 8)])) := wO_at (by decide)
theorem oC_packed {l : Launch} {D : va_G} {E : ojE} {ad : Nat → Nat} {σ : ojS} : ((vO_ l D E ad).2.2.2 σ)[8]? = some (ad 8, .inl (E.1, 1503, .inl (σ 8))) := wO_at (by decide)
theorem oC_packed_s {l : Launch} {D : va_G} {E : ojE} {ad : Nat → Nat} {σ : ojS} (f : Nat → Int32) : ((vO_ l D E ad).2.2.2 σ).set 8 (ad 8, .inl (E.1, 1503, .inl f)) = (vO_ l D E ad).2.2.2 (ojW σ 8 f) := wO_set 8 f
theorem oC_Fleet {l : Launch} {D : va_G} {E : ojE} {ad : Nat → Nat} {σ : ojS} : ((vO_ l D E ad).2.2.2 σ)[9]? = some (ad 9, .inr (1, [.ref (ad 10), .int (σ 9 1)])) := wO_at (by decide)
theorem oC_Fleet_s1 {l : Launch} {D : va_G} {E : ojE} {ad : Nat → Nat} {σ : ojS} (v : Int32) : ((vO_ l D E ad).2.2.2 σ).set 9 (ad 9, .inr (1, ([.ref (ad 10), .int (σ 9 1)] : List Value).set 1 (.int v))) = (vO_ l D E ad).2.2.2 (ojU σ 9 1 v) := wO_set 9 (upd (σ 9) 1 v)
theorem oC_skimmers {l : Launch} {D : va_G} {E : ojE} {ad : Nat → Nat} {σ : ojS} : ((vO_ l D E ad).2.2.2 σ)[10]? = some (ad 10, .inl (E.2.2.2.1, 4, .inr (.inr (.inr (.inr (fun j => some (ad (15 + j)))))))) := wO_at (by decide)
theorem oC_trials {l : Launch} {D : va_G} {E : ojE} {ad : Nat → Nat} {σ : ojS} : ((vO_ l D E ad).2.2.2 σ)[11]? = some (ad 11, .inl (E.2.2.2.2, 3, .inr (.inr (.inr (.inr (fun j => some (ad (19 + (1 + j))))))))) := wO_at (by decide)
theorem oC_Outing {l : Launch} {D : va_G} {E : ojE} {ad : Nat → Nat} {σ : ojS} : ((vO_ l D E ad).2.2.2 σ)[12]? = some (ad 12, .inr (3, [.int (σ 12 0), .int (σ 12 1), .int (σ 12 2), .int (σ 12 3), .int (σ 12 4)])) := wO_at (by decide)
theorem oC_Outing_s0 {l : Launch} {D : va_G} {E : ojE} {ad : Nat → Nat} {σ : ojS} (v : Int32) : ((vO_ l D E ad).2.2.2 σ).set 12 (ad 12, .inr (3, ([.int (σ 12 0), .int (σ 12 1), .int (σ 12 2), .int (σ 12 3), .int (σ 12 4)] : List Value).set 0 (.int v))) = (vO_ l D E ad).2.2.2 (ojU σ 12 0 v) := wO_set 12 (upd (σ 12) 0 v)
theorem oC_Outing_s1 {l : Launch} {D : va_G} {E : ojE} {ad : Nat → Nat} {σ : ojS} (v : Int32) : ((vO_ l D E ad).2.2.2 σ).set 12 (ad 12, .inr (3, ([.int (σ 12 0), .int (σ 12 1), .int (σ 12 2), .int (σ 12 3), .int (σ 12 4)] : List Value).set 1 (.int v))) = (vO_ l D E ad).2.2.2 (ojU σ 12 1 v) := wO_set 12 (upd (σ 12) 1 v)
theorem oC_Outing_s2 {l : Launch} {D : va_G} {E : ojE} {ad : Nat → Nat} {σ : ojS} (v : Int32) : ((vO_ l D E ad).2.2.2 σ).set 12 (ad 12, .inr (3, ([.int (σ 12 0), .int (σ 12 1), .int (σ 12 2), .int (σ 12 3), .int (σ 12 4)] : List Value).set 2 (.int v))) = (vO_ l D E ad).2.2.2 (ojU σ 12 2 v) := wO_set 12 (upd (σ 12) 2 v)
theorem oC_Outing_s3 {l : Launch} {D : va_G} {E : ojE} {ad : Nat → Nat} {σ : ojS} (v : Int32) : ((vO_ l D E ad).2.2.2 σ).set 12 (ad 12, .inr (3, ([.int (σ 12 0), .int (σ 12 1), .int (σ 12 2), .int (σ 12 3), .int (σ 12 4)] : List Value).set 3 (.int v))) = (vO_ l D E ad).2.2.2 (ojU σ 12 3 v) := wO_set 12 (upd (σ 12) 3 v)
theorem oC_Outing_s4 {l : Launch} {D : va_G} {E : ojE} {ad : Nat → Nat} {σ : ojS} (v : Int32) : ((vO_ l D E ad).2.2.2 σ).set 12 (ad 12, .inr (3, ([.int (σ 12 0), .int (σ 12 1), .int (σ 12 2), .int (σ 12 3), .int (σ 12 4)] : List Value).set 4 (.int v))) = (vO_ l D E ad).2.2.2 (ojU σ 12 4 v) := wO_set 12 (upd (σ 12) 4 v)
theorem oC_ships {l : Launch} {D : va_G} {E : ojE} {ad : Nat → Nat} {σ : ojS} : ((vO_ l D E ad).2.2.2 σ)[13]? = some (ad 13, .inl (E.2.2.1, 8, .inr (.inr (.inr (.inr (fun j => some (ad (31 + j)))))))) := wO_at (by decide)
theorem oC_partsOf {l : Launch} {D : va_G} {E : ojE} {ad : Nat → Nat} {σ : ojS} : ((vO_ l D E ad).2.2.2 σ)[14]? = some (ad 14, .inl (E.1, 4, .inl (σ 14))) := wO_at (by decide)
theorem oC_partsOf_s {l : Launch} {D : va_G} {E : ojE} {ad : Nat → Nat} {σ : ojS} (f : Nat → Int32) : ((vO_ l D E ad).2.2.2 σ).set 14 (ad 14, .inl (E.1, 4, .inl f)) = (vO_ l D E ad).2.2.2 (ojW σ 14 f) := wO_set 14 f
theorem oC_Skimmer {l : Launch} {D : va_G} {E : ojE} {ad : Nat → Nat} {σ : ojS} : ∀ {i : Nat} (_ : i < 4), ((vO_ l D E ad).2.2.2 σ)[15 + i]? = some (ad (15 + i), .inr (5, [.int (σ (15 + i) 0), .int (σ (15 + i) 1), .int (σ (15 + i) 2), .int (σ (15 + i) 3), .int (σ (15 + i) 4), .int (σ (15 + i) 5)]))
  | 0, _ => wO_at (by decide)
  | 1, _ => wO_at (by decide)
  | 2, _ => wO_at (by decide)
  | 3, _ => wO_at (by decide)
  | _ + 4, h => absurd h (by omega)
theorem oC_Skimmer_s0 {l : Launch} {D : va_G} {E : ojE} {ad : Nat → Nat} {σ : ojS} : ∀ {i : Nat} (_ : i < 4) (v : Int32), ((vO_ l D E ad).2.2.2 σ).set (15 + i) (ad (15 + i), .inr (5, ([.int (σ (15 + i) 0), .int (σ (15 + i) 1), .int (σ (15 + i) 2), .int (σ (15 + i) 3), .int (σ (15 + i) 4), .int (σ (15 + i) 5)] : List Value).set 0 (.int v))) = (vO_ l D E ad).2.2.2 (ojU σ (15 + i) 0 v)
  | 0, _, v => wO_set 15 (upd (σ 15) 0 v)
  | 1, _, v => wO_set 16 (upd (σ 16) 0 v)
  | 2, _, v => wO_set 17 (upd (σ 17) 0 v)
  | 3, _, v => wO_set 18 (upd (σ 18) 0 v)
  | _ + 4, h, _ => absurd h (by omega)
theorem oC_Skimmer_s1 {l : Launch} {D : va_G} {E : ojE} {ad : Nat → Nat} {σ : ojS} : ∀ {i : Nat} (_ : i < 4) (v : Int32), ((vO_ l D E ad).2.2.2 σ).set (15 + i) (ad (15 + i), .inr (5, ([.int (σ (15 + i) 0), .int (σ (15 + i) 1), .int (σ (15 + i) 2), .int (σ (15 + i) 3), .int (σ (15 + i) 4), .int (σ (15 + i) 5)] : List Value).set 1 (.int v))) = (vO_ l D E ad).2.2.2 (ojU σ (15 + i) 1 v)
  | 0, _, v => wO_set 15 (upd (σ 15) 1 v)
  | 1, _, v => wO_set 16 (upd (σ 16) 1 v)
  | 2, _, v => wO_set 17 (upd (σ 17) 1 v)
  | 3, _, v => wO_set 18 (upd (σ 18) 1 v)
  | _ + 4, h, _ => absurd h (by omega)
theorem oC_Skimmer_s2 {l : Launch} {D : va_G} {E : ojE} {ad : Nat → Nat} {σ : ojS} : ∀ {i : Nat} (_ : i < 4) (v : Int32), ((vO_ l D E ad).2.2.2 σ).set (15 + i) (ad (15 + i), .inr (5, ([.int (σ (15 + i) 0), .int (σ (15 + i) 1), .int (σ (15 + i) 2), .int (σ (15 + i) 3), .int (σ (15 + i) 4), .int (σ (15 + i) 5)] : List Value).set 2 (.int v))) = (vO_ l D E ad).2.2.2 (ojU σ (15 + i) 2 v)
  | 0, _, v => wO_set 15 (upd (σ 15) 2 v)
  | 1, _, v => wO_set 16 (upd (σ 16) 2 v)
  | 2, _, v => wO_set 17 (upd (σ 17) 2 v)
  | 3, _, v => wO_set 18 (upd (σ 18) 2 v)
  | _ + 4, h, _ => absurd h (by omega)
theorem oC_Skimmer_s3 {l : Launch} {D : va_G} {E : ojE} {ad : Nat → Nat} {σ : ojS} : ∀ {i : Nat} (_ : i < 4) (v : Int32), ((vO_ l D E ad).2.2.2 σ).set (15 + i) (ad (15 + i), .inr (5, ([.int (σ (15 + i) 0), .int (σ (15 + i) 1), .int (σ (15 + i) 2), .int (σ (15 + i) 3), .int (σ (15 + i) 4), .int (σ (15 + i) 5)] : List Value).set 3 (.int v))) = (vO_ l D E ad).2.2.2 (ojU σ (15 + i) 3 v)
  | 0, _, v => wO_set 15 (upd (σ 15) 3 v)
  | 1, _, v => wO_set 16 (upd (σ 16) 3 v)
  | 2, _, v => wO_set 17 (upd (σ 17) 3 v)
  | 3, _, v => wO_set 18 (upd (σ 18) 3 v)
  | _ + 4, h, _ => absurd h (by omega)
theorem oC_Skimmer_s4 {l : Launch} {D : va_G} {E : ojE} {ad : Nat → Nat} {σ : ojS} : ∀ {i : Nat} (_ : i < 4) (v : Int32), ((vO_ l D E ad).2.2.2 σ).set (15 + i) (ad (15 + i), .inr (5, ([.int (σ (15 + i) 0), .int (σ (15 + i) 1), .int (σ (15 + i) 2), .int (σ (15 + i) 3), .int (σ (15 + i) 4), .int (σ (15 + i) 5)] : List Value).set 4 (.int v))) = (vO_ l D E ad).2.2.2 (ojU σ (15 + i) 4 v)
  | 0, _, v => wO_set 15 (upd (σ 15) 4 v)
  | 1, _, v => wO_set 16 (upd (σ 16) 4 v)
  | 2, _, v => wO_set 17 (upd (σ 17) 4 v)
  | 3, _, v => wO_set 18 (upd (σ 18) 4 v)
  | _ + 4, h, _ => absurd h (by omega)
theorem oC_Skimmer_s5 {l : Launch} {D : va_G} {E : ojE} {ad : Nat → Nat} {σ : ojS} : ∀ {i : Nat} (_ : i < 4) (v : Int32), ((vO_ l D E ad).2.2.2 σ).set (15 + i) (ad (15 + i), .inr (5, ([.int (σ (15 + i) 0), .int (σ (15 + i) 1), .int (σ (15 + i) 2), .int (σ (15 + i) 3), .int (σ (15 + i) 4), .int (σ (15 + i) 5)] : List Value).set 5 (.int v))) = (vO_ l D E ad).2.2.2 (ojU σ (15 + i) 5 v)
  | 0, _, v => wO_set 15 (upd (σ 15) 5 v)
  | 1, _, v => wO_set 16 (upd (σ 16) 5 v)
  | 2, _, v => wO_set 17 (upd (σ 17) 5 v)
  | 3, _, v => wO_set 18 (upd (σ 18) 5 v)
  | _ + 4, h, _ => absurd h (by omega)
theorem oC_Slick {l : Launch} {D : va_G} {E : ojE} {ad : Nat → Nat} {σ : ojS} : ∀ {i : Nat} (_ : i < 4), ((vO_ l D E ad).2.2.2 σ)[19 + i]? = some (ad (19 + i), .inr (7, [.ref (ad (23 + i)), .ref (ad (27 + i)), .int (σ (19 + i) 2), .int (σ (19 + i) 3)]))
  | 0, _ => wO_at (by decide)
  | 1, _ => wO_at (by decide)
  | 2, _ => wO_at (by decide)
  | 3, _ => wO_at (by decide)
  | _ + 4, h => absurd h (by omega)
theorem oC_Slick_s2 {l : Launch} {D : va_G} {E : ojE} {ad : Nat → Nat} {σ : ojS} : ∀ {i : Nat} (_ : i < 4) (v : Int32), ((vO_ l D E ad).2.2.2 σ).set (19 + i) (ad (19 + i), .inr (7, ([.ref (ad (23 + i)), .ref (ad (27 + i)), .int (σ (19 + i) 2), .int (σ (19 + i) 3)] : List Value).set 2 (.int v))) = (vO_ l D E ad).2.2.2 (ojU σ (19 + i) 2 v)
  | 0, _, v => wO_set 19 (upd (σ 19) 2 v)
  | 1, _, v => wO_set 20 (upd (σ 20) 2 v)
  | 2, _, v => wO_set 21 (upd (σ 21) 2 v)
  | 3, _, v => wO_set 22 (upd (σ 22) 2 v)
  | _ + 4, h, _ => absurd h (by omega)
theorem oC_Slick_s3 {l : Launch} {D : va_G} {E : ojE} {ad : Nat → Nat} {σ : ojS} : ∀ {i : Nat} (_ : i < 4) (v : Int32), ((vO_ l D E ad).2.2.2 σ).set (19 + i) (ad (19 + i), .inr (7, ([.ref (ad (23 + i)), .ref (ad (27 + i)), .int (σ (19 + i) 2), .int (σ (19 + i) 3)] : List Value).set 3 (.int v))) = (vO_ l D E ad).2.2.2 (ojU σ (19 + i) 3 v)
  | 0, _, v => wO_set 19 (upd (σ 19) 3 v)
  | 1, _, v => wO_set 20 (upd (σ 20) 3 v)
  | 2, _, v => wO_set 21 (upd (σ 21) 3 v)
  | 3, _, v => wO_set 22 (upd (σ 22) 3 v)
  | _ + 4, h, _ => absurd h (by omega)
theorem oC_liters {l : Launch} {D : va_G} {E : ojE} {ad : Nat → Nat} {σ : ojS} : ∀ {i : Nat} (_ : i < 4), ((vO_ l D E ad).2.2.2 σ)[23 + i]? = some (ad (23 + i), .inl (E.1, 96, .inl (σ (23 + i))))
  | 0, _ => wO_at (by decide)
  | 1, _ => wO_at (by decide)
  | 2, _ => wO_at (by decide)
  | 3, _ => wO_at (by decide)
  | _ + 4, h => absurd h (by omega)
theorem oC_liters_s {l : Launch} {D : va_G} {E : ojE} {ad : Nat → Nat} {σ : ojS} : ∀ {i : Nat} (_ : i < 4) (f : Nat → Int32), ((vO_ l D E ad).2.2.2 σ).set (23 + i) (ad (23 + i), .inl (E.1, 96, .inl f)) = (vO_ l D E ad).2.2.2 (ojW σ (23 + i) f)
  | 0, _, f => wO_set 23 f
  | 1, _, f => wO_set 24 f
  | 2, _, f => wO_set 25 f
  | 3, _, f => wO_set 26 f
  | _ + 4, h, _ => absurd h (by omega)
theorem oC_loads {l : Launch} {D : va_G} {E : ojE} {ad : Nat → Nat} {σ : ojS} : ∀ {i : Nat} (_ : i < 4), ((vO_ l D E ad).2.2.2 σ)[27 + i]? = some (ad (27 + i), .inl (E.1, 4, .inl (σ (27 + i))))
  | 0, _ => wO_at (by decide)
  | 1, _ => wO_at (by decide)
  | 2, _ => wO_at (by decide)
  | 3, _ => wO_at (by decide)
  | _ + 4, h => absurd h (by omega)
theorem oC_loads_s {l : Launch} {D : va_G} {E : ojE} {ad : Nat → Nat} {σ : ojS} : ∀ {i : Nat} (_ : i < 4) (f : Nat → Int32), ((vO_ l D E ad).2.2.2 σ).set (27 + i) (ad (27 + i), .inl (E.1, 4, .inl f)) = (vO_ l D E ad).2.2.2 (ojW σ (27 + i) f)
  | 0, _, f => wO_set 27 f
  | 1, _, f => wO_set 28 f
  | 2, _, f => wO_set 29 f
  | 3, _, f => wO_set 30 f
  | _ + 4, h, _ => absurd h (by omega)
theorem oC_Ship {l : Launch} {D : va_G} {E : ojE} {ad : Nat → Nat} {σ : ojS} : ∀ {i : Nat} (_ : i < 8), ((vO_ l D E ad).2.2.2 σ)[31 + i]? = some (ad (31 + i), .inr (4, [.int (σ (31 + i) 0), .int (σ (31 + i) 1), .ref (ad (39 + i))]))
  | 0, _ => wO_at (by decide)
  | 1, _ => wO_at (by decide)
  | 2, _ => wO_at (by decide)
  | 3, _ => wO_at (by decide)
  | 4, _ => wO_at (by decide)
  | 5, _ => wO_at (by decide)
  | 6, _ => wO_at (by decide)
  | 7, _ => wO_at (by decide)
  | _ + 8, h => absurd h (by omega)
theorem oC_Ship_s0 {l : Launch} {D : va_G} {E : ojE} {ad : Nat → Nat} {σ : ojS} : ∀ {i : Nat} (_ : i < 8) (v : Int32), ((vO_ l D E ad).2.2.2 σ).set (31 + i) (ad (31 + i), .inr (4, ([.int (σ (31 + i) 0), .int (σ (31 + i) 1), .ref (ad (39 + i))] : List Value).set 0 (.int v))) = (vO_ l D E ad).2.2.2 (ojU σ (31 + i) 0 v)
  | 0, _, v => wO_set 31 (upd (σ 31) 0 v)
  | 1, _, v => wO_set 32 (upd (σ 32) 0 v)
  | 2, _, v => wO_set 33 (upd (σ 33) 0 v)
  | 3, _, v => wO_set 34 (upd (σ 34) 0 v)
  | 4, _, v => wO_set 35 (upd (σ 35) 0 v)
  | 5, _, v => wO_set 36 (upd (σ 36) 0 v)
  | 6, _, v => wO_set 37 (upd (σ 37) 0 v)
  | 7, _, v => wO_set 38 (upd (σ 38) 0 v)
  | _ + 8, h, _ => absurd h (by omega)
theorem oC_Ship_s1 {l : Launch} {D : va_G} {E : ojE} {ad : Nat → Nat} {σ : ojS} : ∀ {i : Nat} (_ : i < 8) (v : Int32), ((vO_ l D E ad).2.2.2 σ).set (31 + i) (ad (31 + i), .inr (4, ([.int (σ (31 + i) 0), .int (σ (31 + i) 1), .ref (ad (39 + i))] : List Value).set 1 (.int v))) = (vO_ l D E ad).2.2.2 (ojU σ (31 + i) 1 v)
  | 0, _, v => wO_set 31 (upd (σ 31) 1 v)
  | 1, _, v => wO_set 32 (upd (σ 32) 1 v)
  | 2, _, v => wO_set 33 (upd (σ 33) 1 v)
  | 3, _, v => wO_set 34 (upd (σ 34) 1 v)
  | 4, _, v => wO_set 35 (upd (σ 35) 1 v)
  | 5, _, v => wO_set 36 (upd (σ 36) 1 v)
  | 6, _, v => wO_set 37 (upd (σ 37) 1 v)
  | 7, _, v => wO_set 38 (upd (σ 38) 1 v)
  | _ + 8, h, _ => absurd h (by omega)
theorem oC_possible {l : Launch} {D : va_G} {E : ojE} {ad : Nat → Nat} {σ : ojS} : ∀ {i : Nat} (_ : i < 8), ((vO_ l D E ad).2.2.2 σ)[39 + i]? = some (ad (39 + i), .inl (E.2.1, 96, .inl (σ (39 + i))))
  | 0, _ => wO_at (by decide)
  | 1, _ => wO_at (by decide)
  | 2, _ => wO_at (by decide)
  | 3, _ => wO_at (by decide)
  | 4, _ => wO_at (by decide)
  | 5, _ => wO_at (by decide)
  | 6, _ => wO_at (by decide)
  | 7, _ => wO_at (by decide)
  | _ + 8, h => absurd h (by omega)
theorem oC_possible_s {l : Launch} {D : va_G} {E : ojE} {ad : Nat → Nat} {σ : ojS} : ∀ {i : Nat} (_ : i < 8) (f : Nat → Int32), ((vO_ l D E ad).2.2.2 σ).set (39 + i) (ad (39 + i), .inl (E.2.1, 96, .inl f)) = (vO_ l D E ad).2.2.2 (ojW σ (39 + i) f)
  | 0, _, f => wO_set 39 f
  | 1, _, f => wO_set 40 f
  | 2, _, f => wO_set 41 f
  | 3, _, f => wO_set 42 f
  | 4, _, f => wO_set 43 f
  | 5, _, f => wO_set 44 f
  | 6, _, f => wO_set 45 f
  | 7, _, f => wO_set 46 f
  | _ + 8, h, _ => absurd h (by omega)
def eM_cell (E : ojE) (ad : Nat → Nat) (k : Nat) (f : Nat → Int32) : va_E := match k with
  | 0 => .inr (9, [.int (f 0), .ref (ad 1), .ref (ad 2), .ref (ad 3), .ref (ad 4), .ref (ad 5), .ref (ad 6), .ref (ad 7), .ref (ad 8), .int (f 9), .int (f 10), .int (f 11), .int (f 12), .int (f 13), .int (f 14), .ref (ad 9), .ref (ad 10), .ref (ad 11), .ref (ad 12), .ref (ad 13), .ref (ad 14), .ref (ad 15), .ref (ad 16), .int (f 23), .ref (ad 17), .ref (ad 18), .ref (ad 19), .ref (ad 20), .ref (ad 21), .ref (ad 22), .int (f 30), .int (f 31), .ref (ad 23), .ref (ad 24), .ref (ad 25), .ref (ad 26)])
  | 1 => .inl (E.1, 96, .inl (f))
  | 2 => .inl (E.1, 96, .inl (f))
  | 3 => .inl (E.1, 1503, .inl (f))
  | 4 => .inl (E.1, 1503, .inl (f))
  | 5 => .inl (E.2.1, 20, .inl (f))
  | 6 => .inl (E.1, 20, .inl (f))
  | 7 => .inl (E.1, 20, .inl (f))
  | 8 => .inl (E.1, 20, .inl (f))
  | 9 => .inl (E.1, 4, .inl (f))
  | 10 => .inl (E.1, 4, .inl (f))
  | 11 => .inl (E.1, 4, .inl (f))
  | 12 => .inl (E.1, 4, .inl (f))
  | 13 => .inl (E.1, 4, .inl (f))
  | 14 => .inl (E.1, 4, .inl (f))
  | 15 => .inl (E.1, 4, .inl (f))
  | 16 => .inl (E.2.1, 4, .inl (f))
  | 17 => .inl (E.1, 8, .inl (f))
  | 18 => .inl (E.1, 8, .inl (f))
  | 19 => .inl (E.1, 8, .inl (f))
  | 20 => .inl (E.1, 4, .inl (f))
  | 21 => .inl (E.1, 96, .inl (f))
  | 22 => .inl (E.1, 448, .inl (f))
  | 23 => .inl (E.2.1, 96, .inl (f))
  | 24 => .inl (E.2.1, 96, .inl (f))
  | 25 => .inl (E.1, 4, .inl (f))
  | 26 => .inl (E.1, 4, .inl (f))
  | _ => .inl (E.1, 0, .inl f)
def wM_ (E : ojE) (ad : Nat → Nat) (σ : ojS) : va_W := (List.range 27).map (fun k => (ad k, eM_cell E ad k (σ k)))
def vM_ (l : Launch) (D : va_G) (E : ojE) (ad : Nat → Nat) : ojV := (l, D, ojTy E, wM_ E ad)
theorem wM_at {E : ojE} {ad : Nat → Nat} {σ : ojS} {k : Nat} (h : k < 27) : (wM_ E ad σ)[k]? = some (ad k, eM_cell E ad k (σ k)) := by simp [wM_, h]
theorem wM_set {E : ojE} {ad : Nat → Nat} {σ : ojS} (k : Nat) (f : Nat → Int32) : (wM_ E ad σ).set k (ad k, eM_cell E ad k f) = wM_ E ad (ojW σ k f) := oj_range _ _ 27 k _ (by simp [ojW]) (fun i hi => by simp [ojW, hi])
theorem mC_Model {l : Launch} {D : va_G} {E : ojE} {ad : Nat → Nat} {σ : ojS} : ((vM_ l D E ad).2.2.2 σ)[0]? = some (ad 0, .inr (9, [.int (σ 0 0), .ref (ad 1), .ref (ad 2), .ref (ad 3), .ref (ad 4), .ref (ad 5), .ref (ad 6), .ref (ad 7), .ref (ad 8), .int (σ 0 9), .int (σ 0 10), .int (σ 0 11), .int (σ 0 12), .int (σ 0 13), .int (σ 0 14), .ref (ad 9), .ref (ad 10), .ref (ad 11), .ref (ad 12), .ref (ad 13), .ref (ad 14), .ref (ad 15), .ref (ad 16), .int (σ 0 23), .ref (ad 17), .ref (ad 18), .ref (ad 19), .ref (ad 20), .ref (ad 21), .ref (ad 22), .int (σ 0 30), .int (σ 0 31), .ref (ad 23), .ref (ad 24), .ref (ad 25), .ref (ad 26)])) := wM_at (by decide)
theorem mC_Model_s0 {l : Launch} {D : va_G} {E : ojE} {ad : Nat → Nat} {σ : ojS} (v : Int32) : ((vM_ l D E ad).2.2.2 σ).set 0 (ad 0, .inr (9, ([.int (σ 0 0), .ref (ad 1), .ref (ad 2), .ref (ad 3), .ref (ad 4), .ref (ad 5), .ref (ad 6), .ref (ad 7), .ref (ad 8), .int (σ 0 9), .int (σ 0 10), .int (σ 0 11), .int (σ 0 12), .int (σ 0 13), .int (σ 0 14), .ref (ad 9), .ref (ad 10), .ref (ad 11), .ref (ad 12), .ref (ad 13), .ref (ad 14), .ref (ad 15), .ref (ad 16), .int (σ 0 23), .ref (ad 17), .ref (ad 18), .ref (ad 19), .ref (ad 20), .ref (ad 21), .ref (ad 22), .int (σ 0 30), .int (σ 0 31), .ref (ad 23), .ref (ad 24), .ref (ad 25), .ref (ad 26)] : List Value).set 0 (.int v))) = (vM_ l D E ad).2.2.2 (ojU σ 0 0 v) := wM_set 0 (upd (σ 0) 0 v)
theorem mC_Model_s9 {l : Launch} {D : va_G} {E : ojE} {ad : Nat → Nat} {σ : ojS} (v : Int32) : ((vM_ l D E ad).2.2.2 σ).set 0 (ad 0, .inr (9, ([.int (σ 0 0), .ref (ad 1), .ref (ad 2), .ref (ad 3), .ref (ad 4), .ref (ad 5), .ref (ad 6), .ref (ad 7), .ref (ad 8), .int (σ 0 9), .int (σ 0 10), .int (σ 0 11), .int (σ 0 12), .int (σ 0 13), .int (σ 0 14), .ref (ad 9), .ref (ad 10), .ref (ad 11), .ref (ad 12), .ref (ad 13), .ref (ad 14), .ref (ad 15), .ref (ad 16), .int (σ 0 23), .ref (ad 17), .ref (ad 18), .ref (ad 19), .ref (ad 20), .ref (ad 21), .ref (ad 22), .int (σ 0 30), .int (σ 0 31), .ref (ad 23), .ref (ad 24), .ref (ad 25), .ref (ad 26)] : List Value).set 9 (.int v))) = (vM_ l D E ad).2.2.2 (ojU σ 0 9 v) := wM_set 0 (upd (σ 0) 9 v)
theorem mC_Model_s10 {l : Launch} {D : va_G} {E : ojE} {ad : Nat → Nat} {σ : ojS} (v : Int32) : ((vM_ l D E ad).2.2.2 σ).set 0 (ad 0, .inr (9, ([.int (σ 0 0), .ref (ad 1), .ref (ad 2), .ref (ad 3), .ref (ad 4), .ref (ad 5), .ref (ad 6), .ref (ad 7), .ref (ad 8), .int (σ 0 9), .int (σ 0 10), .int (σ 0 11), .int (σ 0 12), .int (σ 0 13), .int (σ 0 14), .ref (ad 9), .ref (ad 10), .ref (ad 11), .ref (ad 12), .ref (ad 13), .ref (ad 14), .ref (ad 15), .ref (ad 16), .int (σ 0 23), .ref (ad 17), .ref (ad 18), .ref (ad 19), .ref (ad 20), .ref (ad 21), .ref (ad 22), .int (σ 0 30), .int (σ 0 31), .ref (ad 23), .ref (ad 24), .ref (ad 25), .ref (ad 26)] : List Value).set 10 (.int v))) = (vM_ l D E ad).2.2.2 (ojU σ 0 10 v) := wM_set 0 (upd (σ 0) 10 v)
theorem mC_Model_s11 {l : Launch} {D : va_G} {E : ojE} {ad : Nat → Nat} {σ : ojS} (v : Int32) : ((vM_ l D E ad).2.2.2 σ).set 0 (ad 0, .inr (9, ([.int (σ 0 0), .ref (ad 1), .ref (ad 2), .ref (ad 3), .ref (ad 4), .ref (ad 5), .ref (ad 6), .ref (ad 7), .ref (ad 8), .int (σ 0 9), .int (σ 0 10), .int (σ 0 11), .int (σ 0 12), .int (σ 0 13), .int (σ 0 14), .ref (ad 9), .ref (ad 10), .ref (ad 11), .ref (ad 12), .ref (ad 13), .ref (ad 14), .ref (ad 15), .ref (ad 16), .int (σ 0 23), .ref (ad 17), .ref (ad 18), .ref (ad 19), .ref (ad 20), .ref (ad 21), .ref (ad 22), .int (σ 0 30), .int (σ 0 31), .ref (ad 23), .ref (ad 24), .ref (ad 25), .ref (ad 26)] : List Value).set 11 (.int v))) = (vM_ l D E ad).2.2.2 (ojU σ 0 11 v) := wM_set 0 (upd (σ 0) 11 v)
theorem mC_Model_s12 {l : Launch} {D : va_G} {E : ojE} {ad : Nat → Nat} {σ : ojS} (v : Int32) : ((vM_ l D E ad).2.2.2 σ).set 0 (ad 0, .inr (9, ([.int (σ 0 0), .ref (ad 1), .ref (ad 2), .ref (ad 3), .ref (ad 4), .ref (ad 5), .ref (ad 6), .ref (ad 7), .ref (ad 8), .int (σ 0 9), .int (σ 0 10), .int (σ 0 11), .int (σ 0 12), .int (σ 0 13), .int (σ 0 14), .ref (ad 9), .ref (ad 10), .ref (ad 11), .ref (ad 12), .ref (ad 13), .ref (ad 14), .ref (ad 15), .ref (ad 16), .int (σ 0 23), .ref (ad 17), .ref (ad 18), .ref (ad 19), .ref (ad 20), .ref (ad 21), .ref (ad 22), .int (σ 0 30), .int (σ 0 31), .ref (ad 23), .ref (ad 24), .ref (ad 25), .ref (ad 26)] : List Value).set 12 (.int v))) = (vM_ l D E ad).2.2.2 (ojU σ 0 12 v) := wM_set 0 (upd (σ 0) 12 v)
theorem mC_Model_s13 {l : Launch} {D : va_G} {E : ojE} {ad : Nat → Nat} {σ : ojS} (v : Int32) : ((vM_ l D E ad).2.2.2 σ).set 0 (ad 0, .inr (9, ([.int (σ 0 0), .ref (ad 1), .ref (ad 2), .ref (ad 3), .ref (ad 4), .ref (ad 5), .ref (ad 6), .ref (ad 7), .ref (ad 8), .int (σ 0 9), .int (σ 0 10), .int (σ 0 11), .int (σ 0 12), .int (σ 0 13), .int (σ 0 14), .ref (ad 9), .ref (ad 10), .ref (ad 11), .ref (ad 12), .ref (ad 13), .ref (ad 14), .ref (ad 15), .ref (ad 16), .int (σ 0 23), .ref (ad 17), .ref (ad 18), .ref (ad 19), .ref (ad 20), .ref (ad 21), .ref (ad 22), .int (σ 0 30), .int (σ 0 31), .ref (ad 23), .ref (ad 24), .ref (ad 25), .ref (ad 26)] : List Value).set 13 (.int v))) = (vM_ l D E ad).2.2.2 (ojU σ 0 13 v) := wM_set 0 (upd (σ 0) 13 v)
theorem mC_Model_s14 {l : Launch} {D : va_G} {E : ojE} {ad : Nat → Nat} {σ : ojS} (v : Int32) : ((vM_ l D E ad).2.2.2 σ).set 0 (ad 0, .inr (9, ([.int (σ 0 0), .ref (ad 1), .ref (ad 2), .ref (ad 3), .ref (ad 4), .ref (ad 5), .ref (ad 6), .ref (ad 7), .ref (ad 8), .int (σ 0 9), .int (σ 0 10), .int (σ 0 11), .int (σ 0 12), .int (σ 0 13), .int (σ 0 14), .ref (ad 9), .ref (ad 10), .ref (ad 11), .ref (ad 12), .ref (ad 13), .ref (ad 14), .ref (ad 15), .ref (ad 16), .int (σ 0 23), .ref (ad 17), .ref (ad 18), .ref (ad 19), .ref (ad 20), .ref (ad 21), .ref (ad 22), .int (σ 0 30), .int (σ 0 31), .ref (ad 23), .ref (ad 24), .ref (ad 25), .ref (ad 26)] : List Value).set 14 (.int v))) = (vM_ l D E ad).2.2.2 (ojU σ 0 14 v) := wM_set 0 (upd (σ 0) 14 v)
theorem mC_Model_s23 {l : Launch} {D : va_G} {E : ojE} {ad : Nat → Nat} {σ : ojS} (v : Int32) : ((vM_ l D E ad).2.2.2 σ).set 0 (ad 0, .inr (9, ([.int (σ 0 0), .ref (ad 1), .ref (ad 2), .ref (ad 3), .ref (ad 4), .ref (ad 5), .ref (ad 6), .ref (ad 7), .ref (ad 8), .int (σ 0 9), .int (σ 0 10), .int (σ 0 11), .int (σ 0 12), .int (σ 0 13), .int (σ 0 14), .ref (ad 9), .ref (ad 10), .ref (ad 11), .ref (ad 12), .ref (ad 13), .ref (ad 14), .ref (ad 15), .ref (ad 16), .int (σ 0 23), .ref (ad 17), .ref (ad 18), .ref (ad 19), .ref (ad 20), .ref (ad 21), .ref (ad 22), .int (σ 0 30), .int (σ 0 31), .ref (ad 23), .ref (ad 24), .ref (ad 25), .ref (ad 26)] : List Value).set 23 (.int v))) = (vM_ l D E ad).2.2.2 (ojU σ 0 23 v) := wM_set 0 (upd (σ 0) 23 v)
theorem mC_Model_s30 {l : Launch} {D : va_G} {E : ojE} {ad : Nat → Nat} {σ : ojS} (v : Int32) : ((vM_ l D E ad).2.2.2 σ).set 0 (ad 0, .inr (9, ([.int (σ 0 0), .ref (ad 1), .ref (ad 2), .ref (ad 3), .ref (ad 4), .ref (ad 5), .ref (ad 6), .ref (ad 7), .ref (ad 8), .int (σ 0 9), .int (σ 0 10), .int (σ 0 11), .int (σ 0 12), .int (σ 0 13), .int (σ 0 14), .ref (ad 9), .ref (ad 10), .ref (ad 11), .ref (ad 12), .ref (ad 13), .ref (ad 14), .ref (ad 15), .ref (ad 16), .int (σ 0 23), .ref (ad 17), .ref (ad 18), .ref (ad 19), .ref (ad 20), .ref (ad 21), .ref (ad 22), .int (σ 0 30), .int (σ 0 31), .ref (ad 23), .ref (ad 24), .ref (ad 25), .ref (ad 26)] : List Value).set 30 (.int v))) = (vM_ l D E ad).2.2.2 (ojU σ 0 30 v) := wM_set 0 (upd (σ 0) 30 v)
theorem mC_Model_s31 {l : Launch} {D : va_G} {E : ojE} {ad : Nat → Nat} {σ : ojS} (v : Int32) : ((vM_ l D E ad).2.2.2 σ).set 0 (ad 0, .inr (9, ([.int (σ 0 0), .ref (ad 1), .ref (ad 2), .ref (ad 3), .ref (ad 4), .ref (ad 5), .ref (ad 6), .ref (ad 7), .ref (ad 8), .int (σ 0 9), .int (σ 0 10), .int (σ 0 11), .int (σ 0 12), .int (σ 0 13), .int (σ 0 14), .ref (ad 9), .ref (ad 10), .ref (ad 11), .ref (ad 12), .ref (ad 13), .ref (ad 14), .ref (ad 15), .ref (ad 16), .int (σ 0 23), .ref (ad 17), .ref (ad 18), .ref (ad 19), .ref (ad 20), .ref (ad 21), .ref (ad 22), .int (σ 0 30), .int (σ 0 31), .ref (ad 23), .ref (ad 24), .ref (ad 25), .ref (ad 26)] : List Value).set 31 (.int v))) = (vM_ l D E ad).2.2.2 (ojU σ 0 31 v) := wM_set 0 (upd (σ 0) 31 v)
theorem mC_m_rank {l : Launch} {D : va_G} {E : ojE} {ad : Nat → Nat} {σ : ojS} : ((vM_ l D E ad).2.2.2 σ)[1]? = some (ad 1, .inl (E.1, 96, .inl (σ 1))) := wM_at (by decide)
theorem mC_m_rank_s {l : Launch} {D : va_G} {E : ojE} {ad : Nat → Nat} {σ : ojS} (f : Nat → Int32) : ((vM_ l D E ad).2.2.2 σ).set 1 (ad 1, .inl (E.1, 96, .inl f)) = (vM_ l D E ad).2.2.2 (ojW σ 1 f) := wM_set 1 f
theorem mC_m_oil {l : Launch} {D : va_G} {E : ojE} {ad : Nat → Nat} {σ : ojS} : ((vM_ l D E ad).2.2.2 σ)[2]? = some (ad 2, .inl (E.1, 96, .inl (σ 2))) := wM_at (by decide)
theorem mC_m_oil_s {l : Launch} {D : va_G} {E : ojE} {ad : Nat → Nat} {σ : ojS} (f : Nat → Int32) : ((vM_ l D E ad).2.2.2 σ).set 2 (ad 2, .inl (E.1, 96, .inl f)) = (vM_ l D E ad).2.2.2 (ojW σ 2 f) := wM_set 2 f
theorem mC_m_way {l : Launch} {D : va_G} {E : ojE} {ad : Nat → Nat} {σ : ojS} : ((vM_ l D E ad).2.2.2 σ)[3]? = some (ad 3, .inl (E.1, 1503, .inl (σ 3))) := wM_at (by decide)
theorem mC_m_way_s {l : Launch} {D : va_G} {E : ojE} {ad : Nat → Nat} {σ : ojS} (f : Nat → Int32) : ((vM_ l D E ad).2.2.2 σ).set 3 (ad 3, .inl (E.1, 1503, .inl f)) = (vM_ l D E ad).2.2.2 (ojW σ 3 f) := wM_set 3 f
theorem mC_m_force {l : Launch} {D : va_G} {E : ojE} {ad : Nat → Nat} {σ : ojS} : ((vM_ l D E ad).2.2.2 σ)[4]? = some (ad 4, .inl (E.1, 1503, .inl (σ 4))) := wM_at (by decide)
theorem mC_m_force_s {l : Launch} {D : va_G} {E : ojE} {ad : Nat → Nat} {σ : ojS} (f : Nat → Int32) : ((vM_ l D E ad).2.2.2 σ).set 4 (ad 4, .inl (E.1, 1503, .inl f)) = (vM_ l D E ad).2.2.2 (ojW σ 4 f) := wM_set 4 f
theorem mC_m_isBoom {l : Launch} {D : va_G} {E : ojE} {ad : Nat → Nat} {σ : ojS} : ((vM_ l D E ad).2.2.2 σ)[5]? = some (ad 5, .inl (E.2.1, 20, .inl (σ 5))) := wM_at (by decide)
theorem mC_m_isBoom_s {l : Launch} {D : va_G} {E : ojE} {ad : Nat → Nat} {σ : ojS} (f : Nat → Int32) : ((vM_ l D E ad).2.2.2 σ).set 5 (ad 5, .inl (E.2.1, 20, .inl f)) = (vM_ l D E ad).2.2.2 (ojW σ 5 f) := wM_set 5 f
theorem mC_m_boomA {l : Launch} {D : va_G} {E : ojE} {ad : Nat → Nat} {σ : ojS} : ((vM_ l D E ad).2.2.2 σ)[6]? = some (ad 6, .inl (E.1, 20, .inl (σ 6))) := wM_at (by decide)
theorem mC_m_boomA_s {l : Launch} {D : va_G} {E : ojE} {ad : Nat → Nat} {σ : ojS} (f : Nat → Int32) : ((vM_ l D E ad).2.2.2 σ).set 6 (ad 6, .inl (E.1, 20, .inl f)) = (vM_ l D E ad).2.2.2 (ojW σ 6 f) := wM_set 6 f
theorem mC_m_boomB {l : Launch} {D : va_G} {E : ojE} {ad : Nat → Nat} {σ : ojS} : ((vM_ l D E ad).2.2.2 σ)[7]? = some (ad 7, .inl (E.1, 20, .inl (σ 7))) := wM_at (by decide)
theorem mC_m_boomB_s {l : Launch} {D : va_G} {E : ojE} {ad : Nat → Nat} {σ : ojS} (f : Nat → Int32) : ((vM_ l D E ad).2.2.2 σ).set 7 (ad 7, .inl (E.1, 20, .inl f)) = (vM_ l D E ad).2.2.2 (ojW σ 7 f) := wM_set 7 f
theorem mC_m_boomLimit {l : Launch} {D : va_G} {E : ojE} {ad : Nat → Nat} {σ : ojS} : ((vM_ l D E ad).2.2.2 σ)[8]? = some (ad 8, .inl (E.1, 20, .inl (σ 8))) := wM_at (by decide)
theorem mC_m_boomLimit_s {l : Launch} {D : va_G} {E : ojE} {ad : Nat → Nat} {σ : ojS} (f : Nat → Int32) : ((vM_ l D E ad).2.2.2 σ).set 8 (ad 8, .inl (E.1, 20, .inl f)) = (vM_ l D E ad).2.2.2 (ojW σ 8 f) := wM_set 8 f
theorem mC_m_at {l : Launch} {D : va_G} {E : ojE} {ad : Nat → Nat} {σ : ojS} : ((vM_ l D E ad).2.2.2 σ)[9]? = some (ad 9, .inl (E.1, 4, .inl (σ 9))) := wM_at (by decide)
theorem mC_m_at_s {l : Launch} {D : va_G} {E : ojE} {ad : Nat → Nat} {σ : ojS} (f : Nat → Int32) : ((vM_ l D E ad).2.2.2 σ).set 9 (ad 9, .inl (E.1, 4, .inl f)) = (vM_ l D E ad).2.2.2 (ojW σ 9 f) := wM_set 9 f
theorem mC_m_rate {l : Launch} {D : va_G} {E : ojE} {ad : Nat → Nat} {σ : ojS} : ((vM_ l D E ad).2.2.2 σ)[10]? = some (ad 10, .inl (E.1, 4, .inl (σ 10))) := wM_at (by decide)
theorem mC_m_rate_s {l : Launch} {D : va_G} {E : ojE} {ad : Nat → Nat} {σ : ojS} (f : Nat → Int32) : ((vM_ l D E ad).2.2.2 σ).set 10 (ad 10, .inl (E.1, 4, .inl f)) = (vM_ l D E ad).2.2.2 (ojW σ 10 f) := wM_set 10 f
theorem mC_m_room {l : Launch} {D : va_G} {E : ojE} {ad : Nat → Nat} {σ : ojS} : ((vM_ l D E ad).2.2.2 σ)[11]? = some (ad 11, .inl (E.1, 4, .inl (σ 11))) := wM_at (by decide)
theorem mC_m_room_s {l : Launch} {D : va_G} {E : ojE} {ad : Nat → Nat} {σ : ojS} (f : Nat → Int32) : ((vM_ l D E ad).2.2.2 σ).set 11 (ad 11, .inl (E.1, 4, .inl f)) = (vM_ l D E ad).2.2.2 (ojW σ 11 f) := wM_set 11 f
theorem mC_m_speed {l : Launch} {D : va_G} {E : ojE} {ad : Nat → Nat} {σ : ojS} : ((vM_ l D E ad).2.2.2 σ)[12]? = some (ad 12, .inl (E.1, 4, .inl (σ 12))) := wM_at (by decide)
theorem mC_m_speed_s {l : Launch} {D : va_G} {E : ojE} {ad : Nat → Nat} {σ : ojS} (f : Nat → Int32) : ((vM_ l D E ad).2.2.2 σ).set 12 (ad 12, .inl (E.1, 4, .inl f)) = (vM_ l D E ad).2.2.2 (ojW σ 12 f) := wM_set 12 f
theorem mC_m_has {l : Launch} {D : va_G} {E : ojE} {ad : Nat → Nat} {σ : ojS} : ((vM_ l D E ad).2.2.2 σ)[13]? = some (ad 13, .inl (E.1, 4, .inl (σ 13))) := wM_at (by decide)
theorem mC_m_has_s {l : Launch} {D : va_G} {E : ojE} {ad : Nat → Nat} {σ : ojS} (f : Nat → Int32) : ((vM_ l D E ad).2.2.2 σ).set 13 (ad 13, .inl (E.1, 4, .inl f)) = (vM_ l D E ad).2.2.2 (ojW σ 13 f) := wM_set 13 f
theorem mC_m_took {l : Launch} {D : va_G} {E : ojE} {ad : Nat → Nat} {σ : ojS} : ((vM_ l D E ad).2.2.2 σ)[14]? = some (ad 14, .inl (E.1, 4, .inl (σ 14))) := wM_at (by decide)
theorem mC_m_took_s {l : Launch} {D : va_G} {E : ojE} {ad : Nat → Nat} {σ : ojS} (f : Nat → Int32) : ((vM_ l D E ad).2.2.2 σ).set 14 (ad 14, .inl (E.1, 4, .inl f)) = (vM_ l D E ad).2.2.2 (ojW σ 14 f) := wM_set 14 f
theorem mC_m_cameIn {l : Launch} {D : va_G} {E : ojE} {ad : Nat → Nat} {σ : ojS} : ((vM_ l D E ad).2.2.2 σ)[15]? = some (ad 15, .inl (E.1, 4, .inl (σ 15))) := wM_at (by decide)
theorem mC_m_cameIn_s {l : Launch} {D : va_G} {E : ojE} {ad : Nat → Nat} {σ : ojS} (f : Nat → Int32) : ((vM_ l D E ad).2.2.2 σ).set 15 (ad 15, .inl (E.1, 4, .inl f)) = (vM_ l D E ad).2.2.2 (ojW σ 15 f) := wM_set 15 f
theorem mC_m_wentNow {l : Launch} {D : va_G} {E : ojE} {ad : Nat → Nat} {σ : ojS} : ((vM_ l D E ad).2.2.2 σ)[16]? = some (ad 16, .inl (E.2.1, 4, .inl (σ 16))) := wM_at (by decide)
theorem mC_m_wentNow_s {l : Launch} {D : va_G} {E : ojE} {ad : Nat → Nat} {σ : ojS} (f : Nat → Int32) : ((vM_ l D E ad).2.2.2 σ).set 16 (ad 16, .inl (E.2.1, 4, .inl f)) = (vM_ l D E ad).2.2.2 (ojW σ 16 f) := wM_set 16 f
theorem mC_m_shipMark {l : Launch} {D : va_G} {E : ojE} {ad : Nat → Nat} {σ : ojS} : ((vM_ l D E ad).2.2.2 σ)[17]? = some (ad 17, .inl (E.1, 8, .inl (σ 17))) := wM_at (by decide)
theorem mC_m_shipMark_s {l : Launch} {D : va_G} {E : ojE} {ad : Nat → Nat} {σ : ojS} (f : Nat → Int32) : ((vM_ l D E ad).2.2.2 σ).set 17 (ad 17, .inl (E.1, 8, .inl f)) = (vM_ l D E ad).2.2.2 (ojW σ 17 f) := wM_set 17 f
theorem mC_m_shipCell {l : Launch} {D : va_G} {E : ojE} {ad : Nat → Nat} {σ : ojS} : ((vM_ l D E ad).2.2.2 σ)[18]? = some (ad 18, .inl (E.1, 8, .inl (σ 18))) := wM_at (by decide)
theorem mC_m_shipCell_s {l : Launch} {D : va_G} {E : ojE} {ad : Nat → Nat} {σ : ojS} (f : Nat → Int32) : ((vM_ l D E ad).2.2.2 σ).set 18 (ad 18, .inl (E.1, 8, .inl f)) = (vM_ l D E ad).2.2.2 (ojW σ 18 f) := wM_set 18 f
theorem mC_m_shipHour {l : Launch} {D : va_G} {E : ojE} {ad : Nat → Nat} {σ : ojS} : ((vM_ l D E ad).2.2.2 σ)[19]? = some (ad 19, .inl (E.1, 8, .inl (σ 19))) := wM_at (by decide)
theorem mC_m_shipHour_s {l : Launch} {D : va_G} {E : ojE} {ad : Nat → Nat} {σ : ojS} (f : Nat → Int32) : ((vM_ l D E ad).2.2.2 σ).set 19 (ad 19, .inl (E.1, 8, .inl f)) = (vM_ l D E ad).2.2.2 (ojW σ 19 f) := wM_set 19 f
theorem mC_m_parts {l : Launch} {D : va_G} {E : ojE} {ad : Nat → Nat} {σ : ojS} : ((vM_ l D E ad).2.2.2 σ)[20]? = some (ad 20, .inl (E.1, 4, .inl (σ 20))) := wM_at (by decide)
theorem mC_m_parts_s {l : Launch} {D : va_G} {E : ojE} {ad : Nat → Nat} {σ : ojS} (f : Nat → Int32) : ((vM_ l D E ad).2.2.2 σ).set 20 (ad 20, .inl (E.1, 4, .inl f)) = (vM_ l D E ad).2.2.2 (ojW σ 20 f) := wM_set 20 f
theorem mC_m_comes {l : Launch} {D : va_G} {E : ojE} {ad : Nat → Nat} {σ : ojS} : ((vM_ l D E ad).2.2.2 σ)[21]? = some (ad 21, .inl (E.1, 96, .inl (σ 21))) := wM_at (by decide)
theorem mC_m_comes_s {l : Launch} {D : va_G} {E : ojE} {ad : Nat → Nat} {σ : ojS} (f : Nat → Int32) : ((vM_ l D E ad).2.2.2 σ).set 21 (ad 21, .inl (E.1, 96, .inl f)) = (vM_ l D E ad).2.2.2 (ojW σ 21 f) := wM_set 21 f
theorem mC_m_kept {l : Launch} {D : va_G} {E : ojE} {ad : Nat → Nat} {σ : ojS} : ((vM_ l D E ad).2.2.2 σ)[22]? = some (ad 22, .inl (E.1, 448, .inl (σ 22))) := wM_at (by decide)
theorem mC_m_kept_s {l : Launch} {D : va_G} {E : ojE} {ad : Nat → Nat} {σ : ojS} (f : Nat → Int32) : ((vM_ l D E ad).2.2.2 σ).set 22 (ad 22, .inl (E.1, 448, .inl f)) = (vM_ l D E ad).2.2.2 (ojW σ 22 f) := wM_set 22 f
theorem mC_m_isThere {l : Launch} {D : va_G} {E : ojE} {ad : Nat → Nat} {σ : ojS} : ((vM_ l D E ad).2.2.2 σ)[23]? = some (ad 23, .inl (E.2.1, 96, .inl (σ 23))) := wM_at (by decide)
theorem mC_m_isThere_s {l : Launch} {D : va_G} {E : ojE} {ad : Nat → Nat} {σ : ojS} (f : Nat → Int32) : ((vM_ l D E ad).2.2.2 σ).set 23 (ad 23, .inl (E.2.1, 96, .inl f)) = (vM_ l D E ad).2.2.2 (ojW σ 23 f) := wM_set 23 f
theorem mC_m_isNext {l : Launch} {D : va_G} {E : ojE} {ad : Nat → Nat} {σ : ojS} : ((vM_ l D E ad).2.2.2 σ)[24]? = some (ad 24, .inl (E.2.1, 96, .inl (σ 24))) := wM_at (by decide)
theorem mC_m_isNext_s {l : Launch} {D : va_G} {E : ojE} {ad : Nat → Nat} {σ : ojS} (f : Nat → Int32) : ((vM_ l D E ad).2.2.2 σ).set 24 (ad 24, .inl (E.2.1, 96, .inl f)) = (vM_ l D E ad).2.2.2 (ojW σ 24 f) := wM_set 24 f
theorem mC_m_cut {l : Launch} {D : va_G} {E : ojE} {ad : Nat → Nat} {σ : ojS} : ((vM_ l D E ad).2.2.2 σ)[25]? = some (ad 25, .inl (E.1, 4, .inl (σ 25))) := wM_at (by decide)
theorem mC_m_cut_s {l : Launch} {D : va_G} {E : ojE} {ad : Nat → Nat} {σ : ojS} (f : Nat → Int32) : ((vM_ l D E ad).2.2.2 σ).set 25 (ad 25, .inl (E.1, 4, .inl f)) = (vM_ l D E ad).2.2.2 (ojW σ 25 f) := wM_set 25 f
theorem mC_m_pays {l : Launch} {D : va_G} {E : ojE} {ad : Nat → Nat} {σ : ojS} : ((vM_ l D E ad).2.2.2 σ)[26]? = some (ad 26, .inl (E.1, 4, .inl (σ 26))) := wM_at (by decide)
theorem mC_m_pays_s {l : Launch} {D : va_G} {E : ojE} {ad : Nat → Nat} {σ : ojS} (f : Nat → Int32) : ((vM_ l D E ad).2.2.2 σ).set 26 (ad 26, .inl (E.1, 4, .inl f)) = (vM_ l D E ad).2.2.2 (ojW σ 26 f) := wM_set 26 f
end
section
theorem oj_04 : 0 < 4 := by decide
theorem oj_08 : 0 < 8 := by decide
theorem oj_lt1 {n : Nat} (h : n < 3) : 1 + n < 4 := by omega
theorem inoX0 : ∀ w ∈ u_ws RX0 TX0 4, w ∈ ojT := by decide +kernel
theorem inoX1 : ∀ w ∈ u_ws RX1 TX1 2, w ∈ ojT := by decide +kernel
theorem inoX2 : ∀ w ∈ u_ws RX2 TX2 1, w ∈ ojT := by decide +kernel
theorem inoX3 : ∀ w ∈ u_ws RX3 TX3 5, w ∈ ojT := by decide +kernel
theorem inoX4 : ∀ w ∈ u_ws RX4 TX4 3, w ∈ ojT := by decide +kernel
theorem inoX5 : ∀ w ∈ u_ws RX5 TX5 6, w ∈ ojT := by decide +kernel
theorem inoX6 : ∀ w ∈ u_ws RX6 TX6 1, w ∈ ojT := by decide +kernel
theorem inoX7 : ∀ w ∈ u_ws RX7 TX7 4, w ∈ ojT := by decide +kernel
theorem inoX8 : ∀ w ∈ u_ws RX8 TX8 14, w ∈ ojT := by decide +kernel
theorem inoX9 : ∀ w ∈ u_ws RX9 TX9 36, w ∈ ojT := by decide +kernel
theorem kb_m2 : (Int8.ofInt (-2)).toInt32 = (-2) := by decide
theorem kb_6 : (Int8.ofInt 6).toInt32 = 6 := by decide
theorem kb_7 : (Int8.ofInt 7).toInt32 = 7 := by decide
theorem kb_8 : (Int8.ofInt 8).toInt32 = 8 := by decide
theorem kb_9 : (Int8.ofInt 9).toInt32 = 9 := by decide
theorem kb_10 : (Int8.ofInt 10).toInt32 = 10 := by decide
theorem kb_11 : (Int8.ofInt 11).toInt32 = 11 := by decide
theorem kb_12 : (Int8.ofInt 12).toInt32 = 12 := by decide
theorem kb_19 : (Int8.ofInt 19).toInt32 = 19 := by decide
theorem kb_20 : (Int8.ofInt 20).toInt32 = 20 := by decide
theorem kb_30 : (Int8.ofInt 30).toInt32 = 30 := by decide
theorem kb_48 : (Int8.ofInt 48).toInt32 = 48 := by decide
theorem kb_50 : (Int8.ofInt 50).toInt32 = 50 := by decide
theorem kb_84 : (Int8.ofInt 84).toInt32 = 84 := by decide
theorem kb_95 : (Int8.ofInt 95).toInt32 = 95 := by decide
theorem kb_96 : (Int8.ofInt 96).toInt32 = 96 := by decide
theorem kb_100 : (Int8.ofInt 100).toInt32 = 100 := by decide
theorem kb_112 : (Int8.ofInt 112).toInt32 = 112 := by decide
theorem kc_m1 : Int32.ofInt (-1) = (-1) := by decide
theorem kc_0 : Int32.ofInt 0 = 0 := by decide
theorem kc_1 : Int32.ofInt 1 = 1 := by decide
theorem kc_2 : Int32.ofInt 2 = 2 := by decide
theorem kc_3 : Int32.ofInt 3 = 3 := by decide
theorem kc_4 : Int32.ofInt 4 = 4 := by decide
theorem kc_5 : Int32.ofInt 5 = 5 := by decide
theorem kc_12 : Int32.ofInt 12 = 12 := by decide
theorem kc_96 : Int32.ofInt 96 = 96 := by decide
theorem ks_500 : (Int16.ofInt 500).toInt32 = 500 := by decide
theorem ks_501 : (Int16.ofInt 501).toInt32 = 501 := by decide
theorem ks_1000 : (Int16.ofInt 1000).toInt32 = 1000 := by decide
theorem ks_5000 : (Int16.ofInt 5000).toInt32 = 5000 := by decide
theorem kd_X8_111 : Cond.constant RX8 111 100000 ∈ ojT := ojT_in (by decide +kernel) rfl
theorem kd_X8_115 : Cond.constant RX8 115 1000000 ∈ ojT := ojT_in (by decide +kernel) rfl
theorem kd_X8_200 : Cond.constant RX8 200 999999 ∈ ojT := ojT_in (by decide +kernel) rfl
theorem kd_X9_121 : Cond.constant RX9 121 100000 ∈ ojT := ojT_in (by decide +kernel) rfl
theorem kd_X9_125 : Cond.constant RX9 125 1000000 ∈ ojT := ojT_in (by decide +kernel) rfl
theorem kd_X9_141 : Cond.constantLong RX9 141 1000 ∈ ojT := ojT_in (by decide +kernel) rfl
theorem kd_X9_179 : Cond.constant RX9 179 999999 ∈ ojT := ojT_in (by decide +kernel) rfl
theorem ff_X0_15 : ojF RX0 15 0 1 := ⟨RX0, TX0, 4, rfl, inoX0, by decide, ojT_in (by decide +kernel) rfl⟩
theorem ff_X0_18 : ojF RX0 18 0 2 := ⟨RX0, TX0, 4, rfl, inoX0, by decide, ojT_in (by decide +kernel) rfl⟩
theorem ff_X0_25 : ojF RX0 25 0 3 := ⟨RX0, TX0, 4, rfl, inoX0, by decide, ojT_in (by decide +kernel) rfl⟩
theorem ff_X0_9 : ojF RX0 9 0 0 := ⟨RX0, TX0, 4, rfl, inoX0, by decide, ojT_in (by decide +kernel) rfl⟩
theorem ff_X1_11 : ojF RX1 11 1 0 := ⟨RX1, TX1, 2, rfl, inoX1, by decide, ojT_in (by decide +kernel) rfl⟩
theorem ff_X1_18 : ojF RX1 18 1 1 := ⟨RX1, TX1, 2, rfl, inoX1, by decide, ojT_in (by decide +kernel) rfl⟩
theorem ff_X1_22 : ojF RX1 22 5 0 := ⟨RX5, TX5, 6, rfl, inoX5, by decide, ojT_in (by decide +kernel) rfl⟩
theorem ff_X1_25 : ojF RX1 25 5 1 := ⟨RX5, TX5, 6, rfl, inoX5, by decide, ojT_in (by decide +kernel) rfl⟩
theorem ff_X1_28 : ojF RX1 28 5 2 := ⟨RX5, TX5, 6, rfl, inoX5, by decide, ojT_in (by decide +kernel) rfl⟩
theorem ff_X1_38 : ojF RX1 38 7 1 := ⟨RX7, TX7, 4, rfl, inoX7, by decide, ojT_in (by decide +kernel) rfl⟩
theorem ff_X1_54 : ojF RX1 54 7 0 := ⟨RX7, TX7, 4, rfl, inoX7, by decide, ojT_in (by decide +kernel) rfl⟩
theorem ff_X2_9 : ojF RX2 9 2 0 := ⟨RX2, TX2, 1, rfl, inoX2, by decide, ojT_in (by decide +kernel) rfl⟩
theorem ff_X6_9 : ojF RX6 9 6 0 := ⟨RX6, TX6, 1, rfl, inoX6, by decide, ojT_in (by decide +kernel) rfl⟩
theorem ff_X7_15 : ojF RX7 15 7 1 := ⟨RX7, TX7, 4, rfl, inoX7, by decide, ojT_in (by decide +kernel) rfl⟩
theorem ff_X7_24 : ojF RX7 24 7 2 := ⟨RX7, TX7, 4, rfl, inoX7, by decide, ojT_in (by decide +kernel) rfl⟩
theorem ff_X7_28 : ojF RX7 28 7 3 := ⟨RX7, TX7, 4, rfl, inoX7, by decide, ojT_in (by decide +kernel) rfl⟩
theorem ff_X7_9 : ojF RX7 9 7 0 := ⟨RX7, TX7, 4, rfl, inoX7, by decide, ojT_in (by decide +kernel) rfl⟩
theorem ff_X8_112 : ojF RX8 112 8 11 := ⟨RX8, TX8, 14, rfl, inoX8, by decide, ojT_in (by decide +kernel) rfl⟩
theorem ff_X8_116 : ojF RX8 116 8 12 := ⟨RX8, TX8, 14, rfl, inoX8, by decide, ojT_in (by decide +kernel) rfl⟩
theorem ff_X8_12 : ojF RX8 12 8 0 := ⟨RX8, TX8, 14, rfl, inoX8, by decide, ojT_in (by decide +kernel) rfl⟩
theorem ff_X8_126 : ojF RX8 126 1 0 := ⟨RX1, TX1, 2, rfl, inoX1, by decide, ojT_in (by decide +kernel) rfl⟩
theorem ff_X8_130 : ojF RX8 130 5 5 := ⟨RX5, TX5, 6, rfl, inoX5, by decide, ojT_in (by decide +kernel) rfl⟩
theorem ff_X8_136 : ojF RX8 136 5 0 := ⟨RX5, TX5, 6, rfl, inoX5, by decide, ojT_in (by decide +kernel) rfl⟩
theorem ff_X8_139 : ojF RX8 139 5 3 := ⟨RX5, TX5, 6, rfl, inoX5, by decide, ojT_in (by decide +kernel) rfl⟩
theorem ff_X8_145 : ojF RX8 145 7 1 := ⟨RX7, TX7, 4, rfl, inoX7, by decide, ojT_in (by decide +kernel) rfl⟩
theorem ff_X8_148 : ojF RX8 148 5 4 := ⟨RX5, TX5, 6, rfl, inoX5, by decide, ojT_in (by decide +kernel) rfl⟩
theorem ff_X8_160 : ojF RX8 160 8 9 := ⟨RX8, TX8, 14, rfl, inoX8, by decide, ojT_in (by decide +kernel) rfl⟩
theorem ff_X8_167 : ojF RX8 167 8 13 := ⟨RX8, TX8, 14, rfl, inoX8, by decide, ojT_in (by decide +kernel) rfl⟩
theorem ff_X8_170 : ojF RX8 170 1 1 := ⟨RX1, TX1, 2, rfl, inoX1, by decide, ojT_in (by decide +kernel) rfl⟩
theorem ff_X8_19 : ojF RX8 19 8 1 := ⟨RX8, TX8, 14, rfl, inoX8, by decide, ojT_in (by decide +kernel) rfl⟩
theorem ff_X8_194 : ojF RX8 194 3 3 := ⟨RX3, TX3, 5, rfl, inoX3, by decide, ojT_in (by decide +kernel) rfl⟩
theorem ff_X8_197 : ojF RX8 197 3 4 := ⟨RX3, TX3, 5, rfl, inoX3, by decide, ojT_in (by decide +kernel) rfl⟩
theorem ff_X8_201 : ojF RX8 201 4 0 := ⟨RX4, TX4, 3, rfl, inoX4, by decide, ojT_in (by decide +kernel) rfl⟩
theorem ff_X8_204 : ojF RX8 204 4 1 := ⟨RX4, TX4, 3, rfl, inoX4, by decide, ojT_in (by decide +kernel) rfl⟩
theorem ff_X8_205 : ojF RX8 205 4 2 := ⟨RX4, TX4, 3, rfl, inoX4, by decide, ojT_in (by decide +kernel) rfl⟩
theorem ff_X8_227 : ojF RX8 227 7 2 := ⟨RX7, TX7, 4, rfl, inoX7, by decide, ojT_in (by decide +kernel) rfl⟩
theorem ff_X8_233 : ojF RX8 233 7 3 := ⟨RX7, TX7, 4, rfl, inoX7, by decide, ojT_in (by decide +kernel) rfl⟩
theorem ff_X8_242 : ojF RX8 242 0 3 := ⟨RX0, TX0, 4, rfl, inoX0, by decide, ojT_in (by decide +kernel) rfl⟩
theorem ff_X8_26 : ojF RX8 26 8 2 := ⟨RX8, TX8, 14, rfl, inoX8, by decide, ojT_in (by decide +kernel) rfl⟩
theorem ff_X8_275 : ojF RX8 275 3 0 := ⟨RX3, TX3, 5, rfl, inoX3, by decide, ojT_in (by decide +kernel) rfl⟩
theorem ff_X8_278 : ojF RX8 278 5 1 := ⟨RX5, TX5, 6, rfl, inoX5, by decide, ojT_in (by decide +kernel) rfl⟩
theorem ff_X8_281 : ojF RX8 281 3 1 := ⟨RX3, TX3, 5, rfl, inoX3, by decide, ojT_in (by decide +kernel) rfl⟩
theorem ff_X8_295 : ojF RX8 295 3 2 := ⟨RX3, TX3, 5, rfl, inoX3, by decide, ojT_in (by decide +kernel) rfl⟩
theorem ff_X8_33 : ojF RX8 33 8 3 := ⟨RX8, TX8, 14, rfl, inoX8, by decide, ojT_in (by decide +kernel) rfl⟩
theorem ff_X8_40 : ojF RX8 40 8 4 := ⟨RX8, TX8, 14, rfl, inoX8, by decide, ojT_in (by decide +kernel) rfl⟩
theorem ff_X8_44 : ojF RX8 44 8 5 := ⟨RX8, TX8, 14, rfl, inoX8, by decide, ojT_in (by decide +kernel) rfl⟩
theorem ff_X8_51 : ojF RX8 51 8 6 := ⟨RX8, TX8, 14, rfl, inoX8, by decide, ojT_in (by decide +kernel) rfl⟩
theorem ff_X8_57 : ojF RX8 57 8 7 := ⟨RX8, TX8, 14, rfl, inoX8, by decide, ojT_in (by decide +kernel) rfl⟩
theorem ff_X8_62 : ojF RX8 62 8 8 := ⟨RX8, TX8, 14, rfl, inoX8, by decide, ojT_in (by decide +kernel) rfl⟩
theorem ff_X8_74 : ojF RX8 74 8 10 := ⟨RX8, TX8, 14, rfl, inoX8, by decide, ojT_in (by decide +kernel) rfl⟩
theorem ff_X8_78 : ojF RX8 78 7 0 := ⟨RX7, TX7, 4, rfl, inoX7, by decide, ojT_in (by decide +kernel) rfl⟩
theorem ff_X8_90 : ojF RX8 90 2 0 := ⟨RX2, TX2, 1, rfl, inoX2, by decide, ojT_in (by decide +kernel) rfl⟩
theorem ff_X9_101 : ojF RX9 101 9 14 := ⟨RX9, TX9, 36, rfl, inoX9, by decide, ojT_in (by decide +kernel) rfl⟩
theorem ff_X9_104 : ojF RX9 104 9 0 := ⟨RX9, TX9, 36, rfl, inoX9, by decide, ojT_in (by decide +kernel) rfl⟩
theorem ff_X9_107 : ojF RX9 107 9 23 := ⟨RX9, TX9, 36, rfl, inoX9, by decide, ojT_in (by decide +kernel) rfl⟩
theorem ff_X9_122 : ojF RX9 122 9 9 := ⟨RX9, TX9, 36, rfl, inoX9, by decide, ojT_in (by decide +kernel) rfl⟩
theorem ff_X9_13 : ojF RX9 13 9 2 := ⟨RX9, TX9, 36, rfl, inoX9, by decide, ojT_in (by decide +kernel) rfl⟩
theorem ff_X9_138 : ojF RX9 138 9 12 := ⟨RX9, TX9, 36, rfl, inoX9, by decide, ojT_in (by decide +kernel) rfl⟩
theorem ff_X9_143 : ojF RX9 143 9 11 := ⟨RX9, TX9, 36, rfl, inoX9, by decide, ojT_in (by decide +kernel) rfl⟩
theorem ff_X9_146 : ojF RX9 146 9 13 := ⟨RX9, TX9, 36, rfl, inoX9, by decide, ojT_in (by decide +kernel) rfl⟩
theorem ff_X9_16 : ojF RX9 16 9 3 := ⟨RX9, TX9, 36, rfl, inoX9, by decide, ojT_in (by decide +kernel) rfl⟩
theorem ff_X9_166 : ojF RX9 166 9 30 := ⟨RX9, TX9, 36, rfl, inoX9, by decide, ojT_in (by decide +kernel) rfl⟩
theorem ff_X9_169 : ojF RX9 169 9 31 := ⟨RX9, TX9, 36, rfl, inoX9, by decide, ojT_in (by decide +kernel) rfl⟩
theorem ff_X9_19 : ojF RX9 19 9 4 := ⟨RX9, TX9, 36, rfl, inoX9, by decide, ojT_in (by decide +kernel) rfl⟩
theorem ff_X9_22 : ojF RX9 22 9 5 := ⟨RX9, TX9, 36, rfl, inoX9, by decide, ojT_in (by decide +kernel) rfl⟩
theorem ff_X9_26 : ojF RX9 26 9 6 := ⟨RX9, TX9, 36, rfl, inoX9, by decide, ojT_in (by decide +kernel) rfl⟩
theorem ff_X9_29 : ojF RX9 29 9 7 := ⟨RX9, TX9, 36, rfl, inoX9, by decide, ojT_in (by decide +kernel) rfl⟩
theorem ff_X9_32 : ojF RX9 32 9 8 := ⟨RX9, TX9, 36, rfl, inoX9, by decide, ojT_in (by decide +kernel) rfl⟩
theorem ff_X9_35 : ojF RX9 35 9 10 := ⟨RX9, TX9, 36, rfl, inoX9, by decide, ojT_in (by decide +kernel) rfl⟩
theorem ff_X9_39 : ojF RX9 39 9 15 := ⟨RX9, TX9, 36, rfl, inoX9, by decide, ojT_in (by decide +kernel) rfl⟩
theorem ff_X9_42 : ojF RX9 42 9 16 := ⟨RX9, TX9, 36, rfl, inoX9, by decide, ojT_in (by decide +kernel) rfl⟩
theorem ff_X9_45 : ojF RX9 45 9 17 := ⟨RX9, TX9, 36, rfl, inoX9, by decide, ojT_in (by decide +kernel) rfl⟩
theorem ff_X9_48 : ojF RX9 48 9 18 := ⟨RX9, TX9, 36, rfl, inoX9, by decide, ojT_in (by decide +kernel) rfl⟩
theorem ff_X9_51 : ojF RX9 51 9 19 := ⟨RX9, TX9, 36, rfl, inoX9, by decide, ojT_in (by decide +kernel) rfl⟩
theorem ff_X9_54 : ojF RX9 54 9 20 := ⟨RX9, TX9, 36, rfl, inoX9, by decide, ojT_in (by decide +kernel) rfl⟩
theorem ff_X9_57 : ojF RX9 57 9 21 := ⟨RX9, TX9, 36, rfl, inoX9, by decide, ojT_in (by decide +kernel) rfl⟩
theorem ff_X9_60 : ojF RX9 60 9 22 := ⟨RX9, TX9, 36, rfl, inoX9, by decide, ojT_in (by decide +kernel) rfl⟩
theorem ff_X9_63 : ojF RX9 63 9 24 := ⟨RX9, TX9, 36, rfl, inoX9, by decide, ojT_in (by decide +kernel) rfl⟩
theorem ff_X9_66 : ojF RX9 66 9 25 := ⟨RX9, TX9, 36, rfl, inoX9, by decide, ojT_in (by decide +kernel) rfl⟩
theorem ff_X9_69 : ojF RX9 69 9 26 := ⟨RX9, TX9, 36, rfl, inoX9, by decide, ojT_in (by decide +kernel) rfl⟩
theorem ff_X9_72 : ojF RX9 72 9 27 := ⟨RX9, TX9, 36, rfl, inoX9, by decide, ojT_in (by decide +kernel) rfl⟩
theorem ff_X9_75 : ojF RX9 75 9 28 := ⟨RX9, TX9, 36, rfl, inoX9, by decide, ojT_in (by decide +kernel) rfl⟩
theorem ff_X9_78 : ojF RX9 78 9 29 := ⟨RX9, TX9, 36, rfl, inoX9, by decide, ojT_in (by decide +kernel) rfl⟩
theorem ff_X9_81 : ojF RX9 81 9 32 := ⟨RX9, TX9, 36, rfl, inoX9, by decide, ojT_in (by decide +kernel) rfl⟩
theorem ff_X9_84 : ojF RX9 84 9 33 := ⟨RX9, TX9, 36, rfl, inoX9, by decide, ojT_in (by decide +kernel) rfl⟩
theorem ff_X9_87 : ojF RX9 87 9 34 := ⟨RX9, TX9, 36, rfl, inoX9, by decide, ojT_in (by decide +kernel) rfl⟩
theorem ff_X9_9 : ojF RX9 9 9 1 := ⟨RX9, TX9, 36, rfl, inoX9, by decide, ojT_in (by decide +kernel) rfl⟩
theorem ff_X9_90 : ojF RX9 90 9 35 := ⟨RX9, TX9, 36, rfl, inoX9, by decide, ojT_in (by decide +kernel) rfl⟩
theorem fp_X0_25 : ojFp RX0 25 0 3 .int := ⟨RX0, TX0, 4, tyX0, rfl, inoX0, by decide, ojT_in (by decide +kernel) rfl, tyX0_ok, nmX0, rfl, by decide +kernel⟩
theorem fp_X1_18 : ojFp RX1 18 1 1 .int := ⟨RX1, TX1, 2, tyX1, rfl, inoX1, by decide, ojT_in (by decide +kernel) rfl, tyX1_ok, nmX1, rfl, by decide +kernel⟩
theorem fp_X1_22 : ojFp RX1 22 5 0 .int := ⟨RX5, TX5, 6, tyX5, rfl, inoX5, by decide, ojT_in (by decide +kernel) rfl, tyX5_ok, nmX5, rfl, by decide +kernel⟩
theorem fp_X1_25 : ojFp RX1 25 5 1 .int := ⟨RX5, TX5, 6, tyX5, rfl, inoX5, by decide, ojT_in (by decide +kernel) rfl, tyX5_ok, nmX5, rfl, by decide +kernel⟩
theorem fp_X1_28 : ojFp RX1 28 5 2 .int := ⟨RX5, TX5, 6, tyX5, rfl, inoX5, by decide, ojT_in (by decide +kernel) rfl, tyX5_ok, nmX5, rfl, by decide +kernel⟩
theorem fp_X1_31 : ojFp RX1 31 5 3 .int := ⟨RX5, TX5, 6, tyX5, rfl, inoX5, by decide, ojT_in (by decide +kernel) rfl, tyX5_ok, nmX5, rfl, by decide +kernel⟩
theorem fp_X1_34 : ojFp RX1 34 5 5 .boolean := ⟨RX5, TX5, 6, tyX5, rfl, inoX5, by decide, ojT_in (by decide +kernel) rfl, tyX5_ok, nmX5, rfl, by decide +kernel⟩
theorem fp_X3_15 : ojFp RX3 15 3 1 .int := ⟨RX3, TX3, 5, tyX3, rfl, inoX3, by decide, ojT_in (by decide +kernel) rfl, tyX3_ok, nmX3, rfl, by decide +kernel⟩
theorem fp_X3_18 : ojFp RX3 18 3 2 .int := ⟨RX3, TX3, 5, tyX3, rfl, inoX3, by decide, ojT_in (by decide +kernel) rfl, tyX3_ok, nmX3, rfl, by decide +kernel⟩
theorem fp_X3_21 : ojFp RX3 21 3 3 .int := ⟨RX3, TX3, 5, tyX3, rfl, inoX3, by decide, ojT_in (by decide +kernel) rfl, tyX3_ok, nmX3, rfl, by decide +kernel⟩
theorem fp_X3_24 : ojFp RX3 24 3 4 .int := ⟨RX3, TX3, 5, tyX3, rfl, inoX3, by decide, ojT_in (by decide +kernel) rfl, tyX3_ok, nmX3, rfl, by decide +kernel⟩
theorem fp_X3_9 : ojFp RX3 9 3 0 .int := ⟨RX3, TX3, 5, tyX3, rfl, inoX3, by decide, ojT_in (by decide +kernel) rfl, tyX3_ok, nmX3, rfl, by decide +kernel⟩
theorem fp_X7_24 : ojFp RX7 24 7 2 .int := ⟨RX7, TX7, 4, tyX7, rfl, inoX7, by decide, ojT_in (by decide +kernel) rfl, tyX7_ok, nmX7, rfl, by decide +kernel⟩
theorem fp_X7_28 : ojFp RX7 28 7 3 .int := ⟨RX7, TX7, 4, tyX7, rfl, inoX7, by decide, ojT_in (by decide +kernel) rfl, tyX7_ok, nmX7, rfl, by decide +kernel⟩
theorem fp_X8_112 : ojFp RX8 112 8 11 .int := ⟨RX8, TX8, 14, tyX8, rfl, inoX8, by decide, ojT_in (by decide +kernel) rfl, tyX8_ok, nmX8, rfl, by decide +kernel⟩
theorem fp_X8_116 : ojFp RX8 116 8 12 .int := ⟨RX8, TX8, 14, tyX8, rfl, inoX8, by decide, ojT_in (by decide +kernel) rfl, tyX8_ok, nmX8, rfl, by decide +kernel⟩
theorem fp_X8_130 : ojFp RX8 130 5 5 .boolean := ⟨RX5, TX5, 6, tyX5, rfl, inoX5, by decide, ojT_in (by decide +kernel) rfl, tyX5_ok, nmX5, rfl, by decide +kernel⟩
theorem fp_X8_136 : ojFp RX8 136 5 0 .int := ⟨RX5, TX5, 6, tyX5, rfl, inoX5, by decide, ojT_in (by decide +kernel) rfl, tyX5_ok, nmX5, rfl, by decide +kernel⟩
theorem fp_X8_148 : ojFp RX8 148 5 4 .int := ⟨RX5, TX5, 6, tyX5, rfl, inoX5, by decide, ojT_in (by decide +kernel) rfl, tyX5_ok, nmX5, rfl, by decide +kernel⟩
theorem fp_X8_160 : ojFp RX8 160 8 9 .int := ⟨RX8, TX8, 14, tyX8, rfl, inoX8, by decide, ojT_in (by decide +kernel) rfl, tyX8_ok, nmX8, rfl, by decide +kernel⟩
theorem fp_X8_167 : ojFp RX8 167 8 13 .int := ⟨RX8, TX8, 14, tyX8, rfl, inoX8, by decide, ojT_in (by decide +kernel) rfl, tyX8_ok, nmX8, rfl, by decide +kernel⟩
theorem fp_X8_194 : ojFp RX8 194 3 3 .int := ⟨RX3, TX3, 5, tyX3, rfl, inoX3, by decide, ojT_in (by decide +kernel) rfl, tyX3_ok, nmX3, rfl, by decide +kernel⟩
theorem fp_X8_197 : ojFp RX8 197 3 4 .int := ⟨RX3, TX3, 5, tyX3, rfl, inoX3, by decide, ojT_in (by decide +kernel) rfl, tyX3_ok, nmX3, rfl, by decide +kernel⟩
theorem fp_X8_201 : ojFp RX8 201 4 0 .int := ⟨RX4, TX4, 3, tyX4, rfl, inoX4, by decide, ojT_in (by decide +kernel) rfl, tyX4_ok, nmX4, rfl, by decide +kernel⟩
theorem fp_X8_204 : ojFp RX8 204 4 1 .int := ⟨RX4, TX4, 3, tyX4, rfl, inoX4, by decide, ojT_in (by decide +kernel) rfl, tyX4_ok, nmX4, rfl, by decide +kernel⟩
theorem fp_X8_227 : ojFp RX8 227 7 2 .int := ⟨RX7, TX7, 4, tyX7, rfl, inoX7, by decide, ojT_in (by decide +kernel) rfl, tyX7_ok, nmX7, rfl, by decide +kernel⟩
theorem fp_X8_233 : ojFp RX8 233 7 3 .int := ⟨RX7, TX7, 4, tyX7, rfl, inoX7, by decide, ojT_in (by decide +kernel) rfl, tyX7_ok, nmX7, rfl, by decide +kernel⟩
theorem fp_X8_295 : ojFp RX8 295 3 2 .int := ⟨RX3, TX3, 5, tyX3, rfl, inoX3, by decide, ojT_in (by decide +kernel) rfl, tyX3_ok, nmX3, rfl, by decide +kernel⟩
theorem fp_X8_74 : ojFp RX8 74 8 10 .int := ⟨RX8, TX8, 14, tyX8, rfl, inoX8, by decide, ojT_in (by decide +kernel) rfl, tyX8_ok, nmX8, rfl, by decide +kernel⟩
theorem fp_X9_101 : ojFp RX9 101 9 14 .int := ⟨RX9, TX9, 36, tyX9, rfl, inoX9, by decide, ojT_in (by decide +kernel) rfl, tyX9_ok, nmX9, rfl, by decide +kernel⟩
theorem fp_X9_104 : ojFp RX9 104 9 0 .int := ⟨RX9, TX9, 36, tyX9, rfl, inoX9, by decide, ojT_in (by decide +kernel) rfl, tyX9_ok, nmX9, rfl, by decide +kernel⟩
theorem fp_X9_107 : ojFp RX9 107 9 23 .int := ⟨RX9, TX9, 36, tyX9, rfl, inoX9, by decide, ojT_in (by decide +kernel) rfl, tyX9_ok, nmX9, rfl, by decide +kernel⟩
theorem fp_X9_122 : ojFp RX9 122 9 9 .int := ⟨RX9, TX9, 36, tyX9, rfl, inoX9, by decide, ojT_in (by decide +kernel) rfl, tyX9_ok, nmX9, rfl, by decide +kernel⟩
theorem fp_X9_138 : ojFp RX9 138 9 12 .int := ⟨RX9, TX9, 36, tyX9, rfl, inoX9, by decide, ojT_in (by decide +kernel) rfl, tyX9_ok, nmX9, rfl, by decide +kernel⟩
theorem fp_X9_143 : ojFp RX9 143 9 11 .int := ⟨RX9, TX9, 36, tyX9, rfl, inoX9, by decide, ojT_in (by decide +kernel) rfl, tyX9_ok, nmX9, rfl, by decide +kernel⟩
theorem fp_X9_146 : ojFp RX9 146 9 13 .int := ⟨RX9, TX9, 36, tyX9, rfl, inoX9, by decide, ojT_in (by decide +kernel) rfl, tyX9_ok, nmX9, rfl, by decide +kernel⟩
theorem fp_X9_166 : ojFp RX9 166 9 30 .int := ⟨RX9, TX9, 36, tyX9, rfl, inoX9, by decide, ojT_in (by decide +kernel) rfl, tyX9_ok, nmX9, rfl, by decide +kernel⟩
theorem fp_X9_169 : ojFp RX9 169 9 31 .int := ⟨RX9, TX9, 36, tyX9, rfl, inoX9, by decide, ojT_in (by decide +kernel) rfl, tyX9_ok, nmX9, rfl, by decide +kernel⟩
theorem fp_X9_35 : ojFp RX9 35 9 10 .int := ⟨RX9, TX9, 36, tyX9, rfl, inoX9, by decide, ojT_in (by decide +kernel) rfl, tyX9_ok, nmX9, rfl, by decide +kernel⟩
theorem cv_X0_21 : ojCV RX0 21 yX0_limitBothSides cX0_limitBothSides 5 none 3 0 := ⟨⟨ojT_in (by decide +kernel) rfl, ojT_in (by decide +kernel) rfl, ojT_in (by decide +kernel) rfl, by decide +kernel, by decide⟩, ojT_in (by decide +kernel) rfl, ojT_in (by decide +kernel) rfl, _, rfl, rfl⟩
theorem cv_X1_44 : ojCV RX1 44 yX1_roomLeft cX1_roomLeft 3 (some .int) 2 1 := ⟨⟨ojT_in (by decide +kernel) rfl, ojT_in (by decide +kernel) rfl, ojT_in (by decide +kernel) rfl, by decide +kernel, by decide⟩, ojT_in (by decide +kernel) rfl, ojT_in (by decide +kernel) rfl, _, rfl, rfl⟩
theorem cv_X1_57 : ojCV RX1 57 yX1_canTake cX1_canTake 5 (some .int) 3 1 := ⟨⟨ojT_in (by decide +kernel) rfl, ojT_in (by decide +kernel) rfl, ojT_in (by decide +kernel) rfl, by decide +kernel, by decide⟩, ojT_in (by decide +kernel) rfl, ojT_in (by decide +kernel) rfl, _, rfl, rfl⟩
theorem cv_X1_61 : ojCV RX1 61 yX1_take cX1_take 5 none 3 1 := ⟨⟨ojT_in (by decide +kernel) rfl, ojT_in (by decide +kernel) rfl, ojT_in (by decide +kernel) rfl, by decide +kernel, by decide⟩, ojT_in (by decide +kernel) rfl, ojT_in (by decide +kernel) rfl, _, rfl, rfl⟩
theorem cv_X2_29 : ojCV RX2 29 yX2_isSea cX2_isSea 2 (some .boolean) 1 2 := ⟨⟨ojT_in (by decide +kernel) rfl, ojT_in (by decide +kernel) rfl, ojT_in (by decide +kernel) rfl, by decide +kernel, by decide⟩, ojT_in (by decide +kernel) rfl, ojT_in (by decide +kernel) rfl, _, rfl, rfl⟩
theorem cv_X2_35 : ojCV RX2 35 yX2_isWayOverSea cX2_isWayOverSea 5 (some .boolean) 3 2 := ⟨⟨ojT_in (by decide +kernel) rfl, ojT_in (by decide +kernel) rfl, ojT_in (by decide +kernel) rfl, by decide +kernel, by decide⟩, ojT_in (by decide +kernel) rfl, ojT_in (by decide +kernel) rfl, _, rfl, rfl⟩
theorem cv_X6_15 : ojCV RX6 15 yX6_at cX6_at 3 (some .int) 2 6 := ⟨⟨ojT_in (by decide +kernel) rfl, ojT_in (by decide +kernel) rfl, ojT_in (by decide +kernel) rfl, by decide +kernel, by decide⟩, ojT_in (by decide +kernel) rfl, ojT_in (by decide +kernel) rfl, _, rfl, rfl⟩
theorem cv_X8_104 : ojCV RX8 104 yX0_lay cX0_lay 5 (some .int) 3 0 := ⟨⟨ojT_in (by decide +kernel) rfl, ojT_in (by decide +kernel) rfl, ojT_in (by decide +kernel) rfl, by decide +kernel, by decide⟩, ojT_in (by decide +kernel) rfl, ojT_in (by decide +kernel) rfl, _, rfl, rfl⟩
theorem cv_X8_108 : ojCV RX8 108 yX0_takeUp cX0_takeUp 2 (some .boolean) 1 0 := ⟨⟨ojT_in (by decide +kernel) rfl, ojT_in (by decide +kernel) rfl, ojT_in (by decide +kernel) rfl, by decide +kernel, by decide⟩, ojT_in (by decide +kernel) rfl, ojT_in (by decide +kernel) rfl, _, rfl, rfl⟩
theorem cv_X8_119 : ojCV RX8 119 yX1_add cX1_add 6 (some .int) 4 1 := ⟨⟨ojT_in (by decide +kernel) rfl, ojT_in (by decide +kernel) rfl, ojT_in (by decide +kernel) rfl, by decide +kernel, by decide⟩, ojT_in (by decide +kernel) rfl, ojT_in (by decide +kernel) rfl, _, rfl, rfl⟩
theorem cv_X8_123 : ojCV RX8 123 yX1_has cX1_has 2 (some .boolean) 1 1 := ⟨⟨ojT_in (by decide +kernel) rfl, ojT_in (by decide +kernel) rfl, ojT_in (by decide +kernel) rfl, by decide +kernel, by decide⟩, ojT_in (by decide +kernel) rfl, ojT_in (by decide +kernel) rfl, _, rfl, rfl⟩
theorem cv_X8_142 : ojCV RX8 142 yX2_isWayOverSea cX2_isWayOverSea 5 (some .boolean) 3 2 := ⟨⟨ojT_in (by decide +kernel) rfl, ojT_in (by decide +kernel) rfl, ojT_in (by decide +kernel) rfl, by decide +kernel, by decide⟩, ojT_in (by decide +kernel) rfl, ojT_in (by decide +kernel) rfl, _, rfl, rfl⟩
theorem cv_X8_156 : ojCV RX8 156 yX8_passHour cX8_passHour 4 none 3 8 := ⟨⟨ojT_in (by decide +kernel) rfl, ojT_in (by decide +kernel) rfl, ojT_in (by decide +kernel) rfl, by decide +kernel, by decide⟩, ojT_in (by decide +kernel) rfl, ojT_in (by decide +kernel) rfl, _, rfl, rfl⟩
theorem cv_X8_163 : ojCV RX8 163 yX8_spreadPossible cX8_spreadPossible 7 none 2 8 := ⟨⟨ojT_in (by decide +kernel) rfl, ojT_in (by decide +kernel) rfl, ojT_in (by decide +kernel) rfl, by decide +kernel, by decide⟩, ojT_in (by decide +kernel) rfl, ojT_in (by decide +kernel) rfl, _, rfl, rfl⟩
theorem cv_X8_173 : ojCV RX8 173 yX1_beginHour cX1_beginHour 2 none 0 1 := ⟨⟨ojT_in (by decide +kernel) rfl, ojT_in (by decide +kernel) rfl, ojT_in (by decide +kernel) rfl, by decide +kernel, by decide⟩, ojT_in (by decide +kernel) rfl, ojT_in (by decide +kernel) rfl, _, rfl, rfl⟩
theorem cv_X8_176 : ojCV RX8 176 yX8_harmAhead cX8_harmAhead 5 (some .int) 2 8 := ⟨⟨ojT_in (by decide +kernel) rfl, ojT_in (by decide +kernel) rfl, ojT_in (by decide +kernel) rfl, by decide +kernel, by decide⟩, ojT_in (by decide +kernel) rfl, ojT_in (by decide +kernel) rfl, _, rfl, rfl⟩
theorem cv_X8_182 : ojCV RX8 182 yX3_begin cX3_begin 3 none 2 3 := ⟨⟨ojT_in (by decide +kernel) rfl, ojT_in (by decide +kernel) rfl, ojT_in (by decide +kernel) rfl, by decide +kernel, by decide⟩, ojT_in (by decide +kernel) rfl, ojT_in (by decide +kernel) rfl, _, rfl, rfl⟩
theorem cv_X8_186 : ojCV RX8 186 yX7_become cX7_become 2 none 1 7 := ⟨⟨ojT_in (by decide +kernel) rfl, ojT_in (by decide +kernel) rfl, ojT_in (by decide +kernel) rfl, by decide +kernel, by decide⟩, ojT_in (by decide +kernel) rfl, ojT_in (by decide +kernel) rfl, _, rfl, rfl⟩
theorem cv_X8_190 : ojCV RX8 190 yX8_searchHour cX8_searchHour 10 none 3 8 := ⟨⟨ojT_in (by decide +kernel) rfl, ojT_in (by decide +kernel) rfl, ojT_in (by decide +kernel) rfl, by decide +kernel, by decide⟩, ojT_in (by decide +kernel) rfl, ojT_in (by decide +kernel) rfl, _, rfl, rfl⟩
theorem cv_X8_212 : ojCV RX8 212 yX8_isDoubtful cX8_isDoubtful 6 (some .boolean) 4 8 := ⟨⟨ojT_in (by decide +kernel) rfl, ojT_in (by decide +kernel) rfl, ojT_in (by decide +kernel) rfl, by decide +kernel, by decide⟩, ojT_in (by decide +kernel) rfl, ojT_in (by decide +kernel) rfl, _, rfl, rfl⟩
theorem cv_X8_216 : ojCV RX8 216 yX8_wholeBill cX8_wholeBill 1 (some .int) 0 8 := ⟨⟨ojT_in (by decide +kernel) rfl, ojT_in (by decide +kernel) rfl, ojT_in (by decide +kernel) rfl, by decide +kernel, by decide⟩, ojT_in (by decide +kernel) rfl, ojT_in (by decide +kernel) rfl, _, rfl, rfl⟩
theorem cv_X8_220 : ojCV RX8 220 yX8_shareOf cX8_shareOf 9 (some .int) 3 8 := ⟨⟨ojT_in (by decide +kernel) rfl, ojT_in (by decide +kernel) rfl, ojT_in (by decide +kernel) rfl, by decide +kernel, by decide⟩, ojT_in (by decide +kernel) rfl, ojT_in (by decide +kernel) rfl, _, rfl, rfl⟩
theorem cv_X8_223 : ojCV RX8 223 yX8_litersAfloat cX8_litersAfloat 4 (some .int) 1 8 := ⟨⟨ojT_in (by decide +kernel) rfl, ojT_in (by decide +kernel) rfl, ojT_in (by decide +kernel) rfl, by decide +kernel, by decide⟩, ojT_in (by decide +kernel) rfl, ojT_in (by decide +kernel) rfl, _, rfl, rfl⟩
theorem cv_X8_230 : ojCV RX8 230 yX8_litersAshore cX8_litersAshore 4 (some .int) 1 8 := ⟨⟨ojT_in (by decide +kernel) rfl, ojT_in (by decide +kernel) rfl, ojT_in (by decide +kernel) rfl, by decide +kernel, by decide⟩, ojT_in (by decide +kernel) rfl, ojT_in (by decide +kernel) rfl, _, rfl, rfl⟩
theorem cv_X8_236 : ojCV RX8 236 yX8_litersSkimmed cX8_litersSkimmed 3 (some .int) 0 8 := ⟨⟨ojT_in (by decide +kernel) rfl, ojT_in (by decide +kernel) rfl, ojT_in (by decide +kernel) rfl, by decide +kernel, by decide⟩, ojT_in (by decide +kernel) rfl, ojT_in (by decide +kernel) rfl, _, rfl, rfl⟩
theorem cv_X8_239 : ojCV RX8 239 yX8_harmOf cX8_harmOf 4 (some .int) 1 8 := ⟨⟨ojT_in (by decide +kernel) rfl, ojT_in (by decide +kernel) rfl, ojT_in (by decide +kernel) rfl, by decide +kernel, by decide⟩, ojT_in (by decide +kernel) rfl, ojT_in (by decide +kernel) rfl, _, rfl, rfl⟩
theorem cv_X8_243 : ojCV RX8 243 yX8_driftAndLose cX8_driftAndLose 5 none 3 8 := ⟨⟨ojT_in (by decide +kernel) rfl, ojT_in (by decide +kernel) rfl, ojT_in (by decide +kernel) rfl, by decide +kernel, by decide⟩, ojT_in (by decide +kernel) rfl, ojT_in (by decide +kernel) rfl, _, rfl, rfl⟩
theorem cv_X8_246 : ojCV RX8 246 yX1_skim cX1_skim 5 none 3 1 := ⟨⟨ojT_in (by decide +kernel) rfl, ojT_in (by decide +kernel) rfl, ojT_in (by decide +kernel) rfl, by decide +kernel, by decide⟩, ojT_in (by decide +kernel) rfl, ojT_in (by decide +kernel) rfl, _, rfl, rfl⟩
theorem cv_X8_249 : ojCV RX8 249 yX6_wayAt cX6_wayAt 3 (some .int) 2 6 := ⟨⟨ojT_in (by decide +kernel) rfl, ojT_in (by decide +kernel) rfl, ojT_in (by decide +kernel) rfl, by decide +kernel, by decide⟩, ojT_in (by decide +kernel) rfl, ojT_in (by decide +kernel) rfl, _, rfl, rfl⟩
theorem cv_X8_252 : ojCV RX8 252 yX6_forceAt cX6_forceAt 3 (some .int) 2 6 := ⟨⟨ojT_in (by decide +kernel) rfl, ojT_in (by decide +kernel) rfl, ojT_in (by decide +kernel) rfl, by decide +kernel, by decide⟩, ojT_in (by decide +kernel) rfl, ojT_in (by decide +kernel) rfl, _, rfl, rfl⟩
theorem cv_X8_255 : ojCV RX8 255 yX8_driftAll cX8_driftAll 6 none 3 8 := ⟨⟨ojT_in (by decide +kernel) rfl, ojT_in (by decide +kernel) rfl, ojT_in (by decide +kernel) rfl, by decide +kernel, by decide⟩, ojT_in (by decide +kernel) rfl, ojT_in (by decide +kernel) rfl, _, rfl, rfl⟩
theorem cv_X8_258 : ojCV RX8 258 yX8_loseByAge cX8_loseByAge 6 none 2 8 := ⟨⟨ojT_in (by decide +kernel) rfl, ojT_in (by decide +kernel) rfl, ojT_in (by decide +kernel) rfl, by decide +kernel, by decide⟩, ojT_in (by decide +kernel) rfl, ojT_in (by decide +kernel) rfl, _, rfl, rfl⟩
theorem cv_X8_265 : ojCV RX8 265 yX8_driftFrom cX8_driftFrom 7 none 4 8 := ⟨⟨ojT_in (by decide +kernel) rfl, ojT_in (by decide +kernel) rfl, ojT_in (by decide +kernel) rfl, by decide +kernel, by decide⟩, ojT_in (by decide +kernel) rfl, ojT_in (by decide +kernel) rfl, _, rfl, rfl⟩
theorem cv_X8_272 : ojCV RX8 272 yX0_hold cX0_hold 4 (some .boolean) 3 0 := ⟨⟨ojT_in (by decide +kernel) rfl, ojT_in (by decide +kernel) rfl, ojT_in (by decide +kernel) rfl, by decide +kernel, by decide⟩, ojT_in (by decide +kernel) rfl, ojT_in (by decide +kernel) rfl, _, rfl, rfl⟩
theorem cv_X8_284 : ojCV RX8 284 yX1_roomLeft cX1_roomLeft 3 (some .int) 2 1 := ⟨⟨ojT_in (by decide +kernel) rfl, ojT_in (by decide +kernel) rfl, ojT_in (by decide +kernel) rfl, by decide +kernel, by decide⟩, ojT_in (by decide +kernel) rfl, ojT_in (by decide +kernel) rfl, _, rfl, rfl⟩
theorem cv_X8_288 : ojCV RX8 288 yX1_canTake cX1_canTake 5 (some .int) 3 1 := ⟨⟨ojT_in (by decide +kernel) rfl, ojT_in (by decide +kernel) rfl, ojT_in (by decide +kernel) rfl, by decide +kernel, by decide⟩, ojT_in (by decide +kernel) rfl, ojT_in (by decide +kernel) rfl, _, rfl, rfl⟩
theorem cv_X8_292 : ojCV RX8 292 yX8_searchFrom cX8_searchFrom 5 none 3 8 := ⟨⟨ojT_in (by decide +kernel) rfl, ojT_in (by decide +kernel) rfl, ojT_in (by decide +kernel) rfl, by decide +kernel, by decide⟩, ojT_in (by decide +kernel) rfl, ojT_in (by decide +kernel) rfl, _, rfl, rfl⟩
theorem cv_X8_298 : ojCV RX8 298 yX1_take cX1_take 5 none 3 1 := ⟨⟨ojT_in (by decide +kernel) rfl, ojT_in (by decide +kernel) rfl, ojT_in (by decide +kernel) rfl, by decide +kernel, by decide⟩, ojT_in (by decide +kernel) rfl, ojT_in (by decide +kernel) rfl, _, rfl, rfl⟩
theorem cv_X8_81 : ojCV RX8 81 yX1_isAt cX1_isAt 3 (some .boolean) 1 1 := ⟨⟨ojT_in (by decide +kernel) rfl, ojT_in (by decide +kernel) rfl, ojT_in (by decide +kernel) rfl, by decide +kernel, by decide⟩, ojT_in (by decide +kernel) rfl, ojT_in (by decide +kernel) rfl, _, rfl, rfl⟩
theorem cv_X8_84 : ojCV RX8 84 yX0_endAt cX0_endAt 3 (some .boolean) 1 0 := ⟨⟨ojT_in (by decide +kernel) rfl, ojT_in (by decide +kernel) rfl, ojT_in (by decide +kernel) rfl, by decide +kernel, by decide⟩, ojT_in (by decide +kernel) rfl, ojT_in (by decide +kernel) rfl, _, rfl, rfl⟩
theorem cv_X8_87 : ojCV RX8 87 yX8_shipLeftAt cX8_shipLeftAt 3 (some .boolean) 1 8 := ⟨⟨ojT_in (by decide +kernel) rfl, ojT_in (by decide +kernel) rfl, ojT_in (by decide +kernel) rfl, by decide +kernel, by decide⟩, ojT_in (by decide +kernel) rfl, ojT_in (by decide +kernel) rfl, _, rfl, rfl⟩
theorem cv_X8_93 : ojCV RX8 93 yX6_tell cX6_tell 5 none 4 6 := ⟨⟨ojT_in (by decide +kernel) rfl, ojT_in (by decide +kernel) rfl, ojT_in (by decide +kernel) rfl, by decide +kernel, by decide⟩, ojT_in (by decide +kernel) rfl, ojT_in (by decide +kernel) rfl, _, rfl, rfl⟩
theorem cv_X8_97 : ojCV RX8 97 yX2_isSea cX2_isSea 2 (some .boolean) 1 2 := ⟨⟨ojT_in (by decide +kernel) rfl, ojT_in (by decide +kernel) rfl, ojT_in (by decide +kernel) rfl, by decide +kernel, by decide⟩, ojT_in (by decide +kernel) rfl, ojT_in (by decide +kernel) rfl, _, rfl, rfl⟩
theorem cv_X9_110 : ojCV RX9 110 yX9_isSea cX9_isSea 2 (some .boolean) 1 9 := ⟨⟨ojT_in (by decide +kernel) rfl, ojT_in (by decide +kernel) rfl, ojT_in (by decide +kernel) rfl, by decide +kernel, by decide⟩, ojT_in (by decide +kernel) rfl, ojT_in (by decide +kernel) rfl, _, rfl, rfl⟩
theorem cv_X9_117 : ojCV RX9 117 yX9_boomAt cX9_boomAt 4 (some .int) 2 9 := ⟨⟨ojT_in (by decide +kernel) rfl, ojT_in (by decide +kernel) rfl, ojT_in (by decide +kernel) rfl, by decide +kernel, by decide⟩, ojT_in (by decide +kernel) rfl, ojT_in (by decide +kernel) rfl, _, rfl, rfl⟩
theorem cv_X9_129 : ojCV RX9 129 yX9_nearBy cX9_nearBy 7 (some .boolean) 3 9 := ⟨⟨ojT_in (by decide +kernel) rfl, ojT_in (by decide +kernel) rfl, ojT_in (by decide +kernel) rfl, by decide +kernel, by decide⟩, ojT_in (by decide +kernel) rfl, ojT_in (by decide +kernel) rfl, _, rfl, rfl⟩
theorem cv_X9_132 : ojCV RX9 132 yX9_isSkimmer cX9_isSkimmer 2 (some .boolean) 1 9 := ⟨⟨ojT_in (by decide +kernel) rfl, ojT_in (by decide +kernel) rfl, ojT_in (by decide +kernel) rfl, by decide +kernel, by decide⟩, ojT_in (by decide +kernel) rfl, ojT_in (by decide +kernel) rfl, _, rfl, rfl⟩
theorem cv_X9_135 : ojCV RX9 135 yX9_canGo cX9_canGo 6 (some .boolean) 3 9 := ⟨⟨ojT_in (by decide +kernel) rfl, ojT_in (by decide +kernel) rfl, ojT_in (by decide +kernel) rfl, by decide +kernel, by decide⟩, ojT_in (by decide +kernel) rfl, ojT_in (by decide +kernel) rfl, _, rfl, rfl⟩
theorem cv_X9_149 : ojCV RX9 149 yX9_hour cX9_hour 8 none 1 9 := ⟨⟨ojT_in (by decide +kernel) rfl, ojT_in (by decide +kernel) rfl, ojT_in (by decide +kernel) rfl, by decide +kernel, by decide⟩, ojT_in (by decide +kernel) rfl, ojT_in (by decide +kernel) rfl, _, rfl, rfl⟩
theorem cv_X9_153 : ojCV RX9 153 yX9_keeps cX9_keeps 4 none 1 9 := ⟨⟨ojT_in (by decide +kernel) rfl, ojT_in (by decide +kernel) rfl, ojT_in (by decide +kernel) rfl, by decide +kernel, by decide⟩, ojT_in (by decide +kernel) rfl, ojT_in (by decide +kernel) rfl, _, rfl, rfl⟩
theorem cv_X9_156 : ojCV RX9 156 yX9_harm cX9_harm 3 (some .int) 0 9 := ⟨⟨ojT_in (by decide +kernel) rfl, ojT_in (by decide +kernel) rfl, ojT_in (by decide +kernel) rfl, by decide +kernel, by decide⟩, ojT_in (by decide +kernel) rfl, ojT_in (by decide +kernel) rfl, _, rfl, rfl⟩
theorem cv_X9_160 : ojCV RX9 160 yX9_back cX9_back 4 none 1 9 := ⟨⟨ojT_in (by decide +kernel) rfl, ojT_in (by decide +kernel) rfl, ojT_in (by decide +kernel) rfl, by decide +kernel, by decide⟩, ojT_in (by decide +kernel) rfl, ojT_in (by decide +kernel) rfl, _, rfl, rfl⟩
theorem cv_X9_163 : ojCV RX9 163 yX9_foretold cX9_foretold 4 (some .int) 2 9 := ⟨⟨ojT_in (by decide +kernel) rfl, ojT_in (by decide +kernel) rfl, ojT_in (by decide +kernel) rfl, by decide +kernel, by decide⟩, ojT_in (by decide +kernel) rfl, ojT_in (by decide +kernel) rfl, _, rfl, rfl⟩
theorem cv_X9_172 : ojCV RX9 172 yX9_tries cX9_tries 4 (some .boolean) 3 9 := ⟨⟨ojT_in (by decide +kernel) rfl, ojT_in (by decide +kernel) rfl, ojT_in (by decide +kernel) rfl, by decide +kernel, by decide⟩, ojT_in (by decide +kernel) rfl, ojT_in (by decide +kernel) rfl, _, rfl, rfl⟩
theorem cv_X9_175 : ojCV RX9 175 yX9_meets cX9_meets 3 none 2 9 := ⟨⟨ojT_in (by decide +kernel) rfl, ojT_in (by decide +kernel) rfl, ojT_in (by decide +kernel) rfl, by decide +kernel, by decide⟩, ojT_in (by decide +kernel) rfl, ojT_in (by decide +kernel) rfl, _, rfl, rfl⟩
theorem cv_X9_180 : ojCV RX9 180 yX9_could cX9_could 5 (some .boolean) 2 9 := ⟨⟨ojT_in (by decide +kernel) rfl, ojT_in (by decide +kernel) rfl, ojT_in (by decide +kernel) rfl, by decide +kernel, by decide⟩, ojT_in (by decide +kernel) rfl, ojT_in (by decide +kernel) rfl, _, rfl, rfl⟩
theorem cv_X9_186 : ojCV RX9 186 yX9_billAll cX9_billAll 3 (some .int) 0 9 := ⟨⟨ojT_in (by decide +kernel) rfl, ojT_in (by decide +kernel) rfl, ojT_in (by decide +kernel) rfl, by decide +kernel, by decide⟩, ojT_in (by decide +kernel) rfl, ojT_in (by decide +kernel) rfl, _, rfl, rfl⟩
theorem cs_X0_29 : ojCS RX0 29 yX2_ahead cX2_ahead 3 (some .int) 2 := ⟨⟨ojT_in (by decide +kernel) rfl, ojT_in (by decide +kernel) rfl, ojT_in (by decide +kernel) rfl, by decide +kernel, by decide⟩, ojT_in (by decide +kernel) rfl⟩
theorem cs_X0_35 : ojCS RX0 35 yX2_opposite cX2_opposite 1 (some .int) 1 := ⟨⟨ojT_in (by decide +kernel) rfl, ojT_in (by decide +kernel) rfl, ojT_in (by decide +kernel) rfl, by decide +kernel, by decide⟩, ojT_in (by decide +kernel) rfl⟩
theorem cs_X2_15 : ojCS RX2 15 yX2_isCell cX2_isCell 1 (some .boolean) 1 := ⟨⟨ojT_in (by decide +kernel) rfl, ojT_in (by decide +kernel) rfl, ojT_in (by decide +kernel) rfl, by decide +kernel, by decide⟩, ojT_in (by decide +kernel) rfl⟩
theorem cs_X2_19 : ojCS RX2 19 yX2_ahead cX2_ahead 3 (some .int) 2 := ⟨⟨ojT_in (by decide +kernel) rfl, ojT_in (by decide +kernel) rfl, ojT_in (by decide +kernel) rfl, by decide +kernel, by decide⟩, ojT_in (by decide +kernel) rfl⟩
theorem cs_X2_32 : ojCS RX2 32 yX2_distance cX2_distance 2 (some .int) 2 := ⟨⟨ojT_in (by decide +kernel) rfl, ojT_in (by decide +kernel) rfl, ojT_in (by decide +kernel) rfl, by decide +kernel, by decide⟩, ojT_in (by decide +kernel) rfl⟩
theorem cs_X8_100 : ojCS RX8 100 yX2_wayBeside cX2_wayBeside 3 (some .int) 2 := ⟨⟨ojT_in (by decide +kernel) rfl, ojT_in (by decide +kernel) rfl, ojT_in (by decide +kernel) rfl, by decide +kernel, by decide⟩, ojT_in (by decide +kernel) rfl⟩
theorem cs_X8_209 : ojCS RX8 209 yX8_markDifference cX8_markDifference 7 (some .int) 2 := ⟨⟨ojT_in (by decide +kernel) rfl, ojT_in (by decide +kernel) rfl, ojT_in (by decide +kernel) rfl, by decide +kernel, by decide⟩, ojT_in (by decide +kernel) rfl⟩
theorem cs_X8_262 : ojCS RX8 262 yX8_cellAtTurn cX8_cellAtTurn 2 (some .int) 2 := ⟨⟨ojT_in (by decide +kernel) rfl, ojT_in (by decide +kernel) rfl, ojT_in (by decide +kernel) rfl, by decide +kernel, by decide⟩, ojT_in (by decide +kernel) rfl⟩
theorem cs_X8_269 : ojCS RX8 269 yX2_ahead cX2_ahead 3 (some .int) 2 := ⟨⟨ojT_in (by decide +kernel) rfl, ojT_in (by decide +kernel) rfl, ojT_in (by decide +kernel) rfl, by decide +kernel, by decide⟩, ojT_in (by decide +kernel) rfl⟩
theorem cs_X8_66 : ojCS RX8 66 yX2_isCell cX2_isCell 1 (some .boolean) 1 := ⟨⟨ojT_in (by decide +kernel) rfl, ojT_in (by decide +kernel) rfl, ojT_in (by decide +kernel) rfl, by decide +kernel, by decide⟩, ojT_in (by decide +kernel) rfl⟩
theorem cs_X8_70 : ojCS RX8 70 yX8_isWithin cX8_isWithin 3 (some .boolean) 3 := ⟨⟨ojT_in (by decide +kernel) rfl, ojT_in (by decide +kernel) rfl, ojT_in (by decide +kernel) rfl, by decide +kernel, by decide⟩, ojT_in (by decide +kernel) rfl⟩
theorem cs_X9_113 : ojCS RX9 113 yX9_areSide cX9_areSide 4 (some .boolean) 2 := ⟨⟨ojT_in (by decide +kernel) rfl, ojT_in (by decide +kernel) rfl, ojT_in (by decide +kernel) rfl, by decide +kernel, by decide⟩, ojT_in (by decide +kernel) rfl⟩
theorem cs_X9_126 : ojCS RX9 126 yX9_step cX9_step 4 (some .int) 2 := ⟨⟨ojT_in (by decide +kernel) rfl, ojT_in (by decide +kernel) rfl, ojT_in (by decide +kernel) rfl, by decide +kernel, by decide⟩, ojT_in (by decide +kernel) rfl⟩
theorem cs_X9_183 : ojCS RX9 183 yX9_apart cX9_apart 6 (some .int) 2 := ⟨⟨ojT_in (by decide +kernel) rfl, ojT_in (by decide +kernel) rfl, ojT_in (by decide +kernel) rfl, by decide +kernel, by decide⟩, ojT_in (by decide +kernel) rfl⟩
theorem cs_X9_93 : ojCS RX9 93 yX9_in cX9_in 3 (some .boolean) 3 := ⟨⟨ojT_in (by decide +kernel) rfl, ojT_in (by decide +kernel) rfl, ojT_in (by decide +kernel) rfl, by decide +kernel, by decide⟩, ojT_in (by decide +kernel) rfl⟩
theorem cs_X9_97 : ojCS RX9 97 yX9_isCell cX9_isCell 1 (some .boolean) 1 := ⟨⟨ojT_in (by decide +kernel) rfl, ojT_in (by decide +kernel) rfl, ojT_in (by decide +kernel) rfl, by decide +kernel, by decide⟩, ojT_in (by decide +kernel) rfl⟩
theorem mm_X1_48 : Cond.methodLink RX1 48 Lib.Math.min.name ∈ ojT := ojT_in (by decide +kernel) rfl
theorem mm_X2_23 : Cond.methodLink RX2 23 Lib.Math.abs.name ∈ ojT := ojT_in (by decide +kernel) rfl
theorem mm_X7_18 : Cond.methodLink RX7 18 arraycopyName ∈ ojT := ojT_in (by decide +kernel) rfl
theorem mm_X8_151 : Cond.methodLink RX8 151 Lib.Math.min.name ∈ ojT := ojT_in (by decide +kernel) rfl
theorem mm_X8_179 : Cond.methodLink RX8 179 Lib.Math.max.name ∈ ojT := ojT_in (by decide +kernel) rfl
theorem mm_sabs : Cond.static Lib.Math.abs.name ∈ ojT := ojT_in (by decide +kernel) rfl
theorem mm_cabs : Cond.code Lib.Math.abs.name Lib.Math.abs.code 1 (some .int) ∈ ojT := ojT_in (by decide +kernel) rfl
theorem mm_smax : Cond.static Lib.Math.max.name ∈ ojT := ojT_in (by decide +kernel) rfl
theorem mm_cmax : Cond.code Lib.Math.max.name Lib.Math.max.code 2 (some .int) ∈ ojT := ojT_in (by decide +kernel) rfl
theorem mm_smin : Cond.static Lib.Math.min.name ∈ ojT := ojT_in (by decide +kernel) rfl
theorem mm_cmin : Cond.code Lib.Math.min.name Lib.Math.min.code 2 (some .int) ∈ ojT := ojT_in (by decide +kernel) rfl
theorem mm_ini : Cond.initialized "java/lang/Math" ∈ ojT := ojT_in (by decide +kernel) rfl
theorem mm_inis : Cond.initialized "java/lang/System" ∈ ojT := ojT_in (by decide +kernel) rfl
theorem mm_n : Cond.native arraycopyName ∈ ojT := ojT_in (by decide +kernel) rfl
theorem mm_sarraycopy : Cond.static arraycopyName ∈ ojT := ojT_in (by decide +kernel) rfl
end
section
def f_X2_isCell (a0 : Int32) : Option (Int32) :=
  if a0 < 0 then
    some 0
  else
    if 96 ≤ a0 then
      some 0
    else
      some 1
set_option maxRecDepth 100000 in
set_option maxHeartbeats 4000000 in
theorem wk_X2_isCell {l : Launch} {D : va_G} {E : ojE} {ad : Nat → Nat} {X : ojX} {Q : Int32 → State → Prop} (hc : ojC X (vO_ l D E ad) RX2 cX2_isCell 1 1) (σ : ojS) (hret : ojRr X (vO_ l D E ad) Q cX2_isCell .boolean σ) (a0 : Int32) : ojJ X (vO_ l D E ad) Q (f_X2_isCell a0) σ 0 [(0, .int a0)] [] := by
  unfold f_X2_isCell
  refine oj_iload_n hc dX2_isCell_0 rfl 0 rfl ?_
  refine oj_if_lt hc 14 dX2_isCell_1 (by decide) (fun _ => ?_) ?_
  · refine oj_iconst hc 0 dX2_isCell_14 kc_0 ?_
    exact hret _ _ _ rfl dX2_isCell_15
  · refine oj_iload_n hc dX2_isCell_4 rfl 0 rfl ?_
    refine oj_bipush hc 96 dX2_isCell_5 kb_96 ?_
    refine oj_icmp_ge hc 14 dX2_isCell_7 (by decide) (fun _ => ?_) ?_
    · refine oj_iconst hc 0 dX2_isCell_14 kc_0 ?_
      exact hret _ _ _ rfl dX2_isCell_15
    · refine oj_iconst hc 1 dX2_isCell_10 kc_1 ?_
      refine oj_goto hc 15 dX2_isCell_11 (by decide) ?_
      exact hret _ _ _ rfl dX2_isCell_15
set_option maxRecDepth 100000 in
theorem c_X2_isCell {l : Launch} {D : va_G} {E : ojE} {ad : Nat → Nat} (a0 : Int32) (σ : ojS) : ∀ (r : Int32), f_X2_isCell a0 = some r → ojMi (vO_ l D E ad) yX2_isCell cX2_isCell 1 (some .boolean) 1 [.int a0] σ r σ :=
  ojMi_R (by decide +kernel) rfl .boolean rfl (Nat.le_of_ble_eq_true rfl) rfl (fun X Q hc hret => wk_X2_isCell hc σ hret a0)

def f_X1_isAt_2 (a1 : Int32) (a2 : Int32) (σ : ojS) : Option (Int32) :=
  ojFix (fun _ => none) 600 (fun (rec_2 : Int32 → Option (Int32)) (v2_2 : Int32) =>
    if (σ 9 1) ≤ v2_2 then
      some 0
    else
      ojChk v2_2 4 (
        if (σ (15 + v2_2.toNatClampNeg) 0) = a1 then
          some 1
        else
          ojLet (v2_2 + 1) (fun (x2 : Int32) =>
            rec_2 x2))) a2
set_option maxRecDepth 100000 in
set_option maxHeartbeats 4000000 in
theorem wk_X1_isAt_2 {l : Launch} {D : va_G} {E : ojE} {ad : Nat → Nat} {X : ojX} {Q : Int32 → State → Prop} (hc : ojC X (vO_ l D E ad) RX1 cX1_isAt 3 1) (σ : ojS) (hret : ojRr X (vO_ l D E ad) Q cX1_isAt .boolean σ) (a1 : Int32) (a2 : Int32) : ojJ X (vO_ l D E ad) Q (f_X1_isAt_2 a1 a2 σ) σ 2 [(0, .ref (ad 9)), (1, .int a1), (2, .int a2)] [] := by
  unfold f_X1_isAt_2
  refine oj_fix (fun (r : Int32 → Option (Int32)) => ∀ (v2_2 : Int32), ojJ X (vO_ l D E ad) Q (r v2_2) σ 2 [(0, .ref (ad 9)), (1, .int a1), (2, .int v2_2)] []) _ (fun _ => oj_none) (fun rec_2 hrec_2 v2_2 => ?_) 600 a2
  refine oj_iload_n hc dX1_isAt_2 rfl 2 rfl ?_
  refine oj_aload_n hc dX1_isAt_3 rfl 0 rfl ?_
  refine oj_getf hc ff_X1_18 oC_Fleet rfl dX1_isAt_4 ?_
  refine oj_icmp_ge hc 31 dX1_isAt_7 (by decide) (fun _ => ?_) ?_
  · refine oj_iconst hc 0 dX1_isAt_31 kc_0 ?_
    exact hret _ _ _ rfl dX1_isAt_32
  · refine oj_aload_n hc dX1_isAt_10 rfl 0 rfl ?_
    refine oj_getf hc ff_X1_11 oC_Fleet rfl dX1_isAt_11 ?_
    refine oj_iload_n hc dX1_isAt_14 rfl 2 rfl ?_
    refine oj_aald hc 3 oC_skimmers rfl dX1_isAt_15 (fun hi1 => ?_)
    refine oj_getf hc ff_X1_22 (oC_Skimmer hi1) rfl dX1_isAt_16 ?_
    refine oj_iload_n hc dX1_isAt_19 rfl 1 rfl ?_
    refine oj_icmp_ne hc 25 dX1_isAt_20 (by decide) ?_ (fun _ => ?_)
    · refine oj_iinc hc 1 (fun u => [(0, .ref (ad 9)), (1, .int a1), (2, .int u)]) 2 rfl kc_1 (fun _ => rfl) (by decide) dX1_isAt_25 (fun x2 => ?_)
      refine oj_goto hc 2 dX1_isAt_28 (by decide) ?_
      exact hrec_2 x2
    · refine oj_iconst hc 1 dX1_isAt_23 kc_1 ?_
      exact hret _ _ _ rfl dX1_isAt_24
def f_X1_isAt (a1 : Int32) (σ : ojS) : Option (Int32) :=
  f_X1_isAt_2 a1 0 σ
set_option maxRecDepth 100000 in
set_option maxHeartbeats 4000000 in
theorem wk_X1_isAt {l : Launch} {D : va_G} {E : ojE} {ad : Nat → Nat} {X : ojX} {Q : Int32 → State → Prop} (hc : ojC X (vO_ l D E ad) RX1 cX1_isAt 3 1) (σ : ojS) (hret : ojRr X (vO_ l D E ad) Q cX1_isAt .boolean σ) (a1 : Int32) : ojJ X (vO_ l D E ad) Q (f_X1_isAt a1 σ) σ 0 [(0, .ref (ad 9)), (1, .int a1)] [] := by
  unfold f_X1_isAt
  refine oj_iconst hc 0 dX1_isAt_0 kc_0 ?_
  refine oj_istore_n hc [(0, .ref (ad 9)), (1, .int a1), (2, .int 0)] rfl (by decide) dX1_isAt_1 rfl ?_
  exact wk_X1_isAt_2 hc _ hret a1 0
set_option maxRecDepth 100000 in
theorem c_X1_isAt {l : Launch} {D : va_G} {E : ojE} {ad : Nat → Nat} (a1 : Int32) (σ : ojS) : ∀ (r : Int32), f_X1_isAt a1 σ = some r → ojMi (vO_ l D E ad) yX1_isAt cX1_isAt 3 (some .boolean) 1 [.ref (ad 9), .int a1] σ r σ :=
  ojMi_R (by decide +kernel) rfl .boolean rfl (Nat.le_of_ble_eq_true rfl) rfl (fun X Q hc hret => wk_X1_isAt hc σ hret a1)

def f_X0_endAt_2 (a1 : Int32) (a2 : Int32) (σ : ojS) : Option (Int32) :=
  ojFix (fun _ => none) 600 (fun (rec_2 : Int32 → Option (Int32)) (v2_2 : Int32) =>
    if 4 < v2_2 then
      some 0
    else
      ojChk ((a1 * 5) + v2_2) 480 (
        if (σ 6 ((a1 * 5) + v2_2).toNatClampNeg) = (-1) then
          ojLet (v2_2 + 1) (fun (x1 : Int32) =>
            rec_2 x1)
        else
          some 1)) a2
set_option maxRecDepth 100000 in
set_option maxHeartbeats 4000000 in
theorem wk_X0_endAt_2 {l : Launch} {D : va_G} {E : ojE} {ad : Nat → Nat} {X : ojX} {Q : Int32 → State → Prop} (hc : ojC X (vO_ l D E ad) RX0 cX0_endAt 3 1) (σ : ojS) (hret : ojRr X (vO_ l D E ad) Q cX0_endAt .boolean σ) (a1 : Int32) (a2 : Int32) : ojJ X (vO_ l D E ad) Q (f_X0_endAt_2 a1 a2 σ) σ 2 [(0, .ref (ad 3)), (1, .int a1), (2, .int a2)] [] := by
  unfold f_X0_endAt_2
  refine oj_fix (fun (r : Int32 → Option (Int32)) => ∀ (v2_2 : Int32), ojJ X (vO_ l D E ad) Q (r v2_2) σ 2 [(0, .ref (ad 3)), (1, .int a1), (2, .int v2_2)] []) _ (fun _ => oj_none) (fun rec_2 hrec_2 v2_2 => ?_) 600 a2
  refine oj_iload_n hc dX0_endAt_2 rfl 2 rfl ?_
  refine oj_iconst hc 4 dX0_endAt_3 kc_4 ?_
  refine oj_icmp_gt hc 29 dX0_endAt_4 (by decide) (fun _ => ?_) ?_
  · refine oj_iconst hc 0 dX0_endAt_29 kc_0 ?_
    exact hret _ _ _ rfl dX0_endAt_30
  · refine oj_aload_n hc dX0_endAt_7 rfl 0 rfl ?_
    refine oj_getf hc ff_X0_18 oC_Booms rfl dX0_endAt_8 ?_
    refine oj_iload_n hc dX0_endAt_11 rfl 1 rfl ?_
    refine oj_iconst hc 5 dX0_endAt_12 kc_5 ?_
    refine oj_imul hc dX0_endAt_13 ?_
    refine oj_iload_n hc dX0_endAt_14 rfl 2 rfl ?_
    refine oj_iadd hc dX0_endAt_15 ?_
    refine oj_iald hc 0 oC_blimits rfl dX0_endAt_16 ?_
    refine oj_iconst hc (-1) dX0_endAt_17 kc_m1 ?_
    refine oj_icmp_eq hc 23 dX0_endAt_18 (by decide) (fun _ => ?_) ?_
    · refine oj_iinc hc 1 (fun u => [(0, .ref (ad 3)), (1, .int a1), (2, .int u)]) 2 rfl kc_1 (fun _ => rfl) (by decide) dX0_endAt_23 (fun x1 => ?_)
      refine oj_goto hc 2 dX0_endAt_26 (by decide) ?_
      exact hrec_2 x1
    · refine oj_iconst hc 1 dX0_endAt_21 kc_1 ?_
      exact hret _ _ _ rfl dX0_endAt_22
def f_X0_endAt (a1 : Int32) (σ : ojS) : Option (Int32) :=
  f_X0_endAt_2 a1 1 σ
set_option maxRecDepth 100000 in
set_option maxHeartbeats 4000000 in
theorem wk_X0_endAt {l : Launch} {D : va_G} {E : ojE} {ad : Nat → Nat} {X : ojX} {Q : Int32 → State → Prop} (hc : ojC X (vO_ l D E ad) RX0 cX0_endAt 3 1) (σ : ojS) (hret : ojRr X (vO_ l D E ad) Q cX0_endAt .boolean σ) (a1 : Int32) : ojJ X (vO_ l D E ad) Q (f_X0_endAt a1 σ) σ 0 [(0, .ref (ad 3)), (1, .int a1)] [] := by
  unfold f_X0_endAt
  refine oj_iconst hc 1 dX0_endAt_0 kc_1 ?_
  refine oj_istore_n hc [(0, .ref (ad 3)), (1, .int a1), (2, .int 1)] rfl (by decide) dX0_endAt_1 rfl ?_
  exact wk_X0_endAt_2 hc _ hret a1 1
set_option maxRecDepth 100000 in
theorem c_X0_endAt {l : Launch} {D : va_G} {E : ojE} {ad : Nat → Nat} (a1 : Int32) (σ : ojS) : ∀ (r : Int32), f_X0_endAt a1 σ = some r → ojMi (vO_ l D E ad) yX0_endAt cX0_endAt 3 (some .boolean) 1 [.ref (ad 3), .int a1] σ r σ :=
  ojMi_R (by decide +kernel) rfl .boolean rfl (Nat.le_of_ble_eq_true rfl) rfl (fun X Q hc hret => wk_X0_endAt hc σ hret a1)

def f_X6_tell (a1 : Int32) (a2 : Int32) (a3 : Int32) (a4 : Int32) (σ : ojS) : Option (ojS) :=
  ojChk ((a1 * 501) + a2) 1503 (ojLet (ojU σ 8 ((a1 * 501) + a2).toNatClampNeg ((a3 * 10) + a4)) (fun (σ1 : ojS) =>
    some σ1))
set_option maxRecDepth 100000 in
set_option maxHeartbeats 4000000 in
theorem wk_X6_tell {l : Launch} {D : va_G} {E : ojE} {ad : Nat → Nat} {X : ojX} {Q : ojS → State → Prop} (hc : ojC X (vO_ l D E ad) RX6 cX6_tell 5 1) (hret : ojRv X (vO_ l D E ad) Q cX6_tell) (a1 : Int32) (a2 : Int32) (a3 : Int32) (a4 : Int32) (σ : ojS) : ojJ X (vO_ l D E ad) Q (f_X6_tell a1 a2 a3 a4 σ) σ 0 [(0, .ref (ad 7)), (1, .int a1), (2, .int a2), (3, .int a3), (4, .int a4)] [] := by
  unfold f_X6_tell
  refine oj_aload_n hc dX6_tell_0 rfl 0 rfl ?_
  refine oj_getf hc ff_X6_9 oC_Sky rfl dX6_tell_1 ?_
  refine oj_iload_n hc dX6_tell_4 rfl 1 rfl ?_
  refine oj_sipush hc 501 dX6_tell_5 ks_501 ?_
  refine oj_imul hc dX6_tell_8 ?_
  refine oj_iload_n hc dX6_tell_9 rfl 2 rfl ?_
  refine oj_iadd hc dX6_tell_10 ?_
  refine oj_iload_n hc dX6_tell_11 rfl 3 rfl ?_
  refine oj_bipush hc 10 dX6_tell_12 kb_10 ?_
  refine oj_imul hc dX6_tell_14 ?_
  refine oj_iload hc dX6_tell_15 4 rfl ?_
  refine oj_iadd hc dX6_tell_17 ?_
  refine oj_iast hc 0 oC_packed oC_packed_s rfl rfl dX6_tell_18 (fun σ1 => ?_)
  exact hret _ _ _ dX6_tell_19
set_option maxRecDepth 100000 in
theorem c_X6_tell {l : Launch} {D : va_G} {E : ojE} {ad : Nat → Nat} (a1 : Int32) (a2 : Int32) (a3 : Int32) (a4 : Int32) (σ : ojS) : ∀ (σ1 : ojS), f_X6_tell a1 a2 a3 a4 σ = some σ1 → ojMv (vO_ l D E ad) yX6_tell cX6_tell 5 none 1 [.ref (ad 7), .int a1, .int a2, .int a3, .int a4] σ σ1 :=
  ojMv_W (by decide +kernel) rfl rfl (Nat.le_of_ble_eq_true rfl) rfl (fun X Q hc hret => wk_X6_tell hc hret a1 a2 a3 a4 σ)

def f_X2_isSea (a1 : Int32) (σ : ojS) : Option (Int32) :=
  ojB1 (f_X2_isCell a1) (fun (r1 : Int32) =>
    if r1 = 0 then
      some 0
    else
      ojChk a1 96 (
        if (σ 2 a1.toNatClampNeg) = 0 then
          some 1
        else
          some 0))
set_option maxRecDepth 100000 in
set_option maxHeartbeats 4000000 in
theorem wk_X2_isSea {l : Launch} {D : va_G} {E : ojE} {ad : Nat → Nat} {X : ojX} {Q : Int32 → State → Prop} (hc : ojC X (vO_ l D E ad) RX2 cX2_isSea 2 2) (σ : ojS) (hret : ojRr X (vO_ l D E ad) Q cX2_isSea .boolean σ) (a1 : Int32) : ojJ X (vO_ l D E ad) Q (f_X2_isSea a1 σ) σ 0 [(0, .ref (ad 1)), (1, .int a1)] [] := by
  unfold f_X2_isSea
  refine oj_iload_n hc dX2_isSea_0 rfl 1 rfl ?_
  refine oj_cS1 hc cs_X2_15 (by omega) [.int a1] [] rfl rfl (Nat.le_of_ble_eq_true rfl) dX2_isSea_1 (c_X2_isCell a1 σ) (fun r1 => ?_)
  refine oj_if_eq hc 20 dX2_isSea_4 (by decide) (fun _ => ?_) ?_
  · refine oj_iconst hc 0 dX2_isSea_20 kc_0 ?_
    exact hret _ _ _ rfl dX2_isSea_21
  · refine oj_aload_n hc dX2_isSea_7 rfl 0 rfl ?_
    refine oj_getf hc ff_X2_9 oC_Net rfl dX2_isSea_8 ?_
    refine oj_iload_n hc dX2_isSea_11 rfl 1 rfl ?_
    refine oj_iald hc 0 oC_ranks rfl dX2_isSea_12 ?_
    refine oj_if_ne hc 20 dX2_isSea_13 (by decide) ?_ (fun _ => ?_)
    · refine oj_iconst hc 0 dX2_isSea_20 kc_0 ?_
      exact hret _ _ _ rfl dX2_isSea_21
    · refine oj_iconst hc 1 dX2_isSea_16 kc_1 ?_
      refine oj_goto hc 21 dX2_isSea_17 (by decide) ?_
      exact hret _ _ _ rfl dX2_isSea_21
set_option maxRecDepth 100000 in
theorem c_X2_isSea {l : Launch} {D : va_G} {E : ojE} {ad : Nat → Nat} (a1 : Int32) (σ : ojS) : ∀ (r : Int32), f_X2_isSea a1 σ = some r → ojMi (vO_ l D E ad) yX2_isSea cX2_isSea 2 (some .boolean) 2 [.ref (ad 1), .int a1] σ r σ :=
  ojMi_R (by decide +kernel) rfl .boolean rfl (Nat.le_of_ble_eq_true rfl) rfl (fun X Q hc hret => wk_X2_isSea hc σ hret a1)

def f_X2_ahead (a0 : Int32) (a1 : Int32) : Option (Int32) :=
  ojLet (ojRem a0 12) (fun (x1 : Int32) =>
    if a1 = 1 then
      if a0 < 12 then
        some (-1)
      else
        some (a0 - 12)
    else
      if a1 = 2 then
        if 11 ≤ x1 then
          some (-1)
        else
          some (a0 + 1)
      else
        if a1 = 3 then
          if 84 ≤ a0 then
            some (-1)
          else
            some (a0 + 12)
        else
          if a1 = 4 then
            if x1 ≤ 0 then
              some (-1)
            else
              some (a0 - 1)
          else
            some (-1))
set_option maxRecDepth 100000 in
set_option maxHeartbeats 4000000 in
theorem wk_X2_ahead {l : Launch} {D : va_G} {E : ojE} {ad : Nat → Nat} {X : ojX} {Q : Int32 → State → Prop} (hc : ojC X (vO_ l D E ad) RX2 cX2_ahead 3 1) (σ : ojS) (hret : ojRr X (vO_ l D E ad) Q cX2_ahead .int σ) (a0 : Int32) (a1 : Int32) : ojJ X (vO_ l D E ad) Q (f_X2_ahead a0 a1) σ 0 [(0, .int a0), (1, .int a1)] [] := by
  unfold f_X2_ahead
  refine oj_iload_n hc dX2_ahead_0 rfl 0 rfl ?_
  refine oj_bipush hc 12 dX2_ahead_1 kb_12 ?_
  refine oj_irem hc dX2_ahead_3 (by decide) ?_
  refine oj_nm (fun x1 => ?_)
  refine oj_istore_n hc [(0, .int a0), (1, .int a1), (2, .int x1)] rfl (by decide) dX2_ahead_4 rfl ?_
  refine oj_iload_n hc dX2_ahead_5 rfl 1 rfl ?_
  refine oj_ite (fun hw2 => ?_) (fun hw2 => ?_)
  · refine oj_tableIn hc 36 dX2_ahead_6 (by rw [hw2]; decide) (by rw [hw2]; decide) (by rw [hw2]; rfl) (by decide) ?_
    refine oj_iload_n hc dX2_ahead_36 rfl 0 rfl ?_
    refine oj_bipush hc 12 dX2_ahead_37 kb_12 ?_
    refine oj_icmp_lt hc 49 dX2_ahead_39 (by decide) (fun _ => ?_) ?_
    · refine oj_iconst hc (-1) dX2_ahead_49 kc_m1 ?_
      exact hret _ _ _ rfl dX2_ahead_50
    · refine oj_iload_n hc dX2_ahead_42 rfl 0 rfl ?_
      refine oj_bipush hc 12 dX2_ahead_43 kb_12 ?_
      refine oj_isub hc dX2_ahead_45 ?_
      refine oj_goto hc 50 dX2_ahead_46 (by decide) ?_
      exact hret _ _ _ rfl dX2_ahead_50
  refine oj_ite (fun hw3 => ?_) (fun hw3 => ?_)
  · refine oj_tableIn hc 51 dX2_ahead_6 (by rw [hw3]; decide) (by rw [hw3]; decide) (by rw [hw3]; rfl) (by decide) ?_
    refine oj_iload_n hc dX2_ahead_51 rfl 2 rfl ?_
    refine oj_bipush hc 11 dX2_ahead_52 kb_11 ?_
    refine oj_icmp_ge hc 63 dX2_ahead_54 (by decide) (fun _ => ?_) ?_
    · refine oj_iconst hc (-1) dX2_ahead_63 kc_m1 ?_
      exact hret _ _ _ rfl dX2_ahead_64
    · refine oj_iload_n hc dX2_ahead_57 rfl 0 rfl ?_
      refine oj_iconst hc 1 dX2_ahead_58 kc_1 ?_
      refine oj_iadd hc dX2_ahead_59 ?_
      refine oj_goto hc 64 dX2_ahead_60 (by decide) ?_
      exact hret _ _ _ rfl dX2_ahead_64
  refine oj_ite (fun hw4 => ?_) (fun hw4 => ?_)
  · refine oj_tableIn hc 65 dX2_ahead_6 (by rw [hw4]; decide) (by rw [hw4]; decide) (by rw [hw4]; rfl) (by decide) ?_
    refine oj_iload_n hc dX2_ahead_65 rfl 0 rfl ?_
    refine oj_bipush hc 84 dX2_ahead_66 kb_84 ?_
    refine oj_icmp_ge hc 78 dX2_ahead_68 (by decide) (fun _ => ?_) ?_
    · refine oj_iconst hc (-1) dX2_ahead_78 kc_m1 ?_
      exact hret _ _ _ rfl dX2_ahead_79
    · refine oj_iload_n hc dX2_ahead_71 rfl 0 rfl ?_
      refine oj_bipush hc 12 dX2_ahead_72 kb_12 ?_
      refine oj_iadd hc dX2_ahead_74 ?_
      refine oj_goto hc 79 dX2_ahead_75 (by decide) ?_
      exact hret _ _ _ rfl dX2_ahead_79
  refine oj_ite (fun hw5 => ?_) (fun hw5 => ?_)
  · refine oj_tableIn hc 80 dX2_ahead_6 (by rw [hw5]; decide) (by rw [hw5]; decide) (by rw [hw5]; rfl) (by decide) ?_
    refine oj_iload_n hc dX2_ahead_80 rfl 2 rfl ?_
    refine oj_if_le hc 90 dX2_ahead_81 (by decide) (fun _ => ?_) ?_
    · refine oj_iconst hc (-1) dX2_ahead_90 kc_m1 ?_
      exact hret _ _ _ rfl dX2_ahead_91
    · refine oj_iload_n hc dX2_ahead_84 rfl 0 rfl ?_
      refine oj_iconst hc 1 dX2_ahead_85 kc_1 ?_
      refine oj_isub hc dX2_ahead_86 ?_
      refine oj_goto hc 91 dX2_ahead_87 (by decide) ?_
      exact hret _ _ _ rfl dX2_ahead_91
  refine oj_tableOut hc 92 dX2_ahead_6 (oj_sw 1 4 4 (by decide) (fun k hk => match k, hk with | 0, _ => hw2 | 1, _ => hw3 | 2, _ => hw4 | 3, _ => hw5 | k + 4, hk => absurd hk (by omega))) (by decide) ?_
  refine oj_iconst hc (-1) dX2_ahead_92 kc_m1 ?_
  exact hret _ _ _ rfl dX2_ahead_93
set_option maxRecDepth 100000 in
theorem c_X2_ahead {l : Launch} {D : va_G} {E : ojE} {ad : Nat → Nat} (a0 : Int32) (a1 : Int32) (σ : ojS) : ∀ (r : Int32), f_X2_ahead a0 a1 = some r → ojMi (vO_ l D E ad) yX2_ahead cX2_ahead 3 (some .int) 1 [.int a0, .int a1] σ r σ :=
  ojMi_R (by decide +kernel) rfl .int rfl (Nat.le_of_ble_eq_true rfl) rfl (fun X Q hc hret => wk_X2_ahead hc σ hret a0 a1)

def f_X2_wayBeside_2 (a0 : Int32) (a1 : Int32) (a2 : Int32) : Option (Int32) :=
  ojFix (fun _ => none) 600 (fun (rec_2 : Int32 → Option (Int32)) (v2_2 : Int32) =>
    if 4 < v2_2 then
      some 0
    else
      ojB1 (f_X2_ahead a0 v2_2) (fun (r1 : Int32) =>
        if r1 = a1 then
          some v2_2
        else
          ojLet (v2_2 + 1) (fun (x2 : Int32) =>
            rec_2 x2))) a2
set_option maxRecDepth 100000 in
set_option maxHeartbeats 4000000 in
theorem wk_X2_wayBeside_2 {l : Launch} {D : va_G} {E : ojE} {ad : Nat → Nat} {X : ojX} {Q : Int32 → State → Prop} (hc : ojC X (vO_ l D E ad) RX2 cX2_wayBeside 3 2) (σ : ojS) (hret : ojRr X (vO_ l D E ad) Q cX2_wayBeside .int σ) (a0 : Int32) (a1 : Int32) (a2 : Int32) : ojJ X (vO_ l D E ad) Q (f_X2_wayBeside_2 a0 a1 a2) σ 2 [(0, .int a0), (1, .int a1), (2, .int a2)] [] := by
  unfold f_X2_wayBeside_2
  refine oj_fix (fun (r : Int32 → Option (Int32)) => ∀ (v2_2 : Int32), ojJ X (vO_ l D E ad) Q (r v2_2) σ 2 [(0, .int a0), (1, .int a1), (2, .int v2_2)] []) _ (fun _ => oj_none) (fun rec_2 hrec_2 v2_2 => ?_) 600 a2
  refine oj_iload_n hc dX2_wayBeside_2 rfl 2 rfl ?_
  refine oj_iconst hc 4 dX2_wayBeside_3 kc_4 ?_
  refine oj_icmp_gt hc 24 dX2_wayBeside_4 (by decide) (fun _ => ?_) ?_
  · refine oj_iconst hc 0 dX2_wayBeside_24 kc_0 ?_
    exact hret _ _ _ rfl dX2_wayBeside_25
  · refine oj_iload_n hc dX2_wayBeside_7 rfl 0 rfl ?_
    refine oj_iload_n hc dX2_wayBeside_8 rfl 2 rfl ?_
    refine oj_cS1 hc cs_X2_19 (by omega) [.int a0, .int v2_2] [] rfl rfl (Nat.le_of_ble_eq_true rfl) dX2_wayBeside_9 (c_X2_ahead a0 v2_2 σ) (fun r1 => ?_)
    refine oj_iload_n hc dX2_wayBeside_12 rfl 1 rfl ?_
    refine oj_icmp_ne hc 18 dX2_wayBeside_13 (by decide) ?_ (fun _ => ?_)
    · refine oj_iinc hc 1 (fun u => [(0, .int a0), (1, .int a1), (2, .int u)]) 2 rfl kc_1 (fun _ => rfl) (by decide) dX2_wayBeside_18 (fun x2 => ?_)
      refine oj_goto hc 2 dX2_wayBeside_21 (by decide) ?_
      exact hrec_2 x2
    · refine oj_iload_n hc dX2_wayBeside_16 rfl 2 rfl ?_
      exact hret _ _ _ rfl dX2_wayBeside_17
def f_X2_wayBeside (a0 : Int32) (a1 : Int32) : Option (Int32) :=
  f_X2_wayBeside_2 a0 a1 1
set_option maxRecDepth 100000 in
set_option maxHeartbeats 4000000 in
theorem wk_X2_wayBeside {l : Launch} {D : va_G} {E : ojE} {ad : Nat → Nat} {X : ojX} {Q : Int32 → State → Prop} (hc : ojC X (vO_ l D E ad) RX2 cX2_wayBeside 3 2) (σ : ojS) (hret : ojRr X (vO_ l D E ad) Q cX2_wayBeside .int σ) (a0 : Int32) (a1 : Int32) : ojJ X (vO_ l D E ad) Q (f_X2_wayBeside a0 a1) σ 0 [(0, .int a0), (1, .int a1)] [] := by
  unfold f_X2_wayBeside
  refine oj_iconst hc 1 dX2_wayBeside_0 kc_1 ?_
  refine oj_istore_n hc [(0, .int a0), (1, .int a1), (2, .int 1)] rfl (by decide) dX2_wayBeside_1 rfl ?_
  exact wk_X2_wayBeside_2 hc _ hret a0 a1 1
set_option maxRecDepth 100000 in
theorem c_X2_wayBeside {l : Launch} {D : va_G} {E : ojE} {ad : Nat → Nat} (a0 : Int32) (a1 : Int32) (σ : ojS) : ∀ (r : Int32), f_X2_wayBeside a0 a1 = some r → ojMi (vO_ l D E ad) yX2_wayBeside cX2_wayBeside 3 (some .int) 2 [.int a0, .int a1] σ r σ :=
  ojMi_R (by decide +kernel) rfl .int rfl (Nat.le_of_ble_eq_true rfl) rfl (fun X Q hc hret => wk_X2_wayBeside hc σ hret a0 a1)

def f_X2_opposite (a0 : Int32) : Option (Int32) :=
  if a0 = 1 then
    some 3
  else
    if a0 = 2 then
      some 4
    else
      if a0 = 3 then
        some 1
      else
        if a0 = 4 then
          some 2
        else
          some 0
set_option maxRecDepth 100000 in
set_option maxHeartbeats 4000000 in
theorem wk_X2_opposite {l : Launch} {D : va_G} {E : ojE} {ad : Nat → Nat} {X : ojX} {Q : Int32 → State → Prop} (hc : ojC X (vO_ l D E ad) RX2 cX2_opposite 1 1) (σ : ojS) (hret : ojRr X (vO_ l D E ad) Q cX2_opposite .int σ) (a0 : Int32) : ojJ X (vO_ l D E ad) Q (f_X2_opposite a0) σ 0 [(0, .int a0)] [] := by
  unfold f_X2_opposite
  refine oj_iload_n hc dX2_opposite_0 rfl 0 rfl ?_
  refine oj_ite (fun hw1 => ?_) (fun hw1 => ?_)
  · refine oj_tableIn hc 32 dX2_opposite_1 (by rw [hw1]; decide) (by rw [hw1]; decide) (by rw [hw1]; rfl) (by decide) ?_
    refine oj_iconst hc 3 dX2_opposite_32 kc_3 ?_
    exact hret _ _ _ rfl dX2_opposite_33
  refine oj_ite (fun hw2 => ?_) (fun hw2 => ?_)
  · refine oj_tableIn hc 34 dX2_opposite_1 (by rw [hw2]; decide) (by rw [hw2]; decide) (by rw [hw2]; rfl) (by decide) ?_
    refine oj_iconst hc 4 dX2_opposite_34 kc_4 ?_
    exact hret _ _ _ rfl dX2_opposite_35
  refine oj_ite (fun hw3 => ?_) (fun hw3 => ?_)
  · refine oj_tableIn hc 36 dX2_opposite_1 (by rw [hw3]; decide) (by rw [hw3]; decide) (by rw [hw3]; rfl) (by decide) ?_
    refine oj_iconst hc 1 dX2_opposite_36 kc_1 ?_
    exact hret _ _ _ rfl dX2_opposite_37
  refine oj_ite (fun hw4 => ?_) (fun hw4 => ?_)
  · refine oj_tableIn hc 38 dX2_opposite_1 (by rw [hw4]; decide) (by rw [hw4]; decide) (by rw [hw4]; rfl) (by decide) ?_
    refine oj_iconst hc 2 dX2_opposite_38 kc_2 ?_
    exact hret _ _ _ rfl dX2_opposite_39
  refine oj_tableOut hc 40 dX2_opposite_1 (oj_sw 1 4 4 (by decide) (fun k hk => match k, hk with | 0, _ => hw1 | 1, _ => hw2 | 2, _ => hw3 | 3, _ => hw4 | k + 4, hk => absurd hk (by omega))) (by decide) ?_
  refine oj_iconst hc 0 dX2_opposite_40 kc_0 ?_
  exact hret _ _ _ rfl dX2_opposite_41
set_option maxRecDepth 100000 in
theorem c_X2_opposite {l : Launch} {D : va_G} {E : ojE} {ad : Nat → Nat} (a0 : Int32) (σ : ojS) : ∀ (r : Int32), f_X2_opposite a0 = some r → ojMi (vO_ l D E ad) yX2_opposite cX2_opposite 1 (some .int) 1 [.int a0] σ r σ :=
  ojMi_R (by decide +kernel) rfl .int rfl (Nat.le_of_ble_eq_true rfl) rfl (fun X Q hc hret => wk_X2_opposite hc σ hret a0)

def f_X0_limitBothSides (a1 : Int32) (a2 : Int32) (a3 : Int32) (σ : ojS) : Option (ojS) :=
  ojB1 (f_X2_ahead a1 a2) (fun (r1 : Int32) =>
    ojChk ((a1 * 5) + a2) 480 (ojLet (ojU σ 6 ((a1 * 5) + a2).toNatClampNeg a3) (fun (σ2 : ojS) =>
      if r1 = (-1) then
        some σ2
      else
        ojB1 (f_X2_opposite a2) (fun (r3 : Int32) =>
          ojChk ((r1 * 5) + r3) 480 (ojLet (ojU σ2 6 ((r1 * 5) + r3).toNatClampNeg a3) (fun (σ4 : ojS) =>
            some σ4))))))
set_option maxRecDepth 100000 in
set_option maxHeartbeats 4000000 in
theorem wk_X0_limitBothSides {l : Launch} {D : va_G} {E : ojE} {ad : Nat → Nat} {X : ojX} {Q : ojS → State → Prop} (hc : ojC X (vO_ l D E ad) RX0 cX0_limitBothSides 5 2) (hret : ojRv X (vO_ l D E ad) Q cX0_limitBothSides) (a1 : Int32) (a2 : Int32) (a3 : Int32) (σ : ojS) : ojJ X (vO_ l D E ad) Q (f_X0_limitBothSides a1 a2 a3 σ) σ 0 [(0, .ref (ad 3)), (1, .int a1), (2, .int a2), (3, .int a3)] [] := by
  unfold f_X0_limitBothSides
  refine oj_iload_n hc dX0_limitBothSides_0 rfl 1 rfl ?_
  refine oj_iload_n hc dX0_limitBothSides_1 rfl 2 rfl ?_
  refine oj_cS1 hc cs_X0_29 (by omega) [.int a1, .int a2] [] rfl rfl (Nat.le_of_ble_eq_true rfl) dX0_limitBothSides_2 (c_X2_ahead a1 a2 σ) (fun r1 => ?_)
  refine oj_istore hc [(0, .ref (ad 3)), (1, .int a1), (2, .int a2), (3, .int a3), (4, .int r1)] rfl (by decide) dX0_limitBothSides_5 ?_
  refine oj_aload_n hc dX0_limitBothSides_7 rfl 0 rfl ?_
  refine oj_getf hc ff_X0_18 oC_Booms rfl dX0_limitBothSides_8 ?_
  refine oj_iload_n hc dX0_limitBothSides_11 rfl 1 rfl ?_
  refine oj_iconst hc 5 dX0_limitBothSides_12 kc_5 ?_
  refine oj_imul hc dX0_limitBothSides_13 ?_
  refine oj_iload_n hc dX0_limitBothSides_14 rfl 2 rfl ?_
  refine oj_iadd hc dX0_limitBothSides_15 ?_
  refine oj_iload_n hc dX0_limitBothSides_16 rfl 3 rfl ?_
  refine oj_iast hc 0 oC_blimits oC_blimits_s rfl rfl dX0_limitBothSides_17 (fun σ2 => ?_)
  refine oj_iload hc dX0_limitBothSides_18 4 rfl ?_
  refine oj_iconst hc (-1) dX0_limitBothSides_20 kc_m1 ?_
  refine oj_icmp_eq hc 39 dX0_limitBothSides_21 (by decide) (fun _ => ?_) ?_
  · exact hret _ _ _ dX0_limitBothSides_39
  · refine oj_aload_n hc dX0_limitBothSides_24 rfl 0 rfl ?_
    refine oj_getf hc ff_X0_18 oC_Booms rfl dX0_limitBothSides_25 ?_
    refine oj_iload hc dX0_limitBothSides_28 4 rfl ?_
    refine oj_iconst hc 5 dX0_limitBothSides_30 kc_5 ?_
    refine oj_imul hc dX0_limitBothSides_31 ?_
    refine oj_iload_n hc dX0_limitBothSides_32 rfl 2 rfl ?_
    refine oj_cS1 hc cs_X0_35 (by omega) [.int a2] [.int (r1 * 5), .ref (ad 6)] rfl rfl (Nat.le_of_ble_eq_true rfl) dX0_limitBothSides_33 (c_X2_opposite a2 σ2) (fun r3 => ?_)
    refine oj_iadd hc dX0_limitBothSides_36 ?_
    refine oj_iload_n hc dX0_limitBothSides_37 rfl 3 rfl ?_
    refine oj_iast hc 0 oC_blimits oC_blimits_s rfl rfl dX0_limitBothSides_38 (fun σ4 => ?_)
    exact hret _ _ _ dX0_limitBothSides_39
set_option maxRecDepth 100000 in
theorem c_X0_limitBothSides {l : Launch} {D : va_G} {E : ojE} {ad : Nat → Nat} (a1 : Int32) (a2 : Int32) (a3 : Int32) (σ : ojS) : ∀ (σ1 : ojS), f_X0_limitBothSides a1 a2 a3 σ = some σ1 → ojMv (vO_ l D E ad) yX0_limitBothSides cX0_limitBothSides 5 none 2 [.ref (ad 3), .int a1, .int a2, .int a3] σ σ1 :=
  ojMv_W (by decide +kernel) rfl rfl (Nat.le_of_ble_eq_true rfl) rfl (fun X Q hc hret => wk_X0_limitBothSides hc hret a1 a2 a3 σ)

def f_X0_lay_19 (a1 : Int32) (a2 : Int32) (a3 : Int32) (a4 : Int32) (σ : ojS) : Option (Int32 × ojS) :=
  ojFix (fun _ => none) 600 (fun (rec_19 : Int32 → Option (Int32 × ojS)) (v4_19 : Int32) =>
    if 20 ≤ v4_19 then
      some ((-1), σ)
    else
      ojChk v4_19 20 (
        if (σ 4 v4_19.toNatClampNeg) = (-1) then
          ojChk v4_19 20 (ojLet (ojU σ 4 v4_19.toNatClampNeg a1) (fun (σ2 : ojS) =>
            ojChk v4_19 20 (ojLet (ojU σ2 5 v4_19.toNatClampNeg a2) (fun (σ3 : ojS) =>
              ojBv (f_X0_limitBothSides a1 a2 a3 σ3) (fun (σ5 : ojS) =>
                ojLet (ojU σ5 3 3 ((σ5 3 3) + 1)) (fun (σ6 : ojS) =>
                  some (v4_19, σ6)))))))
        else
          ojLet (v4_19 + 1) (fun (x1 : Int32) =>
            rec_19 x1))) a4
set_option maxRecDepth 100000 in
set_option maxHeartbeats 4000000 in
theorem wk_X0_lay_19 {l : Launch} {D : va_G} {E : ojE} {ad : Nat → Nat} {X : ojX} {Q : Int32 × ojS → State → Prop} (hc : ojC X (vO_ l D E ad) RX0 cX0_lay 5 3) (hret : ojRi X (vO_ l D E ad) Q cX0_lay .int) (a1 : Int32) (a2 : Int32) (a3 : Int32) (a4 : Int32) (σ : ojS) : ojJ X (vO_ l D E ad) Q (f_X0_lay_19 a1 a2 a3 a4 σ) σ 19 [(0, .ref (ad 3)), (1, .int a1), (2, .int a2), (3, .int a3), (4, .int a4)] [] := by
  unfold f_X0_lay_19
  refine oj_fix (fun (r : Int32 → Option (Int32 × ojS)) => ∀ (v4_19 : Int32), ojJ X (vO_ l D E ad) Q (r v4_19) σ 19 [(0, .ref (ad 3)), (1, .int a1), (2, .int a2), (3, .int a3), (4, .int v4_19)] []) _ (fun _ => oj_none) (fun rec_19 hrec_19 v4_19 => ?_) 600 a4
  refine oj_iload hc dX0_lay_19 4 rfl ?_
  refine oj_bipush hc 20 dX0_lay_21 kb_20 ?_
  refine oj_icmp_ge hc 79 dX0_lay_23 (by decide) (fun _ => ?_) ?_
  · refine oj_iconst hc (-1) dX0_lay_79 kc_m1 ?_
    exact hret _ _ _ _ rfl dX0_lay_80
  · refine oj_aload_n hc dX0_lay_26 rfl 0 rfl ?_
    refine oj_getf hc ff_X0_9 oC_Booms rfl dX0_lay_27 ?_
    refine oj_iload hc dX0_lay_30 4 rfl ?_
    refine oj_iald hc 0 oC_bcells rfl dX0_lay_32 ?_
    refine oj_iconst hc (-1) dX0_lay_33 kc_m1 ?_
    refine oj_icmp_ne hc 73 dX0_lay_34 (by decide) ?_ (fun _ => ?_)
    · refine oj_iinc hc 1 (fun u => [(0, .ref (ad 3)), (1, .int a1), (2, .int a2), (3, .int a3), (4, .int u)]) 4 rfl kc_1 (fun _ => rfl) (by decide) dX0_lay_73 (fun x1 => ?_)
      refine oj_goto hc 19 dX0_lay_76 (by decide) ?_
      exact hrec_19 x1
    · refine oj_aload_n hc dX0_lay_37 rfl 0 rfl ?_
      refine oj_getf hc ff_X0_9 oC_Booms rfl dX0_lay_38 ?_
      refine oj_iload hc dX0_lay_41 4 rfl ?_
      refine oj_iload_n hc dX0_lay_43 rfl 1 rfl ?_
      refine oj_iast hc 0 oC_bcells oC_bcells_s rfl rfl dX0_lay_44 (fun σ2 => ?_)
      refine oj_aload_n hc dX0_lay_45 rfl 0 rfl ?_
      refine oj_getf hc ff_X0_15 oC_Booms rfl dX0_lay_46 ?_
      refine oj_iload hc dX0_lay_49 4 rfl ?_
      refine oj_iload_n hc dX0_lay_51 rfl 2 rfl ?_
      refine oj_iast hc 0 oC_bways oC_bways_s rfl rfl dX0_lay_52 (fun σ3 => ?_)
      refine oj_aload_n hc dX0_lay_53 rfl 0 rfl ?_
      refine oj_iload_n hc dX0_lay_54 rfl 1 rfl ?_
      refine oj_iload_n hc dX0_lay_55 rfl 2 rfl ?_
      refine oj_iload_n hc dX0_lay_56 rfl 3 rfl ?_
      refine oj_cVv hc cv_X0_21 (by omega) oC_Booms [.int a1, .int a2, .int a3] [] rfl rfl (Nat.le_of_ble_eq_true rfl) dX0_lay_57 (c_X0_limitBothSides a1 a2 a3 σ3) (fun σ5 => ?_)
      refine oj_aload_n hc dX0_lay_60 rfl 0 rfl ?_
      refine oj_dup hc dX0_lay_61 rfl ?_
      refine oj_getf hc ff_X0_25 oC_Booms rfl dX0_lay_62 ?_
      refine oj_iconst hc 1 dX0_lay_65 kc_1 ?_
      refine oj_iadd hc dX0_lay_66 ?_
      refine oj_putf hc fp_X0_25 oC_Booms oC_Booms_s3 rfl rfl (Nat.le_of_ble_eq_true rfl) dX0_lay_67 (fun σ6 => ?_)
      refine oj_iload hc dX0_lay_70 4 rfl ?_
      exact hret _ _ _ _ rfl dX0_lay_72
def f_X0_lay (a1 : Int32) (a2 : Int32) (a3 : Int32) (σ : ojS) : Option (Int32 × ojS) :=
  ojChk ((a1 * 5) + a2) 480 (
    if (σ 6 ((a1 * 5) + a2).toNatClampNeg) = (-1) then
      f_X0_lay_19 a1 a2 a3 0 σ
    else
      some ((-1), σ))
set_option maxRecDepth 100000 in
set_option maxHeartbeats 4000000 in
theorem wk_X0_lay {l : Launch} {D : va_G} {E : ojE} {ad : Nat → Nat} {X : ojX} {Q : Int32 × ojS → State → Prop} (hc : ojC X (vO_ l D E ad) RX0 cX0_lay 5 3) (hret : ojRi X (vO_ l D E ad) Q cX0_lay .int) (a1 : Int32) (a2 : Int32) (a3 : Int32) (σ : ojS) : ojJ X (vO_ l D E ad) Q (f_X0_lay a1 a2 a3 σ) σ 0 [(0, .ref (ad 3)), (1, .int a1), (2, .int a2), (3, .int a3)] [] := by
  unfold f_X0_lay
  refine oj_aload_n hc dX0_lay_0 rfl 0 rfl ?_
  refine oj_getf hc ff_X0_18 oC_Booms rfl dX0_lay_1 ?_
  refine oj_iload_n hc dX0_lay_4 rfl 1 rfl ?_
  refine oj_iconst hc 5 dX0_lay_5 kc_5 ?_
  refine oj_imul hc dX0_lay_6 ?_
  refine oj_iload_n hc dX0_lay_7 rfl 2 rfl ?_
  refine oj_iadd hc dX0_lay_8 ?_
  refine oj_iald hc 0 oC_blimits rfl dX0_lay_9 ?_
  refine oj_iconst hc (-1) dX0_lay_10 kc_m1 ?_
  refine oj_icmp_eq hc 16 dX0_lay_11 (by decide) (fun _ => ?_) ?_
  · refine oj_iconst hc 0 dX0_lay_16 kc_0 ?_
    refine oj_istore hc [(0, .ref (ad 3)), (1, .int a1), (2, .int a2), (3, .int a3), (4, .int 0)] rfl (by decide) dX0_lay_17 ?_
    exact wk_X0_lay_19 hc hret a1 a2 a3 0 σ
  · refine oj_iconst hc (-1) dX0_lay_14 kc_m1 ?_
    exact hret _ _ _ _ rfl dX0_lay_15
set_option maxRecDepth 100000 in
theorem c_X0_lay {l : Launch} {D : va_G} {E : ojE} {ad : Nat → Nat} (a1 : Int32) (a2 : Int32) (a3 : Int32) (σ : ojS) : ∀ (r : Int32) (σ1 : ojS), f_X0_lay a1 a2 a3 σ = some (r, σ1) → ojMi (vO_ l D E ad) yX0_lay cX0_lay 5 (some .int) 3 [.ref (ad 3), .int a1, .int a2, .int a3] σ r σ1 :=
  ojMi_W (by decide +kernel) rfl .int rfl (Nat.le_of_ble_eq_true rfl) rfl (fun X Q hc hret => wk_X0_lay hc hret a1 a2 a3 σ)

def f_X0_takeUp (a1 : Int32) (σ : ojS) : Option (Int32 × ojS) :=
  if a1 < 0 then
    some (0, σ)
  else
    if 20 ≤ a1 then
      some (0, σ)
    else
      ojChk a1 20 (
        if (σ 4 a1.toNatClampNeg) = (-1) then
          some (0, σ)
        else
          ojChk a1 20 (
            ojChk a1 20 (
              ojBv (f_X0_limitBothSides (σ 4 a1.toNatClampNeg) (σ 5 a1.toNatClampNeg) (-1) σ) (fun (σ2 : ojS) =>
                ojChk a1 20 (ojLet (ojU σ2 4 a1.toNatClampNeg (-1)) (fun (σ3 : ojS) =>
                  ojLet (ojU σ3 3 3 ((σ3 3 3) - 1)) (fun (σ4 : ojS) =>
                    some (1, σ4))))))))
set_option maxRecDepth 100000 in
set_option maxHeartbeats 4000000 in
theorem wk_X0_takeUp {l : Launch} {D : va_G} {E : ojE} {ad : Nat → Nat} {X : ojX} {Q : Int32 × ojS → State → Prop} (hc : ojC X (vO_ l D E ad) RX0 cX0_takeUp 2 3) (hret : ojRi X (vO_ l D E ad) Q cX0_takeUp .boolean) (a1 : Int32) (σ : ojS) : ojJ X (vO_ l D E ad) Q (f_X0_takeUp a1 σ) σ 0 [(0, .ref (ad 3)), (1, .int a1)] [] := by
  unfold f_X0_takeUp
  refine oj_iload_n hc dX0_takeUp_0 rfl 1 rfl ?_
  refine oj_if_lt hc 20 dX0_takeUp_1 (by decide) (fun _ => ?_) ?_
  · refine oj_iconst hc 0 dX0_takeUp_20 kc_0 ?_
    exact hret _ _ _ _ rfl dX0_takeUp_21
  · refine oj_iload_n hc dX0_takeUp_4 rfl 1 rfl ?_
    refine oj_bipush hc 20 dX0_takeUp_5 kb_20 ?_
    refine oj_icmp_ge hc 20 dX0_takeUp_7 (by decide) (fun _ => ?_) ?_
    · refine oj_iconst hc 0 dX0_takeUp_20 kc_0 ?_
      exact hret _ _ _ _ rfl dX0_takeUp_21
    · refine oj_aload_n hc dX0_takeUp_10 rfl 0 rfl ?_
      refine oj_getf hc ff_X0_9 oC_Booms rfl dX0_takeUp_11 ?_
      refine oj_iload_n hc dX0_takeUp_14 rfl 1 rfl ?_
      refine oj_iald hc 0 oC_bcells rfl dX0_takeUp_15 ?_
      refine oj_iconst hc (-1) dX0_takeUp_16 kc_m1 ?_
      refine oj_icmp_ne hc 22 dX0_takeUp_17 (by decide) ?_ (fun _ => ?_)
      · refine oj_aload_n hc dX0_takeUp_22 rfl 0 rfl ?_
        refine oj_aload_n hc dX0_takeUp_23 rfl 0 rfl ?_
        refine oj_getf hc ff_X0_9 oC_Booms rfl dX0_takeUp_24 ?_
        refine oj_iload_n hc dX0_takeUp_27 rfl 1 rfl ?_
        refine oj_iald hc 0 oC_bcells rfl dX0_takeUp_28 ?_
        refine oj_aload_n hc dX0_takeUp_29 rfl 0 rfl ?_
        refine oj_getf hc ff_X0_15 oC_Booms rfl dX0_takeUp_30 ?_
        refine oj_iload_n hc dX0_takeUp_33 rfl 1 rfl ?_
        refine oj_iald hc 0 oC_bways rfl dX0_takeUp_34 ?_
        refine oj_iconst hc (-1) dX0_takeUp_35 kc_m1 ?_
        refine oj_cVv hc cv_X0_21 (by omega) oC_Booms [.int (σ 4 a1.toNatClampNeg), .int (σ 5 a1.toNatClampNeg), .int ((-1))] [] rfl rfl (Nat.le_of_ble_eq_true rfl) dX0_takeUp_36 (c_X0_limitBothSides (σ 4 a1.toNatClampNeg) (σ 5 a1.toNatClampNeg) (-1) σ) (fun σ2 => ?_)
        refine oj_aload_n hc dX0_takeUp_39 rfl 0 rfl ?_
        refine oj_getf hc ff_X0_9 oC_Booms rfl dX0_takeUp_40 ?_
        refine oj_iload_n hc dX0_takeUp_43 rfl 1 rfl ?_
        refine oj_iconst hc (-1) dX0_takeUp_44 kc_m1 ?_
        refine oj_iast hc 0 oC_bcells oC_bcells_s rfl rfl dX0_takeUp_45 (fun σ3 => ?_)
        refine oj_aload_n hc dX0_takeUp_46 rfl 0 rfl ?_
        refine oj_dup hc dX0_takeUp_47 rfl ?_
        refine oj_getf hc ff_X0_25 oC_Booms rfl dX0_takeUp_48 ?_
        refine oj_iconst hc 1 dX0_takeUp_51 kc_1 ?_
        refine oj_isub hc dX0_takeUp_52 ?_
        refine oj_putf hc fp_X0_25 oC_Booms oC_Booms_s3 rfl rfl (Nat.le_of_ble_eq_true rfl) dX0_takeUp_53 (fun σ4 => ?_)
        refine oj_iconst hc 1 dX0_takeUp_56 kc_1 ?_
        exact hret _ _ _ _ rfl dX0_takeUp_57
      · refine oj_iconst hc 0 dX0_takeUp_20 kc_0 ?_
        exact hret _ _ _ _ rfl dX0_takeUp_21
set_option maxRecDepth 100000 in
theorem c_X0_takeUp {l : Launch} {D : va_G} {E : ojE} {ad : Nat → Nat} (a1 : Int32) (σ : ojS) : ∀ (r : Int32) (σ1 : ojS), f_X0_takeUp a1 σ = some (r, σ1) → ojMi (vO_ l D E ad) yX0_takeUp cX0_takeUp 2 (some .boolean) 3 [.ref (ad 3), .int a1] σ r σ1 :=
  ojMi_W (by decide +kernel) rfl .boolean rfl (Nat.le_of_ble_eq_true rfl) rfl (fun X Q hc hret => wk_X0_takeUp hc hret a1 σ)

def f_X1_add (a1 : Int32) (a2 : Int32) (a3 : Int32) (a4 : Int32) (σ : ojS) : Option (Int32 × ojS) :=
  if (σ 9 1) < 4 then
    ojChk (σ 9 1) 4 (
      ojLet (ojU σ (15 + (σ 9 1).toNatClampNeg) 0 a1) (fun (σ2 : ojS) =>
        ojLet (ojU σ2 (15 + (σ 9 1).toNatClampNeg) 1 a2) (fun (σ3 : ojS) =>
          ojLet (ojU σ3 (15 + (σ 9 1).toNatClampNeg) 2 a3) (fun (σ4 : ojS) =>
            ojLet (ojU σ4 (15 + (σ 9 1).toNatClampNeg) 3 a4) (fun (σ5 : ojS) =>
              ojLet (ojU σ5 9 1 ((σ5 9 1) + 1)) (fun (σ6 : ojS) =>
                some ((σ6 9 1) - 1, σ6)))))))
  else
    some ((-1), σ)
set_option maxRecDepth 100000 in
set_option maxHeartbeats 4000000 in
theorem wk_X1_add {l : Launch} {D : va_G} {E : ojE} {ad : Nat → Nat} {X : ojX} {Q : Int32 × ojS → State → Prop} (hc : ojC X (vO_ l D E ad) RX1 cX1_add 6 1) (hret : ojRi X (vO_ l D E ad) Q cX1_add .int) (a1 : Int32) (a2 : Int32) (a3 : Int32) (a4 : Int32) (σ : ojS) : ojJ X (vO_ l D E ad) Q (f_X1_add a1 a2 a3 a4 σ) σ 0 [(0, .ref (ad 9)), (1, .int a1), (2, .int a2), (3, .int a3), (4, .int a4)] [] := by
  unfold f_X1_add
  refine oj_aload_n hc dX1_add_0 rfl 0 rfl ?_
  refine oj_getf hc ff_X1_18 oC_Fleet rfl dX1_add_1 ?_
  refine oj_iconst hc 4 dX1_add_4 kc_4 ?_
  refine oj_icmp_lt hc 10 dX1_add_5 (by decide) (fun _ => ?_) ?_
  · refine oj_aload_n hc dX1_add_10 rfl 0 rfl ?_
    refine oj_getf hc ff_X1_11 oC_Fleet rfl dX1_add_11 ?_
    refine oj_aload_n hc dX1_add_14 rfl 0 rfl ?_
    refine oj_getf hc ff_X1_18 oC_Fleet rfl dX1_add_15 ?_
    refine oj_aald hc 3 oC_skimmers rfl dX1_add_18 (fun hi1 => ?_)
    refine oj_astore hc [(0, .ref (ad 9)), (1, .int a1), (2, .int a2), (3, .int a3), (4, .int a4), (5, .ref (ad (15 + (σ 9 1).toNatClampNeg)))] rfl (by decide) dX1_add_19 ?_
    refine oj_aload hc dX1_add_21 5 rfl ?_
    refine oj_iload_n hc dX1_add_23 rfl 1 rfl ?_
    refine oj_putf hc fp_X1_22 (oC_Skimmer hi1) (oC_Skimmer_s0 hi1) rfl rfl (Nat.le_of_ble_eq_true rfl) dX1_add_24 (fun σ2 => ?_)
    refine oj_aload hc dX1_add_27 5 rfl ?_
    refine oj_iload_n hc dX1_add_29 rfl 2 rfl ?_
    refine oj_putf hc fp_X1_25 (oC_Skimmer hi1) (oC_Skimmer_s1 hi1) rfl rfl (Nat.le_of_ble_eq_true rfl) dX1_add_30 (fun σ3 => ?_)
    refine oj_aload hc dX1_add_33 5 rfl ?_
    refine oj_iload_n hc dX1_add_35 rfl 3 rfl ?_
    refine oj_putf hc fp_X1_28 (oC_Skimmer hi1) (oC_Skimmer_s2 hi1) rfl rfl (Nat.le_of_ble_eq_true rfl) dX1_add_36 (fun σ4 => ?_)
    refine oj_aload hc dX1_add_39 5 rfl ?_
    refine oj_iload hc dX1_add_41 4 rfl ?_
    refine oj_putf hc fp_X1_31 (oC_Skimmer hi1) (oC_Skimmer_s3 hi1) rfl rfl (Nat.le_of_ble_eq_true rfl) dX1_add_43 (fun σ5 => ?_)
    refine oj_aload_n hc dX1_add_46 rfl 0 rfl ?_
    refine oj_dup hc dX1_add_47 rfl ?_
    refine oj_getf hc ff_X1_18 oC_Fleet rfl dX1_add_48 ?_
    refine oj_iconst hc 1 dX1_add_51 kc_1 ?_
    refine oj_iadd hc dX1_add_52 ?_
    refine oj_putf hc fp_X1_18 oC_Fleet oC_Fleet_s1 rfl rfl (Nat.le_of_ble_eq_true rfl) dX1_add_53 (fun σ6 => ?_)
    refine oj_aload_n hc dX1_add_56 rfl 0 rfl ?_
    refine oj_getf hc ff_X1_18 oC_Fleet rfl dX1_add_57 ?_
    refine oj_iconst hc 1 dX1_add_60 kc_1 ?_
    refine oj_isub hc dX1_add_61 ?_
    exact hret _ _ _ _ rfl dX1_add_62
  · refine oj_iconst hc (-1) dX1_add_8 kc_m1 ?_
    exact hret _ _ _ _ rfl dX1_add_9
set_option maxRecDepth 100000 in
theorem c_X1_add {l : Launch} {D : va_G} {E : ojE} {ad : Nat → Nat} (a1 : Int32) (a2 : Int32) (a3 : Int32) (a4 : Int32) (σ : ojS) : ∀ (r : Int32) (σ1 : ojS), f_X1_add a1 a2 a3 a4 σ = some (r, σ1) → ojMi (vO_ l D E ad) yX1_add cX1_add 6 (some .int) 1 [.ref (ad 9), .int a1, .int a2, .int a3, .int a4] σ r σ1 :=
  ojMi_W (by decide +kernel) rfl .int rfl (Nat.le_of_ble_eq_true rfl) rfl (fun X Q hc hret => wk_X1_add hc hret a1 a2 a3 a4 σ)

def f_X1_has (a1 : Int32) (σ : ojS) : Option (Int32) :=
  if a1 < 0 then
    some 0
  else
    if (σ 9 1) ≤ a1 then
      some 0
    else
      some 1
set_option maxRecDepth 100000 in
set_option maxHeartbeats 4000000 in
theorem wk_X1_has {l : Launch} {D : va_G} {E : ojE} {ad : Nat → Nat} {X : ojX} {Q : Int32 → State → Prop} (hc : ojC X (vO_ l D E ad) RX1 cX1_has 2 1) (σ : ojS) (hret : ojRr X (vO_ l D E ad) Q cX1_has .boolean σ) (a1 : Int32) : ojJ X (vO_ l D E ad) Q (f_X1_has a1 σ) σ 0 [(0, .ref (ad 9)), (1, .int a1)] [] := by
  unfold f_X1_has
  refine oj_iload_n hc dX1_has_0 rfl 1 rfl ?_
  refine oj_if_lt hc 16 dX1_has_1 (by decide) (fun _ => ?_) ?_
  · refine oj_iconst hc 0 dX1_has_16 kc_0 ?_
    exact hret _ _ _ rfl dX1_has_17
  · refine oj_iload_n hc dX1_has_4 rfl 1 rfl ?_
    refine oj_aload_n hc dX1_has_5 rfl 0 rfl ?_
    refine oj_getf hc ff_X1_18 oC_Fleet rfl dX1_has_6 ?_
    refine oj_icmp_ge hc 16 dX1_has_9 (by decide) (fun _ => ?_) ?_
    · refine oj_iconst hc 0 dX1_has_16 kc_0 ?_
      exact hret _ _ _ rfl dX1_has_17
    · refine oj_iconst hc 1 dX1_has_12 kc_1 ?_
      refine oj_goto hc 17 dX1_has_13 (by decide) ?_
      exact hret _ _ _ rfl dX1_has_17
set_option maxRecDepth 100000 in
theorem c_X1_has {l : Launch} {D : va_G} {E : ojE} {ad : Nat → Nat} (a1 : Int32) (σ : ojS) : ∀ (r : Int32), f_X1_has a1 σ = some r → ojMi (vO_ l D E ad) yX1_has cX1_has 2 (some .boolean) 1 [.ref (ad 9), .int a1] σ r σ :=
  ojMi_R (by decide +kernel) rfl .boolean rfl (Nat.le_of_ble_eq_true rfl) rfl (fun X Q hc hret => wk_X1_has hc σ hret a1)

def f_X2_distance (a0 : Int32) (a1 : Int32) : Option (Int32) :=
  some ((ojAbs ((a0 / 12) - (a1 / 12))) + (ojAbs ((ojRem a0 12) - (ojRem a1 12))))
set_option maxRecDepth 100000 in
set_option maxHeartbeats 4000000 in
theorem wk_X2_distance {l : Launch} {D : va_G} {E : ojE} {ad : Nat → Nat} {X : ojX} {Q : Int32 → State → Prop} (hc : ojC X (vO_ l D E ad) RX2 cX2_distance 2 1) (σ : ojS) (hret : ojRr X (vO_ l D E ad) Q cX2_distance .int σ) (a0 : Int32) (a1 : Int32) : ojJ X (vO_ l D E ad) Q (f_X2_distance a0 a1) σ 0 [(0, .int a0), (1, .int a1)] [] := by
  unfold f_X2_distance
  refine oj_iload_n hc dX2_distance_0 rfl 0 rfl ?_
  refine oj_bipush hc 12 dX2_distance_1 kb_12 ?_
  refine oj_idiv hc dX2_distance_3 (by decide) ?_
  refine oj_iload_n hc dX2_distance_4 rfl 1 rfl ?_
  refine oj_bipush hc 12 dX2_distance_5 kb_12 ?_
  refine oj_idiv hc dX2_distance_7 (by decide) ?_
  refine oj_isub hc dX2_distance_8 ?_
  refine oj_mabs hc (by omega) mm_X2_23 mm_sabs mm_ini mm_cabs (Nat.le_of_ble_eq_true rfl) dX2_distance_9 ?_
  refine oj_iload_n hc dX2_distance_12 rfl 0 rfl ?_
  refine oj_bipush hc 12 dX2_distance_13 kb_12 ?_
  refine oj_irem hc dX2_distance_15 (by decide) ?_
  refine oj_iload_n hc dX2_distance_16 rfl 1 rfl ?_
  refine oj_bipush hc 12 dX2_distance_17 kb_12 ?_
  refine oj_irem hc dX2_distance_19 (by decide) ?_
  refine oj_isub hc dX2_distance_20 ?_
  refine oj_mabs hc (by omega) mm_X2_23 mm_sabs mm_ini mm_cabs (Nat.le_of_ble_eq_true rfl) dX2_distance_21 ?_
  refine oj_iadd hc dX2_distance_24 ?_
  exact hret _ _ _ rfl dX2_distance_25
set_option maxRecDepth 100000 in
theorem c_X2_distance {l : Launch} {D : va_G} {E : ojE} {ad : Nat → Nat} (a0 : Int32) (a1 : Int32) (σ : ojS) : ∀ (r : Int32), f_X2_distance a0 a1 = some r → ojMi (vO_ l D E ad) yX2_distance cX2_distance 2 (some .int) 1 [.int a0, .int a1] σ r σ :=
  ojMi_R (by decide +kernel) rfl .int rfl (Nat.le_of_ble_eq_true rfl) rfl (fun X Q hc hret => wk_X2_distance hc σ hret a0 a1)

def f_X2_isWayOverSea_37 (rec0 : Int32 → Int32 → Int32 → ojS → Option Int32) (a1 : Int32) (a2 : Int32) (a3 : Int32) (a4 : Int32) (σ : ojS) : Option (Int32) :=
  ojFix (fun _ => none) 600 (fun (rec_37 : Int32 → Option (Int32)) (v4_37 : Int32) =>
    if 4 < v4_37 then
      some 0
    else
      ojB1 (f_X2_ahead a1 v4_37) (fun (r4 : Int32) =>
        ojB1 (rec0 r4 a2 (a3 - 1) σ) (fun (r5 : Int32) =>
          if r5 = 0 then
            ojLet (v4_37 + 1) (fun (x6 : Int32) =>
              rec_37 x6)
          else
            some 1))) a4
set_option maxRecDepth 100000 in
set_option maxHeartbeats 4000000 in
theorem wk_X2_isWayOverSea_37 {l : Launch} {D : va_G} {E : ojE} {ad : Nat → Nat} {X : ojX} {Q : Int32 → State → Prop} {dd : Nat} (hc : ojC X (vO_ l D E ad) RX2 cX2_isWayOverSea 5 (3 + 1 + dd)) (rec0 : Int32 → Int32 → Int32 → ojS → Option Int32) (hself : ∀ (x1 x2 x3 : Int32) (s : ojS) (r : Int32), rec0 x1 x2 x3 s = some r → ojMi (vO_ l D E ad) yX2_isWayOverSea cX2_isWayOverSea 5 (some .boolean) (3 + dd) [.ref (ad 1), .int x1, .int x2, .int x3] s r s) (σ : ojS) (hret : ojRr X (vO_ l D E ad) Q cX2_isWayOverSea .boolean σ) (a1 : Int32) (a2 : Int32) (a3 : Int32) (a4 : Int32) : ojJ X (vO_ l D E ad) Q (f_X2_isWayOverSea_37 rec0 a1 a2 a3 a4 σ) σ 37 [(0, .ref (ad 1)), (1, .int a1), (2, .int a2), (3, .int a3), (4, .int a4)] [] := by
  unfold f_X2_isWayOverSea_37
  refine oj_fix (fun (r : Int32 → Option (Int32)) => ∀ (v4_37 : Int32), ojJ X (vO_ l D E ad) Q (r v4_37) σ 37 [(0, .ref (ad 1)), (1, .int a1), (2, .int a2), (3, .int a3), (4, .int v4_37)] []) _ (fun _ => oj_none) (fun rec_37 hrec_37 v4_37 => ?_) 600 a4
  refine oj_iload hc dX2_isWayOverSea_37 4 rfl ?_
  refine oj_iconst hc 4 dX2_isWayOverSea_39 kc_4 ?_
  refine oj_icmp_gt hc 68 dX2_isWayOverSea_40 (by decide) (fun _ => ?_) ?_
  · refine oj_iconst hc 0 dX2_isWayOverSea_68 kc_0 ?_
    exact hret _ _ _ rfl dX2_isWayOverSea_69
  · refine oj_aload_n hc dX2_isWayOverSea_43 rfl 0 rfl ?_
    refine oj_iload_n hc dX2_isWayOverSea_44 rfl 1 rfl ?_
    refine oj_iload hc dX2_isWayOverSea_45 4 rfl ?_
    refine oj_cS1 hc cs_X2_19 (by omega) [.int a1, .int v4_37] [.ref (ad 1)] rfl rfl (Nat.le_of_ble_eq_true rfl) dX2_isWayOverSea_47 (c_X2_ahead a1 v4_37 σ) (fun r4 => ?_)
    refine oj_iload_n hc dX2_isWayOverSea_50 rfl 2 rfl ?_
    refine oj_iload_n hc dX2_isWayOverSea_51 rfl 3 rfl ?_
    refine oj_iconst hc 1 dX2_isWayOverSea_52 kc_1 ?_
    refine oj_isub hc dX2_isWayOverSea_53 ?_
    refine oj_cV1 hc cv_X2_35 (by omega) oC_Net [.int r4, .int a2, .int (a3 - 1)] [] rfl rfl (Nat.le_of_ble_eq_true rfl) dX2_isWayOverSea_54 (hself r4 a2 (a3 - 1) σ) (fun r5 => ?_)
    refine oj_if_eq hc 62 dX2_isWayOverSea_57 (by decide) (fun _ => ?_) ?_
    · refine oj_iinc hc 1 (fun u => [(0, .ref (ad 1)), (1, .int a1), (2, .int a2), (3, .int a3), (4, .int u)]) 4 rfl kc_1 (fun _ => rfl) (by decide) dX2_isWayOverSea_62 (fun x6 => ?_)
      refine oj_goto hc 37 dX2_isWayOverSea_65 (by decide) ?_
      exact hrec_37 x6
    · refine oj_iconst hc 1 dX2_isWayOverSea_60 kc_1 ?_
      exact hret _ _ _ rfl dX2_isWayOverSea_61
def g_X2_isWayOverSea (rec0 : Int32 → Int32 → Int32 → ojS → Option Int32) (a1 : Int32) (a2 : Int32) (a3 : Int32) (σ : ojS) : Option (Int32) :=
  ojB1 (f_X2_isSea a1 σ) (fun (r1 : Int32) =>
    if r1 = 0 then
      some 0
    else
      ojB1 (f_X2_isSea a2 σ) (fun (r2 : Int32) =>
        if r2 = 0 then
          some 0
        else
          ojB1 (f_X2_distance a1 a2) (fun (r3 : Int32) =>
            if r3 ≤ a3 then
              if a1 = a2 then
                some 1
              else
                f_X2_isWayOverSea_37 rec0 a1 a2 a3 1 σ
            else
              some 0)))
set_option maxRecDepth 100000 in
set_option maxHeartbeats 4000000 in
theorem wk_X2_isWayOverSea {l : Launch} {D : va_G} {E : ojE} {ad : Nat → Nat} {X : ojX} {Q : Int32 → State → Prop} {dd : Nat} (hc : ojC X (vO_ l D E ad) RX2 cX2_isWayOverSea 5 (3 + 1 + dd)) (rec0 : Int32 → Int32 → Int32 → ojS → Option Int32) (hself : ∀ (x1 x2 x3 : Int32) (s : ojS) (r : Int32), rec0 x1 x2 x3 s = some r → ojMi (vO_ l D E ad) yX2_isWayOverSea cX2_isWayOverSea 5 (some .boolean) (3 + dd) [.ref (ad 1), .int x1, .int x2, .int x3] s r s) (σ : ojS) (hret : ojRr X (vO_ l D E ad) Q cX2_isWayOverSea .boolean σ) (a1 : Int32) (a2 : Int32) (a3 : Int32) : ojJ X (vO_ l D E ad) Q (g_X2_isWayOverSea rec0 a1 a2 a3 σ) σ 0 [(0, .ref (ad 1)), (1, .int a1), (2, .int a2), (3, .int a3)] [] := by
  unfold g_X2_isWayOverSea
  refine oj_aload_n hc dX2_isWayOverSea_0 rfl 0 rfl ?_
  refine oj_iload_n hc dX2_isWayOverSea_1 rfl 1 rfl ?_
  refine oj_cV1 hc cv_X2_29 (by omega) oC_Net [.int a1] [] rfl rfl (Nat.le_of_ble_eq_true rfl) dX2_isWayOverSea_2 (c_X2_isSea a1 σ) (fun r1 => ?_)
  refine oj_if_eq hc 25 dX2_isWayOverSea_5 (by decide) (fun _ => ?_) ?_
  · refine oj_iconst hc 0 dX2_isWayOverSea_25 kc_0 ?_
    exact hret _ _ _ rfl dX2_isWayOverSea_26
  · refine oj_aload_n hc dX2_isWayOverSea_8 rfl 0 rfl ?_
    refine oj_iload_n hc dX2_isWayOverSea_9 rfl 2 rfl ?_
    refine oj_cV1 hc cv_X2_29 (by omega) oC_Net [.int a2] [] rfl rfl (Nat.le_of_ble_eq_true rfl) dX2_isWayOverSea_10 (c_X2_isSea a2 σ) (fun r2 => ?_)
    refine oj_if_eq hc 25 dX2_isWayOverSea_13 (by decide) (fun _ => ?_) ?_
    · refine oj_iconst hc 0 dX2_isWayOverSea_25 kc_0 ?_
      exact hret _ _ _ rfl dX2_isWayOverSea_26
    · refine oj_iload_n hc dX2_isWayOverSea_16 rfl 1 rfl ?_
      refine oj_iload_n hc dX2_isWayOverSea_17 rfl 2 rfl ?_
      refine oj_cS1 hc cs_X2_32 (by omega) [.int a1, .int a2] [] rfl rfl (Nat.le_of_ble_eq_true rfl) dX2_isWayOverSea_18 (c_X2_distance a1 a2 σ) (fun r3 => ?_)
      refine oj_iload_n hc dX2_isWayOverSea_21 rfl 3 rfl ?_
      refine oj_icmp_le hc 27 dX2_isWayOverSea_22 (by decide) (fun _ => ?_) ?_
      · refine oj_iload_n hc dX2_isWayOverSea_27 rfl 1 rfl ?_
        refine oj_iload_n hc dX2_isWayOverSea_28 rfl 2 rfl ?_
        refine oj_icmp_ne hc 34 dX2_isWayOverSea_29 (by decide) ?_ (fun _ => ?_)
        · refine oj_iconst hc 1 dX2_isWayOverSea_34 kc_1 ?_
          refine oj_istore hc [(0, .ref (ad 1)), (1, .int a1), (2, .int a2), (3, .int a3), (4, .int 1)] rfl (by decide) dX2_isWayOverSea_35 ?_
          exact wk_X2_isWayOverSea_37 hc rec0 hself _ hret a1 a2 a3 1
        · refine oj_iconst hc 1 dX2_isWayOverSea_32 kc_1 ?_
          exact hret _ _ _ rfl dX2_isWayOverSea_33
      · refine oj_iconst hc 0 dX2_isWayOverSea_25 kc_0 ?_
        exact hret _ _ _ rfl dX2_isWayOverSea_26
def f_X2_isWayOverSea (d : Nat) : Int32 → Int32 → Int32 → ojS → Option Int32 := ojFix (fun _ _ _ _ => none) d g_X2_isWayOverSea
set_option maxRecDepth 100000 in
theorem c_X2_isWayOverSea {l : Launch} {D : va_G} {E : ojE} {ad : Nat → Nat} : ∀ (dd : Nat) (a1 a2 a3 : Int32) (σ : ojS) (r : Int32), f_X2_isWayOverSea dd a1 a2 a3 σ = some r → ojMi (vO_ l D E ad) yX2_isWayOverSea cX2_isWayOverSea 5 (some .boolean) (3 + dd) [.ref (ad 1), .int a1, .int a2, .int a3] σ r σ
  | 0, _, _, _, _, _, h => by cases h
  | dd + 1, a1, a2, a3, σ, r, h => (show ojMi (vO_ l D E ad) yX2_isWayOverSea cX2_isWayOverSea 5 (some .boolean) (3 + 1 + dd) [.ref (ad 1), .int a1, .int a2, .int a3] σ r σ from (ojMi_R (by decide +kernel) rfl .boolean rfl (Nat.le_of_ble_eq_true rfl) rfl (fun X Q hc hret => wk_X2_isWayOverSea hc (f_X2_isWayOverSea dd) (c_X2_isWayOverSea dd) σ hret a1 a2 a3)) r h)

def f_X6_at (a1 : Int32) (a2 : Int32) (σ : ojS) : Option (Int32) :=
  if a2 ≤ 500 then
    ojChk ((a1 * 501) + a2) 1503 (
      some (σ 8 ((a1 * 501) + a2).toNatClampNeg))
  else
    some 0
set_option maxRecDepth 100000 in
set_option maxHeartbeats 4000000 in
theorem wk_X6_at {l : Launch} {D : va_G} {E : ojE} {ad : Nat → Nat} {X : ojX} {Q : Int32 → State → Prop} (hc : ojC X (vO_ l D E ad) RX6 cX6_at 3 1) (σ : ojS) (hret : ojRr X (vO_ l D E ad) Q cX6_at .int σ) (a1 : Int32) (a2 : Int32) : ojJ X (vO_ l D E ad) Q (f_X6_at a1 a2 σ) σ 0 [(0, .ref (ad 7)), (1, .int a1), (2, .int a2)] [] := by
  unfold f_X6_at
  refine oj_iload_n hc dX6_at_0 rfl 2 rfl ?_
  refine oj_sipush hc 500 dX6_at_1 ks_500 ?_
  refine oj_icmp_le hc 11 dX6_at_4 (by decide) (fun _ => ?_) ?_
  · refine oj_aload_n hc dX6_at_11 rfl 0 rfl ?_
    refine oj_getf hc ff_X6_9 oC_Sky rfl dX6_at_12 ?_
    refine oj_iload_n hc dX6_at_15 rfl 1 rfl ?_
    refine oj_sipush hc 501 dX6_at_16 ks_501 ?_
    refine oj_imul hc dX6_at_19 ?_
    refine oj_iload_n hc dX6_at_20 rfl 2 rfl ?_
    refine oj_iadd hc dX6_at_21 ?_
    refine oj_iald hc 0 oC_packed rfl dX6_at_22 ?_
    exact hret _ _ _ rfl dX6_at_23
  · refine oj_iconst hc 0 dX6_at_7 kc_0 ?_
    refine oj_goto hc 23 dX6_at_8 (by decide) ?_
    exact hret _ _ _ rfl dX6_at_23
set_option maxRecDepth 100000 in
theorem c_X6_at {l : Launch} {D : va_G} {E : ojE} {ad : Nat → Nat} (a1 : Int32) (a2 : Int32) (σ : ojS) : ∀ (r : Int32), f_X6_at a1 a2 σ = some r → ojMi (vO_ l D E ad) yX6_at cX6_at 3 (some .int) 1 [.ref (ad 7), .int a1, .int a2] σ r σ :=
  ojMi_R (by decide +kernel) rfl .int rfl (Nat.le_of_ble_eq_true rfl) rfl (fun X Q hc hret => wk_X6_at hc σ hret a1 a2)

def f_X6_wayAt (a1 : Int32) (a2 : Int32) (σ : ojS) : Option (Int32) :=
  ojB1 (f_X6_at a1 a2 σ) (fun (r1 : Int32) =>
    some (r1 / 10))
set_option maxRecDepth 100000 in
set_option maxHeartbeats 4000000 in
theorem wk_X6_wayAt {l : Launch} {D : va_G} {E : ojE} {ad : Nat → Nat} {X : ojX} {Q : Int32 → State → Prop} (hc : ojC X (vO_ l D E ad) RX6 cX6_wayAt 3 2) (σ : ojS) (hret : ojRr X (vO_ l D E ad) Q cX6_wayAt .int σ) (a1 : Int32) (a2 : Int32) : ojJ X (vO_ l D E ad) Q (f_X6_wayAt a1 a2 σ) σ 0 [(0, .ref (ad 7)), (1, .int a1), (2, .int a2)] [] := by
  unfold f_X6_wayAt
  refine oj_aload_n hc dX6_wayAt_0 rfl 0 rfl ?_
  refine oj_iload_n hc dX6_wayAt_1 rfl 1 rfl ?_
  refine oj_iload_n hc dX6_wayAt_2 rfl 2 rfl ?_
  refine oj_cV1 hc cv_X6_15 (by omega) oC_Sky [.int a1, .int a2] [] rfl rfl (Nat.le_of_ble_eq_true rfl) dX6_wayAt_3 (c_X6_at a1 a2 σ) (fun r1 => ?_)
  refine oj_bipush hc 10 dX6_wayAt_6 kb_10 ?_
  refine oj_idiv hc dX6_wayAt_8 (by decide) ?_
  exact hret _ _ _ rfl dX6_wayAt_9
set_option maxRecDepth 100000 in
theorem c_X6_wayAt {l : Launch} {D : va_G} {E : ojE} {ad : Nat → Nat} (a1 : Int32) (a2 : Int32) (σ : ojS) : ∀ (r : Int32), f_X6_wayAt a1 a2 σ = some r → ojMi (vO_ l D E ad) yX6_wayAt cX6_wayAt 3 (some .int) 2 [.ref (ad 7), .int a1, .int a2] σ r σ :=
  ojMi_R (by decide +kernel) rfl .int rfl (Nat.le_of_ble_eq_true rfl) rfl (fun X Q hc hret => wk_X6_wayAt hc σ hret a1 a2)

def f_X6_forceAt (a1 : Int32) (a2 : Int32) (σ : ojS) : Option (Int32) :=
  ojB1 (f_X6_at a1 a2 σ) (fun (r1 : Int32) =>
    some (ojRem r1 10))
set_option maxRecDepth 100000 in
set_option maxHeartbeats 4000000 in
theorem wk_X6_forceAt {l : Launch} {D : va_G} {E : ojE} {ad : Nat → Nat} {X : ojX} {Q : Int32 → State → Prop} (hc : ojC X (vO_ l D E ad) RX6 cX6_forceAt 3 2) (σ : ojS) (hret : ojRr X (vO_ l D E ad) Q cX6_forceAt .int σ) (a1 : Int32) (a2 : Int32) : ojJ X (vO_ l D E ad) Q (f_X6_forceAt a1 a2 σ) σ 0 [(0, .ref (ad 7)), (1, .int a1), (2, .int a2)] [] := by
  unfold f_X6_forceAt
  refine oj_aload_n hc dX6_forceAt_0 rfl 0 rfl ?_
  refine oj_iload_n hc dX6_forceAt_1 rfl 1 rfl ?_
  refine oj_iload_n hc dX6_forceAt_2 rfl 2 rfl ?_
  refine oj_cV1 hc cv_X6_15 (by omega) oC_Sky [.int a1, .int a2] [] rfl rfl (Nat.le_of_ble_eq_true rfl) dX6_forceAt_3 (c_X6_at a1 a2 σ) (fun r1 => ?_)
  refine oj_bipush hc 10 dX6_forceAt_6 kb_10 ?_
  refine oj_irem hc dX6_forceAt_8 (by decide) ?_
  exact hret _ _ _ rfl dX6_forceAt_9
set_option maxRecDepth 100000 in
theorem c_X6_forceAt {l : Launch} {D : va_G} {E : ojE} {ad : Nat → Nat} (a1 : Int32) (a2 : Int32) (σ : ojS) : ∀ (r : Int32), f_X6_forceAt a1 a2 σ = some r → ojMi (vO_ l D E ad) yX6_forceAt cX6_forceAt 3 (some .int) 2 [.ref (ad 7), .int a1, .int a2] σ r σ :=
  ojMi_R (by decide +kernel) rfl .int rfl (Nat.le_of_ble_eq_true rfl) rfl (fun X Q hc hret => wk_X6_forceAt hc σ hret a1 a2)

def f_X0_hold (a1 : Int32) (a2 : Int32) (a3 : Int32) (σ : ojS) : Option (Int32) :=
  ojChk ((a1 * 5) + a2) 480 (
    if (σ 6 ((a1 * 5) + a2).toNatClampNeg) < a3 then
      some 0
    else
      some 1)
set_option maxRecDepth 100000 in
set_option maxHeartbeats 4000000 in
theorem wk_X0_hold {l : Launch} {D : va_G} {E : ojE} {ad : Nat → Nat} {X : ojX} {Q : Int32 → State → Prop} (hc : ojC X (vO_ l D E ad) RX0 cX0_hold 4 1) (σ : ojS) (hret : ojRr X (vO_ l D E ad) Q cX0_hold .boolean σ) (a1 : Int32) (a2 : Int32) (a3 : Int32) : ojJ X (vO_ l D E ad) Q (f_X0_hold a1 a2 a3 σ) σ 0 [(0, .ref (ad 3)), (1, .int a1), (2, .int a2), (3, .int a3)] [] := by
  unfold f_X0_hold
  refine oj_iload_n hc dX0_hold_0 rfl 3 rfl ?_
  refine oj_aload_n hc dX0_hold_1 rfl 0 rfl ?_
  refine oj_getf hc ff_X0_18 oC_Booms rfl dX0_hold_2 ?_
  refine oj_iload_n hc dX0_hold_5 rfl 1 rfl ?_
  refine oj_iconst hc 5 dX0_hold_6 kc_5 ?_
  refine oj_imul hc dX0_hold_7 ?_
  refine oj_iload_n hc dX0_hold_8 rfl 2 rfl ?_
  refine oj_iadd hc dX0_hold_9 ?_
  refine oj_iald hc 0 oC_blimits rfl dX0_hold_10 ?_
  refine oj_icmp_gt hc 18 dX0_hold_11 (by decide) (fun _ => ?_) ?_
  · refine oj_iconst hc 0 dX0_hold_18 kc_0 ?_
    exact hret _ _ _ rfl dX0_hold_19
  · refine oj_iconst hc 1 dX0_hold_14 kc_1 ?_
    refine oj_goto hc 19 dX0_hold_15 (by decide) ?_
    exact hret _ _ _ rfl dX0_hold_19
set_option maxRecDepth 100000 in
theorem c_X0_hold {l : Launch} {D : va_G} {E : ojE} {ad : Nat → Nat} (a1 : Int32) (a2 : Int32) (a3 : Int32) (σ : ojS) : ∀ (r : Int32), f_X0_hold a1 a2 a3 σ = some r → ojMi (vO_ l D E ad) yX0_hold cX0_hold 4 (some .boolean) 1 [.ref (ad 3), .int a1, .int a2, .int a3] σ r σ :=
  ojMi_R (by decide +kernel) rfl .boolean rfl (Nat.le_of_ble_eq_true rfl) rfl (fun X Q hc hret => wk_X0_hold hc σ hret a1 a2 a3)

def f_X1_roomLeft (n1 : Nat) (a2 : Int32) (σ : ojS) : Option (Int32) :=
  ojChk a2 4 (
    ojChk a2 4 (
      some ((σ (15 + a2.toNatClampNeg) 2) - (σ (27 + n1) a2.toNatClampNeg))))
set_option maxRecDepth 100000 in
set_option maxHeartbeats 4000000 in
theorem wk_X1_roomLeft {l : Launch} {D : va_G} {E : ojE} {ad : Nat → Nat} {X : ojX} {Q : Int32 → State → Prop} (hc : ojC X (vO_ l D E ad) RX1 cX1_roomLeft 3 1) (σ : ojS) (hret : ojRr X (vO_ l D E ad) Q cX1_roomLeft .int σ) (n1 : Nat) (h1 : n1 < 4) (a2 : Int32) : ojJ X (vO_ l D E ad) Q (f_X1_roomLeft n1 a2 σ) σ 0 [(0, .ref (ad 9)), (1, .ref (ad (19 + n1))), (2, .int a2)] [] := by
  unfold f_X1_roomLeft
  refine oj_aload_n hc dX1_roomLeft_0 rfl 0 rfl ?_
  refine oj_getf hc ff_X1_11 oC_Fleet rfl dX1_roomLeft_1 ?_
  refine oj_iload_n hc dX1_roomLeft_4 rfl 2 rfl ?_
  refine oj_aald hc 3 oC_skimmers rfl dX1_roomLeft_5 (fun hi1 => ?_)
  refine oj_getf hc ff_X1_28 (oC_Skimmer hi1) rfl dX1_roomLeft_6 ?_
  refine oj_aload_n hc dX1_roomLeft_9 rfl 1 rfl ?_
  refine oj_getf hc ff_X1_38 (oC_Slick h1) rfl dX1_roomLeft_10 ?_
  refine oj_iload_n hc dX1_roomLeft_13 rfl 2 rfl ?_
  refine oj_iald hc 0 (oC_loads h1) rfl dX1_roomLeft_14 ?_
  refine oj_isub hc dX1_roomLeft_15 ?_
  exact hret _ _ _ rfl dX1_roomLeft_16
set_option maxRecDepth 100000 in
theorem c_X1_roomLeft {l : Launch} {D : va_G} {E : ojE} {ad : Nat → Nat} (n1 : Nat) (h1 : n1 < 4) (a2 : Int32) (σ : ojS) : ∀ (r : Int32), f_X1_roomLeft n1 a2 σ = some r → ojMi (vO_ l D E ad) yX1_roomLeft cX1_roomLeft 3 (some .int) 1 [.ref (ad 9), .ref (ad (19 + n1)), .int a2] σ r σ :=
  ojMi_R (by decide +kernel) rfl .int rfl (Nat.le_of_ble_eq_true rfl) rfl (fun X Q hc hret => wk_X1_roomLeft hc σ hret n1 h1 a2)

def f_X1_canTake (n1 : Nat) (a2 : Int32) (a3 : Int32) (σ : ojS) : Option (Int32) :=
  ojChk a2 4 (
    ojB1 (f_X1_roomLeft n1 a2 σ) (fun (r2 : Int32) =>
      ojLet (ojMin (σ (15 + a2.toNatClampNeg) 1) r2) (fun (x3 : Int32) =>
        ojChk a3 96 (
          some (ojMin x3 (σ (23 + n1) a3.toNatClampNeg))))))
set_option maxRecDepth 100000 in
set_option maxHeartbeats 4000000 in
theorem wk_X1_canTake {l : Launch} {D : va_G} {E : ojE} {ad : Nat → Nat} {X : ojX} {Q : Int32 → State → Prop} (hc : ojC X (vO_ l D E ad) RX1 cX1_canTake 5 2) (σ : ojS) (hret : ojRr X (vO_ l D E ad) Q cX1_canTake .int σ) (n1 : Nat) (h1 : n1 < 4) (a2 : Int32) (a3 : Int32) : ojJ X (vO_ l D E ad) Q (f_X1_canTake n1 a2 a3 σ) σ 0 [(0, .ref (ad 9)), (1, .ref (ad (19 + n1))), (2, .int a2), (3, .int a3)] [] := by
  unfold f_X1_canTake
  refine oj_aload_n hc dX1_canTake_0 rfl 0 rfl ?_
  refine oj_getf hc ff_X1_11 oC_Fleet rfl dX1_canTake_1 ?_
  refine oj_iload_n hc dX1_canTake_4 rfl 2 rfl ?_
  refine oj_aald hc 3 oC_skimmers rfl dX1_canTake_5 (fun hi1 => ?_)
  refine oj_getf hc ff_X1_25 (oC_Skimmer hi1) rfl dX1_canTake_6 ?_
  refine oj_aload_n hc dX1_canTake_9 rfl 0 rfl ?_
  refine oj_aload_n hc dX1_canTake_10 rfl 1 rfl ?_
  refine oj_iload_n hc dX1_canTake_11 rfl 2 rfl ?_
  refine oj_cV1 hc cv_X1_44 (by omega) oC_Fleet [.ref (ad (19 + n1)), .int a2] [.int (σ (15 + a2.toNatClampNeg) 1)] rfl rfl (Nat.le_of_ble_eq_true rfl) dX1_canTake_12 (c_X1_roomLeft n1 h1 a2 σ) (fun r2 => ?_)
  refine oj_mmin hc (by omega) mm_X1_48 mm_smin mm_ini mm_cmin (Nat.le_of_ble_eq_true rfl) dX1_canTake_15 ?_
  refine oj_nm (fun x3 => ?_)
  refine oj_istore hc [(0, .ref (ad 9)), (1, .ref (ad (19 + n1))), (2, .int a2), (3, .int a3), (4, .int x3)] rfl (by decide) dX1_canTake_18 ?_
  refine oj_iload hc dX1_canTake_20 4 rfl ?_
  refine oj_aload_n hc dX1_canTake_22 rfl 1 rfl ?_
  refine oj_getf hc ff_X1_54 (oC_Slick h1) rfl dX1_canTake_23 ?_
  refine oj_iload_n hc dX1_canTake_26 rfl 3 rfl ?_
  refine oj_iald hc 0 (oC_liters h1) rfl dX1_canTake_27 ?_
  refine oj_mmin hc (by omega) mm_X1_48 mm_smin mm_ini mm_cmin (Nat.le_of_ble_eq_true rfl) dX1_canTake_28 ?_
  exact hret _ _ _ rfl dX1_canTake_31
set_option maxRecDepth 100000 in
theorem c_X1_canTake {l : Launch} {D : va_G} {E : ojE} {ad : Nat → Nat} (n1 : Nat) (h1 : n1 < 4) (a2 : Int32) (a3 : Int32) (σ : ojS) : ∀ (r : Int32), f_X1_canTake n1 a2 a3 σ = some r → ojMi (vO_ l D E ad) yX1_canTake cX1_canTake 5 (some .int) 2 [.ref (ad 9), .ref (ad (19 + n1)), .int a2, .int a3] σ r σ :=
  ojMi_R (by decide +kernel) rfl .int rfl (Nat.le_of_ble_eq_true rfl) rfl (fun X Q hc hret => wk_X1_canTake hc σ hret n1 h1 a2 a3)

def f_X1_take (n1 : Nat) (a2 : Int32) (a3 : Int32) (σ : ojS) : Option (ojS) :=
  ojB1 (f_X1_canTake n1 a2 a3 σ) (fun (r1 : Int32) =>
    ojChk a3 96 (
      ojChk a3 96 (ojLet (ojU σ (23 + n1) a3.toNatClampNeg ((σ (23 + n1) a3.toNatClampNeg) - r1)) (fun (σ2 : ojS) =>
        ojChk a2 4 (
          ojChk a2 4 (ojLet (ojU σ2 (27 + n1) a2.toNatClampNeg ((σ2 (27 + n1) a2.toNatClampNeg) + r1)) (fun (σ3 : ojS) =>
            some σ3)))))))
set_option maxRecDepth 100000 in
set_option maxHeartbeats 4000000 in
theorem wk_X1_take {l : Launch} {D : va_G} {E : ojE} {ad : Nat → Nat} {X : ojX} {Q : ojS → State → Prop} (hc : ojC X (vO_ l D E ad) RX1 cX1_take 5 3) (hret : ojRv X (vO_ l D E ad) Q cX1_take) (n1 : Nat) (h1 : n1 < 4) (a2 : Int32) (a3 : Int32) (σ : ojS) : ojJ X (vO_ l D E ad) Q (f_X1_take n1 a2 a3 σ) σ 0 [(0, .ref (ad 9)), (1, .ref (ad (19 + n1))), (2, .int a2), (3, .int a3)] [] := by
  unfold f_X1_take
  refine oj_aload_n hc dX1_take_0 rfl 0 rfl ?_
  refine oj_aload_n hc dX1_take_1 rfl 1 rfl ?_
  refine oj_iload_n hc dX1_take_2 rfl 2 rfl ?_
  refine oj_iload_n hc dX1_take_3 rfl 3 rfl ?_
  refine oj_cV1 hc cv_X1_57 (by omega) oC_Fleet [.ref (ad (19 + n1)), .int a2, .int a3] [] rfl rfl (Nat.le_of_ble_eq_true rfl) dX1_take_4 (c_X1_canTake n1 h1 a2 a3 σ) (fun r1 => ?_)
  refine oj_istore hc [(0, .ref (ad 9)), (1, .ref (ad (19 + n1))), (2, .int a2), (3, .int a3), (4, .int r1)] rfl (by decide) dX1_take_7 ?_
  refine oj_aload_n hc dX1_take_9 rfl 1 rfl ?_
  refine oj_getf hc ff_X1_54 (oC_Slick h1) rfl dX1_take_10 ?_
  refine oj_iload_n hc dX1_take_13 rfl 3 rfl ?_
  refine oj_dup2 hc dX1_take_14 rfl rfl ?_
  refine oj_iald hc 0 (oC_liters h1) rfl dX1_take_15 ?_
  refine oj_iload hc dX1_take_16 4 rfl ?_
  refine oj_isub hc dX1_take_18 ?_
  refine oj_iast hc 0 (oC_liters h1) (oC_liters_s h1) rfl rfl dX1_take_19 (fun σ2 => ?_)
  refine oj_aload_n hc dX1_take_20 rfl 1 rfl ?_
  refine oj_getf hc ff_X1_38 (oC_Slick h1) rfl dX1_take_21 ?_
  refine oj_iload_n hc dX1_take_24 rfl 2 rfl ?_
  refine oj_dup2 hc dX1_take_25 rfl rfl ?_
  refine oj_iald hc 0 (oC_loads h1) rfl dX1_take_26 ?_
  refine oj_iload hc dX1_take_27 4 rfl ?_
  refine oj_iadd hc dX1_take_29 ?_
  refine oj_iast hc 0 (oC_loads h1) (oC_loads_s h1) rfl rfl dX1_take_30 (fun σ3 => ?_)
  exact hret _ _ _ dX1_take_31
set_option maxRecDepth 100000 in
theorem c_X1_take {l : Launch} {D : va_G} {E : ojE} {ad : Nat → Nat} (n1 : Nat) (h1 : n1 < 4) (a2 : Int32) (a3 : Int32) (σ : ojS) : ∀ (σ1 : ojS), f_X1_take n1 a2 a3 σ = some σ1 → ojMv (vO_ l D E ad) yX1_take cX1_take 5 none 3 [.ref (ad 9), .ref (ad (19 + n1)), .int a2, .int a3] σ σ1 :=
  ojMv_W (by decide +kernel) rfl rfl (Nat.le_of_ble_eq_true rfl) rfl (fun X Q hc hret => wk_X1_take hc hret n1 h1 a2 a3 σ)

def f_X1_skim_3 (n1 : Nat) (a3 : Int32) (a4 : Int32) (σ : ojS) : Option (ojS) :=
  ojFix (fun _ _ => none) 600 (fun (rec_3 : Int32 → ojS → Option (ojS)) (v4_3 : Int32) (σ_3 : ojS) =>
    if a3 ≤ v4_3 then
      some σ_3
    else
      ojChk v4_3 4 (
        ojBv (f_X1_take n1 v4_3 (σ_3 (15 + v4_3.toNatClampNeg) 0) σ_3) (fun (σ3 : ojS) =>
          ojLet (v4_3 + 1) (fun (x4 : Int32) =>
            rec_3 x4 σ3)))) a4 σ
set_option maxRecDepth 100000 in
set_option maxHeartbeats 4000000 in
theorem wk_X1_skim_3 {l : Launch} {D : va_G} {E : ojE} {ad : Nat → Nat} {X : ojX} {Q : ojS → State → Prop} (hc : ojC X (vO_ l D E ad) RX1 cX1_skim 5 4) (hret : ojRv X (vO_ l D E ad) Q cX1_skim) (n1 : Nat) (h1 : n1 < 4) (a3 : Int32) (a4 : Int32) (σ : ojS) : ojJ X (vO_ l D E ad) Q (f_X1_skim_3 n1 a3 a4 σ) σ 3 [(0, .ref (ad 9)), (1, .ref (ad (19 + n1))), (3, .int a3), (4, .int a4)] [] := by
  unfold f_X1_skim_3
  refine oj_fix (fun (r : Int32 → ojS → Option (ojS)) => ∀ (v4_3 : Int32) (σ_3 : ojS), ojJ X (vO_ l D E ad) Q (r v4_3 σ_3) σ_3 3 [(0, .ref (ad 9)), (1, .ref (ad (19 + n1))), (3, .int a3), (4, .int v4_3)] []) _ (fun _ _ => oj_none) (fun rec_3 hrec_3 v4_3 σ_3 => ?_) 600 a4 σ
  refine oj_iload hc dX1_skim_3 3 rfl ?_
  refine oj_iload_n hc dX1_skim_5 rfl 2 rfl ?_
  refine oj_icmp_ge hc 32 dX1_skim_6 (by decide) (fun _ => ?_) ?_
  · exact hret _ _ _ dX1_skim_32
  · refine oj_aload_n hc dX1_skim_9 rfl 0 rfl ?_
    refine oj_aload_n hc dX1_skim_10 rfl 1 rfl ?_
    refine oj_iload hc dX1_skim_11 3 rfl ?_
    refine oj_aload_n hc dX1_skim_13 rfl 0 rfl ?_
    refine oj_getf hc ff_X1_11 oC_Fleet rfl dX1_skim_14 ?_
    refine oj_iload hc dX1_skim_17 3 rfl ?_
    refine oj_aald hc 3 oC_skimmers rfl dX1_skim_19 (fun hi1 => ?_)
    refine oj_getf hc ff_X1_22 (oC_Skimmer hi1) rfl dX1_skim_20 ?_
    refine oj_cVv hc cv_X1_61 (by omega) oC_Fleet [.ref (ad (19 + n1)), .int v4_3, .int (σ_3 (15 + v4_3.toNatClampNeg) 0)] [] rfl rfl (Nat.le_of_ble_eq_true rfl) dX1_skim_23 (c_X1_take n1 h1 v4_3 (σ_3 (15 + v4_3.toNatClampNeg) 0) σ_3) (fun σ3 => ?_)
    refine oj_iinc hc 1 (fun u => [(0, .ref (ad 9)), (1, .ref (ad (19 + n1))), (3, .int a3), (4, .int u)]) 3 rfl kc_1 (fun _ => rfl) (by decide) dX1_skim_26 (fun x4 => ?_)
    refine oj_goto hc 3 dX1_skim_29 (by decide) ?_
    exact hrec_3 x4 σ3
def f_X1_skim (n1 : Nat) (a2 : Int32) (a3 : Int32) (σ : ojS) : Option (ojS) :=
  f_X1_skim_3 n1 a3 a2 σ
set_option maxRecDepth 100000 in
set_option maxHeartbeats 4000000 in
theorem wk_X1_skim {l : Launch} {D : va_G} {E : ojE} {ad : Nat → Nat} {X : ojX} {Q : ojS → State → Prop} (hc : ojC X (vO_ l D E ad) RX1 cX1_skim 5 4) (hret : ojRv X (vO_ l D E ad) Q cX1_skim) (n1 : Nat) (h1 : n1 < 4) (a2 : Int32) (a3 : Int32) (σ : ojS) : ojJ X (vO_ l D E ad) Q (f_X1_skim n1 a2 a3 σ) σ 0 [(0, .ref (ad 9)), (1, .ref (ad (19 + n1))), (2, .int a2), (3, .int a3)] [] := by
  unfold f_X1_skim
  refine oj_iload_n hc dX1_skim_0 rfl 2 rfl ?_
  refine oj_istore hc [(0, .ref (ad 9)), (1, .ref (ad (19 + n1))), (2, .int a2), (3, .int a3), (4, .int a2)] rfl (by decide) dX1_skim_1 ?_
  refine oj_sub [0, 1, 3, 4] rfl ?_
  exact wk_X1_skim_3 hc hret n1 h1 a3 a2 σ
set_option maxRecDepth 100000 in
theorem c_X1_skim {l : Launch} {D : va_G} {E : ojE} {ad : Nat → Nat} (n1 : Nat) (h1 : n1 < 4) (a2 : Int32) (a3 : Int32) (σ : ojS) : ∀ (σ1 : ojS), f_X1_skim n1 a2 a3 σ = some σ1 → ojMv (vO_ l D E ad) yX1_skim cX1_skim 5 none 4 [.ref (ad 9), .ref (ad (19 + n1)), .int a2, .int a3] σ σ1 :=
  ojMv_W (by decide +kernel) rfl rfl (Nat.le_of_ble_eq_true rfl) rfl (fun X Q hc hret => wk_X1_skim hc hret n1 h1 a2 a3 σ)

def f_X1_beginHour_2 (a1 : Int32) (σ : ojS) : Option (ojS) :=
  ojFix (fun _ _ => none) 600 (fun (rec_2 : Int32 → ojS → Option (ojS)) (v1_2 : Int32) (σ_2 : ojS) =>
    if (σ_2 9 1) ≤ v1_2 then
      some σ_2
    else
      ojChk v1_2 4 (
        ojLet (ojU σ_2 (15 + v1_2.toNatClampNeg) 5 0) (fun (σ2 : ojS) =>
          ojLet (v1_2 + 1) (fun (x3 : Int32) =>
            rec_2 x3 σ2)))) a1 σ
set_option maxRecDepth 100000 in
set_option maxHeartbeats 4000000 in
theorem wk_X1_beginHour_2 {l : Launch} {D : va_G} {E : ojE} {ad : Nat → Nat} {X : ojX} {Q : ojS → State → Prop} (hc : ojC X (vO_ l D E ad) RX1 cX1_beginHour 2 1) (hret : ojRv X (vO_ l D E ad) Q cX1_beginHour) (a1 : Int32) (σ : ojS) : ojJ X (vO_ l D E ad) Q (f_X1_beginHour_2 a1 σ) σ 2 [(0, .ref (ad 9)), (1, .int a1)] [] := by
  unfold f_X1_beginHour_2
  refine oj_fix (fun (r : Int32 → ojS → Option (ojS)) => ∀ (v1_2 : Int32) (σ_2 : ojS), ojJ X (vO_ l D E ad) Q (r v1_2 σ_2) σ_2 2 [(0, .ref (ad 9)), (1, .int v1_2)] []) _ (fun _ _ => oj_none) (fun rec_2 hrec_2 v1_2 σ_2 => ?_) 600 a1 σ
  refine oj_iload_n hc dX1_beginHour_2 rfl 1 rfl ?_
  refine oj_aload_n hc dX1_beginHour_3 rfl 0 rfl ?_
  refine oj_getf hc ff_X1_18 oC_Fleet rfl dX1_beginHour_4 ?_
  refine oj_icmp_ge hc 26 dX1_beginHour_7 (by decide) (fun _ => ?_) ?_
  · exact hret _ _ _ dX1_beginHour_26
  · refine oj_aload_n hc dX1_beginHour_10 rfl 0 rfl ?_
    refine oj_getf hc ff_X1_11 oC_Fleet rfl dX1_beginHour_11 ?_
    refine oj_iload_n hc dX1_beginHour_14 rfl 1 rfl ?_
    refine oj_aald hc 3 oC_skimmers rfl dX1_beginHour_15 (fun hi1 => ?_)
    refine oj_iconst hc 0 dX1_beginHour_16 kc_0 ?_
    refine oj_putf hc fp_X1_34 (oC_Skimmer hi1) (oC_Skimmer_s5 hi1) rfl rfl (Nat.le_of_ble_eq_true rfl) dX1_beginHour_17 (fun σ2 => ?_)
    refine oj_iinc hc 1 (fun u => [(0, .ref (ad 9)), (1, .int u)]) 1 rfl kc_1 (fun _ => rfl) (by decide) dX1_beginHour_20 (fun x3 => ?_)
    refine oj_goto hc 2 dX1_beginHour_23 (by decide) ?_
    exact hrec_2 x3 σ2
def f_X1_beginHour (σ : ojS) : Option (ojS) :=
  f_X1_beginHour_2 0 σ
set_option maxRecDepth 100000 in
set_option maxHeartbeats 4000000 in
theorem wk_X1_beginHour {l : Launch} {D : va_G} {E : ojE} {ad : Nat → Nat} {X : ojX} {Q : ojS → State → Prop} (hc : ojC X (vO_ l D E ad) RX1 cX1_beginHour 2 1) (hret : ojRv X (vO_ l D E ad) Q cX1_beginHour)  (σ : ojS) : ojJ X (vO_ l D E ad) Q (f_X1_beginHour σ) σ 0 [(0, .ref (ad 9))] [] := by
  unfold f_X1_beginHour
  refine oj_iconst hc 0 dX1_beginHour_0 kc_0 ?_
  refine oj_istore_n hc [(0, .ref (ad 9)), (1, .int 0)] rfl (by decide) dX1_beginHour_1 rfl ?_
  exact wk_X1_beginHour_2 hc hret 0 σ
set_option maxRecDepth 100000 in
theorem c_X1_beginHour {l : Launch} {D : va_G} {E : ojE} {ad : Nat → Nat}  (σ : ojS) : ∀ (σ1 : ojS), f_X1_beginHour σ = some σ1 → ojMv (vO_ l D E ad) yX1_beginHour cX1_beginHour 2 none 1 [.ref (ad 9)] σ σ1 :=
  ojMv_W (by decide +kernel) rfl rfl (Nat.le_of_ble_eq_true rfl) rfl (fun X Q hc hret => wk_X1_beginHour hc hret σ)

def f_X7_become (n0 : Nat) (n1 : Nat) (σ : ojS) : Option (ojS) :=
  ojLet (ojW σ (23 + n0) (va_cpy (σ (23 + n1)) (σ (23 + n0)) (0 : Int32).toNatClampNeg (0 : Int32).toNatClampNeg (96 : Int32).toNatClampNeg)) (fun (σ1 : ojS) =>
    ojLet (ojW σ1 (27 + n0) (va_cpy (σ1 (27 + n1)) (σ1 (27 + n0)) (0 : Int32).toNatClampNeg (0 : Int32).toNatClampNeg (4 : Int32).toNatClampNeg)) (fun (σ2 : ojS) =>
      ojLet (ojU σ2 (19 + n0) 2 (σ2 (19 + n1) 2)) (fun (σ3 : ojS) =>
        ojLet (ojU σ3 (19 + n0) 3 (σ3 (19 + n1) 3)) (fun (σ4 : ojS) =>
          some σ4))))
set_option maxRecDepth 100000 in
set_option maxHeartbeats 4000000 in
theorem wk_X7_become {l : Launch} {D : va_G} {E : ojE} {ad : Nat → Nat} {X : ojX} {Q : ojS → State → Prop} (hc : ojC X (vO_ l D E ad) RX7 cX7_become 2 1) (hret : ojRv X (vO_ l D E ad) Q cX7_become) (n0 : Nat) (h0 : n0 < 4) (n1 : Nat) (h1 : n1 < 4) (σ : ojS) : ojJ X (vO_ l D E ad) Q (f_X7_become n0 n1 σ) σ 0 [(0, .ref (ad (19 + n0))), (1, .ref (ad (19 + n1)))] [] := by
  unfold f_X7_become
  refine oj_aload_n hc dX7_become_0 rfl 1 rfl ?_
  refine oj_getf hc ff_X7_9 (oC_Slick h1) rfl dX7_become_1 ?_
  refine oj_iconst hc 0 dX7_become_4 kc_0 ?_
  refine oj_aload_n hc dX7_become_5 rfl 0 rfl ?_
  refine oj_getf hc ff_X7_9 (oC_Slick h0) rfl dX7_become_6 ?_
  refine oj_iconst hc 0 dX7_become_9 kc_0 ?_
  refine oj_bipush hc 96 dX7_become_10 kb_96 ?_
  refine oj_copyi hc (by omega) mm_X7_18 mm_n mm_sarraycopy mm_inis (oC_liters h1) (oC_liters h0) (oC_liters_s h0) rfl 96 (by decide) (by decide) (Nat.le_of_ble_eq_true rfl) dX7_become_12 (fun σ1 => ?_)
  refine oj_aload_n hc dX7_become_15 rfl 1 rfl ?_
  refine oj_getf hc ff_X7_15 (oC_Slick h1) rfl dX7_become_16 ?_
  refine oj_iconst hc 0 dX7_become_19 kc_0 ?_
  refine oj_aload_n hc dX7_become_20 rfl 0 rfl ?_
  refine oj_getf hc ff_X7_15 (oC_Slick h0) rfl dX7_become_21 ?_
  refine oj_iconst hc 0 dX7_become_24 kc_0 ?_
  refine oj_iconst hc 4 dX7_become_25 kc_4 ?_
  refine oj_copyi hc (by omega) mm_X7_18 mm_n mm_sarraycopy mm_inis (oC_loads h1) (oC_loads h0) (oC_loads_s h0) rfl 4 (by decide) (by decide) (Nat.le_of_ble_eq_true rfl) dX7_become_26 (fun σ2 => ?_)
  refine oj_aload_n hc dX7_become_29 rfl 0 rfl ?_
  refine oj_aload_n hc dX7_become_30 rfl 1 rfl ?_
  refine oj_getf hc ff_X7_24 (oC_Slick h1) rfl dX7_become_31 ?_
  refine oj_putf hc fp_X7_24 (oC_Slick h0) (oC_Slick_s2 h0) rfl rfl (Nat.le_of_ble_eq_true rfl) dX7_become_34 (fun σ3 => ?_)
  refine oj_aload_n hc dX7_become_37 rfl 0 rfl ?_
  refine oj_aload_n hc dX7_become_38 rfl 1 rfl ?_
  refine oj_getf hc ff_X7_28 (oC_Slick h1) rfl dX7_become_39 ?_
  refine oj_putf hc fp_X7_28 (oC_Slick h0) (oC_Slick_s3 h0) rfl rfl (Nat.le_of_ble_eq_true rfl) dX7_become_42 (fun σ4 => ?_)
  exact hret _ _ _ dX7_become_45
set_option maxRecDepth 100000 in
theorem c_X7_become {l : Launch} {D : va_G} {E : ojE} {ad : Nat → Nat} (n0 : Nat) (h0 : n0 < 4) (n1 : Nat) (h1 : n1 < 4) (σ : ojS) : ∀ (σ1 : ojS), f_X7_become n0 n1 σ = some σ1 → ojMv (vO_ l D E ad) yX7_become cX7_become 2 none 1 [.ref (ad (19 + n0)), .ref (ad (19 + n1))] σ σ1 :=
  ojMv_W (by decide +kernel) rfl rfl (Nat.le_of_ble_eq_true rfl) rfl (fun X Q hc hret => wk_X7_become hc hret n0 h0 n1 h1 σ)

def f_X3_begin (a1 : Int32) (a2 : Int32) (σ : ojS) : Option (ojS) :=
  ojLet (ojU σ 12 0 a1) (fun (σ1 : ojS) =>
    ojLet (ojU σ1 12 1 a2) (fun (σ2 : ojS) =>
      ojLet (ojU σ2 12 2 (-1)) (fun (σ3 : ojS) =>
        ojLet (ojU σ3 12 3 (-1)) (fun (σ4 : ojS) =>
          ojLet (ojU σ4 12 4 (-1)) (fun (σ5 : ojS) =>
            some σ5)))))
set_option maxRecDepth 100000 in
set_option maxHeartbeats 4000000 in
theorem wk_X3_begin {l : Launch} {D : va_G} {E : ojE} {ad : Nat → Nat} {X : ojX} {Q : ojS → State → Prop} (hc : ojC X (vO_ l D E ad) RX3 cX3_begin 3 1) (hret : ojRv X (vO_ l D E ad) Q cX3_begin) (a1 : Int32) (a2 : Int32) (σ : ojS) : ojJ X (vO_ l D E ad) Q (f_X3_begin a1 a2 σ) σ 0 [(0, .ref (ad 12)), (1, .int a1), (2, .int a2)] [] := by
  unfold f_X3_begin
  refine oj_aload_n hc dX3_begin_0 rfl 0 rfl ?_
  refine oj_iload_n hc dX3_begin_1 rfl 1 rfl ?_
  refine oj_putf hc fp_X3_9 oC_Outing oC_Outing_s0 rfl rfl (Nat.le_of_ble_eq_true rfl) dX3_begin_2 (fun σ1 => ?_)
  refine oj_aload_n hc dX3_begin_5 rfl 0 rfl ?_
  refine oj_iload_n hc dX3_begin_6 rfl 2 rfl ?_
  refine oj_putf hc fp_X3_15 oC_Outing oC_Outing_s1 rfl rfl (Nat.le_of_ble_eq_true rfl) dX3_begin_7 (fun σ2 => ?_)
  refine oj_aload_n hc dX3_begin_10 rfl 0 rfl ?_
  refine oj_iconst hc (-1) dX3_begin_11 kc_m1 ?_
  refine oj_putf hc fp_X3_18 oC_Outing oC_Outing_s2 rfl rfl (Nat.le_of_ble_eq_true rfl) dX3_begin_12 (fun σ3 => ?_)
  refine oj_aload_n hc dX3_begin_15 rfl 0 rfl ?_
  refine oj_iconst hc (-1) dX3_begin_16 kc_m1 ?_
  refine oj_putf hc fp_X3_21 oC_Outing oC_Outing_s3 rfl rfl (Nat.le_of_ble_eq_true rfl) dX3_begin_17 (fun σ4 => ?_)
  refine oj_aload_n hc dX3_begin_20 rfl 0 rfl ?_
  refine oj_iconst hc (-1) dX3_begin_21 kc_m1 ?_
  refine oj_putf hc fp_X3_24 oC_Outing oC_Outing_s4 rfl rfl (Nat.le_of_ble_eq_true rfl) dX3_begin_22 (fun σ5 => ?_)
  exact hret _ _ _ dX3_begin_25
set_option maxRecDepth 100000 in
theorem c_X3_begin {l : Launch} {D : va_G} {E : ojE} {ad : Nat → Nat} (a1 : Int32) (a2 : Int32) (σ : ojS) : ∀ (σ1 : ojS), f_X3_begin a1 a2 σ = some σ1 → ojMv (vO_ l D E ad) yX3_begin cX3_begin 3 none 1 [.ref (ad 12), .int a1, .int a2] σ σ1 :=
  ojMv_W (by decide +kernel) rfl rfl (Nat.le_of_ble_eq_true rfl) rfl (fun X Q hc hret => wk_X3_begin hc hret a1 a2 σ)
end
