section
-- ===== PART A: goes FIRST, ahead of the names: the tables' words, and 'selects' of the private methods out of them =====
/-- a private method of a class that the tables say can be made, by its rows of tables_1 -/
def lw_okq (q : MethodName × Nat) : Prop := (q.1.cls ≠ "java/lang/invoke/MethodHandle" ∧ q.1.cls ≠ "java/lang/invoke/VarHandle") ∧ Cond.instantiable q.1.cls q.2 ∈ tables_1 ∧ Cond.privateMethod q.1 ∈ tables_1 ∧ Cond.instanceMethod q.1 ∈ tables_1
theorem lw_p0 : lw_okq (⟨"DishRounds$Search", "goBack", "()V"⟩, 11) := ⟨⟨by decide +kernel, by decide +kernel⟩, List.mem_of_getElem? (i := 165) (by decide +kernel), List.mem_of_getElem? (i := 434) (by decide +kernel), List.mem_of_getElem? (i := 435) (by decide +kernel)⟩
theorem lw_p1 : lw_okq (⟨"DishRounds$Search", "reach", "([III)V"⟩, 11) := ⟨⟨by decide +kernel, by decide +kernel⟩, List.mem_of_getElem? (i := 165) (by decide +kernel), List.mem_of_getElem? (i := 439) (by decide +kernel), List.mem_of_getElem? (i := 440) (by decide +kernel)⟩
theorem lw_p2 : lw_okq (⟨"DishRounds$Search", "lowWind", "(I)I"⟩, 11) := ⟨⟨by decide +kernel, by decide +kernel⟩, List.mem_of_getElem? (i := 165) (by decide +kernel), List.mem_of_getElem? (i := 444) (by decide +kernel), List.mem_of_getElem? (i := 445) (by decide +kernel)⟩
theorem lw_p3 : lw_okq (⟨"DishRounds$Search", "highWind", "(I)I"⟩, 11) := ⟨⟨by decide +kernel, by decide +kernel⟩, List.mem_of_getElem? (i := 165) (by decide +kernel), List.mem_of_getElem? (i := 451) (by decide +kernel), List.mem_of_getElem? (i := 452) (by decide +kernel)⟩
theorem lw_p4 : lw_okq (⟨"DishRounds$Search", "tilt", "([IIII)V"⟩, 11) := ⟨⟨by decide +kernel, by decide +kernel⟩, List.mem_of_getElem? (i := 165) (by decide +kernel), List.mem_of_getElem? (i := 455) (by decide +kernel), List.mem_of_getElem? (i := 456) (by decide +kernel)⟩
theorem lw_p5 : lw_okq (⟨"DishRounds$Search", "turn", "(II)V"⟩, 11) := ⟨⟨by decide +kernel, by decide +kernel⟩, List.mem_of_getElem? (i := 165) (by decide +kernel), List.mem_of_getElem? (i := 459) (by decide +kernel), List.mem_of_getElem? (i := 460) (by decide +kernel)⟩
theorem lw_p6 : lw_okq (⟨"DishRounds$Search", "enterRow", "([III)V"⟩, 11) := ⟨⟨by decide +kernel, by decide +kernel⟩, List.mem_of_getElem? (i := 165) (by decide +kernel), List.mem_of_getElem? (i := 463) (by decide +kernel), List.mem_of_getElem? (i := 464) (by decide +kernel)⟩
theorem lw_p7 : lw_okq (⟨"DishRounds$Search", "aimAt", "(I)V"⟩, 11) := ⟨⟨by decide +kernel, by decide +kernel⟩, List.mem_of_getElem? (i := 165) (by decide +kernel), List.mem_of_getElem? (i := 475) (by decide +kernel), List.mem_of_getElem? (i := 476) (by decide +kernel)⟩
theorem lw_p8 : lw_okq (⟨"DishRounds$Search", "pointOf", "(I)I"⟩, 11) := ⟨⟨by decide +kernel, by decide +kernel⟩, List.mem_of_getElem? (i := 165) (by decide +kernel), List.mem_of_getElem? (i := 479) (by decide +kernel), List.mem_of_getElem? (i := 480) (by decide +kernel)⟩
theorem lw_p9 : lw_okq (⟨"DishRounds$Search", "addGain", "([III)V"⟩, 11) := ⟨⟨by decide +kernel, by decide +kernel⟩, List.mem_of_getElem? (i := 165) (by decide +kernel), List.mem_of_getElem? (i := 485) (by decide +kernel), List.mem_of_getElem? (i := 486) (by decide +kernel)⟩
theorem lw_p10 : lw_okq (⟨"DishRounds$Search", "gain", "(II)I"⟩, 11) := ⟨⟨by decide +kernel, by decide +kernel⟩, List.mem_of_getElem? (i := 165) (by decide +kernel), List.mem_of_getElem? (i := 494) (by decide +kernel), List.mem_of_getElem? (i := 495) (by decide +kernel)⟩
theorem lw_p11 : lw_okq (⟨"DishRounds$Search", "follow", "(LDishRounds$Way;)V"⟩, 11) := ⟨⟨by decide +kernel, by decide +kernel⟩, List.mem_of_getElem? (i := 165) (by decide +kernel), List.mem_of_getElem? (i := 498) (by decide +kernel), List.mem_of_getElem? (i := 499) (by decide +kernel)⟩
theorem lw_p12 : lw_okq (⟨"DishRounds$Search", "nextCell", "(III)I"⟩, 11) := ⟨⟨by decide +kernel, by decide +kernel⟩, List.mem_of_getElem? (i := 165) (by decide +kernel), List.mem_of_getElem? (i := 509) (by decide +kernel), List.mem_of_getElem? (i := 510) (by decide +kernel)⟩
theorem lw_p13 : lw_okq (⟨"DishRounds", "bestDish", "(LDishRounds$Flight;)I"⟩, 4) := ⟨⟨by decide +kernel, by decide +kernel⟩, List.mem_of_getElem? (i := 13) (by decide +kernel), List.mem_of_getElem? (i := 531) (by decide +kernel), List.mem_of_getElem? (i := 532) (by decide +kernel)⟩
theorem lw_p14 : lw_okq (⟨"DishRounds$Search", "goForth", "(LDishRounds$Way;)V"⟩, 11) := ⟨⟨by decide +kernel, by decide +kernel⟩, List.mem_of_getElem? (i := 165) (by decide +kernel), List.mem_of_getElem? (i := 548) (by decide +kernel), List.mem_of_getElem? (i := 549) (by decide +kernel)⟩
theorem lw_p15 : lw_okq (⟨"DishRounds$Search", "mostSeen", "([III)I"⟩, 11) := ⟨⟨by decide +kernel, by decide +kernel⟩, List.mem_of_getElem? (i := 165) (by decide +kernel), List.mem_of_getElem? (i := 552) (by decide +kernel), List.mem_of_getElem? (i := 553) (by decide +kernel)⟩
def lw_privs_1 : List (MethodName × Nat) := [(⟨"DishRounds$Search", "goBack", "()V"⟩, 11), (⟨"DishRounds$Search", "reach", "([III)V"⟩, 11), (⟨"DishRounds$Search", "lowWind", "(I)I"⟩, 11), (⟨"DishRounds$Search", "highWind", "(I)I"⟩, 11), (⟨"DishRounds$Search", "tilt", "([IIII)V"⟩, 11), (⟨"DishRounds$Search", "turn", "(II)V"⟩, 11), (⟨"DishRounds$Search", "enterRow", "([III)V"⟩, 11), (⟨"DishRounds$Search", "aimAt", "(I)V"⟩, 11), (⟨"DishRounds$Search", "pointOf", "(I)I"⟩, 11), (⟨"DishRounds$Search", "addGain", "([III)V"⟩, 11), (⟨"DishRounds$Search", "gain", "(II)I"⟩, 11), (⟨"DishRounds$Search", "follow", "(LDishRounds$Way;)V"⟩, 11), (⟨"DishRounds$Search", "nextCell", "(III)I"⟩, 11), (⟨"DishRounds", "bestDish", "(LDishRounds$Flight;)I"⟩, 4), (⟨"DishRounds$Search", "goForth", "(LDishRounds$Way;)V"⟩, 11), (⟨"DishRounds$Search", "mostSeen", "([III)I"⟩, 11)]
theorem lw_r1 : ∀ q ∈ lw_privs_1, lw_okq q := List.forall_mem_cons.mpr ⟨lw_p0, List.forall_mem_cons.mpr ⟨lw_p1, List.forall_mem_cons.mpr ⟨lw_p2, List.forall_mem_cons.mpr ⟨lw_p3, List.forall_mem_cons.mpr ⟨lw_p4, List.forall_mem_cons.mpr ⟨lw_p5, List.forall_mem_cons.mpr ⟨lw_p6, List.forall_mem_cons.mpr ⟨lw_p7, List.forall_mem_cons.mpr ⟨lw_p8, List.forall_mem_cons.mpr ⟨lw_p9, List.forall_mem_cons.mpr ⟨lw_p10, List.forall_mem_cons.mpr ⟨lw_p11, List.forall_mem_cons.mpr ⟨lw_p12, List.forall_mem_cons.mpr ⟨lw_p13, List.forall_mem_cons.mpr ⟨lw_p14, List.forall_mem_cons.mpr ⟨lw_p15, fun _ h => absurd h List.not_mem_nil⟩⟩⟩⟩⟩⟩⟩⟩⟩⟩⟩⟩⟩⟩⟩⟩
theorem lw_p16 : lw_okq (⟨"DishRounds", "goAlong", "(ILDishRounds$Flight;LDishRounds$Way;)V"⟩, 4) := ⟨⟨by decide +kernel, by decide +kernel⟩, List.mem_of_getElem? (i := 13) (by decide +kernel), List.mem_of_getElem? (i := 563) (by decide +kernel), List.mem_of_getElem? (i := 564) (by decide +kernel)⟩
theorem lw_p17 : lw_okq (⟨"DishRoundsModel", "passOf", "(I)I"⟩, 12) := ⟨⟨by decide +kernel, by decide +kernel⟩, List.mem_of_getElem? (i := 635) (by decide +kernel), List.mem_of_getElem? (i := 686) (by decide +kernel), List.mem_of_getElem? (i := 687) (by decide +kernel)⟩
theorem lw_p18 : lw_okq (⟨"DishRoundsModel", "isBurnt", "(III)Z"⟩, 12) := ⟨⟨by decide +kernel, by decide +kernel⟩, List.mem_of_getElem? (i := 635) (by decide +kernel), List.mem_of_getElem? (i := 734) (by decide +kernel), List.mem_of_getElem? (i := 735) (by decide +kernel)⟩
theorem lw_p19 : lw_okq (⟨"DishRoundsModel", "isOpen", "(I)Z"⟩, 12) := ⟨⟨by decide +kernel, by decide +kernel⟩, List.mem_of_getElem? (i := 635) (by decide +kernel), List.mem_of_getElem? (i := 757) (by decide +kernel), List.mem_of_getElem? (i := 758) (by decide +kernel)⟩
theorem lw_p20 : lw_okq (⟨"DishRoundsModel", "layAll", "(II)I"⟩, 12) := ⟨⟨by decide +kernel, by decide +kernel⟩, List.mem_of_getElem? (i := 635) (by decide +kernel), List.mem_of_getElem? (i := 761) (by decide +kernel), List.mem_of_getElem? (i := 762) (by decide +kernel)⟩
theorem lw_p21 : lw_okq (⟨"DishRoundsModel", "lay", "(IIII)I"⟩, 12) := ⟨⟨by decide +kernel, by decide +kernel⟩, List.mem_of_getElem? (i := 635) (by decide +kernel), List.mem_of_getElem? (i := 765) (by decide +kernel), List.mem_of_getElem? (i := 766) (by decide +kernel)⟩
theorem lw_p22 : lw_okq (⟨"DishRoundsModel", "lastTick", "()I"⟩, 12) := ⟨⟨by decide +kernel, by decide +kernel⟩, List.mem_of_getElem? (i := 635) (by decide +kernel), List.mem_of_getElem? (i := 769) (by decide +kernel), List.mem_of_getElem? (i := 770) (by decide +kernel)⟩
theorem lw_p23 : lw_okq (⟨"DishRoundsModel", "mayStand", "(III)Z"⟩, 12) := ⟨⟨by decide +kernel, by decide +kernel⟩, List.mem_of_getElem? (i := 635) (by decide +kernel), List.mem_of_getElem? (i := 777) (by decide +kernel), List.mem_of_getElem? (i := 778) (by decide +kernel)⟩
theorem lw_p24 : lw_okq (⟨"DishRoundsModel", "from", "(III)I"⟩, 12) := ⟨⟨by decide +kernel, by decide +kernel⟩, List.mem_of_getElem? (i := 635) (by decide +kernel), List.mem_of_getElem? (i := 781) (by decide +kernel), List.mem_of_getElem? (i := 782) (by decide +kernel)⟩
theorem lw_p25 : lw_okq (⟨"DishRoundsModel", "sees", "(III)Z"⟩, 12) := ⟨⟨by decide +kernel, by decide +kernel⟩, List.mem_of_getElem? (i := 635) (by decide +kernel), List.mem_of_getElem? (i := 785) (by decide +kernel), List.mem_of_getElem? (i := 786) (by decide +kernel)⟩
theorem lw_p26 : lw_okq (⟨"DishRoundsModel", "goTo", "(IIIII)I"⟩, 12) := ⟨⟨by decide +kernel, by decide +kernel⟩, List.mem_of_getElem? (i := 635) (by decide +kernel), List.mem_of_getElem? (i := 789) (by decide +kernel), List.mem_of_getElem? (i := 790) (by decide +kernel)⟩
theorem lw_p27 : lw_okq (⟨"DishRoundsModel", "walk", "(I)V"⟩, 12) := ⟨⟨by decide +kernel, by decide +kernel⟩, List.mem_of_getElem? (i := 635) (by decide +kernel), List.mem_of_getElem? (i := 793) (by decide +kernel), List.mem_of_getElem? (i := 794) (by decide +kernel)⟩
theorem lw_p28 : lw_okq (⟨"DishRoundsModel", "stepFrom", "(II)V"⟩, 12) := ⟨⟨by decide +kernel, by decide +kernel⟩, List.mem_of_getElem? (i := 635) (by decide +kernel), List.mem_of_getElem? (i := 797) (by decide +kernel), List.mem_of_getElem? (i := 798) (by decide +kernel)⟩
theorem lw_p29 : lw_okq (⟨"DishRoundsModel", "seenTick", "(Z)I"⟩, 12) := ⟨⟨by decide +kernel, by decide +kernel⟩, List.mem_of_getElem? (i := 635) (by decide +kernel), List.mem_of_getElem? (i := 807) (by decide +kernel), List.mem_of_getElem? (i := 808) (by decide +kernel)⟩
theorem lw_p30 : lw_okq (⟨"DishRoundsModel", "offerOf", "(I)I"⟩, 12) := ⟨⟨by decide +kernel, by decide +kernel⟩, List.mem_of_getElem? (i := 635) (by decide +kernel), List.mem_of_getElem? (i := 819) (by decide +kernel), List.mem_of_getElem? (i := 820) (by decide +kernel)⟩
theorem lw_p31 : lw_okq (⟨"DishRoundsModel", "seenBy", "(IIII)I"⟩, 12) := ⟨⟨by decide +kernel, by decide +kernel⟩, List.mem_of_getElem? (i := 635) (by decide +kernel), List.mem_of_getElem? (i := 827) (by decide +kernel), List.mem_of_getElem? (i := 828) (by decide +kernel)⟩
def lw_privs_2 : List (MethodName × Nat) := [(⟨"DishRounds", "goAlong", "(ILDishRounds$Flight;LDishRounds$Way;)V"⟩, 4), (⟨"DishRoundsModel", "passOf", "(I)I"⟩, 12), (⟨"DishRoundsModel", "isBurnt", "(III)Z"⟩, 12), (⟨"DishRoundsModel", "isOpen", "(I)Z"⟩, 12), (⟨"DishRoundsModel", "layAll", "(II)I"⟩, 12), (⟨"DishRoundsModel", "lay", "(IIII)I"⟩, 12), (⟨"DishRoundsModel", "lastTick", "()I"⟩, 12), (⟨"DishRoundsModel", "mayStand", "(III)Z"⟩, 12), (⟨"DishRoundsModel", "from", "(III)I"⟩, 12), (⟨"DishRoundsModel", "sees", "(III)Z"⟩, 12), (⟨"DishRoundsModel", "goTo", "(IIIII)I"⟩, 12), (⟨"DishRoundsModel", "walk", "(I)V"⟩, 12), (⟨"DishRoundsModel", "stepFrom", "(II)V"⟩, 12), (⟨"DishRoundsModel", "seenTick", "(Z)I"⟩, 12), (⟨"DishRoundsModel", "offerOf", "(I)I"⟩, 12), (⟨"DishRoundsModel", "seenBy", "(IIII)I"⟩, 12)]
theorem lw_r2 : ∀ q ∈ lw_privs_2, lw_okq q := List.forall_mem_cons.mpr ⟨lw_p16, List.forall_mem_cons.mpr ⟨lw_p17, List.forall_mem_cons.mpr ⟨lw_p18, List.forall_mem_cons.mpr ⟨lw_p19, List.forall_mem_cons.mpr ⟨lw_p20, List.forall_mem_cons.mpr ⟨lw_p21, List.forall_mem_cons.mpr ⟨lw_p22, List.forall_mem_cons.mpr ⟨lw_p23, List.forall_mem_cons.mpr ⟨lw_p24, List.forall_mem_cons.mpr ⟨lw_p25, List.forall_mem_cons.mpr ⟨lw_p26, List.forall_mem_cons.mpr ⟨lw_p27, List.forall_mem_cons.mpr ⟨lw_p28, List.forall_mem_cons.mpr ⟨lw_p29, List.forall_mem_cons.mpr ⟨lw_p30, List.forall_mem_cons.mpr ⟨lw_p31, fun _ h => absurd h List.not_mem_nil⟩⟩⟩⟩⟩⟩⟩⟩⟩⟩⟩⟩⟩⟩⟩⟩
theorem lw_p32 : lw_okq (⟨"DishRoundsModel", "takeBy", "(II)I"⟩, 12) := ⟨⟨by decide +kernel, by decide +kernel⟩, List.mem_of_getElem? (i := 635) (by decide +kernel), List.mem_of_getElem? (i := 835) (by decide +kernel), List.mem_of_getElem? (i := 836) (by decide +kernel)⟩
theorem lw_p33 : lw_okq (⟨"DishRoundsModel", "nextPass", "(II)I"⟩, 12) := ⟨⟨by decide +kernel, by decide +kernel⟩, List.mem_of_getElem? (i := 635) (by decide +kernel), List.mem_of_getElem? (i := 843) (by decide +kernel), List.mem_of_getElem? (i := 844) (by decide +kernel)⟩
theorem lw_p34 : lw_okq (⟨"DishRoundsModel", "takenOnes", "()I"⟩, 12) := ⟨⟨by decide +kernel, by decide +kernel⟩, List.mem_of_getElem? (i := 635) (by decide +kernel), List.mem_of_getElem? (i := 855) (by decide +kernel), List.mem_of_getElem? (i := 856) (by decide +kernel)⟩
theorem lw_p35 : lw_okq (⟨"DishRoundsModel", "pointsOfAll", "()I"⟩, 12) := ⟨⟨by decide +kernel, by decide +kernel⟩, List.mem_of_getElem? (i := 635) (by decide +kernel), List.mem_of_getElem? (i := 859) (by decide +kernel), List.mem_of_getElem? (i := 860) (by decide +kernel)⟩
theorem lw_p36 : lw_okq (⟨"DishRoundsModel", "looks", "(Z)I"⟩, 12) := ⟨⟨by decide +kernel, by decide +kernel⟩, List.mem_of_getElem? (i := 635) (by decide +kernel), List.mem_of_getElem? (i := 863) (by decide +kernel), List.mem_of_getElem? (i := 864) (by decide +kernel)⟩
def lw_privs_3 : List (MethodName × Nat) := [(⟨"DishRoundsModel", "takeBy", "(II)I"⟩, 12), (⟨"DishRoundsModel", "nextPass", "(II)I"⟩, 12), (⟨"DishRoundsModel", "takenOnes", "()I"⟩, 12), (⟨"DishRoundsModel", "pointsOfAll", "()I"⟩, 12), (⟨"DishRoundsModel", "looks", "(Z)I"⟩, 12)]
theorem lw_r3 : ∀ q ∈ lw_privs_3, lw_okq q := List.forall_mem_cons.mpr ⟨lw_p32, List.forall_mem_cons.mpr ⟨lw_p33, List.forall_mem_cons.mpr ⟨lw_p34, List.forall_mem_cons.mpr ⟨lw_p35, List.forall_mem_cons.mpr ⟨lw_p36, fun _ h => absurd h List.not_mem_nil⟩⟩⟩⟩⟩
def lw_privs : List (MethodName × Nat) := lw_privs_1 ++ (lw_privs_2 ++ (lw_privs_3))
def lw_tbl : List Cond := k2_sels lw_privs ++ tables_1
theorem lw_privs_ok : ∀ q ∈ lw_privs, lw_okq q := by
  show ∀ q ∈ lw_privs_1 ++ (lw_privs_2 ++ (lw_privs_3)), lw_okq q
  exact List.forall_mem_append.mpr ⟨lw_r1, List.forall_mem_append.mpr ⟨lw_r2, lw_r3⟩⟩
-- ===== end of PART A; then your names; then what follows =====
end
section
def RX0 : String := "DishRounds$Flight"
def TX0 : u_T := fun k => match k with
  | 0 => ("DishRounds$Flight", "sides", "[I", true)
  | 1 => ("DishRounds$Flight", "heights", "[I", true)
  | 2 => ("DishRounds$Flight", "name", "I", false)
  | 3 => ("DishRounds$Flight", "begin", "I", false)
  | 4 => ("DishRounds$Flight", "size", "I", false)
  | 5 => ("DishRounds$Flight", "taker", "I", false)
  | _ => ("DishRounds$Flight", "seenThen", "I", false)
def tyX0 : Nat → FieldType := fun k => match k with
  | 0 => .array .int
  | 1 => .array .int
  | 2 => .int
  | 3 => .int
  | 4 => .int
  | 5 => .int
  | _ => .int
abbrev wsX00 : List Cond := u_ws RX0 TX0 7
theorem nmX0 : ∀ a, a < 7 → ∀ b, b < 7 → a ≠ b → (TX0 a).2.1 ≠ (TX0 b).2.1 := by decide +kernel
theorem tyX0_ok : ∀ k, k < 7 → parseFieldDescriptor (TX0 k).2.2.1 = some (tyX0 k) := by decide +kernel
abbrev cX0_init : ByteArray := prog_2_method_1_code
def yX0_init : MethodName := ⟨RX0, "<init>", "()V"⟩
abbrev cX0_start : ByteArray := prog_2_method_2_code
def yX0_start : MethodName := ⟨RX0, "start", "(II)V"⟩
abbrev cX0_addPoint : ByteArray := prog_2_method_3_code
def yX0_addPoint : MethodName := ⟨RX0, "addPoint", "(II)V"⟩
abbrev cX0_isTaken : ByteArray := prog_2_method_4_code
def yX0_isTaken : MethodName := ⟨RX0, "isTaken", "()Z"⟩
abbrev cX0_isOpen : ByteArray := prog_2_method_5_code
def yX0_isOpen : MethodName := ⟨RX0, "isOpen", "()Z"⟩
abbrev cX0_lastTick : ByteArray := prog_2_method_6_code
def yX0_lastTick : MethodName := ⟨RX0, "lastTick", "()I"⟩
abbrev cX0_copyFrom : ByteArray := prog_2_method_7_code
def yX0_copyFrom : MethodName := ⟨RX0, "copyFrom", "(LDishRounds$Flight;)V"⟩
def RX1 : String := "DishRounds$Mount"
def TX1 : u_T := fun k => match k with
  | 0 => ("DishRounds$Mount", "wind", "I", false)
  | 1 => ("DishRounds$Mount", "height", "I", false)
  | 2 => ("DishRounds$Mount", "free", "I", false)
  | 3 => ("DishRounds$Mount", "limit", "I", false)
  | _ => ("DishRounds$Mount", "speed", "I", false)
def tyX1 : Nat → FieldType := fun k => match k with
  | 0 => .int
  | 1 => .int
  | 2 => .int
  | 3 => .int
  | _ => .int
abbrev wsX10 : List Cond := u_ws RX1 TX1 5
theorem nmX1 : ∀ a, a < 5 → ∀ b, b < 5 → a ≠ b → (TX1 a).2.1 ≠ (TX1 b).2.1 := by decide +kernel
theorem tyX1_ok : ∀ k, k < 5 → parseFieldDescriptor (TX1 k).2.2.1 = some (tyX1 k) := by decide +kernel
abbrev cX1_init : ByteArray := prog_3_method_1_code
def yX1_init : MethodName := ⟨RX1, "<init>", "()V"⟩
abbrev cX1_turnTo : ByteArray := prog_3_method_2_code
def yX1_turnTo : MethodName := ⟨RX1, "turnTo", "(III)V"⟩
abbrev cX1_copyFrom : ByteArray := prog_3_method_3_code
def yX1_copyFrom : MethodName := ⟨RX1, "copyFrom", "(LDishRounds$Mount;)V"⟩
def RX2 : String := "DishRounds$Search"
def TX2 : u_T := fun k => match k with
  | 0 => ("DishRounds$Search", "world", "LDishRounds$World;", true)
  | 1 => ("DishRounds$Search", "ways", "[LDishRounds$Way;", true)
  | 2 => ("DishRounds$Search", "rest", "[I", true)
  | 3 => ("DishRounds$Search", "front", "[I", true)
  | 4 => ("DishRounds$Search", "reached", "[I", false)
  | 5 => ("DishRounds$Search", "spare", "[I", false)
  | 6 => ("DishRounds$Search", "mount", "LDishRounds$Mount;", false)
  | 7 => ("DishRounds$Search", "flight", "LDishRounds$Flight;", false)
  | 8 => ("DishRounds$Search", "rows", "I", false)
  | 9 => ("DishRounds$Search", "goalSide", "I", false)
  | _ => ("DishRounds$Search", "goalHeight", "I", false)
def tyX2 : Nat → FieldType := fun k => match k with
  | 0 => .object "DishRounds$World"
  | 1 => .array (.object "DishRounds$Way")
  | 2 => .array .int
  | 3 => .array .int
  | 4 => .array .int
  | 5 => .array .int
  | 6 => .object "DishRounds$Mount"
  | 7 => .object "DishRounds$Flight"
  | 8 => .int
  | 9 => .int
  | _ => .int
abbrev wsX20 : List Cond := u_ws RX2 TX2 11
theorem nmX2 : ∀ a, a < 11 → ∀ b, b < 11 → a ≠ b → (TX2 a).2.1 ≠ (TX2 b).2.1 := by decide +kernel
theorem tyX2_ok : ∀ k, k < 11 → parseFieldDescriptor (TX2 k).2.2.1 = some (tyX2 k) := by decide +kernel
abbrev cX2_init : ByteArray := prog_4_method_1_code
def yX2_init : MethodName := ⟨RX2, "<init>", "(LDishRounds$World;)V"⟩
abbrev cX2_forgetWays : ByteArray := prog_4_method_2_code
def yX2_forgetWays : MethodName := ⟨RX2, "forgetWays", "()V"⟩
abbrev cX2_bestWay : ByteArray := prog_4_method_3_code
def yX2_bestWay : MethodName := ⟨RX2, "bestWay", "(ILDishRounds$Flight;)LDishRounds$Way;"⟩
abbrev cX2_sharedWay : ByteArray := prog_4_method_4_code
def yX2_sharedWay : MethodName := ⟨RX2, "sharedWay", "(ILDishRounds$Flight;)LDishRounds$Way;"⟩
abbrev cX2_goBack : ByteArray := prog_4_method_5_code
def yX2_goBack : MethodName := ⟨RX2, "goBack", "()V"⟩
abbrev cX2_follow : ByteArray := prog_4_method_6_code
def yX2_follow : MethodName := ⟨RX2, "follow", "(LDishRounds$Way;)V"⟩
abbrev cX2_nextCell : ByteArray := prog_4_method_7_code
def yX2_nextCell : MethodName := ⟨RX2, "nextCell", "(III)I"⟩
abbrev cX2_goForth : ByteArray := prog_4_method_8_code
def yX2_goForth : MethodName := ⟨RX2, "goForth", "(LDishRounds$Way;)V"⟩
abbrev cX2_reach : ByteArray := prog_4_method_9_code
def yX2_reach : MethodName := ⟨RX2, "reach", "([III)V"⟩
abbrev cX2_tilt : ByteArray := prog_4_method_10_code
def yX2_tilt : MethodName := ⟨RX2, "tilt", "([IIII)V"⟩
abbrev cX2_turn : ByteArray := prog_4_method_11_code
def yX2_turn : MethodName := ⟨RX2, "turn", "(II)V"⟩
abbrev cX2_enterRow : ByteArray := prog_4_method_12_code
def yX2_enterRow : MethodName := ⟨RX2, "enterRow", "([III)V"⟩
abbrev cX2_aimAt : ByteArray := prog_4_method_13_code
def yX2_aimAt : MethodName := ⟨RX2, "aimAt", "(I)V"⟩
abbrev cX2_addGain : ByteArray := prog_4_method_14_code
def yX2_addGain : MethodName := ⟨RX2, "addGain", "([III)V"⟩
abbrev cX2_gain : ByteArray := prog_4_method_15_code
def yX2_gain : MethodName := ⟨RX2, "gain", "(II)I"⟩
abbrev cX2_pointOf : ByteArray := prog_4_method_16_code
def yX2_pointOf : MethodName := ⟨RX2, "pointOf", "(I)I"⟩
abbrev cX2_mostSeen : ByteArray := prog_4_method_17_code
def yX2_mostSeen : MethodName := ⟨RX2, "mostSeen", "([III)I"⟩
abbrev cX2_lowWind : ByteArray := prog_4_method_18_code
def yX2_lowWind : MethodName := ⟨RX2, "lowWind", "(I)I"⟩
abbrev cX2_highWind : ByteArray := prog_4_method_19_code
def yX2_highWind : MethodName := ⟨RX2, "highWind", "(I)I"⟩
abbrev cX2_cell : ByteArray := prog_4_method_20_code
def yX2_cell : MethodName := ⟨RX2, "cell", "(III)I"⟩
abbrev cX2_isDead : ByteArray := prog_4_method_21_code
def yX2_isDead : MethodName := ⟨RX2, "isDead", "(I)Z"⟩
def RX3 : String := "DishRounds$Sky"
def TX3 : u_T := fun k => match k with
  | 0 => ("DishRounds$Sky", "sunFrom", "I", false)
  | 1 => ("DishRounds$Sky", "sunEvery", "I", false)
  | 2 => ("DishRounds$Sky", "sunHeight", "I", false)
  | 3 => ("DishRounds$Sky", "cone", "I", false)
  | 4 => ("DishRounds$Sky", "stormFrom", "I", false)
  | 5 => ("DishRounds$Sky", "stormTill", "I", false)
  | _ => ("DishRounds$Sky", "highest", "I", false)
def tyX3 : Nat → FieldType := fun k => match k with
  | 0 => .int
  | 1 => .int
  | 2 => .int
  | 3 => .int
  | 4 => .int
  | 5 => .int
  | _ => .int
abbrev wsX30 : List Cond := u_ws RX3 TX3 7
theorem nmX3 : ∀ a, a < 7 → ∀ b, b < 7 → a ≠ b → (TX3 a).2.1 ≠ (TX3 b).2.1 := by decide +kernel
theorem tyX3_ok : ∀ k, k < 7 → parseFieldDescriptor (TX3 k).2.2.1 = some (tyX3 k) := by decide +kernel
abbrev cX3_init : ByteArray := prog_5_method_1_code
def yX3_init : MethodName := ⟨RX3, "<init>", "()V"⟩
abbrev cX3_putSun : ByteArray := prog_5_method_2_code
def yX3_putSun : MethodName := ⟨RX3, "putSun", "(IIII)V"⟩
abbrev cX3_isSunSide : ByteArray := prog_5_method_3_code
def yX3_isSunSide : MethodName := ⟨RX3, "isSunSide", "(II)Z"⟩
abbrev cX3_isSunHeight : ByteArray := prog_5_method_4_code
def yX3_isSunHeight : MethodName := ⟨RX3, "isSunHeight", "(I)Z"⟩
abbrev cX3_isBurnt : ByteArray := prog_5_method_5_code
def yX3_isBurnt : MethodName := ⟨RX3, "isBurnt", "(III)Z"⟩
abbrev cX3_hasStorm : ByteArray := prog_5_method_6_code
def yX3_hasStorm : MethodName := ⟨RX3, "hasStorm", "()Z"⟩
abbrev cX3_isStormy : ByteArray := prog_5_method_7_code
def yX3_isStormy : MethodName := ⟨RX3, "isStormy", "(I)Z"⟩
abbrev cX3_copyFrom : ByteArray := prog_5_method_8_code
def yX3_copyFrom : MethodName := ⟨RX3, "copyFrom", "(LDishRounds$Sky;)V"⟩
def RX4 : String := "DishRounds$Way"
def TX4 : u_T := fun k => match k with
  | 0 => ("DishRounds$Way", "winds", "[I", true)
  | 1 => ("DishRounds$Way", "heights", "[I", true)
  | 2 => ("DishRounds$Way", "sights", "[Z", true)
  | 3 => ("DishRounds$Way", "seenBefore", "[I", true)
  | 4 => ("DishRounds$Way", "seenFrom", "[I", true)
  | 5 => ("DishRounds$Way", "name", "I", false)
  | 6 => ("DishRounds$Way", "found", "Z", false)
  | 7 => ("DishRounds$Way", "isShared", "Z", false)
  | 8 => ("DishRounds$Way", "free", "I", false)
  | 9 => ("DishRounds$Way", "last", "I", false)
  | 10 => ("DishRounds$Way", "seen", "I", false)
  | 11 => ("DishRounds$Way", "steps", "I", false)
  | 12 => ("DishRounds$Way", "firstSeen", "I", false)
  | _ => ("DishRounds$Way", "lastSeen", "I", false)
def tyX4 : Nat → FieldType := fun k => match k with
  | 0 => .array .int
  | 1 => .array .int
  | 2 => .array .boolean
  | 3 => .array .int
  | 4 => .array .int
  | 5 => .int
  | 6 => .boolean
  | 7 => .boolean
  | 8 => .int
  | 9 => .int
  | 10 => .int
  | 11 => .int
  | 12 => .int
  | _ => .int
abbrev wsX40 : List Cond := u_ws RX4 TX4 14
theorem nmX4 : ∀ a, a < 14 → ∀ b, b < 14 → a ≠ b → (TX4 a).2.1 ≠ (TX4 b).2.1 := by decide +kernel
theorem tyX4_ok : ∀ k, k < 14 → parseFieldDescriptor (TX4 k).2.2.1 = some (tyX4 k) := by decide +kernel
abbrev cX4_init : ByteArray := prog_6_method_1_code
def yX4_init : MethodName := ⟨RX4, "<init>", "()V"⟩
abbrev cX4_clear : ByteArray := prog_6_method_2_code
def yX4_clear : MethodName := ⟨RX4, "clear", "(I)V"⟩
abbrev cX4_startAt : ByteArray := prog_6_method_3_code
def yX4_startAt : MethodName := ⟨RX4, "startAt", "(III)V"⟩
abbrev cX4_goTo : ByteArray := prog_6_method_4_code
def yX4_goTo : MethodName := ⟨RX4, "goTo", "(II)V"⟩
abbrev cX4_see : ByteArray := prog_6_method_5_code
def yX4_see : MethodName := ⟨RX4, "see", "()V"⟩
abbrev cX4_isBetterThan : ByteArray := prog_6_method_6_code
def yX4_isBetterThan : MethodName := ⟨RX4, "isBetterThan", "(LDishRounds$Way;)Z"⟩
def RX5 : String := "DishRounds$World"
def TX5 : u_T := fun k => match k with
  | 0 => ("DishRounds$World", "flights", "[LDishRounds$Flight;", true)
  | 1 => ("DishRounds$World", "mounts", "[LDishRounds$Mount;", true)
  | 2 => ("DishRounds$World", "sky", "LDishRounds$Sky;", true)
  | 3 => ("DishRounds$World", "looks", "[I", true)
  | _ => ("DishRounds$World", "flightCount", "I", false)
def tyX5 : Nat → FieldType := fun k => match k with
  | 0 => .array (.object "DishRounds$Flight")
  | 1 => .array (.object "DishRounds$Mount")
  | 2 => .object "DishRounds$Sky"
  | 3 => .array .int
  | _ => .int
abbrev wsX50 : List Cond := u_ws RX5 TX5 5
theorem nmX5 : ∀ a, a < 5 → ∀ b, b < 5 → a ≠ b → (TX5 a).2.1 ≠ (TX5 b).2.1 := by decide +kernel
theorem tyX5_ok : ∀ k, k < 5 → parseFieldDescriptor (TX5 k).2.2.1 = some (tyX5 k) := by decide +kernel
abbrev cX5_init : ByteArray := prog_7_method_1_code
def yX5_init : MethodName := ⟨RX5, "<init>", "()V"⟩
abbrev cX5_copyFrom : ByteArray := prog_7_method_2_code
def yX5_copyFrom : MethodName := ⟨RX5, "copyFrom", "(LDishRounds$World;)V"⟩
abbrev cX5_indexOf : ByteArray := prog_7_method_3_code
def yX5_indexOf : MethodName := ⟨RX5, "indexOf", "(I)I"⟩
abbrev cX5_removeFlight : ByteArray := prog_7_method_4_code
def yX5_removeFlight : MethodName := ⟨RX5, "removeFlight", "(I)V"⟩
abbrev cX5_nextOpen : ByteArray := prog_7_method_5_code
def yX5_nextOpen : MethodName := ⟨RX5, "nextOpen", "(I)I"⟩
abbrev cX5_takenFlights : ByteArray := prog_7_method_6_code
def yX5_takenFlights : MethodName := ⟨RX5, "takenFlights", "()I"⟩
abbrev cX5_allPoints : ByteArray := prog_7_method_7_code
def yX5_allPoints : MethodName := ⟨RX5, "allPoints", "()I"⟩
abbrev cX5_allLooks : ByteArray := prog_7_method_8_code
def yX5_allLooks : MethodName := ⟨RX5, "allLooks", "()I"⟩
abbrev cX5_unlikeLooks : ByteArray := prog_7_method_9_code
def yX5_unlikeLooks : MethodName := ⟨RX5, "unlikeLooks", "()I"⟩
def RX6 : String := "DishRounds"
def TX6 : u_T := fun k => match k with
  | 0 => ("DishRounds", "now", "LDishRounds$World;", true)
  | 1 => ("DishRounds", "images", "[LDishRounds$World;", true)
  | 2 => ("DishRounds", "kept", "[Z", true)
  | _ => ("DishRounds", "search", "LDishRounds$Search;", true)
def tyX6 : Nat → FieldType := fun k => match k with
  | 0 => .object "DishRounds$World"
  | 1 => .array (.object "DishRounds$World")
  | 2 => .array .boolean
  | _ => .object "DishRounds$Search"
abbrev wsX60 : List Cond := u_ws RX6 TX6 4
theorem nmX6 : ∀ a, a < 4 → ∀ b, b < 4 → a ≠ b → (TX6 a).2.1 ≠ (TX6 b).2.1 := by decide +kernel
theorem tyX6_ok : ∀ k, k < 4 → parseFieldDescriptor (TX6 k).2.2.1 = some (tyX6 k) := by decide +kernel
abbrev cX6_init : ByteArray := prog_1_method_1_code
def yX6_init : MethodName := ⟨RX6, "<init>", "()V"⟩
abbrev cX6_pass : ByteArray := prog_1_method_2_code
def yX6_pass : MethodName := ⟨RX6, "pass", "(II)I"⟩
abbrev cX6_point : ByteArray := prog_1_method_3_code
def yX6_point : MethodName := ⟨RX6, "point", "(III)I"⟩
abbrev cX6_drop : ByteArray := prog_1_method_4_code
def yX6_drop : MethodName := ⟨RX6, "drop", "(I)I"⟩
abbrev cX6_stand : ByteArray := prog_1_method_5_code
def yX6_stand : MethodName := ⟨RX6, "stand", "(IIII)I"⟩
abbrev cX6_set : ByteArray := prog_1_method_6_code
def yX6_set : MethodName := ⟨RX6, "set", "(III)I"⟩
abbrev cX6_sun : ByteArray := prog_1_method_7_code
def yX6_sun : MethodName := ⟨RX6, "sun", "(IIII)I"⟩
abbrev cX6_storm : ByteArray := prog_1_method_8_code
def yX6_storm : MethodName := ⟨RX6, "storm", "(II)I"⟩
abbrev cX6_key : ByteArray := prog_1_method_9_code
def yX6_key : MethodName := ⟨RX6, "key", "(I)I"⟩
abbrev cX6_burnt : ByteArray := prog_1_method_10_code
def yX6_burnt : MethodName := ⟨RX6, "burnt", "(III)I"⟩
abbrev cX6_told : ByteArray := prog_1_method_11_code
def yX6_told : MethodName := ⟨RX6, "told", "(II)I"⟩
abbrev cX6_order : ByteArray := prog_1_method_12_code
def yX6_order : MethodName := ⟨RX6, "order", "(I)I"⟩
abbrev cX6_dish : ByteArray := prog_1_method_13_code
def yX6_dish : MethodName := ⟨RX6, "dish", "(II)I"⟩
abbrev cX6_way : ByteArray := prog_1_method_14_code
def yX6_way : MethodName := ⟨RX6, "way", "(III)I"⟩
abbrev cX6_where : ByteArray := prog_1_method_15_code
def yX6_where : MethodName := ⟨RX6, "where", "(IIII)I"⟩
abbrev cX6_offer : ByteArray := prog_1_method_16_code
def yX6_offer : MethodName := ⟨RX6, "offer", "(II)I"⟩
abbrev cX6_share : ByteArray := prog_1_method_17_code
def yX6_share : MethodName := ⟨RX6, "share", "(IIII)I"⟩
abbrev cX6_take : ByteArray := prog_1_method_18_code
def yX6_take : MethodName := ⟨RX6, "take", "(II)I"⟩
abbrev cX6_round : ByteArray := prog_1_method_19_code
def yX6_round : MethodName := ⟨RX6, "round", "()I"⟩
abbrev cX6_looked : ByteArray := prog_1_method_20_code
def yX6_looked : MethodName := ⟨RX6, "looked", "(II)I"⟩
abbrev cX6_count : ByteArray := prog_1_method_21_code
def yX6_count : MethodName := ⟨RX6, "count", "(I)I"⟩
abbrev cX6_image : ByteArray := prog_1_method_22_code
def yX6_image : MethodName := ⟨RX6, "image", "(I)I"⟩
abbrev cX6_restore : ByteArray := prog_1_method_23_code
def yX6_restore : MethodName := ⟨RX6, "restore", "(I)I"⟩
abbrev cX6_isIn : ByteArray := prog_1_method_24_code
def yX6_isIn : MethodName := ⟨RX6, "isIn", "(III)Z"⟩
abbrev cX6_isDish : ByteArray := prog_1_method_25_code
def yX6_isDish : MethodName := ⟨RX6, "isDish", "(I)Z"⟩
abbrev cX6_isSide : ByteArray := prog_1_method_26_code
def yX6_isSide : MethodName := ⟨RX6, "isSide", "(I)Z"⟩
abbrev cX6_isHeight : ByteArray := prog_1_method_27_code
def yX6_isHeight : MethodName := ⟨RX6, "isHeight", "(I)Z"⟩
abbrev cX6_isDirection : ByteArray := prog_1_method_28_code
def yX6_isDirection : MethodName := ⟨RX6, "isDirection", "(II)Z"⟩
abbrev cX6_isTick : ByteArray := prog_1_method_29_code
def yX6_isTick : MethodName := ⟨RX6, "isTick", "(I)Z"⟩
abbrev cX6_isSetting : ByteArray := prog_1_method_30_code
def yX6_isSetting : MethodName := ⟨RX6, "isSetting", "(II)Z"⟩
abbrev cX6_sideOf : ByteArray := prog_1_method_31_code
def yX6_sideOf : MethodName := ⟨RX6, "sideOf", "(I)I"⟩
abbrev cX6_bestDish : ByteArray := prog_1_method_32_code
def yX6_bestDish : MethodName := ⟨RX6, "bestDish", "(LDishRounds$Flight;)I"⟩
abbrev cX6_bestHandOver : ByteArray := prog_1_method_33_code
def yX6_bestHandOver : MethodName := ⟨RX6, "bestHandOver", "(LDishRounds$Way;LDishRounds$Way;I)I"⟩
abbrev cX6_goAlong : ByteArray := prog_1_method_34_code
def yX6_goAlong : MethodName := ⟨RX6, "goAlong", "(ILDishRounds$Flight;LDishRounds$Way;)V"⟩
def RX7 : String := "DishRoundsModel"
def TX7 : u_T := fun k => match k with
  | 0 => ("DishRoundsModel", "state", "[I", true)
  | 1 => ("DishRoundsModel", "images", "[I", true)
  | 2 => ("DishRoundsModel", "isKept", "[Z", true)
  | 3 => ("DishRoundsModel", "best", "[I", true)
  | 4 => ("DishRoundsModel", "dish", "I", false)
  | 5 => ("DishRoundsModel", "pass", "I", false)
  | 6 => ("DishRoundsModel", "points", "I", false)
  | 7 => ("DishRoundsModel", "firstSeen", "I", false)
  | 8 => ("DishRoundsModel", "winds", "[I", true)
  | 9 => ("DishRoundsModel", "heights", "[I", true)
  | 10 => ("DishRoundsModel", "isSeen", "[Z", true)
  | _ => ("DishRoundsModel", "offered", "I", false)
def tyX7 : Nat → FieldType := fun k => match k with
  | 0 => .array .int
  | 1 => .array .int
  | 2 => .array .boolean
  | 3 => .array .int
  | 4 => .int
  | 5 => .int
  | 6 => .int
  | 7 => .int
  | 8 => .array .int
  | 9 => .array .int
  | 10 => .array .boolean
  | _ => .int
abbrev wsX70 : List Cond := u_ws RX7 TX7 12
theorem nmX7 : ∀ a, a < 12 → ∀ b, b < 12 → a ≠ b → (TX7 a).2.1 ≠ (TX7 b).2.1 := by decide +kernel
theorem tyX7_ok : ∀ k, k < 12 → parseFieldDescriptor (TX7 k).2.2.1 = some (tyX7 k) := by decide +kernel
abbrev cX7_init : ByteArray := prog_9_method_1_code
def yX7_init : MethodName := ⟨RX7, "<init>", "()V"⟩
abbrev cX7_in : ByteArray := prog_9_method_2_code
def yX7_in : MethodName := ⟨RX7, "in", "(III)Z"⟩
abbrev cX7_size : ByteArray := prog_9_method_3_code
def yX7_size : MethodName := ⟨RX7, "size", "(I)I"⟩
abbrev cX7_isTick : ByteArray := prog_9_method_4_code
def yX7_isTick : MethodName := ⟨RX7, "isTick", "(I)Z"⟩
abbrev cX7_isDish : ByteArray := prog_9_method_5_code
def yX7_isDish : MethodName := ⟨RX7, "isDish", "(I)Z"⟩
abbrev cX7_isDirection : ByteArray := prog_9_method_6_code
def yX7_isDirection : MethodName := ⟨RX7, "isDirection", "(II)Z"⟩
abbrev cX7_passOf : ByteArray := prog_9_method_7_code
def yX7_passOf : MethodName := ⟨RX7, "passOf", "(I)I"⟩
abbrev cX7_sideOf : ByteArray := prog_9_method_8_code
def yX7_sideOf : MethodName := ⟨RX7, "sideOf", "(I)I"⟩
abbrev cX7_pass : ByteArray := prog_9_method_9_code
def yX7_pass : MethodName := ⟨RX7, "pass", "(II)I"⟩
abbrev cX7_point : ByteArray := prog_9_method_10_code
def yX7_point : MethodName := ⟨RX7, "point", "(III)I"⟩
abbrev cX7_drop : ByteArray := prog_9_method_11_code
def yX7_drop : MethodName := ⟨RX7, "drop", "(I)I"⟩
abbrev cX7_stand : ByteArray := prog_9_method_12_code
def yX7_stand : MethodName := ⟨RX7, "stand", "(IIII)I"⟩
abbrev cX7_set : ByteArray := prog_9_method_13_code
def yX7_set : MethodName := ⟨RX7, "set", "(III)I"⟩
abbrev cX7_sun : ByteArray := prog_9_method_14_code
def yX7_sun : MethodName := ⟨RX7, "sun", "(IIII)I"⟩
abbrev cX7_storm : ByteArray := prog_9_method_15_code
def yX7_storm : MethodName := ⟨RX7, "storm", "(II)I"⟩
abbrev cX7_key : ByteArray := prog_9_method_16_code
def yX7_key : MethodName := ⟨RX7, "key", "(I)I"⟩
abbrev cX7_isBurnt : ByteArray := prog_9_method_17_code
def yX7_isBurnt : MethodName := ⟨RX7, "isBurnt", "(III)Z"⟩
abbrev cX7_burnt : ByteArray := prog_9_method_18_code
def yX7_burnt : MethodName := ⟨RX7, "burnt", "(III)I"⟩
abbrev cX7_told : ByteArray := prog_9_method_19_code
def yX7_told : MethodName := ⟨RX7, "told", "(II)I"⟩
abbrev cX7_order : ByteArray := prog_9_method_20_code
def yX7_order : MethodName := ⟨RX7, "order", "(I)I"⟩
abbrev cX7_dish : ByteArray := prog_9_method_21_code
def yX7_dish : MethodName := ⟨RX7, "dish", "(II)I"⟩
abbrev cX7_placeOf : ByteArray := prog_9_method_22_code
def yX7_placeOf : MethodName := ⟨RX7, "placeOf", "(II)I"⟩
abbrev cX7_sees : ByteArray := prog_9_method_23_code
def yX7_sees : MethodName := ⟨RX7, "sees", "(III)Z"⟩
abbrev cX7_mayStand : ByteArray := prog_9_method_24_code
def yX7_mayStand : MethodName := ⟨RX7, "mayStand", "(III)Z"⟩
abbrev cX7_lastTick : ByteArray := prog_9_method_25_code
def yX7_lastTick : MethodName := ⟨RX7, "lastTick", "()I"⟩
abbrev cX7_goTo : ByteArray := prog_9_method_26_code
def yX7_goTo : MethodName := ⟨RX7, "goTo", "(IIIII)I"⟩
abbrev cX7_from : ByteArray := prog_9_method_27_code
def yX7_from : MethodName := ⟨RX7, "from", "(III)I"⟩
abbrev cX7_lay : ByteArray := prog_9_method_28_code
def yX7_lay : MethodName := ⟨RX7, "lay", "(IIII)I"⟩
abbrev cX7_seenOf : ByteArray := prog_9_method_29_code
def yX7_seenOf : MethodName := ⟨RX7, "seenOf", "(I)I"⟩
abbrev cX7_stepsOf : ByteArray := prog_9_method_30_code
def yX7_stepsOf : MethodName := ⟨RX7, "stepsOf", "(I)I"⟩
abbrev cX7_stepFrom : ByteArray := prog_9_method_31_code
def yX7_stepFrom : MethodName := ⟨RX7, "stepFrom", "(II)V"⟩
abbrev cX7_walk : ByteArray := prog_9_method_32_code
def yX7_walk : MethodName := ⟨RX7, "walk", "(I)V"⟩
abbrev cX7_layAll : ByteArray := prog_9_method_33_code
def yX7_layAll : MethodName := ⟨RX7, "layAll", "(II)I"⟩
abbrev cX7_isOpen : ByteArray := prog_9_method_34_code
def yX7_isOpen : MethodName := ⟨RX7, "isOpen", "(I)Z"⟩
abbrev cX7_seenTick : ByteArray := prog_9_method_35_code
def yX7_seenTick : MethodName := ⟨RX7, "seenTick", "(Z)I"⟩
abbrev cX7_way : ByteArray := prog_9_method_36_code
def yX7_way : MethodName := ⟨RX7, "way", "(III)I"⟩
abbrev cX7_where : ByteArray := prog_9_method_37_code
def yX7_where : MethodName := ⟨RX7, "where", "(IIII)I"⟩
abbrev cX7_offerOf : ByteArray := prog_9_method_38_code
def yX7_offerOf : MethodName := ⟨RX7, "offerOf", "(I)I"⟩
abbrev cX7_offer : ByteArray := prog_9_method_39_code
def yX7_offer : MethodName := ⟨RX7, "offer", "(II)I"⟩
abbrev cX7_seenBy : ByteArray := prog_9_method_40_code
def yX7_seenBy : MethodName := ⟨RX7, "seenBy", "(IIII)I"⟩
abbrev cX7_share : ByteArray := prog_9_method_41_code
def yX7_share : MethodName := ⟨RX7, "share", "(IIII)I"⟩
abbrev cX7_takeBy : ByteArray := prog_9_method_42_code
def yX7_takeBy : MethodName := ⟨RX7, "takeBy", "(II)I"⟩
abbrev cX7_take : ByteArray := prog_9_method_43_code
def yX7_take : MethodName := ⟨RX7, "take", "(II)I"⟩
abbrev cX7_nextPass : ByteArray := prog_9_method_44_code
def yX7_nextPass : MethodName := ⟨RX7, "nextPass", "(II)I"⟩
abbrev cX7_round : ByteArray := prog_9_method_45_code
def yX7_round : MethodName := ⟨RX7, "round", "()I"⟩
abbrev cX7_looked : ByteArray := prog_9_method_46_code
def yX7_looked : MethodName := ⟨RX7, "looked", "(II)I"⟩
abbrev cX7_takenOnes : ByteArray := prog_9_method_47_code
def yX7_takenOnes : MethodName := ⟨RX7, "takenOnes", "()I"⟩
abbrev cX7_pointsOfAll : ByteArray := prog_9_method_48_code
def yX7_pointsOfAll : MethodName := ⟨RX7, "pointsOfAll", "()I"⟩
abbrev cX7_looks : ByteArray := prog_9_method_49_code
def yX7_looks : MethodName := ⟨RX7, "looks", "(Z)I"⟩
abbrev cX7_count : ByteArray := prog_9_method_50_code
def yX7_count : MethodName := ⟨RX7, "count", "(I)I"⟩
abbrev cX7_image : ByteArray := prog_9_method_51_code
def yX7_image : MethodName := ⟨RX7, "image", "(I)I"⟩
abbrev cX7_restore : ByteArray := prog_9_method_52_code
def yX7_restore : MethodName := ⟨RX7, "restore", "(I)I"⟩
def RJ9 : String := "java/lang/Math"
def TJ9 : u_T := fun k => match k with
  | _ => ("", "", "", false)
def tyJ9 : Nat → FieldType := fun k => match k with
  | _ => .int
abbrev wsJ90 : List Cond := u_ws RJ9 TJ9 0
theorem nmJ9 : ∀ a, a < 0 → ∀ b, b < 0 → a ≠ b → (TJ9 a).2.1 ≠ (TJ9 b).2.1 := by decide +kernel
theorem tyJ9_ok : ∀ k, k < 0 → parseFieldDescriptor (TJ9 k).2.2.1 = some (tyJ9 k) := by decide +kernel
abbrev cJ9_abs_0f7a4 : ByteArray := prog_10_method_59_code
def yJ9_abs_0f7a4 : MethodName := ⟨RJ9, "abs", "(I)I"⟩
abbrev cJ9_max_7cf53 : ByteArray := prog_10_method_65_code
def yJ9_max_7cf53 : MethodName := ⟨RJ9, "max", "(II)I"⟩
abbrev cJ9_min_7cf53 : ByteArray := prog_10_method_69_code
def yJ9_min_7cf53 : MethodName := ⟨RJ9, "min", "(II)I"⟩
def RJ10 : String := "java/lang/System"
def TJ10 : u_T := fun k => match k with
  | _ => ("", "", "", false)
def tyJ10 : Nat → FieldType := fun k => match k with
  | _ => .int
abbrev wsJ100 : List Cond := u_ws RJ10 TJ10 0
theorem nmJ10 : ∀ a, a < 0 → ∀ b, b < 0 → a ≠ b → (TJ10 a).2.1 ≠ (TJ10 b).2.1 := by decide +kernel
theorem tyJ10_ok : ∀ k, k < 0 → parseFieldDescriptor (TJ10 k).2.2.1 = some (tyJ10 k) := by decide +kernel
def RJ7 : String := "java/util/Arrays"
def TJ7 : u_T := fun k => match k with
  | _ => ("", "", "", false)
def tyJ7 : Nat → FieldType := fun k => match k with
  | _ => .int
abbrev wsJ70 : List Cond := u_ws RJ7 TJ7 0
theorem nmJ7 : ∀ a, a < 0 → ∀ b, b < 0 → a ≠ b → (TJ7 a).2.1 ≠ (TJ7 b).2.1 := by decide +kernel
theorem tyJ7_ok : ∀ k, k < 0 → parseFieldDescriptor (TJ7 k).2.2.1 = some (tyJ7 k) := by decide +kernel
abbrev cJ7_fill_53178 : ByteArray := prog_12_method_103_code
def yJ7_fill_53178 : MethodName := ⟨RJ7, "fill", "([II)V"⟩
def RL : String := "DishRoundsLaw"
abbrev cL_law : ByteArray := code
def yL_law : MethodName := ⟨RL, "law", "([I)Z"⟩
abbrev vwCl : List vw_C := [(RX0, TX0, 7), (RX1, TX1, 5), (RX2, TX2, 11), (RX3, TX3, 7), (RX4, TX4, 14), (RX5, TX5, 5), (RX6, TX6, 4), (RX7, TX7, 12)]
end
section
def LW : List Cond := lw_tbl.filter goodWord
theorem lwm {w : Cond} (i : Nat) (h : lw_tbl[i]? = some w) (g : goodWord w = true) : w ∈ LW := List.mem_filter.mpr ⟨List.mem_of_getElem? h, g⟩
theorem lw_LW {args : Array Value} {s : State} (h : ∀ w ∈ lw_tbl, w.before args s = true) : ∀ w ∈ LW, w.before args s = true := fun w hw => h w (List.mem_filter.mp hw).1
theorem lw_good {y : Cond} {c : Cond} (hc : c ∈ LW) : GoodIn (y :: LW) (c :: LW) := fun w hw => by
  rcases List.mem_cons.mp hw with rfl | h
  · exact ⟨List.mem_cons_of_mem _ hc, good_of_word (List.mem_filter.mp hc).2⟩
  · exact ⟨List.mem_cons_of_mem _ h, good_of_word (List.mem_filter.mp h).2⟩
theorem lw_good0 {c : Cond} (hc : c ∈ LW) : GoodIn LW (c :: LW) := fun w hw => by
  rcases List.mem_cons.mp hw with rfl | h
  · exact ⟨hc, good_of_word (List.mem_filter.mp hc).2⟩
  · exact ⟨h, good_of_word (List.mem_filter.mp h).2⟩
theorem lwt1 {w : Cond} (i : Nat) (h : tables_1_1[i]? = some w) (g : goodWord w = true) : w ∈ LW := List.mem_filter.mpr ⟨List.mem_append_right _ (List.mem_append_left _ (List.mem_of_getElem? h)), g⟩
theorem lwt2 {w : Cond} (i : Nat) (h : tables_1_2[i]? = some w) (g : goodWord w = true) : w ∈ LW := List.mem_filter.mpr ⟨List.mem_append_right _ (List.mem_append_right _ (List.mem_append_left _ (List.mem_of_getElem? h))), g⟩
theorem lwt3 {w : Cond} (i : Nat) (h : tables_1_3[i]? = some w) (g : goodWord w = true) : w ∈ LW := List.mem_filter.mpr ⟨List.mem_append_right _ (List.mem_append_right _ (List.mem_append_right _ (List.mem_append_left _ (List.mem_of_getElem? h)))), g⟩
theorem lwt4 {w : Cond} (i : Nat) (h : tables_1_4[i]? = some w) (g : goodWord w = true) : w ∈ LW := List.mem_filter.mpr ⟨List.mem_append_right _ (List.mem_append_right _ (List.mem_append_right _ (List.mem_append_right _ (List.mem_of_getElem? h)))), g⟩
theorem kw37 : (Jvm.Cond.initialized "DishRoundsLaw") ∈ LW := lwt1 0 rfl rfl
theorem kw38 : (Jvm.Cond.initialized "DishRounds") ∈ LW := lwt1 1 rfl rfl
theorem kw39 : (Jvm.Cond.initialized "DishRounds$World") ∈ LW := lwt1 2 rfl rfl
theorem kw40 : (Jvm.Cond.initialized "DishRounds$Sky") ∈ LW := lwt1 3 rfl rfl
theorem kw41 : (Jvm.Cond.initialized "DishRounds$Flight") ∈ LW := lwt1 4 rfl rfl
theorem kw42 : (Jvm.Cond.initialized "DishRounds$Mount") ∈ LW := lwt1 5 rfl rfl
theorem kw43 : (Jvm.Cond.initialized "DishRounds$Search") ∈ LW := lwt1 6 rfl rfl
theorem kw44 : (Jvm.Cond.initialized "DishRounds$Way") ∈ LW := lwt1 7 rfl rfl
theorem kw45 : (Jvm.Cond.initialized "DishRoundsModel") ∈ LW := lwt1 8 rfl rfl
theorem kw46 : (Jvm.Cond.initialized "java/lang/Math") ∈ LW := lwt1 9 rfl rfl
theorem kw47 : (Jvm.Cond.initialized "java/util/Arrays") ∈ LW := lwt1 10 rfl rfl
theorem kw48 : (Jvm.Cond.initialized "java/lang/System") ∈ LW := lwt1 11 rfl rfl
theorem kw49 : (Jvm.Cond.classLink "DishRoundsLaw" (7 : Nat) "DishRounds") ∈ LW := lwt1 12 rfl rfl
theorem kw50 : (Jvm.Cond.instantiable "DishRounds" (4 : Nat)) ∈ LW := lwt1 13 rfl rfl
theorem kw51 : (Jvm.Cond.methodLink "DishRoundsLaw" (9 : Nat) ({ cls := "DishRounds", name := "<init>", desc := "()V" } : Jvm.MethodName)) ∈ LW := lwt1 14 rfl rfl
theorem kw52 : (Jvm.Cond.instanceMethod ({ cls := "DishRounds", name := "<init>", desc := "()V" } : Jvm.MethodName)) ∈ LW := lwt1 15 rfl rfl
theorem kw53 : (Jvm.Cond.code ({ cls := "DishRounds", name := "<init>", desc := "()V" } : Jvm.MethodName) prog_1_method_1_code (2 : Nat) (Option.none : Option Jvm.ClassFile.FieldType)) ∈ LW := lwt1 16 rfl rfl
theorem kw54 : (Jvm.Cond.methodLink "DishRounds" (3 : Nat) ({ cls := "java/lang/Object", name := "<init>", desc := "()V" } : Jvm.MethodName)) ∈ LW := lwt1 17 rfl rfl
theorem kw55 : (Jvm.Cond.instanceMethod ({ cls := "java/lang/Object", name := "<init>", desc := "()V" } : Jvm.MethodName)) ∈ LW := lwt1 18 rfl rfl
theorem kw56 : (Jvm.Cond.code ({ cls := "java/lang/Object", name := "<init>", desc := "()V" } : Jvm.MethodName) object_method_1_code (1 : Nat) (Option.none : Option Jvm.ClassFile.FieldType)) ∈ LW := lwt1 19 rfl rfl
theorem kw57 : (Jvm.Cond.classLink "DishRounds" (9 : Nat) "DishRounds$World") ∈ LW := lwt1 20 rfl rfl
theorem kw58 : (Jvm.Cond.instantiable "DishRounds$World" (5 : Nat)) ∈ LW := lwt1 21 rfl rfl
theorem kw59 : (Jvm.Cond.methodLink "DishRounds" (11 : Nat) ({ cls := "DishRounds$World", name := "<init>", desc := "()V" } : Jvm.MethodName)) ∈ LW := lwt1 22 rfl rfl
theorem kw60 : (Jvm.Cond.instanceMethod ({ cls := "DishRounds$World", name := "<init>", desc := "()V" } : Jvm.MethodName)) ∈ LW := lwt1 23 rfl rfl
theorem kw61 : (Jvm.Cond.code ({ cls := "DishRounds$World", name := "<init>", desc := "()V" } : Jvm.MethodName) prog_7_method_1_code (2 : Nat) (Option.none : Option Jvm.ClassFile.FieldType)) ∈ LW := lwt1 24 rfl rfl
theorem kw62 : (Jvm.Cond.methodLink "DishRounds$World" (3 : Nat) ({ cls := "java/lang/Object", name := "<init>", desc := "()V" } : Jvm.MethodName)) ∈ LW := lwt1 25 rfl rfl
theorem kw63 : (Jvm.Cond.classLink "DishRounds$World" (9 : Nat) "DishRounds$Flight") ∈ LW := lwt1 26 rfl rfl
theorem kw65 : (Jvm.Cond.classLink "DishRounds$World" (17 : Nat) "DishRounds$Mount") ∈ LW := lwt1 28 rfl rfl
theorem kw67 : (Jvm.Cond.classLink "DishRounds$World" (23 : Nat) "DishRounds$Sky") ∈ LW := lwt1 30 rfl rfl
theorem kw68 : (Jvm.Cond.instantiable "DishRounds$Sky" (7 : Nat)) ∈ LW := lwt1 31 rfl rfl
theorem kw70 : (Jvm.Cond.instanceMethod ({ cls := "DishRounds$Sky", name := "<init>", desc := "()V" } : Jvm.MethodName)) ∈ LW := lwt1 33 rfl rfl
theorem kw71 : (Jvm.Cond.code ({ cls := "DishRounds$Sky", name := "<init>", desc := "()V" } : Jvm.MethodName) prog_5_method_1_code (1 : Nat) (Option.none : Option Jvm.ClassFile.FieldType)) ∈ LW := lwt1 34 rfl rfl
theorem kw72 : (Jvm.Cond.methodLink "DishRounds$Sky" (3 : Nat) ({ cls := "java/lang/Object", name := "<init>", desc := "()V" } : Jvm.MethodName)) ∈ LW := lwt1 35 rfl rfl
theorem kw73 : (Jvm.Cond.fieldLink "DishRounds$Sky" (9 : Nat) "DishRounds$Sky" "sunFrom" "I") ∈ LW := lwt1 36 rfl rfl
theorem kw74 : (Jvm.Cond.fieldLink "DishRounds" (233 : Nat) "DishRounds$Sky" "sunFrom" "I") ∈ LW := lwt1 37 rfl rfl
theorem kw75 : (Jvm.Cond.fieldLink "DishRounds$Sky" (15 : Nat) "DishRounds$Sky" "sunEvery" "I") ∈ LW := lwt1 38 rfl rfl
theorem kw76 : (Jvm.Cond.fieldLink "DishRounds$Sky" (18 : Nat) "DishRounds$Sky" "sunHeight" "I") ∈ LW := lwt1 39 rfl rfl
theorem kw77 : (Jvm.Cond.fieldLink "DishRounds" (236 : Nat) "DishRounds$Sky" "sunHeight" "I") ∈ LW := lwt1 40 rfl rfl
theorem kw78 : (Jvm.Cond.fieldLink "DishRounds$Sky" (21 : Nat) "DishRounds$Sky" "cone" "I") ∈ LW := lwt1 41 rfl rfl
theorem kw79 : (Jvm.Cond.fieldLink "DishRounds" (239 : Nat) "DishRounds$Sky" "cone" "I") ∈ LW := lwt1 42 rfl rfl
theorem kw80 : (Jvm.Cond.fieldLink "DishRounds$Sky" (24 : Nat) "DishRounds$Sky" "stormFrom" "I") ∈ LW := lwt1 43 rfl rfl
theorem kw81 : (Jvm.Cond.fieldLink "DishRounds" (121 : Nat) "DishRounds$Sky" "stormFrom" "I") ∈ LW := lwt1 44 rfl rfl
theorem kw82 : (Jvm.Cond.fieldLink "DishRounds$Sky" (27 : Nat) "DishRounds$Sky" "stormTill" "I") ∈ LW := lwt1 45 rfl rfl
theorem kw83 : (Jvm.Cond.fieldLink "DishRounds" (124 : Nat) "DishRounds$Sky" "stormTill" "I") ∈ LW := lwt1 46 rfl rfl
theorem kw84 : (Jvm.Cond.fieldLink "DishRounds$Sky" (30 : Nat) "DishRounds$Sky" "highest" "I") ∈ LW := lwt1 47 rfl rfl
theorem kw85 : (Jvm.Cond.fieldLink "DishRounds" (127 : Nat) "DishRounds$Sky" "highest" "I") ∈ LW := lwt1 48 rfl rfl
theorem kw86 : (Jvm.Cond.fieldLink "DishRounds$Search" (228 : Nat) "DishRounds$Sky" "highest" "I") ∈ LW := lwt1 49 rfl rfl
theorem kw102 : (Jvm.Cond.instantiable "DishRounds$Flight" (7 : Nat)) ∈ LW := lwt1 65 rfl rfl
theorem kw104 : (Jvm.Cond.instanceMethod ({ cls := "DishRounds$Flight", name := "<init>", desc := "()V" } : Jvm.MethodName)) ∈ LW := lwt1 67 rfl rfl
theorem kw105 : (Jvm.Cond.code ({ cls := "DishRounds$Flight", name := "<init>", desc := "()V" } : Jvm.MethodName) prog_2_method_1_code (1 : Nat) (Option.none : Option Jvm.ClassFile.FieldType)) ∈ LW := lwt1 68 rfl rfl
theorem kw106 : (Jvm.Cond.methodLink "DishRounds$Flight" (3 : Nat) ({ cls := "java/lang/Object", name := "<init>", desc := "()V" } : Jvm.MethodName)) ∈ LW := lwt1 69 rfl rfl
theorem kw107 : (Jvm.Cond.fieldLink "DishRounds$Flight" (9 : Nat) "DishRounds$Flight" "sides" "[I") ∈ LW := lwt1 70 rfl rfl
theorem kw108 : (Jvm.Cond.fieldLink "DishRounds$Search" (231 : Nat) "DishRounds$Flight" "sides" "[I") ∈ LW := lwt1 71 rfl rfl
theorem kw109 : (Jvm.Cond.fieldLink "DishRounds" (252 : Nat) "DishRounds$Flight" "sides" "[I") ∈ LW := lwt1 72 rfl rfl
theorem kw110 : (Jvm.Cond.fieldLink "DishRounds$Flight" (15 : Nat) "DishRounds$Flight" "heights" "[I") ∈ LW := lwt1 73 rfl rfl
theorem kw111 : (Jvm.Cond.fieldLink "DishRounds$Search" (225 : Nat) "DishRounds$Flight" "heights" "[I") ∈ LW := lwt1 74 rfl rfl
theorem kw112 : (Jvm.Cond.fieldLink "DishRounds" (255 : Nat) "DishRounds$Flight" "heights" "[I") ∈ LW := lwt1 75 rfl rfl
theorem kw113 : (Jvm.Cond.fieldLink "DishRounds$Flight" (18 : Nat) "DishRounds$Flight" "name" "I") ∈ LW := lwt1 76 rfl rfl
theorem kw114 : (Jvm.Cond.fieldLink "DishRounds$Search" (67 : Nat) "DishRounds$Flight" "name" "I") ∈ LW := lwt1 77 rfl rfl
theorem kw115 : (Jvm.Cond.fieldLink "DishRounds$World" (56 : Nat) "DishRounds$Flight" "name" "I") ∈ LW := lwt1 78 rfl rfl
theorem kw116 : (Jvm.Cond.fieldLink "DishRounds" (142 : Nat) "DishRounds$Flight" "name" "I") ∈ LW := lwt1 79 rfl rfl
theorem kw117 : (Jvm.Cond.fieldLink "DishRounds$Flight" (22 : Nat) "DishRounds$Flight" "begin" "I") ∈ LW := lwt1 80 rfl rfl
theorem kw118 : (Jvm.Cond.fieldLink "DishRounds$World" (63 : Nat) "DishRounds$Flight" "begin" "I") ∈ LW := lwt1 81 rfl rfl
theorem kw119 : (Jvm.Cond.fieldLink "DishRounds$Search" (192 : Nat) "DishRounds$Flight" "begin" "I") ∈ LW := lwt1 82 rfl rfl
theorem kw120 : (Jvm.Cond.fieldLink "DishRounds" (133 : Nat) "DishRounds$Flight" "begin" "I") ∈ LW := lwt1 83 rfl rfl
theorem kw121 : (Jvm.Cond.fieldLink "DishRounds$Flight" (25 : Nat) "DishRounds$Flight" "size" "I") ∈ LW := lwt1 84 rfl rfl
theorem kw122 : (Jvm.Cond.fieldLink "DishRounds" (66 : Nat) "DishRounds$Flight" "size" "I") ∈ LW := lwt1 85 rfl rfl
theorem kw123 : (Jvm.Cond.fieldLink "DishRounds$World" (69 : Nat) "DishRounds$Flight" "size" "I") ∈ LW := lwt1 86 rfl rfl
theorem kw124 : (Jvm.Cond.fieldLink "DishRounds$Search" (189 : Nat) "DishRounds$Flight" "size" "I") ∈ LW := lwt1 87 rfl rfl
theorem kw125 : (Jvm.Cond.fieldLink "DishRounds$Flight" (28 : Nat) "DishRounds$Flight" "taker" "I") ∈ LW := lwt1 88 rfl rfl
theorem kw126 : (Jvm.Cond.fieldLink "DishRounds" (136 : Nat) "DishRounds$Flight" "taker" "I") ∈ LW := lwt1 89 rfl rfl
theorem kw127 : (Jvm.Cond.fieldLink "DishRounds$Flight" (31 : Nat) "DishRounds$Flight" "seenThen" "I") ∈ LW := lwt1 90 rfl rfl
theorem kw128 : (Jvm.Cond.fieldLink "DishRounds" (139 : Nat) "DishRounds$Flight" "seenThen" "I") ∈ LW := lwt1 91 rfl rfl
theorem kw144 : (Jvm.Cond.arrayClass Jvm.ClassFile.FieldType.int) ∈ LW := lwt1 107 rfl rfl
theorem kw145 : (Jvm.Cond.instantiable "DishRounds$Mount" (5 : Nat)) ∈ LW := lwt1 108 rfl rfl
theorem kw147 : (Jvm.Cond.instanceMethod ({ cls := "DishRounds$Mount", name := "<init>", desc := "()V" } : Jvm.MethodName)) ∈ LW := lwt1 110 rfl rfl
theorem kw148 : (Jvm.Cond.code ({ cls := "DishRounds$Mount", name := "<init>", desc := "()V" } : Jvm.MethodName) prog_3_method_1_code (1 : Nat) (Option.none : Option Jvm.ClassFile.FieldType)) ∈ LW := lwt1 111 rfl rfl
theorem kw149 : (Jvm.Cond.methodLink "DishRounds$Mount" (3 : Nat) ({ cls := "java/lang/Object", name := "<init>", desc := "()V" } : Jvm.MethodName)) ∈ LW := lwt1 112 rfl rfl
theorem kw150 : (Jvm.Cond.fieldLink "DishRounds$Mount" (9 : Nat) "DishRounds$Mount" "wind" "I") ∈ LW := lwt1 113 rfl rfl
theorem kw151 : (Jvm.Cond.fieldLink "DishRounds$Search" (126 : Nat) "DishRounds$Mount" "wind" "I") ∈ LW := lwt1 114 rfl rfl
theorem kw152 : (Jvm.Cond.fieldLink "DishRounds" (102 : Nat) "DishRounds$Mount" "wind" "I") ∈ LW := lwt1 115 rfl rfl
theorem kw153 : (Jvm.Cond.fieldLink "DishRounds$Mount" (15 : Nat) "DishRounds$Mount" "height" "I") ∈ LW := lwt1 116 rfl rfl
theorem kw154 : (Jvm.Cond.fieldLink "DishRounds$Search" (132 : Nat) "DishRounds$Mount" "height" "I") ∈ LW := lwt1 117 rfl rfl
theorem kw155 : (Jvm.Cond.fieldLink "DishRounds" (145 : Nat) "DishRounds$Mount" "height" "I") ∈ LW := lwt1 118 rfl rfl
theorem kw156 : (Jvm.Cond.fieldLink "DishRounds$Mount" (18 : Nat) "DishRounds$Mount" "free" "I") ∈ LW := lwt1 119 rfl rfl
theorem kw157 : (Jvm.Cond.fieldLink "DishRounds$Search" (74 : Nat) "DishRounds$Mount" "free" "I") ∈ LW := lwt1 120 rfl rfl
theorem kw158 : (Jvm.Cond.fieldLink "DishRounds" (148 : Nat) "DishRounds$Mount" "free" "I") ∈ LW := lwt1 121 rfl rfl
theorem kw159 : (Jvm.Cond.fieldLink "DishRounds$Mount" (21 : Nat) "DishRounds$Mount" "limit" "I") ∈ LW := lwt1 122 rfl rfl
theorem kw160 : (Jvm.Cond.fieldLink "DishRounds" (84 : Nat) "DishRounds$Mount" "limit" "I") ∈ LW := lwt1 123 rfl rfl
theorem kw161 : (Jvm.Cond.fieldLink "DishRounds$Search" (129 : Nat) "DishRounds$Mount" "limit" "I") ∈ LW := lwt1 124 rfl rfl
theorem kw162 : (Jvm.Cond.fieldLink "DishRounds$Mount" (24 : Nat) "DishRounds$Mount" "speed" "I") ∈ LW := lwt1 125 rfl rfl
theorem kw163 : (Jvm.Cond.fieldLink "DishRounds" (105 : Nat) "DishRounds$Mount" "speed" "I") ∈ LW := lwt1 126 rfl rfl
theorem kw164 : (Jvm.Cond.fieldLink "DishRounds$Search" (164 : Nat) "DishRounds$Mount" "speed" "I") ∈ LW := lwt1 127 rfl rfl
theorem kw176 : (Jvm.Cond.fieldLink "DishRounds$World" (11 : Nat) "DishRounds$World" "flights" "[LDishRounds$Flight;") ∈ LW := lwt1 139 rfl rfl
theorem kw177 : (Jvm.Cond.fieldLink "DishRounds$Search" (55 : Nat) "DishRounds$World" "flights" "[LDishRounds$Flight;") ∈ LW := lwt1 140 rfl rfl
theorem kw178 : (Jvm.Cond.fieldLink "DishRounds" (45 : Nat) "DishRounds$World" "flights" "[LDishRounds$Flight;") ∈ LW := lwt1 141 rfl rfl
theorem kw179 : (Jvm.Cond.fieldLink "DishRounds$World" (19 : Nat) "DishRounds$World" "mounts" "[LDishRounds$Mount;") ∈ LW := lwt1 142 rfl rfl
theorem kw180 : (Jvm.Cond.fieldLink "DishRounds$Search" (45 : Nat) "DishRounds$World" "mounts" "[LDishRounds$Mount;") ∈ LW := lwt1 143 rfl rfl
theorem kw181 : (Jvm.Cond.fieldLink "DishRounds" (80 : Nat) "DishRounds$World" "mounts" "[LDishRounds$Mount;") ∈ LW := lwt1 144 rfl rfl
theorem kw182 : (Jvm.Cond.fieldLink "DishRounds$World" (26 : Nat) "DishRounds$World" "sky" "LDishRounds$Sky;") ∈ LW := lwt1 145 rfl rfl
theorem kw183 : (Jvm.Cond.fieldLink "DishRounds" (111 : Nat) "DishRounds$World" "sky" "LDishRounds$Sky;") ∈ LW := lwt1 146 rfl rfl
theorem kw184 : (Jvm.Cond.fieldLink "DishRounds$Search" (206 : Nat) "DishRounds$World" "sky" "LDishRounds$Sky;") ∈ LW := lwt1 147 rfl rfl
theorem kw185 : (Jvm.Cond.fieldLink "DishRounds$World" (30 : Nat) "DishRounds$World" "looks" "[I") ∈ LW := lwt1 148 rfl rfl
theorem kw186 : (Jvm.Cond.fieldLink "DishRounds" (217 : Nat) "DishRounds$World" "looks" "[I") ∈ LW := lwt1 149 rfl rfl
theorem kw187 : (Jvm.Cond.fieldLink "DishRounds$World" (34 : Nat) "DishRounds$World" "flightCount" "I") ∈ LW := lwt1 150 rfl rfl
theorem kw188 : (Jvm.Cond.fieldLink "DishRounds" (41 : Nat) "DishRounds$World" "flightCount" "I") ∈ LW := lwt1 151 rfl rfl
theorem kw201 : (Jvm.Cond.classLink "DishRounds" (24 : Nat) "DishRounds$Search") ∈ LW := lwt1 164 rfl rfl
theorem kw202 : (Jvm.Cond.instantiable "DishRounds$Search" (11 : Nat)) ∈ LW := lwt1 165 rfl rfl
theorem kw203 : (Jvm.Cond.methodLink "DishRounds" (26 : Nat) ({ cls := "DishRounds$Search", name := "<init>", desc := "(LDishRounds$World;)V" } : Jvm.MethodName)) ∈ LW := lwt1 166 rfl rfl
theorem kw204 : (Jvm.Cond.instanceMethod ({ cls := "DishRounds$Search", name := "<init>", desc := "(LDishRounds$World;)V" } : Jvm.MethodName)) ∈ LW := lwt1 167 rfl rfl
theorem kw205 : (Jvm.Cond.code ({ cls := "DishRounds$Search", name := "<init>", desc := "(LDishRounds$World;)V" } : Jvm.MethodName) prog_4_method_1_code (3 : Nat) (Option.none : Option Jvm.ClassFile.FieldType)) ∈ LW := lwt1 168 rfl rfl
theorem kw206 : (Jvm.Cond.methodLink "DishRounds$Search" (3 : Nat) ({ cls := "java/lang/Object", name := "<init>", desc := "()V" } : Jvm.MethodName)) ∈ LW := lwt1 169 rfl rfl
theorem kw207 : (Jvm.Cond.classLink "DishRounds$Search" (9 : Nat) "DishRounds$Way") ∈ LW := lwt1 170 rfl rfl
theorem kw209 : (Jvm.Cond.constant "DishRounds$Search" (17 : Nat) (38836 : Int32)) ∈ LW := lwt1 172 rfl rfl
theorem kw210 : (Jvm.Cond.instantiable "DishRounds$Way" (14 : Nat)) ∈ LW := lwt1 173 rfl rfl
theorem kw212 : (Jvm.Cond.instanceMethod ({ cls := "DishRounds$Way", name := "<init>", desc := "()V" } : Jvm.MethodName)) ∈ LW := lwt1 175 rfl rfl
theorem kw213 : (Jvm.Cond.code ({ cls := "DishRounds$Way", name := "<init>", desc := "()V" } : Jvm.MethodName) prog_6_method_1_code (1 : Nat) (Option.none : Option Jvm.ClassFile.FieldType)) ∈ LW := lwt1 176 rfl rfl
theorem kw214 : (Jvm.Cond.methodLink "DishRounds$Way" (3 : Nat) ({ cls := "java/lang/Object", name := "<init>", desc := "()V" } : Jvm.MethodName)) ∈ LW := lwt1 177 rfl rfl
theorem kw215 : (Jvm.Cond.fieldLink "DishRounds$Way" (9 : Nat) "DishRounds$Way" "winds" "[I") ∈ LW := lwt1 178 rfl rfl
theorem kw216 : (Jvm.Cond.fieldLink "DishRounds" (179 : Nat) "DishRounds$Way" "winds" "[I") ∈ LW := lwt1 179 rfl rfl
theorem kw217 : (Jvm.Cond.fieldLink "DishRounds$Way" (15 : Nat) "DishRounds$Way" "heights" "[I") ∈ LW := lwt1 180 rfl rfl
theorem kw218 : (Jvm.Cond.fieldLink "DishRounds" (186 : Nat) "DishRounds$Way" "heights" "[I") ∈ LW := lwt1 181 rfl rfl
theorem kw219 : (Jvm.Cond.fieldLink "DishRounds$Way" (18 : Nat) "DishRounds$Way" "sights" "[Z") ∈ LW := lwt1 182 rfl rfl
theorem kw220 : (Jvm.Cond.fieldLink "DishRounds" (190 : Nat) "DishRounds$Way" "sights" "[Z") ∈ LW := lwt1 183 rfl rfl
theorem kw221 : (Jvm.Cond.fieldLink "DishRounds$Way" (22 : Nat) "DishRounds$Way" "seenBefore" "[I") ∈ LW := lwt1 184 rfl rfl
theorem kw222 : (Jvm.Cond.fieldLink "DishRounds$Search" (179 : Nat) "DishRounds$Way" "seenBefore" "[I") ∈ LW := lwt1 185 rfl rfl
theorem kw223 : (Jvm.Cond.fieldLink "DishRounds" (204 : Nat) "DishRounds$Way" "seenBefore" "[I") ∈ LW := lwt1 186 rfl rfl
theorem kw224 : (Jvm.Cond.fieldLink "DishRounds$Way" (25 : Nat) "DishRounds$Way" "seenFrom" "[I") ∈ LW := lwt1 187 rfl rfl
theorem kw225 : (Jvm.Cond.fieldLink "DishRounds$Search" (186 : Nat) "DishRounds$Way" "seenFrom" "[I") ∈ LW := lwt1 188 rfl rfl
theorem kw226 : (Jvm.Cond.fieldLink "DishRounds" (207 : Nat) "DishRounds$Way" "seenFrom" "[I") ∈ LW := lwt1 189 rfl rfl
theorem kw227 : (Jvm.Cond.fieldLink "DishRounds$Way" (28 : Nat) "DishRounds$Way" "name" "I") ∈ LW := lwt1 190 rfl rfl
theorem kw228 : (Jvm.Cond.fieldLink "DishRounds$Search" (64 : Nat) "DishRounds$Way" "name" "I") ∈ LW := lwt1 191 rfl rfl
theorem kw229 : (Jvm.Cond.fieldLink "DishRounds$Way" (32 : Nat) "DishRounds$Way" "found" "Z") ∈ LW := lwt1 192 rfl rfl
theorem kw230 : (Jvm.Cond.fieldLink "DishRounds" (161 : Nat) "DishRounds$Way" "found" "Z") ∈ LW := lwt1 193 rfl rfl
theorem kw231 : (Jvm.Cond.fieldLink "DishRounds$Way" (36 : Nat) "DishRounds$Way" "isShared" "Z") ∈ LW := lwt1 194 rfl rfl
theorem kw232 : (Jvm.Cond.fieldLink "DishRounds$Search" (96 : Nat) "DishRounds$Way" "isShared" "Z") ∈ LW := lwt1 195 rfl rfl
theorem kw233 : (Jvm.Cond.fieldLink "DishRounds$Way" (39 : Nat) "DishRounds$Way" "free" "I") ∈ LW := lwt1 196 rfl rfl
theorem kw234 : (Jvm.Cond.fieldLink "DishRounds" (189 : Nat) "DishRounds$Way" "free" "I") ∈ LW := lwt1 197 rfl rfl
theorem kw235 : (Jvm.Cond.fieldLink "DishRounds$Way" (42 : Nat) "DishRounds$Way" "last" "I") ∈ LW := lwt1 198 rfl rfl
theorem kw236 : (Jvm.Cond.fieldLink "DishRounds" (183 : Nat) "DishRounds$Way" "last" "I") ∈ LW := lwt1 199 rfl rfl
theorem kw237 : (Jvm.Cond.fieldLink "DishRounds$Way" (45 : Nat) "DishRounds$Way" "seen" "I") ∈ LW := lwt1 200 rfl rfl
theorem kw238 : (Jvm.Cond.fieldLink "DishRounds$Search" (195 : Nat) "DishRounds$Way" "seen" "I") ∈ LW := lwt1 201 rfl rfl
theorem kw239 : (Jvm.Cond.fieldLink "DishRounds" (167 : Nat) "DishRounds$Way" "seen" "I") ∈ LW := lwt1 202 rfl rfl
theorem kw240 : (Jvm.Cond.fieldLink "DishRounds$Way" (48 : Nat) "DishRounds$Way" "steps" "I") ∈ LW := lwt1 203 rfl rfl
theorem kw241 : (Jvm.Cond.fieldLink "DishRounds" (170 : Nat) "DishRounds$Way" "steps" "I") ∈ LW := lwt1 204 rfl rfl
theorem kw242 : (Jvm.Cond.fieldLink "DishRounds$Way" (51 : Nat) "DishRounds$Way" "firstSeen" "I") ∈ LW := lwt1 205 rfl rfl
theorem kw243 : (Jvm.Cond.fieldLink "DishRounds" (173 : Nat) "DishRounds$Way" "firstSeen" "I") ∈ LW := lwt1 206 rfl rfl
theorem kw244 : (Jvm.Cond.fieldLink "DishRounds$Way" (54 : Nat) "DishRounds$Way" "lastSeen" "I") ∈ LW := lwt1 207 rfl rfl
theorem kw245 : (Jvm.Cond.fieldLink "DishRounds" (176 : Nat) "DishRounds$Way" "lastSeen" "I") ∈ LW := lwt1 208 rfl rfl
theorem kw275 : (Jvm.Cond.arrayClass Jvm.ClassFile.FieldType.boolean) ∈ LW := lwt1 238 rfl rfl
theorem kw276 : (Jvm.Cond.fieldLink "DishRounds$Search" (41 : Nat) "DishRounds$Search" "world" "LDishRounds$World;") ∈ LW := lwt1 239 rfl rfl
theorem kw277 : (Jvm.Cond.fieldLink "DishRounds$Search" (11 : Nat) "DishRounds$Search" "ways" "[LDishRounds$Way;") ∈ LW := lwt2 0 rfl rfl
theorem kw278 : (Jvm.Cond.fieldLink "DishRounds$Search" (18 : Nat) "DishRounds$Search" "rest" "[I") ∈ LW := lwt2 1 rfl rfl
theorem kw279 : (Jvm.Cond.fieldLink "DishRounds$Search" (22 : Nat) "DishRounds$Search" "front" "[I") ∈ LW := lwt2 2 rfl rfl
theorem kw280 : (Jvm.Cond.fieldLink "DishRounds$Search" (25 : Nat) "DishRounds$Search" "reached" "[I") ∈ LW := lwt2 3 rfl rfl
theorem kw281 : (Jvm.Cond.fieldLink "DishRounds$Search" (28 : Nat) "DishRounds$Search" "spare" "[I") ∈ LW := lwt2 4 rfl rfl
theorem kw282 : (Jvm.Cond.fieldLink "DishRounds$Search" (51 : Nat) "DishRounds$Search" "mount" "LDishRounds$Mount;") ∈ LW := lwt2 5 rfl rfl
theorem kw283 : (Jvm.Cond.fieldLink "DishRounds$Search" (59 : Nat) "DishRounds$Search" "flight" "LDishRounds$Flight;") ∈ LW := lwt2 6 rfl rfl
theorem kw284 : (Jvm.Cond.fieldLink "DishRounds$Search" (31 : Nat) "DishRounds$Search" "rows" "I") ∈ LW := lwt2 7 rfl rfl
theorem kw285 : (Jvm.Cond.fieldLink "DishRounds$Search" (35 : Nat) "DishRounds$Search" "goalSide" "I") ∈ LW := lwt2 8 rfl rfl
theorem kw286 : (Jvm.Cond.fieldLink "DishRounds$Search" (38 : Nat) "DishRounds$Search" "goalHeight" "I") ∈ LW := lwt2 9 rfl rfl
theorem kw310 : (Jvm.Cond.fieldLink "DishRounds" (12 : Nat) "DishRounds" "now" "LDishRounds$World;") ∈ LW := lwt2 33 rfl rfl
theorem kw311 : (Jvm.Cond.fieldLink "DishRounds" (16 : Nat) "DishRounds" "images" "[LDishRounds$World;") ∈ LW := lwt2 34 rfl rfl
theorem kw312 : (Jvm.Cond.fieldLink "DishRounds" (20 : Nat) "DishRounds" "kept" "[Z") ∈ LW := lwt2 35 rfl rfl
theorem kw313 : (Jvm.Cond.fieldLink "DishRounds" (29 : Nat) "DishRounds" "search" "LDishRounds$Search;") ∈ LW := lwt2 36 rfl rfl
theorem kw323 : (Jvm.Cond.methodLink "DishRoundsLaw" (13 : Nat) ({ cls := "DishRounds", name := "pass", desc := "(II)I" } : Jvm.MethodName)) ∈ LW := lwt2 46 rfl rfl
theorem kw324 : (Jvm.Cond.instanceMethod ({ cls := "DishRounds", name := "pass", desc := "(II)I" } : Jvm.MethodName)) ∈ LW := lwt2 47 rfl rfl
theorem kw325 : (Jvm.Cond.selects "DishRounds" ({ cls := "DishRounds", name := "pass", desc := "(II)I" } : Jvm.MethodName) ({ cls := "DishRounds", name := "pass", desc := "(II)I" } : Jvm.MethodName)) ∈ LW := lwt2 48 rfl rfl
theorem kw326 : (Jvm.Cond.code ({ cls := "DishRounds", name := "pass", desc := "(II)I" } : Jvm.MethodName) prog_1_method_2_code (3 : Nat) (Option.some Jvm.ClassFile.FieldType.int)) ∈ LW := lwt2 49 rfl rfl
theorem kw327 : (Jvm.Cond.methodLink "DishRounds" (33 : Nat) ({ cls := "DishRounds", name := "isIn", desc := "(III)Z" } : Jvm.MethodName)) ∈ LW := lwt2 50 rfl rfl
theorem kw328 : (Jvm.Cond.static ({ cls := "DishRounds", name := "isIn", desc := "(III)Z" } : Jvm.MethodName)) ∈ LW := lwt2 51 rfl rfl
theorem kw329 : (Jvm.Cond.code ({ cls := "DishRounds", name := "isIn", desc := "(III)Z" } : Jvm.MethodName) prog_1_method_24_code (3 : Nat) (Option.some Jvm.ClassFile.FieldType.boolean)) ∈ LW := lwt2 52 rfl rfl
theorem kw330 : (Jvm.Cond.methodLink "DishRounds" (37 : Nat) ({ cls := "DishRounds$World", name := "indexOf", desc := "(I)I" } : Jvm.MethodName)) ∈ LW := lwt2 53 rfl rfl
theorem kw331 : (Jvm.Cond.instanceMethod ({ cls := "DishRounds$World", name := "indexOf", desc := "(I)I" } : Jvm.MethodName)) ∈ LW := lwt2 54 rfl rfl
theorem kw332 : (Jvm.Cond.selects "DishRounds$World" ({ cls := "DishRounds$World", name := "indexOf", desc := "(I)I" } : Jvm.MethodName) ({ cls := "DishRounds$World", name := "indexOf", desc := "(I)I" } : Jvm.MethodName)) ∈ LW := lwt2 55 rfl rfl
theorem kw333 : (Jvm.Cond.code ({ cls := "DishRounds$World", name := "indexOf", desc := "(I)I" } : Jvm.MethodName) prog_7_method_3_code (3 : Nat) (Option.some Jvm.ClassFile.FieldType.int)) ∈ LW := lwt2 56 rfl rfl
theorem kw334 : (Jvm.Cond.methodLink "DishRounds" (49 : Nat) ({ cls := "DishRounds$Flight", name := "start", desc := "(II)V" } : Jvm.MethodName)) ∈ LW := lwt2 57 rfl rfl
theorem kw335 : (Jvm.Cond.instanceMethod ({ cls := "DishRounds$Flight", name := "start", desc := "(II)V" } : Jvm.MethodName)) ∈ LW := lwt2 58 rfl rfl
theorem kw336 : (Jvm.Cond.selects "DishRounds$Flight" ({ cls := "DishRounds$Flight", name := "start", desc := "(II)V" } : Jvm.MethodName) ({ cls := "DishRounds$Flight", name := "start", desc := "(II)V" } : Jvm.MethodName)) ∈ LW := lwt2 59 rfl rfl
theorem kw337 : (Jvm.Cond.code ({ cls := "DishRounds$Flight", name := "start", desc := "(II)V" } : Jvm.MethodName) prog_2_method_2_code (3 : Nat) (Option.none : Option Jvm.ClassFile.FieldType)) ∈ LW := lwt2 60 rfl rfl
theorem kw338 : (Jvm.Cond.methodLink "DishRounds" (55 : Nat) ({ cls := "DishRounds$Search", name := "forgetWays", desc := "()V" } : Jvm.MethodName)) ∈ LW := lwt2 61 rfl rfl
theorem kw339 : (Jvm.Cond.instanceMethod ({ cls := "DishRounds$Search", name := "forgetWays", desc := "()V" } : Jvm.MethodName)) ∈ LW := lwt2 62 rfl rfl
theorem kw340 : (Jvm.Cond.selects "DishRounds$Search" ({ cls := "DishRounds$Search", name := "forgetWays", desc := "()V" } : Jvm.MethodName) ({ cls := "DishRounds$Search", name := "forgetWays", desc := "()V" } : Jvm.MethodName)) ∈ LW := lwt2 63 rfl rfl
theorem kw341 : (Jvm.Cond.code ({ cls := "DishRounds$Search", name := "forgetWays", desc := "()V" } : Jvm.MethodName) prog_4_method_2_code (2 : Nat) (Option.none : Option Jvm.ClassFile.FieldType)) ∈ LW := lwt2 64 rfl rfl
theorem kw342 : (Jvm.Cond.methodLink "DishRoundsLaw" (18 : Nat) ({ cls := "DishRounds", name := "point", desc := "(III)I" } : Jvm.MethodName)) ∈ LW := lwt2 65 rfl rfl
theorem kw343 : (Jvm.Cond.instanceMethod ({ cls := "DishRounds", name := "point", desc := "(III)I" } : Jvm.MethodName)) ∈ LW := lwt2 66 rfl rfl
theorem kw344 : (Jvm.Cond.selects "DishRounds" ({ cls := "DishRounds", name := "point", desc := "(III)I" } : Jvm.MethodName) ({ cls := "DishRounds", name := "point", desc := "(III)I" } : Jvm.MethodName)) ∈ LW := lwt2 67 rfl rfl
theorem kw345 : (Jvm.Cond.code ({ cls := "DishRounds", name := "point", desc := "(III)I" } : Jvm.MethodName) prog_1_method_3_code (6 : Nat) (Option.some Jvm.ClassFile.FieldType.int)) ∈ LW := lwt2 68 rfl rfl
theorem kw346 : (Jvm.Cond.methodLink "DishRounds" (58 : Nat) ({ cls := "DishRounds", name := "isDirection", desc := "(II)Z" } : Jvm.MethodName)) ∈ LW := lwt2 69 rfl rfl
theorem kw347 : (Jvm.Cond.static ({ cls := "DishRounds", name := "isDirection", desc := "(II)Z" } : Jvm.MethodName)) ∈ LW := lwt2 70 rfl rfl
theorem kw348 : (Jvm.Cond.code ({ cls := "DishRounds", name := "isDirection", desc := "(II)Z" } : Jvm.MethodName) prog_1_method_28_code (2 : Nat) (Option.some Jvm.ClassFile.FieldType.boolean)) ∈ LW := lwt2 71 rfl rfl
theorem kw349 : (Jvm.Cond.methodLink "DishRounds" (108 : Nat) ({ cls := "DishRounds", name := "isSide", desc := "(I)Z" } : Jvm.MethodName)) ∈ LW := lwt2 72 rfl rfl
theorem kw350 : (Jvm.Cond.static ({ cls := "DishRounds", name := "isSide", desc := "(I)Z" } : Jvm.MethodName)) ∈ LW := lwt2 73 rfl rfl
theorem kw351 : (Jvm.Cond.code ({ cls := "DishRounds", name := "isSide", desc := "(I)Z" } : Jvm.MethodName) prog_1_method_26_code (1 : Nat) (Option.some Jvm.ClassFile.FieldType.boolean)) ∈ LW := lwt2 74 rfl rfl
theorem kw352 : (Jvm.Cond.methodLink "DishRounds" (89 : Nat) ({ cls := "DishRounds", name := "isHeight", desc := "(I)Z" } : Jvm.MethodName)) ∈ LW := lwt2 75 rfl rfl
theorem kw353 : (Jvm.Cond.static ({ cls := "DishRounds", name := "isHeight", desc := "(I)Z" } : Jvm.MethodName)) ∈ LW := lwt2 76 rfl rfl
theorem kw354 : (Jvm.Cond.code ({ cls := "DishRounds", name := "isHeight", desc := "(I)Z" } : Jvm.MethodName) prog_1_method_27_code (1 : Nat) (Option.some Jvm.ClassFile.FieldType.boolean)) ∈ LW := lwt2 77 rfl rfl
theorem kw355 : (Jvm.Cond.methodLink "DishRounds" (62 : Nat) ({ cls := "DishRounds$Flight", name := "isTaken", desc := "()Z" } : Jvm.MethodName)) ∈ LW := lwt2 78 rfl rfl
theorem kw356 : (Jvm.Cond.instanceMethod ({ cls := "DishRounds$Flight", name := "isTaken", desc := "()Z" } : Jvm.MethodName)) ∈ LW := lwt2 79 rfl rfl
theorem kw357 : (Jvm.Cond.selects "DishRounds$Flight" ({ cls := "DishRounds$Flight", name := "isTaken", desc := "()Z" } : Jvm.MethodName) ({ cls := "DishRounds$Flight", name := "isTaken", desc := "()Z" } : Jvm.MethodName)) ∈ LW := lwt2 80 rfl rfl
theorem kw358 : (Jvm.Cond.code ({ cls := "DishRounds$Flight", name := "isTaken", desc := "()Z" } : Jvm.MethodName) prog_2_method_4_code (1 : Nat) (Option.some Jvm.ClassFile.FieldType.boolean)) ∈ LW := lwt2 81 rfl rfl
theorem kw359 : (Jvm.Cond.methodLink "DishRounds" (69 : Nat) ({ cls := "DishRounds$Flight", name := "addPoint", desc := "(II)V" } : Jvm.MethodName)) ∈ LW := lwt2 82 rfl rfl
theorem kw360 : (Jvm.Cond.instanceMethod ({ cls := "DishRounds$Flight", name := "addPoint", desc := "(II)V" } : Jvm.MethodName)) ∈ LW := lwt2 83 rfl rfl
theorem kw361 : (Jvm.Cond.selects "DishRounds$Flight" ({ cls := "DishRounds$Flight", name := "addPoint", desc := "(II)V" } : Jvm.MethodName) ({ cls := "DishRounds$Flight", name := "addPoint", desc := "(II)V" } : Jvm.MethodName)) ∈ LW := lwt2 84 rfl rfl
theorem kw362 : (Jvm.Cond.code ({ cls := "DishRounds$Flight", name := "addPoint", desc := "(II)V" } : Jvm.MethodName) prog_2_method_3_code (3 : Nat) (Option.none : Option Jvm.ClassFile.FieldType)) ∈ LW := lwt2 85 rfl rfl
theorem kw363 : (Jvm.Cond.methodLink "DishRoundsLaw" (23 : Nat) ({ cls := "DishRounds", name := "drop", desc := "(I)I" } : Jvm.MethodName)) ∈ LW := lwt2 86 rfl rfl
theorem kw364 : (Jvm.Cond.instanceMethod ({ cls := "DishRounds", name := "drop", desc := "(I)I" } : Jvm.MethodName)) ∈ LW := lwt2 87 rfl rfl
theorem kw365 : (Jvm.Cond.selects "DishRounds" ({ cls := "DishRounds", name := "drop", desc := "(I)I" } : Jvm.MethodName) ({ cls := "DishRounds", name := "drop", desc := "(I)I" } : Jvm.MethodName)) ∈ LW := lwt2 88 rfl rfl
theorem kw366 : (Jvm.Cond.code ({ cls := "DishRounds", name := "drop", desc := "(I)I" } : Jvm.MethodName) prog_1_method_4_code (3 : Nat) (Option.some Jvm.ClassFile.FieldType.int)) ∈ LW := lwt2 89 rfl rfl
theorem kw367 : (Jvm.Cond.methodLink "DishRounds" (72 : Nat) ({ cls := "DishRounds$World", name := "removeFlight", desc := "(I)V" } : Jvm.MethodName)) ∈ LW := lwt2 90 rfl rfl
theorem kw368 : (Jvm.Cond.instanceMethod ({ cls := "DishRounds$World", name := "removeFlight", desc := "(I)V" } : Jvm.MethodName)) ∈ LW := lwt2 91 rfl rfl
theorem kw369 : (Jvm.Cond.selects "DishRounds$World" ({ cls := "DishRounds$World", name := "removeFlight", desc := "(I)V" } : Jvm.MethodName) ({ cls := "DishRounds$World", name := "removeFlight", desc := "(I)V" } : Jvm.MethodName)) ∈ LW := lwt2 92 rfl rfl
theorem kw370 : (Jvm.Cond.code ({ cls := "DishRounds$World", name := "removeFlight", desc := "(I)V" } : Jvm.MethodName) prog_7_method_4_code (4 : Nat) (Option.none : Option Jvm.ClassFile.FieldType)) ∈ LW := lwt2 93 rfl rfl
theorem kw371 : (Jvm.Cond.methodLink "DishRoundsLaw" (28 : Nat) ({ cls := "DishRounds", name := "stand", desc := "(IIII)I" } : Jvm.MethodName)) ∈ LW := lwt2 94 rfl rfl
theorem kw372 : (Jvm.Cond.instanceMethod ({ cls := "DishRounds", name := "stand", desc := "(IIII)I" } : Jvm.MethodName)) ∈ LW := lwt2 95 rfl rfl
theorem kw373 : (Jvm.Cond.selects "DishRounds" ({ cls := "DishRounds", name := "stand", desc := "(IIII)I" } : Jvm.MethodName) ({ cls := "DishRounds", name := "stand", desc := "(IIII)I" } : Jvm.MethodName)) ∈ LW := lwt2 96 rfl rfl
theorem kw374 : (Jvm.Cond.code ({ cls := "DishRounds", name := "stand", desc := "(IIII)I" } : Jvm.MethodName) prog_1_method_5_code (6 : Nat) (Option.some Jvm.ClassFile.FieldType.int)) ∈ LW := lwt2 97 rfl rfl
theorem kw375 : (Jvm.Cond.methodLink "DishRounds" (76 : Nat) ({ cls := "DishRounds", name := "isDish", desc := "(I)Z" } : Jvm.MethodName)) ∈ LW := lwt2 98 rfl rfl
theorem kw376 : (Jvm.Cond.static ({ cls := "DishRounds", name := "isDish", desc := "(I)Z" } : Jvm.MethodName)) ∈ LW := lwt2 99 rfl rfl
theorem kw377 : (Jvm.Cond.code ({ cls := "DishRounds", name := "isDish", desc := "(I)Z" } : Jvm.MethodName) prog_1_method_25_code (1 : Nat) (Option.some Jvm.ClassFile.FieldType.boolean)) ∈ LW := lwt2 100 rfl rfl
theorem kw378 : (Jvm.Cond.methodLink "DishRounds" (92 : Nat) ({ cls := "DishRounds", name := "isTick", desc := "(I)Z" } : Jvm.MethodName)) ∈ LW := lwt2 101 rfl rfl
theorem kw379 : (Jvm.Cond.static ({ cls := "DishRounds", name := "isTick", desc := "(I)Z" } : Jvm.MethodName)) ∈ LW := lwt2 102 rfl rfl
theorem kw380 : (Jvm.Cond.code ({ cls := "DishRounds", name := "isTick", desc := "(I)Z" } : Jvm.MethodName) prog_1_method_29_code (1 : Nat) (Option.some Jvm.ClassFile.FieldType.boolean)) ∈ LW := lwt2 103 rfl rfl
theorem kw381 : (Jvm.Cond.methodLink "DishRounds" (95 : Nat) ({ cls := "DishRounds$Mount", name := "turnTo", desc := "(III)V" } : Jvm.MethodName)) ∈ LW := lwt2 104 rfl rfl
theorem kw382 : (Jvm.Cond.instanceMethod ({ cls := "DishRounds$Mount", name := "turnTo", desc := "(III)V" } : Jvm.MethodName)) ∈ LW := lwt2 105 rfl rfl
theorem kw383 : (Jvm.Cond.selects "DishRounds$Mount" ({ cls := "DishRounds$Mount", name := "turnTo", desc := "(III)V" } : Jvm.MethodName) ({ cls := "DishRounds$Mount", name := "turnTo", desc := "(III)V" } : Jvm.MethodName)) ∈ LW := lwt2 106 rfl rfl
theorem kw384 : (Jvm.Cond.code ({ cls := "DishRounds$Mount", name := "turnTo", desc := "(III)V" } : Jvm.MethodName) prog_3_method_2_code (4 : Nat) (Option.none : Option Jvm.ClassFile.FieldType)) ∈ LW := lwt2 107 rfl rfl
theorem kw385 : (Jvm.Cond.methodLink "DishRoundsLaw" (33 : Nat) ({ cls := "DishRounds", name := "set", desc := "(III)I" } : Jvm.MethodName)) ∈ LW := lwt2 108 rfl rfl
theorem kw386 : (Jvm.Cond.instanceMethod ({ cls := "DishRounds", name := "set", desc := "(III)I" } : Jvm.MethodName)) ∈ LW := lwt2 109 rfl rfl
theorem kw387 : (Jvm.Cond.selects "DishRounds" ({ cls := "DishRounds", name := "set", desc := "(III)I" } : Jvm.MethodName) ({ cls := "DishRounds", name := "set", desc := "(III)I" } : Jvm.MethodName)) ∈ LW := lwt2 110 rfl rfl
theorem kw388 : (Jvm.Cond.code ({ cls := "DishRounds", name := "set", desc := "(III)I" } : Jvm.MethodName) prog_1_method_6_code (6 : Nat) (Option.some Jvm.ClassFile.FieldType.int)) ∈ LW := lwt2 111 rfl rfl
theorem kw389 : (Jvm.Cond.methodLink "DishRounds" (99 : Nat) ({ cls := "DishRounds", name := "isSetting", desc := "(II)Z" } : Jvm.MethodName)) ∈ LW := lwt2 112 rfl rfl
theorem kw390 : (Jvm.Cond.static ({ cls := "DishRounds", name := "isSetting", desc := "(II)Z" } : Jvm.MethodName)) ∈ LW := lwt2 113 rfl rfl
theorem kw391 : (Jvm.Cond.code ({ cls := "DishRounds", name := "isSetting", desc := "(II)Z" } : Jvm.MethodName) prog_1_method_30_code (2 : Nat) (Option.some Jvm.ClassFile.FieldType.boolean)) ∈ LW := lwt2 114 rfl rfl
theorem kw392 : (Jvm.Cond.methodLink "DishRoundsLaw" (37 : Nat) ({ cls := "DishRounds", name := "sun", desc := "(IIII)I" } : Jvm.MethodName)) ∈ LW := lwt2 115 rfl rfl
theorem kw393 : (Jvm.Cond.instanceMethod ({ cls := "DishRounds", name := "sun", desc := "(IIII)I" } : Jvm.MethodName)) ∈ LW := lwt2 116 rfl rfl
theorem kw394 : (Jvm.Cond.selects "DishRounds" ({ cls := "DishRounds", name := "sun", desc := "(IIII)I" } : Jvm.MethodName) ({ cls := "DishRounds", name := "sun", desc := "(IIII)I" } : Jvm.MethodName)) ∈ LW := lwt2 117 rfl rfl
theorem kw395 : (Jvm.Cond.code ({ cls := "DishRounds", name := "sun", desc := "(IIII)I" } : Jvm.MethodName) prog_1_method_7_code (5 : Nat) (Option.some Jvm.ClassFile.FieldType.int)) ∈ LW := lwt2 118 rfl rfl
theorem kw396 : (Jvm.Cond.methodLink "DishRounds" (115 : Nat) ({ cls := "DishRounds$Sky", name := "putSun", desc := "(IIII)V" } : Jvm.MethodName)) ∈ LW := lwt2 119 rfl rfl
theorem kw397 : (Jvm.Cond.instanceMethod ({ cls := "DishRounds$Sky", name := "putSun", desc := "(IIII)V" } : Jvm.MethodName)) ∈ LW := lwt2 120 rfl rfl
theorem kw398 : (Jvm.Cond.selects "DishRounds$Sky" ({ cls := "DishRounds$Sky", name := "putSun", desc := "(IIII)V" } : Jvm.MethodName) ({ cls := "DishRounds$Sky", name := "putSun", desc := "(IIII)V" } : Jvm.MethodName)) ∈ LW := lwt2 121 rfl rfl
theorem kw399 : (Jvm.Cond.code ({ cls := "DishRounds$Sky", name := "putSun", desc := "(IIII)V" } : Jvm.MethodName) prog_5_method_2_code (5 : Nat) (Option.none : Option Jvm.ClassFile.FieldType)) ∈ LW := lwt2 122 rfl rfl
theorem kw400 : (Jvm.Cond.methodLink "DishRoundsLaw" (41 : Nat) ({ cls := "DishRounds", name := "storm", desc := "(II)I" } : Jvm.MethodName)) ∈ LW := lwt2 123 rfl rfl
theorem kw401 : (Jvm.Cond.instanceMethod ({ cls := "DishRounds", name := "storm", desc := "(II)I" } : Jvm.MethodName)) ∈ LW := lwt2 124 rfl rfl
theorem kw402 : (Jvm.Cond.selects "DishRounds" ({ cls := "DishRounds", name := "storm", desc := "(II)I" } : Jvm.MethodName) ({ cls := "DishRounds", name := "storm", desc := "(II)I" } : Jvm.MethodName)) ∈ LW := lwt2 125 rfl rfl
theorem kw403 : (Jvm.Cond.code ({ cls := "DishRounds", name := "storm", desc := "(II)I" } : Jvm.MethodName) prog_1_method_8_code (3 : Nat) (Option.some Jvm.ClassFile.FieldType.int)) ∈ LW := lwt2 126 rfl rfl
theorem kw404 : (Jvm.Cond.methodLink "DishRoundsLaw" (45 : Nat) ({ cls := "DishRounds", name := "key", desc := "(I)I" } : Jvm.MethodName)) ∈ LW := lwt2 127 rfl rfl
theorem kw405 : (Jvm.Cond.instanceMethod ({ cls := "DishRounds", name := "key", desc := "(I)I" } : Jvm.MethodName)) ∈ LW := lwt2 128 rfl rfl
theorem kw406 : (Jvm.Cond.selects "DishRounds" ({ cls := "DishRounds", name := "key", desc := "(I)I" } : Jvm.MethodName) ({ cls := "DishRounds", name := "key", desc := "(I)I" } : Jvm.MethodName)) ∈ LW := lwt2 129 rfl rfl
theorem kw407 : (Jvm.Cond.code ({ cls := "DishRounds", name := "key", desc := "(I)I" } : Jvm.MethodName) prog_1_method_9_code (3 : Nat) (Option.some Jvm.ClassFile.FieldType.int)) ∈ LW := lwt2 130 rfl rfl
theorem kw408 : (Jvm.Cond.methodLink "DishRoundsLaw" (49 : Nat) ({ cls := "DishRounds", name := "burnt", desc := "(III)I" } : Jvm.MethodName)) ∈ LW := lwt2 131 rfl rfl
theorem kw409 : (Jvm.Cond.instanceMethod ({ cls := "DishRounds", name := "burnt", desc := "(III)I" } : Jvm.MethodName)) ∈ LW := lwt2 132 rfl rfl
theorem kw410 : (Jvm.Cond.selects "DishRounds" ({ cls := "DishRounds", name := "burnt", desc := "(III)I" } : Jvm.MethodName) ({ cls := "DishRounds", name := "burnt", desc := "(III)I" } : Jvm.MethodName)) ∈ LW := lwt2 133 rfl rfl
theorem kw411 : (Jvm.Cond.code ({ cls := "DishRounds", name := "burnt", desc := "(III)I" } : Jvm.MethodName) prog_1_method_10_code (4 : Nat) (Option.some Jvm.ClassFile.FieldType.int)) ∈ LW := lwt2 134 rfl rfl
theorem kw412 : (Jvm.Cond.methodLink "DishRounds" (130 : Nat) ({ cls := "DishRounds$Sky", name := "isBurnt", desc := "(III)Z" } : Jvm.MethodName)) ∈ LW := lwt2 135 rfl rfl
theorem kw413 : (Jvm.Cond.instanceMethod ({ cls := "DishRounds$Sky", name := "isBurnt", desc := "(III)Z" } : Jvm.MethodName)) ∈ LW := lwt2 136 rfl rfl
theorem kw414 : (Jvm.Cond.selects "DishRounds$Sky" ({ cls := "DishRounds$Sky", name := "isBurnt", desc := "(III)Z" } : Jvm.MethodName) ({ cls := "DishRounds$Sky", name := "isBurnt", desc := "(III)Z" } : Jvm.MethodName)) ∈ LW := lwt2 137 rfl rfl
theorem kw415 : (Jvm.Cond.code ({ cls := "DishRounds$Sky", name := "isBurnt", desc := "(III)Z" } : Jvm.MethodName) prog_5_method_5_code (4 : Nat) (Option.some Jvm.ClassFile.FieldType.boolean)) ∈ LW := lwt2 138 rfl rfl
theorem kw416 : (Jvm.Cond.methodLink "DishRounds$Sky" (43 : Nat) ({ cls := "DishRounds$Sky", name := "isSunSide", desc := "(II)Z" } : Jvm.MethodName)) ∈ LW := lwt2 139 rfl rfl
theorem kw417 : (Jvm.Cond.instanceMethod ({ cls := "DishRounds$Sky", name := "isSunSide", desc := "(II)Z" } : Jvm.MethodName)) ∈ LW := lwt2 140 rfl rfl
theorem kw418 : (Jvm.Cond.selects "DishRounds$Sky" ({ cls := "DishRounds$Sky", name := "isSunSide", desc := "(II)Z" } : Jvm.MethodName) ({ cls := "DishRounds$Sky", name := "isSunSide", desc := "(II)Z" } : Jvm.MethodName)) ∈ LW := lwt2 141 rfl rfl
theorem kw419 : (Jvm.Cond.code ({ cls := "DishRounds$Sky", name := "isSunSide", desc := "(II)Z" } : Jvm.MethodName) prog_5_method_3_code (5 : Nat) (Option.some Jvm.ClassFile.FieldType.boolean)) ∈ LW := lwt2 142 rfl rfl
theorem kw420 : (Jvm.Cond.methodLink "DishRounds$Sky" (33 : Nat) ({ cls := "java/lang/Math", name := "abs", desc := "(I)I" } : Jvm.MethodName)) ∈ LW := lwt2 143 rfl rfl
theorem kw421 : (Jvm.Cond.static ({ cls := "java/lang/Math", name := "abs", desc := "(I)I" } : Jvm.MethodName)) ∈ LW := lwt2 144 rfl rfl
theorem kw422 : (Jvm.Cond.code ({ cls := "java/lang/Math", name := "abs", desc := "(I)I" } : Jvm.MethodName) prog_10_method_59_code (1 : Nat) (Option.some Jvm.ClassFile.FieldType.int)) ∈ LW := lwt2 145 rfl rfl
theorem kw423 : (Jvm.Cond.methodLink "DishRounds$Sky" (39 : Nat) ({ cls := "java/lang/Math", name := "min", desc := "(II)I" } : Jvm.MethodName)) ∈ LW := lwt2 146 rfl rfl
theorem kw424 : (Jvm.Cond.static ({ cls := "java/lang/Math", name := "min", desc := "(II)I" } : Jvm.MethodName)) ∈ LW := lwt2 147 rfl rfl
theorem kw425 : (Jvm.Cond.code ({ cls := "java/lang/Math", name := "min", desc := "(II)I" } : Jvm.MethodName) prog_10_method_69_code (2 : Nat) (Option.some Jvm.ClassFile.FieldType.int)) ∈ LW := lwt2 148 rfl rfl
theorem kw426 : (Jvm.Cond.methodLink "DishRounds$Sky" (47 : Nat) ({ cls := "DishRounds$Sky", name := "isSunHeight", desc := "(I)Z" } : Jvm.MethodName)) ∈ LW := lwt2 149 rfl rfl
theorem kw427 : (Jvm.Cond.instanceMethod ({ cls := "DishRounds$Sky", name := "isSunHeight", desc := "(I)Z" } : Jvm.MethodName)) ∈ LW := lwt2 150 rfl rfl
theorem kw428 : (Jvm.Cond.selects "DishRounds$Sky" ({ cls := "DishRounds$Sky", name := "isSunHeight", desc := "(I)Z" } : Jvm.MethodName) ({ cls := "DishRounds$Sky", name := "isSunHeight", desc := "(I)Z" } : Jvm.MethodName)) ∈ LW := lwt2 151 rfl rfl
theorem kw429 : (Jvm.Cond.code ({ cls := "DishRounds$Sky", name := "isSunHeight", desc := "(I)Z" } : Jvm.MethodName) prog_5_method_4_code (2 : Nat) (Option.some Jvm.ClassFile.FieldType.boolean)) ∈ LW := lwt2 152 rfl rfl
theorem kw430 : (Jvm.Cond.methodLink "DishRoundsLaw" (53 : Nat) ({ cls := "DishRounds", name := "told", desc := "(II)I" } : Jvm.MethodName)) ∈ LW := lwt2 153 rfl rfl
theorem kw431 : (Jvm.Cond.instanceMethod ({ cls := "DishRounds", name := "told", desc := "(II)I" } : Jvm.MethodName)) ∈ LW := lwt2 154 rfl rfl
theorem kw432 : (Jvm.Cond.selects "DishRounds" ({ cls := "DishRounds", name := "told", desc := "(II)I" } : Jvm.MethodName) ({ cls := "DishRounds", name := "told", desc := "(II)I" } : Jvm.MethodName)) ∈ LW := lwt2 155 rfl rfl
theorem kw433 : (Jvm.Cond.code ({ cls := "DishRounds", name := "told", desc := "(II)I" } : Jvm.MethodName) prog_1_method_11_code (5 : Nat) (Option.some Jvm.ClassFile.FieldType.int)) ∈ LW := lwt2 156 rfl rfl
theorem kw434 : (Jvm.Cond.methodLink "DishRoundsLaw" (57 : Nat) ({ cls := "DishRounds", name := "order", desc := "(I)I" } : Jvm.MethodName)) ∈ LW := lwt2 157 rfl rfl
theorem kw435 : (Jvm.Cond.instanceMethod ({ cls := "DishRounds", name := "order", desc := "(I)I" } : Jvm.MethodName)) ∈ LW := lwt2 158 rfl rfl
theorem kw436 : (Jvm.Cond.selects "DishRounds" ({ cls := "DishRounds", name := "order", desc := "(I)I" } : Jvm.MethodName) ({ cls := "DishRounds", name := "order", desc := "(I)I" } : Jvm.MethodName)) ∈ LW := lwt2 159 rfl rfl
theorem kw437 : (Jvm.Cond.code ({ cls := "DishRounds", name := "order", desc := "(I)I" } : Jvm.MethodName) prog_1_method_12_code (2 : Nat) (Option.some Jvm.ClassFile.FieldType.int)) ∈ LW := lwt2 160 rfl rfl
theorem kw438 : (Jvm.Cond.methodLink "DishRoundsLaw" (61 : Nat) ({ cls := "DishRounds", name := "dish", desc := "(II)I" } : Jvm.MethodName)) ∈ LW := lwt2 161 rfl rfl
theorem kw439 : (Jvm.Cond.instanceMethod ({ cls := "DishRounds", name := "dish", desc := "(II)I" } : Jvm.MethodName)) ∈ LW := lwt2 162 rfl rfl
theorem kw440 : (Jvm.Cond.selects "DishRounds" ({ cls := "DishRounds", name := "dish", desc := "(II)I" } : Jvm.MethodName) ({ cls := "DishRounds", name := "dish", desc := "(II)I" } : Jvm.MethodName)) ∈ LW := lwt2 163 rfl rfl
theorem kw441 : (Jvm.Cond.code ({ cls := "DishRounds", name := "dish", desc := "(II)I" } : Jvm.MethodName) prog_1_method_13_code (4 : Nat) (Option.some Jvm.ClassFile.FieldType.int)) ∈ LW := lwt2 164 rfl rfl
theorem kw442 : (Jvm.Cond.methodLink "DishRounds" (151 : Nat) ({ cls := "DishRounds", name := "sideOf", desc := "(I)I" } : Jvm.MethodName)) ∈ LW := lwt2 165 rfl rfl
theorem kw443 : (Jvm.Cond.static ({ cls := "DishRounds", name := "sideOf", desc := "(I)I" } : Jvm.MethodName)) ∈ LW := lwt2 166 rfl rfl
theorem kw444 : (Jvm.Cond.code ({ cls := "DishRounds", name := "sideOf", desc := "(I)I" } : Jvm.MethodName) prog_1_method_31_code (1 : Nat) (Option.some Jvm.ClassFile.FieldType.int)) ∈ LW := lwt2 167 rfl rfl
theorem kw445 : (Jvm.Cond.methodLink "DishRoundsLaw" (65 : Nat) ({ cls := "DishRounds", name := "way", desc := "(III)I" } : Jvm.MethodName)) ∈ LW := lwt2 168 rfl rfl
theorem kw446 : (Jvm.Cond.instanceMethod ({ cls := "DishRounds", name := "way", desc := "(III)I" } : Jvm.MethodName)) ∈ LW := lwt2 169 rfl rfl
theorem kw447 : (Jvm.Cond.selects "DishRounds" ({ cls := "DishRounds", name := "way", desc := "(III)I" } : Jvm.MethodName) ({ cls := "DishRounds", name := "way", desc := "(III)I" } : Jvm.MethodName)) ∈ LW := lwt2 170 rfl rfl
theorem kw448 : (Jvm.Cond.code ({ cls := "DishRounds", name := "way", desc := "(III)I" } : Jvm.MethodName) prog_1_method_14_code (6 : Nat) (Option.some Jvm.ClassFile.FieldType.int)) ∈ LW := lwt2 171 rfl rfl
theorem kw449 : (Jvm.Cond.methodLink "DishRounds" (154 : Nat) ({ cls := "DishRounds$Flight", name := "isOpen", desc := "()Z" } : Jvm.MethodName)) ∈ LW := lwt2 172 rfl rfl
theorem kw450 : (Jvm.Cond.instanceMethod ({ cls := "DishRounds$Flight", name := "isOpen", desc := "()Z" } : Jvm.MethodName)) ∈ LW := lwt2 173 rfl rfl
theorem kw451 : (Jvm.Cond.selects "DishRounds$Flight" ({ cls := "DishRounds$Flight", name := "isOpen", desc := "()Z" } : Jvm.MethodName) ({ cls := "DishRounds$Flight", name := "isOpen", desc := "()Z" } : Jvm.MethodName)) ∈ LW := lwt2 174 rfl rfl
theorem kw452 : (Jvm.Cond.code ({ cls := "DishRounds$Flight", name := "isOpen", desc := "()Z" } : Jvm.MethodName) prog_2_method_5_code (1 : Nat) (Option.some Jvm.ClassFile.FieldType.boolean)) ∈ LW := lwt2 175 rfl rfl
theorem kw453 : (Jvm.Cond.methodLink "DishRounds$Flight" (34 : Nat) ({ cls := "DishRounds$Flight", name := "isTaken", desc := "()Z" } : Jvm.MethodName)) ∈ LW := lwt2 176 rfl rfl
theorem kw454 : (Jvm.Cond.methodLink "DishRounds" (157 : Nat) ({ cls := "DishRounds$Search", name := "bestWay", desc := "(ILDishRounds$Flight;)LDishRounds$Way;" } : Jvm.MethodName)) ∈ LW := lwt2 177 rfl rfl
theorem kw455 : (Jvm.Cond.instanceMethod ({ cls := "DishRounds$Search", name := "bestWay", desc := "(ILDishRounds$Flight;)LDishRounds$Way;" } : Jvm.MethodName)) ∈ LW := lwt2 178 rfl rfl
theorem kw456 : (Jvm.Cond.selects "DishRounds$Search" ({ cls := "DishRounds$Search", name := "bestWay", desc := "(ILDishRounds$Flight;)LDishRounds$Way;" } : Jvm.MethodName) ({ cls := "DishRounds$Search", name := "bestWay", desc := "(ILDishRounds$Flight;)LDishRounds$Way;" } : Jvm.MethodName)) ∈ LW := lwt2 179 rfl rfl
theorem kw457 : (Jvm.Cond.code ({ cls := "DishRounds$Search", name := "bestWay", desc := "(ILDishRounds$Flight;)LDishRounds$Way;" } : Jvm.MethodName) prog_4_method_3_code (4 : Nat) (Option.some (Jvm.ClassFile.FieldType.object "DishRounds$Way"))) ∈ LW := lwt2 180 rfl rfl
theorem kw458 : (Jvm.Cond.methodLink "DishRounds$Search" (70 : Nat) ({ cls := "DishRounds$Flight", name := "lastTick", desc := "()I" } : Jvm.MethodName)) ∈ LW := lwt2 181 rfl rfl
theorem kw459 : (Jvm.Cond.instanceMethod ({ cls := "DishRounds$Flight", name := "lastTick", desc := "()I" } : Jvm.MethodName)) ∈ LW := lwt2 182 rfl rfl
theorem kw460 : (Jvm.Cond.selects "DishRounds$Flight" ({ cls := "DishRounds$Flight", name := "lastTick", desc := "()I" } : Jvm.MethodName) ({ cls := "DishRounds$Flight", name := "lastTick", desc := "()I" } : Jvm.MethodName)) ∈ LW := lwt2 183 rfl rfl
theorem kw461 : (Jvm.Cond.code ({ cls := "DishRounds$Flight", name := "lastTick", desc := "()I" } : Jvm.MethodName) prog_2_method_6_code (1 : Nat) (Option.some Jvm.ClassFile.FieldType.int)) ∈ LW := lwt2 184 rfl rfl
theorem kw462 : (Jvm.Cond.methodLink "DishRounds$Search" (79 : Nat) ({ cls := "java/lang/Math", name := "min", desc := "(II)I" } : Jvm.MethodName)) ∈ LW := lwt2 185 rfl rfl
theorem kw463 : (Jvm.Cond.methodLink "DishRounds$Search" (85 : Nat) ({ cls := "DishRounds$Way", name := "clear", desc := "(I)V" } : Jvm.MethodName)) ∈ LW := lwt2 186 rfl rfl
theorem kw464 : (Jvm.Cond.instanceMethod ({ cls := "DishRounds$Way", name := "clear", desc := "(I)V" } : Jvm.MethodName)) ∈ LW := lwt2 187 rfl rfl
theorem kw465 : (Jvm.Cond.selects "DishRounds$Way" ({ cls := "DishRounds$Way", name := "clear", desc := "(I)V" } : Jvm.MethodName) ({ cls := "DishRounds$Way", name := "clear", desc := "(I)V" } : Jvm.MethodName)) ∈ LW := lwt2 188 rfl rfl
theorem kw466 : (Jvm.Cond.code ({ cls := "DishRounds$Way", name := "clear", desc := "(I)V" } : Jvm.MethodName) prog_6_method_2_code (3 : Nat) (Option.none : Option Jvm.ClassFile.FieldType)) ∈ LW := lwt2 189 rfl rfl
theorem kw467 : (Jvm.Cond.methodLink "DishRounds$Way" (57 : Nat) ({ cls := "java/util/Arrays", name := "fill", desc := "([II)V" } : Jvm.MethodName)) ∈ LW := lwt2 190 rfl rfl
theorem kw468 : (Jvm.Cond.static ({ cls := "java/util/Arrays", name := "fill", desc := "([II)V" } : Jvm.MethodName)) ∈ LW := lwt2 191 rfl rfl
theorem kw469 : (Jvm.Cond.code ({ cls := "java/util/Arrays", name := "fill", desc := "([II)V" } : Jvm.MethodName) prog_12_method_103_code (4 : Nat) (Option.none : Option Jvm.ClassFile.FieldType)) ∈ LW := lwt2 192 rfl rfl
theorem kw470 : (Jvm.Cond.methodLink "DishRounds$Search" (89 : Nat) ({ cls := "DishRounds$Search", name := "goBack", desc := "()V" } : Jvm.MethodName)) ∈ LW := lwt2 193 rfl rfl
theorem kw472 : (Jvm.Cond.instanceMethod ({ cls := "DishRounds$Search", name := "goBack", desc := "()V" } : Jvm.MethodName)) ∈ LW := lwt2 195 rfl rfl
theorem kw473 : (Jvm.Cond.code ({ cls := "DishRounds$Search", name := "goBack", desc := "()V" } : Jvm.MethodName) prog_4_method_5_code (2 : Nat) (Option.none : Option Jvm.ClassFile.FieldType)) ∈ LW := lwt2 196 rfl rfl
theorem kw474 : (Jvm.Cond.methodLink "DishRounds$Search" (107 : Nat) ({ cls := "java/util/Arrays", name := "fill", desc := "([II)V" } : Jvm.MethodName)) ∈ LW := lwt2 197 rfl rfl
theorem kw475 : (Jvm.Cond.methodLink "DishRounds$Search" (113 : Nat) ({ cls := "DishRounds$Search", name := "reach", desc := "([III)V" } : Jvm.MethodName)) ∈ LW := lwt2 198 rfl rfl
theorem kw477 : (Jvm.Cond.instanceMethod ({ cls := "DishRounds$Search", name := "reach", desc := "([III)V" } : Jvm.MethodName)) ∈ LW := lwt2 200 rfl rfl
theorem kw478 : (Jvm.Cond.code ({ cls := "DishRounds$Search", name := "reach", desc := "([III)V" } : Jvm.MethodName) prog_4_method_9_code (7 : Nat) (Option.none : Option Jvm.ClassFile.FieldType)) ∈ LW := lwt2 201 rfl rfl
theorem kw479 : (Jvm.Cond.constant "DishRounds$Search" (198 : Nat) (-1000000 : Int32)) ∈ LW := lwt2 202 rfl rfl
theorem kw480 : (Jvm.Cond.methodLink "DishRounds$Search" (167 : Nat) ({ cls := "DishRounds$Search", name := "lowWind", desc := "(I)I" } : Jvm.MethodName)) ∈ LW := lwt2 203 rfl rfl
theorem kw482 : (Jvm.Cond.instanceMethod ({ cls := "DishRounds$Search", name := "lowWind", desc := "(I)I" } : Jvm.MethodName)) ∈ LW := lwt2 205 rfl rfl
theorem kw483 : (Jvm.Cond.code ({ cls := "DishRounds$Search", name := "lowWind", desc := "(I)I" } : Jvm.MethodName) prog_4_method_18_code (2 : Nat) (Option.some Jvm.ClassFile.FieldType.int)) ∈ LW := lwt2 206 rfl rfl
theorem kw484 : (Jvm.Cond.methodLink "DishRounds$Search" (170 : Nat) ({ cls := "java/lang/Math", name := "max", desc := "(II)I" } : Jvm.MethodName)) ∈ LW := lwt2 207 rfl rfl
theorem kw485 : (Jvm.Cond.static ({ cls := "java/lang/Math", name := "max", desc := "(II)I" } : Jvm.MethodName)) ∈ LW := lwt2 208 rfl rfl
theorem kw486 : (Jvm.Cond.code ({ cls := "java/lang/Math", name := "max", desc := "(II)I" } : Jvm.MethodName) prog_10_method_65_code (2 : Nat) (Option.some Jvm.ClassFile.FieldType.int)) ∈ LW := lwt2 209 rfl rfl
theorem kw487 : (Jvm.Cond.methodLink "DishRounds$Search" (160 : Nat) ({ cls := "DishRounds$Search", name := "highWind", desc := "(I)I" } : Jvm.MethodName)) ∈ LW := lwt2 210 rfl rfl
theorem kw489 : (Jvm.Cond.instanceMethod ({ cls := "DishRounds$Search", name := "highWind", desc := "(I)I" } : Jvm.MethodName)) ∈ LW := lwt2 212 rfl rfl
theorem kw490 : (Jvm.Cond.code ({ cls := "DishRounds$Search", name := "highWind", desc := "(I)I" } : Jvm.MethodName) prog_4_method_19_code (2 : Nat) (Option.some Jvm.ClassFile.FieldType.int)) ∈ LW := lwt2 213 rfl rfl
theorem kw491 : (Jvm.Cond.methodLink "DishRounds$Search" (199 : Nat) ({ cls := "DishRounds$Search", name := "tilt", desc := "([IIII)V" } : Jvm.MethodName)) ∈ LW := lwt2 214 rfl rfl
theorem kw493 : (Jvm.Cond.instanceMethod ({ cls := "DishRounds$Search", name := "tilt", desc := "([IIII)V" } : Jvm.MethodName)) ∈ LW := lwt2 216 rfl rfl
theorem kw494 : (Jvm.Cond.code ({ cls := "DishRounds$Search", name := "tilt", desc := "([IIII)V" } : Jvm.MethodName) prog_4_method_10_code (10 : Nat) (Option.none : Option Jvm.ClassFile.FieldType)) ∈ LW := lwt2 217 rfl rfl
theorem kw495 : (Jvm.Cond.methodLink "DishRounds$Search" (203 : Nat) ({ cls := "DishRounds$Search", name := "turn", desc := "(II)V" } : Jvm.MethodName)) ∈ LW := lwt2 218 rfl rfl
theorem kw497 : (Jvm.Cond.instanceMethod ({ cls := "DishRounds$Search", name := "turn", desc := "(II)V" } : Jvm.MethodName)) ∈ LW := lwt2 220 rfl rfl
theorem kw498 : (Jvm.Cond.code ({ cls := "DishRounds$Search", name := "turn", desc := "(II)V" } : Jvm.MethodName) prog_4_method_11_code (6 : Nat) (Option.none : Option Jvm.ClassFile.FieldType)) ∈ LW := lwt2 221 rfl rfl
theorem kw499 : (Jvm.Cond.methodLink "DishRounds$Search" (117 : Nat) ({ cls := "DishRounds$Search", name := "enterRow", desc := "([III)V" } : Jvm.MethodName)) ∈ LW := lwt2 222 rfl rfl
theorem kw501 : (Jvm.Cond.instanceMethod ({ cls := "DishRounds$Search", name := "enterRow", desc := "([III)V" } : Jvm.MethodName)) ∈ LW := lwt2 224 rfl rfl
theorem kw502 : (Jvm.Cond.code ({ cls := "DishRounds$Search", name := "enterRow", desc := "([III)V" } : Jvm.MethodName) prog_4_method_12_code (13 : Nat) (Option.none : Option Jvm.ClassFile.FieldType)) ∈ LW := lwt2 225 rfl rfl
theorem kw503 : (Jvm.Cond.methodLink "DishRounds$Search" (210 : Nat) ({ cls := "DishRounds$Sky", name := "isStormy", desc := "(I)Z" } : Jvm.MethodName)) ∈ LW := lwt2 226 rfl rfl
theorem kw504 : (Jvm.Cond.instanceMethod ({ cls := "DishRounds$Sky", name := "isStormy", desc := "(I)Z" } : Jvm.MethodName)) ∈ LW := lwt2 227 rfl rfl
theorem kw505 : (Jvm.Cond.selects "DishRounds$Sky" ({ cls := "DishRounds$Sky", name := "isStormy", desc := "(I)Z" } : Jvm.MethodName) ({ cls := "DishRounds$Sky", name := "isStormy", desc := "(I)Z" } : Jvm.MethodName)) ∈ LW := lwt2 228 rfl rfl
theorem kw506 : (Jvm.Cond.code ({ cls := "DishRounds$Sky", name := "isStormy", desc := "(I)Z" } : Jvm.MethodName) prog_5_method_7_code (2 : Nat) (Option.some Jvm.ClassFile.FieldType.boolean)) ∈ LW := lwt2 229 rfl rfl
theorem kw509 : (Jvm.Cond.methodLink "DishRounds$Search" (218 : Nat) ({ cls := "DishRounds$Sky", name := "isSunSide", desc := "(II)Z" } : Jvm.MethodName)) ∈ LW := lwt2 232 rfl rfl
theorem kw510 : (Jvm.Cond.methodLink "DishRounds$Search" (222 : Nat) ({ cls := "DishRounds$Sky", name := "isSunHeight", desc := "(I)Z" } : Jvm.MethodName)) ∈ LW := lwt2 233 rfl rfl
theorem kw511 : (Jvm.Cond.methodLink "DishRounds$Search" (120 : Nat) ({ cls := "DishRounds$Search", name := "aimAt", desc := "(I)V" } : Jvm.MethodName)) ∈ LW := lwt2 234 rfl rfl
theorem kw513 : (Jvm.Cond.instanceMethod ({ cls := "DishRounds$Search", name := "aimAt", desc := "(I)V" } : Jvm.MethodName)) ∈ LW := lwt2 236 rfl rfl
theorem kw514 : (Jvm.Cond.code ({ cls := "DishRounds$Search", name := "aimAt", desc := "(I)V" } : Jvm.MethodName) prog_4_method_13_code (4 : Nat) (Option.none : Option Jvm.ClassFile.FieldType)) ∈ LW := lwt2 237 rfl rfl
theorem kw515 : (Jvm.Cond.methodLink "DishRounds$Search" (176 : Nat) ({ cls := "DishRounds$Search", name := "pointOf", desc := "(I)I" } : Jvm.MethodName)) ∈ LW := lwt2 238 rfl rfl
theorem kw517 : (Jvm.Cond.instanceMethod ({ cls := "DishRounds$Search", name := "pointOf", desc := "(I)I" } : Jvm.MethodName)) ∈ LW := lwt3 0 rfl rfl
theorem kw518 : (Jvm.Cond.code ({ cls := "DishRounds$Search", name := "pointOf", desc := "(I)I" } : Jvm.MethodName) prog_4_method_16_code (3 : Nat) (Option.some Jvm.ClassFile.FieldType.int)) ∈ LW := lwt3 1 rfl rfl
theorem kw520 : (Jvm.Cond.methodLink "DishRounds$Search" (234 : Nat) ({ cls := "DishRounds$Sky", name := "isBurnt", desc := "(III)Z" } : Jvm.MethodName)) ∈ LW := lwt3 3 rfl rfl
theorem kw521 : (Jvm.Cond.methodLink "DishRounds$Search" (123 : Nat) ({ cls := "DishRounds$Search", name := "addGain", desc := "([III)V" } : Jvm.MethodName)) ∈ LW := lwt3 4 rfl rfl
theorem kw523 : (Jvm.Cond.instanceMethod ({ cls := "DishRounds$Search", name := "addGain", desc := "([III)V" } : Jvm.MethodName)) ∈ LW := lwt3 6 rfl rfl
theorem kw524 : (Jvm.Cond.code ({ cls := "DishRounds$Search", name := "addGain", desc := "([III)V" } : Jvm.MethodName) prog_4_method_14_code (7 : Nat) (Option.none : Option Jvm.ClassFile.FieldType)) ∈ LW := lwt3 7 rfl rfl
theorem kw526 : (Jvm.Cond.methodLink "DishRounds$Search" (139 : Nat) ({ cls := "DishRounds$Search", name := "isDead", desc := "(I)Z" } : Jvm.MethodName)) ∈ LW := lwt3 9 rfl rfl
theorem kw527 : (Jvm.Cond.static ({ cls := "DishRounds$Search", name := "isDead", desc := "(I)Z" } : Jvm.MethodName)) ∈ LW := lwt3 10 rfl rfl
theorem kw528 : (Jvm.Cond.code ({ cls := "DishRounds$Search", name := "isDead", desc := "(I)Z" } : Jvm.MethodName) prog_4_method_21_code (1 : Nat) (Option.some Jvm.ClassFile.FieldType.boolean)) ∈ LW := lwt3 11 rfl rfl
theorem kw529 : (Jvm.Cond.constant "DishRounds$Search" (244 : Nat) (-500000 : Int32)) ∈ LW := lwt3 12 rfl rfl
theorem kw530 : (Jvm.Cond.methodLink "DishRounds$Search" (154 : Nat) ({ cls := "DishRounds$Search", name := "gain", desc := "(II)I" } : Jvm.MethodName)) ∈ LW := lwt3 13 rfl rfl
theorem kw532 : (Jvm.Cond.instanceMethod ({ cls := "DishRounds$Search", name := "gain", desc := "(II)I" } : Jvm.MethodName)) ∈ LW := lwt3 15 rfl rfl
theorem kw533 : (Jvm.Cond.code ({ cls := "DishRounds$Search", name := "gain", desc := "(II)I" } : Jvm.MethodName) prog_4_method_15_code (3 : Nat) (Option.some Jvm.ClassFile.FieldType.int)) ∈ LW := lwt3 16 rfl rfl
theorem kw534 : (Jvm.Cond.methodLink "DishRounds$Search" (92 : Nat) ({ cls := "DishRounds$Search", name := "follow", desc := "(LDishRounds$Way;)V" } : Jvm.MethodName)) ∈ LW := lwt3 17 rfl rfl
theorem kw536 : (Jvm.Cond.instanceMethod ({ cls := "DishRounds$Search", name := "follow", desc := "(LDishRounds$Way;)V" } : Jvm.MethodName)) ∈ LW := lwt3 19 rfl rfl
theorem kw537 : (Jvm.Cond.code ({ cls := "DishRounds$Search", name := "follow", desc := "(LDishRounds$Way;)V" } : Jvm.MethodName) prog_4_method_6_code (6 : Nat) (Option.none : Option Jvm.ClassFile.FieldType)) ∈ LW := lwt3 20 rfl rfl
theorem kw538 : (Jvm.Cond.methodLink "DishRounds$Search" (135 : Nat) ({ cls := "DishRounds$Search", name := "cell", desc := "(III)I" } : Jvm.MethodName)) ∈ LW := lwt3 21 rfl rfl
theorem kw539 : (Jvm.Cond.static ({ cls := "DishRounds$Search", name := "cell", desc := "(III)I" } : Jvm.MethodName)) ∈ LW := lwt3 22 rfl rfl
theorem kw540 : (Jvm.Cond.code ({ cls := "DishRounds$Search", name := "cell", desc := "(III)I" } : Jvm.MethodName) prog_4_method_20_code (3 : Nat) (Option.some Jvm.ClassFile.FieldType.int)) ∈ LW := lwt3 23 rfl rfl
theorem kw541 : (Jvm.Cond.methodLink "DishRounds$Search" (143 : Nat) ({ cls := "DishRounds$Way", name := "startAt", desc := "(III)V" } : Jvm.MethodName)) ∈ LW := lwt3 24 rfl rfl
theorem kw542 : (Jvm.Cond.instanceMethod ({ cls := "DishRounds$Way", name := "startAt", desc := "(III)V" } : Jvm.MethodName)) ∈ LW := lwt3 25 rfl rfl
theorem kw543 : (Jvm.Cond.selects "DishRounds$Way" ({ cls := "DishRounds$Way", name := "startAt", desc := "(III)V" } : Jvm.MethodName) ({ cls := "DishRounds$Way", name := "startAt", desc := "(III)V" } : Jvm.MethodName)) ∈ LW := lwt3 26 rfl rfl
theorem kw544 : (Jvm.Cond.code ({ cls := "DishRounds$Way", name := "startAt", desc := "(III)V" } : Jvm.MethodName) prog_6_method_3_code (4 : Nat) (Option.none : Option Jvm.ClassFile.FieldType)) ∈ LW := lwt3 27 rfl rfl
theorem kw545 : (Jvm.Cond.methodLink "DishRounds$Search" (147 : Nat) ({ cls := "DishRounds$Search", name := "nextCell", desc := "(III)I" } : Jvm.MethodName)) ∈ LW := lwt3 28 rfl rfl
theorem kw547 : (Jvm.Cond.instanceMethod ({ cls := "DishRounds$Search", name := "nextCell", desc := "(III)I" } : Jvm.MethodName)) ∈ LW := lwt3 30 rfl rfl
theorem kw548 : (Jvm.Cond.code ({ cls := "DishRounds$Search", name := "nextCell", desc := "(III)I" } : Jvm.MethodName) prog_4_method_7_code (9 : Nat) (Option.some Jvm.ClassFile.FieldType.int)) ∈ LW := lwt3 31 rfl rfl
theorem kw549 : (Jvm.Cond.methodLink "DishRounds$Search" (173 : Nat) ({ cls := "java/lang/Math", name := "abs", desc := "(I)I" } : Jvm.MethodName)) ∈ LW := lwt3 32 rfl rfl
theorem kw550 : (Jvm.Cond.methodLink "DishRounds$Search" (150 : Nat) ({ cls := "DishRounds$Way", name := "goTo", desc := "(II)V" } : Jvm.MethodName)) ∈ LW := lwt3 33 rfl rfl
theorem kw551 : (Jvm.Cond.instanceMethod ({ cls := "DishRounds$Way", name := "goTo", desc := "(II)V" } : Jvm.MethodName)) ∈ LW := lwt3 34 rfl rfl
theorem kw552 : (Jvm.Cond.selects "DishRounds$Way" ({ cls := "DishRounds$Way", name := "goTo", desc := "(II)V" } : Jvm.MethodName) ({ cls := "DishRounds$Way", name := "goTo", desc := "(II)V" } : Jvm.MethodName)) ∈ LW := lwt3 35 rfl rfl
theorem kw553 : (Jvm.Cond.code ({ cls := "DishRounds$Way", name := "goTo", desc := "(II)V" } : Jvm.MethodName) prog_6_method_4_code (3 : Nat) (Option.none : Option Jvm.ClassFile.FieldType)) ∈ LW := lwt3 36 rfl rfl
theorem kw554 : (Jvm.Cond.methodLink "DishRounds$Way" (63 : Nat) ({ cls := "java/lang/Math", name := "abs", desc := "(I)I" } : Jvm.MethodName)) ∈ LW := lwt3 37 rfl rfl
theorem kw555 : (Jvm.Cond.methodLink "DishRounds$Search" (157 : Nat) ({ cls := "DishRounds$Way", name := "see", desc := "()V" } : Jvm.MethodName)) ∈ LW := lwt3 38 rfl rfl
theorem kw556 : (Jvm.Cond.instanceMethod ({ cls := "DishRounds$Way", name := "see", desc := "()V" } : Jvm.MethodName)) ∈ LW := lwt3 39 rfl rfl
theorem kw557 : (Jvm.Cond.selects "DishRounds$Way" ({ cls := "DishRounds$Way", name := "see", desc := "()V" } : Jvm.MethodName) ({ cls := "DishRounds$Way", name := "see", desc := "()V" } : Jvm.MethodName)) ∈ LW := lwt3 40 rfl rfl
theorem kw558 : (Jvm.Cond.code ({ cls := "DishRounds$Way", name := "see", desc := "()V" } : Jvm.MethodName) prog_6_method_5_code (1 : Nat) (Option.none : Option Jvm.ClassFile.FieldType)) ∈ LW := lwt3 41 rfl rfl
theorem kw559 : (Jvm.Cond.methodLink "DishRoundsLaw" (69 : Nat) ({ cls := "DishRounds", name := "where", desc := "(IIII)I" } : Jvm.MethodName)) ∈ LW := lwt3 42 rfl rfl
theorem kw560 : (Jvm.Cond.instanceMethod ({ cls := "DishRounds", name := "where", desc := "(IIII)I" } : Jvm.MethodName)) ∈ LW := lwt3 43 rfl rfl
theorem kw561 : (Jvm.Cond.selects "DishRounds" ({ cls := "DishRounds", name := "where", desc := "(IIII)I" } : Jvm.MethodName) ({ cls := "DishRounds", name := "where", desc := "(IIII)I" } : Jvm.MethodName)) ∈ LW := lwt3 44 rfl rfl
theorem kw562 : (Jvm.Cond.code ({ cls := "DishRounds", name := "where", desc := "(IIII)I" } : Jvm.MethodName) prog_1_method_15_code (7 : Nat) (Option.some Jvm.ClassFile.FieldType.int)) ∈ LW := lwt3 45 rfl rfl
theorem kw563 : (Jvm.Cond.methodLink "DishRoundsLaw" (73 : Nat) ({ cls := "DishRounds", name := "offer", desc := "(II)I" } : Jvm.MethodName)) ∈ LW := lwt3 46 rfl rfl
theorem kw564 : (Jvm.Cond.instanceMethod ({ cls := "DishRounds", name := "offer", desc := "(II)I" } : Jvm.MethodName)) ∈ LW := lwt3 47 rfl rfl
theorem kw565 : (Jvm.Cond.selects "DishRounds" ({ cls := "DishRounds", name := "offer", desc := "(II)I" } : Jvm.MethodName) ({ cls := "DishRounds", name := "offer", desc := "(II)I" } : Jvm.MethodName)) ∈ LW := lwt3 48 rfl rfl
theorem kw566 : (Jvm.Cond.code ({ cls := "DishRounds", name := "offer", desc := "(II)I" } : Jvm.MethodName) prog_1_method_16_code (5 : Nat) (Option.some Jvm.ClassFile.FieldType.int)) ∈ LW := lwt3 49 rfl rfl
theorem kw567 : (Jvm.Cond.methodLink "DishRounds" (193 : Nat) ({ cls := "DishRounds", name := "bestDish", desc := "(LDishRounds$Flight;)I" } : Jvm.MethodName)) ∈ LW := lwt3 50 rfl rfl
theorem kw569 : (Jvm.Cond.instanceMethod ({ cls := "DishRounds", name := "bestDish", desc := "(LDishRounds$Flight;)I" } : Jvm.MethodName)) ∈ LW := lwt3 52 rfl rfl
theorem kw570 : (Jvm.Cond.code ({ cls := "DishRounds", name := "bestDish", desc := "(LDishRounds$Flight;)I" } : Jvm.MethodName) prog_1_method_32_code (5 : Nat) (Option.some Jvm.ClassFile.FieldType.int)) ∈ LW := lwt3 53 rfl rfl
theorem kw571 : (Jvm.Cond.methodLink "DishRounds" (248 : Nat) ({ cls := "DishRounds$Way", name := "isBetterThan", desc := "(LDishRounds$Way;)Z" } : Jvm.MethodName)) ∈ LW := lwt3 54 rfl rfl
theorem kw572 : (Jvm.Cond.instanceMethod ({ cls := "DishRounds$Way", name := "isBetterThan", desc := "(LDishRounds$Way;)Z" } : Jvm.MethodName)) ∈ LW := lwt3 55 rfl rfl
theorem kw573 : (Jvm.Cond.selects "DishRounds$Way" ({ cls := "DishRounds$Way", name := "isBetterThan", desc := "(LDishRounds$Way;)Z" } : Jvm.MethodName) ({ cls := "DishRounds$Way", name := "isBetterThan", desc := "(LDishRounds$Way;)Z" } : Jvm.MethodName)) ∈ LW := lwt3 56 rfl rfl
theorem kw574 : (Jvm.Cond.code ({ cls := "DishRounds$Way", name := "isBetterThan", desc := "(LDishRounds$Way;)Z" } : Jvm.MethodName) prog_6_method_6_code (2 : Nat) (Option.some Jvm.ClassFile.FieldType.boolean)) ∈ LW := lwt3 57 rfl rfl
theorem kw575 : (Jvm.Cond.methodLink "DishRoundsLaw" (77 : Nat) ({ cls := "DishRounds", name := "share", desc := "(IIII)I" } : Jvm.MethodName)) ∈ LW := lwt3 58 rfl rfl
theorem kw576 : (Jvm.Cond.instanceMethod ({ cls := "DishRounds", name := "share", desc := "(IIII)I" } : Jvm.MethodName)) ∈ LW := lwt3 59 rfl rfl
theorem kw577 : (Jvm.Cond.selects "DishRounds" ({ cls := "DishRounds", name := "share", desc := "(IIII)I" } : Jvm.MethodName) ({ cls := "DishRounds", name := "share", desc := "(IIII)I" } : Jvm.MethodName)) ∈ LW := lwt3 60 rfl rfl
theorem kw578 : (Jvm.Cond.code ({ cls := "DishRounds", name := "share", desc := "(IIII)I" } : Jvm.MethodName) prog_1_method_17_code (9 : Nat) (Option.some Jvm.ClassFile.FieldType.int)) ∈ LW := lwt3 61 rfl rfl
theorem kw579 : (Jvm.Cond.methodLink "DishRounds" (197 : Nat) ({ cls := "DishRounds$Search", name := "sharedWay", desc := "(ILDishRounds$Flight;)LDishRounds$Way;" } : Jvm.MethodName)) ∈ LW := lwt3 62 rfl rfl
theorem kw580 : (Jvm.Cond.instanceMethod ({ cls := "DishRounds$Search", name := "sharedWay", desc := "(ILDishRounds$Flight;)LDishRounds$Way;" } : Jvm.MethodName)) ∈ LW := lwt3 63 rfl rfl
theorem kw581 : (Jvm.Cond.selects "DishRounds$Search" ({ cls := "DishRounds$Search", name := "sharedWay", desc := "(ILDishRounds$Flight;)LDishRounds$Way;" } : Jvm.MethodName) ({ cls := "DishRounds$Search", name := "sharedWay", desc := "(ILDishRounds$Flight;)LDishRounds$Way;" } : Jvm.MethodName)) ∈ LW := lwt3 64 rfl rfl
theorem kw582 : (Jvm.Cond.code ({ cls := "DishRounds$Search", name := "sharedWay", desc := "(ILDishRounds$Flight;)LDishRounds$Way;" } : Jvm.MethodName) prog_4_method_4_code (4 : Nat) (Option.some (Jvm.ClassFile.FieldType.object "DishRounds$Way"))) ∈ LW := lwt3 65 rfl rfl
theorem kw583 : (Jvm.Cond.methodLink "DishRounds$Search" (100 : Nat) ({ cls := "DishRounds$Search", name := "bestWay", desc := "(ILDishRounds$Flight;)LDishRounds$Way;" } : Jvm.MethodName)) ∈ LW := lwt3 66 rfl rfl
theorem kw584 : (Jvm.Cond.methodLink "DishRounds$Search" (104 : Nat) ({ cls := "DishRounds$Search", name := "goForth", desc := "(LDishRounds$Way;)V" } : Jvm.MethodName)) ∈ LW := lwt3 67 rfl rfl
theorem kw586 : (Jvm.Cond.instanceMethod ({ cls := "DishRounds$Search", name := "goForth", desc := "(LDishRounds$Way;)V" } : Jvm.MethodName)) ∈ LW := lwt3 69 rfl rfl
theorem kw587 : (Jvm.Cond.code ({ cls := "DishRounds$Search", name := "goForth", desc := "(LDishRounds$Way;)V" } : Jvm.MethodName) prog_4_method_8_code (4 : Nat) (Option.none : Option Jvm.ClassFile.FieldType)) ∈ LW := lwt3 70 rfl rfl
theorem kw588 : (Jvm.Cond.methodLink "DishRounds$Search" (182 : Nat) ({ cls := "DishRounds$Search", name := "mostSeen", desc := "([III)I" } : Jvm.MethodName)) ∈ LW := lwt3 71 rfl rfl
theorem kw590 : (Jvm.Cond.instanceMethod ({ cls := "DishRounds$Search", name := "mostSeen", desc := "([III)I" } : Jvm.MethodName)) ∈ LW := lwt3 73 rfl rfl
theorem kw591 : (Jvm.Cond.code ({ cls := "DishRounds$Search", name := "mostSeen", desc := "([III)I" } : Jvm.MethodName) prog_4_method_17_code (7 : Nat) (Option.some Jvm.ClassFile.FieldType.int)) ∈ LW := lwt3 74 rfl rfl
theorem kw592 : (Jvm.Cond.methodLink "DishRounds" (200 : Nat) ({ cls := "DishRounds", name := "bestHandOver", desc := "(LDishRounds$Way;LDishRounds$Way;I)I" } : Jvm.MethodName)) ∈ LW := lwt3 75 rfl rfl
theorem kw593 : (Jvm.Cond.static ({ cls := "DishRounds", name := "bestHandOver", desc := "(LDishRounds$Way;LDishRounds$Way;I)I" } : Jvm.MethodName)) ∈ LW := lwt3 76 rfl rfl
theorem kw594 : (Jvm.Cond.code ({ cls := "DishRounds", name := "bestHandOver", desc := "(LDishRounds$Way;LDishRounds$Way;I)I" } : Jvm.MethodName) prog_1_method_33_code (5 : Nat) (Option.some Jvm.ClassFile.FieldType.int)) ∈ LW := lwt3 77 rfl rfl
theorem kw595 : (Jvm.Cond.methodLink "DishRoundsLaw" (81 : Nat) ({ cls := "DishRounds", name := "take", desc := "(II)I" } : Jvm.MethodName)) ∈ LW := lwt3 78 rfl rfl
theorem kw596 : (Jvm.Cond.instanceMethod ({ cls := "DishRounds", name := "take", desc := "(II)I" } : Jvm.MethodName)) ∈ LW := lwt3 79 rfl rfl
theorem kw597 : (Jvm.Cond.selects "DishRounds" ({ cls := "DishRounds", name := "take", desc := "(II)I" } : Jvm.MethodName) ({ cls := "DishRounds", name := "take", desc := "(II)I" } : Jvm.MethodName)) ∈ LW := lwt3 80 rfl rfl
theorem kw598 : (Jvm.Cond.code ({ cls := "DishRounds", name := "take", desc := "(II)I" } : Jvm.MethodName) prog_1_method_18_code (6 : Nat) (Option.some Jvm.ClassFile.FieldType.int)) ∈ LW := lwt3 81 rfl rfl
theorem kw599 : (Jvm.Cond.methodLink "DishRounds" (210 : Nat) ({ cls := "DishRounds", name := "goAlong", desc := "(ILDishRounds$Flight;LDishRounds$Way;)V" } : Jvm.MethodName)) ∈ LW := lwt3 82 rfl rfl
theorem kw601 : (Jvm.Cond.instanceMethod ({ cls := "DishRounds", name := "goAlong", desc := "(ILDishRounds$Flight;LDishRounds$Way;)V" } : Jvm.MethodName)) ∈ LW := lwt3 84 rfl rfl
theorem kw602 : (Jvm.Cond.code ({ cls := "DishRounds", name := "goAlong", desc := "(ILDishRounds$Flight;LDishRounds$Way;)V" } : Jvm.MethodName) prog_1_method_34_code (5 : Nat) (Option.none : Option Jvm.ClassFile.FieldType)) ∈ LW := lwt3 85 rfl rfl
theorem kw603 : (Jvm.Cond.methodLink "DishRoundsLaw" (85 : Nat) ({ cls := "DishRounds", name := "round", desc := "()I" } : Jvm.MethodName)) ∈ LW := lwt3 86 rfl rfl
theorem kw604 : (Jvm.Cond.instanceMethod ({ cls := "DishRounds", name := "round", desc := "()I" } : Jvm.MethodName)) ∈ LW := lwt3 87 rfl rfl
theorem kw605 : (Jvm.Cond.selects "DishRounds" ({ cls := "DishRounds", name := "round", desc := "()I" } : Jvm.MethodName) ({ cls := "DishRounds", name := "round", desc := "()I" } : Jvm.MethodName)) ∈ LW := lwt3 88 rfl rfl
theorem kw606 : (Jvm.Cond.code ({ cls := "DishRounds", name := "round", desc := "()I" } : Jvm.MethodName) prog_1_method_19_code (7 : Nat) (Option.some Jvm.ClassFile.FieldType.int)) ∈ LW := lwt3 89 rfl rfl
theorem kw607 : (Jvm.Cond.methodLink "DishRounds" (214 : Nat) ({ cls := "DishRounds$World", name := "nextOpen", desc := "(I)I" } : Jvm.MethodName)) ∈ LW := lwt3 90 rfl rfl
theorem kw608 : (Jvm.Cond.instanceMethod ({ cls := "DishRounds$World", name := "nextOpen", desc := "(I)I" } : Jvm.MethodName)) ∈ LW := lwt3 91 rfl rfl
theorem kw609 : (Jvm.Cond.selects "DishRounds$World" ({ cls := "DishRounds$World", name := "nextOpen", desc := "(I)I" } : Jvm.MethodName) ({ cls := "DishRounds$World", name := "nextOpen", desc := "(I)I" } : Jvm.MethodName)) ∈ LW := lwt3 92 rfl rfl
theorem kw610 : (Jvm.Cond.code ({ cls := "DishRounds$World", name := "nextOpen", desc := "(I)I" } : Jvm.MethodName) prog_7_method_5_code (5 : Nat) (Option.some Jvm.ClassFile.FieldType.int)) ∈ LW := lwt3 93 rfl rfl
theorem kw611 : (Jvm.Cond.methodLink "DishRounds$World" (59 : Nat) ({ cls := "DishRounds$Flight", name := "isOpen", desc := "()Z" } : Jvm.MethodName)) ∈ LW := lwt3 94 rfl rfl
theorem kw612 : (Jvm.Cond.methodLink "DishRoundsLaw" (90 : Nat) ({ cls := "DishRounds", name := "looked", desc := "(II)I" } : Jvm.MethodName)) ∈ LW := lwt3 95 rfl rfl
theorem kw613 : (Jvm.Cond.instanceMethod ({ cls := "DishRounds", name := "looked", desc := "(II)I" } : Jvm.MethodName)) ∈ LW := lwt3 96 rfl rfl
theorem kw614 : (Jvm.Cond.selects "DishRounds" ({ cls := "DishRounds", name := "looked", desc := "(II)I" } : Jvm.MethodName) ({ cls := "DishRounds", name := "looked", desc := "(II)I" } : Jvm.MethodName)) ∈ LW := lwt3 97 rfl rfl
theorem kw615 : (Jvm.Cond.code ({ cls := "DishRounds", name := "looked", desc := "(II)I" } : Jvm.MethodName) prog_1_method_20_code (3 : Nat) (Option.some Jvm.ClassFile.FieldType.int)) ∈ LW := lwt3 98 rfl rfl
theorem kw616 : (Jvm.Cond.methodLink "DishRoundsLaw" (94 : Nat) ({ cls := "DishRounds", name := "count", desc := "(I)I" } : Jvm.MethodName)) ∈ LW := lwt3 99 rfl rfl
theorem kw617 : (Jvm.Cond.instanceMethod ({ cls := "DishRounds", name := "count", desc := "(I)I" } : Jvm.MethodName)) ∈ LW := lwt3 100 rfl rfl
theorem kw618 : (Jvm.Cond.selects "DishRounds" ({ cls := "DishRounds", name := "count", desc := "(I)I" } : Jvm.MethodName) ({ cls := "DishRounds", name := "count", desc := "(I)I" } : Jvm.MethodName)) ∈ LW := lwt3 101 rfl rfl
theorem kw619 : (Jvm.Cond.code ({ cls := "DishRounds", name := "count", desc := "(I)I" } : Jvm.MethodName) prog_1_method_21_code (3 : Nat) (Option.some Jvm.ClassFile.FieldType.int)) ∈ LW := lwt3 102 rfl rfl
theorem kw620 : (Jvm.Cond.methodLink "DishRounds" (220 : Nat) ({ cls := "DishRounds$World", name := "takenFlights", desc := "()I" } : Jvm.MethodName)) ∈ LW := lwt3 103 rfl rfl
theorem kw621 : (Jvm.Cond.instanceMethod ({ cls := "DishRounds$World", name := "takenFlights", desc := "()I" } : Jvm.MethodName)) ∈ LW := lwt3 104 rfl rfl
theorem kw622 : (Jvm.Cond.selects "DishRounds$World" ({ cls := "DishRounds$World", name := "takenFlights", desc := "()I" } : Jvm.MethodName) ({ cls := "DishRounds$World", name := "takenFlights", desc := "()I" } : Jvm.MethodName)) ∈ LW := lwt3 105 rfl rfl
theorem kw623 : (Jvm.Cond.code ({ cls := "DishRounds$World", name := "takenFlights", desc := "()I" } : Jvm.MethodName) prog_7_method_6_code (3 : Nat) (Option.some Jvm.ClassFile.FieldType.int)) ∈ LW := lwt3 106 rfl rfl
theorem kw624 : (Jvm.Cond.methodLink "DishRounds$World" (66 : Nat) ({ cls := "DishRounds$Flight", name := "isTaken", desc := "()Z" } : Jvm.MethodName)) ∈ LW := lwt3 107 rfl rfl
theorem kw625 : (Jvm.Cond.methodLink "DishRounds" (224 : Nat) ({ cls := "DishRounds$World", name := "allPoints", desc := "()I" } : Jvm.MethodName)) ∈ LW := lwt3 108 rfl rfl
theorem kw626 : (Jvm.Cond.instanceMethod ({ cls := "DishRounds$World", name := "allPoints", desc := "()I" } : Jvm.MethodName)) ∈ LW := lwt3 109 rfl rfl
theorem kw627 : (Jvm.Cond.selects "DishRounds$World" ({ cls := "DishRounds$World", name := "allPoints", desc := "()I" } : Jvm.MethodName) ({ cls := "DishRounds$World", name := "allPoints", desc := "()I" } : Jvm.MethodName)) ∈ LW := lwt3 110 rfl rfl
theorem kw628 : (Jvm.Cond.code ({ cls := "DishRounds$World", name := "allPoints", desc := "()I" } : Jvm.MethodName) prog_7_method_7_code (3 : Nat) (Option.some Jvm.ClassFile.FieldType.int)) ∈ LW := lwt3 111 rfl rfl
theorem kw629 : (Jvm.Cond.methodLink "DishRounds" (227 : Nat) ({ cls := "DishRounds$World", name := "allLooks", desc := "()I" } : Jvm.MethodName)) ∈ LW := lwt3 112 rfl rfl
theorem kw630 : (Jvm.Cond.instanceMethod ({ cls := "DishRounds$World", name := "allLooks", desc := "()I" } : Jvm.MethodName)) ∈ LW := lwt3 113 rfl rfl
theorem kw631 : (Jvm.Cond.selects "DishRounds$World" ({ cls := "DishRounds$World", name := "allLooks", desc := "()I" } : Jvm.MethodName) ({ cls := "DishRounds$World", name := "allLooks", desc := "()I" } : Jvm.MethodName)) ∈ LW := lwt3 114 rfl rfl
theorem kw632 : (Jvm.Cond.code ({ cls := "DishRounds$World", name := "allLooks", desc := "()I" } : Jvm.MethodName) prog_7_method_8_code (3 : Nat) (Option.some Jvm.ClassFile.FieldType.int)) ∈ LW := lwt3 115 rfl rfl
theorem kw633 : (Jvm.Cond.methodLink "DishRounds" (230 : Nat) ({ cls := "DishRounds$World", name := "unlikeLooks", desc := "()I" } : Jvm.MethodName)) ∈ LW := lwt3 116 rfl rfl
theorem kw634 : (Jvm.Cond.instanceMethod ({ cls := "DishRounds$World", name := "unlikeLooks", desc := "()I" } : Jvm.MethodName)) ∈ LW := lwt3 117 rfl rfl
theorem kw635 : (Jvm.Cond.selects "DishRounds$World" ({ cls := "DishRounds$World", name := "unlikeLooks", desc := "()I" } : Jvm.MethodName) ({ cls := "DishRounds$World", name := "unlikeLooks", desc := "()I" } : Jvm.MethodName)) ∈ LW := lwt3 118 rfl rfl
theorem kw636 : (Jvm.Cond.code ({ cls := "DishRounds$World", name := "unlikeLooks", desc := "()I" } : Jvm.MethodName) prog_7_method_9_code (3 : Nat) (Option.some Jvm.ClassFile.FieldType.int)) ∈ LW := lwt3 119 rfl rfl
theorem kw637 : (Jvm.Cond.methodLink "DishRounds" (242 : Nat) ({ cls := "DishRounds$Sky", name := "hasStorm", desc := "()Z" } : Jvm.MethodName)) ∈ LW := lwt3 120 rfl rfl
theorem kw638 : (Jvm.Cond.instanceMethod ({ cls := "DishRounds$Sky", name := "hasStorm", desc := "()Z" } : Jvm.MethodName)) ∈ LW := lwt3 121 rfl rfl
theorem kw639 : (Jvm.Cond.selects "DishRounds$Sky" ({ cls := "DishRounds$Sky", name := "hasStorm", desc := "()Z" } : Jvm.MethodName) ({ cls := "DishRounds$Sky", name := "hasStorm", desc := "()Z" } : Jvm.MethodName)) ∈ LW := lwt3 122 rfl rfl
theorem kw640 : (Jvm.Cond.code ({ cls := "DishRounds$Sky", name := "hasStorm", desc := "()Z" } : Jvm.MethodName) prog_5_method_6_code (1 : Nat) (Option.some Jvm.ClassFile.FieldType.boolean)) ∈ LW := lwt3 123 rfl rfl
theorem kw641 : (Jvm.Cond.methodLink "DishRoundsLaw" (98 : Nat) ({ cls := "DishRounds", name := "image", desc := "(I)I" } : Jvm.MethodName)) ∈ LW := lwt3 124 rfl rfl
theorem kw642 : (Jvm.Cond.instanceMethod ({ cls := "DishRounds", name := "image", desc := "(I)I" } : Jvm.MethodName)) ∈ LW := lwt3 125 rfl rfl
theorem kw643 : (Jvm.Cond.selects "DishRounds" ({ cls := "DishRounds", name := "image", desc := "(I)I" } : Jvm.MethodName) ({ cls := "DishRounds", name := "image", desc := "(I)I" } : Jvm.MethodName)) ∈ LW := lwt3 126 rfl rfl
theorem kw644 : (Jvm.Cond.code ({ cls := "DishRounds", name := "image", desc := "(I)I" } : Jvm.MethodName) prog_1_method_22_code (2 : Nat) (Option.some Jvm.ClassFile.FieldType.int)) ∈ LW := lwt3 127 rfl rfl
theorem kw645 : (Jvm.Cond.methodLink "DishRounds" (245 : Nat) ({ cls := "DishRounds$World", name := "copyFrom", desc := "(LDishRounds$World;)V" } : Jvm.MethodName)) ∈ LW := lwt3 128 rfl rfl
theorem kw646 : (Jvm.Cond.instanceMethod ({ cls := "DishRounds$World", name := "copyFrom", desc := "(LDishRounds$World;)V" } : Jvm.MethodName)) ∈ LW := lwt3 129 rfl rfl
theorem kw647 : (Jvm.Cond.selects "DishRounds$World" ({ cls := "DishRounds$World", name := "copyFrom", desc := "(LDishRounds$World;)V" } : Jvm.MethodName) ({ cls := "DishRounds$World", name := "copyFrom", desc := "(LDishRounds$World;)V" } : Jvm.MethodName)) ∈ LW := lwt3 130 rfl rfl
theorem kw648 : (Jvm.Cond.code ({ cls := "DishRounds$World", name := "copyFrom", desc := "(LDishRounds$World;)V" } : Jvm.MethodName) prog_7_method_2_code (3 : Nat) (Option.none : Option Jvm.ClassFile.FieldType)) ∈ LW := lwt3 131 rfl rfl
theorem kw649 : (Jvm.Cond.methodLink "DishRounds$World" (40 : Nat) ({ cls := "DishRounds$Flight", name := "copyFrom", desc := "(LDishRounds$Flight;)V" } : Jvm.MethodName)) ∈ LW := lwt3 132 rfl rfl
theorem kw650 : (Jvm.Cond.instanceMethod ({ cls := "DishRounds$Flight", name := "copyFrom", desc := "(LDishRounds$Flight;)V" } : Jvm.MethodName)) ∈ LW := lwt3 133 rfl rfl
theorem kw651 : (Jvm.Cond.selects "DishRounds$Flight" ({ cls := "DishRounds$Flight", name := "copyFrom", desc := "(LDishRounds$Flight;)V" } : Jvm.MethodName) ({ cls := "DishRounds$Flight", name := "copyFrom", desc := "(LDishRounds$Flight;)V" } : Jvm.MethodName)) ∈ LW := lwt3 134 rfl rfl
theorem kw652 : (Jvm.Cond.code ({ cls := "DishRounds$Flight", name := "copyFrom", desc := "(LDishRounds$Flight;)V" } : Jvm.MethodName) prog_2_method_7_code (2 : Nat) (Option.none : Option Jvm.ClassFile.FieldType)) ∈ LW := lwt3 135 rfl rfl
theorem kw653 : (Jvm.Cond.methodLink "DishRounds$Flight" (38 : Nat) ({ cls := "java/lang/System", name := "arraycopy", desc := "(Ljava/lang/Object;ILjava/lang/Object;II)V" } : Jvm.MethodName)) ∈ LW := lwt3 136 rfl rfl
theorem kw654 : (Jvm.Cond.static ({ cls := "java/lang/System", name := "arraycopy", desc := "(Ljava/lang/Object;ILjava/lang/Object;II)V" } : Jvm.MethodName)) ∈ LW := lwt3 137 rfl rfl
theorem kw655 : (Jvm.Cond.native ({ cls := "java/lang/System", name := "arraycopy", desc := "(Ljava/lang/Object;ILjava/lang/Object;II)V" } : Jvm.MethodName)) ∈ LW := lwt3 138 rfl rfl
theorem kw656 : (Jvm.Cond.methodLink "DishRounds$World" (44 : Nat) ({ cls := "DishRounds$Mount", name := "copyFrom", desc := "(LDishRounds$Mount;)V" } : Jvm.MethodName)) ∈ LW := lwt3 139 rfl rfl
theorem kw657 : (Jvm.Cond.instanceMethod ({ cls := "DishRounds$Mount", name := "copyFrom", desc := "(LDishRounds$Mount;)V" } : Jvm.MethodName)) ∈ LW := lwt3 140 rfl rfl
theorem kw658 : (Jvm.Cond.selects "DishRounds$Mount" ({ cls := "DishRounds$Mount", name := "copyFrom", desc := "(LDishRounds$Mount;)V" } : Jvm.MethodName) ({ cls := "DishRounds$Mount", name := "copyFrom", desc := "(LDishRounds$Mount;)V" } : Jvm.MethodName)) ∈ LW := lwt3 141 rfl rfl
theorem kw659 : (Jvm.Cond.code ({ cls := "DishRounds$Mount", name := "copyFrom", desc := "(LDishRounds$Mount;)V" } : Jvm.MethodName) prog_3_method_3_code (2 : Nat) (Option.none : Option Jvm.ClassFile.FieldType)) ∈ LW := lwt3 142 rfl rfl
theorem kw660 : (Jvm.Cond.methodLink "DishRounds$Mount" (27 : Nat) ({ cls := "DishRounds$Mount", name := "turnTo", desc := "(III)V" } : Jvm.MethodName)) ∈ LW := lwt3 143 rfl rfl
theorem kw661 : (Jvm.Cond.methodLink "DishRounds$World" (47 : Nat) ({ cls := "DishRounds$Sky", name := "copyFrom", desc := "(LDishRounds$Sky;)V" } : Jvm.MethodName)) ∈ LW := lwt3 144 rfl rfl
theorem kw662 : (Jvm.Cond.instanceMethod ({ cls := "DishRounds$Sky", name := "copyFrom", desc := "(LDishRounds$Sky;)V" } : Jvm.MethodName)) ∈ LW := lwt3 145 rfl rfl
theorem kw663 : (Jvm.Cond.selects "DishRounds$Sky" ({ cls := "DishRounds$Sky", name := "copyFrom", desc := "(LDishRounds$Sky;)V" } : Jvm.MethodName) ({ cls := "DishRounds$Sky", name := "copyFrom", desc := "(LDishRounds$Sky;)V" } : Jvm.MethodName)) ∈ LW := lwt3 146 rfl rfl
theorem kw664 : (Jvm.Cond.code ({ cls := "DishRounds$Sky", name := "copyFrom", desc := "(LDishRounds$Sky;)V" } : Jvm.MethodName) prog_5_method_8_code (2 : Nat) (Option.none : Option Jvm.ClassFile.FieldType)) ∈ LW := lwt3 147 rfl rfl
theorem kw665 : (Jvm.Cond.methodLink "DishRounds$Sky" (55 : Nat) ({ cls := "DishRounds$Sky", name := "putSun", desc := "(IIII)V" } : Jvm.MethodName)) ∈ LW := lwt3 148 rfl rfl
theorem kw666 : (Jvm.Cond.methodLink "DishRounds$World" (50 : Nat) ({ cls := "java/lang/System", name := "arraycopy", desc := "(Ljava/lang/Object;ILjava/lang/Object;II)V" } : Jvm.MethodName)) ∈ LW := lwt3 149 rfl rfl
theorem kw667 : (Jvm.Cond.methodLink "DishRoundsLaw" (102 : Nat) ({ cls := "DishRounds", name := "restore", desc := "(I)I" } : Jvm.MethodName)) ∈ LW := lwt3 150 rfl rfl
theorem kw668 : (Jvm.Cond.instanceMethod ({ cls := "DishRounds", name := "restore", desc := "(I)I" } : Jvm.MethodName)) ∈ LW := lwt3 151 rfl rfl
theorem kw669 : (Jvm.Cond.selects "DishRounds" ({ cls := "DishRounds", name := "restore", desc := "(I)I" } : Jvm.MethodName) ({ cls := "DishRounds", name := "restore", desc := "(I)I" } : Jvm.MethodName)) ∈ LW := lwt3 152 rfl rfl
theorem kw670 : (Jvm.Cond.code ({ cls := "DishRounds", name := "restore", desc := "(I)I" } : Jvm.MethodName) prog_1_method_23_code (2 : Nat) (Option.some Jvm.ClassFile.FieldType.int)) ∈ LW := lwt3 153 rfl rfl
theorem kw671 : (Jvm.Cond.classLink "DishRoundsLaw" (10 : Nat) "DishRoundsModel") ∈ LW := lwt3 154 rfl rfl
theorem kw672 : (Jvm.Cond.instantiable "DishRoundsModel" (12 : Nat)) ∈ LW := lwt3 155 rfl rfl
theorem kw673 : (Jvm.Cond.methodLink "DishRoundsLaw" (12 : Nat) ({ cls := "DishRoundsModel", name := "<init>", desc := "()V" } : Jvm.MethodName)) ∈ LW := lwt3 156 rfl rfl
theorem kw674 : (Jvm.Cond.instanceMethod ({ cls := "DishRoundsModel", name := "<init>", desc := "()V" } : Jvm.MethodName)) ∈ LW := lwt3 157 rfl rfl
theorem kw675 : (Jvm.Cond.code ({ cls := "DishRoundsModel", name := "<init>", desc := "()V" } : Jvm.MethodName) prog_9_method_1_code (2 : Nat) (Option.none : Option Jvm.ClassFile.FieldType)) ∈ LW := lwt3 158 rfl rfl
theorem kw676 : (Jvm.Cond.methodLink "DishRoundsModel" (1 : Nat) ({ cls := "java/lang/Object", name := "<init>", desc := "()V" } : Jvm.MethodName)) ∈ LW := lwt3 159 rfl rfl
theorem kw677 : (Jvm.Cond.constant "DishRoundsModel" (20 : Nat) (40880 : Int32)) ∈ LW := lwt3 160 rfl rfl
theorem kw678 : (Jvm.Cond.fieldLink "DishRoundsModel" (7 : Nat) "DishRoundsModel" "state" "[I") ∈ LW := lwt3 161 rfl rfl
theorem kw679 : (Jvm.Cond.fieldLink "DishRoundsModel" (13 : Nat) "DishRoundsModel" "images" "[I") ∈ LW := lwt3 162 rfl rfl
theorem kw680 : (Jvm.Cond.fieldLink "DishRoundsModel" (16 : Nat) "DishRoundsModel" "isKept" "[Z") ∈ LW := lwt3 163 rfl rfl
theorem kw681 : (Jvm.Cond.fieldLink "DishRoundsModel" (21 : Nat) "DishRoundsModel" "best" "[I") ∈ LW := lwt3 164 rfl rfl
theorem kw682 : (Jvm.Cond.fieldLink "DishRoundsModel" (71 : Nat) "DishRoundsModel" "dish" "I") ∈ LW := lwt3 165 rfl rfl
theorem kw683 : (Jvm.Cond.fieldLink "DishRoundsModel" (61 : Nat) "DishRoundsModel" "pass" "I") ∈ LW := lwt3 166 rfl rfl
theorem kw684 : (Jvm.Cond.fieldLink "DishRoundsModel" (68 : Nat) "DishRoundsModel" "points" "I") ∈ LW := lwt3 167 rfl rfl
theorem kw685 : (Jvm.Cond.fieldLink "DishRoundsModel" (65 : Nat) "DishRoundsModel" "firstSeen" "I") ∈ LW := lwt3 168 rfl rfl
theorem kw686 : (Jvm.Cond.fieldLink "DishRoundsModel" (24 : Nat) "DishRoundsModel" "winds" "[I") ∈ LW := lwt3 169 rfl rfl
theorem kw687 : (Jvm.Cond.fieldLink "DishRoundsModel" (27 : Nat) "DishRoundsModel" "heights" "[I") ∈ LW := lwt3 170 rfl rfl
theorem kw688 : (Jvm.Cond.fieldLink "DishRoundsModel" (30 : Nat) "DishRoundsModel" "isSeen" "[Z") ∈ LW := lwt3 171 rfl rfl
theorem kw689 : (Jvm.Cond.fieldLink "DishRoundsModel" (125 : Nat) "DishRoundsModel" "offered" "I") ∈ LW := lwt3 172 rfl rfl
theorem kw715 : (Jvm.Cond.methodLink "DishRoundsLaw" (17 : Nat) ({ cls := "DishRoundsModel", name := "pass", desc := "(II)I" } : Jvm.MethodName)) ∈ LW := lwt3 198 rfl rfl
theorem kw716 : (Jvm.Cond.instanceMethod ({ cls := "DishRoundsModel", name := "pass", desc := "(II)I" } : Jvm.MethodName)) ∈ LW := lwt3 199 rfl rfl
theorem kw717 : (Jvm.Cond.selects "DishRoundsModel" ({ cls := "DishRoundsModel", name := "pass", desc := "(II)I" } : Jvm.MethodName) ({ cls := "DishRoundsModel", name := "pass", desc := "(II)I" } : Jvm.MethodName)) ∈ LW := lwt3 200 rfl rfl
theorem kw718 : (Jvm.Cond.code ({ cls := "DishRoundsModel", name := "pass", desc := "(II)I" } : Jvm.MethodName) prog_9_method_9_code (4 : Nat) (Option.some Jvm.ClassFile.FieldType.int)) ∈ LW := lwt3 201 rfl rfl
theorem kw719 : (Jvm.Cond.methodLink "DishRoundsModel" (33 : Nat) ({ cls := "DishRoundsModel", name := "in", desc := "(III)Z" } : Jvm.MethodName)) ∈ LW := lwt3 202 rfl rfl
theorem kw720 : (Jvm.Cond.static ({ cls := "DishRoundsModel", name := "in", desc := "(III)Z" } : Jvm.MethodName)) ∈ LW := lwt3 203 rfl rfl
theorem kw721 : (Jvm.Cond.code ({ cls := "DishRoundsModel", name := "in", desc := "(III)Z" } : Jvm.MethodName) prog_9_method_2_code (3 : Nat) (Option.some Jvm.ClassFile.FieldType.boolean)) ∈ LW := lwt3 204 rfl rfl
theorem kw722 : (Jvm.Cond.methodLink "DishRoundsModel" (37 : Nat) ({ cls := "DishRoundsModel", name := "passOf", desc := "(I)I" } : Jvm.MethodName)) ∈ LW := lwt3 205 rfl rfl
theorem kw724 : (Jvm.Cond.instanceMethod ({ cls := "DishRoundsModel", name := "passOf", desc := "(I)I" } : Jvm.MethodName)) ∈ LW := lwt3 207 rfl rfl
theorem kw725 : (Jvm.Cond.code ({ cls := "DishRoundsModel", name := "passOf", desc := "(I)I" } : Jvm.MethodName) prog_9_method_7_code (4 : Nat) (Option.some Jvm.ClassFile.FieldType.int)) ∈ LW := lwt3 208 rfl rfl
theorem kw726 : (Jvm.Cond.methodLink "DishRoundsLaw" (22 : Nat) ({ cls := "DishRoundsModel", name := "point", desc := "(III)I" } : Jvm.MethodName)) ∈ LW := lwt3 209 rfl rfl
theorem kw727 : (Jvm.Cond.instanceMethod ({ cls := "DishRoundsModel", name := "point", desc := "(III)I" } : Jvm.MethodName)) ∈ LW := lwt3 210 rfl rfl
theorem kw728 : (Jvm.Cond.selects "DishRoundsModel" ({ cls := "DishRoundsModel", name := "point", desc := "(III)I" } : Jvm.MethodName) ({ cls := "DishRoundsModel", name := "point", desc := "(III)I" } : Jvm.MethodName)) ∈ LW := lwt3 211 rfl rfl
theorem kw729 : (Jvm.Cond.code ({ cls := "DishRoundsModel", name := "point", desc := "(III)I" } : Jvm.MethodName) prog_9_method_10_code (6 : Nat) (Option.some Jvm.ClassFile.FieldType.int)) ∈ LW := lwt3 212 rfl rfl
theorem kw730 : (Jvm.Cond.methodLink "DishRoundsModel" (41 : Nat) ({ cls := "DishRoundsModel", name := "isDirection", desc := "(II)Z" } : Jvm.MethodName)) ∈ LW := lwt3 213 rfl rfl
theorem kw731 : (Jvm.Cond.static ({ cls := "DishRoundsModel", name := "isDirection", desc := "(II)Z" } : Jvm.MethodName)) ∈ LW := lwt3 214 rfl rfl
theorem kw732 : (Jvm.Cond.code ({ cls := "DishRoundsModel", name := "isDirection", desc := "(II)Z" } : Jvm.MethodName) prog_9_method_6_code (2 : Nat) (Option.some Jvm.ClassFile.FieldType.boolean)) ∈ LW := lwt3 215 rfl rfl
theorem kw733 : (Jvm.Cond.methodLink "DishRoundsLaw" (27 : Nat) ({ cls := "DishRoundsModel", name := "drop", desc := "(I)I" } : Jvm.MethodName)) ∈ LW := lwt3 216 rfl rfl
theorem kw734 : (Jvm.Cond.instanceMethod ({ cls := "DishRoundsModel", name := "drop", desc := "(I)I" } : Jvm.MethodName)) ∈ LW := lwt3 217 rfl rfl
theorem kw735 : (Jvm.Cond.selects "DishRoundsModel" ({ cls := "DishRoundsModel", name := "drop", desc := "(I)I" } : Jvm.MethodName) ({ cls := "DishRoundsModel", name := "drop", desc := "(I)I" } : Jvm.MethodName)) ∈ LW := lwt3 218 rfl rfl
theorem kw736 : (Jvm.Cond.code ({ cls := "DishRoundsModel", name := "drop", desc := "(I)I" } : Jvm.MethodName) prog_9_method_11_code (5 : Nat) (Option.some Jvm.ClassFile.FieldType.int)) ∈ LW := lwt3 219 rfl rfl
theorem kw737 : (Jvm.Cond.methodLink "DishRoundsLaw" (32 : Nat) ({ cls := "DishRoundsModel", name := "stand", desc := "(IIII)I" } : Jvm.MethodName)) ∈ LW := lwt3 220 rfl rfl
theorem kw738 : (Jvm.Cond.instanceMethod ({ cls := "DishRoundsModel", name := "stand", desc := "(IIII)I" } : Jvm.MethodName)) ∈ LW := lwt3 221 rfl rfl
theorem kw739 : (Jvm.Cond.selects "DishRoundsModel" ({ cls := "DishRoundsModel", name := "stand", desc := "(IIII)I" } : Jvm.MethodName) ({ cls := "DishRoundsModel", name := "stand", desc := "(IIII)I" } : Jvm.MethodName)) ∈ LW := lwt3 222 rfl rfl
theorem kw740 : (Jvm.Cond.code ({ cls := "DishRoundsModel", name := "stand", desc := "(IIII)I" } : Jvm.MethodName) prog_9_method_12_code (5 : Nat) (Option.some Jvm.ClassFile.FieldType.int)) ∈ LW := lwt3 223 rfl rfl
theorem kw741 : (Jvm.Cond.methodLink "DishRoundsModel" (45 : Nat) ({ cls := "DishRoundsModel", name := "isDish", desc := "(I)Z" } : Jvm.MethodName)) ∈ LW := lwt3 224 rfl rfl
theorem kw742 : (Jvm.Cond.static ({ cls := "DishRoundsModel", name := "isDish", desc := "(I)Z" } : Jvm.MethodName)) ∈ LW := lwt3 225 rfl rfl
theorem kw743 : (Jvm.Cond.code ({ cls := "DishRoundsModel", name := "isDish", desc := "(I)Z" } : Jvm.MethodName) prog_9_method_5_code (1 : Nat) (Option.some Jvm.ClassFile.FieldType.boolean)) ∈ LW := lwt3 226 rfl rfl
theorem kw744 : (Jvm.Cond.methodLink "DishRoundsModel" (49 : Nat) ({ cls := "DishRoundsModel", name := "isTick", desc := "(I)Z" } : Jvm.MethodName)) ∈ LW := lwt3 227 rfl rfl
theorem kw745 : (Jvm.Cond.static ({ cls := "DishRoundsModel", name := "isTick", desc := "(I)Z" } : Jvm.MethodName)) ∈ LW := lwt3 228 rfl rfl
theorem kw746 : (Jvm.Cond.code ({ cls := "DishRoundsModel", name := "isTick", desc := "(I)Z" } : Jvm.MethodName) prog_9_method_4_code (1 : Nat) (Option.some Jvm.ClassFile.FieldType.boolean)) ∈ LW := lwt3 229 rfl rfl
theorem kw747 : (Jvm.Cond.methodLink "DishRoundsLaw" (36 : Nat) ({ cls := "DishRoundsModel", name := "set", desc := "(III)I" } : Jvm.MethodName)) ∈ LW := lwt3 230 rfl rfl
theorem kw748 : (Jvm.Cond.instanceMethod ({ cls := "DishRoundsModel", name := "set", desc := "(III)I" } : Jvm.MethodName)) ∈ LW := lwt3 231 rfl rfl
theorem kw749 : (Jvm.Cond.selects "DishRoundsModel" ({ cls := "DishRoundsModel", name := "set", desc := "(III)I" } : Jvm.MethodName) ({ cls := "DishRoundsModel", name := "set", desc := "(III)I" } : Jvm.MethodName)) ∈ LW := lwt3 232 rfl rfl
theorem kw750 : (Jvm.Cond.code ({ cls := "DishRoundsModel", name := "set", desc := "(III)I" } : Jvm.MethodName) prog_9_method_13_code (6 : Nat) (Option.some Jvm.ClassFile.FieldType.int)) ∈ LW := lwt3 233 rfl rfl
theorem kw751 : (Jvm.Cond.methodLink "DishRoundsModel" (52 : Nat) ({ cls := "DishRoundsModel", name := "size", desc := "(I)I" } : Jvm.MethodName)) ∈ LW := lwt3 234 rfl rfl
theorem kw752 : (Jvm.Cond.static ({ cls := "DishRoundsModel", name := "size", desc := "(I)I" } : Jvm.MethodName)) ∈ LW := lwt3 235 rfl rfl
theorem kw753 : (Jvm.Cond.code ({ cls := "DishRoundsModel", name := "size", desc := "(I)I" } : Jvm.MethodName) prog_9_method_3_code (1 : Nat) (Option.some Jvm.ClassFile.FieldType.int)) ∈ LW := lwt3 236 rfl rfl
theorem kw754 : (Jvm.Cond.methodLink "DishRoundsLaw" (40 : Nat) ({ cls := "DishRoundsModel", name := "sun", desc := "(IIII)I" } : Jvm.MethodName)) ∈ LW := lwt3 237 rfl rfl
theorem kw755 : (Jvm.Cond.instanceMethod ({ cls := "DishRoundsModel", name := "sun", desc := "(IIII)I" } : Jvm.MethodName)) ∈ LW := lwt3 238 rfl rfl
theorem kw756 : (Jvm.Cond.selects "DishRoundsModel" ({ cls := "DishRoundsModel", name := "sun", desc := "(IIII)I" } : Jvm.MethodName) ({ cls := "DishRoundsModel", name := "sun", desc := "(IIII)I" } : Jvm.MethodName)) ∈ LW := lwt3 239 rfl rfl
theorem kw757 : (Jvm.Cond.code ({ cls := "DishRoundsModel", name := "sun", desc := "(IIII)I" } : Jvm.MethodName) prog_9_method_14_code (5 : Nat) (Option.some Jvm.ClassFile.FieldType.int)) ∈ LW := lwt4 0 rfl rfl
theorem kw758 : (Jvm.Cond.methodLink "DishRoundsLaw" (44 : Nat) ({ cls := "DishRoundsModel", name := "storm", desc := "(II)I" } : Jvm.MethodName)) ∈ LW := lwt4 1 rfl rfl
theorem kw759 : (Jvm.Cond.instanceMethod ({ cls := "DishRoundsModel", name := "storm", desc := "(II)I" } : Jvm.MethodName)) ∈ LW := lwt4 2 rfl rfl
theorem kw760 : (Jvm.Cond.selects "DishRoundsModel" ({ cls := "DishRoundsModel", name := "storm", desc := "(II)I" } : Jvm.MethodName) ({ cls := "DishRoundsModel", name := "storm", desc := "(II)I" } : Jvm.MethodName)) ∈ LW := lwt4 3 rfl rfl
theorem kw761 : (Jvm.Cond.code ({ cls := "DishRoundsModel", name := "storm", desc := "(II)I" } : Jvm.MethodName) prog_9_method_15_code (3 : Nat) (Option.some Jvm.ClassFile.FieldType.int)) ∈ LW := lwt4 4 rfl rfl
theorem kw762 : (Jvm.Cond.methodLink "DishRoundsLaw" (48 : Nat) ({ cls := "DishRoundsModel", name := "key", desc := "(I)I" } : Jvm.MethodName)) ∈ LW := lwt4 5 rfl rfl
theorem kw763 : (Jvm.Cond.instanceMethod ({ cls := "DishRoundsModel", name := "key", desc := "(I)I" } : Jvm.MethodName)) ∈ LW := lwt4 6 rfl rfl
theorem kw764 : (Jvm.Cond.selects "DishRoundsModel" ({ cls := "DishRoundsModel", name := "key", desc := "(I)I" } : Jvm.MethodName) ({ cls := "DishRoundsModel", name := "key", desc := "(I)I" } : Jvm.MethodName)) ∈ LW := lwt4 7 rfl rfl
theorem kw765 : (Jvm.Cond.code ({ cls := "DishRoundsModel", name := "key", desc := "(I)I" } : Jvm.MethodName) prog_9_method_16_code (3 : Nat) (Option.some Jvm.ClassFile.FieldType.int)) ∈ LW := lwt4 8 rfl rfl
theorem kw766 : (Jvm.Cond.methodLink "DishRoundsLaw" (52 : Nat) ({ cls := "DishRoundsModel", name := "burnt", desc := "(III)I" } : Jvm.MethodName)) ∈ LW := lwt4 9 rfl rfl
theorem kw767 : (Jvm.Cond.instanceMethod ({ cls := "DishRoundsModel", name := "burnt", desc := "(III)I" } : Jvm.MethodName)) ∈ LW := lwt4 10 rfl rfl
theorem kw768 : (Jvm.Cond.selects "DishRoundsModel" ({ cls := "DishRoundsModel", name := "burnt", desc := "(III)I" } : Jvm.MethodName) ({ cls := "DishRoundsModel", name := "burnt", desc := "(III)I" } : Jvm.MethodName)) ∈ LW := lwt4 11 rfl rfl
theorem kw769 : (Jvm.Cond.code ({ cls := "DishRoundsModel", name := "burnt", desc := "(III)I" } : Jvm.MethodName) prog_9_method_18_code (4 : Nat) (Option.some Jvm.ClassFile.FieldType.int)) ∈ LW := lwt4 12 rfl rfl
theorem kw770 : (Jvm.Cond.methodLink "DishRoundsModel" (55 : Nat) ({ cls := "DishRoundsModel", name := "isBurnt", desc := "(III)Z" } : Jvm.MethodName)) ∈ LW := lwt4 13 rfl rfl
theorem kw772 : (Jvm.Cond.instanceMethod ({ cls := "DishRoundsModel", name := "isBurnt", desc := "(III)Z" } : Jvm.MethodName)) ∈ LW := lwt4 15 rfl rfl
theorem kw773 : (Jvm.Cond.code ({ cls := "DishRoundsModel", name := "isBurnt", desc := "(III)Z" } : Jvm.MethodName) prog_9_method_17_code (7 : Nat) (Option.some Jvm.ClassFile.FieldType.boolean)) ∈ LW := lwt4 16 rfl rfl
theorem kw774 : (Jvm.Cond.methodLink "DishRoundsLaw" (56 : Nat) ({ cls := "DishRoundsModel", name := "told", desc := "(II)I" } : Jvm.MethodName)) ∈ LW := lwt4 17 rfl rfl
theorem kw775 : (Jvm.Cond.instanceMethod ({ cls := "DishRoundsModel", name := "told", desc := "(II)I" } : Jvm.MethodName)) ∈ LW := lwt4 18 rfl rfl
theorem kw776 : (Jvm.Cond.selects "DishRoundsModel" ({ cls := "DishRoundsModel", name := "told", desc := "(II)I" } : Jvm.MethodName) ({ cls := "DishRoundsModel", name := "told", desc := "(II)I" } : Jvm.MethodName)) ∈ LW := lwt4 19 rfl rfl
theorem kw777 : (Jvm.Cond.code ({ cls := "DishRoundsModel", name := "told", desc := "(II)I" } : Jvm.MethodName) prog_9_method_19_code (4 : Nat) (Option.some Jvm.ClassFile.FieldType.int)) ∈ LW := lwt4 20 rfl rfl
theorem kw778 : (Jvm.Cond.methodLink "DishRoundsLaw" (60 : Nat) ({ cls := "DishRoundsModel", name := "order", desc := "(I)I" } : Jvm.MethodName)) ∈ LW := lwt4 21 rfl rfl
theorem kw779 : (Jvm.Cond.instanceMethod ({ cls := "DishRoundsModel", name := "order", desc := "(I)I" } : Jvm.MethodName)) ∈ LW := lwt4 22 rfl rfl
theorem kw780 : (Jvm.Cond.selects "DishRoundsModel" ({ cls := "DishRoundsModel", name := "order", desc := "(I)I" } : Jvm.MethodName) ({ cls := "DishRoundsModel", name := "order", desc := "(I)I" } : Jvm.MethodName)) ∈ LW := lwt4 23 rfl rfl
theorem kw781 : (Jvm.Cond.code ({ cls := "DishRoundsModel", name := "order", desc := "(I)I" } : Jvm.MethodName) prog_9_method_20_code (2 : Nat) (Option.some Jvm.ClassFile.FieldType.int)) ∈ LW := lwt4 24 rfl rfl
theorem kw782 : (Jvm.Cond.methodLink "DishRoundsLaw" (64 : Nat) ({ cls := "DishRoundsModel", name := "dish", desc := "(II)I" } : Jvm.MethodName)) ∈ LW := lwt4 25 rfl rfl
theorem kw783 : (Jvm.Cond.instanceMethod ({ cls := "DishRoundsModel", name := "dish", desc := "(II)I" } : Jvm.MethodName)) ∈ LW := lwt4 26 rfl rfl
theorem kw784 : (Jvm.Cond.selects "DishRoundsModel" ({ cls := "DishRoundsModel", name := "dish", desc := "(II)I" } : Jvm.MethodName) ({ cls := "DishRoundsModel", name := "dish", desc := "(II)I" } : Jvm.MethodName)) ∈ LW := lwt4 27 rfl rfl
theorem kw785 : (Jvm.Cond.code ({ cls := "DishRoundsModel", name := "dish", desc := "(II)I" } : Jvm.MethodName) prog_9_method_21_code (3 : Nat) (Option.some Jvm.ClassFile.FieldType.int)) ∈ LW := lwt4 28 rfl rfl
theorem kw786 : (Jvm.Cond.methodLink "DishRoundsModel" (58 : Nat) ({ cls := "DishRoundsModel", name := "sideOf", desc := "(I)I" } : Jvm.MethodName)) ∈ LW := lwt4 29 rfl rfl
theorem kw787 : (Jvm.Cond.static ({ cls := "DishRoundsModel", name := "sideOf", desc := "(I)I" } : Jvm.MethodName)) ∈ LW := lwt4 30 rfl rfl
theorem kw788 : (Jvm.Cond.code ({ cls := "DishRoundsModel", name := "sideOf", desc := "(I)I" } : Jvm.MethodName) prog_9_method_8_code (1 : Nat) (Option.some Jvm.ClassFile.FieldType.int)) ∈ LW := lwt4 31 rfl rfl
theorem kw789 : (Jvm.Cond.methodLink "DishRoundsLaw" (68 : Nat) ({ cls := "DishRoundsModel", name := "way", desc := "(III)I" } : Jvm.MethodName)) ∈ LW := lwt4 32 rfl rfl
theorem kw790 : (Jvm.Cond.instanceMethod ({ cls := "DishRoundsModel", name := "way", desc := "(III)I" } : Jvm.MethodName)) ∈ LW := lwt4 33 rfl rfl
theorem kw791 : (Jvm.Cond.selects "DishRoundsModel" ({ cls := "DishRoundsModel", name := "way", desc := "(III)I" } : Jvm.MethodName) ({ cls := "DishRoundsModel", name := "way", desc := "(III)I" } : Jvm.MethodName)) ∈ LW := lwt4 34 rfl rfl
theorem kw792 : (Jvm.Cond.code ({ cls := "DishRoundsModel", name := "way", desc := "(III)I" } : Jvm.MethodName) prog_9_method_36_code (6 : Nat) (Option.some Jvm.ClassFile.FieldType.int)) ∈ LW := lwt4 35 rfl rfl
theorem kw793 : (Jvm.Cond.methodLink "DishRoundsModel" (108 : Nat) ({ cls := "DishRoundsModel", name := "isOpen", desc := "(I)Z" } : Jvm.MethodName)) ∈ LW := lwt4 36 rfl rfl
theorem kw795 : (Jvm.Cond.instanceMethod ({ cls := "DishRoundsModel", name := "isOpen", desc := "(I)Z" } : Jvm.MethodName)) ∈ LW := lwt4 38 rfl rfl
theorem kw796 : (Jvm.Cond.code ({ cls := "DishRoundsModel", name := "isOpen", desc := "(I)Z" } : Jvm.MethodName) prog_9_method_34_code (2 : Nat) (Option.some Jvm.ClassFile.FieldType.boolean)) ∈ LW := lwt4 39 rfl rfl
theorem kw797 : (Jvm.Cond.methodLink "DishRoundsModel" (111 : Nat) ({ cls := "DishRoundsModel", name := "layAll", desc := "(II)I" } : Jvm.MethodName)) ∈ LW := lwt4 40 rfl rfl
theorem kw799 : (Jvm.Cond.instanceMethod ({ cls := "DishRoundsModel", name := "layAll", desc := "(II)I" } : Jvm.MethodName)) ∈ LW := lwt4 42 rfl rfl
theorem kw800 : (Jvm.Cond.code ({ cls := "DishRoundsModel", name := "layAll", desc := "(II)I" } : Jvm.MethodName) prog_9_method_33_code (3 : Nat) (Option.some Jvm.ClassFile.FieldType.int)) ∈ LW := lwt4 43 rfl rfl
theorem kw801 : (Jvm.Cond.methodLink "DishRoundsModel" (104 : Nat) ({ cls := "DishRoundsModel", name := "lay", desc := "(IIII)I" } : Jvm.MethodName)) ∈ LW := lwt4 44 rfl rfl
theorem kw803 : (Jvm.Cond.instanceMethod ({ cls := "DishRoundsModel", name := "lay", desc := "(IIII)I" } : Jvm.MethodName)) ∈ LW := lwt4 46 rfl rfl
theorem kw804 : (Jvm.Cond.code ({ cls := "DishRoundsModel", name := "lay", desc := "(IIII)I" } : Jvm.MethodName) prog_9_method_28_code (10 : Nat) (Option.some Jvm.ClassFile.FieldType.int)) ∈ LW := lwt4 47 rfl rfl
theorem kw805 : (Jvm.Cond.methodLink "DishRoundsModel" (82 : Nat) ({ cls := "DishRoundsModel", name := "lastTick", desc := "()I" } : Jvm.MethodName)) ∈ LW := lwt4 48 rfl rfl
theorem kw807 : (Jvm.Cond.instanceMethod ({ cls := "DishRoundsModel", name := "lastTick", desc := "()I" } : Jvm.MethodName)) ∈ LW := lwt4 50 rfl rfl
theorem kw808 : (Jvm.Cond.code ({ cls := "DishRoundsModel", name := "lastTick", desc := "()I" } : Jvm.MethodName) prog_9_method_25_code (1 : Nat) (Option.some Jvm.ClassFile.FieldType.int)) ∈ LW := lwt4 51 rfl rfl
theorem kw809 : (Jvm.Cond.constant "DishRoundsModel" (74 : Nat) (-1000000 : Int32)) ∈ LW := lwt4 52 rfl rfl
theorem kw810 : (Jvm.Cond.methodLink "DishRoundsModel" (75 : Nat) ({ cls := "DishRoundsModel", name := "placeOf", desc := "(II)I" } : Jvm.MethodName)) ∈ LW := lwt4 53 rfl rfl
theorem kw811 : (Jvm.Cond.static ({ cls := "DishRoundsModel", name := "placeOf", desc := "(II)I" } : Jvm.MethodName)) ∈ LW := lwt4 54 rfl rfl
theorem kw812 : (Jvm.Cond.code ({ cls := "DishRoundsModel", name := "placeOf", desc := "(II)I" } : Jvm.MethodName) prog_9_method_22_code (2 : Nat) (Option.some Jvm.ClassFile.FieldType.int)) ∈ LW := lwt4 55 rfl rfl
theorem kw813 : (Jvm.Cond.methodLink "DishRoundsModel" (90 : Nat) ({ cls := "DishRoundsModel", name := "mayStand", desc := "(III)Z" } : Jvm.MethodName)) ∈ LW := lwt4 56 rfl rfl
theorem kw815 : (Jvm.Cond.instanceMethod ({ cls := "DishRoundsModel", name := "mayStand", desc := "(III)Z" } : Jvm.MethodName)) ∈ LW := lwt4 58 rfl rfl
theorem kw816 : (Jvm.Cond.code ({ cls := "DishRoundsModel", name := "mayStand", desc := "(III)Z" } : Jvm.MethodName) prog_9_method_24_code (5 : Nat) (Option.some Jvm.ClassFile.FieldType.boolean)) ∈ LW := lwt4 59 rfl rfl
theorem kw817 : (Jvm.Cond.methodLink "DishRoundsModel" (93 : Nat) ({ cls := "DishRoundsModel", name := "from", desc := "(III)I" } : Jvm.MethodName)) ∈ LW := lwt4 60 rfl rfl
theorem kw819 : (Jvm.Cond.instanceMethod ({ cls := "DishRoundsModel", name := "from", desc := "(III)I" } : Jvm.MethodName)) ∈ LW := lwt4 62 rfl rfl
theorem kw820 : (Jvm.Cond.code ({ cls := "DishRoundsModel", name := "from", desc := "(III)I" } : Jvm.MethodName) prog_9_method_27_code (10 : Nat) (Option.some Jvm.ClassFile.FieldType.int)) ∈ LW := lwt4 63 rfl rfl
theorem kw821 : (Jvm.Cond.methodLink "DishRoundsModel" (79 : Nat) ({ cls := "DishRoundsModel", name := "sees", desc := "(III)Z" } : Jvm.MethodName)) ∈ LW := lwt4 64 rfl rfl
theorem kw823 : (Jvm.Cond.instanceMethod ({ cls := "DishRoundsModel", name := "sees", desc := "(III)Z" } : Jvm.MethodName)) ∈ LW := lwt4 66 rfl rfl
theorem kw824 : (Jvm.Cond.code ({ cls := "DishRoundsModel", name := "sees", desc := "(III)Z" } : Jvm.MethodName) prog_9_method_23_code (6 : Nat) (Option.some Jvm.ClassFile.FieldType.boolean)) ∈ LW := lwt4 67 rfl rfl
theorem kw825 : (Jvm.Cond.methodLink "DishRoundsModel" (86 : Nat) ({ cls := "DishRoundsModel", name := "goTo", desc := "(IIIII)I" } : Jvm.MethodName)) ∈ LW := lwt4 68 rfl rfl
theorem kw827 : (Jvm.Cond.instanceMethod ({ cls := "DishRoundsModel", name := "goTo", desc := "(IIIII)I" } : Jvm.MethodName)) ∈ LW := lwt4 70 rfl rfl
theorem kw828 : (Jvm.Cond.code ({ cls := "DishRoundsModel", name := "goTo", desc := "(IIIII)I" } : Jvm.MethodName) prog_9_method_26_code (7 : Nat) (Option.some Jvm.ClassFile.FieldType.int)) ∈ LW := lwt4 71 rfl rfl
theorem kw829 : (Jvm.Cond.methodLink "DishRoundsModel" (114 : Nat) ({ cls := "DishRoundsModel", name := "walk", desc := "(I)V" } : Jvm.MethodName)) ∈ LW := lwt4 72 rfl rfl
theorem kw831 : (Jvm.Cond.instanceMethod ({ cls := "DishRoundsModel", name := "walk", desc := "(I)V" } : Jvm.MethodName)) ∈ LW := lwt4 74 rfl rfl
theorem kw832 : (Jvm.Cond.code ({ cls := "DishRoundsModel", name := "walk", desc := "(I)V" } : Jvm.MethodName) prog_9_method_32_code (4 : Nat) (Option.none : Option Jvm.ClassFile.FieldType)) ∈ LW := lwt4 75 rfl rfl
theorem kw833 : (Jvm.Cond.methodLink "DishRoundsModel" (100 : Nat) ({ cls := "DishRoundsModel", name := "stepFrom", desc := "(II)V" } : Jvm.MethodName)) ∈ LW := lwt4 76 rfl rfl
theorem kw835 : (Jvm.Cond.instanceMethod ({ cls := "DishRoundsModel", name := "stepFrom", desc := "(II)V" } : Jvm.MethodName)) ∈ LW := lwt4 78 rfl rfl
theorem kw836 : (Jvm.Cond.code ({ cls := "DishRoundsModel", name := "stepFrom", desc := "(II)V" } : Jvm.MethodName) prog_9_method_31_code (9 : Nat) (Option.none : Option Jvm.ClassFile.FieldType)) ∈ LW := lwt4 79 rfl rfl
theorem kw837 : (Jvm.Cond.methodLink "DishRoundsModel" (97 : Nat) ({ cls := "DishRoundsModel", name := "seenOf", desc := "(I)I" } : Jvm.MethodName)) ∈ LW := lwt4 80 rfl rfl
theorem kw838 : (Jvm.Cond.static ({ cls := "DishRoundsModel", name := "seenOf", desc := "(I)I" } : Jvm.MethodName)) ∈ LW := lwt4 81 rfl rfl
theorem kw839 : (Jvm.Cond.code ({ cls := "DishRoundsModel", name := "seenOf", desc := "(I)I" } : Jvm.MethodName) prog_9_method_29_code (1 : Nat) (Option.some Jvm.ClassFile.FieldType.int)) ∈ LW := lwt4 82 rfl rfl
theorem kw840 : (Jvm.Cond.methodLink "DishRoundsModel" (118 : Nat) ({ cls := "DishRoundsModel", name := "stepsOf", desc := "(I)I" } : Jvm.MethodName)) ∈ LW := lwt4 83 rfl rfl
theorem kw841 : (Jvm.Cond.static ({ cls := "DishRoundsModel", name := "stepsOf", desc := "(I)I" } : Jvm.MethodName)) ∈ LW := lwt4 84 rfl rfl
theorem kw842 : (Jvm.Cond.code ({ cls := "DishRoundsModel", name := "stepsOf", desc := "(I)I" } : Jvm.MethodName) prog_9_method_30_code (1 : Nat) (Option.some Jvm.ClassFile.FieldType.int)) ∈ LW := lwt4 85 rfl rfl
theorem kw843 : (Jvm.Cond.methodLink "DishRoundsModel" (121 : Nat) ({ cls := "DishRoundsModel", name := "seenTick", desc := "(Z)I" } : Jvm.MethodName)) ∈ LW := lwt4 86 rfl rfl
theorem kw845 : (Jvm.Cond.instanceMethod ({ cls := "DishRoundsModel", name := "seenTick", desc := "(Z)I" } : Jvm.MethodName)) ∈ LW := lwt4 88 rfl rfl
theorem kw846 : (Jvm.Cond.code ({ cls := "DishRoundsModel", name := "seenTick", desc := "(Z)I" } : Jvm.MethodName) prog_9_method_35_code (4 : Nat) (Option.some Jvm.ClassFile.FieldType.int)) ∈ LW := lwt4 89 rfl rfl
theorem kw847 : (Jvm.Cond.methodLink "DishRoundsLaw" (72 : Nat) ({ cls := "DishRoundsModel", name := "where", desc := "(IIII)I" } : Jvm.MethodName)) ∈ LW := lwt4 90 rfl rfl
theorem kw848 : (Jvm.Cond.instanceMethod ({ cls := "DishRoundsModel", name := "where", desc := "(IIII)I" } : Jvm.MethodName)) ∈ LW := lwt4 91 rfl rfl
theorem kw849 : (Jvm.Cond.selects "DishRoundsModel" ({ cls := "DishRoundsModel", name := "where", desc := "(IIII)I" } : Jvm.MethodName) ({ cls := "DishRoundsModel", name := "where", desc := "(IIII)I" } : Jvm.MethodName)) ∈ LW := lwt4 92 rfl rfl
theorem kw850 : (Jvm.Cond.code ({ cls := "DishRoundsModel", name := "where", desc := "(IIII)I" } : Jvm.MethodName) prog_9_method_37_code (7 : Nat) (Option.some Jvm.ClassFile.FieldType.int)) ∈ LW := lwt4 93 rfl rfl
theorem kw851 : (Jvm.Cond.methodLink "DishRoundsLaw" (76 : Nat) ({ cls := "DishRoundsModel", name := "offer", desc := "(II)I" } : Jvm.MethodName)) ∈ LW := lwt4 94 rfl rfl
theorem kw852 : (Jvm.Cond.instanceMethod ({ cls := "DishRoundsModel", name := "offer", desc := "(II)I" } : Jvm.MethodName)) ∈ LW := lwt4 95 rfl rfl
theorem kw853 : (Jvm.Cond.selects "DishRoundsModel" ({ cls := "DishRoundsModel", name := "offer", desc := "(II)I" } : Jvm.MethodName) ({ cls := "DishRoundsModel", name := "offer", desc := "(II)I" } : Jvm.MethodName)) ∈ LW := lwt4 96 rfl rfl
theorem kw854 : (Jvm.Cond.code ({ cls := "DishRoundsModel", name := "offer", desc := "(II)I" } : Jvm.MethodName) prog_9_method_39_code (5 : Nat) (Option.some Jvm.ClassFile.FieldType.int)) ∈ LW := lwt4 97 rfl rfl
theorem kw855 : (Jvm.Cond.methodLink "DishRoundsModel" (128 : Nat) ({ cls := "DishRoundsModel", name := "offerOf", desc := "(I)I" } : Jvm.MethodName)) ∈ LW := lwt4 98 rfl rfl
theorem kw857 : (Jvm.Cond.instanceMethod ({ cls := "DishRoundsModel", name := "offerOf", desc := "(I)I" } : Jvm.MethodName)) ∈ LW := lwt4 100 rfl rfl
theorem kw858 : (Jvm.Cond.code ({ cls := "DishRoundsModel", name := "offerOf", desc := "(I)I" } : Jvm.MethodName) prog_9_method_38_code (5 : Nat) (Option.some Jvm.ClassFile.FieldType.int)) ∈ LW := lwt4 101 rfl rfl
theorem kw859 : (Jvm.Cond.methodLink "DishRoundsLaw" (80 : Nat) ({ cls := "DishRoundsModel", name := "share", desc := "(IIII)I" } : Jvm.MethodName)) ∈ LW := lwt4 102 rfl rfl
theorem kw860 : (Jvm.Cond.instanceMethod ({ cls := "DishRoundsModel", name := "share", desc := "(IIII)I" } : Jvm.MethodName)) ∈ LW := lwt4 103 rfl rfl
theorem kw861 : (Jvm.Cond.selects "DishRoundsModel" ({ cls := "DishRoundsModel", name := "share", desc := "(IIII)I" } : Jvm.MethodName) ({ cls := "DishRoundsModel", name := "share", desc := "(IIII)I" } : Jvm.MethodName)) ∈ LW := lwt4 104 rfl rfl
theorem kw862 : (Jvm.Cond.code ({ cls := "DishRoundsModel", name := "share", desc := "(IIII)I" } : Jvm.MethodName) prog_9_method_41_code (10 : Nat) (Option.some Jvm.ClassFile.FieldType.int)) ∈ LW := lwt4 105 rfl rfl
theorem kw863 : (Jvm.Cond.methodLink "DishRoundsModel" (131 : Nat) ({ cls := "DishRoundsModel", name := "seenBy", desc := "(IIII)I" } : Jvm.MethodName)) ∈ LW := lwt4 106 rfl rfl
theorem kw865 : (Jvm.Cond.instanceMethod ({ cls := "DishRoundsModel", name := "seenBy", desc := "(IIII)I" } : Jvm.MethodName)) ∈ LW := lwt4 108 rfl rfl
theorem kw866 : (Jvm.Cond.code ({ cls := "DishRoundsModel", name := "seenBy", desc := "(IIII)I" } : Jvm.MethodName) prog_9_method_40_code (6 : Nat) (Option.some Jvm.ClassFile.FieldType.int)) ∈ LW := lwt4 109 rfl rfl
theorem kw867 : (Jvm.Cond.methodLink "DishRoundsLaw" (84 : Nat) ({ cls := "DishRoundsModel", name := "take", desc := "(II)I" } : Jvm.MethodName)) ∈ LW := lwt4 110 rfl rfl
theorem kw868 : (Jvm.Cond.instanceMethod ({ cls := "DishRoundsModel", name := "take", desc := "(II)I" } : Jvm.MethodName)) ∈ LW := lwt4 111 rfl rfl
theorem kw869 : (Jvm.Cond.selects "DishRoundsModel" ({ cls := "DishRoundsModel", name := "take", desc := "(II)I" } : Jvm.MethodName) ({ cls := "DishRoundsModel", name := "take", desc := "(II)I" } : Jvm.MethodName)) ∈ LW := lwt4 112 rfl rfl
theorem kw870 : (Jvm.Cond.code ({ cls := "DishRoundsModel", name := "take", desc := "(II)I" } : Jvm.MethodName) prog_9_method_43_code (4 : Nat) (Option.some Jvm.ClassFile.FieldType.int)) ∈ LW := lwt4 113 rfl rfl
theorem kw871 : (Jvm.Cond.methodLink "DishRoundsModel" (134 : Nat) ({ cls := "DishRoundsModel", name := "takeBy", desc := "(II)I" } : Jvm.MethodName)) ∈ LW := lwt4 114 rfl rfl
theorem kw873 : (Jvm.Cond.instanceMethod ({ cls := "DishRoundsModel", name := "takeBy", desc := "(II)I" } : Jvm.MethodName)) ∈ LW := lwt4 116 rfl rfl
theorem kw874 : (Jvm.Cond.code ({ cls := "DishRoundsModel", name := "takeBy", desc := "(II)I" } : Jvm.MethodName) prog_9_method_42_code (5 : Nat) (Option.some Jvm.ClassFile.FieldType.int)) ∈ LW := lwt4 117 rfl rfl
theorem kw875 : (Jvm.Cond.methodLink "DishRoundsLaw" (89 : Nat) ({ cls := "DishRoundsModel", name := "round", desc := "()I" } : Jvm.MethodName)) ∈ LW := lwt4 118 rfl rfl
theorem kw876 : (Jvm.Cond.instanceMethod ({ cls := "DishRoundsModel", name := "round", desc := "()I" } : Jvm.MethodName)) ∈ LW := lwt4 119 rfl rfl
theorem kw877 : (Jvm.Cond.selects "DishRoundsModel" ({ cls := "DishRoundsModel", name := "round", desc := "()I" } : Jvm.MethodName) ({ cls := "DishRoundsModel", name := "round", desc := "()I" } : Jvm.MethodName)) ∈ LW := lwt4 120 rfl rfl
theorem kw878 : (Jvm.Cond.code ({ cls := "DishRoundsModel", name := "round", desc := "()I" } : Jvm.MethodName) prog_9_method_45_code (4 : Nat) (Option.some Jvm.ClassFile.FieldType.int)) ∈ LW := lwt4 121 rfl rfl
theorem kw879 : (Jvm.Cond.methodLink "DishRoundsModel" (137 : Nat) ({ cls := "DishRoundsModel", name := "nextPass", desc := "(II)I" } : Jvm.MethodName)) ∈ LW := lwt4 122 rfl rfl
theorem kw881 : (Jvm.Cond.instanceMethod ({ cls := "DishRoundsModel", name := "nextPass", desc := "(II)I" } : Jvm.MethodName)) ∈ LW := lwt4 124 rfl rfl
theorem kw882 : (Jvm.Cond.code ({ cls := "DishRoundsModel", name := "nextPass", desc := "(II)I" } : Jvm.MethodName) prog_9_method_44_code (7 : Nat) (Option.some Jvm.ClassFile.FieldType.int)) ∈ LW := lwt4 125 rfl rfl
theorem kw883 : (Jvm.Cond.methodLink "DishRoundsLaw" (93 : Nat) ({ cls := "DishRoundsModel", name := "looked", desc := "(II)I" } : Jvm.MethodName)) ∈ LW := lwt4 126 rfl rfl
theorem kw884 : (Jvm.Cond.instanceMethod ({ cls := "DishRoundsModel", name := "looked", desc := "(II)I" } : Jvm.MethodName)) ∈ LW := lwt4 127 rfl rfl
theorem kw885 : (Jvm.Cond.selects "DishRoundsModel" ({ cls := "DishRoundsModel", name := "looked", desc := "(II)I" } : Jvm.MethodName) ({ cls := "DishRoundsModel", name := "looked", desc := "(II)I" } : Jvm.MethodName)) ∈ LW := lwt4 128 rfl rfl
theorem kw886 : (Jvm.Cond.code ({ cls := "DishRoundsModel", name := "looked", desc := "(II)I" } : Jvm.MethodName) prog_9_method_46_code (3 : Nat) (Option.some Jvm.ClassFile.FieldType.int)) ∈ LW := lwt4 129 rfl rfl
theorem kw887 : (Jvm.Cond.methodLink "DishRoundsLaw" (97 : Nat) ({ cls := "DishRoundsModel", name := "count", desc := "(I)I" } : Jvm.MethodName)) ∈ LW := lwt4 130 rfl rfl
theorem kw888 : (Jvm.Cond.instanceMethod ({ cls := "DishRoundsModel", name := "count", desc := "(I)I" } : Jvm.MethodName)) ∈ LW := lwt4 131 rfl rfl
theorem kw889 : (Jvm.Cond.selects "DishRoundsModel" ({ cls := "DishRoundsModel", name := "count", desc := "(I)I" } : Jvm.MethodName) ({ cls := "DishRoundsModel", name := "count", desc := "(I)I" } : Jvm.MethodName)) ∈ LW := lwt4 132 rfl rfl
theorem kw890 : (Jvm.Cond.code ({ cls := "DishRoundsModel", name := "count", desc := "(I)I" } : Jvm.MethodName) prog_9_method_50_code (2 : Nat) (Option.some Jvm.ClassFile.FieldType.int)) ∈ LW := lwt4 133 rfl rfl
theorem kw891 : (Jvm.Cond.methodLink "DishRoundsModel" (140 : Nat) ({ cls := "DishRoundsModel", name := "takenOnes", desc := "()I" } : Jvm.MethodName)) ∈ LW := lwt4 134 rfl rfl
theorem kw893 : (Jvm.Cond.instanceMethod ({ cls := "DishRoundsModel", name := "takenOnes", desc := "()I" } : Jvm.MethodName)) ∈ LW := lwt4 136 rfl rfl
theorem kw894 : (Jvm.Cond.code ({ cls := "DishRoundsModel", name := "takenOnes", desc := "()I" } : Jvm.MethodName) prog_9_method_47_code (3 : Nat) (Option.some Jvm.ClassFile.FieldType.int)) ∈ LW := lwt4 137 rfl rfl
theorem kw895 : (Jvm.Cond.methodLink "DishRoundsModel" (143 : Nat) ({ cls := "DishRoundsModel", name := "pointsOfAll", desc := "()I" } : Jvm.MethodName)) ∈ LW := lwt4 138 rfl rfl
theorem kw897 : (Jvm.Cond.instanceMethod ({ cls := "DishRoundsModel", name := "pointsOfAll", desc := "()I" } : Jvm.MethodName)) ∈ LW := lwt4 140 rfl rfl
theorem kw898 : (Jvm.Cond.code ({ cls := "DishRoundsModel", name := "pointsOfAll", desc := "()I" } : Jvm.MethodName) prog_9_method_48_code (3 : Nat) (Option.some Jvm.ClassFile.FieldType.int)) ∈ LW := lwt4 141 rfl rfl
theorem kw899 : (Jvm.Cond.methodLink "DishRoundsModel" (146 : Nat) ({ cls := "DishRoundsModel", name := "looks", desc := "(Z)I" } : Jvm.MethodName)) ∈ LW := lwt4 142 rfl rfl
theorem kw901 : (Jvm.Cond.instanceMethod ({ cls := "DishRoundsModel", name := "looks", desc := "(Z)I" } : Jvm.MethodName)) ∈ LW := lwt4 144 rfl rfl
theorem kw902 : (Jvm.Cond.code ({ cls := "DishRoundsModel", name := "looks", desc := "(Z)I" } : Jvm.MethodName) prog_9_method_49_code (4 : Nat) (Option.some Jvm.ClassFile.FieldType.int)) ∈ LW := lwt4 145 rfl rfl
theorem kw903 : (Jvm.Cond.methodLink "DishRoundsLaw" (101 : Nat) ({ cls := "DishRoundsModel", name := "image", desc := "(I)I" } : Jvm.MethodName)) ∈ LW := lwt4 146 rfl rfl
theorem kw904 : (Jvm.Cond.instanceMethod ({ cls := "DishRoundsModel", name := "image", desc := "(I)I" } : Jvm.MethodName)) ∈ LW := lwt4 147 rfl rfl
theorem kw905 : (Jvm.Cond.selects "DishRoundsModel" ({ cls := "DishRoundsModel", name := "image", desc := "(I)I" } : Jvm.MethodName) ({ cls := "DishRoundsModel", name := "image", desc := "(I)I" } : Jvm.MethodName)) ∈ LW := lwt4 148 rfl rfl
theorem kw906 : (Jvm.Cond.code ({ cls := "DishRoundsModel", name := "image", desc := "(I)I" } : Jvm.MethodName) prog_9_method_51_code (3 : Nat) (Option.some Jvm.ClassFile.FieldType.int)) ∈ LW := lwt4 149 rfl rfl
theorem kw907 : (Jvm.Cond.methodLink "DishRoundsLaw" (105 : Nat) ({ cls := "DishRoundsModel", name := "restore", desc := "(I)I" } : Jvm.MethodName)) ∈ LW := lwt4 150 rfl rfl
theorem kw908 : (Jvm.Cond.instanceMethod ({ cls := "DishRoundsModel", name := "restore", desc := "(I)I" } : Jvm.MethodName)) ∈ LW := lwt4 151 rfl rfl
theorem kw909 : (Jvm.Cond.selects "DishRoundsModel" ({ cls := "DishRoundsModel", name := "restore", desc := "(I)I" } : Jvm.MethodName) ({ cls := "DishRoundsModel", name := "restore", desc := "(I)I" } : Jvm.MethodName)) ∈ LW := lwt4 152 rfl rfl
theorem kw910 : (Jvm.Cond.code ({ cls := "DishRoundsModel", name := "restore", desc := "(I)I" } : Jvm.MethodName) prog_9_method_52_code (3 : Nat) (Option.some Jvm.ClassFile.FieldType.int)) ∈ LW := lwt4 153 rfl rfl
theorem kw0 : Cond.selects "DishRounds$Search" ⟨"DishRounds$Search", "goBack", "()V"⟩ ⟨"DishRounds$Search", "goBack", "()V"⟩ ∈ LW := lwm 0 rfl rfl
theorem kw1 : Cond.selects "DishRounds$Search" ⟨"DishRounds$Search", "reach", "([III)V"⟩ ⟨"DishRounds$Search", "reach", "([III)V"⟩ ∈ LW := lwm 1 rfl rfl
theorem kw2 : Cond.selects "DishRounds$Search" ⟨"DishRounds$Search", "lowWind", "(I)I"⟩ ⟨"DishRounds$Search", "lowWind", "(I)I"⟩ ∈ LW := lwm 2 rfl rfl
theorem kw3 : Cond.selects "DishRounds$Search" ⟨"DishRounds$Search", "highWind", "(I)I"⟩ ⟨"DishRounds$Search", "highWind", "(I)I"⟩ ∈ LW := lwm 3 rfl rfl
theorem kw4 : Cond.selects "DishRounds$Search" ⟨"DishRounds$Search", "tilt", "([IIII)V"⟩ ⟨"DishRounds$Search", "tilt", "([IIII)V"⟩ ∈ LW := lwm 4 rfl rfl
theorem kw5 : Cond.selects "DishRounds$Search" ⟨"DishRounds$Search", "turn", "(II)V"⟩ ⟨"DishRounds$Search", "turn", "(II)V"⟩ ∈ LW := lwm 5 rfl rfl
theorem kw6 : Cond.selects "DishRounds$Search" ⟨"DishRounds$Search", "enterRow", "([III)V"⟩ ⟨"DishRounds$Search", "enterRow", "([III)V"⟩ ∈ LW := lwm 6 rfl rfl
theorem kw7 : Cond.selects "DishRounds$Search" ⟨"DishRounds$Search", "aimAt", "(I)V"⟩ ⟨"DishRounds$Search", "aimAt", "(I)V"⟩ ∈ LW := lwm 7 rfl rfl
theorem kw8 : Cond.selects "DishRounds$Search" ⟨"DishRounds$Search", "pointOf", "(I)I"⟩ ⟨"DishRounds$Search", "pointOf", "(I)I"⟩ ∈ LW := lwm 8 rfl rfl
theorem kw9 : Cond.selects "DishRounds$Search" ⟨"DishRounds$Search", "addGain", "([III)V"⟩ ⟨"DishRounds$Search", "addGain", "([III)V"⟩ ∈ LW := lwm 9 rfl rfl
theorem kw10 : Cond.selects "DishRounds$Search" ⟨"DishRounds$Search", "gain", "(II)I"⟩ ⟨"DishRounds$Search", "gain", "(II)I"⟩ ∈ LW := lwm 10 rfl rfl
theorem kw11 : Cond.selects "DishRounds$Search" ⟨"DishRounds$Search", "follow", "(LDishRounds$Way;)V"⟩ ⟨"DishRounds$Search", "follow", "(LDishRounds$Way;)V"⟩ ∈ LW := lwm 11 rfl rfl
theorem kw12 : Cond.selects "DishRounds$Search" ⟨"DishRounds$Search", "nextCell", "(III)I"⟩ ⟨"DishRounds$Search", "nextCell", "(III)I"⟩ ∈ LW := lwm 12 rfl rfl
theorem kw13 : Cond.selects "DishRounds" ⟨"DishRounds", "bestDish", "(LDishRounds$Flight;)I"⟩ ⟨"DishRounds", "bestDish", "(LDishRounds$Flight;)I"⟩ ∈ LW := lwm 13 rfl rfl
theorem kw14 : Cond.selects "DishRounds$Search" ⟨"DishRounds$Search", "goForth", "(LDishRounds$Way;)V"⟩ ⟨"DishRounds$Search", "goForth", "(LDishRounds$Way;)V"⟩ ∈ LW := lwm 14 rfl rfl
theorem kw15 : Cond.selects "DishRounds$Search" ⟨"DishRounds$Search", "mostSeen", "([III)I"⟩ ⟨"DishRounds$Search", "mostSeen", "([III)I"⟩ ∈ LW := lwm 15 rfl rfl
theorem kw16 : Cond.selects "DishRounds" ⟨"DishRounds", "goAlong", "(ILDishRounds$Flight;LDishRounds$Way;)V"⟩ ⟨"DishRounds", "goAlong", "(ILDishRounds$Flight;LDishRounds$Way;)V"⟩ ∈ LW := lwm 16 rfl rfl
theorem kw17 : Cond.selects "DishRoundsModel" ⟨"DishRoundsModel", "passOf", "(I)I"⟩ ⟨"DishRoundsModel", "passOf", "(I)I"⟩ ∈ LW := lwm 17 rfl rfl
theorem kw18 : Cond.selects "DishRoundsModel" ⟨"DishRoundsModel", "isBurnt", "(III)Z"⟩ ⟨"DishRoundsModel", "isBurnt", "(III)Z"⟩ ∈ LW := lwm 18 rfl rfl
theorem kw19 : Cond.selects "DishRoundsModel" ⟨"DishRoundsModel", "isOpen", "(I)Z"⟩ ⟨"DishRoundsModel", "isOpen", "(I)Z"⟩ ∈ LW := lwm 19 rfl rfl
theorem kw20 : Cond.selects "DishRoundsModel" ⟨"DishRoundsModel", "layAll", "(II)I"⟩ ⟨"DishRoundsModel", "layAll", "(II)I"⟩ ∈ LW := lwm 20 rfl rfl
theorem kw21 : Cond.selects "DishRoundsModel" ⟨"DishRoundsModel", "lay", "(IIII)I"⟩ ⟨"DishRoundsModel", "lay", "(IIII)I"⟩ ∈ LW := lwm 21 rfl rfl
theorem kw22 : Cond.selects "DishRoundsModel" ⟨"DishRoundsModel", "lastTick", "()I"⟩ ⟨"DishRoundsModel", "lastTick", "()I"⟩ ∈ LW := lwm 22 rfl rfl
theorem kw23 : Cond.selects "DishRoundsModel" ⟨"DishRoundsModel", "mayStand", "(III)Z"⟩ ⟨"DishRoundsModel", "mayStand", "(III)Z"⟩ ∈ LW := lwm 23 rfl rfl
theorem kw24 : Cond.selects "DishRoundsModel" ⟨"DishRoundsModel", "from", "(III)I"⟩ ⟨"DishRoundsModel", "from", "(III)I"⟩ ∈ LW := lwm 24 rfl rfl
theorem kw25 : Cond.selects "DishRoundsModel" ⟨"DishRoundsModel", "sees", "(III)Z"⟩ ⟨"DishRoundsModel", "sees", "(III)Z"⟩ ∈ LW := lwm 25 rfl rfl
theorem kw26 : Cond.selects "DishRoundsModel" ⟨"DishRoundsModel", "goTo", "(IIIII)I"⟩ ⟨"DishRoundsModel", "goTo", "(IIIII)I"⟩ ∈ LW := lwm 26 rfl rfl
theorem kw27 : Cond.selects "DishRoundsModel" ⟨"DishRoundsModel", "walk", "(I)V"⟩ ⟨"DishRoundsModel", "walk", "(I)V"⟩ ∈ LW := lwm 27 rfl rfl
theorem kw28 : Cond.selects "DishRoundsModel" ⟨"DishRoundsModel", "stepFrom", "(II)V"⟩ ⟨"DishRoundsModel", "stepFrom", "(II)V"⟩ ∈ LW := lwm 28 rfl rfl
theorem kw29 : Cond.selects "DishRoundsModel" ⟨"DishRoundsModel", "seenTick", "(Z)I"⟩ ⟨"DishRoundsModel", "seenTick", "(Z)I"⟩ ∈ LW := lwm 29 rfl rfl
theorem kw30 : Cond.selects "DishRoundsModel" ⟨"DishRoundsModel", "offerOf", "(I)I"⟩ ⟨"DishRoundsModel", "offerOf", "(I)I"⟩ ∈ LW := lwm 30 rfl rfl
theorem kw31 : Cond.selects "DishRoundsModel" ⟨"DishRoundsModel", "seenBy", "(IIII)I"⟩ ⟨"DishRoundsModel", "seenBy", "(IIII)I"⟩ ∈ LW := lwm 31 rfl rfl
theorem kw32 : Cond.selects "DishRoundsModel" ⟨"DishRoundsModel", "takeBy", "(II)I"⟩ ⟨"DishRoundsModel", "takeBy", "(II)I"⟩ ∈ LW := lwm 32 rfl rfl
theorem kw33 : Cond.selects "DishRoundsModel" ⟨"DishRoundsModel", "nextPass", "(II)I"⟩ ⟨"DishRoundsModel", "nextPass", "(II)I"⟩ ∈ LW := lwm 33 rfl rfl
theorem kw34 : Cond.selects "DishRoundsModel" ⟨"DishRoundsModel", "takenOnes", "()I"⟩ ⟨"DishRoundsModel", "takenOnes", "()I"⟩ ∈ LW := lwm 34 rfl rfl
theorem kw35 : Cond.selects "DishRoundsModel" ⟨"DishRoundsModel", "pointsOfAll", "()I"⟩ ⟨"DishRoundsModel", "pointsOfAll", "()I"⟩ ∈ LW := lwm 35 rfl rfl
theorem kw36 : Cond.selects "DishRoundsModel" ⟨"DishRoundsModel", "looks", "(Z)I"⟩ ⟨"DishRoundsModel", "looks", "(Z)I"⟩ ∈ LW := lwm 36 rfl rfl
end
section
theorem inF0 : ∀ w ∈ u_ws RX0 TX0 7, w ∈ LW := fun w hw => by
  obtain ⟨k, hk, rfl⟩ := List.mem_map.mp hw
  have hk := List.mem_range.mp hk
  match k, hk with
  | 0, _ => exact lwt1 92 rfl rfl
  | 1, _ => exact lwt1 94 rfl rfl
  | 2, _ => exact lwt1 96 rfl rfl
  | 3, _ => exact lwt1 98 rfl rfl
  | 4, _ => exact lwt1 100 rfl rfl
  | 5, _ => exact lwt1 102 rfl rfl
  | 6, _ => exact lwt1 104 rfl rfl
  | n + 7, h => exact absurd h (by omega)
theorem inF1 : ∀ w ∈ u_ws RX1 TX1 5, w ∈ LW := fun w hw => by
  obtain ⟨k, hk, rfl⟩ := List.mem_map.mp hw
  have hk := List.mem_range.mp hk
  match k, hk with
  | 0, _ => exact lwt1 128 rfl rfl
  | 1, _ => exact lwt1 130 rfl rfl
  | 2, _ => exact lwt1 132 rfl rfl
  | 3, _ => exact lwt1 134 rfl rfl
  | 4, _ => exact lwt1 136 rfl rfl
  | n + 5, h => exact absurd h (by omega)
theorem inF2 : ∀ w ∈ u_ws RX2 TX2 11, w ∈ LW := fun w hw => by
  obtain ⟨k, hk, rfl⟩ := List.mem_map.mp hw
  have hk := List.mem_range.mp hk
  match k, hk with
  | 0, _ => exact lwt2 10 rfl rfl
  | 1, _ => exact lwt2 12 rfl rfl
  | 2, _ => exact lwt2 14 rfl rfl
  | 3, _ => exact lwt2 16 rfl rfl
  | 4, _ => exact lwt2 18 rfl rfl
  | 5, _ => exact lwt2 20 rfl rfl
  | 6, _ => exact lwt2 22 rfl rfl
  | 7, _ => exact lwt2 24 rfl rfl
  | 8, _ => exact lwt2 26 rfl rfl
  | 9, _ => exact lwt2 28 rfl rfl
  | 10, _ => exact lwt2 30 rfl rfl
  | n + 11, h => exact absurd h (by omega)
theorem inF3 : ∀ w ∈ u_ws RX3 TX3 7, w ∈ LW := fun w hw => by
  obtain ⟨k, hk, rfl⟩ := List.mem_map.mp hw
  have hk := List.mem_range.mp hk
  match k, hk with
  | 0, _ => exact lwt1 50 rfl rfl
  | 1, _ => exact lwt1 52 rfl rfl
  | 2, _ => exact lwt1 54 rfl rfl
  | 3, _ => exact lwt1 56 rfl rfl
  | 4, _ => exact lwt1 58 rfl rfl
  | 5, _ => exact lwt1 60 rfl rfl
  | 6, _ => exact lwt1 62 rfl rfl
  | n + 7, h => exact absurd h (by omega)
theorem inF4 : ∀ w ∈ u_ws RX4 TX4 14, w ∈ LW := fun w hw => by
  obtain ⟨k, hk, rfl⟩ := List.mem_map.mp hw
  have hk := List.mem_range.mp hk
  match k, hk with
  | 0, _ => exact lwt1 209 rfl rfl
  | 1, _ => exact lwt1 211 rfl rfl
  | 2, _ => exact lwt1 213 rfl rfl
  | 3, _ => exact lwt1 215 rfl rfl
  | 4, _ => exact lwt1 217 rfl rfl
  | 5, _ => exact lwt1 219 rfl rfl
  | 6, _ => exact lwt1 221 rfl rfl
  | 7, _ => exact lwt1 223 rfl rfl
  | 8, _ => exact lwt1 225 rfl rfl
  | 9, _ => exact lwt1 227 rfl rfl
  | 10, _ => exact lwt1 229 rfl rfl
  | 11, _ => exact lwt1 231 rfl rfl
  | 12, _ => exact lwt1 233 rfl rfl
  | 13, _ => exact lwt1 235 rfl rfl
  | n + 14, h => exact absurd h (by omega)
theorem inF5 : ∀ w ∈ u_ws RX5 TX5 5, w ∈ LW := fun w hw => by
  obtain ⟨k, hk, rfl⟩ := List.mem_map.mp hw
  have hk := List.mem_range.mp hk
  match k, hk with
  | 0, _ => exact lwt1 152 rfl rfl
  | 1, _ => exact lwt1 154 rfl rfl
  | 2, _ => exact lwt1 156 rfl rfl
  | 3, _ => exact lwt1 158 rfl rfl
  | 4, _ => exact lwt1 160 rfl rfl
  | n + 5, h => exact absurd h (by omega)
theorem inF6 : ∀ w ∈ u_ws RX6 TX6 4, w ∈ LW := fun w hw => by
  obtain ⟨k, hk, rfl⟩ := List.mem_map.mp hw
  have hk := List.mem_range.mp hk
  match k, hk with
  | 0, _ => exact lwt2 37 rfl rfl
  | 1, _ => exact lwt2 39 rfl rfl
  | 2, _ => exact lwt2 41 rfl rfl
  | 3, _ => exact lwt2 43 rfl rfl
  | n + 4, h => exact absurd h (by omega)
theorem inF7 : ∀ w ∈ u_ws RX7 TX7 12, w ∈ LW := fun w hw => by
  obtain ⟨k, hk, rfl⟩ := List.mem_map.mp hw
  have hk := List.mem_range.mp hk
  match k, hk with
  | 0, _ => exact lwt3 173 rfl rfl
  | 1, _ => exact lwt3 175 rfl rfl
  | 2, _ => exact lwt3 177 rfl rfl
  | 3, _ => exact lwt3 179 rfl rfl
  | 4, _ => exact lwt3 181 rfl rfl
  | 5, _ => exact lwt3 183 rfl rfl
  | 6, _ => exact lwt3 185 rfl rfl
  | 7, _ => exact lwt3 187 rfl rfl
  | 8, _ => exact lwt3 189 rfl rfl
  | 9, _ => exact lwt3 191 rfl rfl
  | 10, _ => exact lwt3 193 rfl rfl
  | 11, _ => exact lwt3 195 rfl rfl
  | n + 12, h => exact absurd h (by omega)
def pw_nf : Nat → Nat
  | 0 => 7
  | 1 => 5
  | 2 => 11
  | 3 => 7
  | 4 => 14
  | 5 => 5
  | 6 => 4
  | 7 => 12
  | _ => 0
def pw_isR : Nat → Nat → Bool
  | 0, 0 => true
  | 0, 1 => true
  | 2, 0 => true
  | 2, 1 => true
  | 2, 2 => true
  | 2, 3 => true
  | 2, 4 => true
  | 2, 5 => true
  | 2, 6 => true
  | 2, 7 => true
  | 4, 0 => true
  | 4, 1 => true
  | 4, 2 => true
  | 4, 3 => true
  | 4, 4 => true
  | 5, 0 => true
  | 5, 1 => true
  | 5, 2 => true
  | 5, 3 => true
  | 6, 0 => true
  | 6, 1 => true
  | 6, 2 => true
  | 6, 3 => true
  | 7, 0 => true
  | 7, 1 => true
  | 7, 2 => true
  | 7, 3 => true
  | 7, 8 => true
  | 7, 9 => true
  | 7, 10 => true
  | _, _ => false
end
section
/-! PURE HEAPS AND THE JUDGEMENT PW: one heap of cells by numbers (0 null, 1 the script, from 2 on what was made), and W over it. Ints are whole numbers; a cell or the stack holds them cut to 32 bits (zI). -/
def zI (z : Int) : Int32 := Int32.ofInt z
def pR (z : Int) : Prop := -2147483648 ≤ z ∧ z < 2147483648
theorem zI_toInt {z : Int} (h : pR z) : (zI z).toInt = z := Int32.toInt_ofInt_of_le h.1 h.2
theorem zI_of (x : Int32) : zI x.toInt = x := Int32.ofInt_toInt x
theorem pR_of (x : Int32) : pR x.toInt := ⟨Int32.le_toInt x, Int32.toInt_lt x⟩
theorem zI_lt {a b : Int} (ha : pR a) (hb : pR b) : zI a < zI b ↔ a < b := by rw [Int32.lt_iff_toInt_lt, zI_toInt ha, zI_toInt hb]
theorem zI_le {a b : Int} (ha : pR a) (hb : pR b) : zI a ≤ zI b ↔ a ≤ b := by rw [Int32.le_iff_toInt_le, zI_toInt ha, zI_toInt hb]
theorem zI_eq {a b : Int} (ha : pR a) (hb : pR b) : zI a = zI b ↔ a = b := ⟨fun h => by rw [← zI_toInt ha, ← zI_toInt hb, h], fun h => by rw [h]⟩
theorem zI_add (a b : Int) : zI a + zI b = zI (a + b) := (Int32.ofInt_add a b).symm
theorem zI_sub (a b : Int) : zI a - zI b = zI (a - b) := (Int32.ofInt_sub a b).symm
theorem zI_mul (a b : Int) : zI a * zI b = zI (a * b) := (Int32.ofInt_mul a b).symm
theorem zI_neg (a : Int) : -zI a = zI (-a) := (Int32.ofInt_neg a).symm
theorem zI_nat (n : Nat) : zI (n : Int) = nI n := rfl
theorem zI_clamp {z : Int} (h : pR z) : (zI z).toNatClampNeg = z.toNat := by
  show (zI z).toInt.toNat = _
  rw [zI_toInt h]
theorem zI_toNat {z : Int} (h : 0 ≤ z) : zI z = nI z.toNat := by
  rw [← zI_nat, Int.toNat_of_nonneg h]
theorem zI_div {a b : Int} (ha : pR a) (hb : pR b) (h0 : 0 ≤ a) (h1 : 0 < b) : zI a / zI b = zI (a / b) := by
  obtain ⟨x, rfl⟩ := Int.eq_ofNat_of_zero_le h0
  obtain ⟨y, rfl⟩ := Int.eq_ofNat_of_zero_le (Int.le_of_lt h1)
  rw [zI_nat, zI_nat, pk_div (by have := ha.2; omega) (by omega) (by have := hb.2; omega), ← zI_nat]
  rfl
theorem zI_rem {a b : Int} (ha : pR a) (hb : pR b) (h0 : 0 ≤ a) (h1 : 0 < b) : zI a - zI a / zI b * zI b = zI (a % b) := by
  rw [zI_div ha hb h0 h1, zI_mul, zI_sub, Int.emod_def, Int.mul_comm]
theorem zI_in {i : Int} {n : Nat} (h0 : 0 ≤ i) (h1 : i < n) (hn : n < 2147483648) : vp_in (zI i) n := by
  rw [vp_in_iff, zI_toInt ⟨by omega, by omega⟩]
  exact ⟨h0, h1⟩
abbrev PV : Type := Int ⊕ Nat
abbrev PH : Type := Nat × (Nat → Nat) × (Nat → Nat) × (Nat → Nat → Int) × (Nat → Nat → Nat)
abbrev Gx : Type := Nat × Nat × (Nat → ClassId) × (Nat → Nat → Nat) × (Nat → ClassId)
abbrev Cx : Type := Program × Launch × Env × Room × State × MethodId × Array Value × List Frame × Method × Code
def ph_S (h : PH) : Nat := h.1
def ph_T (h : PH) (c : Nat) : Nat := h.2.1 c
def ph_L (h : PH) (c : Nat) : Nat := h.2.2.1 c
def ph_I (h : PH) (c k : Nat) : Int := h.2.2.2.1 c k
def ph_R (h : PH) (c k : Nat) : Nat := h.2.2.2.2 c k
def ph_setI (h : PH) (c k : Nat) (x : Int) : PH := (h.1, h.2.1, h.2.2.1, (fun c' k' => if c' = c ∧ k' = k then x else h.2.2.2.1 c' k'), h.2.2.2.2)
def ph_setR (h : PH) (c k : Nat) (r : Nat) : PH := (h.1, h.2.1, h.2.2.1, h.2.2.2.1, (fun c' k' => if c' = c ∧ k' = k then r else h.2.2.2.2 c' k'))
def ph_rowI (h : PH) (c : Nat) (f : Nat → Int) : PH := (h.1, h.2.1, h.2.2.1, (fun c' k' => if c' = c then f k' else h.2.2.2.1 c' k'), h.2.2.2.2)
def ph_new (h : PH) (t n : Nat) : PH := (h.1 + 1, (fun c => if c = h.1 + 2 then t else h.2.1 c), (fun c => if c = h.1 + 2 then n else h.2.2.1 c), (fun c k => if c = h.1 + 2 then 0 else h.2.2.2.1 c k), (fun c k => if c = h.1 + 2 then 0 else h.2.2.2.2 c k))
def pw_ro (G : Gx) (r : Nat) : Option Nat := if r = 0 then none else if r = 1 then some G.2.1 else some (G.1 + (r - 2))
def pw_rv (G : Gx) (v : PV) : Value := match v with
  | .inl x => .int (zI x)
  | .inr r => va_rf (pw_ro G r)
def pw_fv (G : Gx) (h : PH) (t c : Nat) : List Value := (List.range (pw_nf t)).map (fun k => if pw_isR t k = true then va_rf (pw_ro G (ph_R h c k)) else .int (zI (ph_I h c k)))
def pw_ce (G : Gx) (h : PH) (c : Nat) : va_E :=
  if ph_T h c < 8 then .inr (ph_T h c, pw_fv G h (ph_T h c) c)
  else if ph_T h c < 10 then .inl (G.2.2.2.2 (ph_T h c), ph_L h c, .inl (fun j => zI (ph_I h c j)))
  else .inl (G.2.2.2.2 (ph_T h c), ph_L h c, .inr (.inr (.inr (.inr (fun j => pw_ro G (ph_R h c j))))))
def pw_ws (G : Gx) (h : PH) : va_W := (List.range (ph_S h)).map (fun i => (G.1 + i, pw_ce G h (i + 2)))
def pw_tys (G : Gx) : List (ClassId × FieldType) := [(G.2.2.2.2 8, .int), (G.2.2.2.2 9, .boolean), (G.2.2.2.2 10, .object RX0), (G.2.2.2.2 11, .object RX1), (G.2.2.2.2 12, .object RX4), (G.2.2.2.2 13, .object RX5)]
def pw_Rep (G : Gx) (h : PH) (H : Heap) : Prop := H.size = G.1 + ph_S h ∧ (∀ c, ph_T h c < 14 → 2 ≤ c ∧ c < ph_S h + 2) ∧ va_P (G.2.2.1, G.2.2.2.1) vwCl (pw_ws G h) H
def pw_LR (G : Gx) (ls : Array Slot) (nL : Nat) (L : List (Option PV)) : Prop := ls.size = nL ∧ lv_wf ls ∧ ∀ (i : Nat) (v : PV), L[i]? = some (some v) → ls[i]? = some (.val (pw_rv G v))
def PW (G : Gx) (X : Cx) (nL : Nat) (Q : State → Prop) (k n pc : Nat) (L : List (Option PV)) (S : List PV) (h : PH) : Prop :=
  ∀ (H : Heap) (locs : List Loc) (ls : Array Slot), pw_Rep G h H → va_S (fun q => G.1 ≤ q) X.2.2.2.2.1.heap H locs → pw_LR G ls nL L →
    W X.1 X.2.1 X.2.2.1 X.2.2.2.1 X.2.2.2.2.1 X.2.2.2.2.2.1 X.2.2.2.2.2.2.1 X.2.2.2.2.2.2.2.1 X.2.2.2.2.2.2.2.2.1 X.2.2.2.2.2.2.2.2.2 H locs k n Q (F0 X.2.2.2.2.2.1 pc ls (S.map (pw_rv G)))
/-- the words that aren't among the steady ones: private members of a nest mate, arrays of objects -/
def pw_NW (U : State) : Prop :=
  (va_Nw (.methodLinkNest RX5 25 yX3_init RX6) U ∧ va_Nw (.methodLinkNest RX5 38 yX0_init RX6) U ∧ va_Nw (.methodLinkNest RX5 39 yX1_init RX6) U ∧ va_Nw (.methodLinkNest RX2 63 yX4_init RX6) U ∧ va_Nw (.methodLinkNest RX3 51 yX6_isIn RX6) U ∧ va_Nw (.methodLinkNest RX2 215 yX6_sideOf RX6) U ∧ va_Nw (.methodLinkNest RX2 241 yX6_isIn RX6) U ∧ va_Nw (.methodLinkNest RX2 238 yX6_isHeight RX6) U)
  ∧ va_AO RX0 U ∧ va_AO RX1 U ∧ va_AO RX4 U ∧ va_AO RX5 U
theorem pw_NW.warm {s U : State} (hW : s.WarmedH U.vm) (h : pw_NW s) : pw_NW U := by
  obtain ⟨⟨h1, h2, h3, h4, h5, h6, h7, h8⟩, a1, a2, a3, a4⟩ := h
  exact ⟨⟨h1.warmM hW, h2.warmM hW, h3.warmM hW, h4.warmM hW, h5.warmM hW, h6.warmM hW, h7.warmM hW, h8.warmM hW⟩, a1.moved hW.alike, a2.moved hW.alike, a3.moved hW.alike, a4.moved hW.alike⟩
/-- what holds all through a method's frame -/
def pw_Ctx (G : Gx) (X : Cx) (cc : ByteArray) (nL : Nat) (own nm : String) (ret : Option FieldType) (rm : Room) : Prop :=
  X.1.tables.exec = Jvm.exec ∧ X.2.2.2.2.2.2.2.2.2.code = cc ∧ X.2.2.2.2.2.2.2.2.2.maxLocals = nL ∧ X.2.2.2.2.1.vm.findClass own = some X.2.2.2.2.2.1.cls ∧ (∀ w ∈ LW, w.before X.2.2.2.2.2.2.1 X.2.2.2.2.1 = true) ∧ va_K (G.2.2.1, G.2.2.2.1) vwCl (pw_tys G) X.2.2.2.2.1 ∧ G.1 ≤ X.2.2.2.2.1.heap.size ∧ X.2.2.2.1 = rm ∧ pw_NW X.2.2.2.2.1 ∧ X.2.2.2.2.2.2.2.2.1.locks = false ∧ X.2.2.2.2.2.2.2.2.1.sig.returnType = ret ∧ X.2.2.2.2.2.2.2.2.1.name = nm
/-- a method's end: its answer, the heap that it leaves, and nothing else is touched -/
def pw_Qc (G : Gx) (PQ : Option PV → PH → Prop) : Array Value → State → Outcome → State → Prop := fun _ st o t =>
  (∃ (r : Option PV) (h' : PH), o = .returned (r.map (pw_rv G)) ∧ PQ r h' ∧ pw_Rep G h' t.heap) ∧ va_F (fun q => G.1 ≤ q) st t
def pw_E (G : Gx) (X : Cx) (PQ : Option PV → PH → Prop) (mc ms : Nat) : State → Prop := MQ X.2.2.2.2.2.2.2.1 (pw_Qc G PQ) X.2.2.2.2.2.2.1 X.2.2.2.2.1 mc ms (fun q => G.1 ≤ q)
/-- a contract -/
def CT (G : Gx) (l : Launch) (y : MethodName) (cc : ByteArray) (nL : Nat) (ret : Option FieldType) (fr lo mc ms : Nat) (As : List PV) (h : PH) (PQ : Option PV → PH → Prop) : Prop :=
  Met l y (.code y cc nL ret :: LW) { frames := fr, cells := mc, slots := ms, locals := lo } (fun a U => a = (As.map (pw_rv G)).toArray ∧ pw_Rep G h U.heap ∧ va_K (G.2.2.1, G.2.2.2.1) vwCl (pw_tys G) U ∧ pw_NW U) (pw_Qc G PQ) mc ms (fun q => G.1 ≤ q)
theorem pw_cat (G : Gx) (v : PV) : (pw_rv G v).category = 1 := by
  cases v with
  | inl x => rfl
  | inr r =>
    show (va_rf (pw_ro G r)).category = 1
    cases pw_ro G r <;> rfl
theorem pw_ref (G : Gx) {c : Nat} (hc : 2 ≤ c) : pw_rv G (.inr c) = .ref (G.1 + (c - 2)) := by
  have h0 : c ≠ 0 := by omega
  have h1 : c ≠ 1 := by omega
  simp [pw_rv, pw_ro, h0, h1, va_rf]
theorem pw_ro2 (G : Gx) {c : Nat} (hc : 2 ≤ c) : pw_ro G c = some (G.1 + (c - 2)) := by
  have h0 : c ≠ 0 := by omega
  have h1 : c ≠ 1 := by omega
  simp [pw_ro, h0, h1]
theorem pw_at {G : Gx} {h : PH} {c : Nat} (h1 : 2 ≤ c) (h2 : c < ph_S h + 2) : (pw_ws G h)[c - 2]? = some (G.1 + (c - 2), pw_ce G h c) := by
  have e : c - 2 + 2 = c := by omega
  have h3 : c - 2 < ph_S h := by omega
  simp [pw_ws, List.getElem?_map, List.getElem?_range h3, e]
theorem pw_D (G : Gx) (h : PH) : va_D (fun q => G.1 ≤ q) (pw_ws G h) := by
  have key : ∀ (i : Nat) (p : Nat × va_E), (pw_ws G h)[i]? = some p → p.1 = G.1 + i := by
    intro i p hi
    simp only [pw_ws, List.getElem?_map] at hi
    by_cases hl : i < ph_S h
    · rw [List.getElem?_range hl] at hi
      cases hi
      rfl
    · rw [List.getElem?_eq_none (by simpa using Nat.not_lt.mp hl)] at hi
      cases hi
  refine ⟨fun i j p q hp hq he => ?_, fun k q hq => ?_⟩
  · have a := key i p hp
    have b := key j q hq
    omega
  · have a := key k q hq
    show G.1 ≤ q.1
    omega
theorem pw_set {G : Gx} {h h' : PH} {c : Nat} (hs : ph_S h' = ph_S h) (h1 : 2 ≤ c) (h2 : c < ph_S h + 2) (ho : ∀ d, d ≠ c → pw_ce G h' d = pw_ce G h d) : pw_ws G h' = (pw_ws G h).set (c - 2) (G.1 + (c - 2), pw_ce G h' c) := by
  apply List.ext_getElem?
  intro i
  rw [List.getElem?_set]
  by_cases hi : c - 2 = i
  · subst hi
    have e : c - 2 + 2 = c := by omega
    have h3 : c - 2 < ph_S h := by omega
    rw [if_pos rfl]
    simp [pw_ws, hs, h3, e]
  · rw [if_neg hi]
    simp only [pw_ws, hs, List.getElem?_map]
    by_cases hl : i < ph_S h
    · rw [List.getElem?_range hl]
      simp only [Option.map_some]
      rw [ho (i + 2) (by omega)]
    · rw [List.getElem?_eq_none (by simpa using Nat.not_lt.mp hl)]
      rfl
end
section
/-! ROWS: an instruction, a row, over PW -/
section PWR
variable {G : Gx} {X : Cx} {cc : ByteArray} {nL : Nat} {own nm : String} {ret : Option FieldType} {rm : Room} {Q : State → Prop} {k n pc : Nat} {L : List (Option PV)} {S : List PV} {h : PH}
theorem pw_iconst (C : pw_Ctx G X cc nL own nm ret rm) {z : Int} (hd : decode cc pc = .ok (.iconst z, 1)) (kk : PW G X nL Q k n (pc + 1) L (.inl z :: S) h) : PW G X nL Q k n pc L S h :=
  fun H locs ls hR hS hl => lv_iconst C.1 C.2.1 hd rfl (kk H locs ls hR hS hl)
theorem pw_bipush (C : pw_Ctx G X cc nL own nm ret rm) {z : Int} (hd : decode cc pc = .ok (.bipush z, 2)) (hv : (Int8.ofInt z).toInt32 = zI z) (kk : PW G X nL Q k n (pc + 2) L (.inl z :: S) h) : PW G X nL Q k n pc L S h :=
  fun H locs ls hR hS hl => lv_bipush C.1 C.2.1 hd hv (kk H locs ls hR hS hl)
theorem pw_sipush (C : pw_Ctx G X cc nL own nm ret rm) {z : Int} (hd : decode cc pc = .ok (.sipush z, 3)) (hv : (Int16.ofInt z).toInt32 = zI z) (kk : PW G X nL Q k n (pc + 3) L (.inl z :: S) h) : PW G X nL Q k n pc L S h :=
  fun H locs ls hR hS hl => lv_sipush C.1 C.2.1 hd hv (kk H locs ls hR hS hl)
theorem pw_ldc (C : pw_Ctx G X cc nL own nm ret rm) {i : Nat} {v : Int32} {z : Int} (hw : Cond.constant own i v ∈ LW) (hv : v = zI z) (hd : decode cc pc = .ok (.ldc i, 2)) (kk : PW G X nL Q k n (pc + 2) L (.inl z :: S) h) : PW G X nL Q k n pc L S h := by
  subst hv
  exact fun H locs ls hR hS hl => lv_ldc C.1 C.2.1 C.2.2.2.1 (C.2.2.2.2.1 _ hw) hd (kk H locs ls hR hS hl)
theorem pw_iload_n (C : pw_Ctx G X cc nL own nm ret rm) {i : Fin 4} {x : Int} (hd : decode cc pc = .ok (.iload_n i, 1)) (hL : L[(i : Nat)]? = some (some (.inl x))) (kk : PW G X nL Q k n (pc + 1) L (.inl x :: S) h) : PW G X nL Q k n pc L S h :=
  fun H locs ls hR hS hl => lv_iload_n C.1 C.2.1 hd rfl (hl.2.2 _ _ hL) (kk H locs ls hR hS hl)
theorem pw_iload (C : pw_Ctx G X cc nL own nm ret rm) {i : Nat} {x : Int} (hd : decode cc pc = .ok (.iload i, 2)) (hL : L[i]? = some (some (.inl x))) (kk : PW G X nL Q k n (pc + 2) L (.inl x :: S) h) : PW G X nL Q k n pc L S h :=
  fun H locs ls hR hS hl => lv_iload C.1 C.2.1 hd (hl.2.2 _ _ hL) (kk H locs ls hR hS hl)
theorem pw_aload_n (C : pw_Ctx G X cc nL own nm ret rm) {i : Fin 4} {r : Nat} (hd : decode cc pc = .ok (.aload_n i, 1)) (hL : L[(i : Nat)]? = some (some (.inr r))) (kk : PW G X nL Q k n (pc + 1) L (.inr r :: S) h) : PW G X nL Q k n pc L S h := by
  intro H locs ls hR hS hl
  have h1 := hl.2.2 _ _ hL
  have h2 := kk H locs ls hR hS hl
  cases hr : pw_ro G r with
  | none =>
    have e : pw_rv G (.inr r) = .null := by show va_rf (pw_ro G r) = _; rw [hr]; rfl
    rw [e] at h1
    rw [List.map_cons, e] at h2
    exact lv_aload_nN C.1 C.2.1 hd rfl h1 h2
  | some a =>
    have e : pw_rv G (.inr r) = .ref a := by show va_rf (pw_ro G r) = _; rw [hr]; rfl
    rw [e] at h1
    rw [List.map_cons, e] at h2
    exact lv_aload_n C.1 C.2.1 hd rfl h1 h2
theorem pw_aload (C : pw_Ctx G X cc nL own nm ret rm) {i : Nat} {r : Nat} (hd : decode cc pc = .ok (.aload i, 2)) (hL : L[i]? = some (some (.inr r))) (kk : PW G X nL Q k n (pc + 2) L (.inr r :: S) h) : PW G X nL Q k n pc L S h := by
  intro H locs ls hR hS hl
  have h1 := hl.2.2 _ _ hL
  have h2 := kk H locs ls hR hS hl
  cases hr : pw_ro G r with
  | none =>
    have e : pw_rv G (.inr r) = .null := by show va_rf (pw_ro G r) = _; rw [hr]; rfl
    rw [e] at h1
    rw [List.map_cons, e] at h2
    exact lv_aloadN C.1 C.2.1 hd h1 h2
  | some a =>
    have e : pw_rv G (.inr r) = .ref a := by show va_rf (pw_ro G r) = _; rw [hr]; rfl
    rw [e] at h1
    rw [List.map_cons, e] at h2
    exact lv_aload C.1 C.2.1 hd h1 h2
/-- the listed locals of the kit, of ours -/
def pw_lv (G : Gx) (L : List (Option PV)) : List (Nat × Value) := (List.range L.length).filterMap (fun i => match L[i]? with
  | some (some v) => some (i, pw_rv G v)
  | _ => none)
theorem pw_lv_in {G : Gx} {L : List (Option PV)} {i : Nat} {v : PV} (h : L[i]? = some (some v)) : (i, pw_rv G v) ∈ pw_lv G L := by
  have hi : i < L.length := (List.getElem?_eq_some_iff.mp h).1
  refine List.mem_filterMap.mpr ⟨i, List.mem_range.mpr hi, ?_⟩
  rw [h]
theorem pw_lv_has {G : Gx} {ls : Array Slot} {nL : Nat} {L : List (Option PV)} (h : pw_LR G ls nL L) : lv_has ls nL (pw_lv G L) := by
  refine ⟨h.1, h.2.1, fun q hq => ?_⟩
  obtain ⟨i, -, hi⟩ := List.mem_filterMap.mp hq
  split at hi
  · next v hv =>
    cases hi
    exact h.2.2 i v hv
  · cases hi
theorem pw_stored {G : Gx} {ls : Array Slot} {nL i : Nat} {L : List (Option PV)} {v : PV} (h : lv_has ls nL ((i, pw_rv G v) :: (pw_lv G L).filter (fun q => !(q.1 == i) && !(q.1 + 1 == i && q.2.category == 2)))) : pw_LR G ls nL (L.set i (some v)) := by
  refine ⟨h.1, h.2.1, fun j w hj => ?_⟩
  by_cases hji : i = j
  · subst hji
    have hlt : i < L.length := by
      have := (List.getElem?_eq_some_iff.mp hj).1
      simpa using this
    rw [List.getElem?_set_self hlt] at hj
    cases hj
    exact h.2.2 (i, pw_rv G v) List.mem_cons_self
  · rw [List.getElem?_set_ne hji] at hj
    refine h.2.2 (j, pw_rv G w) (List.mem_cons_of_mem _ (List.mem_filter.mpr ⟨pw_lv_in hj, ?_⟩))
    have hc := pw_cat G w
    simp [hc, Ne.symm hji]
theorem pw_istore_n (C : pw_Ctx G X cc nL own nm ret rm) {i : Fin 4} {x : Int} (hd : decode cc pc = .ok (.istore_n i, 1)) (hi : (i : Nat) < nL) (kk : PW G X nL Q k n (pc + 1) (L.set i (some (.inl x))) S h) : PW G X nL Q k n pc L (.inl x :: S) h :=
  fun H locs ls hR hS hl => lv_istore_n C.1 C.2.1 hd rfl (pw_lv_has hl) hi rfl (fun ls' hl' => kk H locs ls' hR hS (pw_stored (v := .inl x) hl'))
theorem pw_istore (C : pw_Ctx G X cc nL own nm ret rm) {i : Nat} {x : Int} (hd : decode cc pc = .ok (.istore i, 2)) (hi : i < nL) (kk : PW G X nL Q k n (pc + 2) (L.set i (some (.inl x))) S h) : PW G X nL Q k n pc L (.inl x :: S) h :=
  fun H locs ls hR hS hl => lv_istore C.1 C.2.1 hd (pw_lv_has hl) hi rfl (fun ls' hl' => kk H locs ls' hR hS (pw_stored (v := .inl x) hl'))
theorem pw_astore_n (C : pw_Ctx G X cc nL own nm ret rm) {i : Fin 4} {r : Nat} (hd : decode cc pc = .ok (.astore_n i, 1)) (hi : (i : Nat) < nL) (h2 : 2 ≤ r) (kk : PW G X nL Q k n (pc + 1) (L.set i (some (.inr r))) S h) : PW G X nL Q k n pc L (.inr r :: S) h := by
  intro H locs ls hR hS hl
  have e := pw_ref G h2
  rw [List.map_cons, e]
  refine lv_astore_n C.1 C.2.1 hd rfl (pw_lv_has hl) hi rfl (fun ls' hl' => kk H locs ls' hR hS (pw_stored (v := .inr r) ?_))
  rw [e]
  exact hl'
theorem pw_astore (C : pw_Ctx G X cc nL own nm ret rm) {i : Nat} {r : Nat} (hd : decode cc pc = .ok (.astore i, 2)) (hi : i < nL) (h2 : 2 ≤ r) (kk : PW G X nL Q k n (pc + 2) (L.set i (some (.inr r))) S h) : PW G X nL Q k n pc L (.inr r :: S) h := by
  intro H locs ls hR hS hl
  have e := pw_ref G h2
  rw [List.map_cons, e]
  refine lv_astore C.1 C.2.1 hd (pw_lv_has hl) hi rfl (fun ls' hl' => kk H locs ls' hR hS (pw_stored (v := .inr r) ?_))
  rw [e]
  exact hl'
theorem pw_iinc (C : pw_Ctx G X cc nL own nm ret rm) {i : Nat} {z x : Int} (hd : decode cc pc = .ok (.iinc i z, 3)) (hL : L[i]? = some (some (.inl x))) (hi : i < nL) (kk : PW G X nL Q k n (pc + 3) (L.set i (some (.inl (x + z)))) S h) : PW G X nL Q k n pc L S h := by
  intro H locs ls hR hS hl
  obtain ⟨j, hj⟩ := List.getElem?_of_mem (pw_lv_in (G := G) hL)
  exact lv_iinc C.1 C.2.1 hd (pw_lv_has hl) hj (zI_add x z) hi rfl (fun ls' hl' => kk H locs ls' hR hS (pw_stored (v := .inl (x + z)) hl'))
theorem pw_iadd (C : pw_Ctx G X cc nL own nm ret rm) {x y : Int} (hd : decode cc pc = .ok (.iadd, 1)) (kk : PW G X nL Q k n (pc + 1) L (.inl (x + y) :: S) h) : PW G X nL Q k n pc L (.inl y :: .inl x :: S) h :=
  fun H locs ls hR hS hl => lv_iadd C.1 C.2.1 hd (by rw [zI_add]; exact kk H locs ls hR hS hl)
theorem pw_isub (C : pw_Ctx G X cc nL own nm ret rm) {x y : Int} (hd : decode cc pc = .ok (.isub, 1)) (kk : PW G X nL Q k n (pc + 1) L (.inl (x - y) :: S) h) : PW G X nL Q k n pc L (.inl y :: .inl x :: S) h :=
  fun H locs ls hR hS hl => lv_isub C.1 C.2.1 hd (by rw [zI_sub]; exact kk H locs ls hR hS hl)
theorem pw_imul (C : pw_Ctx G X cc nL own nm ret rm) {x y : Int} (hd : decode cc pc = .ok (.imul, 1)) (kk : PW G X nL Q k n (pc + 1) L (.inl (x * y) :: S) h) : PW G X nL Q k n pc L (.inl y :: .inl x :: S) h :=
  fun H locs ls hR hS hl => lv_imul C.1 C.2.1 hd (by rw [zI_mul]; exact kk H locs ls hR hS hl)
theorem pw_ineg (C : pw_Ctx G X cc nL own nm ret rm) {x : Int} (hd : decode cc pc = .ok (.ineg, 1)) (kk : PW G X nL Q k n (pc + 1) L (.inl (-x) :: S) h) : PW G X nL Q k n pc L (.inl x :: S) h :=
  fun H locs ls hR hS hl => lv_ineg C.1 C.2.1 hd (by rw [zI_neg]; exact kk H locs ls hR hS hl)
theorem pw_idiv (C : pw_Ctx G X cc nL own nm ret rm) {x y : Int} (hd : decode cc pc = .ok (.idiv, 1)) (hx : pR x) (hy : pR y) (h0 : 0 ≤ x) (h1 : 0 < y) (kk : PW G X nL Q k n (pc + 1) L (.inl (x / y) :: S) h) : PW G X nL Q k n pc L (.inl y :: .inl x :: S) h :=
  fun H locs ls hR hS hl => lv_idiv C.1 C.2.1 hd (fun q => by have := (zI_eq hy (by unfold pR; omega : pR 0)).mp q; omega) (by rw [zI_div hx hy h0 h1]; exact kk H locs ls hR hS hl)
theorem pw_irem (C : pw_Ctx G X cc nL own nm ret rm) {x y : Int} (hd : decode cc pc = .ok (.irem, 1)) (hx : pR x) (hy : pR y) (h0 : 0 ≤ x) (h1 : 0 < y) (kk : PW G X nL Q k n (pc + 1) L (.inl (x % y) :: S) h) : PW G X nL Q k n pc L (.inl y :: .inl x :: S) h :=
  fun H locs ls hR hS hl => lv_irem C.1 C.2.1 hd (fun q => by have := (zI_eq hy (by unfold pR; omega : pR 0)).mp q; omega) (by rw [zI_rem hx hy h0 h1]; exact kk H locs ls hR hS hl)
theorem pw_iand (C : pw_Ctx G X cc nL own nm ret rm) {x y : Int} (hd : decode cc pc = .ok (.iand, 1)) (kk : PW G X nL Q k n (pc + 1) L (.inl (zI x &&& zI y).toInt :: S) h) : PW G X nL Q k n pc L (.inl y :: .inl x :: S) h :=
  fun H locs ls hR hS hl => lv_iand C.1 C.2.1 hd (by rw [← zI_of (zI x &&& zI y)]; exact kk H locs ls hR hS hl)
theorem pw_ior (C : pw_Ctx G X cc nL own nm ret rm) {x y : Int} (hd : decode cc pc = .ok (.ior, 1)) (kk : PW G X nL Q k n (pc + 1) L (.inl (zI x ||| zI y).toInt :: S) h) : PW G X nL Q k n pc L (.inl y :: .inl x :: S) h :=
  fun H locs ls hR hS hl => lv_ior C.1 C.2.1 hd (by rw [← zI_of (zI x ||| zI y)]; exact kk H locs ls hR hS hl)
theorem pw_ishl (C : pw_Ctx G X cc nL own nm ret rm) {x y : Int} (hd : decode cc pc = .ok (.ishl, 1)) (kk : PW G X nL Q k n (pc + 1) L (.inl (zI x <<< (zI y &&& 31)).toInt :: S) h) : PW G X nL Q k n pc L (.inl y :: .inl x :: S) h :=
  fun H locs ls hR hS hl => lv_ishl C.1 C.2.1 hd (by rw [← zI_of (zI x <<< (zI y &&& 31))]; exact kk H locs ls hR hS hl)
theorem pw_ishr (C : pw_Ctx G X cc nL own nm ret rm) {x y : Int} (hd : decode cc pc = .ok (.ishr, 1)) (kk : PW G X nL Q k n (pc + 1) L (.inl (zI x >>> (zI y &&& 31)).toInt :: S) h) : PW G X nL Q k n pc L (.inl y :: .inl x :: S) h :=
  fun H locs ls hR hS hl => lv_ishr C.1 C.2.1 hd (by rw [← zI_of (zI x >>> (zI y &&& 31))]; exact kk H locs ls hR hS hl)
theorem pw_dup (C : pw_Ctx G X cc nL own nm ret rm) {v : PV} (hd : decode cc pc = .ok (.dup, 1)) (kk : PW G X nL Q k n (pc + 1) L (v :: v :: S) h) : PW G X nL Q k n pc L (v :: S) h :=
  fun H locs ls hR hS hl => lv_dup C.1 C.2.1 hd (pw_cat G v) (kk H locs ls hR hS hl)
theorem pw_dup2 (C : pw_Ctx G X cc nL own nm ret rm) {v w : PV} (hd : decode cc pc = .ok (.dup2, 1)) (kk : PW G X nL Q k n (pc + 1) L (v :: w :: v :: w :: S) h) : PW G X nL Q k n pc L (v :: w :: S) h :=
  fun H locs ls hR hS hl => lv_dup2_11 C.1 C.2.1 hd (pw_cat G v) (pw_cat G w) (kk H locs ls hR hS hl)
theorem pw_pop (C : pw_Ctx G X cc nL own nm ret rm) {v : PV} (hd : decode cc pc = .ok (.pop, 1)) (kk : PW G X nL Q k n (pc + 1) L S h) : PW G X nL Q k n pc L (v :: S) h :=
  fun H locs ls hR hS hl => lv_pop C.1 C.2.1 hd (pw_cat G v) (kk H locs ls hR hS hl)
theorem pw_goto (C : pw_Ctx G X cc nL own nm ret rm) {off : Int} (tgt : Nat) (hd : decode cc pc = .ok (.goto off, 3)) (ht : (pc : Int) + off = (tgt : Int)) (kk : PW G X nL Q k n tgt L S h) : PW G X nL Q k n pc L S h :=
  fun H locs ls hR hS hl => lv_goto C.1 C.2.1 hd ht (kk H locs ls hR hS hl)
end PWR
end
section
section PWB
variable {G : Gx} {X : Cx} {cc : ByteArray} {nL : Nat} {own nm : String} {ret : Option FieldType} {rm : Room} {Q : State → Prop} {k n pc : Nat} {L : List (Option PV)} {S : List PV} {h : PH}
theorem pw_icmp_eq (C : pw_Ctx G X cc nL own nm ret rm) {x y : Int} {off : Int} (tgt : Nat) (hd : decode cc pc = .ok (.if_icmp .eq off, 3)) (ht : (pc : Int) + off = (tgt : Int)) (hx : pR x) (hy : pR y) (kt : x = y → PW G X nL Q k n tgt L S h) (kf : ¬ x = y → PW G X nL Q k n (pc + 3) L S h) : PW G X nL Q k n pc L (.inl y :: .inl x :: S) h :=
  fun H locs ls hR hS hl => lv_icmp_eq C.1 C.2.1 hd ht (fun q => kt ((zI_eq hx hy).mp q) H locs ls hR hS hl) (fun q => kf (fun z => q ((zI_eq hx hy).mpr z)) H locs ls hR hS hl)
theorem pw_if_eq (C : pw_Ctx G X cc nL own nm ret rm) {x : Int} {off : Int} (tgt : Nat) (hd : decode cc pc = .ok (.ifCond .eq off, 3)) (ht : (pc : Int) + off = (tgt : Int)) (hx : pR x) (kt : x = 0 → PW G X nL Q k n tgt L S h) (kf : ¬ x = 0 → PW G X nL Q k n (pc + 3) L S h) : PW G X nL Q k n pc L (.inl x :: S) h := by
  have hy : pR 0 := by unfold pR; omega
  exact fun H locs ls hR hS hl => lv_if_eq C.1 C.2.1 hd ht (fun q => kt ((zI_eq hx hy).mp q) H locs ls hR hS hl) (fun q => kf (fun z => q ((zI_eq hx hy).mpr z)) H locs ls hR hS hl)
theorem pw_icmp_ne (C : pw_Ctx G X cc nL own nm ret rm) {x y : Int} {off : Int} (tgt : Nat) (hd : decode cc pc = .ok (.if_icmp .ne off, 3)) (ht : (pc : Int) + off = (tgt : Int)) (hx : pR x) (hy : pR y) (kt : ¬ x = y → PW G X nL Q k n tgt L S h) (kf : x = y → PW G X nL Q k n (pc + 3) L S h) : PW G X nL Q k n pc L (.inl y :: .inl x :: S) h :=
  fun H locs ls hR hS hl => lv_icmp_ne C.1 C.2.1 hd ht (fun q => kt (fun z => q ((zI_eq hx hy).mpr z)) H locs ls hR hS hl) (fun q => kf ((zI_eq hx hy).mp q) H locs ls hR hS hl)
theorem pw_if_ne (C : pw_Ctx G X cc nL own nm ret rm) {x : Int} {off : Int} (tgt : Nat) (hd : decode cc pc = .ok (.ifCond .ne off, 3)) (ht : (pc : Int) + off = (tgt : Int)) (hx : pR x) (kt : ¬ x = 0 → PW G X nL Q k n tgt L S h) (kf : x = 0 → PW G X nL Q k n (pc + 3) L S h) : PW G X nL Q k n pc L (.inl x :: S) h := by
  have hy : pR 0 := by unfold pR; omega
  exact fun H locs ls hR hS hl => lv_if_ne C.1 C.2.1 hd ht (fun q => kt (fun z => q ((zI_eq hx hy).mpr z)) H locs ls hR hS hl) (fun q => kf ((zI_eq hx hy).mp q) H locs ls hR hS hl)
theorem pw_icmp_lt (C : pw_Ctx G X cc nL own nm ret rm) {x y : Int} {off : Int} (tgt : Nat) (hd : decode cc pc = .ok (.if_icmp .lt off, 3)) (ht : (pc : Int) + off = (tgt : Int)) (hx : pR x) (hy : pR y) (kt : x < y → PW G X nL Q k n tgt L S h) (kf : ¬ x < y → PW G X nL Q k n (pc + 3) L S h) : PW G X nL Q k n pc L (.inl y :: .inl x :: S) h :=
  fun H locs ls hR hS hl => lv_icmp_lt C.1 C.2.1 hd ht (fun q => kt ((zI_lt hx hy).mp q) H locs ls hR hS hl) (fun q => kf (fun z => q ((zI_lt hx hy).mpr z)) H locs ls hR hS hl)
theorem pw_if_lt (C : pw_Ctx G X cc nL own nm ret rm) {x : Int} {off : Int} (tgt : Nat) (hd : decode cc pc = .ok (.ifCond .lt off, 3)) (ht : (pc : Int) + off = (tgt : Int)) (hx : pR x) (kt : x < 0 → PW G X nL Q k n tgt L S h) (kf : ¬ x < 0 → PW G X nL Q k n (pc + 3) L S h) : PW G X nL Q k n pc L (.inl x :: S) h := by
  have hy : pR 0 := by unfold pR; omega
  exact fun H locs ls hR hS hl => lv_if_lt C.1 C.2.1 hd ht (fun q => kt ((zI_lt hx hy).mp q) H locs ls hR hS hl) (fun q => kf (fun z => q ((zI_lt hx hy).mpr z)) H locs ls hR hS hl)
theorem pw_icmp_ge (C : pw_Ctx G X cc nL own nm ret rm) {x y : Int} {off : Int} (tgt : Nat) (hd : decode cc pc = .ok (.if_icmp .ge off, 3)) (ht : (pc : Int) + off = (tgt : Int)) (hx : pR x) (hy : pR y) (kt : y ≤ x → PW G X nL Q k n tgt L S h) (kf : ¬ y ≤ x → PW G X nL Q k n (pc + 3) L S h) : PW G X nL Q k n pc L (.inl y :: .inl x :: S) h :=
  fun H locs ls hR hS hl => lv_icmp_ge C.1 C.2.1 hd ht (fun q => kt ((zI_le hy hx).mp q) H locs ls hR hS hl) (fun q => kf (fun z => q ((zI_le hy hx).mpr z)) H locs ls hR hS hl)
theorem pw_if_ge (C : pw_Ctx G X cc nL own nm ret rm) {x : Int} {off : Int} (tgt : Nat) (hd : decode cc pc = .ok (.ifCond .ge off, 3)) (ht : (pc : Int) + off = (tgt : Int)) (hx : pR x) (kt : 0 ≤ x → PW G X nL Q k n tgt L S h) (kf : ¬ 0 ≤ x → PW G X nL Q k n (pc + 3) L S h) : PW G X nL Q k n pc L (.inl x :: S) h := by
  have hy : pR 0 := by unfold pR; omega
  exact fun H locs ls hR hS hl => lv_if_ge C.1 C.2.1 hd ht (fun q => kt ((zI_le hy hx).mp q) H locs ls hR hS hl) (fun q => kf (fun z => q ((zI_le hy hx).mpr z)) H locs ls hR hS hl)
theorem pw_icmp_gt (C : pw_Ctx G X cc nL own nm ret rm) {x y : Int} {off : Int} (tgt : Nat) (hd : decode cc pc = .ok (.if_icmp .gt off, 3)) (ht : (pc : Int) + off = (tgt : Int)) (hx : pR x) (hy : pR y) (kt : y < x → PW G X nL Q k n tgt L S h) (kf : ¬ y < x → PW G X nL Q k n (pc + 3) L S h) : PW G X nL Q k n pc L (.inl y :: .inl x :: S) h :=
  fun H locs ls hR hS hl => lv_icmp_gt C.1 C.2.1 hd ht (fun q => kt ((zI_lt hy hx).mp q) H locs ls hR hS hl) (fun q => kf (fun z => q ((zI_lt hy hx).mpr z)) H locs ls hR hS hl)
theorem pw_if_gt (C : pw_Ctx G X cc nL own nm ret rm) {x : Int} {off : Int} (tgt : Nat) (hd : decode cc pc = .ok (.ifCond .gt off, 3)) (ht : (pc : Int) + off = (tgt : Int)) (hx : pR x) (kt : 0 < x → PW G X nL Q k n tgt L S h) (kf : ¬ 0 < x → PW G X nL Q k n (pc + 3) L S h) : PW G X nL Q k n pc L (.inl x :: S) h := by
  have hy : pR 0 := by unfold pR; omega
  exact fun H locs ls hR hS hl => lv_if_gt C.1 C.2.1 hd ht (fun q => kt ((zI_lt hy hx).mp q) H locs ls hR hS hl) (fun q => kf (fun z => q ((zI_lt hy hx).mpr z)) H locs ls hR hS hl)
theorem pw_icmp_le (C : pw_Ctx G X cc nL own nm ret rm) {x y : Int} {off : Int} (tgt : Nat) (hd : decode cc pc = .ok (.if_icmp .le off, 3)) (ht : (pc : Int) + off = (tgt : Int)) (hx : pR x) (hy : pR y) (kt : x ≤ y → PW G X nL Q k n tgt L S h) (kf : ¬ x ≤ y → PW G X nL Q k n (pc + 3) L S h) : PW G X nL Q k n pc L (.inl y :: .inl x :: S) h :=
  fun H locs ls hR hS hl => lv_icmp_le C.1 C.2.1 hd ht (fun q => kt ((zI_le hx hy).mp q) H locs ls hR hS hl) (fun q => kf (fun z => q ((zI_le hx hy).mpr z)) H locs ls hR hS hl)
theorem pw_if_le (C : pw_Ctx G X cc nL own nm ret rm) {x : Int} {off : Int} (tgt : Nat) (hd : decode cc pc = .ok (.ifCond .le off, 3)) (ht : (pc : Int) + off = (tgt : Int)) (hx : pR x) (kt : x ≤ 0 → PW G X nL Q k n tgt L S h) (kf : ¬ x ≤ 0 → PW G X nL Q k n (pc + 3) L S h) : PW G X nL Q k n pc L (.inl x :: S) h := by
  have hy : pR 0 := by unfold pR; omega
  exact fun H locs ls hR hS hl => lv_if_le C.1 C.2.1 hd ht (fun q => kt ((zI_le hx hy).mp q) H locs ls hR hS hl) (fun q => kf (fun z => q ((zI_le hx hy).mpr z)) H locs ls hR hS hl)
theorem pw_tableIn (C : pw_Ctx G X cc nL own nm ret rm) {x : Int} {dflt lo hi : Int} {offs : Array Int} {len : Nat} {off : Int} (tgt : Nat) (hd : decode cc pc = .ok (.tableswitch dflt lo hi offs, len)) (hx : pR x) (h1 : lo ≤ x) (h2 : x ≤ hi) (ho : offs[(x - lo).toNat]? = some off) (ht : (pc : Int) + off = (tgt : Int)) (kk : PW G X nL Q k n tgt L S h) : PW G X nL Q k n pc L (.inl x :: S) h :=
  fun H locs ls hR hS hl => lv_tableIn C.1 C.2.1 hd (by rw [zI_toInt hx]; omega) (by rw [zI_toInt hx]; omega) (by rw [zI_toInt hx]; exact ho) ht (kk H locs ls hR hS hl)
theorem pw_tableOut (C : pw_Ctx G X cc nL own nm ret rm) {x : Int} {dflt lo hi : Int} {offs : Array Int} {len : Nat} (tgt : Nat) (hd : decode cc pc = .ok (.tableswitch dflt lo hi offs, len)) (hx : pR x) (h1 : x < lo ∨ hi < x) (ht : (pc : Int) + dflt = (tgt : Int)) (kk : PW G X nL Q k n tgt L S h) : PW G X nL Q k n pc L (.inl x :: S) h :=
  fun H locs ls hR hS hl => lv_tableOut C.1 C.2.1 hd (by rw [zI_toInt hx]; exact h1) ht (kk H locs ls hR hS hl)
theorem pw_lookup (C : pw_Ctx G X cc nL own nm ret rm) {x : Int} {dflt : Int} {ps : Array (Int × Int)} {len : Nat} {off : Int} (tgt : Nat) (hd : decode cc pc = .ok (.lookupswitch dflt ps, len)) (hp : (ps.toList.zip (ps.toList.drop 1)).all (fun (a, next) => a.1 < next.1) = true) (hx : pR x) (ho : Op.lookupswitch.offset ps.toList dflt x = off) (ht : (pc : Int) + off = (tgt : Int)) (kk : PW G X nL Q k n tgt L S h) : PW G X nL Q k n pc L (.inl x :: S) h :=
  fun H locs ls hR hS hl => lv_lookup C.1 C.2.1 hd hp (by rw [zI_toInt hx]; exact ho) ht (kk H locs ls hR hS hl)
end PWB
end
section
/-! ROWS over cells -/
theorem zI_inR {i : Int} {n : Nat} (h0 : 0 ≤ i) (h1 : i < n) (hr : pR i) : vp_in (zI i) n := by
  rw [vp_in_iff, zI_toInt hr]
  exact ⟨h0, h1⟩
theorem pw_ce_congr {G : Gx} {h h' : PH} {d : Nat} (hT : ph_T h' d = ph_T h d) (hL : ph_L h' d = ph_L h d) (hI : ∀ j, ph_I h' d j = ph_I h d j) (hR : ∀ j, ph_R h' d j = ph_R h d j) : pw_ce G h' d = pw_ce G h d := by
  unfold pw_ce pw_fv
  rw [hT, hL]
  simp only [hI, hR]
theorem pw_ce_setI {G : Gx} {h : PH} {c f : Nat} {x : Int} : ∀ d, d ≠ c → pw_ce G (ph_setI h c f x) d = pw_ce G h d := fun d hd => pw_ce_congr rfl rfl (fun j => by simp [ph_I, ph_setI, hd]) (fun j => rfl)
theorem pw_ce_setR {G : Gx} {h : PH} {c f r : Nat} : ∀ d, d ≠ c → pw_ce G (ph_setR h c f r) d = pw_ce G h d := fun d hd => pw_ce_congr rfl rfl (fun j => rfl) (fun j => by simp [ph_R, ph_setR, hd])
theorem pw_ce_rowI {G : Gx} {h : PH} {c : Nat} {f : Nat → Int} : ∀ d, d ≠ c → pw_ce G (ph_rowI h c f) d = pw_ce G h d := fun d hd => pw_ce_congr rfl rfl (fun j => by simp [ph_I, ph_rowI, hd]) (fun j => rfl)
theorem pw_fv_get {G : Gx} {h : PH} {t c f : Nat} (hf : f < pw_nf t) : (pw_fv G h t c)[f]? = some (if pw_isR t f = true then va_rf (pw_ro G (ph_R h c f)) else .int (zI (ph_I h c f))) := by
  simp [pw_fv, List.getElem?_map, List.getElem?_range hf]
theorem pw_fv_len {G : Gx} {h : PH} {t c : Nat} : (pw_fv G h t c).length = pw_nf t := by simp [pw_fv]
theorem pw_fv_I {G : Gx} {h : PH} {t c f : Nat} {x : Int} (hf : f < pw_nf t) (hr : pw_isR t f = false) : pw_fv G (ph_setI h c f x) t c = (pw_fv G h t c).set f (.int (zI x)) := by
  apply List.ext_getElem?
  intro i
  rw [List.getElem?_set]
  by_cases hi : i < pw_nf t
  · rw [pw_fv_get hi, pw_fv_get hi, pw_fv_len]
    by_cases e : f = i
    · subst e
      simp [hr, hf, ph_setI, ph_I]
    · simp [e, ph_setI, ph_I, ph_R, Ne.symm e]
  · rw [List.getElem?_eq_none (by rw [pw_fv_len]; omega), List.getElem?_eq_none (by rw [pw_fv_len]; omega)]
    simp [pw_fv_len]
    intro e
    omega
theorem pw_fv_R {G : Gx} {h : PH} {t c f r : Nat} (hf : f < pw_nf t) (hr : pw_isR t f = true) : pw_fv G (ph_setR h c f r) t c = (pw_fv G h t c).set f (va_rf (pw_ro G r)) := by
  apply List.ext_getElem?
  intro i
  rw [List.getElem?_set]
  by_cases hi : i < pw_nf t
  · rw [pw_fv_get hi, pw_fv_get hi, pw_fv_len]
    by_cases e : f = i
    · subst e
      simp [hr, hf, ph_setR, ph_R]
    · simp [e, ph_setR, ph_I, ph_R, Ne.symm e]
  · rw [List.getElem?_eq_none (by rw [pw_fv_len]; omega), List.getElem?_eq_none (by rw [pw_fv_len]; omega)]
    simp [pw_fv_len]
    intro e
    omega
theorem pw_ce_o {G : Gx} {h : PH} {c t : Nat} (ht : ph_T h c = t) (h8 : t < 8) : pw_ce G h c = .inr (t, pw_fv G h t c) := by
  subst ht
  simp [pw_ce, h8]
theorem pw_ce_i {G : Gx} {h : PH} {c t : Nat} (ht : ph_T h c = t) (h8 : ¬ t < 8) (h10 : t < 10) : pw_ce G h c = .inl (G.2.2.2.2 t, ph_L h c, .inl (fun j => zI (ph_I h c j))) := by
  subst ht
  simp [pw_ce, h8, h10]
theorem pw_ce_q {G : Gx} {h : PH} {c t : Nat} (ht : ph_T h c = t) (h10 : ¬ t < 10) : pw_ce G h c = .inl (G.2.2.2.2 t, ph_L h c, .inr (.inr (.inr (.inr (fun j => pw_ro G (ph_R h c j)))))) := by
  subst ht
  have h8 : ¬ ph_T h c < 8 := by omega
  simp [pw_ce, h8, h10]
theorem pw_Rep.in {G : Gx} {h : PH} {H : Heap} (hR : pw_Rep G h H) {c t : Nat} (ht : ph_T h c = t) (h14 : t < 14) : 2 ≤ c ∧ c < ph_S h + 2 := hR.2.1 c (by omega)
section PWH
variable {G : Gx} {X : Cx} {cc : ByteArray} {nL : Nat} {own nm : String} {ret : Option FieldType} {rm : Room} {Q : State → Prop} {k n pc : Nat} {L : List (Option PV)} {S : List PV} {h : PH}
theorem pw_getI (C : pw_Ctx G X cc nL own nm ret rm) {t c f idx N : Nat} {Rn : String} {T : u_T} (hc : vwCl[t]? = some (Rn, T, N)) (hin : ∀ w ∈ u_ws Rn T N, w ∈ LW) (hN : pw_nf t = N) (h8 : t < 8) (hf : f < N) (hr : pw_isR t f = false) (hw : Cond.fieldLink own idx (T f).1 (T f).2.1 (T f).2.2.1 ∈ LW) (hd : decode cc pc = .ok (.getfield idx, 3)) (ht : ph_T h c = t) (kk : PW G X nL Q k n (pc + 3) L (.inl (ph_I h c f) :: S) h) : PW G X nL Q k n pc L (.inr c :: S) h := by
  intro H locs ls hR hS hl
  have hb := hR.in ht (by omega)
  rw [List.map_cons, pw_ref G hb.1]
  have he := pw_at (G := G) hb.1 hb.2
  rw [pw_ce_o ht h8] at he
  exact va_get (D := (G.2.2.1, G.2.2.2.1)) C.1 C.2.1 C.2.2.2.2.1 hin C.2.2.2.1 C.2.2.2.2.2.1 hR.2.2 (c - 2) he hc f hf (C.2.2.2.2.1 _ hw) (fun _ z => z) (v := .int (zI (ph_I h c f))) (by rw [pw_fv_get (by omega), if_neg (by rw [hr]; decide)]) hd (kk H locs ls hR hS hl)
theorem pw_getR (C : pw_Ctx G X cc nL own nm ret rm) {t c f idx N : Nat} {Rn : String} {T : u_T} (hc : vwCl[t]? = some (Rn, T, N)) (hin : ∀ w ∈ u_ws Rn T N, w ∈ LW) (hN : pw_nf t = N) (h8 : t < 8) (hf : f < N) (hr : pw_isR t f = true) (hw : Cond.fieldLink own idx (T f).1 (T f).2.1 (T f).2.2.1 ∈ LW) (hd : decode cc pc = .ok (.getfield idx, 3)) (ht : ph_T h c = t) (kk : PW G X nL Q k n (pc + 3) L (.inr (ph_R h c f) :: S) h) : PW G X nL Q k n pc L (.inr c :: S) h := by
  intro H locs ls hR hS hl
  have hb := hR.in ht (by omega)
  rw [List.map_cons, pw_ref G hb.1]
  have he := pw_at (G := G) hb.1 hb.2
  rw [pw_ce_o ht h8] at he
  exact va_get (D := (G.2.2.1, G.2.2.2.1)) C.1 C.2.1 C.2.2.2.2.1 hin C.2.2.2.1 C.2.2.2.2.2.1 hR.2.2 (c - 2) he hc f hf (C.2.2.2.2.1 _ hw) (fun _ z => z) (v := va_rf (pw_ro G (ph_R h c f))) (by rw [pw_fv_get (by omega), if_pos hr]) hd (kk H locs ls hR hS hl)
theorem pw_keepI {c f : Nat} {x : Int} {H H1 : Heap} {t : Nat} (hR : pw_Rep G h H) (ht : ph_T h c = t) (h14 : t < 14) (hz : H1.size = H.size) (hP : va_P (G.2.2.1, G.2.2.2.1) vwCl ((pw_ws G h).set (c - 2) (G.1 + (c - 2), pw_ce G (ph_setI h c f x) c)) H1) : pw_Rep G (ph_setI h c f x) H1 := by
  have hb := hR.in ht h14
  refine ⟨by rw [hz, hR.1]; rfl, hR.2.1, ?_⟩
  rw [pw_set (h := h) (h' := ph_setI h c f x) rfl hb.1 hb.2 pw_ce_setI]
  exact hP
theorem pw_keepR {c f r : Nat} {H H1 : Heap} {t : Nat} (hR : pw_Rep G h H) (ht : ph_T h c = t) (h14 : t < 14) (hz : H1.size = H.size) (hP : va_P (G.2.2.1, G.2.2.2.1) vwCl ((pw_ws G h).set (c - 2) (G.1 + (c - 2), pw_ce G (ph_setR h c f r) c)) H1) : pw_Rep G (ph_setR h c f r) H1 := by
  have hb := hR.in ht h14
  refine ⟨by rw [hz, hR.1]; rfl, hR.2.1, ?_⟩
  rw [pw_set (h := h) (h' := ph_setR h c f r) rfl hb.1 hb.2 pw_ce_setR]
  exact hP
theorem pw_keepRow {c : Nat} {f : Nat → Int} {H H1 : Heap} {t : Nat} (hR : pw_Rep G h H) (ht : ph_T h c = t) (h14 : t < 14) (hz : H1.size = H.size) (hP : va_P (G.2.2.1, G.2.2.2.1) vwCl ((pw_ws G h).set (c - 2) (G.1 + (c - 2), pw_ce G (ph_rowI h c f) c)) H1) : pw_Rep G (ph_rowI h c f) H1 := by
  have hb := hR.in ht h14
  refine ⟨by rw [hz, hR.1]; rfl, hR.2.1, ?_⟩
  rw [pw_set (h := h) (h' := ph_rowI h c f) rfl hb.1 hb.2 pw_ce_rowI]
  exact hP
theorem pw_iald (C : pw_Ctx G X cc nL own nm ret rm) {c : Nat} {i : Int} (hd : decode cc pc = .ok (.iaload, 1)) (ht : ph_T h c = 8) (h0 : 0 ≤ i) (h1 : i < ph_L h c) (hi : pR i) (kk : PW G X nL Q k n (pc + 1) L (.inl (ph_I h c i.toNat) :: S) h) : PW G X nL Q k n pc L (.inl i :: .inr c :: S) h := by
  intro H locs ls hR hS hl
  have hb := hR.in ht (by omega)
  rw [List.map_cons, List.map_cons, pw_ref G hb.1]
  have he := pw_at (G := G) hb.1 hb.2
  rw [pw_ce_i ht (by omega) (by omega)] at he
  refine va_iald C.1 C.2.1 C.2.2.2.2.2.1 hR.2.2 (c - 2) 0 he rfl (zI_inR h0 h1 hi) hd ?_
  rw [zI_clamp hi]
  exact kk H locs ls hR hS hl
theorem pw_zald (C : pw_Ctx G X cc nL own nm ret rm) {c : Nat} {i : Int} (hd : decode cc pc = .ok (.baload, 1)) (ht : ph_T h c = 9) (h0 : 0 ≤ i) (h1 : i < ph_L h c) (hi : pR i) (kk : PW G X nL Q k n (pc + 1) L (.inl (ph_I h c i.toNat) :: S) h) : PW G X nL Q k n pc L (.inl i :: .inr c :: S) h := by
  intro H locs ls hR hS hl
  have hb := hR.in ht (by omega)
  rw [List.map_cons, List.map_cons, pw_ref G hb.1]
  have he := pw_at (G := G) hb.1 hb.2
  rw [pw_ce_i ht (by omega) (by omega)] at he
  refine va_zald C.1 C.2.1 C.2.2.2.2.2.1 hR.2.2 (c - 2) 1 he rfl (zI_inR h0 h1 hi) hd ?_
  rw [zI_clamp hi]
  exact kk H locs ls hR hS hl
theorem pw_aald (C : pw_Ctx G X cc nL own nm ret rm) {c t : Nat} {i : Int} {En : String} (hd : decode cc pc = .ok (.aaload, 1)) (ht : ph_T h c = t) (h10 : ¬ t < 10) (h14 : t < 14) (hty : (pw_tys G)[t - 8]? = some (G.2.2.2.2 t, .object En)) (h0 : 0 ≤ i) (h1 : i < ph_L h c) (hi : pR i) (kk : PW G X nL Q k n (pc + 1) L (.inr (ph_R h c i.toNat) :: S) h) : PW G X nL Q k n pc L (.inl i :: .inr c :: S) h := by
  intro H locs ls hR hS hl
  have hb := hR.in ht (by omega)
  rw [List.map_cons, List.map_cons, pw_ref G hb.1]
  have he := pw_at (G := G) hb.1 hb.2
  rw [pw_ce_q ht h10] at he
  refine va_aldq C.1 C.2.1 C.2.2.2.2.2.1 hR.2.2 (c - 2) (t - 8) he hty (zI_inR h0 h1 hi) hd ?_
  rw [zI_clamp hi]
  exact kk H locs ls hR hS hl
theorem pw_alen (C : pw_Ctx G X cc nL own nm ret rm) {c : Nat} (hd : decode cc pc = .ok (.arraylength, 1)) (ht : ph_T h c = 8) (kk : PW G X nL Q k n (pc + 1) L (.inl (ph_L h c : Int) :: S) h) : PW G X nL Q k n pc L (.inr c :: S) h := by
  intro H locs ls hR hS hl
  have hb := hR.in ht (by omega)
  rw [List.map_cons, pw_ref G hb.1]
  have he := pw_at (G := G) hb.1 hb.2
  rw [pw_ce_i ht (by omega) (by omega)] at he
  exact va_alen C.1 C.2.1 C.2.2.2.2.2.1 hR.2.2 (c - 2) 0 he (ty := .int) rfl (v := zI (ph_L h c : Int)) rfl hd (kk H locs ls hR hS hl)
/-- the size of the heap is in va_P's cells -/
theorem pw_iast (C : pw_Ctx G X cc nL own nm ret rm) {c : Nat} {i x : Int} (hd : decode cc pc = .ok (.iastore, 1)) (ht : ph_T h c = 8) (h0 : 0 ≤ i) (h1 : i < ph_L h c) (hi : pR i) (kk : PW G X nL Q k n (pc + 1) L S (ph_setI h c i.toNat x)) : PW G X nL Q k n pc L (.inl x :: .inl i :: .inr c :: S) h := by
  intro H locs ls hR hS hl
  have hb := hR.in ht (by omega)
  rw [List.map_cons, List.map_cons, List.map_cons, pw_ref G hb.1]
  have he := pw_at (G := G) hb.1 hb.2
  rw [pw_ce_i ht (by omega) (by omega)] at he
  refine W.iast C.1 C.2.1 (hR.2.2 _ _ he) ((C.2.2.2.2.2.1.2 0 _ rfl).1 _ (fun j => .int (zI (ph_I h c j)))) (fun q => by cases q) (by show ¬ (zI i < 0 ∨ (arrV _ _ _).slots.size ≤ _); rw [arrV_size]; exact zI_inR h0 h1 hi) rfl rfl hd fun H1 e z oq => ?_
  refine kk H1 _ ls (pw_keepI hR ht (by omega) z (hR.2.2.set (pw_D G h) he ?_ oq)) (hS.put z oq (show G.1 ≤ _ by omega)) hl
  rw [pw_ce_i (h := ph_setI h c i.toNat x) ht (by omega) (by omega)]
  show H1[_]? = some (vp_cell _ _)
  rw [e]
  rw [vp_cell_i, vp_cell_i, arrV_store, zI_clamp hi]
  congr 2
  funext q
  by_cases hq : q = i.toNat
  · subst hq
    simp [updV, ph_setI, ph_I]
  · simp [updV, ph_setI, ph_I, hq]
theorem pw_zast (C : pw_Ctx G X cc nL own nm ret rm) {c : Nat} {i x : Int} (hd : decode cc pc = .ok (.bastore, 1)) (ht : ph_T h c = 9) (h0 : 0 ≤ i) (h1 : i < ph_L h c) (hi : pR i) (hx : x = 0 ∨ x = 1) (kk : PW G X nL Q k n (pc + 1) L S (ph_setI h c i.toNat x)) : PW G X nL Q k n pc L (.inl x :: .inl i :: .inr c :: S) h := by
  intro H locs ls hR hS hl
  have hb := hR.in ht (by omega)
  rw [List.map_cons, List.map_cons, List.map_cons, pw_ref G hb.1]
  have he := pw_at (G := G) hb.1 hb.2
  rw [pw_ce_i ht (by omega) (by omega)] at he
  refine W.zast C.1 C.2.1 (hR.2.2 _ _ he) ((C.2.2.2.2.2.1.2 1 _ rfl).1 _ (fun j => .int (zI (ph_I h c j)))) (fun q => by cases q) (by show ¬ (zI i < 0 ∨ (arrV _ _ _).slots.size ≤ _); rw [arrV_size]; exact zI_inR h0 h1 hi) rfl rfl hd fun H1 e z oq => ?_
  refine kk H1 _ ls (pw_keepI hR ht (by omega) z (hR.2.2.set (pw_D G h) he ?_ oq)) (hS.put z oq (show G.1 ≤ _ by omega)) hl
  rw [pw_ce_i (h := ph_setI h c i.toNat x) ht (by omega) (by omega)]
  show H1[_]? = some (vp_cell _ _)
  rw [e]
  rw [vp_cell_i, vp_cell_i, arrV_store, zI_clamp hi]
  congr 2
  funext q
  by_cases hq : q = i.toNat
  · subst hq
    rcases hx with rfl | rfl <;> simp [updV, ph_setI, ph_I] <;> rfl
  · simp [updV, ph_setI, ph_I, hq]
theorem pw_aast (C : pw_Ctx G X cc nL own nm ret rm) {c v t te : Nat} {i : Int} {r : vw_C} (hd : decode cc pc = .ok (.aastore, 1)) (ht : ph_T h c = t) (h10 : ¬ t < 10) (h14 : t < 14) (hty : (pw_tys G)[t - 8]? = some (G.2.2.2.2 t, .object r.1)) (hv : ph_T h v = te) (h8 : te < 8) (hcl : vwCl[te]? = some r) (h0 : 0 ≤ i) (h1 : i < ph_L h c) (hi : pR i) (kk : PW G X nL Q k n (pc + 1) L S (ph_setR h c i.toNat v)) : PW G X nL Q k n pc L (.inr v :: .inl i :: .inr c :: S) h := by
  intro H locs ls hR hS hl
  have hb := hR.in ht (by omega)
  have hbv := hR.in hv (by omega)
  rw [List.map_cons, List.map_cons, List.map_cons, pw_ref G hb.1, pw_ref G hbv.1]
  have he := pw_at (G := G) hb.1 hb.2
  rw [pw_ce_q ht h10] at he
  have hev := pw_at (G := G) hbv.1 hbv.2
  rw [pw_ce_o hv h8] at hev
  have hK := C.2.2.2.2.2.1
  obtain ⟨r', hr', cellV, g1, g2, g3, -⟩ := hR.2.2 _ _ hev
  have hcls := (hK.1 te r hcl).2
  obtain ⟨kA, comp, k1, k2, k3, -⟩ := (hK.2 _ _ hty).2
  have hcomp : comp = G.2.2.1 te := Option.some.inj (k3.symm.trans hcls.1)
  subst hcomp
  obtain ⟨kC, hkC, -⟩ := hcls.2
  refine W.aast C.1 C.2.1 (hR.2.2 _ _ he) (fun q h => by cases h) (fun h => by cases h) k1 k2 rfl hkC ⟨fun q => zI_inR h0 h1 hi (Or.inl q), by show _ < (arrV _ _ _).slots.size; rw [arrV_size]; exact Nat.not_le.mp fun q => zI_inR h0 h1 hi (Or.inr q)⟩ g1 (fun q h => by rw [g3] at h; cases h) (by rw [g2]; exact hkC) (by rw [g2]; exact va_assign hcls) rfl rfl hd fun H1 e z oq => ?_
  refine kk H1 _ ls (pw_keepR hR ht (by omega) z (hR.2.2.set (pw_D G h) he ?_ oq)) (hS.put z oq (show G.1 ≤ _ by omega)) hl
  rw [pw_ce_q (h := ph_setR h c i.toNat v) ht h10]
  show H1[_]? = some (vp_cell _ _)
  rw [e]
  rw [vp_cell_q, vp_cell_q, arrV_store, zI_clamp hi]
  congr 2
  funext q
  by_cases hq : q = i.toNat
  · subst hq
    simp [updV, ph_setR, ph_R, pw_ro2 G hbv.1, va_rf]
  · simp [updV, ph_setR, ph_R, hq]
end PWH
end
section
/-! ROWS: fields written, cells made, the JDK's own, returns -/
section PWP
variable {G : Gx} {X : Cx} {cc : ByteArray} {nL : Nat} {own nm : String} {ret : Option FieldType} {rm : Room} {Q : State → Prop} {k n pc : Nat} {L : List (Option PV)} {S : List PV} {h : PH}
/-- a field is written: the cell behind it, by what is written there -/
theorem pw_putX (C : pw_Ctx G X cc nL own nm ret rm) {t c f idx N : Nat} {Rn : String} {T : u_T} {ty0 : Nat → FieldType} (hc : vwCl[t]? = some (Rn, T, N)) (hin : ∀ w ∈ u_ws Rn T N, w ∈ LW) (hty : ∀ k, k < N → parseFieldDescriptor (T k).2.2.1 = some (ty0 k)) (hnm : ∀ a, a < N → ∀ b, b < N → a ≠ b → (T a).2.1 ≠ (T b).2.1) (hN : pw_nf t = N) (h8 : t < 8) (hf : f < N)
    (hfin : (T f).2.2.2 = false ∨ ((T f).2.2.2 = true ∧ nm = "<init>" ∧ (T f).1 = own))
    (hw : Cond.fieldLink own idx (T f).1 (T f).2.1 (T f).2.2.1 ∈ LW) (hd : decode cc pc = .ok (.putfield idx, 3)) (ht : ph_T h c = t) (v : Value) (hn : narrow (ty0 f) v = v) (hfit : fits (ty0 f) v = true) {h' : PH} (hS' : ph_S h' = ph_S h) (hT' : ∀ d, ph_T h' d = ph_T h d) (ho : ∀ d, d ≠ c → pw_ce G h' d = pw_ce G h d) (hv : pw_fv G h' t c = (pw_fv G h t c).set f v)
    {st : List Value} (H : Heap) (locs : List Loc) (ls : Array Slot) (hR : pw_Rep G h H) (hS : va_S (fun q => G.1 ≤ q) X.2.2.2.2.1.heap H locs)
    (kk : ∀ (H1 : Heap) (locs1 : List Loc), pw_Rep G h' H1 → va_S (fun q => G.1 ≤ q) X.2.2.2.2.1.heap H1 locs1 → W X.1 X.2.1 X.2.2.1 X.2.2.2.1 X.2.2.2.2.1 X.2.2.2.2.2.1 X.2.2.2.2.2.2.1 X.2.2.2.2.2.2.2.1 X.2.2.2.2.2.2.2.2.1 X.2.2.2.2.2.2.2.2.2 H1 locs1 k n Q (F0 X.2.2.2.2.2.1 (pc + 3) ls st)) :
    W X.1 X.2.1 X.2.2.1 X.2.2.2.1 X.2.2.2.2.1 X.2.2.2.2.2.1 X.2.2.2.2.2.2.1 X.2.2.2.2.2.2.2.1 X.2.2.2.2.2.2.2.2.1 X.2.2.2.2.2.2.2.2.2 H locs k n Q (F0 X.2.2.2.2.2.1 pc ls (v :: pw_rv G (.inr c) :: st)) := by
  obtain ⟨hexec, hb, hml, hown, hts, hK, hB, hrm, hNW, hlk, hrt, hnme⟩ := C
  have hbd := hR.in ht (by omega)
  rw [pw_ref G hbd.1]
  have he := pw_at (G := G) hbd.1 hbd.2
  rw [pw_ce_o ht h8] at he
  have hap := va_apart (own := own) hts hin ty0 hty hnm hK hc
  obtain ⟨r, h1, cell, q1, q2, q3, q4⟩ := hR.2.2 _ _ he
  have hr : r = (Rn, T, N) := Option.some.inj (h1.symm.trans hc)
  subst hr
  obtain ⟨hSl, hfc, kC, hkC, hkind⟩ := hK.1 t _ hc
  obtain ⟨cf, kf, fi, fd, hi, hsl⟩ := hSl f hf
  have hst := (u_facts hfc hkC (u_lays hts hin hf) hi).1
  have hlay := hts _ (hin _ (u_in_lay hf))
  unfold u_lay at hlay
  have fin : ∀ (H' : Heap), H'[G.1 + (c - 2)]? = some (cell.setSlot fd.slot v) → H'.size = H.size → (∀ q : Nat, q ≠ G.1 + (c - 2) → H'[q]? = H[q]?) → pw_Rep G h' H' := by
    intro H' e1 e2 e3
    refine ⟨by rw [e2, hR.1, hS'], fun d hd => by rw [hS']; exact hR.2.1 d (by rw [← hT' d]; exact hd), ?_⟩
    rw [pw_set hS' hbd.1 hbd.2 ho]
    rw [pw_ce_o (h := h') (t := t) (by rw [hT' c]; exact ht) h8, hv]
    rw [hsl] at e1
    exact hR.2.2.set (pw_D G h) he ⟨_, hc, t_OB.to (V := updV (vp_V (pw_fv G h t c)) f v) ⟨_, e1, q2, q3, t_set q4 hap hf v⟩ (fun j _ => vp_updV_set (by rw [pw_fv_len]; omega) v j)⟩ e3
  rcases hfin with hfin | ⟨hfin, hini, hdecl⟩
  · rw [if_neg (by rw [hfin]; decide)] at hlay
    have h6 := u_store hfc hkC hkind hlay hi (hty f hf) hn hfit
    refine W.putK hexec hb (f := fd) ⟨hown, hts _ hw, ⟨_, _, _, hi⟩, hst⟩ (by rw [q2]; exact h6) q1 q3 (by rw [hsl]; exact k2_hasslot (q4 f hf)) rfl rfl hd fun H' e1 e2 e3 => ?_
    exact kk H' _ (fin H' e1 e2 e3) (hS.put e2 e3 (show G.1 ≤ _ by omega))
  · rw [if_pos hfin] at hlay
    have hcf : X.2.2.2.2.2.1.cls = cf := by
      obtain ⟨_, _, c', _, _, _, -, -, hf', -, -, -, hown2, -⟩ := Cond.laysFinal_spec hlay
      have e1 : c' = cf := by have := hi.symm.trans hf'; simp at this; exact this.1.symm
      rw [hdecl] at hown2
      rw [← e1]; exact Option.some.inj (hown.symm.trans hown2)
    have h6 := u_fits hfc hkC hkind (Or.inr hlay) hi (hty f hf) hn hfit
    refine W.putFinK hexec hb hown (hts _ hw) hi hst hcf (hnme.trans hini) (by rw [q2]; exact h6) q1 q3 (by rw [hsl]; exact k2_hasslot (q4 f hf)) rfl rfl hd fun H' e1 e2 e3 => ?_
    exact kk H' _ (fin H' e1 e2 e3) (hS.put e2 e3 (show G.1 ≤ _ by omega))
end PWP
end
section
/-! ROWS: fields written, cells made, the JDK's own, returns, calls -/
section PWC
variable {G : Gx} {X : Cx} {cc : ByteArray} {nL : Nat} {own nm : String} {ret : Option FieldType} {rm : Room} {Q : State → Prop} {k n pc : Nat} {L : List (Option PV)} {S : List PV} {h : PH}
theorem pw_putI (C : pw_Ctx G X cc nL own nm ret rm) {t c f idx N : Nat} {Rn : String} {T : u_T} {ty0 : Nat → FieldType} {x : Int} (hc : vwCl[t]? = some (Rn, T, N)) (hin : ∀ w ∈ u_ws Rn T N, w ∈ LW) (hty : ∀ k, k < N → parseFieldDescriptor (T k).2.2.1 = some (ty0 k)) (hnm : ∀ a, a < N → ∀ b, b < N → a ≠ b → (T a).2.1 ≠ (T b).2.1) (hN : pw_nf t = N) (h8 : t < 8) (hf : f < N) (hr : pw_isR t f = false)
    (hfin : (T f).2.2.2 = false ∨ ((T f).2.2.2 = true ∧ nm = "<init>" ∧ (T f).1 = own)) (hi : ty0 f = .int ∨ (ty0 f = .boolean ∧ (x = 0 ∨ x = 1)))
    (hw : Cond.fieldLink own idx (T f).1 (T f).2.1 (T f).2.2.1 ∈ LW) (hd : decode cc pc = .ok (.putfield idx, 3)) (ht : ph_T h c = t) (kk : PW G X nL Q k n (pc + 3) L S (ph_setI h c f x)) : PW G X nL Q k n pc L (.inl x :: .inr c :: S) h := by
  intro H locs ls hR hS hl
  have hn : narrow (ty0 f) (.int (zI x)) = .int (zI x) ∧ fits (ty0 f) (.int (zI x)) = true := by
    rcases hi with e | ⟨e, rfl | rfl⟩ <;> rw [e] <;> exact ⟨rfl, rfl⟩
  exact pw_putX C hc hin hty hnm hN h8 hf hfin hw hd ht (.int (zI x)) hn.1 hn.2 (h' := ph_setI h c f x) rfl (fun _ => rfl) pw_ce_setI (pw_fv_I (by omega) hr) H locs ls hR hS (fun H1 locs1 hR1 hS1 => kk H1 locs1 ls hR1 hS1 hl)
theorem pw_putR (C : pw_Ctx G X cc nL own nm ret rm) {t c f idx N r : Nat} {Rn : String} {T : u_T} {ty0 : Nat → FieldType} (hc : vwCl[t]? = some (Rn, T, N)) (hin : ∀ w ∈ u_ws Rn T N, w ∈ LW) (hty : ∀ k, k < N → parseFieldDescriptor (T k).2.2.1 = some (ty0 k)) (hnm : ∀ a, a < N → ∀ b, b < N → a ≠ b → (T a).2.1 ≠ (T b).2.1) (hN : pw_nf t = N) (h8 : t < 8) (hf : f < N) (hr : pw_isR t f = true)
    (hfin : (T f).2.2.2 = false ∨ ((T f).2.2.2 = true ∧ nm = "<init>" ∧ (T f).1 = own)) (hi : (∃ s, ty0 f = .object s) ∨ ∃ s, ty0 f = .array s)
    (hw : Cond.fieldLink own idx (T f).1 (T f).2.1 (T f).2.2.1 ∈ LW) (hd : decode cc pc = .ok (.putfield idx, 3)) (ht : ph_T h c = t) (kk : PW G X nL Q k n (pc + 3) L S (ph_setR h c f r)) : PW G X nL Q k n pc L (.inr r :: .inr c :: S) h := by
  intro H locs ls hR hS hl
  have hn : narrow (ty0 f) (va_rf (pw_ro G r)) = va_rf (pw_ro G r) ∧ fits (ty0 f) (va_rf (pw_ro G r)) = true := by
    rcases hi with ⟨s, e⟩ | ⟨s, e⟩ <;> rw [e] <;> cases pw_ro G r <;> exact ⟨rfl, rfl⟩
  exact pw_putX C hc hin hty hnm hN h8 hf hfin hw hd ht (va_rf (pw_ro G r)) hn.1 hn.2 (h' := ph_setR h c f r) rfl (fun _ => rfl) pw_ce_setR (pw_fv_R (by omega) hr) H locs ls hR hS (fun H1 locs1 hR1 hS1 => kk H1 locs1 ls hR1 hS1 hl)
theorem pw_Rep_new {H H1 : Heap} {t N : Nat} (hR : pw_Rep G h H) (z : H1.size = H.size + 1) (o : ∀ q, q < H.size → H1[q]? = H[q]?) (hc : va_at (G.2.2.1, G.2.2.2.1) vwCl (G.1 + ph_S h, pw_ce G (ph_new h t N) (ph_S h + 2)) H1) : pw_Rep G (ph_new h t N) H1 := by
  have hold : ∀ d, d ≠ ph_S h + 2 → pw_ce G (ph_new h t N) d = pw_ce G h d := by
    intro d hd
    have hd' : ¬ d = h.1 + 2 := hd
    refine pw_ce_congr ?_ ?_ (fun j => ?_) (fun j => ?_) <;> simp [ph_T, ph_L, ph_I, ph_R, ph_new, hd']
  refine ⟨by rw [z, hR.1]; show _ = G.1 + (h.1 + 1); unfold ph_S; omega, fun c hc => ?_, fun i q hq => ?_⟩
  · by_cases e : c = h.1 + 2
    · subst e
      show 2 ≤ h.1 + 2 ∧ h.1 + 2 < (h.1 + 1) + 2
      omega
    · have hc' : ph_T h c < 14 := by
        have e2 : ph_T (ph_new h t N) c = ph_T h c := by simp [ph_T, ph_new, e]
        rw [← e2]
        exact hc
      have := hR.2.1 c hc'
      show 2 ≤ c ∧ c < (h.1 + 1) + 2
      unfold ph_S at this
      omega
  · have hs : ph_S (ph_new h t N) = ph_S h + 1 := rfl
    simp only [pw_ws, hs, List.getElem?_map] at hq
    by_cases hl : i < ph_S h + 1
    · rw [List.getElem?_range hl] at hq
      cases hq
      by_cases e : i = ph_S h
      · subst e
        exact hc
      · show va_at _ _ (G.1 + i, pw_ce G (ph_new h t N) (i + 2)) _
        rw [hold (i + 2) (by omega)]
        have hi : i < ph_S h := by omega
        have hw : (pw_ws G h)[i]? = some (G.1 + i, pw_ce G h (i + 2)) := by simp [pw_ws, List.getElem?_map, List.getElem?_range hi]
        have := hR.2.2 i _ hw
        exact this.kept (o _ this.lt)
    · rw [List.getElem?_eq_none (by simpa using Nat.not_lt.mp hl)] at hq
      cases hq
theorem pw_new (C : pw_Ctx G X cc nL own nm ret rm) {t idx N : Nat} {Rn : String} {T : u_T} {ty0 : Nat → FieldType} (hc : vwCl[t]? = some (Rn, T, N)) (hin : ∀ w ∈ u_ws Rn T N, w ∈ LW) (hty : ∀ k, k < N → parseFieldDescriptor (T k).2.2.1 = some (ty0 k)) (hN : pw_nf t = N) (h8 : t < 8) (hdef : ∀ j, j < N → defaultValue (ty0 j) = if pw_isR t j = true then .null else .int 0)
    (hcl : Cond.classLink own idx Rn ∈ LW) (hinst : Cond.instantiable Rn N ∈ LW) (hini : Cond.initialized Rn ∈ LW) (hd : decode cc pc = .ok (.new idx, 3)) (hk : k + 1 ≤ rm.cells) (hs : n + N ≤ rm.slots) (kk : PW G X nL Q (k + 1) (n + N) (pc + 3) L (.inr (ph_S h + 2) :: S) (ph_new h t N)) : PW G X nL Q k n pc L S h := by
  intro H locs ls hR hS hl
  obtain ⟨hexec, hb, hml, hown, hts, hK, hB, hrm, hNW, hlk, hrt, hnme⟩ := C
  have hKn := hK.1 t _ hc
  refine W.newcK hexec hb hown (hts _ hcl) (hts _ hinst) (hts _ hini) rfl hd (by rw [hrm]; exact hk) (by rw [hrm]; exact hs) hKn.2.1 hR.1 fun H1 kC hkC e1 z1 o1 => ?_
  have hT2 : ph_T (ph_new h t N) (ph_S h + 2) = t := by simp [ph_T, ph_new, ph_S]
  have hR1 : pw_Rep G (ph_new h t N) H1 := by
    refine pw_Rep_new hR (by rw [z1, hR.1]) (fun q hq => o1 q (by rw [← hR.1]; exact hq)) ?_
    rw [pw_ce_o hT2 h8]
    refine ⟨_, hc, (u_born ty0 hts hin hKn hkC e1 hty).to fun j hj => ?_⟩
    have hj' : j < pw_nf t := by rw [hN]; exact hj
    have e := pw_fv_get (G := G) (h := ph_new h t N) (t := t) (c := ph_S h + 2) (f := j) hj'
    rw [hdef j hj]
    unfold vp_V
    rw [List.getD_eq_getElem?_getD, e]
    have eI : ph_I (ph_new h t N) (ph_S h + 2) j = 0 := by simp [ph_I, ph_new, ph_S]
    have eR : ph_R (ph_new h t N) (ph_S h + 2) j = 0 := by simp [ph_R, ph_new, ph_S]
    rw [eI, eR]
    simp [pw_ro, va_rf]
    rfl
  have hS1 : va_S (fun q => G.1 ≤ q) X.2.2.2.2.1.heap H1 locs := ⟨by have := hS.1; have := hR.1; omega, fun q h1 h2 => (o1 q (by have := hS.1; have := hR.1; omega)).trans (hS.2.1 q h1 h2), hS.2.2⟩
  have := kk H1 locs ls hR1 hS1 hl
  rw [List.map_cons, pw_ref G (by omega), show ph_S h + 2 - 2 = ph_S h by omega] at this
  exact this
theorem pw_newarr (C : pw_Ctx G X cc nL own nm ret rm) {t : Nat} {i : Int} {atype : ArrayType} (h8 : ¬ t < 8) (h10 : t < 10) (hty : (pw_tys G)[t - 8]? = some (G.2.2.2.2 t, newarray.typeOf atype)) (hw : Cond.arrayClass (newarray.typeOf atype) ∈ LW) (hdef : defaultValue (newarray.typeOf atype) = .int 0) (hnm : ∀ U cA, va_RA U cA (newarray.typeOf atype) → U.vm.findClass ("[" ++ (newarray.typeOf atype).toString) = some cA) (hd : decode cc pc = .ok (.newarray atype, 2)) (hi : pR i) (h0 : 0 ≤ i) (hbytes : i.toNat * componentBytes (newarray.typeOf atype) ≤ 536870912) (hk : k + 1 ≤ rm.cells) (hs : n + i.toNat ≤ rm.slots) (kk : PW G X nL Q (k + 1) (n + i.toNat) (pc + 2) L (.inr (ph_S h + 2) :: S) (ph_new h t i.toNat)) : PW G X nL Q k n pc L (.inl i :: S) h := by
  intro H locs ls hR hS hl
  obtain ⟨hexec, hb, hml, hown, hts, hK, hB, hrm, hNW, hlk, hrt, hnme⟩ := C
  refine va_newaK hexec hb (hts _ hw) rfl hd rfl (by show ¬ zI i < 0; rw [show (0 : Int32) = zI 0 from rfl, zI_lt hi (by unfold pR; omega)]; omega) (zI_clamp hi) hbytes (by rw [hrm]; exact hk) (by rw [hrm]; exact hs) hR.1 fun H1 cA e1 z1 o1 hAr hNm => ?_
  have hT2 : ph_T (ph_new h t i.toNat) (ph_S h + 2) = t := by simp [ph_T, ph_new, ph_S]
  have hcA : cA = G.2.2.2.2 t := Option.some.inj (hNm.symm.trans (hnm _ _ (hK.2 _ _ hty).2))
  have hR1 : pw_Rep G (ph_new h t i.toNat) H1 := by
    refine pw_Rep_new hR (by rw [z1, hR.1]) (fun q hq => o1 q (by rw [← hR.1]; exact hq)) ?_
    rw [pw_ce_i hT2 h8 h10]
    show H1[_]? = some (vp_cell _ _)
    rw [e1, hdef, vp_cell_i, hcA]
    have eL : ph_L (ph_new h t i.toNat) (ph_S h + 2) = i.toNat := by simp [ph_L, ph_new, ph_S]
    have eI : ∀ j, ph_I (ph_new h t i.toNat) (ph_S h + 2) j = 0 := fun j => by simp [ph_I, ph_new, ph_S]
    rw [eL]
    simp only [eI]
    rfl
  have hS1 : va_S (fun q => G.1 ≤ q) X.2.2.2.2.1.heap H1 locs := ⟨by have := hS.1; have := hR.1; omega, fun q h1 h2 => (o1 q (by have := hS.1; have := hR.1; omega)).trans (hS.2.1 q h1 h2), hS.2.2⟩
  have := kk H1 locs ls hR1 hS1 hl
  rw [List.map_cons, pw_ref G (by omega), show ph_S h + 2 - 2 = ph_S h by omega] at this
  exact this
theorem pw_anew (C : pw_Ctx G X cc nL own nm ret rm) {t idx : Nat} {i : Int} {En : String} (h10 : ¬ t < 10) (hty : (pw_tys G)[t - 8]? = some (G.2.2.2.2 t, .object En)) (hw : Cond.classLink own idx En ∈ LW) (hAO : va_AO En X.2.2.2.2.1) (hd : decode cc pc = .ok (.anewarray idx, 3)) (hi : pR i) (h0 : 0 ≤ i) (hbytes : i.toNat * 4 ≤ 536870912) (hk : k + 1 ≤ rm.cells) (hs : n + i.toNat ≤ rm.slots) (kk : PW G X nL Q (k + 1) (n + i.toNat) (pc + 3) L (.inr (ph_S h + 2) :: S) (ph_new h t i.toNat)) : PW G X nL Q k n pc L (.inl i :: S) h := by
  intro H locs ls hR hS hl
  obtain ⟨hexec, hb, hml, hown, hts, hK, hB, hrm, hNW, hlk, hrt, hnme⟩ := C
  refine W.anew hexec hb hown (hts _ hw) (va_AO.use hAO) rfl hd rfl (by show ¬ zI i < 0; rw [show (0 : Int32) = zI 0 from rfl, zI_lt hi (by unfold pR; omega)]; omega) (by rw [zI_clamp hi]; exact hbytes) (by rw [hrm]; exact hk) (by rw [hrm, zI_clamp hi]; exact hs) fun cA kA comp f1 f2 f3 f4 => ?_
  rw [zI_clamp hi]
  generalize hH1 : H.push ({ cls := cA, slots := Array.replicate i.toNat .null, vm := .none } : Cell) = H1
  have z1 : H1.size = H.size + 1 := by rw [← hH1, Array.size_push]
  have e1 : H1[H.size]? = some (arrV cA i.toNat (fun _ => .null)) := by rw [← hH1, Array.getElem?_push_size, ← arrV_new]
  have o1 : ∀ q : Nat, q < H.size → H1[q]? = H[q]? := fun q hq => by rw [← hH1, Array.getElem?_push, if_neg (Nat.ne_of_lt hq)]
  have hT2 : ph_T (ph_new h t i.toNat) (ph_S h + 2) = t := by simp [ph_T, ph_new, ph_S]
  obtain ⟨kA', comp', k1, k2, k3, k4⟩ := (hK.2 _ _ hty).2
  have hcA : cA = G.2.2.2.2 t := Option.some.inj (f1.symm.trans k4)
  have hR1 : pw_Rep G (ph_new h t i.toNat) H1 := by
    refine pw_Rep_new hR z1 o1 ?_
    rw [pw_ce_q hT2 h10]
    show H1[_]? = some (vp_cell _ _)
    rw [← hR.1, e1, vp_cell_q, hcA]
    have eL : ph_L (ph_new h t i.toNat) (ph_S h + 2) = i.toNat := by simp [ph_L, ph_new, ph_S]
    have eI : ∀ j, ph_R (ph_new h t i.toNat) (ph_S h + 2) j = 0 := fun j => by simp [ph_R, ph_new, ph_S]
    rw [eL]
    simp only [eI]
    rfl
  have hS1 : va_S (fun q => G.1 ≤ q) X.2.2.2.2.1.heap H1 locs := ⟨by have := hS.1; omega, fun q h1 h2 => (o1 q (by have := hS.1; omega)).trans (hS.2.1 q h1 h2), hS.2.2⟩
  have := kk H1 locs ls hR1 hS1 hl
  rw [List.map_cons, pw_ref G (by omega), show ph_S h + 2 - 2 = ph_S h by omega, ← hR.1] at this
  exact this
theorem pw_sum (S : List PV) : ((S.map (pw_rv G)).map fun v => v.category).sum = S.length := by
  induction S with
  | nil => rfl
  | cons v S ih => rw [List.map_cons, List.map_cons, List.sum_cons, ih, pw_cat, List.length_cons]; omega
theorem pw_abs (C : pw_Ctx G X cc nL own nm ret rm) {idx : Nat} {x : Int} (hw : Cond.methodLink own idx Lib.Math.abs.name ∈ LW) (h1 : Cond.static Lib.Math.abs.name ∈ LW) (h2 : Cond.initialized "java/lang/Math" ∈ LW) (h3 : Cond.code Lib.Math.abs.name Lib.Math.abs.code 1 (some .int) ∈ LW) (hd : decode cc pc = .ok (.invokestatic idx, 3)) (hr : 1 ≤ rm.frames) (hr2 : S.length + 13 ≤ rm.locals) (hk : k ≤ rm.cells) (hs : n ≤ rm.slots) (hx : pR x) (kk : PW G X nL Q k n (pc + 3) L (.inl (if 0 ≤ x then x else -x) :: S) h) : PW G X nL Q k n pc L (.inl x :: S) h := by
  intro H locs ls hR hS hl
  obtain ⟨hexec, hb, hml, hown, hts, hK, hB, hrm, hNW, hlk, hrt, hnme⟩ := C
  refine va_mabs hexec hb (by rw [hml, hl.1]) hown (hts _ hw) (hts _ h1) (hts _ h2) (hts _ h3) (by rw [hrm]; exact hr) (by rw [hrm, pw_sum]; exact hr2) (by rw [hrm]; exact hk) (by rw [hrm]; exact hs) hd ?_
  have e : (if 0 ≤ zI x then zI x else 0 - zI x) = zI (if 0 ≤ x then x else -x) := by
    have h00 : pR 0 := by unfold pR; omega
    by_cases q : 0 ≤ x
    · rw [if_pos (show (0 : Int32) ≤ zI x from (zI_le h00 hx).mpr q), if_pos q]
    · rw [if_neg (show ¬ (0 : Int32) ≤ zI x from fun z => q ((zI_le h00 hx).mp z)), if_neg q, show (0 : Int32) = zI 0 from rfl, zI_sub, Int.zero_sub]
  rw [e]
  exact kk H locs ls hR hS hl
theorem pw_max (C : pw_Ctx G X cc nL own nm ret rm) {idx : Nat} {x y : Int} (hw : Cond.methodLink own idx Lib.Math.max.name ∈ LW) (h1 : Cond.static Lib.Math.max.name ∈ LW) (h2 : Cond.initialized "java/lang/Math" ∈ LW) (h3 : Cond.code Lib.Math.max.name Lib.Math.max.code 2 (some .int) ∈ LW) (hd : decode cc pc = .ok (.invokestatic idx, 3)) (hr : 1 ≤ rm.frames) (hr2 : S.length + 13 ≤ rm.locals) (hk : k ≤ rm.cells) (hs : n ≤ rm.slots) (hx : pR x) (hy : pR y) (kk : PW G X nL Q k n (pc + 3) L (.inl (if x < y then y else x) :: S) h) : PW G X nL Q k n pc L (.inl y :: .inl x :: S) h := by
  intro H locs ls hR hS hl
  obtain ⟨hexec, hb, hml, hown, hts, hK, hB, hrm, hNW, hlk, hrt, hnme⟩ := C
  refine va_mmax hexec hb (by rw [hml, hl.1]) hown (hts _ hw) (hts _ h1) (hts _ h2) (hts _ h3) (by rw [hrm]; exact hr) (by rw [hrm, pw_sum]; exact hr2) (by rw [hrm]; exact hk) (by rw [hrm]; exact hs) hd ?_
  have e : (if zI x < zI y then zI y else zI x) = zI (if x < y then y else x) := by
    by_cases q : x < y
    · rw [if_pos ((zI_lt hx hy).mpr q), if_pos q]
    · rw [if_neg (fun z => q ((zI_lt hx hy).mp z)), if_neg q]
  rw [e]
  exact kk H locs ls hR hS hl
theorem pw_min (C : pw_Ctx G X cc nL own nm ret rm) {idx : Nat} {x y : Int} (hw : Cond.methodLink own idx Lib.Math.min.name ∈ LW) (h1 : Cond.static Lib.Math.min.name ∈ LW) (h2 : Cond.initialized "java/lang/Math" ∈ LW) (h3 : Cond.code Lib.Math.min.name Lib.Math.min.code 2 (some .int) ∈ LW) (hd : decode cc pc = .ok (.invokestatic idx, 3)) (hr : 1 ≤ rm.frames) (hr2 : S.length + 13 ≤ rm.locals) (hk : k ≤ rm.cells) (hs : n ≤ rm.slots) (hx : pR x) (hy : pR y) (kk : PW G X nL Q k n (pc + 3) L (.inl (if y < x then y else x) :: S) h) : PW G X nL Q k n pc L (.inl y :: .inl x :: S) h := by
  intro H locs ls hR hS hl
  obtain ⟨hexec, hb, hml, hown, hts, hK, hB, hrm, hNW, hlk, hrt, hnme⟩ := C
  refine va_mmin hexec hb (by rw [hml, hl.1]) hown (hts _ hw) (hts _ h1) (hts _ h2) (hts _ h3) (by rw [hrm]; exact hr) (by rw [hrm, pw_sum]; exact hr2) (by rw [hrm]; exact hk) (by rw [hrm]; exact hs) hd ?_
  have e : (if zI y < zI x then zI y else zI x) = zI (if y < x then y else x) := by
    by_cases q : y < x
    · rw [if_pos ((zI_lt hy hx).mpr q), if_pos q]
    · rw [if_neg (fun z => q ((zI_lt hy hx).mp z)), if_neg q]
  rw [e]
  exact kk H locs ls hR hS hl
theorem pw_objInit (C : pw_Ctx G X cc nL own nm ret rm) {idx c : Nat} (hc : 2 ≤ c) (hw : Cond.methodLink own idx Lib.objectInit ∈ LW) (h1 : Cond.instanceMethod Lib.objectInit ∈ LW) (h2 : Cond.code Lib.objectInit ⟨#[0xb1]⟩ 1 none ∈ LW) (hd : decode cc pc = .ok (.invokespecial idx, 3)) (hr : 1 ≤ rm.frames) (hr2 : S.length + 12 ≤ rm.locals) (kk : PW G X nL Q k n (pc + 3) L S h) : PW G X nL Q k n pc L (.inr c :: S) h := by
  intro H locs ls hR hS hl
  obtain ⟨hexec, hb, hml, hown, hts, hK, hB, hrm, hNW, hlk, hrt, hnme⟩ := C
  rw [List.map_cons, pw_ref G hc]
  exact W.objInit hexec hb hown (hts _ hw) (hts _ h1) (hts _ h2) rfl (by rw [hml]; exact hl.1) rfl hd (by rw [hrm]; exact hr) (by rw [hrm, pw_sum]; show 2 * 0 + S.length + 12 ≤ _; omega) (kk H locs ls hR hS hl)
theorem pw_ireturn {PQ : Option PV → PH → Prop} {x : Int} (C : pw_Ctx G X cc nL own nm (some .int) rm) (hd : decode cc pc = .ok (.ireturn, 1)) (hq : PQ (some (.inl x)) h) : PW G X nL (pw_E G X PQ k n) k n pc L [.inl x] h := by
  intro H locs ls hR hS hl
  obtain ⟨hexec, hb, hml, hown, hts, hK, hB, hrm, hNW, hlk, hrt, hnme⟩ := C
  exact W.iret hexec hb hrt (fun t ht hW => ⟨⟨some (.inl x), h, rfl, hq, by rw [ht]; exact hR⟩, hS.F ht⟩) hS.2.2 hd hlk
theorem pw_zreturn {PQ : Option PV → PH → Prop} {x : Int} (C : pw_Ctx G X cc nL own nm (some .boolean) rm) (hd : decode cc pc = .ok (.ireturn, 1)) (hx : x = 0 ∨ x = 1) (hq : PQ (some (.inl x)) h) : PW G X nL (pw_E G X PQ k n) k n pc L [.inl x] h := by
  intro H locs ls hR hS hl
  obtain ⟨hexec, hb, hml, hown, hts, hK, hB, hrm, hNW, hlk, hrt, hnme⟩ := C
  exact W.zret hexec hb hrt (by rcases hx with rfl | rfl <;> rfl) (fun t ht hW => ⟨⟨some (.inl x), h, rfl, hq, by rw [ht]; exact hR⟩, hS.F ht⟩) hS.2.2 hd hlk
theorem pw_vreturn {PQ : Option PV → PH → Prop} (C : pw_Ctx G X cc nL own nm none rm) (hd : decode cc pc = .ok (.return_, 1)) (hq : PQ none h) : PW G X nL (pw_E G X PQ k n) k n pc L [] h := by
  intro H locs ls hR hS hl
  obtain ⟨hexec, hb, hml, hown, hts, hK, hB, hrm, hNW, hlk, hrt, hnme⟩ := C
  exact W.vret hexec hb hrt (fun t ht hW => ⟨⟨none, h, rfl, hq, by rw [ht]; exact hR⟩, hS.F ht⟩) hS.2.2 hd hlk
theorem pw_areturn {PQ : Option PV → PH → Prop} {c : Nat} {On : String} (C : pw_Ctx G X cc nL own nm (some (.object On)) rm) (hd : decode cc pc = .ok (.areturn, 1)) (hc : 2 ≤ c) (hq : PQ (some (.inr c)) h) : PW G X nL (pw_E G X PQ k n) k n pc L [.inr c] h := by
  intro H locs ls hR hS hl
  obtain ⟨hexec, hb, hml, hown, hts, hK, hB, hrm, hNW, hlk, hrt, hnme⟩ := C
  exact W.aret hexec hb hrt (Or.inl ⟨_, rfl⟩) (Or.inr ⟨_, pw_ref G hc⟩) (fun t ht hW => ⟨⟨some (.inr c), h, rfl, hq, by rw [ht]; exact hR⟩, hS.F ht⟩) hS.2.2 hd hlk
end PWC
end
section
/-! ROWS: calls, and a contract out of a walk -/
section PWK
variable {G : Gx} {X : Cx} {cc : ByteArray} {nL : Nat} {own nm : String} {ret : Option FieldType} {rm : Room} {Q : State → Prop} {k n pc : Nat} {L : List (Option PV)} {S : List PV} {h : PH}
theorem pw_back {As : List PV} {p : Program} {l : Launch} {e : Env} {R : Room} {s : State} {m : MethodId} {args : Array Value} {below : List Frame} {meth : Method} {c : Code} {H : Heap} {locs : List Loc} {mc ms : Nat} {ls : Array Slot} {st0 rest : List Value} {a : Array Value} {PQ : Option PV → PH → Prop}
    (hr : va_Run p l e R s m args below meth c H locs k n mc ms (F0 m pc ls st0) rest (pw_Qc G PQ a) (fun q => G.1 ≤ q)) (hS : va_S (fun q => G.1 ≤ q) s.heap H locs)
    (kk : ∀ (r : Option PV) (h' : PH) (H1 : Heap) (locs1 : List Loc), PQ r h' → pw_Rep G h' H1 → va_S (fun q => G.1 ≤ q) s.heap H1 locs1 → W p l e R s m args below meth c H1 locs1 (k + mc) (n + ms) Q (F0 m (pc + 3) ls ((r.map (pw_rv G)).toList ++ rest))) :
    W p l e R s m args below meth c H locs k n Q (F0 m pc ls st0) := by
  intro T hT X
  obtain ⟨v, st₀, t, T', Lc, h0, X', hL, e1, e2, ⟨⟨r, h', hv, hp, hb⟩, hz, hk⟩, st⟩ := hr T hT X
  cases hv
  rw [h0] at hz hk
  obtain ⟨t2, a1, b1⟩ := kk r h' T'.heap (locs ++ Lc) hp (by rw [e1]; exact hb)
    ⟨Nat.le_trans hS.1 (by rw [e1]; exact hz), fun q h1 h2 => by rw [e1, hk q (Nat.lt_of_lt_of_le h1 hS.1) h2]; exact hS.2.1 q h1 h2, fun q hq => by
      rcases List.mem_append.mp hq with h | h
      · exact hS.2.2 q h
      · exact hL q h⟩ T' rfl X'
  exact ⟨t2, st t2 a1, b1⟩
theorem pw_blind {As : List PV} : FrameBlind (fun a U => a = (As.map (pw_rv G)).toArray ∧ pw_Rep G h U.heap ∧ va_K (G.2.2.1, G.2.2.2.1) vwCl (pw_tys G) U ∧ pw_NW U) := by
  intro a U g mk q
  obtain ⟨q0, q1, q2, q3⟩ := q
  refine ⟨q0, q1, va_K.moved (u := U) (U := U.calling g mk a) (Vm.Alike.refl U.vm) q2, ?_⟩
  obtain ⟨⟨h1, h2, h3, h4, h5, h6, h7, h8⟩, a1, a2, a3, a4⟩ := q3
  exact ⟨⟨h1.same rfl rfl, h2.same rfl rfl, h3.same rfl rfl, h4.same rfl rfl, h5.same rfl rfl, h6.same rfl rfl, h7.same rfl rfl, h8.same rfl rfl⟩, a1.moved (Vm.Alike.refl U.vm), a2.moved (Vm.Alike.refl U.vm), a3.moved (Vm.Alike.refl U.vm), a4.moved (Vm.Alike.refl U.vm)⟩
theorem pw_map_rev {As : List PV} {v : PV} : (As.reverse ++ v :: S).map (pw_rv G) = (As.map (pw_rv G)).reverse ++ pw_rv G v :: S.map (pw_rv G) := by simp
theorem pw_map_rev0 {As : List PV} : (As.reverse ++ S).map (pw_rv G) = (As.map (pw_rv G)).reverse ++ S.map (pw_rv G) := by simp
theorem pw_toL {r : Option PV} : (r.map (pw_rv G)).toList ++ S.map (pw_rv G) = (r.toList ++ S).map (pw_rv G) := by
  cases r <;> simp
theorem pw_callV (C : pw_Ctx G X cc nL own nm ret rm) {y : MethodName} {cy : ByteArray} {ny fr lo mc ms idx c t N na : Nat} {ry : Option FieldType} {Cn : String} {T : u_T} {As : List PV} {PQ : Option PV → PH → Prop} (hM : CT G X.2.1 y cy ny ry fr lo mc ms (.inr c :: As) h PQ)
    (ht : ph_T h c = t) (h8 : t < 8) (hcl : vwCl[t]? = some (Cn, T, N)) (hl : Cond.methodLink own idx y ∈ LW) (hi : Cond.instanceMethod y ∈ LW) (hse : Cond.selects Cn y y ∈ LW) (hini : Cond.initialized Cn ∈ LW) (hco : Cond.code y cy ny ry ∈ LW)
    (hdy : y.cls = Cn ∧ y.cls ≠ "java/lang/invoke/MethodHandle" ∧ y.cls ≠ "java/lang/invoke/VarHandle" ∧ (parseMethodDescriptor y.desc).map (fun d => d.parameters.length) = some na) (hna : As.length = na)
    (hd : decode cc pc = .ok (.invokevirtual idx, 3)) (hfr : fr + 1 ≤ rm.frames) (hlo : 8 + (ny + 11) + lo ≤ rm.locals) (hk : k + mc ≤ rm.cells) (hs : n + ms ≤ rm.slots) (hS8 : S.length ≤ 8)
    (kk : ∀ r h', PQ r h' → PW G X nL Q (k + mc) (n + ms) (pc + 3) L (r.toList ++ S) h') : PW G X nL Q k n pc L (As.reverse ++ .inr c :: S) h := by
  intro H locs ls hR hS hL
  obtain ⟨hexec, hb, hml, hown, hts, hK, hB, hrm, hNW, hlk, hrt, hnme⟩ := C
  have hbd := hR.in ht (by omega)
  have he := pw_at (G := G) hbd.1 hbd.2
  rw [pw_ce_o ht h8] at he
  rw [pw_map_rev, pw_ref G hbd.1]
  have hG : GoodIn LW (wsV own idx Cn y (.code y cy ny ry :: LW)) := by
    intro w hw
    unfold wsV at hw
    rcases List.mem_append.mp hw with h1 | h1
    · simp only [List.mem_cons, List.not_mem_nil, or_false] at h1
      rcases h1 with rfl | rfl | rfl | rfl
      · exact ⟨hl, good_of_word (List.mem_filter.mp hl).2⟩
      · exact ⟨hi, good_of_word (List.mem_filter.mp hi).2⟩
      · exact ⟨hse, good_of_word (List.mem_filter.mp hse).2⟩
      · exact ⟨hini, good_of_word (List.mem_filter.mp hini).2⟩
    · exact lw_good0 hco w h1
  have run := va_runV (S := ⟨hexec, hb, hml, hown, hts⟩) (hM := hM) (R := X.2.2.2.1) (e := X.2.2.1) (below := X.2.2.2.2.2.2.2.1) (meth := X.2.2.2.2.2.2.2.2.1) (H := H) (locs := locs) (cells := k) (slots := n) (b := G.1 + (c - 2)) (As := As.map (pw_rv G)) (rest := S.map (pw_rv G)) (g := F0 X.2.2.2.2.2.1 pc ls ((As.map (pw_rv G)).reverse ++ .ref (G.1 + (c - 2)) :: S.map (pw_rv G)))
    (cwV na hts hG rfl rfl rfl hdy (by rw [hrm]; exact ⟨hfr, hlo⟩))
    ⟨pw_blind, va_recv hK hR.2.2 hcl he, fun U hU hW => ⟨by rw [List.map_cons, pw_ref G hbd.1], by rw [hU]; exact hR, va_K.moved hW.alike hK, hNW.warm hW⟩⟩ rfl (by rw [List.length_map]; exact hna) hL.1 rfl (lv_room (by rw [pw_sum]; exact hS8)) hd (by rw [hrm]; exact ⟨hk, hs⟩)
  refine pw_back (As := As) run hS fun r h' H1 locs1 hq hR1 hS1 => ?_
  rw [pw_toL]
  exact kk r h' hq H1 locs1 ls hR1 hS1 hL
theorem pw_callS (C : pw_Ctx G X cc nL own nm ret rm) {y : MethodName} {cy : ByteArray} {ny fr lo mc ms idx na : Nat} {ry : Option FieldType} {As : List PV} {PQ : Option PV → PH → Prop} (hM : CT G X.2.1 y cy ny ry fr lo mc ms As h PQ)
    (hl : Cond.methodLink own idx y ∈ LW) (hi : Cond.static y ∈ LW) (hini : Cond.initialized y.cls ∈ LW) (hco : Cond.code y cy ny ry ∈ LW)
    (hdy : y.cls ≠ "java/lang/invoke/MethodHandle" ∧ y.cls ≠ "java/lang/invoke/VarHandle" ∧ (parseMethodDescriptor y.desc).map (fun d => d.parameters.length) = some na) (hna : As.length = na)
    (hd : decode cc pc = .ok (.invokestatic idx, 3)) (hfr : fr + 1 ≤ rm.frames) (hlo : 8 + (ny + 11) + lo ≤ rm.locals) (hk : k + mc ≤ rm.cells) (hs : n + ms ≤ rm.slots) (hS8 : S.length ≤ 8)
    (kk : ∀ r h', PQ r h' → PW G X nL Q (k + mc) (n + ms) (pc + 3) L (r.toList ++ S) h') : PW G X nL Q k n pc L (As.reverse ++ S) h := by
  intro H locs ls hR hS hL
  obtain ⟨hexec, hb, hml, hown, hts, hK, hB, hrm, hNW, hlk, hrt, hnme⟩ := C
  rw [pw_map_rev0]
  have hG : GoodIn LW (va_wsS own idx y (.code y cy ny ry :: LW)) := by
    intro w hw
    unfold va_wsS at hw
    rcases List.mem_append.mp hw with h1 | h1
    · simp only [List.mem_cons, List.not_mem_nil, or_false] at h1
      rcases h1 with rfl | rfl | rfl
      · exact ⟨hl, good_of_word (List.mem_filter.mp hl).2⟩
      · exact ⟨hi, good_of_word (List.mem_filter.mp hi).2⟩
      · exact ⟨hini, good_of_word (List.mem_filter.mp hini).2⟩
    · exact lw_good0 hco w h1
  have run := va_runS (S := ⟨hexec, hb, hml, hown, hts⟩) (hM := hM) (R := X.2.2.2.1) (e := X.2.2.1) (below := X.2.2.2.2.2.2.2.1) (meth := X.2.2.2.2.2.2.2.2.1) (H := H) (locs := locs) (cells := k) (slots := n) (As := As.map (pw_rv G)) (rest := S.map (pw_rv G)) (g := F0 X.2.2.2.2.2.1 pc ls ((As.map (pw_rv G)).reverse ++ S.map (pw_rv G)))
    (va_cwS na hts hG rfl rfl rfl hdy (by rw [hrm]; exact ⟨hfr, hlo⟩))
    ⟨pw_blind, fun U hU hW => ⟨rfl, by rw [hU]; exact hR, va_K.moved hW.alike hK, hNW.warm hW⟩⟩ rfl (by rw [List.length_map]; exact hna) hL.1 rfl (lv_room (by rw [pw_sum]; exact hS8)) hd (by rw [hrm]; exact ⟨hk, hs⟩)
  refine pw_back (As := As) run hS fun r h' H1 locs1 hq hR1 hS1 => ?_
  rw [pw_toL]
  exact kk r h' hq H1 locs1 ls hR1 hS1 hL
theorem pw_callSN (C : pw_Ctx G X cc nL own nm ret rm) {y : MethodName} {cy : ByteArray} {ny fr lo mc ms idx na : Nat} {ry : Option FieldType} {host : String} {As : List PV} {PQ : Option PV → PH → Prop} (hM : CT G X.2.1 y cy ny ry fr lo mc ms As h PQ)
    (hl : va_Nw (.methodLinkNest own idx y host) X.2.2.2.2.1) (hi : Cond.static y ∈ LW) (hini : Cond.initialized y.cls ∈ LW) (hco : Cond.code y cy ny ry ∈ LW)
    (hdy : y.cls ≠ "java/lang/invoke/MethodHandle" ∧ y.cls ≠ "java/lang/invoke/VarHandle" ∧ (parseMethodDescriptor y.desc).map (fun d => d.parameters.length) = some na) (hna : As.length = na)
    (hd : decode cc pc = .ok (.invokestatic idx, 3)) (hfr : fr + 1 ≤ rm.frames) (hlo : 8 + (ny + 11) + lo ≤ rm.locals) (hk : k + mc ≤ rm.cells) (hs : n + ms ≤ rm.slots) (hS8 : S.length ≤ 8)
    (kk : ∀ r h', PQ r h' → PW G X nL Q (k + mc) (n + ms) (pc + 3) L (r.toList ++ S) h') : PW G X nL Q k n pc L (As.reverse ++ S) h := by
  intro H locs ls hR hS hL
  obtain ⟨hexec, hb, hml, hown, hts, hK, hB, hrm, hNW, hlk, hrt, hnme⟩ := C
  rw [pw_map_rev0]
  have run := va_runSN (S := ⟨hexec, hb, hml, hown, hts⟩) (hM := hM) (R := X.2.2.2.1) (e := X.2.2.1) (below := X.2.2.2.2.2.2.2.1) (meth := X.2.2.2.2.2.2.2.2.1) (H := H) (locs := locs) (cells := k) (slots := n) (As := As.map (pw_rv G)) (rest := S.map (pw_rv G)) (g := F0 X.2.2.2.2.2.1 pc ls ((As.map (pw_rv G)).reverse ++ S.map (pw_rv G)))
    ⟨va_cnB na hts (lw_good0 hco) rfl rfl rfl hl (hts _ hini) hdy (by rw [hrm]; exact ⟨hfr, hlo⟩), hts _ hi, trivial⟩
    ⟨pw_blind, fun U hU hW => ⟨rfl, by rw [hU]; exact hR, va_K.moved hW.alike hK, hNW.warm hW⟩⟩ rfl (by rw [List.length_map]; exact hna) hL.1 rfl (lv_room (by rw [pw_sum]; exact hS8)) hd (by rw [hrm]; exact ⟨hk, hs⟩)
  refine pw_back (As := As) run hS fun r h' H1 locs1 hq hR1 hS1 => ?_
  rw [pw_toL]
  exact kk r h' hq H1 locs1 ls hR1 hS1 hL
theorem pw_callI (C : pw_Ctx G X cc nL own nm ret rm) {y : MethodName} {cy : ByteArray} {ny fr lo mc ms idx c na : Nat} {As : List PV} {PQ : Option PV → PH → Prop} (hM : CT G X.2.1 y cy ny none fr lo mc ms (.inr c :: As) h PQ)
    (hc : 2 ≤ c) (hl : Cond.methodLink own idx y ∈ LW) (hi : Cond.instanceMethod y ∈ LW) (hini : Cond.initialized y.cls ∈ LW) (hco : Cond.code y cy ny none ∈ LW) (hyn : y.name = "<init>")
    (hdy : y.cls ≠ "java/lang/invoke/MethodHandle" ∧ y.cls ≠ "java/lang/invoke/VarHandle" ∧ (parseMethodDescriptor y.desc).map (fun d => d.parameters.length) = some na) (hna : As.length = na)
    (hd : decode cc pc = .ok (.invokespecial idx, 3)) (hfr : fr + 1 ≤ rm.frames) (hlo : 8 + (ny + 11) + lo ≤ rm.locals) (hk : k + mc ≤ rm.cells) (hs : n + ms ≤ rm.slots) (hS8 : S.length ≤ 8)
    (kk : ∀ r h', PQ r h' → PW G X nL Q (k + mc) (n + ms) (pc + 3) L (r.toList ++ S) h') : PW G X nL Q k n pc L (As.reverse ++ .inr c :: S) h := by
  intro H locs ls hR hS hL
  obtain ⟨hexec, hb, hml, hown, hts, hK, hB, hrm, hNW, hlk, hrt, hnme⟩ := C
  rw [pw_map_rev, pw_ref G hc]
  have run := va_runI (S := ⟨hexec, hb, hml, hown, hts⟩) (hM := hM) (R := X.2.2.2.1) (e := X.2.2.1) (below := X.2.2.2.2.2.2.2.1) (meth := X.2.2.2.2.2.2.2.2.1) (H := H) (locs := locs) (cells := k) (slots := n) (b := G.1 + (c - 2)) (As := As.map (pw_rv G)) (rest := S.map (pw_rv G)) (g := F0 X.2.2.2.2.2.1 pc ls ((As.map (pw_rv G)).reverse ++ .ref (G.1 + (c - 2)) :: S.map (pw_rv G)))
    (cwI na hts (lw_good0 hco) rfl rfl rfl (hts _ hini) (hts _ hl) (hts _ hi) hyn hdy (by rw [hrm]; exact ⟨hfr, hlo⟩))
    ⟨pw_blind, fun U hU hW => ⟨by rw [List.map_cons, pw_ref G hc], by rw [hU]; exact hR, va_K.moved hW.alike hK, hNW.warm hW⟩⟩ rfl (by rw [List.length_map]; exact hna) hL.1 rfl (lv_room (by rw [pw_sum]; exact hS8)) hd (by rw [hrm]; exact ⟨hk, hs⟩)
  refine pw_back (As := As) (a := (Value.ref (G.1 + (c - 2)) :: As.map (pw_rv G)).toArray) run hS fun r h' H1 locs1 hq hR1 hS1 => ?_
  rw [pw_toL]
  exact kk r h' hq H1 locs1 ls hR1 hS1 hL
theorem pw_callIN (C : pw_Ctx G X cc nL own nm ret rm) {y : MethodName} {cy : ByteArray} {ny fr lo mc ms idx c na : Nat} {host : String} {As : List PV} {PQ : Option PV → PH → Prop} (hM : CT G X.2.1 y cy ny none fr lo mc ms (.inr c :: As) h PQ)
    (hc : 2 ≤ c) (hl : va_Nw (.methodLinkNest own idx y host) X.2.2.2.2.1) (hi : Cond.instanceMethod y ∈ LW) (hini : Cond.initialized y.cls ∈ LW) (hco : Cond.code y cy ny none ∈ LW) (hyn : y.name = "<init>")
    (hdy : y.cls ≠ "java/lang/invoke/MethodHandle" ∧ y.cls ≠ "java/lang/invoke/VarHandle" ∧ (parseMethodDescriptor y.desc).map (fun d => d.parameters.length) = some na) (hna : As.length = na)
    (hd : decode cc pc = .ok (.invokespecial idx, 3)) (hfr : fr + 1 ≤ rm.frames) (hlo : 8 + (ny + 11) + lo ≤ rm.locals) (hk : k + mc ≤ rm.cells) (hs : n + ms ≤ rm.slots) (hS8 : S.length ≤ 8)
    (kk : ∀ r h', PQ r h' → PW G X nL Q (k + mc) (n + ms) (pc + 3) L (r.toList ++ S) h') : PW G X nL Q k n pc L (As.reverse ++ .inr c :: S) h := by
  intro H locs ls hR hS hL
  obtain ⟨hexec, hb, hml, hown, hts, hK, hB, hrm, hNW, hlk, hrt, hnme⟩ := C
  rw [pw_map_rev, pw_ref G hc]
  have run := va_runIN (S := ⟨hexec, hb, hml, hown, hts⟩) (hM := hM) (R := X.2.2.2.1) (e := X.2.2.1) (below := X.2.2.2.2.2.2.2.1) (meth := X.2.2.2.2.2.2.2.2.1) (H := H) (locs := locs) (cells := k) (slots := n) (b := G.1 + (c - 2)) (As := As.map (pw_rv G)) (rest := S.map (pw_rv G)) (g := F0 X.2.2.2.2.2.1 pc ls ((As.map (pw_rv G)).reverse ++ .ref (G.1 + (c - 2)) :: S.map (pw_rv G)))
    ⟨va_cnB na hts (lw_good0 hco) rfl rfl rfl hl (hts _ hini) hdy (by rw [hrm]; exact ⟨hfr, hlo⟩), hyn, hts _ hi⟩
    ⟨pw_blind, fun U hU hW => ⟨by rw [List.map_cons, pw_ref G hc], by rw [hU]; exact hR, va_K.moved hW.alike hK, hNW.warm hW⟩⟩ rfl (by rw [List.length_map]; exact hna) hL.1 rfl (lv_room (by rw [pw_sum]; exact hS8)) hd (by rw [hrm]; exact ⟨hk, hs⟩)
  refine pw_back (As := As) (a := (Value.ref (G.1 + (c - 2)) :: As.map (pw_rv G)).toArray) run hS fun r h' H1 locs1 hq hR1 hS1 => ?_
  rw [pw_toL]
  exact kk r h' hq H1 locs1 ls hR1 hS1 hL
/-- a contract out of a walk -/
theorem pw_entry (G : Gx) (As : List PV) (nL : Nat) (hn : As.length ≤ nL) : pw_LR G ((lg_sl (As.map (pw_rv G)) ++ List.replicate (nL - (lg_sl (As.map (pw_rv G))).length) Slot.unset).toArray) nL (As.map some ++ List.replicate (nL - As.length) none) := by
  have e : lg_sl (As.map (pw_rv G)) = (As.map (fun v => Slot.val (pw_rv G v))) := by
    unfold lg_sl
    rw [List.flatMap_map]
    induction As with
    | nil => rfl
    | cons v As ih =>
      rw [List.flatMap_cons, List.map_cons, pw_cat]
      have := ih (by simp at hn; omega)
      rw [this]
      rfl
  have hl : (lg_sl (As.map (pw_rv G))).length ≤ nL := by rw [e]; simpa using hn
  have hL := lv_entry (As.map (pw_rv G)) (n := nL) hl
  refine ⟨hL.1, hL.2.1, fun i v hi => ?_⟩
  by_cases hlt : i < As.length
  · rw [List.getElem?_append_left (by simpa using hlt)] at hi
    simp only [List.getElem?_map] at hi
    rw [e]
    simp only [List.getElem?_toArray]
    rw [List.getElem?_append_left (by simpa using hlt), List.getElem?_map]
    cases hA : As[i]? with
    | none => rw [hA] at hi; cases hi
    | some w =>
      rw [hA] at hi
      simp only [Option.map_some, Option.some.injEq] at hi
      subst hi
      rfl
  · rw [List.getElem?_append_right (by simpa using Nat.not_lt.mp hlt)] at hi
    have := List.mem_of_getElem? hi
    have := (List.mem_replicate.mp this).2
    cases this
theorem ct_intro {l : Launch} {y : MethodName} {cy : ByteArray} {ny fr lo mc ms : Nat} {ry : Option FieldType} {As : List PV} {PQ : Option PV → PH → Prop} (hp : plainName y.cls = true) (hn : As.length ≤ ny)
    (body : ∀ X : Cx, X.2.1 = l → pw_Ctx G X cy ny y.cls y.name ry { frames := fr, cells := mc, slots := ms, locals := lo } → PW G X ny (pw_E G X PQ mc ms) 0 0 0 (As.map some ++ List.replicate (ny - As.length) none) [] h) : CT G l y cy ny ry fr lo mc ms As h PQ := by
  refine Met.ofW (cc := cy) (maxL := ny) (ret := ry) hp rfl ?_
  intro p e s m args below meth c s₁ B hml hv
  obtain ⟨rfl, hR, hK, hNW⟩ := hv
  have hts := atoms_spec (ws := .code y cy ny ry :: LW) B.pre
  have hh := body (p, l, e, { frames := fr, cells := mc, slots := ms, locals := lo }, s, m, (As.map (pw_rv G)).toArray, below, meth, c) rfl ⟨B.exec, B.bytes, hml, findClass_of_methodNamed B.named, fun w hw => hts w (List.mem_cons_of_mem _ hw), hK, by have := hR.1; show G.1 ≤ s.heap.size; omega, rfl, hNW, B.notSynchronized, B.returns, (name_of_methodNamed B.named B.method).1⟩
  rw [lg_entry_eq]
  exact hh s.heap [] _ hR va_S.rf (pw_entry G As ny hn)
end PWK
end
